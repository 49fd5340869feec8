/-! THE START: the two objects made; the invariant there -/
def nbB (x : Int32) (n : Nat) : Bool := decide (x = Int32.ofNat (tn x)) && decide (tn x ≤ n)
theorem nbB_spec {x : Int32} {n : Nat} (e : nbB x n = true) : nb x n := by
  unfold nbB at e
  rw [Bool.and_eq_true, decide_eq_true_eq, decide_eq_true_eq] at e
  exact ⟨tn x, e.1, e.2⟩
def eqB (x y : Int32) : Bool := decide (x = y)
theorem eqB_spec {x y : Int32} (e : eqB x y = true) : x = y := of_decide_eq_true e
def allB (n : Nat) (f : Nat → Bool) : Bool := (List.range n).all f
theorem allB_spec {n : Nat} {f : Nat → Bool} (e : allB n f = true) {i : Nat} (hi : i < n) : f i = true := List.all_eq_true.mp e i (List.mem_range.mpr hi)
def ivY (h : z_H) : Bool := nbB (fI h 1 8) 6 && nbB (fI h 1 9) 33554431 && nbB (fI h 1 10) 6 && eqB (fI h 1 11) 0 && eqB (fI h 1 12) (-1) && allB 6 (fun i => nbB (aI h 2 i) 24 && nbB (aI h 3 i) 3 && nbB (aI h 4 i) 9 && nbB (aI h 7 i) 3 && nbB (aI h 8 i) 99) && allB 24 (fun i => nbB (aI h 5 i) 99) && nbB (aI h 6 0) 999 && nbB (aI h 6 1) 10 && nbB (aI h 6 2) 9
def ivE (h : z_H) : Bool := eqB (aI h 83 0) (fI h 1 8) && eqB (aI h 83 4) (fI h 1 9) && eqB (aI h 83 1) (fI h 1 10) && eqB (aI h 83 2) (fI h 1 11) && eqB (aI h 83 3) (fI h 1 12) && allB 6 (fun i => eqB (aI h 83 (8 + i)) (aI h 2 i) && eqB (aI h 83 (14 + i)) (aI h 3 i) && eqB (aI h 83 (44 + i)) (aI h 4 i) && eqB (aI h 83 (50 + 2 * i)) (aI h 7 i) && eqB (aI h 83 (51 + 2 * i)) (aI h 8 i)) && allB 24 (fun i => eqB (aI h 83 (20 + i)) (aI h 5 i)) && allB 3 (fun i => eqB (aI h 83 (5 + i)) (aI h 6 i))
def ivT (h : z_H) : Bool := allB 6 (fun k => (aQ h 9 k).isNone) && eqB (fI h 81 8) 0 && eqB (fI h 21 1) 0 && eqB (fI h 0 13) (fI h 81 1) && eqB (fI h 0 14) (fI h 81 11) && allB 7 (fun i => eqB (aI h 62 i) (aI h 82 i)) && eqB (fI h 23 2) (fI h 81 13) && nbB (fI h 23 2) 400 && allB 400 (fun i => eqB (aI h 24 i) (aI h 90 i) && nbB (aI h 24 i) 255) && eqB (fI h 23 3) (fI h 81 18) && eqB (fI h 34 6) (fI h 81 54) && eqB (fI h 81 20) 0
def ivI (h : z_H) : Bool := decide (aQ h 10 0 = some 63) && decide (aQ h 10 1 = some 72) && allB 2 (fun k => eqB (aI h 11 k) (aI h 85 k) && eqB (aI h 11 k) 0) && eqB (fI h 81 58) (-1) && eqB (fI h 12 8) 0 && allB 9 (fun i => decide (aJ h 96 i = [525618, 408612, 525908, 769614, 24, 25, 23609, 4153, 441828].getD i 0)) && allB 8 (fun i => decide (aJ h 97 i = [4153, 146885, 404362868, 16819795, 24162707, 103820, 20965, 267436].getD i 0)) && allB 3 (fun i => decide (aJ h 98 i = [24282707, 407951539, 67155].getD i 0)) && allB 5 (fun i => decide (aJ h 111 i = [643248, 677454, 16832101, 431556, 525939].getD i 0))
theorem any_get {A : Option z_H} {b : z_H → Bool} (e : A.any b = true) : ∃ p, A = some p ∧ b p = true := by
  cases A with
  | none => cases e
  | some p => exact ⟨p, rfl, e⟩
theorem h_A2 : h_A.any (fun p => p.1 == 81) = true := by decide +kernel
theorem h_B2 : h_B.any (fun q => (q.1 == 114 && shOK q && decide (q.2.1 ≤ 100000)) && (ivY q && ivE q && (ivT q && ivI q))) = true := by decide +kernel
theorem iv_spec {h : z_H} (h1 : h.1 = 114) (hs : Sh h) (h2 : h.2.1 ≤ 100000) (y : ivY h = true) (e : ivE h = true) (t : ivT h = true) (i : ivI h = true) : Inv 0 h := by
  unfold ivY at y
  unfold ivE at e
  unfold ivT at t
  unfold ivI at i
  simp only [Bool.and_eq_true] at y e t i
  obtain ⟨⟨⟨⟨⟨⟨⟨⟨⟨y1, y2⟩, y3⟩, y4⟩, y5⟩, y6⟩, y7⟩, y8⟩, y9⟩, y10⟩ := y
  obtain ⟨⟨⟨⟨⟨⟨⟨e1, e2⟩, e3⟩, e4⟩, e5⟩, e6⟩, e7⟩, e8⟩ := e
  obtain ⟨⟨⟨⟨⟨⟨⟨⟨⟨⟨⟨t1, t2⟩, t3⟩, t4⟩, t5⟩, t6⟩, t7⟩, t8⟩, t9⟩, t10⟩, t11⟩, t12⟩ := t
  obtain ⟨⟨⟨⟨⟨⟨⟨⟨i1, i2⟩, i3⟩, i4⟩, i5⟩, i6⟩, i7⟩, i8⟩, i9⟩ := i
  have y4' := eqB_spec y4
  have tn0 : tn (fI h 1 11) = 0 := by rw [y4']; rfl
  refine ⟨hs, ⟨by omega, by omega⟩, ⟨⟨nbB_spec y1, nbB_spec y2, nbB_spec y3, by rw [y4']; exact ⟨0, rfl, by decide⟩, Or.inl (eqB_spec y5), fun k hk => ?_, fun k hk => nbB_spec (allB_spec y7 hk), nbB_spec y8, nbB_spec y9, nbB_spec y10⟩, ⟨eqB_spec e1, eqB_spec e2, eqB_spec e3, eqB_spec e4, eqB_spec e5, fun k hk => ?_, fun k hk => eqB_spec (allB_spec e7 hk), fun k hk => eqB_spec (allB_spec e8 hk)⟩, fun k hk => Or.inl ?_, fun k hk => ?_⟩, ⟨?_, ?_, fun k hk => ?_⟩, ⟨eqB_spec t4, eqB_spec t5, fun k hk => eqB_spec (allB_spec t6 hk), eqB_spec t7, nbB_spec t8, fun k hk => ?_, eqB_spec t10, eqB_spec t11, eqB_spec t12⟩, ⟨of_decide_eq_true i1, of_decide_eq_true i2, fun k hk => ?_⟩, Or.inl ⟨eqB_spec i4, eqB_spec i5⟩, ⟨fun k hk => of_decide_eq_true (allB_spec i6 hk), fun k hk => of_decide_eq_true (allB_spec i7 hk), fun k hk => of_decide_eq_true (allB_spec i8 hk), fun k hk => of_decide_eq_true (allB_spec i9 hk)⟩⟩
  · have q := allB_spec y6 hk
    simp only [Bool.and_eq_true] at q
    obtain ⟨⟨⟨⟨a, b⟩, c⟩, d⟩, f⟩ := q
    exact ⟨nbB_spec a, nbB_spec b, nbB_spec c, nbB_spec d, nbB_spec f⟩
  · have q := allB_spec e6 hk
    simp only [Bool.and_eq_true] at q
    obtain ⟨⟨⟨⟨a, b⟩, c⟩, d⟩, f⟩ := q
    exact ⟨eqB_spec a, eqB_spec b, eqB_spec c, eqB_spec d, eqB_spec f⟩
  · have q := allB_spec t1 hk
    exact Option.isNone_iff_eq_none.mp q
  · rw [tn0] at hk; omega
  · rw [eqB_spec t2, eqB_spec t3]
  · rw [eqB_spec t3]; exact ⟨0, rfl, by decide⟩
  · rw [eqB_spec t3] at hk
    exact absurd hk (Nat.not_lt_zero _)
  · have q := allB_spec t9 hk
    rw [Bool.and_eq_true] at q
    exact ⟨eqB_spec q.1, nbB_spec q.2⟩
  · have q := allB_spec i3 hk
    rw [Bool.and_eq_true] at q
    exact ⟨eqB_spec q.1, Or.inl (eqB_spec q.2)⟩
/-- on every script the law's function comes to 1, within its room -/
theorem law_all {L : Nat} {xs : Nat → Int32} (hL : L ≤ 3072) : ∃ hF : z_H, D_L_law (L, xs) z_0 = some (1, hF) ∧ hF.1 ≤ 600000 ∧ hF.2.1 ≤ 7302250 := by
  obtain ⟨p, eA, p81⟩ := any_get h_A2
  obtain ⟨q, eB, qB⟩ := any_get h_B2
  have eA' : D_X10_init (z_new z_0 15 (.inr (10, [.null, .null, .null, .null, .null, .null, .null, .null, .null, .null, .null, .null, .null, .int 0, .int 0]))) (some z_0.1) = some p := by
    have e := eA
    unfold h_A at e
    exact e
  have eB' : D_X11_init (z_new p 59 (.inr (11, [.int 0, .int 0, .null, .null, .null, .null, .null, .null, .int 0, .null, .null, .int 0, .null, .int 0, .int 0, .int 0, .int 0, .long 0, .int 0, .int 0, .int 0, .int 0, .null, .int 0, .null, .null, .int 0, .null, .null, .int 0, .int 0, .null, .null, .null, .int 0, .null, .null, .null, .int 0, .long 0, .long 0, .null, .null, .null, .null, .null, .null, .null, .null, .null, .null, .null, .int 0, .int 0, .int 0, .int 0, .long 0, .null, .int 0]))) (some p.1) = some q := by
    unfold h_B at eB
    rw [eA, Option.bind_some] at eB
    exact eB
  have p81' : p.1 = 81 := by simpa using p81
  simp only [Bool.and_eq_true] at qB
  obtain ⟨⟨⟨q1, q2⟩, q3⟩, ⟨⟨q4, q5⟩, ⟨q6, q7⟩⟩⟩ := qB
  have q1' : q.1 = 114 := by simpa using q1
  have I0 : Inv 0 q := iv_spec q1' (shOK_spec (by omega) q2) (of_decide_eq_true q3) q4 q5 q6 q7
  obtain ⟨hF, j', d, IF, le⟩ := law_loop (I := Inv) calls43 hL (xs := xs) z_F 0 q I0 (by omega) (by show _ < 6 * (0 + 1000000); omega)
  refine ⟨hF, ?_, ?_, ?_⟩
  · unfold D_L_law
    rw [Option.bind_some, eA', Option.bind_some, Option.bind_some, eB', Option.bind_some, p81']
    exact d
  · have := IF.2.1.1; omega
  · have := IF.2.1.2; omega
