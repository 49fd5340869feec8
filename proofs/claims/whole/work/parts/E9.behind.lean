/-! behind a SUM, behind a TEST: the reference -/
section S9
variable {tp : Nat → Nat} {L : Nat} {ord : Bool} {h0 h : z_H} {p n w od n' : Nat} {K Ka K' Ka' : Nat → Int32} {P P' : List (Nat × Nat)}
theorem b01_if {α : Sort _} (b : Bool) (X Y : α) : (if b01 b = 0 then X else Y) = if b = true then Y else X := by cases b <;> rfl
/-- the joining sign that stands here -/
def arO (tp : Nat → Nat) (L p : Nat) : Option Nat := if isSg tp L p 43 = true then some 20 else if isSg tp L p 45 = true then some 21 else if isSg tp L p 42 = true then some 22 else if isSg tp L p 47 = true then some 23 else if isSg tp L p 37 = true then some 24 else none
theorem arO_b {o : Nat} (h : arO tp L p = some o) (hp : p ≤ L) : 20 ≤ o ∧ o ≤ 24 ∧ p < L ∧ p < tkN tp L p ∧ tkN tp L p ≤ L := by
  unfold arO at h
  by_cases c1 : isSg tp L p 43 = true
  · rw [if_pos c1] at h; cases h; exact ⟨by omega, by omega, isSg_lt c1 hp⟩
  rw [if_neg c1] at h
  by_cases c2 : isSg tp L p 45 = true
  · rw [if_pos c2] at h; cases h; exact ⟨by omega, by omega, isSg_lt c2 hp⟩
  rw [if_neg c2] at h
  by_cases c3 : isSg tp L p 42 = true
  · rw [if_pos c3] at h; cases h; exact ⟨by omega, by omega, isSg_lt c3 hp⟩
  rw [if_neg c3] at h
  by_cases c4 : isSg tp L p 47 = true
  · rw [if_pos c4] at h; cases h; exact ⟨by omega, by omega, isSg_lt c4 hp⟩
  rw [if_neg c4] at h
  by_cases c5 : isSg tp L p 37 = true
  · rw [if_pos c5] at h; cases h; exact ⟨by omega, by omega, isSg_lt c5 hp⟩
  rw [if_neg c5] at h; cases h
theorem m_bs (H : MSt tp L ord h0 h p n K Ka P w od) (l1 : Int32) : D_X11_behindSum h (some 81) l1 = D_X11_behindSum_71 h (some 81) l1 (enc (arO tp L p)) := by
  have o := o81 H.sh
  have s1 : D_X11_isSign h (some 81) 43 = some (b01 (isSg tp L p 43), h) := H.sg (c := 43) (by decide)
  have s2 : D_X11_isSign h (some 81) 45 = some (b01 (isSg tp L p 45), h) := H.sg (c := 45) (by decide)
  have s3 : D_X11_isSign h (some 81) 42 = some (b01 (isSg tp L p 42), h) := H.sg (c := 42) (by decide)
  have s4 : D_X11_isSign h (some 81) 47 = some (b01 (isSg tp L p 47), h) := H.sg (c := 47) (by decide)
  have s5 : D_X11_isSign h (some 81) 37 = some (b01 (isSg tp L p 37), h) := H.sg (c := 37) (by decide)
  unfold D_X11_behindSum arO
  simp only [o, s1, s2, s3, s4, s5, Option.bind_some, b01_if]
  by_cases c1 : isSg tp L p 43 = true
  · rw [if_pos c1, if_pos c1]; rfl
  rw [if_neg c1, if_neg c1]
  by_cases c2 : isSg tp L p 45 = true
  · rw [if_pos c2, if_pos c2]; rfl
  rw [if_neg c2, if_neg c2]
  by_cases c3 : isSg tp L p 42 = true
  · rw [if_pos c3, if_pos c3]; rfl
  rw [if_neg c3, if_neg c3]
  by_cases c4 : isSg tp L p 47 = true
  · rw [if_pos c4, if_pos c4]; rfl
  rw [if_neg c4, if_neg c4]
  by_cases c5 : isSg tp L p 37 = true
  · rw [if_pos c5, if_pos c5]; rfl
  rw [if_neg c5, if_neg c5]; rfl
theorem m_bs_op (H : MSt tp L ord h0 h p n K Ka P w od) (B : Bu n P p) (l1 : Int32) {o : Nat} (e : arO tp L p = some o) (f : flu (bnd o) P n K Ka = (P', n', K', Ka')) : ∃ h', D_X11_behindSum h (some 81) l1 = some (1, h') ∧ MSt tp L ord h0 h' (tkN tp L p) n' K' Ka' ((o, 0) :: P') w od ∧ Bu n' ((o, 0) :: P') (tkN tp L p) := by
  obtain ⟨o1, o2, pl, pn, pL⟩ := arO_b e H.2.2.2.1.1
  have hL := H.2.2.1.1
  have b1 := B.1
  have b2 := B.2
  have bo : 1 ≤ bnd o ∧ bnd o ≤ 6 := by
    rcases (show o = 20 ∨ o = 21 ∨ o = 22 ∨ o = 23 ∨ o = 24 by omega) with r | r | r | r | r <;> subst r <;> decide
  obtain ⟨h1, d1, M1⟩ := H.settle bo.1 bo.2 f
  have fb := flu_bud P n K Ka bo.1
  rw [f] at fb
  dsimp only at fb
  have pd : pend ((o, 0) :: P') = 1 + pend P' := by
    show (if 29 ≤ o then 0 else 1) + pend P' = _
    rw [if_neg (by omega)]
  have ln : ((o, 0) :: P').length = P'.length + 1 := rfl
  obtain ⟨h2, d2, M2⟩ := M1.push (o := o) (a := 0) ⟨by omega, by omega⟩ (by omega) (by omega) (by omega)
  obtain ⟨h3, d3, M3⟩ := M2.next
  refine ⟨h3, ?_, M3, by omega, by omega⟩
  rw [m_bs H, e]
  unfold D_X11_behindSum_71
  rw [if_neg (show ¬ enc (some o) = -1 from of_nm1 (by omega)), show enc (some o) = Int32.ofNat o from rfl, m_binds ⟨by omega, by omega⟩, Option.bind_some]
  dsimp only
  rw [o81 H.sh, Option.bind_some, d1, Option.bind_some, o81 M1.sh, Option.bind_some, show (0 : Int32) = Int32.ofNat 0 from rfl, d2, Option.bind_some, o81 M2.sh, Option.bind_some, d3, Option.bind_some]
theorem m_bs_over (H : MSt tp L ord h0 h p n K Ka P w od) (e : arO tp L p = none) (i : inr P = none) : D_X11_behindSum h (some 81) 0 = some (4, h) := by
  rw [m_bs H, e]
  unfold D_X11_behindSum_71
  rw [if_pos (show enc none = -1 from rfl), o81 H.sh, Option.bind_some, m_inner H.1, i, Option.bind_some]
  dsimp only
  rw [if_neg (by decide), if_pos (show enc none = -1 from rfl), if_pos rfl]
theorem m_bs_close (H : MSt tp L ord h0 h p n K Ka P w od) (B : Bu n P p) (l1 : Int32) (e : arO tp L p = none) {r : List (Nat × Nat)} {a : Nat} (f : flu 5 P n K Ka = ((32, a) :: r, n', K', Ka')) (ho : 1 ≤ od) : (isSg tp L p 93 = true ∧ ∃ h', D_X11_behindSum h (some 81) l1 = some (3, h') ∧ MSt tp L ord h0 h' (tkN tp L p) n' K' Ka' r w (od - 1) ∧ Bu n' r (tkN tp L p)) ∨ (isSg tp L p 93 = false ∧ ∃ h', D_X11_behindSum h (some 81) l1 = some (3, h') ∧ MFl h0 h' p) := by
  have i : inr P = some 32 := by
    rw [← flu_inr (lv := 5) (by decide) P n K Ka, f]; rfl
  have s93 : D_X11_isSign h (some 81) 93 = some (b01 (isSg tp L p 93), h) := H.sg (c := 93) (by decide)
  have pre : D_X11_behindSum h (some 81) l1 = (D_X11_must h (some 81) (b01 (isSg tp L p 93))).bind fun p3375 => (z_gI 11 p3375 (some 81) 19).bind fun x3377 => if x3377 = 0 then (z_ob 11 p3375 (some 81)).bind fun _ => (D_X11_settle p3375 (some 81) (5:Int32)).bind fun p3379 => (z_gI 11 p3379 (some 81) 29).bind fun x3381 => (z_pV 11 p3379 (some 81) 29 (.int (x3381 - (1:Int32)))).bind fun h3382 => (z_gI 11 h3382 (some 81) 30).bind fun x3383 => (z_pV 11 h3382 (some 81) 30 (.int (x3383 - (1:Int32)))).bind fun h3384 => some ((3:Int32), h3384) else some ((3:Int32), p3375) := by
    rw [m_bs H, e]
    unfold D_X11_behindSum_71
    rw [if_pos (show enc none = -1 from rfl), o81 H.sh, Option.bind_some, m_inner H.1, i, Option.bind_some]
    dsimp only
    rw [if_pos (show enc (some 32) = 32 from rfl), o81 H.sh, Option.bind_some, s93, Option.bind_some, o81 H.sh, Option.bind_some]
  cases c : isSg tp L p 93 with
  | true =>
    left
    obtain ⟨pl, pn, pL⟩ := isSg_lt c H.2.2.2.1.1
    obtain ⟨h1, d1, M1⟩ := H.must1
    obtain ⟨h2, d2, M2⟩ := M1.settle (by decide) (by decide) f
    obtain ⟨h3, h4, z1, z2, z3, z4, M4⟩ := M2.pop rfl (by decide) ho
    have fb := flu_bud (lv := 5) P n K Ka (by decide)
    rw [f] at fb
    dsimp only at fb
    have pd : pend ((32, a) :: r) = pend r := by
      show (if 29 ≤ 32 then 0 else 1) + pend r = _
      rw [if_pos (by decide)]; omega
    have ln : ((32, a) :: r).length = r.length + 1 := rfl
    have b1 := B.1
    have b2 := B.2
    refine ⟨rfl, h4, ?_, M4, by omega, by omega⟩
    rw [pre, c, show b01 true = 1 from rfl, d1, Option.bind_some, M1.bad, Option.bind_some, if_pos rfl, o81 M1.sh, Option.bind_some, show (5 : Int32) = Int32.ofNat 5 from rfl, d2, Option.bind_some, z1, Option.bind_some, z2, Option.bind_some, z3, Option.bind_some, z4, Option.bind_some]
  | false =>
    right
    obtain ⟨h1, d1, M1⟩ := H.must0
    refine ⟨rfl, h1, ?_, M1⟩
    rw [pre, c, show b01 false = 0 from rfl, d1, Option.bind_some, M1.bad, Option.bind_some, if_neg one_ne]
theorem m_bs_163 (H : MSt tp L ord h0 h p n K Ka P w od) (e : arO tp L p = none) (i : ¬ inr P = some 32) (i2 : ∀ k, inr P = some k → k < 100) : D_X11_behindSum h (some 81) 1 = D_X11_behindSum_163 h (some 81) := by
  rw [m_bs H, e]
  unfold D_X11_behindSum_71
  rw [if_pos (show enc none = -1 from rfl), o81 H.sh, Option.bind_some, m_inner H.1, Option.bind_some]
  dsimp only
  cases q : inr P with
  | none => rw [if_neg (by decide), if_pos (show enc none = -1 from rfl), if_neg one_ne]
  | some k =>
    have := i2 k q
    rw [if_neg (show ¬ enc (some k) = 32 from fun z => i (by rw [q, (eq_lit (b := 32) (by omega) (by decide)).mp z])), if_neg (show ¬ enc (some k) = -1 from of_nm1 (by omega))]
theorem inr_lt : ∀ {P : List (Nat × Nat)} {n k : Nat}, pOK n P → inr P = some k → k < 100 ∧ 31 ≤ k := by
  intro P
  induction P with
  | nil => intro n k _ h; cases h
  | cons x r ih =>
    intro n k ok h
    obtain ⟨o, a⟩ := x
    have h' : (if 31 ≤ o then some o else inr r) = some k := h
    by_cases c : 31 ≤ o
    · rw [if_pos c] at h'
      cases h'
      have := ok.1.2.1
      omega
    · rw [if_neg c] at h'; exact ih ok.2 h'
theorem m_bs_told (H : MSt tp L ord h0 h p n K Ka P w od) (e : arO tp L p = none) (i : ¬ inr P = some 32) (c : cmpd P = true) : D_X11_behindSum h (some 81) 1 = some (2, h) := by
  rw [m_bs_163 H e i (fun k q => (inr_lt H.1.2.2.2.2.2.2.1 q).1)]
  unfold D_X11_behindSum_163
  rw [o81 H.sh, Option.bind_some, m_compared H.1, c, Option.bind_some]
  dsimp only
  rw [if_neg (show ¬ b01 true = 0 by decide)]
/-- the comparing sign -/
def cmO (tp : Nat → Nat) (L p : Nat) : Option Nat := if isSg tp L p 60 = true then some 25 else if isSg tp L p 62 = true then some 26 else if isSg tp L p 61 = true then some 27 else none
theorem m_bs_cmp (H : MSt tp L ord h0 h p n K Ka P w od) (B : Bu n P p) (e : arO tp L p = none) (i : ¬ inr P = some 32) (c : cmpd P = false) (f : flu 5 P n K Ka = (P', n', K', Ka')) : (∃ o, cmO tp L p = some o ∧ (25 ≤ o ∧ o ≤ 27) ∧ (p < L ∧ p < tkN tp L p ∧ tkN tp L p ≤ L) ∧ ∃ h', D_X11_behindSum h (some 81) 1 = some (1, h') ∧ MSt tp L ord h0 h' (tkN tp L p) n' K' Ka' ((o, 0) :: P') w od ∧ Bu n' ((o, 0) :: P') (tkN tp L p)) ∨ (cmO tp L p = none ∧ ∃ h', D_X11_behindSum h (some 81) 1 = some (1, h') ∧ MFl h0 h' p) := by
  have hL := H.2.2.1.1
  have b1 := B.1
  have b2 := B.2
  have s1 : D_X11_isSign h (some 81) 60 = some (b01 (isSg tp L p 60), h) := H.sg (c := 60) (by decide)
  have s2 : D_X11_isSign h (some 81) 62 = some (b01 (isSg tp L p 62), h) := H.sg (c := 62) (by decide)
  have s3 : D_X11_isSign h (some 81) 61 = some (b01 (isSg tp L p 61), h) := H.sg (c := 61) (by decide)
  have pre : D_X11_behindSum h (some 81) 1 = (if isSg tp L p 60 = true then D_X11_behindSum_219 h (some 81) 25 (some 81) else if isSg tp L p 62 = true then D_X11_behindSum_219 h (some 81) 26 (some 81) else if isSg tp L p 61 = true then D_X11_behindSum_219 h (some 81) 27 (some 81) else D_X11_behindSum_224 h (some 81) 27 (some 81) 0) := by
    rw [m_bs_163 H e i (fun k q => (inr_lt H.1.2.2.2.2.2.2.1 q).1)]
    unfold D_X11_behindSum_163
    rw [o81 H.sh, Option.bind_some, m_compared H.1, c, Option.bind_some]
    dsimp only
    rw [if_pos (show b01 false = 0 from rfl)]
    unfold D_X11_behindSum_202
    simp only [s1, s2, s3, o81 H.sh, Option.bind_some, b01_if]
    by_cases c1 : isSg tp L p 60 = true
    · rw [if_pos c1, if_pos c1, if_neg (by decide)]
    rw [if_neg c1, if_neg c1]
    by_cases c2 : isSg tp L p 62 = true
    · rw [if_pos c2, if_pos c2, if_neg (by decide)]
    rw [if_neg c2, if_neg c2, if_pos trivial]
  have yes : ∀ o, 25 ≤ o ∧ o ≤ 27 → (p < L ∧ p < tkN tp L p ∧ tkN tp L p ≤ L) → ∃ h', D_X11_behindSum_219 h (some 81) (Int32.ofNat o) (some 81) = some (1, h') ∧ MSt tp L ord h0 h' (tkN tp L p) n' K' Ka' ((o, 0) :: P') w od ∧ Bu n' ((o, 0) :: P') (tkN tp L p) := by
    intro o ho pb
    obtain ⟨h1, d1, M1⟩ := H.must1
    obtain ⟨h2, d2, M2⟩ := M1.settle (by decide) (by decide) f
    have fb := flu_bud (lv := 5) P n K Ka (by decide)
    rw [f] at fb
    dsimp only at fb
    have pd : pend ((o, 0) :: P') = 1 + pend P' := by
      show (if 29 ≤ o then 0 else 1) + pend P' = _
      rw [if_neg (by omega)]
    have ln : ((o, 0) :: P').length = P'.length + 1 := rfl
    obtain ⟨h3, d3, M3⟩ := M2.push (o := o) (a := 0) ⟨by omega, by omega⟩ (by omega) (by omega) (by omega)
    refine ⟨h3, ?_, M3, by omega, by omega⟩
    unfold D_X11_behindSum_219 D_X11_behindSum_224
    rw [o81 H.sh, Option.bind_some, d1, Option.bind_some, M1.bad, Option.bind_some, if_pos rfl, o81 M1.sh, Option.bind_some, show (5 : Int32) = Int32.ofNat 5 from rfl, d2, Option.bind_some, o81 M2.sh, Option.bind_some, show (0 : Int32) = Int32.ofNat 0 from rfl, d3, Option.bind_some]
  unfold cmO
  by_cases c1 : isSg tp L p 60 = true
  · left
    obtain ⟨h', d, M, B'⟩ := yes 25 (by decide) (isSg_lt c1 H.2.2.2.1.1)
    exact ⟨25, by rw [if_pos c1], by decide, isSg_lt c1 H.2.2.2.1.1, h', by rw [pre, if_pos c1]; exact d, M, B'⟩
  by_cases c2 : isSg tp L p 62 = true
  · left
    obtain ⟨h', d, M, B'⟩ := yes 26 (by decide) (isSg_lt c2 H.2.2.2.1.1)
    exact ⟨26, by rw [if_neg c1, if_pos c2], by decide, isSg_lt c2 H.2.2.2.1.1, h', by rw [pre, if_neg c1, if_pos c2]; exact d, M, B'⟩
  by_cases c3 : isSg tp L p 61 = true
  · left
    obtain ⟨h', d, M, B'⟩ := yes 27 (by decide) (isSg_lt c3 H.2.2.2.1.1)
    exact ⟨27, by rw [if_neg c1, if_neg c2, if_pos c3], by decide, isSg_lt c3 H.2.2.2.1.1, h', by rw [pre, if_neg c1, if_neg c2, if_pos c3]; exact d, M, B'⟩
  right
  obtain ⟨h1, d1, M1⟩ := H.must0
  refine ⟨by rw [if_neg c1, if_neg c2, if_neg c3], h1, ?_, M1⟩
  rw [pre, if_neg c1, if_neg c2, if_neg c3]
  unfold D_X11_behindSum_224
  rw [o81 H.sh, Option.bind_some, d1, Option.bind_some, M1.bad, Option.bind_some, if_neg one_ne]
/-! behind a TEST -/
theorem m_bt_jump (H : MSt tp L ord h0 h p n K Ka P w od) (B : Bu n P p) (x : Bool) (e : if x = true then isW tp L p wdAnd = true else (isW tp L p wdAnd = false ∧ isW tp L p wdOr = true)) (f : flu (if x = true then 2 else 1) P n K Ka = (P', n', K', Ka')) : ∃ h', D_X11_behindTest h (some 81) = some (0, h') ∧ MSt tp L ord h0 h' (tkN tp L p) (n' + 1) (upd K' n' (Int32.ofNat (if x = true then 29 else 30))) (upd Ka' n' 0) ((if x = true then 29 else 30, n') :: P') w od ∧ Bu (n' + 1) ((if x = true then 29 else 30, n') :: P') (tkN tp L p) := by
  have hL := H.2.2.1.1
  have b1 := B.1
  have b2 := B.2
  have pb : p < L ∧ p < tkN tp L p ∧ tkN tp L p ≤ L := by
    cases x with
    | true => rw [if_pos rfl] at e; exact isW_lt e H.2.2.2.1.1
    | false => rw [if_neg (by decide)] at e; exact isW_lt e.2 H.2.2.2.1.1
  have lv : 1 ≤ (if x = true then 2 else 1) ∧ (if x = true then 2 else 1) ≤ 6 := by cases x <;> decide
  obtain ⟨h1, d1, M1⟩ := H.settle lv.1 lv.2 f
  have fb := flu_bud P n K Ka lv.1
  rw [f] at fb
  dsimp only at fb
  have ho : (if x = true then 29 else 30) = 29 ∨ (if x = true then 29 else 30) = 30 := by cases x <;> decide
  generalize ho2 : (if x = true then 29 else 30) = o at *
  have pd : pend ((o, n') :: P') = pend P' := by
    show (if 29 ≤ o then 0 else 1) + pend P' = _
    rw [if_pos (by omega)]; omega
  have ln : ((o, n') :: P').length = P'.length + 1 := rfl
  obtain ⟨h2, h3, d2, s2, d3, M3⟩ := M1.both (o := o) ho (by omega) (by omega)
  obtain ⟨h4, d4, M4⟩ := M3.next
  refine ⟨h4, ?_, M4, by omega, by omega⟩
  have sz : z_gI 11 h1 (some 81) 23 = some (Int32.ofNat n') := by rw [s_gI M1.sh (ci := 11) rfl rfl, M1.1.2.1]
  cases x with
  | true =>
    rw [if_pos rfl] at e ho2 d1
    subst ho2
    unfold D_X11_behindTest
    rw [o81 H.sh, Option.bind_some, H.wAnd, e, Option.bind_some]
    dsimp only
    rw [if_neg (show ¬ b01 true = 0 by decide)]
    unfold D_X11_behindTest_22 D_X11_behindTest_32 D_X11_behindTest_47 D_X11_behindTest_66
    rw [if_neg (show ¬ b01 true = 0 by decide), o81 H.sh, Option.bind_some, show (2 : Int32) = Int32.ofNat 2 from rfl, d1, Option.bind_some, if_neg (show ¬ b01 true = 0 by decide), sz, Option.bind_some, o81 M1.sh, Option.bind_some, show (29 : Int32) = Int32.ofNat 29 from rfl, d2, Option.bind_some, if_neg (show ¬ b01 true = 0 by decide), o81 s2, Option.bind_some, d3, Option.bind_some, o81 M3.sh, Option.bind_some, d4, Option.bind_some]
  | false =>
    rw [if_neg (by decide)] at e ho2 d1
    subst ho2
    unfold D_X11_behindTest
    rw [o81 H.sh, Option.bind_some, H.wAnd, e.1, Option.bind_some]
    dsimp only
    rw [if_pos (show b01 false = 0 from rfl), o81 H.sh, Option.bind_some, H.wOr, e.2, Option.bind_some]
    dsimp only
    rw [if_neg (show ¬ b01 true = 0 by decide)]
    unfold D_X11_behindTest_22 D_X11_behindTest_32 D_X11_behindTest_47 D_X11_behindTest_66
    rw [if_pos (show b01 false = 0 from rfl), o81 H.sh, Option.bind_some, show (1 : Int32) = Int32.ofNat 1 from rfl, d1, Option.bind_some, if_pos (show b01 false = 0 from rfl), sz, Option.bind_some, o81 M1.sh, Option.bind_some, show (30 : Int32) = Int32.ofNat 30 from rfl, d2, Option.bind_some, if_pos (show b01 false = 0 from rfl), o81 s2, Option.bind_some, d3, Option.bind_some, o81 M3.sh, Option.bind_some, d4, Option.bind_some]
theorem m_bt_over (H : MSt tp L ord h0 h p n K Ka P w od) (e1 : isW tp L p wdAnd = false) (e2 : isW tp L p wdOr = false) (i : inr P = none) : D_X11_behindTest h (some 81) = some (4, h) := by
  unfold D_X11_behindTest
  rw [o81 H.sh, Option.bind_some, H.wAnd, e1, Option.bind_some]
  dsimp only
  rw [if_pos (show b01 false = 0 from rfl), o81 H.sh, Option.bind_some, H.wOr, e2, Option.bind_some]
  dsimp only
  rw [if_pos (show b01 false = 0 from rfl), o81 H.sh, Option.bind_some, m_inner H.1, i, Option.bind_some]
  dsimp only
  rw [if_pos (show enc none = -1 from rfl)]
theorem m_bt_close (H : MSt tp L ord h0 h p n K Ka P w od) (B : Bu n P p) (e1 : isW tp L p wdAnd = false) (e2 : isW tp L p wdOr = false) {r : List (Nat × Nat)} {a : Nat} (f : flu 1 P n K Ka = ((31, a) :: r, n', K', Ka')) (ho : 1 ≤ od) : (isSg tp L p 41 = true ∧ ∃ h', D_X11_behindTest h (some 81) = some (2, h') ∧ MSt tp L ord h0 h' (tkN tp L p) n' K' Ka' r w (od - 1) ∧ Bu n' r (tkN tp L p)) ∨ (isSg tp L p 41 = false ∧ ∃ h', D_X11_behindTest h (some 81) = some (2, h') ∧ MFl h0 h' p) := by
  have i : inr P = some 31 := by
    rw [← flu_inr (lv := 1) (by decide) P n K Ka, f]; rfl
  have s41 : D_X11_isSign h (some 81) 41 = some (b01 (isSg tp L p 41), h) := H.sg (c := 41) (by decide)
  have pre : D_X11_behindTest h (some 81) = (D_X11_must h (some 81) (b01 (isSg tp L p 41))).bind fun p3430 => (z_gI 11 p3430 (some 81) 19).bind fun x3432 => if x3432 = 0 then (z_ob 11 p3430 (some 81)).bind fun _ => (D_X11_settle p3430 (some 81) (1:Int32)).bind fun p3434 => (z_gI 11 p3434 (some 81) 29).bind fun x3436 => (z_pV 11 p3434 (some 81) 29 (.int (x3436 - (1:Int32)))).bind fun h3437 => (z_gI 11 h3437 (some 81) 30).bind fun x3438 => (z_pV 11 h3437 (some 81) 30 (.int (x3438 - (1:Int32)))).bind fun h3439 => some ((2:Int32), h3439) else some ((2:Int32), p3430) := by
    unfold D_X11_behindTest
    rw [o81 H.sh, Option.bind_some, H.wAnd, e1, Option.bind_some]
    dsimp only
    rw [if_pos (show b01 false = 0 from rfl), o81 H.sh, Option.bind_some, H.wOr, e2, Option.bind_some]
    dsimp only
    rw [if_pos (show b01 false = 0 from rfl), o81 H.sh, Option.bind_some, m_inner H.1, i, Option.bind_some]
    dsimp only
    rw [if_neg (show ¬ enc (some 31) = -1 by decide), o81 H.sh, Option.bind_some, s41, Option.bind_some, o81 H.sh, Option.bind_some]
  cases c : isSg tp L p 41 with
  | true =>
    left
    obtain ⟨pl, pn, pL⟩ := isSg_lt c H.2.2.2.1.1
    obtain ⟨h1, d1, M1⟩ := H.must1
    obtain ⟨h2, d2, M2⟩ := M1.settle (by decide) (by decide) f
    obtain ⟨h3, h4, z1, z2, z3, z4, M4⟩ := M2.pop rfl (by decide) ho
    have fb := flu_bud (lv := 1) P n K Ka (by decide)
    rw [f] at fb
    dsimp only at fb
    have pd : pend ((31, a) :: r) = pend r := by
      show (if 29 ≤ 31 then 0 else 1) + pend r = _
      rw [if_pos (by decide)]; omega
    have ln : ((31, a) :: r).length = r.length + 1 := rfl
    have b1 := B.1
    have b2 := B.2
    refine ⟨rfl, h4, ?_, M4, by omega, by omega⟩
    rw [pre, c, show b01 true = 1 from rfl, d1, Option.bind_some, M1.bad, Option.bind_some, if_pos rfl, o81 M1.sh, Option.bind_some, show D_X11_settle h1 (some 81) (1 : Int32) = some h2 from d2, Option.bind_some, z1, Option.bind_some, z2, Option.bind_some, z3, Option.bind_some, z4, Option.bind_some]
  | false =>
    right
    obtain ⟨h1, d1, M1⟩ := H.must0
    refine ⟨rfl, h1, ?_, M1⟩
    rw [pre, c, show b01 false = 0 from rfl, d1, Option.bind_some, M1.bad, Option.bind_some, if_neg one_ne]
end S9
