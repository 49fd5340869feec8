theorem litS {c p : Nat} (h : OfNat.ofNat c ≤ p) : Int32.ofNat p - (no_index (OfNat.ofNat c) : Int32) = Int32.ofNat (p - OfNat.ofNat c) := sc_sub (k := c) h
theorem litC (c : Nat) {p : Nat} : Int32.ofNat p + (no_index (OfNat.ofNat c) : Int32) = Int32.ofNat (p + OfNat.ofNat c) := litB c p
section UD
variable {g g' h : z_H} {a j : Nat} {m : Nat → Int32} {S : List Nat}
theorem Yrel_day (Y : Yrel g a m) (T : Tch S g g') (lo : low S = true) (nn : ∀ q, q ≤ 8 → q ≠ 5 → a + q ∉ S) {v : Int32} (bv : nb v 999) (a5 : aI g' (a + 5) = upd (aI g (a + 5)) 0 v) : Yrel g' a (upd m 5 v) := by
  obtain ⟨⟨y1, y2, y3, y4, y5, y6, y7, y8, y9, y10⟩, ⟨q0, q4, q1, q2, q3, q5, q6, q7⟩, L⟩ := Y
  have f : ∀ k, fI g' a k = fI g a k := fun k => cell_fI (T.c (nn 0 (by decide) (by decide))) k
  have cc : ∀ q, q ≤ 8 → q ≠ 5 → aI g' (a + q) = aI g (a + q) := fun q h1 h2 => cell_aI (T.c (nn q h1 h2))
  refine ⟨⟨by rw [f]; exact y1, by rw [f]; exact y2, by rw [f]; exact y3, by rw [f]; exact y4, by rw [f, f]; exact y5, fun q hq => ?_, fun q hq => ?_, ?_, ?_, ?_⟩, ⟨by rw [f, upd_ne (by decide)]; exact q0, by rw [f, upd_ne (by decide)]; exact q4, by rw [f, upd_ne (by decide)]; exact q1, by rw [f, upd_ne (by decide)]; exact q2, by rw [f, upd_ne (by decide)]; exact q3, fun q hq => ?_, fun q hq => ?_, fun q hq => ?_⟩, Ylaw_R L T lo (nn 0 (by decide) (by decide)) (nn 8 (by decide) (by decide)) (fun q hq => upd_ne (by omega))⟩
  · rw [cc 1 (by decide) (by decide), cc 2 (by decide) (by decide), cc 3 (by decide) (by decide), cc 6 (by decide) (by decide), cc 7 (by decide) (by decide)]; exact y6 q hq
  · rw [cc 4 (by decide) (by decide)]; exact y7 q hq
  · rw [a5, upd_eq]; exact bv
  · rw [a5, upd_ne (by decide)]; exact y9
  · rw [a5, upd_ne (by decide)]; exact y10
  · rw [cc 1 (by decide) (by decide), cc 2 (by decide) (by decide), cc 3 (by decide) (by decide), cc 6 (by decide) (by decide), cc 7 (by decide) (by decide), upd_ne (by omega), upd_ne (by omega), upd_ne (by omega), upd_ne (by omega), upd_ne (by omega)]; exact q5 q hq
  · rw [cc 4 (by decide) (by decide), upd_ne (by omega)]; exact q6 q hq
  · rw [a5]
    by_cases e : q = 0
    · subst e; rw [upd_eq, upd_eq]
    · rw [upd_ne e, upd_ne (by omega)]; exact q7 q hq
/-- the row that undoing makes -/
def undoR (r m : Nat → Int32) (k : Nat) : Int32 := if 5 ≤ k ∧ k < 44 then undone r (fun i => m (5 + i)) (k - 5) else m k
theorem undoR_day {r m : Nat → Int32} (e : r 1 = -1) : undoR r m = upd m 5 (r 6) := by
  funext k
  unfold undoR undone
  by_cases c : 5 ≤ k ∧ k < 44
  · rw [if_pos c]
    by_cases c0 : k - 5 = 0
    · rw [if_pos c0, show k = 5 by omega, upd_eq]
    · rw [if_neg c0, if_pos e, upd_ne (by omega)]
      show m (5 + (k - 5)) = m k
      rw [show 5 + (k - 5) = k by omega]
  · rw [if_neg c, upd_ne (by omega)]
theorem undoR_act {r m : Nat → Int32} {p i : Nat} (hp : p < 6) (hi : i < 4) (e : r 1 = Int32.ofNat p) (e4 : r 4 = Int32.ofNat i) : undoR r m = upd (setPF m p i (r 5) (r 2) (r 3)) 5 (r 6) := by
  have t1 : tn (r 1) = p := by rw [e]; exact tn_of (by omega)
  have t4 : tn (r 4) = i := by rw [e4]; exact tn_of (by omega)
  funext k
  unfold undoR undone
  rw [t1, t4]
  by_cases c : 5 ≤ k ∧ k < 44
  · rw [if_pos c]
    by_cases c0 : k - 5 = 0
    · rw [if_pos c0, show k = 5 by omega, upd_eq]
    rw [if_neg c0, if_neg (by rw [e]; exact of_nm1 (by omega)), upd_ne (by omega)]
    by_cases c1 : k - 5 = 3 + p
    · rw [if_pos c1, show k = 8 + p by omega, setPF_c]
    rw [if_neg c1]
    by_cases c2 : k - 5 = 9 + p
    · rw [if_pos c2, show k = 14 + p by omega, setPF_y]
    rw [if_neg c2]
    by_cases c3 : k - 5 = 15 + 4 * p + i
    · rw [if_pos c3, show k = 20 + 4 * p + i by omega, setPF_v hp]
    rw [if_neg c3, setPF_o (by omega) (by omega) (by omega)]
    show m (5 + (k - 5)) = m k
    rw [show 5 + (k - 5) = k by omega]
  · rw [if_neg c, upd_ne (by omega), setPF_o (by omega) (by omega) (by omega)]
/-- the class takes back -/
theorem c_takeBack (hs : Sh g) (Y : Yrel g 1 m) {k np : Nat} (en : fI g 21 1 = Int32.ofNat (k + 1)) (hk : k < 16) (e8 : fI g 1 8 = Int32.ofNat np) (hnp : np ≤ 6) (hr : aI g 22 (7 * k + 1) = -1 ∨ (∃ p : Nat, aI g 22 (7 * k + 1) = Int32.ofNat p ∧ p < np) ∧ nb (aI g 22 (7 * k + 2)) 24 ∧ nb (aI g 22 (7 * k + 3)) 3 ∧ nb (aI g 22 (7 * k + 4)) 3 ∧ nb (aI g 22 (7 * k + 5)) 99) (h6 : nb (aI g 22 (7 * k + 6)) 999) : ∃ g', Sh g' ∧ Tch [2, 3, 5, 6, 21] g g' ∧ fI g' 21 1 = Int32.ofNat k ∧ Yrel g' 1 (undoR (fun q => aI g 22 (7 * k + q)) m) ∧ D_X8_takeBack g (some 21) (some 1) = some (aI g 22 (7 * k), g') := by
  have ne : ¬ Int32.ofNat (k + 1) = 0 := fun z => by have := (eq_lit (a := k + 1) (b := 0) (by omega) (by decide)).mp z; omega
  have s1 : Sh (wF g 21 1 (.int (Int32.ofNat k))) := Sh_wF hs rfl _
  have f8 : fI (wF g 21 1 (.int (Int32.ofNat k))) 1 8 = Int32.ofNat np := by rw [fI_wF_ne (by decide)]; exact e8
  rcases hr with e1 | ⟨⟨p, e1, hp⟩, b2, b3, b4, b5⟩
  · have dP := hasP0 s1 (Or.inl rfl) f8 (by omega) (x := -1) (by rw [show (-1 : Int32).toInt = -1 by decide]; omega)
    rw [undoR_day e1]
    have d : D_X8_takeBack g (some 21) (some 1) = some (aI g 22 (7 * k), wA (wF g 21 1 (.int (Int32.ofNat k))) 6 (upd (aI g 6) 0 (aI g 22 (7 * k + 6)))) := by
      simp (disch := first | assumption | omega | (simp only [isAs, isFs, isJs, isAJs, isAQs]; done) | ((repeat (first | assumption | apply Sh_wA | apply Sh_wF | apply Sh_wJ | apply Sh_wFJ | apply Sh_wQ | simp only [isAs, isFs, isJs, isAJs, isAQs])); done) | fail) only [D_X8_takeBack, D_X8_takeBack_98, en, ne, if_false, litS, Nat.add_sub_cancel, Nat.mul_comm k 7, e1, dP, if_true, Nat.add_zero, Int32.add_zero, Option.bind_some, rdQ_c, rdO_c, rdF_c, rdA_c, rdQ_m, rdO_m, rdF_m, rdA_m, wrF_c, wrF_m, wrA_c, wrA_m, iR_ofNat, iW_ofNat, iRs, iWs, tns, tn_of', aI_wF, aI_wA_eq, aI_wA_ne, fI_wA, fI_wF_eq, fI_wF_ne, wA_wA, litA, litB, litM, litN, sc_add, sc_mul]
    have sA : Sh (wA (wF g 21 1 (.int (Int32.ofNat k))) 6 (upd (aI g 6) 0 (aI g 22 (7 * k + 6)))) := Sh_wA s1 rfl _
    have TA : Tch [6, 21] g (wA (wF g 21 1 (.int (Int32.ofNat k))) 6 (upd (aI g 6) 0 (aI g 22 (7 * k + 6)))) := Tch_wA (Tch_wF (Tch_rfl _ g) (by decide) _ _) (by decide) _
    refine ⟨_, sA, TA.mono (by decide), by rw [fI_wA, fI_wF_eq hs rfl], ?_, d⟩
    exact Yrel_day (a := 1) Y TA (by decide) (fun q h1 h2 => by simp only [List.mem_cons, List.not_mem_nil, or_false]; omega) h6 (aI_wA_eq s1 rfl _)
  · obtain ⟨i, e4, hi⟩ := b4
    have dP := hasP1 s1 (Or.inl rfl) f8 (by omega) hp
    rw [undoR_act (by omega) (by omega) e1 e4]
    have d : D_X8_takeBack g (some 21) (some 1) = some (aI g 22 (7 * k), wA (wA (wA (wA (wF g 21 1 (.int (Int32.ofNat k))) 2 (upd (aI g 2) p (aI g 22 (7 * k + 2)))) 3 (upd (aI g 3) p (aI g 22 (7 * k + 3)))) 5 (upd (aI g 5) (4 * p + i) (aI g 22 (7 * k + 5)))) 6 (upd (aI g 6) 0 (aI g 22 (7 * k + 6)))) := by
      simp (disch := first | assumption | omega | (simp only [isAs, isFs, isJs, isAJs, isAQs]; done) | ((repeat (first | assumption | apply Sh_wA | apply Sh_wF | apply Sh_wJ | apply Sh_wFJ | apply Sh_wQ | simp only [isAs, isFs, isJs, isAJs, isAQs])); done) | fail) only [D_X8_takeBack, D_X8_takeBack_98, en, ne, if_false, litS, Nat.add_sub_cancel, Nat.mul_comm k 7, Nat.mul_comm p 4, e1, dP, if_neg one_ne, e4, Int32.add_zero, Option.bind_some, rdQ_c, rdO_c, rdF_c, rdA_c, rdQ_m, rdO_m, rdF_m, rdA_m, wrF_c, wrF_m, wrA_c, wrA_m, iR_ofNat, iW_ofNat, iRs, iWs, tns, tn_of', aI_wF, aI_wA_eq, aI_wA_ne, fI_wA, fI_wF_eq, fI_wF_ne, wA_wA, litA, litB, litM, litN, sc_add, sc_mul]
    have sA : Sh (wA (wA (wA (wF g 21 1 (.int (Int32.ofNat k))) 2 (upd (aI g 2) p (aI g 22 (7 * k + 2)))) 3 (upd (aI g 3) p (aI g 22 (7 * k + 3)))) 5 (upd (aI g 5) (4 * p + i) (aI g 22 (7 * k + 5)))) := Sh_wA (Sh_wA (Sh_wA s1 rfl _) rfl _) rfl _
    have TA : Tch [2, 3, 5, 21] g (wA (wA (wA (wF g 21 1 (.int (Int32.ofNat k))) 2 (upd (aI g 2) p (aI g 22 (7 * k + 2)))) 3 (upd (aI g 3) p (aI g 22 (7 * k + 3)))) 5 (upd (aI g 5) (4 * p + i) (aI g 22 (7 * k + 5)))) := Tch_wA (Tch_wA (Tch_wA (Tch_wF (Tch_rfl _ g) (by decide) _ _) (by decide) _) (by decide) _) (by decide) _
    have YA := Yrel_act (a := 1) (p := p) (i := i) (v := aI g 22 (7 * k + 5)) (c := aI g 22 (7 * k + 2)) (y := aI g 22 (7 * k + 3)) Y TA (by decide) (by decide) (by decide) (by decide) (by decide) (by decide) (by decide) (by omega) (by omega) b5 b2 b3 (by rw [aI_wA_ne (by decide), aI_wA_ne (by decide), aI_wA_eq s1 rfl]) (by rw [aI_wA_ne (by decide), aI_wA_eq (Sh_wA s1 rfl _) rfl]) (by rw [aI_wA_eq (Sh_wA (Sh_wA s1 rfl _) rfl _) rfl])
    have x6 : aI (wA (wA (wA (wF g 21 1 (.int (Int32.ofNat k))) 2 (upd (aI g 2) p (aI g 22 (7 * k + 2)))) 3 (upd (aI g 3) p (aI g 22 (7 * k + 3)))) 5 (upd (aI g 5) (4 * p + i) (aI g 22 (7 * k + 5)))) 6 = aI g 6 := cell_aI (TA.c (by decide))
    have f21 : fI (wA (wA (wA (wF g 21 1 (.int (Int32.ofNat k))) 2 (upd (aI g 2) p (aI g 22 (7 * k + 2)))) 3 (upd (aI g 3) p (aI g 22 (7 * k + 3)))) 5 (upd (aI g 5) (4 * p + i) (aI g 22 (7 * k + 5)))) 21 1 = Int32.ofNat k := by rw [fI_wA, fI_wA, fI_wA, fI_wF_eq hs rfl]
    generalize wA (wA (wA (wF g 21 1 (.int (Int32.ofNat k))) 2 (upd (aI g 2) p (aI g 22 (7 * k + 2)))) 3 (upd (aI g 3) p (aI g 22 (7 * k + 3)))) 5 (upd (aI g 5) (4 * p + i) (aI g 22 (7 * k + 5))) = gA at *
    have TB : Tch [6] gA (wA gA 6 (upd (aI g 6) 0 (aI g 22 (7 * k + 6)))) := Tch_wA (Tch_rfl _ gA) (by decide) _
    refine ⟨_, Sh_wA sA rfl _, (TA.mono (by decide)).trans (TB.mono (by decide)), by rw [fI_wA]; exact f21, ?_, d⟩
    exact Yrel_day (a := 1) YA TB (by decide) (fun q h1 h2 => by simp only [List.mem_cons, List.not_mem_nil, or_false]; omega) h6 (by rw [aI_wA_eq sA rfl, x6])
theorem a_undo (H : Inv j h) : Agree Inv j h (fun h => D_X10_undo h (some 0)) (fun h => D_X11_undo h (some 81)) := by
  have hs := H.1
  obtain ⟨n, s, t, en, em, C, M, sn⟩ := H.2.2.2.1.split
  obtain ⟨np, hnp, e8, e80⟩ := H.np
  have hn := C.1
  by_cases c : n = 0
  · subst c
    refine agree_no H (k := 3) (by decide) ?_ ?_
    · show D_X10_undo h (some 0) = _
      have r3 := (rfs hs).2.2.1
      unfold D_X10_undo
      rw [s_gQ (r := 21) hs rfl rfl, Option.bind_some, s_gI hs (ci := 8) rfl rfl, Option.bind_some, en, if_pos (show Int32.ofNat 0 = 0 from rfl), s_ob hs (ci := 10) rfl, Option.bind_some, r3, Option.bind_some]
      rfl
    · show D_X11_undo (rfC h 3) (some 81) = _
      have sr := Sh_rfC hs 3
      have st := Sh_t0 sr
      have r3 := (tls st).2.2.1
      have f8 : fI (t0 (rfC h 3)) 81 8 = Int32.ofNat 0 := by rw [fI_wF_ne (by decide), cell_fI ((rfC_cells h 3).c (by decide))]; exact em
      unfold D_X11_undo
      rw [p81 sr, Option.bind_some, s_gI st (ci := 11) rfl rfl, Option.bind_some, f8, if_pos (show Int32.ofNat 0 = 0 from rfl), s_ob st (ci := 11) rfl, Option.bind_some, r3, Option.bind_some]
      rfl
  · obtain ⟨k, rfl⟩ : ∃ k, n = k + 1 := ⟨n - 1, by omega⟩
    have ne : ¬ Int32.ofNat (k + 1) = 0 := fun z => by have := (eq_lit (a := k + 1) (b := 0) (by omega) (by decide)).mp z; omega
    obtain ⟨v1, v2, v3, v4, v5⟩ := C.2 k (by omega)
    obtain ⟨w1, w2⟩ := M k (by omega)
    have tnp : tn (fI h 1 8) = np := by rw [e8]; exact tn_of (by omega)
    rw [tnp] at v3
    obtain ⟨g1, s1, T1, f21, Y1, d1⟩ := c_takeBack hs H.Y en (by omega) e8 hnp v3 v4
    have et : aI h 22 (7 * k) = t k := v1
    have r0 : (0 : Int32) ≤ t k := v2.ge (by decide)
    have s2 : Sh (wF g1 0 13 (.int 0)) := Sh_wF s1 rfl _
    have eA : D_X10_undo h (some 0) = some (t k, wF g1 0 13 (.int 0)) := by
      unfold D_X10_undo
      rw [s_gQ (r := 21) hs rfl rfl, Option.bind_some, s_gI hs (ci := 8) rfl rfl, Option.bind_some, en, if_neg ne, Option.bind_some, s_gQ (r := 1) hs rfl rfl, Option.bind_some, s_ob hs (ci := 8) rfl, Option.bind_some, d1, Option.bind_some]
      dsimp only
      rw [s_ob s1 (ci := 10) rfl, Option.bind_some, d_grant s1, Option.bind_some, et]
    have Ta : Tch [0, 2, 3, 5, 6, 21] h (wF g1 0 13 (.int 0)) := Tch_wF (T1.mono (by decide)) (by decide) _ _
    have fo : ∀ a k, ¬ (a = 0 ∧ k = 13) → a ∉ [2, 3, 5, 6, 21] → fI (wF g1 0 13 (.int 0)) a k = fI h a k := fun a k h1 h2 => by
      rw [fI_wF_ne h1, cell_fI (T1.c h2)]
    have f13 : fI (wF g1 0 13 (.int 0)) 0 13 = 0 := fI_wF_eq s1 rfl _
    have x21 : fI (wF g1 0 13 (.int 0)) 21 1 = Int32.ofNat k := by rw [fI_wF_ne (by decide)]; exact f21
    have Ya : Yrel (wF g1 0 13 (.int 0)) 1 (undoR (fun q => aI h 22 (7 * k + q)) (aI h 83)) := Yrel_T Y1 (Tch_wF (S := [0]) (Tch_rfl _ g1) (by decide) _ _) (isY_S (Or.inl rfl) (by decide)) (by decide)
    generalize wF g1 0 13 (.int 0) = h1 at *
    have st := Sh_t0 s2
    have f8 : fI (t0 h1) 81 8 = Int32.ofNat (k + 1) := by rw [fI_wF_ne (by decide), fo 81 8 (by decide) (by decide)]; exact em
    have sm : Sh (wF (t0 h1) 81 8 (.int (Int32.ofNat k))) := Sh_wF st rfl _
    have pb := m_putBack sm (k := k) (by omega)
    have o1 : OnM [81, 83] [0, 1, 8] h1 (wF (t0 h1) 81 8 (.int (Int32.ofNat k))) := ⟨sm, Tch_wF (Tch_wF (Tch_rfl _ h1) (by decide) _ _) (by decide) _ _, fun q hq => by
      have : q ≠ 0 ∧ q ≠ 8 := ⟨fun z => hq (by rw [z]; decide), fun z => hq (by rw [z]; decide)⟩
      rw [fI_wF_ne (by omega), fI_wF_ne (by omega), fJ_wF_ne (by omega), fJ_wF_ne (by omega)]
      exact ⟨rfl, rfl⟩⟩
    have g8 : fI (wF (t0 h1) 81 8 (.int (Int32.ofNat k))) 81 8 = Int32.ofNat k := fI_wF_eq st rfl _
    have b83 : aI (wF (t0 h1) 81 8 (.int (Int32.ofNat k))) 83 = aI h 83 := by rw [aI_wF, aI_wF]; exact cell_aI (Ta.c (by decide))
    have b86 : aI (wF (t0 h1) 81 8 (.int (Int32.ofNat k))) 86 = aI h 86 := by rw [aI_wF, aI_wF]; exact cell_aI (Ta.c (by decide))
    have b87 : aI (wF (t0 h1) 81 8 (.int (Int32.ofNat k))) 87 = aI h 87 := by rw [aI_wF, aI_wF]; exact cell_aI (Ta.c (by decide))
    have eB0 : D_X11_undo h1 (some 81) = (D_X11_putBack (wF (t0 h1) 81 8 (.int (Int32.ofNat k))) (some 81) (Int32.ofNat k)).bind fun p2304 => (z_gQ 11 p2304 (some 81) 7).bind fun x2306 => (z_gI 11 p2304 (some 81) 8).bind fun x2307 => (z_aI .int p2304 x2306 x2307).bind fun x2308 => (z_ob 11 p2304 (some 81)).bind fun _ => (D_X11_tell p2304 (some 81) x2308).bind fun p2309 => some (p2309.1, p2309.2) := by
      unfold D_X11_undo
      rw [p81 s2, Option.bind_some, s_gI st (ci := 11) rfl rfl, Option.bind_some, f8, if_neg ne, Option.bind_some, s_pV st (ci := 11) rfl (by decide), Option.bind_some, show Int32.ofNat (k + 1) - 1 = Int32.ofNat k from sc_sub (i := k + 1) (k := 1) (by omega), s_gI sm (ci := 11) rfl rfl, Option.bind_some, g8, s_ob sm (ci := 11) rfl, Option.bind_some]
    generalize wF (t0 h1) 81 8 (.int (Int32.ofNat k)) = gm at *
    rw [b83, b86] at pb
    have rowE : va_cpy (aI h 86) (aI h 83) (39 * k) 5 39 = undoR (fun q => aI h 22 (7 * k + q)) (aI h 83) := by
      funext q
      unfold va_cpy undoR
      by_cases cq : 5 ≤ q ∧ q < 44
      · rw [if_pos (by omega), if_pos cq, w2 (q - 5) (by omega), v5 (q - 5) (by omega), sn]
      · rw [if_neg (by omega), if_neg cq]
    rw [rowE] at pb
    have sp : Sh (wA gm 83 (undoR (fun q => aI h 22 (7 * k + q)) (aI h 83))) := Sh_wA sm rfl _
    have p83 : aI (wA gm 83 (undoR (fun q => aI h 22 (7 * k + q)) (aI h 83))) 83 = undoR (fun q => aI h 22 (7 * k + q)) (aI h 83) := aI_wA_eq sm rfl _
    have o2 : OnM [81, 83] [0, 1, 8] h1 (wA gm 83 (undoR (fun q => aI h 22 (7 * k + q)) (aI h 83))) := o1.trans ⟨sp, Tch_wA (Tch_rfl _ gm) (by decide) _, fun _ _ => ⟨fI_wA _ _ _ _, fJ_wA _ _ _ _⟩⟩
    have p8 : fI (wA gm 83 (undoR (fun q => aI h 22 (7 * k + q)) (aI h 83))) 81 8 = Int32.ofNat k := by rw [fI_wA]; exact g8
    have p86 : aI (wA gm 83 (undoR (fun q => aI h 22 (7 * k + q)) (aI h 83))) 86 = aI h 86 := by rw [aI_wA_ne (by decide)]; exact b86
    have p87 : aI (wA gm 83 (undoR (fun q => aI h 22 (7 * k + q)) (aI h 83))) 87 = aI h 87 := by rw [aI_wA_ne (by decide)]; exact b87
    rw [pb, Option.bind_some] at eB0
    generalize wA gm 83 (undoR (fun q => aI h 22 (7 * k + q)) (aI h 83)) = gp at *
    have O : OnM [81, 83] [0, 1, 8] h1 (wF gp 81 1 (.int 0)) := o2.trans ⟨Sh_wF sp rfl _, Tch_wF (Tch_rfl _ gp) (by decide) _ _, fun q hq => by
      have : q ≠ 1 := fun z => hq (by rw [z]; decide)
      rw [fI_wF_ne (by omega), fJ_wF_ne (by omega)]
      exact ⟨rfl, rfl⟩⟩
    have z83 : aI (wF gp 81 1 (.int 0)) 83 = undoR (fun q => aI h 22 (7 * k + q)) (aI h 83) := by rw [aI_wF]; exact p83
    have T : Tch [0, 2, 3, 5, 6, 21, 81, 83] h (wF gp 81 1 (.int 0)) := (Ta.mono (by decide)).trans (O.2.1.mono (by decide))
    refine ⟨t k, h1, wF gp 81 1 (.int 0), eA, ob81 s2, ?_, ?_⟩
    · show D_X11_undo h1 (some 81) = _
      rw [eB0, s_gQ (r := 87) sp rfl rfl, Option.bind_some, s_gI sp (ci := 11) rfl rfl, Option.bind_some, p8, s_aI (n := 16) sp (Or.inl rfl) rfl, iR_ofNat (by omega) (by decide), Option.bind_some, s_ob sp (ci := 11) rfl, Option.bind_some, p87, w1, d_tell_ok sp r0, Option.bind_some]
    · refine Inv_gen H O.1 T (by decide) (by decide) ?_ ?_ ?_ ?_
      · rw [(O.2.2 58 (by decide)).1]
        exact fo 81 58 (by decide) (by decide)
      · rw [z83]
        exact Yrel_T Ya O.2.1 (isY_S (Or.inl rfl) (by decide)) (by decide)
      · refine Ulog.join (n := k) (s := s) (t := t) ?_ ?_ ?_ ?_ ?_
        · rw [cell_fI (O.2.1.c (by decide))]; exact x21
        · rw [fI_wF_ne (by decide)]; exact p8
        · rw [cell_fI (O.2.1.c (by decide)), fo 1 8 (by decide) (by decide), cell_aI (O.2.1.c (by decide)), cell_aI (Ta.c (by decide))]
          exact ⟨by omega, fun q hq => C.2 q (by omega)⟩
        · rw [aI_wF, aI_wF, p86, p87]
          exact fun q hq => M q (by omega)
        · intro i hi
          rw [z83, v5 i hi, sn]
          unfold undoR
          rw [if_pos (by omega), show 5 + i - 5 = i by omega]
      · refine Told_T H.2.2.2.2.1 T (by decide) ?_ (fun q hq => ?_)
        · rw [fI_wF_eq sp rfl, cell_fI (O.2.1.c (by decide))]
          exact f13
        · simp only [List.mem_cons, List.not_mem_nil, or_false] at hq
          rcases hq with rfl | rfl | rfl | rfl | rfl | rfl | rfl | rfl | rfl
          · rw [cell_fI (O.2.1.c (by decide))]; exact fo _ _ (by decide) (by decide)
          · rw [(O.2.2 _ (by decide)).1]; exact fo _ _ (by decide) (by decide)
          · rw [cell_fI (O.2.1.c (by decide))]; exact fo _ _ (by decide) (by decide)
          · rw [(O.2.2 _ (by decide)).1]; exact fo _ _ (by decide) (by decide)
          · rw [cell_fI (O.2.1.c (by decide))]; exact fo _ _ (by decide) (by decide)
          · rw [(O.2.2 _ (by decide)).1]; exact fo _ _ (by decide) (by decide)
          · rw [cell_fI (O.2.1.c (by decide))]; exact fo _ _ (by decide) (by decide)
          · rw [(O.2.2 _ (by decide)).1]; exact fo _ _ (by decide) (by decide)
          · rw [(O.2.2 _ (by decide)).1]; exact fo _ _ (by decide) (by decide)
end UD
