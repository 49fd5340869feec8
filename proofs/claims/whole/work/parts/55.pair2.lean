section C8
variable {S : List Nat} {j : Nat} {h g : z_H}
theorem Yok_pair (H : Yok h 1) {n : Nat} (hn : n < 6) {c w l : Int32} (ok : okP c w l) (e8 : fI g 1 8 = Int32.ofNat (n + 1)) (e : ∀ k, k ≠ 8 → fI g 1 k = fI h 1 k) (a2 : aI g 2 = upd (aI h 2) n c) (a3 : aI g 3 = upd (aI h 3) n w) (a4 : aI g 4 = upd (aI h 4) n l) (a5 : aI g 5 = z4 (aI h 5) (4 * n)) (a6 : aI g 6 = aI h 6) (a7 : aI g 7 = aI h 7) (a8 : aI g 8 = aI h 8) : Yok g 1 := by
  obtain ⟨y1, y2, y3, y4, y5, y6, y7, y8, y9, y10⟩ := H
  obtain ⟨o1, o2, o3⟩ := ok
  unfold Yok
  simp only [e 9 (by decide), e 10 (by decide), e 11 (by decide), e 12 (by decide), e8, show aI g (1 + 1) = _ from a2, show aI g (1 + 2) = _ from a3, show aI g (1 + 3) = _ from a4, show aI g (1 + 4) = _ from a5, show aI g (1 + 5) = _ from a6, show aI g (1 + 6) = _ from a7, show aI g (1 + 7) = _ from a8]
  refine ⟨⟨n + 1, rfl, by omega⟩, y2, y3, y4, y5, fun i hi => ?_, fun i hi => ?_, y8, y9, y10⟩
  · obtain ⟨z1, z2, z3, z5, z6⟩ := y6 i hi
    by_cases ei : i = n
    · subst ei
      rw [upd_eq, upd_eq, upd_eq]
      exact ⟨nb_of o1.1 o1.2, nb_of o2.1 o2.2, nb_of o3.1 o3.2, z5, z6⟩
    · rw [upd_ne ei, upd_ne ei, upd_ne ei]
      exact ⟨z1, z2, z3, z5, z6⟩
  · by_cases ei : 4 * n ≤ i ∧ i < 4 * n + 4
    · rw [z4_in ei.1 ei.2]
      exact ⟨0, rfl, by omega⟩
    · rw [z4_out (by omega)]
      exact y7 i hi
theorem Yeq_pair (H : Yeq h 1 (aI h 83)) {n : Nat} (hn : n < 6) {c w l : Int32} (e8 : fI g 1 8 = Int32.ofNat (n + 1)) (e : ∀ k, k ≠ 8 → fI g 1 k = fI h 1 k) (a2 : aI g 2 = upd (aI h 2) n c) (a3 : aI g 3 = upd (aI h 3) n w) (a4 : aI g 4 = upd (aI h 4) n l) (a5 : aI g 5 = z4 (aI h 5) (4 * n)) (a6 : aI g 6 = aI h 6) (a7 : aI g 7 = aI h 7) (a8 : aI g 8 = aI h 8) (r : aI g 83 = rowP (aI h 83) n c w l) : Yeq g 1 (aI g 83) := by
  obtain ⟨q0, q4, q1, q2, q3, q5, q6, q7⟩ := H
  have rr : ∀ i, i ≠ 0 → (i < 20 + 4 * n ∨ 20 + 4 * n + 4 ≤ i) → i ≠ 8 + n → i ≠ 14 + n → i ≠ 44 + n → rowP (aI h 83) n c w l i = aI h 83 i := fun i b0 b1 b2 b3 b4 => by
    unfold rowP
    rw [upd_ne b0, z4_out b1, upd_ne b4, upd_ne b3, upd_ne b2]
  unfold Yeq
  simp only [e 9 (by decide), e 10 (by decide), e 11 (by decide), e 12 (by decide), e8, show aI g (1 + 1) = _ from a2, show aI g (1 + 2) = _ from a3, show aI g (1 + 3) = _ from a4, show aI g (1 + 4) = _ from a5, show aI g (1 + 5) = _ from a6, show aI g (1 + 6) = _ from a7, show aI g (1 + 7) = _ from a8, r]
  refine ⟨by unfold rowP; rw [upd_eq], by rw [rr 4 (by omega) (by omega) (by omega) (by omega) (by omega)]; exact q4, by rw [rr 1 (by omega) (by omega) (by omega) (by omega) (by omega)]; exact q1, by rw [rr 2 (by omega) (by omega) (by omega) (by omega) (by omega)]; exact q2, by rw [rr 3 (by omega) (by omega) (by omega) (by omega) (by omega)]; exact q3, fun i hi => ?_, fun i hi => ?_, fun i hi => ?_⟩
  · obtain ⟨z1, z2, z3, z5, z6⟩ := q5 i hi
    rw [rr (50 + 2 * i) (by omega) (by omega) (by omega) (by omega) (by omega), rr (51 + 2 * i) (by omega) (by omega) (by omega) (by omega) (by omega)]
    by_cases ei : i = n
    · subst ei
      rw [upd_eq, upd_eq, upd_eq]
      unfold rowP
      refine ⟨?_, ?_, ?_, z5, z6⟩
      · rw [upd_ne (by omega), z4_out (by omega), upd_ne (by omega), upd_ne (by omega), upd_eq]
      · rw [upd_ne (by omega), z4_out (by omega), upd_ne (by omega), upd_eq]
      · rw [upd_ne (by omega), z4_out (by omega), upd_eq]
    · rw [upd_ne ei, upd_ne ei, upd_ne ei, rr (8 + i) (by omega) (by omega) (by omega) (by omega) (by omega), rr (14 + i) (by omega) (by omega) (by omega) (by omega) (by omega), rr (44 + i) (by omega) (by omega) (by omega) (by omega) (by omega)]
      exact ⟨z1, z2, z3, z5, z6⟩
  · by_cases ei : 4 * n ≤ i ∧ i < 4 * n + 4
    · rw [z4_in ei.1 ei.2]
      unfold rowP
      rw [upd_ne (by omega), z4_in (by omega) (by omega)]
    · rw [z4_out (by omega), rr (20 + i) (by omega) (by omega) (by omega) (by omega) (by omega)]
      exact q6 i hi
  · rw [rr (5 + i) (by omega) (by omega) (by omega) (by omega) (by omega)]; exact q7 i hi
theorem pair_reads (hs : Sh h) (n : Nat) (c w l : Int32) : aI (pairC h n c w l) 2 = upd (aI h 2) n c ∧ aI (pairC h n c w l) 3 = upd (aI h 3) n w ∧ aI (pairC h n c w l) 4 = upd (aI h 4) n l ∧ aI (pairC h n c w l) 5 = z4 (aI h 5) (4 * n) ∧ fI (pairC h n c w l) 1 8 = Int32.ofNat (n + 1) ∧ (∀ a, a ∉ [2, 3, 4, 5] → aI (pairC h n c w l) a = aI h a) ∧ ∀ a k, ¬ (a = 1 ∧ k = 8) → fI (pairC h n c w l) a k = fI h a k := by
  have s1 : Sh (wA h 2 (upd (aI h 2) n c)) := Sh_wA hs rfl _
  have s2 : Sh (wA (wA h 2 (upd (aI h 2) n c)) 3 (upd (aI h 3) n w)) := Sh_wA s1 rfl _
  have s3 : Sh (wA (wA (wA h 2 (upd (aI h 2) n c)) 3 (upd (aI h 3) n w)) 4 (upd (aI h 4) n l)) := Sh_wA s2 rfl _
  have s4 : Sh (wA (wA (wA (wA h 2 (upd (aI h 2) n c)) 3 (upd (aI h 3) n w)) 4 (upd (aI h 4) n l)) 5 (z4 (aI h 5) (4 * n))) := Sh_wA s3 rfl _
  refine ⟨?_, ?_, ?_, ?_, ?_, fun a ha => ?_, fun a k hk => ?_⟩
  · unfold pairC; rw [aI_wF, aI_wA_ne (by decide), aI_wA_ne (by decide), aI_wA_ne (by decide)]; exact aI_wA_eq hs rfl _
  · unfold pairC; rw [aI_wF, aI_wA_ne (by decide), aI_wA_ne (by decide)]; exact aI_wA_eq s1 rfl _
  · unfold pairC; rw [aI_wF, aI_wA_ne (by decide)]; exact aI_wA_eq s2 rfl _
  · unfold pairC; rw [aI_wF]; exact aI_wA_eq s3 rfl _
  · unfold pairC; exact fI_wF_eq s4 rfl _
  · simp only [List.mem_cons, List.not_mem_nil, or_false, not_or] at ha
    unfold pairC; rw [aI_wF, aI_wA_ne ha.2.2.2, aI_wA_ne ha.2.2.1, aI_wA_ne ha.2.1, aI_wA_ne ha.1]
  · unfold pairC; rw [fI_wF_ne hk, fI_wA, fI_wA, fI_wA, fI_wA]
theorem pair_T (n : Nat) (c w l : Int32) : Tch [1, 2, 3, 4, 5] h (pairC h n c w l) := Tch_wF (Tch_wA (Tch_wA (Tch_wA (Tch_wA (Tch_rfl _ h) (by decide) _) (by decide) _) (by decide) _) (by decide) _) (by decide) _ _
theorem Tch.mono {S S' : List Nat} {h h' : z_H} (T : Tch S h h') (hs : ∀ a ∈ S, a ∈ S') : Tch S' h h' := ⟨T.1, T.2.1, fun a ha => T.2.2 a (fun q => ha (hs a q))⟩
theorem pair_yes (H : Inv j h) {c w l : Int32} (ok : okP c w l) {n : Nat} (hn : n < 6) (en : fI h 1 8 = Int32.ofNat n) : Agree Inv j h (fun h => D_X10_pair h (some 0) c w l) (fun h => D_X11_pair h (some 81) c w l) := by
  have hs := H.1
  have q0 : aI h 83 0 = fI h 1 8 := H.2.2.1.2.1.1
  obtain ⟨p2, p3, p4, p5, p8, pA, pF⟩ := pair_reads hs n c w l
  have s1 := Sh_pairC hs n c w l
  have T1 := pair_T (h := h) n c w l
  have dA := d_add hs hn en c w l
  generalize pairC h n c w l = hP at *
  have s2 : Sh (wF hP 21 1 (.int 0)) := Sh_wF s1 rfl _
  have s3 : Sh (wF (wF hP 21 1 (.int 0)) 0 13 (.int 0)) := Sh_wF s2 rfl _
  have f8 : fI (wF hP 21 1 (.int 0)) 1 8 = Int32.ofNat (n + 1) := by rw [fI_wF_ne (by decide)]; exact p8
  generalize eC : wF (wF hP 21 1 (.int 0)) 0 13 (.int 0) = hC at *
  have s4 := Sh_t0 s3
  have e83 : aI (t0 hC) 83 = aI h 83 := by rw [aI_wF, ← eC, aI_wF, aI_wF]; exact pA 83 (by decide)
  have s5 : Sh (wA (t0 hC) 83 (rowP (aI h 83) n c w l)) := Sh_wA s4 rfl _
  have s6 : Sh (wF (wA (t0 hC) 83 (rowP (aI h 83) n c w l)) 81 8 (.int 0)) := Sh_wF s5 rfl _
  have dC := d_come_yes s4 hn (by rw [e83, q0]; exact en) ok
  rw [e83] at dC
  refine ⟨Int32.ofNat n, hC, wF (wF (wA (t0 hC) 83 (rowP (aI h 83) n c w l)) 81 8 (.int 0)) 81 1 (.int 0), ?_, ob81 s3, ?_, ?_⟩
  · have n6 : Int32.ofNat n < 6 := by rw [Int32.lt_iff_toInt_lt, Int32.toInt_ofNat_of_lt (by omega)]; show (n : Int) < 6; omega
    have e1 : Int32.ofNat (n + 1) - 1 = Int32.ofNat n := sc_sub (i := n + 1) (k := 1) (by omega)
    simp only [D_X10_pair, can_yes ok, Option.bind_some, rdQ_c hs, rdF_c hs, en, n6, if_true, rdO_c hs, dA, rdQ_c s1, wrF_c s1, rdQ_c s2, rdF_c s2, f8, rdO_c s2, e1, d_grant s2, eC]
    rw [if_neg one_ne]
  · have n0 : (0 : Int32) ≤ Int32.ofNat n := by rw [ge0, Int32.toInt_ofNat_of_lt (by omega)]; omega
    simp only [D_X11_pair, wrF_m s3, Option.bind_some, rdO_m s4, dC, rdO_m s5, D_X11_lasting, n0, if_true, D_X11_lasting_13, wrF_m s5, rdO_m s6, d_tell_ok s6 n0]
  · generalize e2 : wF (wF (wA (t0 hC) 83 (rowP (aI h 83) n c w l)) 81 8 (.int 0)) 81 1 (.int 0) = g
    have s7 : Sh g := by rw [← e2]; exact Sh_wF s6 rfl _
    have T : Tch [0, 1, 2, 3, 4, 5, 21, 81, 83] h g := by
      rw [← e2, ← eC]
      exact Tch_wF (Tch_wF (Tch_wA (Tch_wF (Tch_wF (Tch_wF (T1.mono (by decide)) (by decide) _ _) (by decide) _ _) (by decide) _ _) (by decide) _) (by decide) _ _) (by decide) _ _
    have r83 : aI g 83 = rowP (aI h 83) n c w l := by rw [← e2, aI_wF, aI_wF]; exact aI_wA_eq s4 rfl _
    have rA : ∀ a, a ≠ 83 → aI g a = aI hP a := fun a ha => by rw [← e2, aI_wF, aI_wF, aI_wA_ne ha, aI_wF, ← eC, aI_wF, aI_wF]
    have rF : ∀ a k, ¬ (a = 21 ∧ k = 1) → ¬ (a = 0 ∧ k = 13) → ¬ (a = 81 ∧ k = 0) → ¬ (a = 81 ∧ k = 8) → ¬ (a = 81 ∧ k = 1) → fI g a k = fI hP a k := fun a k e1 e3 e4 e5 e6 => by
      rw [← e2, fI_wF_ne e6, fI_wF_ne e5, fI_wA, fI_wF_ne e4, ← eC, fI_wF_ne e3, fI_wF_ne e1]
    have rF2 : ∀ a k, ¬ (a = 1 ∧ k = 8) → ¬ (a = 21 ∧ k = 1) → ¬ (a = 0 ∧ k = 13) → ¬ (a = 81 ∧ k = 0) → ¬ (a = 81 ∧ k = 8) → ¬ (a = 81 ∧ k = 1) → fI g a k = fI h a k := fun a k e0 e1 e3 e4 e5 e6 => (rF a k e1 e3 e4 e5 e6).trans (pF a k e0)
    have r13 : fI g 0 13 = 0 := by rw [← e2, fI_wF_ne (by decide), fI_wF_ne (by decide), fI_wA, fI_wF_ne (by decide), ← eC, fI_wF_eq s2 rfl]
    have r21 : fI g 21 1 = 0 := by rw [← e2, fI_wF_ne (by decide), fI_wF_ne (by decide), fI_wA, fI_wF_ne (by decide), ← eC, fI_wF_ne (by decide), fI_wF_eq s1 rfl]
    have r8 : fI g 81 8 = 0 := by rw [← e2, fI_wF_ne (by decide), fI_wF_eq s5 rfl]
    have r1 : fI g 81 1 = 0 := by rw [← e2, fI_wF_eq s6 rfl]
    have g8 : fI g 1 8 = Int32.ofNat (n + 1) := (rF 1 8 (by decide) (by decide) (by decide) (by decide) (by decide)).trans p8
    have gk : ∀ k, k ≠ 8 → fI g 1 k = fI h 1 k := fun k hk => rF2 1 k (by omega) (by omega) (by omega) (by omega) (by omega) (by omega)
    have g2 := (rA 2 (by decide)).trans p2
    have g3 := (rA 3 (by decide)).trans p3
    have g4 := (rA 4 (by decide)).trans p4
    have g5 := (rA 5 (by decide)).trans p5
    have g6 := (rA 6 (by decide)).trans (pA 6 (by decide))
    have g7 := (rA 7 (by decide)).trans (pA 7 (by decide))
    have g9 := (rA 8 (by decide)).trans (pA 8 (by decide))
    refine Inv_yard H s7 T (by decide) (by decide) (rF2 _ _ (by decide) (by decide) (by decide) (by decide) (by decide) (by decide)) (gk 11 (by decide)) (fun i hi => by
      rw [r83]; unfold rowP
      rw [upd_ne (by omega), z4_out (by omega), upd_ne (by omega), upd_ne (by omega), upd_ne (by omega)]) (Yok_pair H.2.2.1.1 hn ok g8 gk g2 g3 g4 g5 g6 g7 g9) (Yeq_pair H.2.2.1.2.1 hn g8 gk g2 g3 g4 g5 g6 g7 g9 r83) (Ulog_zero r8 r21) (Told_T H.2.2.2.2.1 T (by decide) (by rw [r13, r1]) (fun q hq => ?_))
    simp only [List.mem_cons, List.not_mem_nil, or_false] at hq
    rcases hq with rfl | rfl | rfl | rfl | rfl | rfl | rfl | rfl | rfl <;> exact rF2 _ _ (by decide) (by decide) (by decide) (by decide) (by decide) (by decide)
theorem d_lasting_no (hs : Sh h) {k : Nat} (hk : k < 7) (h0 : 0 < k) : D_X11_lasting h (some 81) (-(Int32.ofNat k)) = some (-(Int32.ofNat k), rfM (wF h 81 8 (.int (fI h 81 8))) k) := by
  have s1 : Sh (wF h 81 8 (.int (fI h 81 8))) := Sh_wF hs rfl _
  have e2 : ¬ 0 ≤ -(Int32.ofNat k) := by
    have : k = 1 ∨ k = 2 ∨ k = 3 ∨ k = 4 ∨ k = 5 ∨ k = 6 := by omega
    rcases this with rfl | rfl | rfl | rfl | rfl | rfl <;> decide
  simp only [D_X11_lasting, e2, if_false, rdF_m hs, Option.bind_some, D_X11_lasting_13, wrF_m hs, rdO_m s1, d_tell_no s1 hk h0]
theorem wF_self (hs : Sh h) {a k : Nat} (e : isF a k = true) : wF h a k (.int (fI h a k)) = h := by
  obtain ⟨ci, ks, h1, h2⟩ := isF_spec e
  have hk : k < ks.length := (List.getElem?_eq_some_iff.mp h2).1
  have e0 := s_obj hs h1
  have e1 : (ks.mapIdx (fun k kd => fval h a k kd)).set k (.int (fI h a k)) = ks.mapIdx (fun k kd => fval h a k kd) := by
    apply List.ext_getElem?
    intro q
    by_cases eq : k = q
    · subst eq
      rw [List.getElem?_set_self (by simpa using hk), List.getElem?_mapIdx, h2]
      rfl
    · rw [List.getElem?_set_ne eq]
  unfold wF
  rw [e0]
  simp only [e1, z_up]
  refine Prod.ext rfl (Prod.ext rfl ?_)
  funext q
  by_cases hq : q = a
  · subst hq; simp [e0]
  · simp [hq]
theorem pair_no (H : Inv j h) {c w l : Int32} {k : Nat} (hk : k < 7) (h0 : 0 < k) (e1 : D_X10_pair h (some 0) c w l = some (-(Int32.ofNat k), rfC h k)) (e2 : ∀ g, Sh g → aI g 83 = aI h 83 → D_X11_come g (some 81) c w l = some (-(Int32.ofNat k), g)) : Agree Inv j h (fun h => D_X10_pair h (some 0) c w l) (fun h => D_X11_pair h (some 81) c w l) := by
  have hs := H.1
  have s1 := Sh_rfC hs k
  have s2 := Sh_t0 s1
  have e83 : aI (t0 (rfC h k)) 83 = aI h 83 := by rw [aI_wF]; exact cell_aI ((rfC_cells h k).c (by decide))
  refine agree_no H hk e1 ?_
  show D_X11_pair (rfC h k) (some 81) c w l = _
  simp only [D_X11_pair, wrF_m s1, Option.bind_some, rdO_m s2, e2 _ s2 e83, d_lasting_no s2 hk h0, wF_self s2 (show isF 81 8 = true from rfl)]
theorem a_pair (H : Inv j h) (c w l : Int32) : Agree Inv j h (fun h => D_X10_pair h (some 0) c w l) (fun h => D_X11_pair h (some 81) c w l) := by
  have hs := H.1
  have q0 : aI h 83 0 = fI h 1 8 := H.2.2.1.2.1.1
  by_cases ok : okP c w l
  · obtain ⟨n, e, hn⟩ := H.2.2.1.1.1
    rcases Nat.lt_or_ge n 6 with q | q
    · exact pair_yes H ok q e
    · have : n = 6 := by omega
      subst this
      have e6 : fI h 1 8 = 6 := e
      refine pair_no H (k := 5) (by decide) (by decide) ?_ (fun g sg eg => d_come_full sg (by rw [eg, q0]; exact e6) ok)
      show D_X10_pair h (some 0) c w l = some (-5, rfC h 5)
      simp only [D_X10_pair, can_yes ok, Option.bind_some, rdQ_c hs, rdF_c hs, e6, rdO_c hs, rfs hs]
      rw [if_neg one_ne, if_neg (by decide)]
  · refine pair_no H (k := 1) (by decide) (by decide) ?_ (fun g _ _ => d_come_no ok)
    show D_X10_pair h (some 0) c w l = some (-1, rfC h 1)
    simp only [D_X10_pair, can_no ok, Option.bind_some, if_true, rdO_c hs, rfs hs]
end C8
