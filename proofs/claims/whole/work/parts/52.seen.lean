theorem sc_mul (i k : Nat) : Int32.ofNat i * Int32.ofNat k = Int32.ofNat (i * k) := (Int32.ofNat_mul i k).symm
theorem one_ne : ¬ (1 : Int32) = 0 := by decide
theorem part_yes {x : Int32} (e : 0 ≤ x.toInt ∧ x.toInt ≤ 3) (g : z_H) : D_X10_isPart g x = some (1, g) := by
  unfold D_X10_isPart
  rw [if_neg (by rw [lt0]; omega), if_neg (by rw [Int32.le_iff_toInt_le]; show ¬ (4 : Int) ≤ x.toInt; omega)]
theorem part_no {x : Int32} (e : ¬ (0 ≤ x.toInt ∧ x.toInt ≤ 3)) (g : z_H) : D_X10_isPart g x = some (0, g) := by
  unfold D_X10_isPart
  by_cases h0 : x < 0
  · rw [if_pos h0]
  · rw [if_neg h0, if_pos]
    rw [lt0] at h0
    rw [Int32.le_iff_toInt_le]; show (4 : Int) ≤ x.toInt; omega
theorem cell_yes {x : Int32} (e : 0 ≤ x.toInt ∧ x.toInt ≤ 24) (g : z_H) : D_X10_isCell g x = some (1, g) := by
  unfold D_X10_isCell
  rw [if_neg (by rw [lt0]; omega), if_neg (by rw [Int32.le_iff_toInt_le]; show ¬ (25 : Int) ≤ x.toInt; omega)]
theorem cell_no {x : Int32} (e : ¬ (0 ≤ x.toInt ∧ x.toInt ≤ 24)) (g : z_H) : D_X10_isCell g x = some (0, g) := by
  unfold D_X10_isCell
  by_cases h0 : x < 0
  · rw [if_pos h0]
  · rw [if_neg h0, if_pos]
    rw [lt0] at h0
    rw [Int32.le_iff_toInt_le]; show (25 : Int) ≤ x.toInt; omega
theorem partM_yes {x : Int32} (e : 0 ≤ x.toInt ∧ x.toInt ≤ 3) (g : z_H) : D_X11_isPart g x = some (1, g) := by
  unfold D_X11_isPart
  rw [d_in_yes (by rw [wide]; exact e), Option.bind_some, if_pos (Or.inr rfl)]
theorem partM_no {x : Int32} (e : ¬ (0 ≤ x.toInt ∧ x.toInt ≤ 3)) (g : z_H) : D_X11_isPart g x = some (0, g) := by
  unfold D_X11_isPart
  rw [d_in_no (by rw [wide]; exact e), Option.bind_some, if_pos (Or.inl rfl)]
theorem cellM_yes {x : Int32} (e : 0 ≤ x.toInt ∧ x.toInt ≤ 24) (g : z_H) : D_X11_isCell g x = some (1, g) := by
  unfold D_X11_isCell
  rw [d_in_yes (by rw [wide]; exact e), Option.bind_some, if_pos (Or.inr rfl)]
theorem cellM_no {x : Int32} (e : ¬ (0 ≤ x.toInt ∧ x.toInt ≤ 24)) (g : z_H) : D_X11_isCell g x = some (0, g) := by
  unfold D_X11_isCell
  rw [d_in_no (by rw [wide]; exact e), Option.bind_some, if_pos (Or.inl rfl)]
section C5
variable {S : List Nat} {j : Nat} {h h2 : z_H}
theorem seen_no1 (H : Inv j h) {x v : Int32} (hc : ¬ ((0 ≤ x.toInt ∧ x.toInt ≤ 3) ∧ (0 ≤ v.toInt ∧ v.toInt ≤ 99))) : Agree Inv j h (fun h => D_X10_seen h (some 0) x v) (fun h => D_X11_seen h (some 81) x v) := by
  have hs := H.1
  have s1 := Sh_rfC hs 1
  have s2 := Sh_t0 s1
  have e17 : D_X10_seen_17 h (some 0) = some (-1, rfC h 1) := by
    simp only [D_X10_seen_17, rdO_c hs, Option.bind_some, rfs hs]
  have e24 : D_X11_seen_24 (t0 (rfC h 1)) (some 81) = some (-1, rfM (t0 (rfC h 1)) 1) := by
    simp only [D_X11_seen_24, rdO_m s2, Option.bind_some, tls s2]
  refine agree_no H (k := 1) (by decide) ?_ ?_
  · show D_X10_seen h (some 0) x v = some (-1, rfC h 1)
    unfold D_X10_seen
    by_cases n1 : 0 ≤ x.toInt ∧ x.toInt ≤ 3
    · rw [part_yes n1, Option.bind_some, if_neg one_ne]
      by_cases n2 : v < 0
      · rw [if_pos n2]; exact e17
      · rw [if_neg n2, if_neg]
        · exact e17
        · rw [lt0] at n2
          rw [Int32.le_iff_toInt_le]; show ¬ v.toInt ≤ (99 : Int); omega
    · rw [part_no n1, Option.bind_some, if_pos rfl]; exact e17
  · show D_X11_seen (rfC h 1) (some 81) x v = some (-1, rfM (t0 (rfC h 1)) 1)
    unfold D_X11_seen
    rw [wrF_m s1 |>.1, Option.bind_some]
    by_cases n1 : 0 ≤ x.toInt ∧ x.toInt ≤ 3
    · rw [partM_yes n1, Option.bind_some, if_neg one_ne, d_in_no (by rw [wide]; exact fun q => hc ⟨n1, q⟩), Option.bind_some, if_pos rfl]
      exact e24
    · rw [partM_no n1, Option.bind_some, if_pos rfl]
      exact e24
theorem seen_no5 (H : Inv j h) {x v : Int32} (c1 : 0 ≤ x.toInt ∧ x.toInt ≤ 3) (c2 : 0 ≤ v.toInt ∧ v.toInt ≤ 99) (c3 : fI h 1 10 = 6) : Agree Inv j h (fun h => D_X10_seen h (some 0) x v) (fun h => D_X11_seen h (some 81) x v) := by
  have hs := H.1
  have s1 := Sh_rfC hs 5
  have s2 := Sh_t0 s1
  have q1 : aI h 83 1 = fI h 1 10 := H.2.2.1.2.1.2.2.1
  refine agree_no H (k := 5) (by decide) ?_ ?_
  · show D_X10_seen h (some 0) x v = some (-5, rfC h 5)
    have n2 : ¬ v < 0 := by rw [lt0]; omega
    have n3 : v ≤ 99 := by rw [Int32.le_iff_toInt_le]; exact c2.2
    simp only [D_X10_seen, part_yes c1, Option.bind_some, n2, if_false, n3, if_true, rdQ_c hs, rdF_c hs, c3, rdO_c hs, rfs hs]
    rw [if_neg (by decide), if_neg (by decide)]
  · show D_X11_seen (rfC h 5) (some 81) x v = some (-5, rfM (t0 (rfC h 5)) 5)
    have e83 : aI (t0 (rfC h 5)) 83 = aI h 83 := by rw [aI_wF]; exact cell_aI ((rfC_cells h 5).c (by decide))
    have i1 := d_in_yes (a := v.toInt64) (b := 0) (c := 99) (by rw [wide]; exact c2)
    simp only [D_X11_seen, wrF_m s1, Option.bind_some, partM_yes c1, i1, rdQ_m s2, rdA_m s2, e83, iRs, Nat.reduceLT, Nat.reduceLeDiff, q1, c3, rdO_m s2, tls s2, if_true]
    rw [if_neg (by decide), if_neg (by decide)]
theorem seen_yes (H : Inv j h) {x v : Int32} (c1 : 0 ≤ x.toInt ∧ x.toInt ≤ 3) (c2 : 0 ≤ v.toInt ∧ v.toInt ≤ 99) {n : Nat} (hn : n < 6) (c3 : fI h 1 10 = Int32.ofNat n) : Agree Inv j h (fun h => D_X10_seen h (some 0) x v) (fun h => D_X11_seen h (some 81) x v) := by
  have hs := H.1
  obtain ⟨y1, y2, y3, y4, y5, y6, y7, y8, y9, y10⟩ := H.2.2.1.1
  obtain ⟨q0, q4, q1, q2, q3, q5, q6, q7⟩ := H.2.2.1.2.1
  have en : (Int32.ofNat n).toNatClampNeg = n := tn_of (by omega)
  have e1 : (Int32.ofNat n + 1) = Int32.ofNat (n + 1) := sc_add n 1
  have e50 : ((50 : Int32) + (2 : Int32) * Int32.ofNat n) = Int32.ofNat (50 + 2 * n) := by
    rw [show ((2 : Int32) * Int32.ofNat n) = Int32.ofNat (2 * n) from sc_mul 2 n]; exact sc_add 50 (2 * n)
  have e51 : (Int32.ofNat (50 + 2 * n) + 1) = Int32.ofNat (51 + 2 * n) := by rw [show 51 + 2 * n = 50 + 2 * n + 1 by omega]; exact sc_add (50 + 2 * n) 1
  have t50 : (Int32.ofNat (50 + 2 * n)).toNatClampNeg = 50 + 2 * n := tn_of (by omega)
  have t51 : (Int32.ofNat (51 + 2 * n)).toNatClampNeg = 51 + 2 * n := tn_of (by omega)
  have s1 : Sh (wA h 7 (upd (aI h 7) n x)) := Sh_wA hs rfl _
  have s2 : Sh (wA (wA h 7 (upd (aI h 7) n x)) 8 (upd (aI h 8) n v)) := Sh_wA s1 rfl _
  have s3 : Sh (wF (wA (wA h 7 (upd (aI h 7) n x)) 8 (upd (aI h 8) n v)) 1 10 (.int (Int32.ofNat (n + 1)))) := Sh_wF s2 rfl _
  have s4 : Sh (wF (wF (wA (wA h 7 (upd (aI h 7) n x)) 8 (upd (aI h 8) n v)) 1 10 (.int (Int32.ofNat (n + 1)))) 0 13 (.int 0)) := Sh_wF s3 rfl _
  generalize eC : wF (wF (wA (wA h 7 (upd (aI h 7) n x)) 8 (upd (aI h 8) n v)) 1 10 (.int (Int32.ofNat (n + 1)))) 0 13 (.int 0) = hC at *
  have s5 := Sh_t0 s4
  have e83 : aI hC 83 = aI h 83 := by rw [← eC, aI_wF, aI_wF, aI_wA_ne (by decide), aI_wA_ne (by decide)]
  have s6 : Sh (wA (t0 hC) 83 (upd (aI h 83) (50 + 2 * n) x)) := Sh_wA s5 rfl _
  have a6 : aI (wA (t0 hC) 83 (upd (aI h 83) (50 + 2 * n) x)) 83 = upd (aI h 83) (50 + 2 * n) x := aI_wA_eq s5 rfl _
  have s7 : Sh (wA (wA (t0 hC) 83 (upd (aI h 83) (50 + 2 * n) x)) 83 (upd (upd (aI h 83) (50 + 2 * n) x) (51 + 2 * n) v)) := Sh_wA s6 rfl _
  have a7 : aI (wA (wA (t0 hC) 83 (upd (aI h 83) (50 + 2 * n) x)) 83 (upd (upd (aI h 83) (50 + 2 * n) x) (51 + 2 * n) v)) 83 = upd (upd (aI h 83) (50 + 2 * n) x) (51 + 2 * n) v := aI_wA_eq s6 rfl _
  generalize eM : wA (wA (t0 hC) 83 (upd (aI h 83) (50 + 2 * n) x)) 83 (upd (upd (aI h 83) (50 + 2 * n) x) (51 + 2 * n) v) = hM at *
  have a71 : upd (upd (aI h 83) (50 + 2 * n) x) (51 + 2 * n) v 1 = Int32.ofNat n := by rw [upd_ne (by omega), upd_ne (by omega), q1, c3]
  have s8 : Sh (wA hM 83 (upd (upd (upd (aI h 83) (50 + 2 * n) x) (51 + 2 * n) v) 1 (Int32.ofNat (n + 1)))) := Sh_wA s7 rfl _
  refine ⟨Int32.ofNat (n + 1), hC, wF (wA hM 83 (upd (upd (upd (aI h 83) (50 + 2 * n) x) (51 + 2 * n) v) 1 (Int32.ofNat (n + 1)))) 81 1 (.int 0), ?_, ob81 s4, ?_, ?_⟩
  · have n2 : ¬ v < 0 := by rw [lt0]; omega
    have n3 : v ≤ 99 := by rw [Int32.le_iff_toInt_le]; exact c2.2
    have n4 : Int32.ofNat n < 6 := by rw [Int32.lt_iff_toInt_lt, Int32.toInt_ofNat_of_lt (by omega)]; show (n : Int) < 6; omega
    have f1 : fI (wA h 7 (upd (aI h 7) n x)) 1 10 = Int32.ofNat n := by rw [fI_wA]; exact c3
    have f2 : fI (wA (wA h 7 (upd (aI h 7) n x)) 8 (upd (aI h 8) n v)) 1 10 = Int32.ofNat n := by rw [fI_wA, fI_wA]; exact c3
    have f3 : fI (wF (wA (wA h 7 (upd (aI h 7) n x)) 8 (upd (aI h 8) n v)) 1 10 (.int (Int32.ofNat (n + 1)))) 1 10 = Int32.ofNat (n + 1) := fI_wF_eq s2 rfl _
    have g8 : aI (wA h 7 (upd (aI h 7) n x)) 8 = aI h 8 := aI_wA_ne (by decide)
    simp only [D_X10_seen, part_yes c1, Option.bind_some, n2, if_false, n3, if_true, rdQ_c hs, rdF_c hs, c3, n4, wrA_c hs, iW_ofNat (show n < 6 from hn) (by decide), en, rdQ_c s1, rdF_c s1, f1, wrA_c s1, g8, rdQ_c s2, rdF_c s2, f2, wrF_c s2, e1, rdQ_c s3, rdF_c s3, f3, rdO_c s3, d_grant s3, eC]
    rw [if_neg (by decide)]
  · have i1 := d_in_yes (a := v.toInt64) (b := 0) (c := 99) (by rw [wide]; exact c2)
    have n6 : ¬ Int32.ofNat n = 6 := by
      intro q
      have := congrArg Int32.toInt q
      rw [Int32.toInt_ofNat_of_lt (by omega)] at this
      have e : (6 : Int32).toInt = 6 := by decide
      omega
    have n0 : (0 : Int32) ≤ Int32.ofNat (n + 1) := by rw [ge0, Int32.toInt_ofNat_of_lt (by omega)]; omega
    simp only [D_X11_seen, wrF_m s4, Option.bind_some, partM_yes c1, i1, rdQ_m s5, rdA_m s5, aI_wF, e83, iRs, iWs, tns, Nat.reduceLT, Nat.reduceLeDiff, q1, c3, n6, if_false, wrA_m s5, e50, iW_ofNat (show 50 + 2 * n < 5462 by omega) (by decide), t50, rdQ_m s6, wrA_m s6, e51, iW_ofNat (show 51 + 2 * n < 5462 by omega) (by decide), t51, a6, eM, rdQ_m s7, rdA_m s7, wrA_m s7, a7, a71, e1, rdO_m s8, d_tell_ok s8 n0]
    rw [if_neg (by decide), if_neg (by decide)]
  · generalize e2 : wF (wA hM 83 (upd (upd (upd (aI h 83) (50 + 2 * n) x) (51 + 2 * n) v) 1 (Int32.ofNat (n + 1)))) 81 1 (.int 0) = g
    have s9 : Sh g := by rw [← e2]; exact Sh_wF s8 rfl _
    have T : Tch [0, 1, 7, 8, 81, 83] h g := by
      rw [← e2, ← eM, ← eC]
      exact Tch_wF (Tch_wA (Tch_wA (Tch_wA (Tch_wF (Tch_wF (Tch_wF (Tch_wA (Tch_wA (Tch_rfl _ h) (by decide) _) (by decide) _) (by decide) _ _) (by decide) _ _) (by decide) _ _) (by decide) _) (by decide) _) (by decide) _) (by decide) _ _
    have r83 : aI g 83 = upd (upd (upd (aI h 83) (50 + 2 * n) x) (51 + 2 * n) v) 1 (Int32.ofNat (n + 1)) := by rw [← e2, aI_wF]; exact aI_wA_eq s7 rfl _
    have rr : ∀ i, i ≠ 1 → i ≠ 50 + 2 * n → i ≠ 51 + 2 * n → aI g 83 i = aI h 83 i := fun i a b c => by rw [r83, upd_ne a, upd_ne c, upd_ne b]
    have r7 : aI g 7 = upd (aI h 7) n x := by
      rw [← e2, aI_wF, aI_wA_ne (by decide), ← eM, aI_wA_ne (by decide), aI_wA_ne (by decide), aI_wF, ← eC, aI_wF, aI_wF, aI_wA_ne (by decide)]; exact aI_wA_eq hs rfl _
    have r8 : aI g 8 = upd (aI h 8) n v := by
      rw [← e2, aI_wF, aI_wA_ne (by decide), ← eM, aI_wA_ne (by decide), aI_wA_ne (by decide), aI_wF, ← eC, aI_wF, aI_wF]; exact aI_wA_eq s1 rfl _
    have rF : ∀ a k, ¬ (a = 1 ∧ k = 10) → ¬ (a = 0 ∧ k = 13) → ¬ (a = 81 ∧ k = 0) → ¬ (a = 81 ∧ k = 1) → fI g a k = fI h a k := fun a k e1 e3 e4 e5 => by
      rw [← e2, fI_wF_ne e5, fI_wA, ← eM, fI_wA, fI_wA, fI_wF_ne e4, ← eC, fI_wF_ne e3, fI_wF_ne e1, fI_wA, fI_wA]
    have r10 : fI g 1 10 = Int32.ofNat (n + 1) := by
      rw [← e2, fI_wF_ne (by decide), fI_wA, ← eM, fI_wA, fI_wA, fI_wF_ne (by decide), ← eC, fI_wF_ne (by decide), fI_wF_eq s2 rfl]
    have r13 : fI g 0 13 = 0 := by
      rw [← e2, fI_wF_ne (by decide), fI_wA, ← eM, fI_wA, fI_wA, fI_wF_ne (by decide), ← eC, fI_wF_eq s3 rfl]
    have r1 : fI g 81 1 = 0 := by rw [← e2, fI_wF_eq s8 rfl]
    have rA : ∀ a, a ∉ [0, 1, 7, 8, 81, 83] → aI g a = aI h a := fun a ha => cell_aI (T.c ha)
    have rF1 : ∀ k, k ≠ 10 → fI g 1 k = fI h 1 k := fun k hk => rF 1 k (by omega) (by omega) (by omega) (by omega)
    refine Inv_yard H s9 T (by decide) (by decide) (rF _ _ (by decide) (by decide) (by decide) (by decide)) (rF1 11 (by decide)) (fun i hi => rr i (by omega) (by omega) (by omega)) ?_ ?_ (Ulog_R H.2.2.2.1 (rF _ _ (by decide) (by decide) (by decide) (by decide)) (rF _ _ (by decide) (by decide) (by decide) (by decide)) (rF1 8 (by decide)) (rA _ (by decide)) (rA _ (by decide)) (rA _ (by decide)) (fun q hq => rr _ (by omega) (by omega) (by omega))) (Told_T H.2.2.2.2.1 T (by decide) (by rw [r13, r1]) (fun q hq => ?_))
    · unfold Yok
      simp only [rA (1 + 1) (by decide), rA (1 + 2) (by decide), rA (1 + 3) (by decide), rA (1 + 4) (by decide), rA (1 + 5) (by decide), rF1 8 (by decide), rF1 9 (by decide), rF1 11 (by decide), rF1 12 (by decide), r10, show aI g (1 + 6) = upd (aI h 7) n x from r7, show aI g (1 + 7) = upd (aI h 8) n v from r8]
      refine ⟨y1, y2, ⟨n + 1, rfl, by omega⟩, y4, y5, fun i hi => ?_, y7, y8, y9, y10⟩
      obtain ⟨z1, z2, z3, z4, z5⟩ := y6 i hi
      by_cases ei : i = n
      · subst ei
        rw [upd_eq, upd_eq]
        exact ⟨z1, z2, z3, nb_of c1.1 c1.2, nb_of c2.1 c2.2⟩
      · rw [upd_ne ei, upd_ne ei]
        exact ⟨z1, z2, z3, z4, z5⟩
    · unfold Yeq
      simp only [rA (1 + 1) (by decide), rA (1 + 2) (by decide), rA (1 + 3) (by decide), rA (1 + 4) (by decide), rA (1 + 5) (by decide), rF1 8 (by decide), rF1 9 (by decide), rF1 11 (by decide), rF1 12 (by decide), r10, show aI g (1 + 6) = upd (aI h 7) n x from r7, show aI g (1 + 7) = upd (aI h 8) n v from r8]
      refine ⟨by rw [rr 0 (by omega) (by omega) (by omega)]; exact q0, by rw [rr 4 (by omega) (by omega) (by omega)]; exact q4, by rw [r83, upd_eq], by rw [rr 2 (by omega) (by omega) (by omega)]; exact q2, by rw [rr 3 (by omega) (by omega) (by omega)]; exact q3, fun i hi => ?_, fun i hi => ?_, fun i hi => ?_⟩
      · obtain ⟨z1, z2, z3, z4, z5⟩ := q5 i hi
        rw [rr (8 + i) (by omega) (by omega) (by omega), rr (14 + i) (by omega) (by omega) (by omega), rr (44 + i) (by omega) (by omega) (by omega)]
        by_cases ei : i = n
        · subst ei
          rw [upd_eq, upd_eq, r83]
          exact ⟨z1, z2, z3, by rw [upd_ne (by omega), upd_ne (by omega), upd_eq], by rw [upd_ne (by omega), upd_eq]⟩
        · rw [upd_ne ei, upd_ne ei, rr (50 + 2 * i) (by omega) (by omega) (by omega), rr (51 + 2 * i) (by omega) (by omega) (by omega)]
          exact ⟨z1, z2, z3, z4, z5⟩
      · rw [rr (20 + i) (by omega) (by omega) (by omega)]; exact q6 i hi
      · rw [rr (5 + i) (by omega) (by omega) (by omega)]; exact q7 i hi
    · simp only [List.mem_cons, List.not_mem_nil, or_false] at hq
      rcases hq with rfl | rfl | rfl | rfl | rfl | rfl | rfl | rfl | rfl <;> exact rF _ _ (by decide) (by decide) (by decide) (by decide)
theorem a_seen (H : Inv j h) (x v : Int32) : Agree Inv j h (fun h => D_X10_seen h (some 0) x v) (fun h => D_X11_seen h (some 81) x v) := by
  by_cases hc : (0 ≤ x.toInt ∧ x.toInt ≤ 3) ∧ (0 ≤ v.toInt ∧ v.toInt ≤ 99)
  · obtain ⟨n, e, hn⟩ := H.2.2.1.1.2.2.1
    rcases Nat.lt_or_ge n 6 with q | q
    · exact seen_yes H hc.1 hc.2 q e
    · have : n = 6 := by omega
      subst this
      exact seen_no5 H hc.1 hc.2 e
  · exact seen_no1 H hc
end C5
