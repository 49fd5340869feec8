theorem nb_le {x y : Int32} {n : Nat} (h0 : ¬ x < 0) (h1 : x ≤ y) (hy : nb y n) (hn : n < 2 ^ 31) : nb x n := by
  obtain ⟨k, rfl, hk⟩ := hy
  refine ⟨x.toNatClampNeg, ?_, ?_⟩
  · apply Int32.toInt_inj.mp
    rw [Int32.lt_iff_toInt_lt] at h0
    rw [Int32.le_iff_toInt_le, Int32.toInt_ofNat_of_lt (by omega)] at h1
    have e : (x.toNatClampNeg : Int) = x.toInt := by
      show ((x.toInt.toNat : Nat) : Int) = _
      simp at h0
      omega
    rw [Int32.toInt_ofNat_of_lt (by omega)]
    omega
  · rw [Int32.lt_iff_toInt_lt] at h0
    rw [Int32.le_iff_toInt_le, Int32.toInt_ofNat_of_lt (by omega)] at h1
    show x.toInt.toNat ≤ n
    omega
section C1
variable {j : Nat} {h : z_H}
theorem Inv_refused (H : Inv j h) {k : Nat} (hk : k < 7) : Inv (j + 1) (rfM (t0 (rfC h k)) k) := by
  have hs := H.1
  have s1 : Sh (wF h 0 13 (.int (-(Int32.ofNat k)))) := Sh_wF hs rfl _
  have s2 : Sh (rfC h k) := Sh_rfC hs k
  have s3 : Sh (t0 (rfC h k)) := Sh_t0 s2
  have s4 : Sh (wF (t0 (rfC h k)) 81 1 (.int (-(Int32.ofNat k)))) := Sh_wF s3 rfl _
  have s5 := Sh_rfM s3 k
  have T : Tch [0, 62, 81, 82] h (rfM (t0 (rfC h k)) k) := Tch_wA (Tch_wF (Tch_wF (Tch_wA (Tch_wF (Tch_rfl _ h) (by decide) _ _) (by decide) _) (by decide) _ _) (by decide) _ _) (by decide) _
  have a62 : aI (rfM (t0 (rfC h k)) k) 62 = upd (aI h 62) k (aI h 62 k + 1) := by
    simp [rfM, aI_wA_ne, aI_wF, rfC, aI_wA_eq s1 (show isA 62 = true from rfl)]
  have a82 : aI (rfM (t0 (rfC h k)) k) 82 = upd (aI h 82) k (aI h 82 k + 1) := by
    have e : aI (t0 (rfC h k)) 82 = aI h 82 := by simp [rfC, aI_wA_ne, aI_wF]
    unfold rfM
    rw [aI_wA_eq s4 (show isA 82 = true from rfl), e]
  have f13 : fI (rfM (t0 (rfC h k)) k) 0 13 = -(Int32.ofNat k) := by
    simp [rfM, fI_wA, fI_wF_ne, rfC, fI_wF_eq hs (show isF 0 13 = true from rfl)]
  have f1 : fI (rfM (t0 (rfC h k)) k) 81 1 = -(Int32.ofNat k) := by
    simp [rfM, fI_wA, fI_wF_eq s3 (show isF 81 1 = true from rfl)]
  obtain ⟨t1, t2, t3, t4, t5, t6, t7, t8, t9⟩ := H.2.2.2.2.1
  refine Inv_told H T s5 (by decide) (by decide) ?_ ?_ ⟨f13.trans f1.symm, ?_, fun i hi => ?_, ?_, ?_, ?_, ?_, ?_, ?_⟩
  · simp [rfM, fI_wA, fI_wF_ne, rfC]
  · simp [rfM, fI_wA, fI_wF_ne, rfC]
  · simp [rfM, fI_wA, fI_wF_ne, rfC, t2]
  · rw [a62, a82]
    unfold upd
    by_cases e : i = k
    · rw [if_pos e, if_pos e, t3 k hk]
    · rw [if_neg e, if_neg e]; exact t3 i hi
  · simp [rfM, fI_wA, fI_wF_ne, rfC, t4]
  · simpa [rfM, fI_wA, fI_wF_ne, rfC] using t5
  · simpa [rfM, aI_wA_ne, aI_wF, rfC] using t6
  · simp [rfM, fI_wA, fI_wF_ne, rfC, t7]
  · simp [rfM, fI_wA, fI_wF_ne, rfC, t8]
  · simp [rfM, fI_wA, fI_wF_ne, rfC, t9]
theorem a_end (H : Inv j h) (n : Int32) : Agree Inv j h (fun h => D_X10_end h (some 0) n) (fun h => D_X11_end h (some 81) n) := by
  have hs := H.1
  have hs' := Sh_t0 hs
  obtain ⟨t1, t2, t3, t4, t5, t6, t7, t8, t9⟩ := H.2.2.2.2.1
  by_cases h0 : n < 0
  · refine ⟨-1, h, t0 h, ?_, ob81 hs, ?_, Inv_same H (Same_t0 hs)⟩
    · simp only [D_X10_end, h0, if_true]
    · simp only [D_X11_end, wrF_m hs, Option.bind_some, h0, if_true]
  by_cases h1 : n ≤ fI h 23 2
  · have s1 : Sh (wF h 23 2 (.int n)) := Sh_wF hs rfl _
    have s2 := Sh_t0 s1
    have s3 : Sh (wF (t0 (wF h 23 2 (.int n))) 81 13 (.int n)) := Sh_wF s2 rfl _
    have e13 : fI (t0 (wF h 23 2 (.int n))) 81 13 = fI h 23 2 := by simp [fI_wF_ne, t4]
    refine ⟨n, wF h 23 2 (.int n), wF (t0 (wF h 23 2 (.int n))) 81 13 (.int n), ?_, ob81 s1, ?_, ?_⟩
    · simp only [D_X10_end, h0, if_false, rdQ_c hs, rdF_c hs, Option.bind_some, h1, if_true, wrF_c hs]
    · simp only [D_X11_end, wrF_m s1, wrF_m s2, Option.bind_some, h0, if_false, rdF_m s2, e13, h1, if_true]
    · have T : Tch [23, 81] h (wF (t0 (wF h 23 2 (.int n))) 81 13 (.int n)) := Tch_wF (Tch_wF (Tch_wF (Tch_rfl _ h) (by decide) _ _) (by decide) _ _) (by decide) _ _
      refine Inv_told H T s3 (by decide) (by decide) ?_ ?_ ⟨?_, ?_, ?_, ?_, ?_, ?_, ?_, ?_, ?_⟩
      · simp [fI_wF_ne]
      · simp [fI_wF_ne]
      · simp [fI_wF_ne, t1]
      · simp [fI_wF_ne, t2]
      · simpa [aI_wF] using t3
      · simp [fI_wF_ne, fI_wF_eq hs (show isF 23 2 = true from rfl), fI_wF_eq s2 (show isF 81 13 = true from rfl)]
      · have : nb n 400 := nb_le h0 h1 t5 (by decide)
        simpa [fI_wF_ne, fI_wF_eq hs (show isF 23 2 = true from rfl)] using this
      · simpa [aI_wF] using t6
      · simp [fI_wF_ne, t7]
      · simp [fI_wF_ne, t8]
      · simp [fI_wF_ne, t9]
  · refine ⟨-1, h, t0 h, ?_, ob81 hs, ?_, Inv_same H (Same_t0 hs)⟩
    · simp only [D_X10_end, h0, if_false, rdQ_c hs, rdF_c hs, Option.bind_some, h1]
    · have e13 : fI (t0 h) 81 13 = fI h 23 2 := by simp [fI_wF_ne, t4]
      simp only [D_X11_end, wrF_m hs, Option.bind_some, h0, if_false, rdF_m hs', e13, h1]
end C1
