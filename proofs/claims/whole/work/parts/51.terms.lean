section C4
variable {S : List Nat} {j : Nat} {h h2 : z_H}
theorem Yok_term {w n : Nat} {v : Int32} (H : Yok h 1) (hw : (w = 0 ∧ n = 999) ∨ (w = 1 ∧ n = 10) ∨ (w = 2 ∧ n = 9)) (hv : nb v n) (c : ∀ a, 2 ≤ a → a ≤ 8 → a ≠ 6 → aI h2 a = aI h a) (e : ∀ k, fI h2 1 k = fI h 1 k) (e6 : aI h2 6 = upd (aI h 6) w v) : Yok h2 1 := by
  obtain ⟨y1, y2, y3, y4, y5, y6, y7, y8, y9, y10⟩ := H
  unfold Yok
  simp only [c (1 + 1) (by decide) (by decide) (by decide), c (1 + 2) (by decide) (by decide) (by decide), c (1 + 3) (by decide) (by decide) (by decide), c (1 + 4) (by decide) (by decide) (by decide), c (1 + 6) (by decide) (by decide) (by decide), c (1 + 7) (by decide) (by decide) (by decide), e, show aI h2 (1 + 5) = upd (aI h 6) w v from e6]
  refine ⟨y1, y2, y3, y4, y5, y6, y7, ?_⟩
  rcases hw with ⟨rfl, rfl⟩ | ⟨rfl, rfl⟩ | ⟨rfl, rfl⟩
  · rw [upd_eq, upd_ne (by decide), upd_ne (by decide)]
    exact ⟨hv, y9, y10⟩
  · rw [upd_eq, upd_ne (by decide), upd_ne (by decide)]
    exact ⟨y8, hv, y10⟩
  · rw [upd_eq, upd_ne (by decide), upd_ne (by decide)]
    exact ⟨y8, y9, hv⟩
theorem Yeq_term {w : Nat} {v : Int32} (H : Yeq h 1 (aI h 83)) (hw : w < 3) (c : ∀ a, 2 ≤ a → a ≤ 8 → a ≠ 6 → aI h2 a = aI h a) (e : ∀ k, fI h2 1 k = fI h 1 k) (e6 : aI h2 6 = upd (aI h 6) w v) (r : aI h2 83 = upd (aI h 83) (5 + w) v) : Yeq h2 1 (aI h2 83) := by
  obtain ⟨q0, q4, q1, q2, q3, q5, q6, q7⟩ := H
  unfold Yeq
  simp only [c (1 + 1) (by decide) (by decide) (by decide), c (1 + 2) (by decide) (by decide) (by decide), c (1 + 3) (by decide) (by decide) (by decide), c (1 + 4) (by decide) (by decide) (by decide), c (1 + 6) (by decide) (by decide) (by decide), c (1 + 7) (by decide) (by decide) (by decide), e, show aI h2 (1 + 5) = upd (aI h 6) w v from e6, r]
  refine ⟨by rw [upd_ne (by omega)]; exact q0, by rw [upd_ne (by omega)]; exact q4, by rw [upd_ne (by omega)]; exact q1, by rw [upd_ne (by omega)]; exact q2, by rw [upd_ne (by omega)]; exact q3, fun i hi => ?_, fun i hi => ?_, fun i hi => ?_⟩
  · rw [upd_ne (by omega), upd_ne (by omega), upd_ne (by omega), upd_ne (by omega), upd_ne (by omega)]
    exact q5 i hi
  · rw [upd_ne (by omega)]; exact q6 i hi
  · by_cases ei : i = w
    · subst ei; rw [upd_eq, upd_eq]
    · rw [upd_ne (by omega), upd_ne ei]; exact q7 i hi
theorem i_terms (w n : Nat) (hw : (w = 0 ∧ n = 999) ∨ (w = 1 ∧ n = 10) ∨ (w = 2 ∧ n = 9)) : z_xI (z_xs 1) (Int32.ofNat w) = some (Int32.ofNat n) := by
  rcases hw with ⟨rfl, rfl⟩ | ⟨rfl, rfl⟩ | ⟨rfl, rfl⟩ <;> decide
/-- granted -/
theorem terms_yes (H : Inv j h) {w n : Nat} {v : Int32} (hw : (w = 0 ∧ n = 999) ∨ (w = 1 ∧ n = 10) ∨ (w = 2 ∧ n = 9)) (hv0 : 0 ≤ v.toInt) (hv1 : v.toInt ≤ n) : Agree Inv j h (fun h => D_X10_terms h (some 0) (Int32.ofNat w) v) (fun h => D_X11_terms h (some 81) (Int32.ofNat w) v) := by
  have hs := H.1
  have q7 := H.2.2.1.2.1.2.2.2.2.2.2.2
  have hw3 : w < 3 := by omega
  have hvb : nb v n := nb_of hv0 hv1
  have ew : (Int32.ofNat w).toNatClampNeg = w := tn_of (by omega)
  have ew5 : ((5 : Int32) + Int32.ofNat w) = Int32.ofNat (5 + w) := sc_add 5 w
  have ew6 : (Int32.ofNat (5 + w)).toNatClampNeg = 5 + w := tn_of (by omega)
  have s1 : Sh (wA h 6 (upd (aI h 6) w v)) := Sh_wA hs rfl _
  have s2 : Sh (wF (wA h 6 (upd (aI h 6) w v)) 21 1 (.int 0)) := Sh_wF s1 rfl _
  have s3 : Sh (wF (wF (wA h 6 (upd (aI h 6) w v)) 21 1 (.int 0)) 0 13 (.int 0)) := Sh_wF s2 rfl _
  generalize eC : wF (wF (wA h 6 (upd (aI h 6) w v)) 21 1 (.int 0)) 0 13 (.int 0) = hC at *
  have s4 := Sh_t0 s3
  have s5 : Sh (wF (t0 hC) 81 8 (.int 0)) := Sh_wF s4 rfl _
  have s6 : Sh (wA (wF (t0 hC) 81 8 (.int 0)) 83 (upd (aI h 83) (5 + w) v)) := Sh_wA s5 rfl _
  have e83 : aI hC 83 = aI h 83 := by rw [← eC, aI_wF, aI_wF, aI_wA_ne (by decide)]
  refine ⟨aI h 6 w, hC, wF (wA (wF (t0 hC) 81 8 (.int 0)) 83 (upd (aI h 83) (5 + w) v)) 81 1 (.int 0), ?_, ob81 s3, ?_, ?_⟩
  · have n1 : ¬ Int32.ofNat w < 0 := not_neg (by omega)
    have n2 : ¬ (Int32.ofNat (z_xs 1).1) ≤ Int32.ofNat w := by
      rcases hw with ⟨rfl, rfl⟩ | ⟨rfl, rfl⟩ | ⟨rfl, rfl⟩ <;> decide
    have n3 : ¬ v < 0 := by rw [lt0]; omega
    have n4 : v ≤ Int32.ofNat n := by
      rw [Int32.le_iff_toInt_le, Int32.toInt_ofNat_of_lt (by omega)]; exact hv1
    simp only [D_X10_terms, n1, if_false, n2, n3, i_terms w n hw, Option.bind_some, n4, if_true, rdQ_c hs, rdA_c hs, wrA_c hs, iR_ofNat (show w < 3 from hw3) (by decide), iW_ofNat (show w < 3 from hw3) (by decide), ew, rdQ_c s1, wrF_c s1, rdO_c s2, d_grant s2, eC]
  · have e60 : ∀ x : Int32, ¬ x = 0 → D_X11_terms_60 (t0 hC) (some 81) (Int32.ofNat w) v x = some (aI h 6 w, wF (wA (wF (t0 hC) 81 8 (.int 0)) 83 (upd (aI h 83) (5 + w) v)) 81 1 (.int 0)) := fun x hx => by
      have e5 : aI h 83 (5 + w) = aI h 6 w := q7 w hw3
      simp only [D_X11_terms_60, hx, if_false, wrF_m s4, Option.bind_some, rdO_m s5, D_X11_change, rdQ_m s5, rdA_m s5, wrA_m s5, aI_wF, e83, ew5, ew6, iR_ofNat (show 5 + w < 5462 by omega) (by decide), iW_ofNat (show 5 + w < 5462 by omega) (by decide), wrF_m s6, e5]
    rcases hw with ⟨rfl, rfl⟩ | ⟨rfl, rfl⟩ | ⟨rfl, rfl⟩
    · have i1 := d_in_yes (a := v.toInt64) (b := 0) (c := 999) (by rw [wide]; exact ⟨hv0, hv1⟩)
      simp only [D_X11_terms, wrF_m s3, Option.bind_some, i1]
      rw [if_pos (by decide)]
      exact e60 1 (by decide)
    · have i1 := d_in_yes (a := v.toInt64) (b := 0) (c := 10) (by rw [wide]; exact ⟨hv0, hv1⟩)
      simp only [D_X11_terms, wrF_m s3, Option.bind_some, i1]
      rw [if_neg (by decide), if_pos (by decide)]
      exact e60 1 (by decide)
    · have i1 := d_in_yes (a := v.toInt64) (b := 0) (c := 9) (by rw [wide]; exact ⟨hv0, hv1⟩)
      simp only [D_X11_terms, wrF_m s3, Option.bind_some, i1]
      rw [if_neg (by decide), if_neg (by decide), if_pos (by decide), if_neg (by decide)]
      exact e60 1 (by decide)
  · generalize e2 : wF (wA (wF (t0 hC) 81 8 (.int 0)) 83 (upd (aI h 83) (5 + w) v)) 81 1 (.int 0) = g
    have s7 : Sh g := by rw [← e2]; exact Sh_wF s6 rfl _
    have T : Tch [0, 6, 21, 81, 83] h g := by
      rw [← e2, ← eC]
      exact Tch_wF (Tch_wA (Tch_wF (Tch_wF (Tch_wF (Tch_wF (Tch_wA (Tch_rfl _ h) (by decide) _) (by decide) _ _) (by decide) _ _) (by decide) _ _) (by decide) _ _) (by decide) _) (by decide) _ _
    have r83 : aI g 83 = upd (aI h 83) (5 + w) v := by rw [← e2, aI_wF]; exact aI_wA_eq s5 rfl _
    have r6 : aI g 6 = upd (aI h 6) w v := by rw [← e2, aI_wF, aI_wA_ne (by decide), aI_wF, aI_wF, ← eC, aI_wF, aI_wF]; exact aI_wA_eq hs rfl _
    have rF : ∀ a k, ¬ (a = 21 ∧ k = 1) → ¬ (a = 0 ∧ k = 13) → ¬ (a = 81 ∧ k = 0) → ¬ (a = 81 ∧ k = 8) → ¬ (a = 81 ∧ k = 1) → fI g a k = fI h a k := fun a k e1 e3 e4 e5 e6 => by
      rw [← e2, fI_wF_ne e6, fI_wA, fI_wF_ne e5, fI_wF_ne e4, ← eC, fI_wF_ne e3, fI_wF_ne e1, fI_wA]
    have r13 : fI g 0 13 = 0 := by rw [← e2, fI_wF_ne (by decide), fI_wA, fI_wF_ne (by decide), fI_wF_ne (by decide), ← eC, fI_wF_eq s2 rfl]
    have r21 : fI g 21 1 = 0 := by rw [← e2, fI_wF_ne (by decide), fI_wA, fI_wF_ne (by decide), fI_wF_ne (by decide), ← eC, fI_wF_ne (by decide), fI_wF_eq s1 rfl]
    have r8 : fI g 81 8 = 0 := by rw [← e2, fI_wF_ne (by decide), fI_wA, fI_wF_eq s4 rfl]
    have r1 : fI g 81 1 = 0 := by rw [← e2, fI_wF_eq s6 rfl]
    have rA : ∀ a, a ∉ [0, 6, 21, 81, 83] → aI g a = aI h a := fun a ha => cell_aI (T.c ha)
    have rF1 : ∀ k, fI g 1 k = fI h 1 k := fun k => rF 1 k (by omega) (by omega) (by omega) (by omega) (by omega)
    refine Inv_yard H s7 T (by decide) (by decide) (rF _ _ (by decide) (by decide) (by decide) (by decide) (by decide)) (rF1 11) (fun i hi => by rw [r83, upd_ne (by omega)]) (Yok_term H.2.2.1.1 hw hvb (fun a a1 a2 a3 => rA a (by simp; omega)) rF1 r6) (Yeq_term H.2.2.1.2.1 hw3 (fun a a1 a2 a3 => rA a (by simp; omega)) rF1 r6 r83) (Ulog_zero r8 r21) (Told_T H.2.2.2.2.1 T (by decide) (by rw [r13, r1]) (fun q hq => ?_))
    simp only [List.mem_cons, List.not_mem_nil, or_false] at hq
    rcases hq with rfl | rfl | rfl | rfl | rfl | rfl | rfl | rfl | rfl <;> exact rF _ _ (by decide) (by decide) (by decide) (by decide) (by decide)
theorem terms_no (H : Inv j h) {x v : Int32} (hc : ¬ ((x = 0 ∧ 0 ≤ v.toInt ∧ v.toInt ≤ 999) ∨ (x = 1 ∧ 0 ≤ v.toInt ∧ v.toInt ≤ 10) ∨ (x = 2 ∧ 0 ≤ v.toInt ∧ v.toInt ≤ 9))) : Agree Inv j h (fun h => D_X10_terms h (some 0) x v) (fun h => D_X11_terms h (some 81) x v) := by
  have hs := H.1
  have s1 := Sh_rfC hs 1
  have s2 := Sh_t0 s1
  have e25 : D_X10_terms_25 h (some 0) = some (-1, rfC h 1) := by
    simp only [D_X10_terms_25, rdO_c hs, Option.bind_some, rfs hs]
  have e60 : D_X11_terms_60 (t0 (rfC h 1)) (some 81) x v 0 = some (-1, rfM (t0 (rfC h 1)) 1) := by
    simp only [D_X11_terms_60, if_true, rdO_m s2, Option.bind_some, tls s2]
  have e59 : D_X11_terms_59 (t0 (rfC h 1)) (some 81) x v = some (-1, rfM (t0 (rfC h 1)) 1) := by
    simp only [D_X11_terms_59, e60]
  refine agree_no H (k := 1) (by decide) ?_ ?_
  · show D_X10_terms h (some 0) x v = some (-1, rfC h 1)
    unfold D_X10_terms
    by_cases n1 : x < 0
    · rw [if_pos n1]; exact e25
    rw [if_neg n1]
    by_cases n2 : (Int32.ofNat (z_xs 1).1) ≤ x
    · rw [if_pos n2]; exact e25
    rw [if_neg n2]
    by_cases n3 : v < 0
    · rw [if_pos n3]; exact e25
    rw [if_neg n3]
    rw [lt0] at n1 n3
    have n2' : ¬ (3 : Int) ≤ x.toInt := fun q => n2 (by rw [Int32.le_iff_toInt_le]; exact q)
    have hx : x.toInt = 0 ∨ x.toInt = 1 ∨ x.toInt = 2 := by omega
    have fin : ∀ (w n : Nat), ((w = 0 ∧ n = 999) ∨ (w = 1 ∧ n = 10) ∨ (w = 2 ∧ n = 9)) → x = Int32.ofNat w → ¬ v.toInt ≤ n → ((z_xI (z_xs 1) x).bind fun x4022 => if v ≤ x4022 then (z_gQ 10 h (some 0) 0).bind fun x4024 => (z_gQ 9 h x4024 4).bind fun x4025 => (z_aI .int h x4025 x).bind fun x4026 => (z_gQ 10 h (some 0) 0).bind fun x4027 => (z_gQ 9 h x4027 4).bind fun x4028 => (z_sI h x4028 x v).bind fun h4029 => (z_gQ 10 h4029 (some 0) 4).bind fun x4030 => (z_pV 8 h4029 x4030 1 (.int (0:Int32))).bind fun h4031 => (z_ob 10 h4031 (some 0)).bind fun _ => (D_X10_grant h4031 (some 0) x4026).bind fun p4032 => some (p4032.1, p4032.2) else D_X10_terms_25 h (some 0)) = some (-1, rfC h 1) := fun w n hw ex hv => by
      rw [ex, i_terms w n hw, Option.bind_some, if_neg, e25]
      rw [Int32.le_iff_toInt_le, Int32.toInt_ofNat_of_lt (by omega)]
      exact hv
    have lit : ∀ w : Nat, w < 3 → x.toInt = w → x = Int32.ofNat w := fun w hw e => by
      apply Int32.toInt_inj.mp
      rw [Int32.toInt_ofNat_of_lt (by omega), e]
    rcases hx with e | e | e
    · have e' := lit 0 (by decide) e
      exact fin 0 999 (Or.inl ⟨rfl, rfl⟩) e' (fun q => hc (Or.inl ⟨e', by omega, q⟩))
    · have e' := lit 1 (by decide) e
      exact fin 1 10 (Or.inr (Or.inl ⟨rfl, rfl⟩)) e' (fun q => hc (Or.inr (Or.inl ⟨e', by omega, q⟩)))
    · have e' := lit 2 (by decide) e
      exact fin 2 9 (Or.inr (Or.inr ⟨rfl, rfl⟩)) e' (fun q => hc (Or.inr (Or.inr ⟨e', by omega, q⟩)))
  · show D_X11_terms (rfC h 1) (some 81) x v = some (-1, rfM (t0 (rfC h 1)) 1)
    unfold D_X11_terms
    rw [wrF_m s1 |>.1, Option.bind_some]
    by_cases n0 : x = 0
    · have i1 := d_in_no (a := v.toInt64) (b := 0) (c := 999) (fun q => hc (Or.inl ⟨n0, by rw [wide] at q; exact q⟩))
      rw [if_pos n0, i1, Option.bind_some]; exact e60
    rw [if_neg n0]
    by_cases n1 : x = 1
    · have i1 := d_in_no (a := v.toInt64) (b := 0) (c := 10) (fun q => hc (Or.inr (Or.inl ⟨n1, by rw [wide] at q; exact q⟩)))
      rw [if_pos n1, i1, Option.bind_some]; exact e60
    rw [if_neg n1]
    by_cases n2 : x = 2
    · have i1 := d_in_no (a := v.toInt64) (b := 0) (c := 9) (fun q => hc (Or.inr (Or.inr ⟨n2, by rw [wide] at q; exact q⟩)))
      rw [if_pos n2, i1, Option.bind_some, if_pos rfl]; exact e59
    rw [if_neg n2]; exact e59
theorem a_terms (H : Inv j h) (x v : Int32) : Agree Inv j h (fun h => D_X10_terms h (some 0) x v) (fun h => D_X11_terms h (some 81) x v) := by
  by_cases hc : (x = 0 ∧ 0 ≤ v.toInt ∧ v.toInt ≤ 999) ∨ (x = 1 ∧ 0 ≤ v.toInt ∧ v.toInt ≤ 10) ∨ (x = 2 ∧ 0 ≤ v.toInt ∧ v.toInt ≤ 9)
  · rcases hc with ⟨rfl, h1, h2⟩ | ⟨rfl, h1, h2⟩ | ⟨rfl, h1, h2⟩
    · exact terms_yes (w := 0) (n := 999) H (Or.inl ⟨rfl, rfl⟩) h1 h2
    · exact terms_yes (w := 1) (n := 10) H (Or.inr (Or.inl ⟨rfl, rfl⟩)) h1 h2
    · exact terms_yes (w := 2) (n := 9) H (Or.inr (Or.inr ⟨rfl, rfl⟩)) h1 h2
  · exact terms_no H hc
end C4
