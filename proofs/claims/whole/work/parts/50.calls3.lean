section C3
variable {S : List Nat} {j : Nat} {h h2 : z_H}
theorem rfs (hs : Sh h) : (D_X10_refuse h (some 0) (-1) = some (-1, rfC h 1)) ∧ (D_X10_refuse h (some 0) (-2) = some (-2, rfC h 2)) ∧ (D_X10_refuse h (some 0) (-3) = some (-3, rfC h 3)) ∧ (D_X10_refuse h (some 0) (-5) = some (-5, rfC h 5)) ∧ (D_X10_refuse h (some 0) (-6) = some (-6, rfC h 6)) := ⟨d_refuse (k := 1) hs (by decide), d_refuse (k := 2) hs (by decide), d_refuse (k := 3) hs (by decide), d_refuse (k := 5) hs (by decide), d_refuse (k := 6) hs (by decide)⟩
theorem tls (hs : Sh h) : (D_X11_tell h (some 81) (-1) = some (-1, rfM h 1)) ∧ (D_X11_tell h (some 81) (-2) = some (-2, rfM h 2)) ∧ (D_X11_tell h (some 81) (-3) = some (-3, rfM h 3)) ∧ (D_X11_tell h (some 81) (-5) = some (-5, rfM h 5)) ∧ (D_X11_tell h (some 81) (-6) = some (-6, rfM h 6)) := ⟨d_tell_no (k := 1) hs (by decide) (by decide), d_tell_no (k := 2) hs (by decide) (by decide), d_tell_no (k := 3) hs (by decide) (by decide), d_tell_no (k := 5) hs (by decide) (by decide), d_tell_no (k := 6) hs (by decide) (by decide)⟩
theorem d_in_yes {a b c : Int64} (e : b.toInt ≤ a.toInt ∧ a.toInt ≤ c.toInt) (g : z_H) : D_X11_in g a b c = some (1, g) := by rw [d_in, if_pos e]
theorem d_in_no {a b c : Int64} (e : ¬ (b.toInt ≤ a.toInt ∧ a.toInt ≤ c.toInt)) (g : z_H) : D_X11_in g a b c = some (0, g) := by rw [d_in, if_neg e]
/-- both refuse -/
theorem agree_no {A B : z_H → Option (Int32 × z_H)} (H : Inv j h) {k : Nat} (hk : k < 7) (eA : A h = some (-(Int32.ofNat k), rfC h k)) (eB : B (rfC h k) = some (-(Int32.ofNat k), rfM (t0 (rfC h k)) k)) : Agree Inv j h A B := ⟨_, _, _, eA, ob81 (Sh_rfC H.1 k), eB, Inv_refused H hk⟩
/-- both answer NONE, nothing done -/
theorem agree_none {A B : z_H → Option (Int32 × z_H)} (H : Inv j h) {x : Int32} (eA : A h = some (x, h)) (eB : B h = some (x, t0 h)) : Agree Inv j h A B := ⟨_, _, _, eA, ob81 H.1, eB, Inv_same H (Same_t0 H.1)⟩
theorem sub1 {x : Int32} {n : Nat} (hx : nb x n) (hn : n < 2 ^ 31) : (x.toInt64 - 1).toInt = x.toInt - 1 := by
  have := hx.int hn
  rw [Int64.toInt_sub, wide]
  have e : (1 : Int64).toInt = 1 := by decide
  rw [e]
  apply Int.bmod_eq_of_le <;> omega
theorem rfC_cells (h : z_H) (k : Nat) : Tch [0, 62] h (rfC h k) := Tch_wA (Tch_wF (Tch_rfl _ h) (by decide) _ _) (by decide) _
theorem a_force (H : Inv j h) (x : Int32) : Agree Inv j h (fun h => D_X10_force h (some 0) x) (fun h => D_X11_force h (some 81) x) := by
  have hs := H.1
  obtain ⟨y1, y2, y3, y4, y5, y6, y7, y8, y9, y10⟩ := H.2.2.1.1
  obtain ⟨q0, q4, q1, q2, q3, q5, q6, q7⟩ := H.2.2.1.2.1
  have b4 := y4.int (by decide)
  by_cases c : x = -1 ∨ (0 ≤ x.toInt ∧ x.toInt < (fI h 1 11).toInt)
  · -- granted
    have s1 : Sh (wF h 1 12 (.int x)) := Sh_wF hs rfl _
    have s2 : Sh (wF (wF h 1 12 (.int x)) 0 13 (.int 0)) := Sh_wF s1 rfl _
    have s3 := Sh_t0 s2
    refine ⟨fI h 1 12, wF (wF h 1 12 (.int x)) 0 13 (.int 0), wF (wA (t0 (wF (wF h 1 12 (.int x)) 0 13 (.int 0))) 83 (upd (aI h 83) 3 x)) 81 1 (.int 0), ?_, ob81 s2, ?_, ?_⟩
    · have e23 : D_X10_force_23 h (some 0) x = some (fI h 1 12, wF (wF h 1 12 (.int x)) 0 13 (.int 0)) := by
        simp only [D_X10_force_23, rdQ_c hs, rdF_c hs, wrF_c hs, Option.bind_some, rdO_c s1, d_grant s1]
      by_cases c1 : x = -1
      · simp only [D_X10_force, c1, if_true]
        rw [← c1]; exact e23
      · have c2 : 0 ≤ x.toInt ∧ x.toInt < (fI h 1 11).toInt := c.resolve_left c1
        have n1 : ¬ x < 0 := by rw [lt0]; omega
        have n2 : ¬ fI h 1 11 ≤ x := by rw [Int32.le_iff_toInt_le]; omega
        simp only [D_X10_force, c1, if_false, rdQ_c hs, rdO_c hs, D_X9_hasLaw, n1, rdF_c hs, n2, Option.bind_some]
        rw [if_neg (by decide)]
        exact e23
    · have sA : Sh (wA (t0 (wF (wF h 1 12 (.int x)) 0 13 (.int 0))) 83 (upd (aI h 83) 3 x)) := Sh_wA s3 rfl _
      have eL : D_X11_isLaw (t0 (wF (wF h 1 12 (.int x)) 0 13 (.int 0))) (some 81) x = some (1, t0 (wF (wF h 1 12 (.int x)) 0 13 (.int 0))) := by
        by_cases c1 : x = -1
        · simp only [D_X11_isLaw, c1, if_true]
        · have c2 : 0 ≤ x.toInt ∧ x.toInt < (fI h 1 11).toInt := c.resolve_left c1
          have i1 := d_in_yes (a := x.toInt64) (b := 0) (c := (fI h 1 11).toInt64 - 1) (by rw [wide, sub1 y4 (by decide), l_lits.1]; omega)
          simp only [D_X11_isLaw, c1, if_false, rdQ_m s3, rdA_m s3, aI_wF, iRs, Nat.reduceLT, Nat.reduceLeDiff, Option.bind_some, q2, i1]
          rw [if_neg (by decide)]
      simp only [D_X11_force, wrF_m s2, Option.bind_some, rdO_m s3, eL, D_X11_change, rdQ_m s3, rdA_m s3, wrA_m s3, aI_wF, iRs, iWs, tns, Nat.reduceLT, Nat.reduceLeDiff, wrF_m sA, q3]
      rw [if_neg (by decide)]
    · generalize e2 : wF (wA (t0 (wF (wF h 1 12 (.int x)) 0 13 (.int 0))) 83 (upd (aI h 83) 3 x)) 81 1 (.int 0) = g
      have sA : Sh (wA (t0 (wF (wF h 1 12 (.int x)) 0 13 (.int 0))) 83 (upd (aI h 83) 3 x)) := Sh_wA s3 rfl _
      have s5 : Sh g := by rw [← e2]; exact Sh_wF sA rfl _
      have T : Tch [0, 1, 81, 83] h g := by rw [← e2]; exact Tch_wF (Tch_wA (Tch_wF (Tch_wF (Tch_wF (Tch_rfl _ h) (by decide) _ _) (by decide) _ _) (by decide) _ _) (by decide) _) (by decide) _ _
      have r83 : aI g 83 = upd (aI h 83) 3 x := by rw [← e2, aI_wF]; exact aI_wA_eq s3 rfl _
      have rF : ∀ a k, ¬ (a = 1 ∧ k = 12) → ¬ (a = 0 ∧ k = 13) → ¬ (a = 81 ∧ k = 0) → ¬ (a = 81 ∧ k = 1) → fI g a k = fI h a k := fun a k e1 e3 e4 e5 => by
        rw [← e2, fI_wF_ne e5, fI_wA, fI_wF_ne e4, fI_wF_ne e3, fI_wF_ne e1]
      have r12 : fI g 1 12 = x := by rw [← e2, fI_wF_ne (by decide), fI_wA, fI_wF_ne (by decide), fI_wF_ne (by decide), fI_wF_eq hs rfl]
      have r13 : fI g 0 13 = 0 := by rw [← e2, fI_wF_ne (by decide), fI_wA, fI_wF_ne (by decide), fI_wF_eq s1 rfl]
      have r1 : fI g 81 1 = 0 := by rw [← e2, fI_wF_eq sA rfl]
      have rA : ∀ a, a ∉ [0, 1, 81, 83] → aI g a = aI h a := fun a ha => cell_aI (T.c ha)
      have nx : x = -1 ∨ ∃ k : Nat, x = Int32.ofNat k ∧ k < tn (fI h 1 11) := by
        rcases c with c | ⟨c1, c2⟩
        · exact Or.inl c
        · obtain ⟨k, e, e1, e3⟩ := nat_of c1
          refine Or.inr ⟨k, e, ?_⟩
          obtain ⟨f1, f2⟩ := y4.tn (by decide)
          rw [f1, Int32.toInt_ofNat_of_lt (by omega)] at c2
          omega
      refine Inv_yard H s5 T (by decide) (by decide) (rF _ _ (by decide) (by decide) (by decide) (by decide)) (rF _ _ (by decide) (by decide) (by decide) (by decide)) (fun i hi => by rw [r83, upd_ne (by omega)]) (Yok_num (k0 := 12) H.2.2.1.1 (fun a a1 a2 a3 => rA a (by simp; omega)) (fun k hk => rF 1 k (by omega) (by omega) (by omega) (by omega)) (Or.inr (Or.inr ⟨rfl, by rw [r12]; exact nx⟩))) (Yeq_num (k0 := 12) (m0 := 3) H.2.2.1.2.1 (fun a a1 a2 a3 => rA a (by simp; omega)) (fun k hk => rF 1 k (by omega) (by omega) (by omega) (by omega)) r12 r83 (Or.inr (Or.inr ⟨rfl, rfl⟩))) (Ulog_R H.2.2.2.1 (rF _ _ (by decide) (by decide) (by decide) (by decide)) (rF _ _ (by decide) (by decide) (by decide) (by decide)) (rF _ _ (by decide) (by decide) (by decide) (by decide)) (rA _ (by decide)) (rA _ (by decide)) (rA _ (by decide)) (fun q hq => by rw [r83, upd_ne (by omega)])) (Told_T H.2.2.2.2.1 T (by decide) (by rw [r13, r1]) (fun q hq => ?_))
      simp only [List.mem_cons, List.not_mem_nil, or_false] at hq
      rcases hq with rfl | rfl | rfl | rfl | rfl | rfl | rfl | rfl | rfl <;> exact rF _ _ (by decide) (by decide) (by decide) (by decide)
  · -- refused
    have c1 : ¬ x = -1 := fun q => c (Or.inl q)
    have c2 : ¬ (0 ≤ x.toInt ∧ x.toInt < (fI h 1 11).toInt) := fun q => c (Or.inr q)
    have s1 := Sh_rfC hs 2
    have s2 := Sh_t0 s1
    refine agree_no H (k := 2) (by decide) ?_ ?_
    · by_cases n1 : x < 0
      · simp only [D_X10_force, c1, if_false, rdQ_c hs, rdO_c hs, D_X9_hasLaw, n1, if_true, Option.bind_some, rfs hs]
        rfl
      · have n2 : fI h 1 11 ≤ x := by rw [Int32.le_iff_toInt_le]; rw [lt0] at n1; omega
        simp only [D_X10_force, c1, if_false, rdQ_c hs, rdO_c hs, D_X9_hasLaw, n1, rdF_c hs, n2, if_true, Option.bind_some, rfs hs]
        rfl
    · have e83 : aI (t0 (rfC h 2)) 83 = aI h 83 := by rw [aI_wF]; exact cell_aI ((rfC_cells h 2).c (by decide))
      have eL : D_X11_isLaw (t0 (rfC h 2)) (some 81) x = some (0, t0 (rfC h 2)) := by
        have i1 := d_in_no (a := x.toInt64) (b := 0) (c := (fI h 1 11).toInt64 - 1) (by rw [wide, sub1 y4 (by decide), l_lits.1]; omega)
        simp only [D_X11_isLaw, c1, if_false, rdQ_m s2, rdA_m s2, e83, iRs, Nat.reduceLT, Nat.reduceLeDiff, Option.bind_some, q2, i1, if_true]
      simp only [D_X11_force, wrF_m s1, Option.bind_some, rdO_m s2, eL, if_true, tls s2]
      rfl
end C3
