theorem hasP_yes {h : z_H} {a : Nat} (e8 : z_gI 9 h (some a) 8 = some (fI h a 8)) {x : Int32} (e : 0 ≤ x.toInt ∧ x.toInt < (fI h a 8).toInt) : D_X9_hasPair h (some a) x = some (1, h) := by
  unfold D_X9_hasPair
  rw [if_neg (by rw [lt0]; omega), e8, Option.bind_some, if_neg (by rw [Int32.le_iff_toInt_le]; omega)]
theorem hasP_no {h : z_H} {a : Nat} (e8 : z_gI 9 h (some a) 8 = some (fI h a 8)) {x : Int32} (e : ¬ (0 ≤ x.toInt ∧ x.toInt < (fI h a 8).toInt)) : D_X9_hasPair h (some a) x = some (0, h) := by
  unfold D_X9_hasPair
  by_cases h0 : x < 0
  · rw [if_pos h0]
  · rw [if_neg h0, e8, Option.bind_some, if_pos]
    rw [lt0] at h0
    rw [Int32.le_iff_toInt_le]; omega
theorem lit_of {x : Int32} {k : Nat} (hk : k < 2 ^ 31) (e : x.toInt = k) : x = Int32.ofNat k := by
  apply Int32.toInt_inj.mp
  rw [Int32.toInt_ofNat_of_lt hk, e]
theorem sc_sub {i k : Nat} (h : k ≤ i) : Int32.ofNat i - Int32.ofNat k = Int32.ofNat (i - k) := by
  have e : i = (i - k) + k := by omega
  rw [show Int32.ofNat i = Int32.ofNat (i - k) + Int32.ofNat k by rw [sc_add]; congr 1]
  rw [Int32.add_sub_cancel]
section C6
variable {j : Nat} {h : z_H}
theorem a_drawn (H : Inv j h) (x y : Int32) : Agree Inv j h (fun h => D_X10_drawn h (some 0) x y) (fun h => D_X11_drawn h (some 81) x y) := by
  have hs := H.1
  have s1 := Sh_t0 hs
  have g12 : z_gI 9 h (some 12) 8 = some (fI h 12 8) := by simp only [rdF_c hs]
  have e58 : fI (t0 h) 81 58 = fI h 81 58 := fI_wF_ne (by decide)
  have s58 : (fI h 81 58 = -1 ∧ fI h 12 8 = 0) ∨ (fI h 81 58 = fI h 12 8 ∧ nb (fI h 12 8) 6) := by
    rcases H.2.2.2.2.2.2.1 with q | ⟨q1, q2, -⟩
    · exact Or.inl q
    · exact Or.inr ⟨q1, q2⟩
  have b58 : ((fI h 81 58).toInt64 - 1).toInt = (fI h 81 58).toInt - 1 := by
    rcases s58 with ⟨q1, -⟩ | ⟨q1, q2⟩
    · rw [q1]; decide
    · rw [q1]; exact sub1 q2 (by decide)
  by_cases cp : 0 ≤ x.toInt ∧ x.toInt < (fI h 12 8).toInt
  · rcases H.2.2.2.2.2.2.1 with ⟨-, q⟩ | ⟨q1, q2, q3⟩
    · rw [q] at cp
      exact absurd cp.2 (by rw [show (0 : Int32).toInt = 0 from rfl]; omega)
    obtain ⟨p, rfl, hp, -⟩ := nat_of cp.1
    have hp6 : p < 6 := by
      have := (q2.int (by decide)).2
      omega
    have tp : (Int32.ofNat p).toNatClampNeg = p := tn_of (by omega)
    obtain ⟨r1, r2, r3⟩ := q3 p hp6
    have i1 := d_in_yes (a := (Int32.ofNat p).toInt64) (b := 0) (c := (fI h 81 58).toInt64 - 1) (by rw [wide, b58, q1, l_lits.1]; omega)
    have cls0 : D_X10_drawn h (some 0) (Int32.ofNat p) y = if y < 2 then D_X10_drawn_36 h (some 0) (Int32.ofNat p) y else if (6 : Int32) ≤ y then D_X10_drawn_36 h (some 0) (Int32.ofNat p) y else (D_X9_wornAt h (some 12) (Int32.ofNat p) (y - 2)).bind fun p => some (p.1, p.2) := by
      simp only [D_X10_drawn, rdQ_c hs, rdO_c hs, Option.bind_some, hasP_yes g12 cp]
      rw [if_neg (by decide)]
    have mod0 : D_X11_drawn h (some 81) (Int32.ofNat p) y = (D_X11_in (t0 h) y.toInt64 0 5).bind fun q => if q.1 = 0 then some (-1, q.2) else if y = 0 then D_X11_drawn_71 q.2 (some 113) (3 + Int32.ofNat p) else if y = 1 then D_X11_drawn_71 q.2 (some 113) (9 + Int32.ofNat p) else D_X11_drawn_71 q.2 (some 113) (15 + 4 * Int32.ofNat p + y - 2) := by
      simp only [D_X11_drawn, wrF_m hs, Option.bind_some, rdF_m s1, e58, i1]
      rw [if_neg (by decide), d_in, Option.bind_some, Option.bind_some]
      by_cases c : (0 : Int64).toInt ≤ y.toInt64.toInt ∧ y.toInt64.toInt ≤ (5 : Int64).toInt
      · simp only [rdQ_m s1, Option.bind_some]
      · simp only [if_neg c, if_true]
    have a113 : aI (t0 h) 113 = aI h 113 := aI_wF _ _ _ _
    by_cases c0 : y.toInt = 0
    · have ey : y = 0 := lit_of (k := 0) (by decide) c0
      subst ey
      refine ⟨aI h 13 p, h, t0 h, ?_, ob81 hs, ?_, Inv_same H (Same_t0 hs)⟩
      · show D_X10_drawn h (some 0) (Int32.ofNat p) 0 = _
        rw [cls0, if_pos (by decide)]
        simp only [D_X10_drawn_36, if_true, rdQ_c hs, rdA_c hs, Option.bind_some, iR_ofNat hp6 (by decide)]
      · show D_X11_drawn h (some 81) (Int32.ofNat p) 0 = _
        rw [mod0, d_in_yes (by decide), Option.bind_some, if_neg one_ne, if_pos rfl]
        have e3 : (3 : Int32) + Int32.ofNat p = Int32.ofNat (3 + p) := sc_add 3 p
        simp only [D_X11_drawn_71, rdA_m s1, e3, iR_ofNat (show 3 + p < 39 by omega) (by decide), Option.bind_some, a113, r1]
    by_cases c1 : y.toInt = 1
    · have ey : y = 1 := lit_of (k := 1) (by decide) c1
      subst ey
      refine ⟨aI h 14 p, h, t0 h, ?_, ob81 hs, ?_, Inv_same H (Same_t0 hs)⟩
      · show D_X10_drawn h (some 0) (Int32.ofNat p) 1 = _
        rw [cls0, if_pos (by decide)]
        simp only [D_X10_drawn_36, one_ne, if_false, if_true, rdQ_c hs, rdA_c hs, Option.bind_some, iR_ofNat hp6 (by decide)]
      · show D_X11_drawn h (some 81) (Int32.ofNat p) 1 = _
        rw [mod0, d_in_yes (by decide), Option.bind_some, if_neg one_ne, if_neg one_ne, if_pos rfl]
        have e3 : (9 : Int32) + Int32.ofNat p = Int32.ofNat (9 + p) := sc_add 9 p
        simp only [D_X11_drawn_71, rdA_m s1, e3, iR_ofNat (show 9 + p < 39 by omega) (by decide), Option.bind_some, a113, r2]
    have n0 : ¬ y = 0 := fun q => c0 (by rw [q]; rfl)
    have n1 : ¬ y = 1 := fun q => c1 (by rw [q]; rfl)
    by_cases c2 : 2 ≤ y.toInt ∧ y.toInt ≤ 5
    · obtain ⟨q, rfl, hq, -⟩ := nat_of (x := y) (by omega)
      have hq4 : q - 2 < 4 := by omega
      have e2 : Int32.ofNat q - 2 = Int32.ofNat (q - 2) := sc_sub (i := q) (k := 2) (by omega)
      refine ⟨aI h 16 (4 * p + (q - 2)), h, t0 h, ?_, ob81 hs, ?_, Inv_same H (Same_t0 hs)⟩
      · show D_X10_drawn h (some 0) (Int32.ofNat p) (Int32.ofNat q) = _
        rw [cls0, if_neg (by rw [Int32.lt_iff_toInt_lt]; show ¬ (Int32.ofNat q).toInt < 2; omega), if_neg (by rw [Int32.le_iff_toInt_le]; show ¬ (6 : Int) ≤ (Int32.ofNat q).toInt; omega)]
        have e4 : Int32.ofNat p * 4 + Int32.ofNat (q - 2) = Int32.ofNat (4 * p + (q - 2)) := by
          rw [show Int32.ofNat p * 4 = Int32.ofNat (p * 4) from sc_mul p 4, sc_add, Nat.mul_comm]
        simp only [D_X9_wornAt, e2, rdQ_c hs, rdA_c hs, e4, iR_ofNat (show 4 * p + (q - 2) < 24 by omega) (by decide), Option.bind_some]
      · show D_X11_drawn h (some 81) (Int32.ofNat p) (Int32.ofNat q) = _
        rw [mod0, d_in_yes (by rw [wide, l_lits.1]; exact ⟨by omega, by show _ ≤ (5 : Int); omega⟩), Option.bind_some, if_neg one_ne, if_neg n0, if_neg n1]
        have e5 : (15 : Int32) + 4 * Int32.ofNat p + Int32.ofNat q - 2 = Int32.ofNat (15 + 4 * p + (q - 2)) := by
          rw [show (4 : Int32) * Int32.ofNat p = Int32.ofNat (4 * p) from sc_mul 4 p, show (15 : Int32) + Int32.ofNat (4 * p) = Int32.ofNat (15 + 4 * p) from sc_add 15 (4 * p), sc_add, show Int32.ofNat (15 + 4 * p + q) - 2 = Int32.ofNat (15 + 4 * p + q - 2) from sc_sub (k := 2) (by omega)]
          congr 1
          omega
        simp only [D_X11_drawn_71, rdA_m s1, e5, iR_ofNat (show 15 + 4 * p + (q - 2) < 39 by omega) (by decide), Option.bind_some, a113, r3 (q - 2) hq4]
    · refine agree_none H (x := -1) ?_ ?_
      · show D_X10_drawn h (some 0) (Int32.ofNat p) y = _
        have e36 : D_X10_drawn_36 h (some 0) (Int32.ofNat p) y = some (-1, h) := by simp only [D_X10_drawn_36, n0, n1, if_false]
        rw [cls0]
        by_cases m1 : y < 2
        · rw [if_pos m1]; exact e36
        · rw [if_neg m1, if_pos]
          · exact e36
          · rw [Int32.lt_iff_toInt_lt] at m1
            rw [Int32.le_iff_toInt_le]
            have : ¬ y.toInt < (2 : Int) := m1
            show (6 : Int) ≤ y.toInt
            omega
      · show D_X11_drawn h (some 81) (Int32.ofNat p) y = _
        rw [mod0, d_in_no (by rw [wide, l_lits.1]; intro q; have : y.toInt ≤ (5 : Int) := q.2; omega), Option.bind_some, if_pos rfl]
  · refine agree_none H (x := -1) ?_ ?_
    · show D_X10_drawn h (some 0) x y = _
      simp only [D_X10_drawn, rdQ_c hs, rdO_c hs, Option.bind_some, hasP_no g12 cp, if_true]
    · show D_X11_drawn h (some 81) x y = _
      have i1 := d_in_no (a := x.toInt64) (b := 0) (c := (fI h 81 58).toInt64 - 1) (by
        rw [wide, b58, l_lits.1]
        rcases s58 with ⟨q1, q2⟩ | ⟨q1, q2⟩
        · rw [q1]
          have : (-1 : Int32).toInt = -1 := by decide
          omega
        · rw [q1]; omega)
      simp only [D_X11_drawn, wrF_m hs, Option.bind_some, rdF_m s1, e58, i1, if_true]
end C6
