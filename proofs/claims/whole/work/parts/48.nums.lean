theorem lg_neg (x y : Int64) : (lg_cmp x y < 0) ↔ x.toInt < y.toInt := by
  unfold lg_cmp
  rw [← Int64.lt_iff_toInt_lt]
  by_cases h1 : x > y
  · rw [if_pos h1]
    have : ¬ x < y := fun q => by
      rw [gt_iff_lt, Int64.lt_iff_toInt_lt] at h1
      rw [Int64.lt_iff_toInt_lt] at q
      omega
    simp [this]
  · rw [if_neg h1]
    by_cases h2 : x = y
    · subst h2
      simp
    · rw [if_neg h2]
      have : x < y := by
        rw [gt_iff_lt, Int64.lt_iff_toInt_lt] at h1
        rw [Int64.lt_iff_toInt_lt]
        have : x.toInt ≠ y.toInt := fun q => h2 (Int64.toInt_inj.mp q)
        omega
      simp [this]
theorem lg_pos (x y : Int64) : (0 < lg_cmp x y) ↔ y.toInt < x.toInt := by
  unfold lg_cmp
  rw [← Int64.lt_iff_toInt_lt]
  by_cases h1 : x > y
  · rw [if_pos h1]
    have : y < x := h1
    simp [this]
  · rw [if_neg h1]
    have : ¬ y < x := h1
    by_cases h2 : x = y
    · rw [if_pos h2]
      simp [this]
    · rw [if_neg h2]
      simp [this]
theorem lg_zero (x y : Int64) : (lg_cmp x y = 0) ↔ x = y := by
  unfold lg_cmp
  by_cases h1 : x > y
  · rw [if_pos h1]
    have : ¬ x = y := fun q => by
      rw [q, gt_iff_lt, Int64.lt_iff_toInt_lt] at h1
      omega
    simp [this]
  · rw [if_neg h1]
    by_cases h2 : x = y
    · simp [h2]
    · rw [if_neg h2]
      simp [h2]
theorem wide (x : Int32) : x.toInt64.toInt = x.toInt := Int32.toInt_toInt64 x
theorem d_in (h : z_H) (a b c : Int64) : D_X11_in h a b c = some (if b.toInt ≤ a.toInt ∧ a.toInt ≤ c.toInt then 1 else 0, h) := by
  unfold D_X11_in
  by_cases h1 : lg_cmp a b < 0
  · rw [if_pos h1]
    rw [lg_neg] at h1
    rw [if_neg (by omega)]
  · rw [if_neg h1]
    rw [lg_neg] at h1
    by_cases h2 : 0 < lg_cmp a c
    · rw [if_pos h2]
      rw [lg_pos] at h2
      rw [if_neg (by omega)]
    · rw [if_neg h2]
      rw [lg_pos] at h2
      rw [if_pos (by omega)]
theorem lt0 (x : Int32) : (x < 0) ↔ x.toInt < 0 := by
  rw [Int32.lt_iff_toInt_lt]; rfl
theorem ge0 (x : Int32) : (0 ≤ x) ↔ 0 ≤ x.toInt := by
  rw [Int32.le_iff_toInt_le]; rfl
/-- an int between two numbers is the number it is -/
theorem nat_of {x : Int32} (h0 : 0 ≤ x.toInt) : ∃ k : Nat, x = Int32.ofNat k ∧ (k : Int) = x.toInt ∧ k < 2 ^ 31 := by
  have h1 : x.toInt < 2 ^ 31 := Int32.toInt_lt x
  refine ⟨x.toInt.toNat, ?_, by omega, by omega⟩
  apply Int32.toInt_inj.mp
  rw [Int32.toInt_ofNat_of_lt (by omega)]
  omega
theorem nb_of {x : Int32} {n : Nat} (h0 : 0 ≤ x.toInt) (h1 : x.toInt ≤ n) : nb x n := by
  obtain ⟨k, rfl, h2, -⟩ := nat_of h0
  exact ⟨k, rfl, by omega⟩
theorem nb.int {x : Int32} {n : Nat} (h : nb x n) (hn : n < 2 ^ 31) : 0 ≤ x.toInt ∧ x.toInt ≤ n := by
  obtain ⟨k, rfl, hk⟩ := h
  rw [Int32.toInt_ofNat_of_lt (by omega)]
  omega
theorem i_lits : ((0:Int32).toInt = 0) ∧ ((1:Int32).toInt = 1) ∧ ((2:Int32).toInt = 2) ∧ ((3:Int32).toInt = 3) ∧ ((4:Int32).toInt = 4) ∧ ((5:Int32).toInt = 5) ∧ ((6:Int32).toInt = 6) ∧ ((7:Int32).toInt = 7) ∧ ((9:Int32).toInt = 9) ∧ ((10:Int32).toInt = 10) ∧ ((24:Int32).toInt = 24) ∧ ((25:Int32).toInt = 25) ∧ ((30:Int32).toInt = 30) ∧ ((60:Int32).toInt = 60) ∧ ((99:Int32).toInt = 99) ∧ ((100:Int32).toInt = 100) ∧ ((400:Int32).toInt = 400) ∧ ((999:Int32).toInt = 999) ∧ ((1000000:Int32).toInt = 1000000) ∧ ((-1:Int32).toInt = -1) := by decide
theorem l_lits : ((0:Int64).toInt = 0) ∧ ((1:Int64).toInt = 1) ∧ ((3:Int64).toInt = 3) ∧ ((4:Int64).toInt = 4) ∧ ((5:Int64).toInt = 5) ∧ ((6:Int64).toInt = 6) ∧ ((7:Int64).toInt = 7) ∧ ((9:Int64).toInt = 9) ∧ ((10:Int64).toInt = 10) ∧ ((14:Int64).toInt = 14) ∧ ((12:Int64).toInt = 12) ∧ ((20:Int64).toInt = 20) ∧ ((24:Int64).toInt = 24) ∧ ((30:Int64).toInt = 30) ∧ ((60:Int64).toInt = 60) ∧ ((99:Int64).toInt = 99) ∧ ((100:Int64).toInt = 100) ∧ ((999:Int64).toInt = 999) ∧ ((1000000:Int64).toInt = 1000000) := by decide
section U1
variable {S : List Nat} {j : Nat} {h h' : z_H}
theorem Ulog_R (H : Ulog h) (e1 : fI h' 81 8 = fI h 81 8) (e2 : fI h' 21 1 = fI h 21 1) (e3 : fI h' 1 8 = fI h 1 8) (a22 : aI h' 22 = aI h 22) (a86 : aI h' 86 = aI h 86) (a87 : aI h' 87 = aI h 87) (r : ∀ q, q < 39 → aI h' 83 (5 + q) = aI h 83 (5 + q)) : Ulog h' := by
  obtain ⟨u1, u2, u3⟩ := H
  refine ⟨by rw [e1, e2]; exact u1, by rw [e2]; exact u2, fun j hj => ?_⟩
  rw [e2] at hj
  obtain ⟨v1, v2, v3, v8, v9⟩ := u3 j hj
  simp only [a22, a86, a87, e2, e3]
  refine ⟨v1, v2, v3, v8, fun i hi => ?_⟩
  rw [v9 i hi]
  unfold undone
  simp only [r i hi]
theorem Ulog_zero (e1 : fI h 81 8 = 0) (e2 : fI h 21 1 = 0) : Ulog h := by
  refine ⟨by rw [e1, e2], ⟨0, e2, by omega⟩, fun j hj => ?_⟩
  have : tn (fI h 21 1) = 0 := by rw [e2]; decide
  omega
end U1
