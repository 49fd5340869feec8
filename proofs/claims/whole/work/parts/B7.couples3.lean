/-! PARTNERS in the reference -/
section CR
theorem dv_eq {v i : Nat} (hv : v ≤ 7) (hi : i < 100) : dv v = Int32.ofNat i ↔ v = i + 1 := by
  unfold dv
  by_cases q : v = 0
  · rw [if_pos q]; exact ⟨fun z => absurd z.symm (of_nm1 (by omega)), fun z => by omega⟩
  · rw [if_neg q, eq_lit (by omega) (by omega)]; omega
theorem dv_le {v i : Nat} (hv : v ≤ 7) (hi : i < 100) : dv v ≤ Int32.ofNat i ↔ v ≤ i + 1 := by
  unfold dv
  by_cases q : v = 0
  · rw [if_pos q, Int32.le_iff_toInt_le, of_int (by omega)]
    exact ⟨fun _ => by omega, fun _ => by show (-1 : Int) ≤ _; omega⟩
  · rw [if_neg q, nat_le (by omega) (by omega)]; omega
theorem dv_lt {v i : Nat} (hv : v ≤ 7) (hi : i < 100) : dv v < Int32.ofNat i ↔ v ≤ i := by
  unfold dv
  by_cases q : v = 0
  · rw [if_pos q, Int32.lt_iff_toInt_lt, of_int (by omega)]
    exact ⟨fun _ => by omega, fun _ => by show (-1 : Int) < _; omega⟩
  · rw [if_neg q, nat_lt (by omega) (by omega)]; omega
variable {h g : z_H} {row : List Nat} {n : Nat}
theorem m_goes (hs : Sh g) (e0 : aI g 83 0 = Int32.ofNat n) (hn : n ≤ 6) {l : Nat} (hl : l < 6) (r : ∀ i, i ≤ l → gt row i ≤ 6 ∧ aI g 108 i = dv (gt row i)) (h1 : 1 ≤ gt row l) : D_X11_goesWith g (some 81) (Int32.ofNat l) = some (b01 (goB n row l), g) := by
  have q47 : z_gQ 11 g (some 81) 47 = some (some 108) := s_gQ hs rfl rfl
  have rd : ∀ {i}, i ≤ l → z_aI .int g (some 108) (Int32.ofNat i) = some (dv (gt row i)) := fun {i} hi => by
    rw [aR hs (n := 7) rfl (by omega) (by decide), (r i hi).2]
  have rl := rd (Nat.le_refl l)
  have gl := (r l (Nat.le_refl l)).1
  have vd : dv (gt row l) = Int32.ofNat (gt row l - 1) := by unfold dv; rw [if_neg (by omega)]
  rw [vd] at rl
  have i0 : z_aI .int g (some 83) 0 = some (Int32.ofNat n) := by
    have := m83 (i := 0) hs (by decide)
    rw [e0] at this
    exact this
  unfold D_X11_goesWith goB
  rw [q47, Option.bind_some, rl, Option.bind_some]
  dsimp only
  generalize hv : gt row l - 1 = v at *
  -- the second loop
  have lp : ∀ b : Bool, D_X11_goesWith_94 g (some 81) (Int32.ofNat l) (Int32.ofNat v) (b01 b) = some (b01 (foldN (fun i b => if b = true then (if gt row i = l + 1 then (if v = i then decide (¬ gt row i = v + 1) else false) else decide (¬ gt row i = v + 1)) else false) l b), g) := fun b => by
    unfold D_X11_goesWith_94
    refine loop_fold (F := fun k b i => D_X11_goesWith_99 k g (some 81) (Int32.ofNat l) (Int32.ofNat v) (b01 b) (Int32.ofNat i)) (G := fun b => some (b01 b, g)) (N := l) (fun i b => if b = true then (if gt row i = l + 1 then (if v = i then decide (¬ gt row i = v + 1) else false) else decide (¬ gt row i = v + 1)) else false) (fun k b => ?_) (fun k b i hi => ?_) b (by omega)
    · show D_X11_goesWith_99b _ g (some 81) (Int32.ofNat l) (Int32.ofNat v) (b01 b) (Int32.ofNat l) = _
      unfold D_X11_goesWith_99b
      rw [if_pos ((nat_le (by omega) (by omega)).mpr (Nat.le_refl _)), if_pos (by cases b <;> decide)]
    · show D_X11_goesWith_99b (D_X11_goesWith_99 k) g (some 81) (Int32.ofNat l) (Int32.ofNat v) (b01 b) (Int32.ofNat i) = _
      have ii : Int32.ofNat i + 1 = Int32.ofNat (i + 1) := sc_add i 1
      have gi := (r i (by omega)).1
      have t127 : D_X11_goesWith_127 (D_X11_goesWith_99 k) g (some 81) (Int32.ofNat l) (Int32.ofNat v) (Int32.ofNat i) = D_X11_goesWith_99 k g (some 81) (Int32.ofNat l) (Int32.ofNat v) (b01 (decide (¬ gt row i = v + 1))) (Int32.ofNat (i + 1)) := by
        unfold D_X11_goesWith_127 D_X11_goesWith_142 D_X11_goesWith_143
        rw [q47, Option.bind_some, rd (by omega), Option.bind_some]
        by_cases q : gt row i = v + 1
        · rw [if_pos ((dv_eq (by omega) (by omega)).mpr q), Option.bind_some, ii, decide_eq_false (fun z => z q)]; rfl
        · rw [if_neg (fun z => q ((dv_eq (by omega) (by omega)).mp z)), Option.bind_some, ii, decide_eq_true q]; rfl
      have t142 : D_X11_goesWith_142 (D_X11_goesWith_99 k) g (some 81) (Int32.ofNat l) (Int32.ofNat v) (Int32.ofNat i) = D_X11_goesWith_99 k g (some 81) (Int32.ofNat l) (Int32.ofNat v) (b01 false) (Int32.ofNat (i + 1)) := by
        unfold D_X11_goesWith_142 D_X11_goesWith_143
        rw [Option.bind_some, ii]; rfl
      unfold D_X11_goesWith_99b
      rw [if_neg (show ¬ Int32.ofNat l ≤ Int32.ofNat i from fun z => by have := (nat_le (by omega) (by omega)).mp z; omega)]
      cases b
      · rw [if_pos (show b01 false = 0 from rfl), t142, if_neg (by decide)]
      · rw [if_neg (show ¬ b01 true = 0 by decide), if_pos (show true = true from rfl), q47, Option.bind_some, rd (by omega), Option.bind_some]
        by_cases q : gt row i = l + 1
        · rw [if_pos ((dv_eq (by omega) (by omega)).mpr q), if_pos q]
          by_cases q2 : v = i
          · rw [if_pos (by rw [q2]), if_pos q2, t127]
          · rw [if_neg (fun z => q2 ((eq_lit (by omega) (by omega)).mp z)), if_neg q2, t142]
        · rw [if_neg (fun z => q ((dv_eq (by omega) (by omega)).mp z)), if_neg q, t127]
  have cb := fold_inv (f := fun i s => s + if gt row i = i + 1 then 1 else 0) (s := (0 : Nat)) (fun i s => s ≤ i) (Nat.le_refl _) (l + 1) (fun i s _ q => by split <;> omega)
  have l1 := loop_fold (F := fun k s i => D_X11_goesWith_12 k g (some 81) (Int32.ofNat l) (Int32.ofNat v) (Int32.ofNat s) (Int32.ofNat i)) (G := fun s => D_X11_goesWith_12b (fun _ _ _ _ _ _ => none) g (some 81) (Int32.ofNat l) (Int32.ofNat v) (Int32.ofNat s) (Int32.ofNat (l + 1))) (N := l + 1) (fun i s => s + if gt row i = i + 1 then 1 else 0) (fun k s => ?_) (fun k s i hi => ?_) 0 (by omega)
  · refine l1.trans ?_
    generalize foldN (fun i s => s + if gt row i = i + 1 then 1 else 0) (l + 1) 0 = c at cb ⊢
    unfold D_X11_goesWith_12b D_X11_goesWith_70 D_X11_goesWith_89
    rw [if_pos ((nat_lt (by omega) (by omega)).mpr (by omega))]
    by_cases q : v = l
    · rw [if_pos (by rw [q]), s_gQ (r := 83) hs rfl rfl, Option.bind_some, i0, Option.bind_some, if_pos q, show Int32.ofNat n - Int32.ofNat n / 2 * 2 = Int32.ofNat (n % 2) from sc_mod (by omega) (by decide) (by decide)]
      by_cases q2 : n % 2 = 1
      · rw [if_pos (show Int32.ofNat (n % 2) = 1 by rw [q2]; rfl), if_pos q2]
        by_cases q3 : c = 1
        · rw [if_pos (show Int32.ofNat c = 1 by rw [q3]; rfl), decide_eq_true q3]; exact lp true
        · rw [if_neg (show ¬ Int32.ofNat c = 1 from fun z => q3 ((eq_lit (b := 1) (by omega) (by decide)).mp z)), decide_eq_false q3]; exact lp false
      · rw [if_neg (show ¬ Int32.ofNat (n % 2) = 1 from fun z => q2 ((eq_lit (b := 1) (by omega) (by decide)).mp z)), if_neg q2]; exact lp false
    · rw [if_neg (show ¬ Int32.ofNat v = Int32.ofNat l from fun z => q ((eq_lit (by omega) (by omega)).mp z)), if_neg q]
      by_cases q2 : l < v
      · rw [if_pos ((nat_lt (by omega) (by omega)).mpr q2), if_pos q2]; exact lp true
      · rw [if_neg (show ¬ Int32.ofNat l < Int32.ofNat v from fun z => q2 ((nat_lt (by omega) (by omega)).mp z)), if_neg q2, q47, Option.bind_some, rd (by omega), Option.bind_some]
        have gv := (r v (by omega)).1
        by_cases q3 : gt row v = l + 1
        · rw [if_pos ((dv_eq (by omega) (by omega)).mpr q3), decide_eq_true q3]; exact lp true
        · rw [if_neg (fun z => q3 ((dv_eq (by omega) (by omega)).mp z)), decide_eq_false q3]; exact lp false
  · show D_X11_goesWith_12b _ g (some 81) (Int32.ofNat l) (Int32.ofNat v) (Int32.ofNat s) (Int32.ofNat (l + 1)) = _
    have : Int32.ofNat l < Int32.ofNat (l + 1) := (nat_lt (by omega) (by omega)).mpr (by omega)
    unfold D_X11_goesWith_12b
    rw [if_pos this, if_pos this]
  · show D_X11_goesWith_12b (D_X11_goesWith_12 k) g (some 81) (Int32.ofNat l) (Int32.ofNat v) (Int32.ofNat s) (Int32.ofNat i) = _
    have gi := (r i (by omega)).1
    have ii : Int32.ofNat i + 1 = Int32.ofNat (i + 1) := sc_add i 1
    unfold D_X11_goesWith_12b D_X11_goesWith_36
    rw [if_neg (show ¬ Int32.ofNat l < Int32.ofNat i from fun z => by have := (nat_lt (by omega) (by omega)).mp z; omega), q47, Option.bind_some, rd (by omega), Option.bind_some]
    by_cases q : gt row i = i + 1
    · rw [if_pos ((dv_eq (by omega) (by omega)).mpr q), Option.bind_some, Option.bind_some, ii, if_pos q, show Int32.ofNat s + 1 = Int32.ofNat (s + 1) from sc_add s 1]
    · rw [if_neg (fun z => q ((dv_eq (by omega) (by omega)).mp z)), Option.bind_some, Option.bind_some, ii, if_neg q, show Int32.ofNat s + 0 = Int32.ofNat (s + 0) from sc_add s 0]
end CR
