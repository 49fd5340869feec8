section OF
variable {j : Nat} {h : z_H}
theorem din1 {C : Int64} {N : Nat} (hC : C.toInt = N) {i : Nat} (hi : i < N + 1) (g : z_H) (hN : N < 2000000 := by decide) : D_X11_in g (Int32.ofNat i).toInt64 0 C = some (1, g) := by
  refine d_in_yes ?_ g
  rw [wide, of_int (by omega), l_lits.1, hC]; omega
theorem din0 {C : Int64} {N : Nat} (hC : C.toInt = N) {x : Int32} (hx : ¬ (0 ≤ x.toInt ∧ x.toInt < (N + 1 : Nat))) {g : z_H} : D_X11_in g x.toInt64 0 C = some (0, g) := by
  refine d_in_no ?_ g
  rw [wide, l_lits.1, hC]; omega
theorem a_of (H : Inv j h) (x y : Int32) : Agree Inv j h (fun h => D_X10_of h (some 0) x y) (fun h => D_X11_of h (some 81) x y) := by
  have hs := H.1
  have st := Sh_t0 hs
  have ha : isY 1 := Or.inl rfl
  obtain ⟨n, hn, e1, e2⟩ := H.np
  have e2' : aI (t0 h) 83 0 = Int32.ofNat n := by rw [aI_wF]; exact e2
  have q0 : z_gQ 10 h (some 0) 0 = some (some 1) := s_gQ hs rfl rfl
  have q6 : z_gQ 10 h (some 0) 6 = some (some 29) := s_gQ hs rfl rfl
  rcases xc x n (by omega) with ⟨p, hp, rfl⟩ | nx
  · have dP := hasP1 hs ha e1 (by omega) hp
    have iP := isP1 st e2' hn hp
    have hA : D_X10_of h (some 0) (Int32.ofNat p) y = if y < 3 then D_X10_of_36 h (some 0) (Int32.ofNat p) y else if 7 ≤ y then D_X10_of_36 h (some 0) (Int32.ofNat p) y else (D_X9_wornAt h (some 1) (Int32.ofNat p) (y - 3)).bind fun q => some (q.1, q.2) := by
      unfold D_X10_of
      rw [q0, Option.bind_some, (yR hs ha).1, Option.bind_some, dP, Option.bind_some]
      dsimp only
      rw [if_neg one_ne, q0, Option.bind_some, (yR hs ha).1, Option.bind_some]
    rcases xc y 8 (by decide) with ⟨i, hi, rfl⟩ | ny
    · have din : ∀ g, D_X11_in g (Int32.ofNat i).toInt64 0 7 = some (1, g) := fun g => din1 (N := 7) rfl hi g
      have hB : ∀ g, Sh g → aI g 83 = aI h 83 → D_X11_of g (some 81) (Int32.ofNat p) (Int32.ofNat i) = if i = 0 then some (aI h 83 (8 + p), t0 g) else if i = 1 then some (aI h 83 (14 + p), t0 g) else if i = 2 then some (aI h 83 (44 + p), t0 g) else if i = 7 then (D_X11_stepOf (t0 g) (some 81) (Int32.ofNat p) (aI h 83 (8 + p)) (aI h 83 (14 + p))).bind fun q => some (q.1, q.2) else some (aI h 83 (20 + 4 * p + (i - 3)), t0 g) := fun g sg eg => by
        have stg := Sh_t0 sg
        have c83 : aI (t0 g) 83 = aI h 83 := by rw [aI_wF, eg]
        have e8 : (8 : Int32) + Int32.ofNat p = Int32.ofNat (8 + p) := sc_add 8 p
        have e14 : (14 : Int32) + Int32.ofNat p = Int32.ofNat (14 + p) := sc_add 14 p
        have e44 : (44 : Int32) + Int32.ofNat p = Int32.ofNat (44 + p) := sc_add 44 p
        have lit : ∀ k, k < 8 → ((Int32.ofNat i = Int32.ofNat k) ↔ i = k) := fun k hk => eq_lit (by omega) (by omega)
        have l0 : (Int32.ofNat i = 0) ↔ i = 0 := lit 0 (by decide)
        have l1 : (Int32.ofNat i = 1) ↔ i = 1 := lit 1 (by decide)
        have l2 : (Int32.ofNat i = 2) ↔ i = 2 := lit 2 (by decide)
        have l3 : (Int32.ofNat i = 3) ↔ i = 3 := lit 3 (by decide)
        have l4 : (Int32.ofNat i = 4) ↔ i = 4 := lit 4 (by decide)
        have l5 : (Int32.ofNat i = 5) ↔ i = 5 := lit 5 (by decide)
        have l6 : (Int32.ofNat i = 6) ↔ i = 6 := lit 6 (by decide)
        have l7 : (Int32.ofNat i = 7) ↔ i = 7 := lit 7 (by decide)
        unfold D_X11_of
        rw [p81 sg, Option.bind_some, s_ob stg (ci := 11) rfl, Option.bind_some, isP1 stg (by rw [c83]; exact e2) hn hp, Option.bind_some]
        dsimp only
        rw [if_neg one_ne, din, Option.bind_some]
        dsimp only
        rw [if_neg one_ne]
        have hcs : i = 0 ∨ i = 1 ∨ i = 2 ∨ i = 7 ∨ (3 ≤ i ∧ i ≤ 6) := by omega
        rcases hcs with rfl | rfl | rfl | rfl | ⟨h3, h6⟩
        · rw [if_pos (by rfl), if_pos rfl, s_gQ (r := 83) stg rfl rfl, Option.bind_some, e8, m83 stg (by omega), Option.bind_some, c83]
        · rw [if_neg (by decide), if_pos (by rfl), if_neg (by decide), if_pos rfl, s_gQ (r := 83) stg rfl rfl, Option.bind_some, e14, m83 stg (by omega), Option.bind_some, c83]
        · rw [if_neg (by decide), if_neg (by decide), if_pos (by rfl), if_neg (by decide), if_neg (by decide), if_pos rfl, s_gQ (r := 83) stg rfl rfl, Option.bind_some, e44, m83 stg (by omega), Option.bind_some, c83]
        · rw [if_neg (by decide), if_neg (by decide), if_neg (by decide), if_neg (by decide), if_neg (by decide), if_neg (by decide), if_neg (by decide), if_pos (by rfl), if_neg (by decide), if_neg (by decide), if_neg (by decide), if_pos rfl, s_gQ (r := 83) stg rfl rfl, Option.bind_some, e8, m83 stg (by omega), Option.bind_some, Option.bind_some, e14, m83 stg (by omega), Option.bind_some, s_ob stg (ci := 11) rfl, Option.bind_some, c83]
        · have es : Int32.ofNat i - 3 = Int32.ofNat (i - 3) := sc_sub (k := 3) h3
          have dw := wornM stg (p := p) (i := i - 3) (by omega) (by omega)
          rw [if_neg (fun z => by have := l0.mp z; omega), if_neg (fun z => by have := l1.mp z; omega), if_neg (fun z => by have := l2.mp z; omega), es, s_ob stg (ci := 11) rfl, Option.bind_some, dw, Option.bind_some, c83, if_neg (show ¬ i = 0 by omega), if_neg (show ¬ i = 1 by omega), if_neg (show ¬ i = 2 by omega), if_neg (show ¬ i = 7 by omega)]
          by_cases q3 : Int32.ofNat i = 3
          · rw [if_pos q3]
          rw [if_neg q3]
          by_cases q4 : Int32.ofNat i = 4
          · rw [if_pos q4]
          rw [if_neg q4]
          by_cases q5 : Int32.ofNat i = 5
          · rw [if_pos q5]
          rw [if_neg q5]
          by_cases q6' : Int32.ofNat i = 6
          · rw [if_pos q6']
          rw [if_neg q6', if_neg (fun z => by have := l7.mp z; omega)]
      obtain ⟨f1, f2, f3, -⟩ := H.Y.2.1.2.2.2.2.2.1 p (by omega)
      have hcs : i = 0 ∨ i = 1 ∨ i = 2 ∨ i = 7 ∨ (3 ≤ i ∧ i ≤ 6) := by omega
      rcases hcs with rfl | rfl | rfl | rfl | ⟨h3, h6⟩
      · refine none_q H (x := aI h 2 p) ?_ ?_
        · show D_X10_of h (some 0) (Int32.ofNat p) (Int32.ofNat 0) = _
          rw [hA, if_pos (by decide)]
          unfold D_X10_of_36
          rw [if_pos (by rfl), q0, Option.bind_some, (yR hs ha).2.1, Option.bind_some, (yA hs ha).1 p (by omega), Option.bind_some]
        · show D_X11_of h (some 81) (Int32.ofNat p) (Int32.ofNat 0) = _
          rw [hB h hs rfl, if_pos rfl, f1]
      · refine none_q H (x := aI h 3 p) ?_ ?_
        · show D_X10_of h (some 0) (Int32.ofNat p) (Int32.ofNat 1) = _
          rw [hA, if_pos (by decide)]
          unfold D_X10_of_36
          rw [if_neg (by decide), if_pos (by rfl), q0, Option.bind_some, (yR hs ha).2.2.1, Option.bind_some, (yA hs ha).2.1 p (by omega), Option.bind_some]
        · show D_X11_of h (some 81) (Int32.ofNat p) (Int32.ofNat 1) = _
          rw [hB h hs rfl, if_neg (by decide), if_pos rfl, f2]
      · refine none_q H (x := aI h 4 p) ?_ ?_
        · show D_X10_of h (some 0) (Int32.ofNat p) (Int32.ofNat 2) = _
          rw [hA, if_pos (by decide)]
          unfold D_X10_of_36
          rw [if_neg (by decide), if_neg (by decide), if_pos (by rfl), q0, Option.bind_some, (yR hs ha).2.2.2.1, Option.bind_some, (yA hs ha).2.2.1 p (by omega), Option.bind_some]
        · show D_X11_of h (some 81) (Int32.ofNat p) (Int32.ofNat 2) = _
          rw [hB h hs rfl, if_neg (by decide), if_neg (by decide), if_pos rfl, f3]
      · obtain ⟨c, w, hc, hw, m8, m14, c2, c3⟩ := H.at (p := p) (by omega)
        obtain ⟨law, T, dl, lr⟩ := H.law
        obtain ⟨g1, s1, T1, d1⟩ := cI_target hs ha H.Y dl lr (p := p) (by omega) hc hw
        have ra := (H.RA lr s1 T1 (by decide) (by decide)).on (t0_on s1) (by decide) (by decide) (by decide)
        have c83 : aI (t0 g1) 83 = aI h 83 := by rw [aI_wF]; exact cell_aI (T1.c (by decide))
        obtain ⟨g2, o2, d2⟩ := mI_stepOf ra (p := p) (by omega) hc hw
        refine agree_q H (x := targV T (aI h 83) p c w) (h1 := g1) (h2 := g2) ?_ (Same_T T1 s1 (by decide)) ?_ ((Same_t0 s1).trans (Same_M o2 (by decide)))
        · show D_X10_of h (some 0) (Int32.ofNat p) (Int32.ofNat 7) = _
          rw [hA, if_neg (by decide), if_pos (by decide)]
          unfold D_X10_of_36
          rw [if_neg (by decide), if_neg (by decide), if_neg (by decide), if_neg (by decide), if_neg (by decide), if_neg (by decide), if_neg (by decide), if_pos (by rfl), q6, Option.bind_some, q0, Option.bind_some, Option.bind_some, (yR hs ha).1, Option.bind_some, placeC hs (by omega) c2 c3, Option.bind_some]
          dsimp only
          rw [s_ob hs (ci := 1) rfl, Option.bind_some, d1, Option.bind_some]
        · show D_X11_of g1 (some 81) (Int32.ofNat p) (Int32.ofNat 7) = _
          rw [hB g1 s1 (cell_aI (T1.c (by decide))), if_neg (by decide), if_neg (by decide), if_neg (by decide), if_pos rfl, m8, m14, d2, Option.bind_some, c83]
      · obtain ⟨ew, bw⟩ := H.worn (p := p) (i := i - 3) (by omega) (by omega)
        have es : Int32.ofNat i - 3 = Int32.ofNat (i - 3) := sc_sub (k := 3) h3
        have b3 : ¬ Int32.ofNat i < 3 := fun z => by have := (nat_lt (b := 3) (by omega) (by decide)).mp z; omega
        have b7 : ¬ (7 : Int32) ≤ Int32.ofNat i := fun z => by have := (nat_le (a := 7) (by decide) (by omega)).mp z; omega
        refine none_q H (x := aI h 5 (4 * p + (i - 3))) ?_ ?_
        · show D_X10_of h (some 0) (Int32.ofNat p) (Int32.ofNat i) = _
          rw [hA, if_neg b3, if_neg b7, es, wornC hs ha (by omega) (by omega), Option.bind_some]
        · show D_X11_of h (some 81) (Int32.ofNat p) (Int32.ofNat i) = _
          rw [hB h hs rfl, if_neg (show ¬ i = 0 by omega), if_neg (show ¬ i = 1 by omega), if_neg (show ¬ i = 2 by omega), if_neg (show ¬ i = 7 by omega), ew]
    · have ne : ∀ k : Nat, k < 8 → ¬ y = Int32.ofNat k := fun k hk z => ny (by rw [z, of_int (by omega)]; omega)
      have n0 : ¬ y = 0 := ne 0 (by decide)
      have n1 : ¬ y = 1 := ne 1 (by decide)
      have n2 : ¬ y = 2 := ne 2 (by decide)
      have n3 : ¬ y = 3 := ne 3 (by decide)
      have n4 : ¬ y = 4 := ne 4 (by decide)
      have n5 : ¬ y = 5 := ne 5 (by decide)
      have n6 : ¬ y = 6 := ne 6 (by decide)
      have n7 : ¬ y = 7 := ne 7 (by decide)
      have h36 : D_X10_of_36 h (some 0) (Int32.ofNat p) y = some (-1, h) := by
        unfold D_X10_of_36
        rw [if_neg n0, if_neg n1, if_neg n2, if_neg n3, if_neg n4, if_neg n5, if_neg n6, if_neg n7]
      refine none_q H (x := -1) ?_ ?_
      · show D_X10_of h (some 0) (Int32.ofNat p) y = _
        rw [hA]
        by_cases b3 : y < 3
        · rw [if_pos b3, h36]
        · rw [if_neg b3, if_pos (by
            rw [Int32.lt_iff_toInt_lt, i_lits.2.2.2.1] at b3
            rw [Int32.le_iff_toInt_le, i_lits.2.2.2.2.2.2.2.1]
            omega), h36]
      · show D_X11_of h (some 81) (Int32.ofNat p) y = _
        unfold D_X11_of
        rw [p81 hs, Option.bind_some, s_ob st (ci := 11) rfl, Option.bind_some, iP, Option.bind_some]
        dsimp only
        rw [if_neg one_ne, din0 (N := 7) rfl ny, Option.bind_some]
        dsimp only
        rw [if_pos rfl]
  · refine none_q H (x := -1) ?_ ?_
    · show D_X10_of h (some 0) x y = _
      unfold D_X10_of
      rw [q0, Option.bind_some, (yR hs ha).1, Option.bind_some, hasP0 hs ha e1 (by omega) nx, Option.bind_some]
      dsimp only
      rw [if_pos rfl]
    · show D_X11_of h (some 81) x y = _
      unfold D_X11_of
      rw [p81 hs, Option.bind_some, s_ob st (ci := 11) rfl, Option.bind_some, isP0 st e2' hn nx, Option.bind_some]
      dsimp only
      rw [if_pos rfl]
end OF
