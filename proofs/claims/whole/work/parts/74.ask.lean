/-! helps for calls that only ask -/
section HQ
variable {j : Nat} {h g : z_H} {a n : Nat}
theorem xc (x : Int32) (n : Nat) (hn : n < 2 ^ 31) : (∃ p, p < n ∧ x = Int32.ofNat p) ∨ ¬ (0 ≤ x.toInt ∧ x.toInt < n) := by
  by_cases c : 0 ≤ x.toInt ∧ x.toInt < n
  · obtain ⟨k, e, e1, e2⟩ := nat_of c.1
    exact Or.inl ⟨k, by omega, e⟩
  · exact Or.inr c
theorem of_int {p : Nat} (hp : p < 2 ^ 31) : (Int32.ofNat p).toInt = p := Int32.toInt_ofNat_of_lt hp
theorem hasP1 (hs : Sh g) (ha : isY a) (e : fI g a 8 = Int32.ofNat n) (hn : n < 2 ^ 31) {p : Nat} (hp : p < n) : D_X9_hasPair g (some a) (Int32.ofNat p) = some (1, g) := hasP_yes (yR hs ha).2.2.2.2.2.2.2.1 (by rw [e, of_int hn, of_int (by omega)]; omega)
theorem hasP0 (hs : Sh g) (ha : isY a) (e : fI g a 8 = Int32.ofNat n) (hn : n < 2 ^ 31) {x : Int32} (hx : ¬ (0 ≤ x.toInt ∧ x.toInt < n)) : D_X9_hasPair g (some a) x = some (0, g) := hasP_no (yR hs ha).2.2.2.2.2.2.2.1 (by rw [e, of_int hn]; exact hx)
theorem isPr (hs : Sh g) (e : aI g 83 0 = Int32.ofNat n) (hn : n ≤ 6) (x : Int32) : D_X11_isPair g (some 81) x = some (if 0 ≤ x.toInt ∧ x.toInt < n then 1 else 0, g) := by
  have i0 : z_aI .int g (some 83) 0 = some (aI g 83 0) := m83 (i := 0) hs (by decide)
  unfold D_X11_isPair
  rw [s_gQ (r := 83) hs rfl rfl, Option.bind_some, i0, Option.bind_some, d_in, Option.bind_some, e]
  dsimp only
  have : ((0 : Int64).toInt ≤ x.toInt64.toInt ∧ x.toInt64.toInt ≤ ((Int32.ofNat n).toInt64 - 1).toInt) ↔ (0 ≤ x.toInt ∧ x.toInt < n) := by
    rw [sub1 ⟨n, rfl, hn⟩ (by decide), wide, of_int (by omega), l_lits.1]; omega
  by_cases c : 0 ≤ x.toInt ∧ x.toInt < n
  · rw [if_pos (this.mpr c), if_pos c, if_pos (Or.inr rfl)]
  · rw [if_neg (fun z => c (this.mp z)), if_neg c, if_pos (Or.inl rfl)]
theorem isP1 (hs : Sh g) (e : aI g 83 0 = Int32.ofNat n) (hn : n ≤ 6) {p : Nat} (hp : p < n) : D_X11_isPair g (some 81) (Int32.ofNat p) = some (1, g) := by
  rw [isPr hs e hn, if_pos (by rw [of_int (by omega)]; omega)]
theorem isP0 (hs : Sh g) (e : aI g 83 0 = Int32.ofNat n) (hn : n ≤ 6) {x : Int32} (hx : ¬ (0 ≤ x.toInt ∧ x.toInt < n)) : D_X11_isPair g (some 81) x = some (0, g) := by
  rw [isPr hs e hn, if_neg hx]
theorem partC1 {p : Nat} (hp : p < 4) : D_X10_isPart g (Int32.ofNat p) = some (1, g) := part_yes (by rw [of_int (by omega)]; omega) g
theorem partC0 {x : Int32} (hx : ¬ (0 ≤ x.toInt ∧ x.toInt < (4 : Nat))) : D_X10_isPart g x = some (0, g) := part_no (by omega) g
theorem partM1 {p : Nat} (hp : p < 4) : D_X11_isPart g (Int32.ofNat p) = some (1, g) := partM_yes (by rw [of_int (by omega)]; omega) g
theorem partM0 {x : Int32} (hx : ¬ (0 ≤ x.toInt ∧ x.toInt < (4 : Nat))) : D_X11_isPart g x = some (0, g) := partM_no (by omega) g
theorem cellC1 {p : Nat} (hp : p < 25) : D_X10_isCell g (Int32.ofNat p) = some (1, g) := cell_yes (by rw [of_int (by omega)]; omega) g
theorem cellC0 {x : Int32} (hx : ¬ (0 ≤ x.toInt ∧ x.toInt < (25 : Nat))) : D_X10_isCell g x = some (0, g) := cell_no (by omega) g
theorem cellM1 {p : Nat} (hp : p < 25) : D_X11_isCell g (Int32.ofNat p) = some (1, g) := cellM_yes (by rw [of_int (by omega)]; omega) g
theorem cellM0 {x : Int32} (hx : ¬ (0 ≤ x.toInt ∧ x.toInt < (25 : Nat))) : D_X11_isCell g x = some (0, g) := cellM_no (by omega) g
theorem p81 (hs : Sh g) : z_pV 11 g (some 81) 0 (.int 0) = some (t0 g) := s_pV hs (ci := 11) rfl (by decide) _
theorem t0_on (hs : Sh g) : OnM [81] [0] g (t0 g) := ⟨Sh_t0 hs, Tch_wF (Tch_rfl _ g) (by decide) _ _, fun k hk => ⟨fI_wF_ne (fun q => hk (by rw [q.2]; decide)), fJ_wF_ne (fun q => hk (by rw [q.2]; decide))⟩⟩
/-- both ask on paper -/
theorem agree_q {α : Type} {A B : z_H → Option (α × z_H)} (H : Inv j h) {x : α} {h1 h2 : z_H} (eA : A h = some (x, h1)) (S1 : Same h h1) (eB : B h1 = some (x, h2)) (S2 : Same h1 h2) : Agree Inv j h A B := ⟨x, h1, h2, eA, ob81 S1.1, eB, Inv_same H (S1.trans S2)⟩
/-- the number of pairs -/
theorem Inv.np (H : Inv j h) : ∃ n, n ≤ 6 ∧ fI h 1 8 = Int32.ofNat n ∧ aI h 83 0 = Int32.ofNat n := by
  obtain ⟨n, e, hn⟩ := H.Y.1.1
  exact ⟨n, hn, e, by rw [H.Y.2.1.1, e]⟩
/-- where a pair is -/
theorem Inv.at (H : Inv j h) {p : Nat} (hp : p < 6) : ∃ c y, c < 25 ∧ y < 4 ∧ aI h 83 (8 + p) = Int32.ofNat c ∧ aI h 83 (14 + p) = Int32.ofNat y ∧ aI h 2 p = Int32.ofNat c ∧ aI h 3 p = Int32.ofNat y := by
  obtain ⟨b1, b2, -⟩ := H.Y.1.2.2.2.2.2.1 p hp
  obtain ⟨e1, e2, -⟩ := H.Y.2.1.2.2.2.2.2.1 p hp
  obtain ⟨c, ec, hc⟩ := b1
  obtain ⟨y, ey, hy⟩ := b2
  exact ⟨c, y, by omega, by omega, by rw [e1]; exact ec, by rw [e2]; exact ey, ec, ey⟩
theorem placeC (hs : Sh g) {p c y : Nat} (hp : p < 6) (ec : aI g 2 p = Int32.ofNat c) (ey : aI g 3 p = Int32.ofNat y) : D_X9_placeOf g (some 1) (Int32.ofNat p) = some (Int32.ofNat (4 * c + y), g) := by
  have ha : isY 1 := Or.inl rfl
  unfold D_X9_placeOf
  rw [(yR hs ha).2.1, Option.bind_some, (yA hs ha).1 _ hp, Option.bind_some, (yR hs ha).2.2.1, Option.bind_some, (yA hs ha).2.1 _ hp, Option.bind_some, ec, ey, show (4 : Int32) = Int32.ofNat 4 from rfl, sc_mul, sc_add, Nat.mul_comm]
theorem wornC (hs : Sh g) (ha : isY a) {p i : Nat} (hp : p < 6) (hi : i < 4) : D_X9_wornAt g (some a) (Int32.ofNat p) (Int32.ofNat i) = some (aI g (a + 4) (4 * p + i), g) := by
  have ei : Int32.ofNat p * 4 + Int32.ofNat i = Int32.ofNat (4 * p + i) := by rw [show (4 : Int32) = Int32.ofNat 4 from rfl, sc_mul, sc_add, Nat.mul_comm]
  unfold D_X9_wornAt
  rw [(yR hs ha).2.2.2.2.1, Option.bind_some, ei, (yA hs ha).2.2.2.1 _ (by omega), Option.bind_some]
theorem wornM (hs : Sh g) {p i : Nat} (hp : p < 6) (hi : i < 4) : D_X11_wornOf g (some 81) (Int32.ofNat p) (Int32.ofNat i) = some (aI g 83 (20 + 4 * p + i), g) := by
  have ei : (20 : Int32) + 4 * Int32.ofNat p + Int32.ofNat i = Int32.ofNat (20 + 4 * p + i) := by rw [show (20 : Int32) = Int32.ofNat 20 from rfl, show (4 : Int32) = Int32.ofNat 4 from rfl, sc_mul, sc_add, sc_add]
  unfold D_X11_wornOf
  rw [s_gQ (r := 83) hs rfl rfl, Option.bind_some, ei, m83 hs (by omega), Option.bind_some]
theorem Inv.worn (H : Inv j h) {p i : Nat} (hp : p < 6) (hi : i < 4) : aI h 83 (20 + 4 * p + i) = aI h 5 (4 * p + i) ∧ nb (aI h 5 (4 * p + i)) 99 := by
  have e := H.Y.2.1.2.2.2.2.2.2.1 (4 * p + i) (by omega)
  rw [← Nat.add_assoc] at e
  exact ⟨e, H.Y.1.2.2.2.2.2.2.1 (4 * p + i) (by omega)⟩
theorem none_q {A B : z_H → Option (Int32 × z_H)} (H : Inv j h) {x : Int32} (eA : A h = some (x, h)) (eB : B h = some (x, t0 h)) : Agree Inv j h A B := agree_none H eA eB
end HQ
section AQ
variable {j : Nat} {h : z_H}
theorem a_asks (H : Inv j h) (x y z : Int32) : Agree Inv j h (fun h => D_X10_asks h (some 0) x y z) (fun h => D_X11_asks h (some 81) x y z) := by
  have hs := H.1
  have st := Sh_t0 hs
  have ha : isY 1 := Or.inl rfl
  obtain ⟨n, hn, e1, e2⟩ := H.np
  have e2' : aI (t0 h) 83 0 = Int32.ofNat n := by rw [aI_wF]; exact e2
  have q0 : z_gQ 10 h (some 0) 0 = some (some 1) := s_gQ hs rfl rfl
  have q6 : z_gQ 10 h (some 0) 6 = some (some 29) := s_gQ hs rfl rfl
  rcases xc x n (by omega) with ⟨p, hp, rfl⟩ | nx
  · rcases xc y 4 (by decide) with ⟨i, hi, rfl⟩ | ny
    · obtain ⟨c, w, hc, hw, m8, m14, c2, c3⟩ := H.at (p := p) (by omega)
      obtain ⟨law, T, dl, lr⟩ := H.law
      obtain ⟨ew, bw⟩ := H.worn (p := p) (i := i) (by omega) hi
      have bw' := bw.int (by decide)
      have dP := hasP1 hs ha e1 (by omega) hp
      have iP := isP1 st e2' hn hp
      by_cases z0 : z = 0
      · obtain ⟨g1, s1, T1, d1⟩ := cI_wears hs ha H.Y lr (p := p) (j := i) (by omega) hi hc hw (worn := aI h 5 (4 * p + i)) (by omega)
        have ra := (H.RA lr s1 T1 (by decide) (by decide)).on (t0_on s1) (by decide) (by decide) (by decide)
        have c83 : aI (t0 g1) 83 = aI h 83 := by rw [aI_wF]; exact cell_aI (T1.c (by decide))
        obtain ⟨g2, o2, d2⟩ := mI_wearsNow ra (p := p) (j := i) (c := c) (y := w) (by omega) hi (by rw [c83]; exact m8) (by rw [c83]; exact m14)
        refine agree_q H (x := wearsV T (WA (aI h 83) p (Int32.ofNat i) (aI h 5 (4 * p + i)) c w)) (h1 := g1) (h2 := g2) ?_ (Same_T T1 s1 (by decide)) ?_ ((Same_t0 s1).trans (Same_M o2 (by decide)))
        · show D_X10_asks h (some 0) (Int32.ofNat p) (Int32.ofNat i) z = _
          unfold D_X10_asks
          rw [q0, Option.bind_some, (yR hs ha).1, Option.bind_some, dP, Option.bind_some]
          dsimp only
          rw [if_neg one_ne, partC1 hi, Option.bind_some]
          dsimp only
          rw [if_neg one_ne, if_pos z0, q6, Option.bind_some, q0, Option.bind_some, Option.bind_some, (yR hs ha).1, Option.bind_some, dl, Option.bind_some]
          dsimp only
          rw [q0, Option.bind_some, (yR hs ha).1, Option.bind_some, wornC hs ha (by omega) hi, Option.bind_some]
          dsimp only
          rw [q0, Option.bind_some, (yR hs ha).1, Option.bind_some, placeC hs (by omega) c2 c3, Option.bind_some]
          dsimp only
          rw [s_ob hs (ci := 1) rfl, Option.bind_some, d1, Option.bind_some]
        · show D_X11_asks g1 (some 81) (Int32.ofNat p) (Int32.ofNat i) z = _
          have e2g : aI (t0 g1) 83 0 = Int32.ofNat n := by rw [c83]; exact e2
          have st1 := Sh_t0 s1
          unfold D_X11_asks
          rw [p81 s1, Option.bind_some, s_ob st1 (ci := 11) rfl, Option.bind_some, isP1 st1 e2g hn hp, Option.bind_some]
          dsimp only
          rw [if_neg one_ne, partM1 hi, Option.bind_some]
          dsimp only
          rw [if_neg one_ne, d_in_yes (by rw [z0]; decide), Option.bind_some]
          dsimp only
          rw [if_neg one_ne, if_pos z0, s_ob st1 (ci := 11) rfl, Option.bind_some, d2, Option.bind_some, c83, ew]
      · by_cases z1 : z = 1
        · obtain ⟨g1, s1, T1, d1⟩ := cI_leaves hs ha H.Y dl lr (p := p) (j := i) (by omega) hi m8 m14 hc hw
          have ra := (H.RA lr s1 T1 (by decide) (by decide)).on (t0_on s1) (by decide) (by decide) (by decide)
          have c83 : aI (t0 g1) 83 = aI h 83 := by rw [aI_wF]; exact cell_aI (T1.c (by decide))
          obtain ⟨g2, o2, d2⟩ := mI_leaves ra (p := p) (j := i) (c := c) (y := w) (by omega) hi (by rw [c83]; exact m8) (by rw [c83]; exact m14)
          refine agree_q H (h1 := g1) (h2 := g2) (x := leavesV T (WA (aI h 83) p (Int32.ofNat i) (aI h 83 (20 + 4 * p + i)) c w)) ?_ (Same_T T1 s1 (by decide)) ?_ ((Same_t0 s1).trans (Same_M o2 (by decide)))
          · show D_X10_asks h (some 0) (Int32.ofNat p) (Int32.ofNat i) z = _
            unfold D_X10_asks
            rw [q0, Option.bind_some, (yR hs ha).1, Option.bind_some, dP, Option.bind_some]
            dsimp only
            rw [if_neg one_ne, partC1 hi, Option.bind_some]
            dsimp only
            rw [if_neg one_ne, if_neg z0, if_pos z1, q6, Option.bind_some, q0, Option.bind_some, s_ob hs (ci := 1) rfl, Option.bind_some, d1, Option.bind_some]
          · show D_X11_asks g1 (some 81) (Int32.ofNat p) (Int32.ofNat i) z = _
            have e2g : aI (t0 g1) 83 0 = Int32.ofNat n := by rw [c83]; exact e2
            have st1 := Sh_t0 s1
            unfold D_X11_asks
            rw [p81 s1, Option.bind_some, s_ob st1 (ci := 11) rfl, Option.bind_some, isP1 st1 e2g hn hp, Option.bind_some]
            dsimp only
            rw [if_neg one_ne, partM1 hi, Option.bind_some]
            dsimp only
            rw [if_neg one_ne, d_in_yes (by rw [z1]; decide), Option.bind_some]
            dsimp only
            rw [if_neg one_ne, if_neg z0, s_ob st1 (ci := 11) rfl, Option.bind_some, d2, Option.bind_some, c83]
        · refine none_q H (x := -1) ?_ ?_
          · show D_X10_asks h (some 0) (Int32.ofNat p) (Int32.ofNat i) z = _
            unfold D_X10_asks
            rw [q0, Option.bind_some, (yR hs ha).1, Option.bind_some, dP, Option.bind_some]
            dsimp only
            rw [if_neg one_ne, partC1 hi, Option.bind_some]
            dsimp only
            rw [if_neg one_ne, if_neg z0, if_neg z1]
          · show D_X11_asks h (some 81) (Int32.ofNat p) (Int32.ofNat i) z = _
            unfold D_X11_asks
            rw [p81 hs, Option.bind_some, s_ob st (ci := 11) rfl, Option.bind_some, iP, Option.bind_some]
            dsimp only
            rw [if_neg one_ne, partM1 hi, Option.bind_some]
            dsimp only
            have nz : ¬ ((0 : Int64).toInt ≤ z.toInt64.toInt ∧ z.toInt64.toInt ≤ (1 : Int64).toInt) := by
              rw [wide, l_lits.1, l_lits.2.1]
              intro q
              have : z.toInt = 0 ∨ z.toInt = 1 := by omega
              rcases this with q | q
              · exact z0 (Int32.toInt_inj.mp (by rw [q]; rfl))
              · exact z1 (Int32.toInt_inj.mp (by rw [q]; rfl))
            rw [if_neg one_ne, d_in_no nz, Option.bind_some]
            dsimp only
            rw [if_pos rfl]
    · refine none_q H (x := -1) ?_ ?_
      · show D_X10_asks h (some 0) (Int32.ofNat p) y z = _
        unfold D_X10_asks
        rw [q0, Option.bind_some, (yR hs ha).1, Option.bind_some, hasP1 hs ha e1 (by omega) hp, Option.bind_some]
        dsimp only
        rw [if_neg one_ne, partC0 ny, Option.bind_some]
        dsimp only
        rw [if_pos rfl]
      · show D_X11_asks h (some 81) (Int32.ofNat p) y z = _
        unfold D_X11_asks
        rw [p81 hs, Option.bind_some, s_ob st (ci := 11) rfl, Option.bind_some, isP1 st e2' hn hp, Option.bind_some]
        dsimp only
        rw [if_neg one_ne, partM0 ny, Option.bind_some]
        dsimp only
        rw [if_pos rfl]
  · refine none_q H (x := -1) ?_ ?_
    · show D_X10_asks h (some 0) x y z = _
      unfold D_X10_asks
      rw [q0, Option.bind_some, (yR hs ha).1, Option.bind_some, hasP0 hs ha e1 (by omega) nx, Option.bind_some]
      dsimp only
      rw [if_pos rfl]
    · show D_X11_asks h (some 81) x y z = _
      unfold D_X11_asks
      rw [p81 hs, Option.bind_some, s_ob st (ci := 11) rfl, Option.bind_some, isP0 st e2' hn nx, Option.bind_some]
      dsimp only
      rw [if_pos rfl]
end AQ
