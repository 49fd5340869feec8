section YM
variable {g g0 : z_H} {law : Option Nat} {T : LawT} {j : Nat} {h : z_H}
theorem wFJ_on {S ks : List Nat} {g : z_H} (hs : Sh g) {k : Nat} (e : isJ 81 k = true) (hS : 81 ∈ S) (hk : k ∈ ks) (v : Int64) : OnM S ks g (wF g 81 k (.long v)) := ⟨Sh_wFJ hs e v, Tch_wF (Tch_rfl _ g) hS _ _, fun q hq => by
  have : q ≠ k := fun z => hq (by rw [z]; exact hk)
  rw [fI_wF_ne (by omega), fJ_wF_ne (by omega)]
  exact ⟨rfl, rfl⟩⟩
theorem RA_row {S ks : List Nat} (H : RA g0 law T) (o : OnM S ks g0 g) (b : low S = true) (k20 : 20 ∉ ks) (R : RowB (aI g 83)) (e3 : aI g 83 3 = aI g0 83 3) (e : ∀ i, 62 ≤ i → aI g 83 i = aI g0 83 i) : RA g law T := by
  obtain ⟨h1, h2, h3, h4⟩ := H
  refine ⟨o.1, by rw [(o.2.2 20 k20).1]; exact h2, R, ?_⟩
  rw [e3]
  exact LawR_row (h4.T o.2.1 b) e
theorem m_yrsL {n N : Nat} (hn : 0 < n) (hn6 : n ≤ 6) (hN : N ≤ 60) : ∀ (k i fuel : Nat) (s : (Nat → Int32) × Nat × Nat) (x : z_H), i + k = N → k < fuel → s.2.1 < 1000003 → s.1 0 = Int32.ofNat n → RA x law T → aI x 83 = s.1 → fJ x 81 56 = Int64.ofNat s.2.1 → ∃ x', OnM [81, 83, 99, 101] [34, 38, 39, 40, 56] x x' ∧ aI x' 83 = (yrs T n k s).1 ∧ D_X11_years_68 fuel x (some 81) (Int32.ofNat N) (Int32.ofNat s.2.2) (Int32.ofNat i) = D_X11_years_217 x' (some 81) (Int32.ofNat (yrs T n k s).2.2) := by
  intro k
  induction k with
  | zero =>
    intro i fuel s x hi hf hd h0 H ex ej
    obtain ⟨fuel, rfl⟩ : ∃ f, fuel = f + 1 := ⟨fuel - 1, by omega⟩
    refine ⟨x, OnM.rfl' H.1, ex, ?_⟩
    show D_X11_years_68b (D_X11_years_68 fuel) x (some 81) (Int32.ofNat N) (Int32.ofNat s.2.2) (Int32.ofNat i) = _
    unfold D_X11_years_68b
    rw [if_pos (by rw [nat_le (by omega) (by omega)]; omega)]
    rfl
  | succ k ih =>
    intro i fuel s x hi hf hd h0 H ex ej
    obtain ⟨fuel, rfl⟩ : ∃ f, fuel = f + 1 := ⟨fuel - 1, by omega⟩
    have hs := H.1
    have st : D_X11_years_68 (fuel + 1) x (some 81) (Int32.ofNat N) (Int32.ofNat s.2.2) (Int32.ofNat i) = D_X11_years_68b (D_X11_years_68 fuel) x (some 81) (Int32.ofNat N) (Int32.ofNat s.2.2) (Int32.ofNat i) := rfl
    have R : RowB s.1 := by rw [← ex]; exact H.2.2.1
    obtain ⟨dd, edd, hdd⟩ := R.2.2.1
    have q3 : ∀ {x : z_H}, Sh x → z_gQ 11 x (some 81) 3 = some (some 83) := fun hx => s_gQ hx rfl rfl
    have r5 : ∀ {x : z_H}, Sh x → z_aI .int x (some 83) 5 = some (aI x 83 5) := fun hx => m83 (i := 5) hx (by decide)
    have r0 : z_aI .int x (some 83) 0 = some (Int32.ofNat n) := by
      have := m83 (i := 0) hs (by decide)
      rw [ex, h0] at this
      exact this
    have le9 : ((999 : Int32) ≤ Int32.ofNat dd) ↔ 999 ≤ dd := nat_le (a := 999) (by decide) (by omega)
    rw [st]
    unfold D_X11_years_68b
    rw [if_neg (by rw [nat_le (by omega) (by omega)]; omega), q3 hs, Option.bind_some, r5 hs, Option.bind_some, ex, edd]
    unfold yrs
    by_cases c9 : s.1 5 = 999
    · have : dd = 999 := by
        rw [edd] at c9
        exact (eq_lit (b := 999) (by omega) (by decide)).mp c9
      rw [if_pos (le9.mpr (by omega)), if_pos c9]
      exact ⟨x, OnM.rfl' hs, ex, rfl⟩
    have ndd : ¬ 999 ≤ dd := fun z => c9 (by rw [edd, show dd = 999 by omega]; rfl)
    have l1 := drN_lt s.2.1
    have l2 := drN_lt (drN s.2.1)
    have l3 := drN_lt (drN (drN s.2.1))
    have d1 := m_draw hs hd ej hn hn6
    have s1 : Sh (wF x 81 56 (.long (Int64.ofNat (drN s.2.1)))) := Sh_wFJ hs rfl _
    have d2 := m_draw (n := 4) s1 l1 (fJ_wF_eq hs rfl _) (by decide) (by decide)
    have s2 : Sh (wF (wF x 81 56 (.long (Int64.ofNat (drN s.2.1)))) 81 56 (.long (Int64.ofNat (drN (drN s.2.1))))) := Sh_wFJ s1 rfl _
    have d3 := m_draw (n := 2) s2 l2 (fJ_wF_eq s1 rfl _) (by decide) (by decide)
    have s3 : Sh (wF (wF (wF x 81 56 (.long (Int64.ofNat (drN s.2.1)))) 81 56 (.long (Int64.ofNat (drN (drN s.2.1))))) 81 56 (.long (Int64.ofNat (drN (drN (drN s.2.1)))))) := Sh_wFJ s2 rfl _
    have o3 : OnM [81, 83, 99, 101] [34, 38, 39, 40, 56] x (wF (wF (wF x 81 56 (.long (Int64.ofNat (drN s.2.1)))) 81 56 (.long (Int64.ofNat (drN (drN s.2.1))))) 81 56 (.long (Int64.ofNat (drN (drN (drN s.2.1)))))) := (wFJ_on hs rfl (by decide) (by decide) _).trans ((wFJ_on s1 rfl (by decide) (by decide) _).trans (wFJ_on s2 rfl (by decide) (by decide) _))
    have x3 : aI (wF (wF (wF x 81 56 (.long (Int64.ofNat (drN s.2.1)))) 81 56 (.long (Int64.ofNat (drN (drN s.2.1))))) 81 56 (.long (Int64.ofNat (drN (drN (drN s.2.1)))))) 83 = s.1 := by rw [aI_wF, aI_wF, aI_wF]; exact ex
    have j3 : fJ (wF (wF (wF x 81 56 (.long (Int64.ofNat (drN s.2.1)))) 81 56 (.long (Int64.ofNat (drN (drN s.2.1))))) 81 56 (.long (Int64.ofNat (drN (drN (drN s.2.1)))))) 81 56 = Int64.ofNat (drN (drN (drN s.2.1))) := fJ_wF_eq s2 rfl _
    have d2' : D_X11_draw (wF x 81 56 (.long (Int64.ofNat (drN s.2.1)))) (some 81) 4 = _ := d2
    have d3' : D_X11_draw (wF (wF x 81 56 (.long (Int64.ofNat (drN s.2.1)))) 81 56 (.long (Int64.ofNat (drN (drN s.2.1))))) (some 81) 2 = _ := d3
    rw [if_neg (fun z => ndd (le9.mp z)), if_neg c9, Option.bind_some, r0, Option.bind_some, s_ob hs (ci := 11) rfl, Option.bind_some, d1, Option.bind_some]
    dsimp only
    rw [s_ob s1 (ci := 11) rfl, Option.bind_some, d2', Option.bind_some]
    dsimp only
    rw [s_ob s2 (ci := 11) rfl, Option.bind_some, d3', Option.bind_some]
    dsimp only
    generalize wF (wF (wF x 81 56 (.long (Int64.ofNat (drN s.2.1)))) 81 56 (.long (Int64.ofNat (drN (drN s.2.1))))) 81 56 (.long (Int64.ofNat (drN (drN (drN s.2.1))))) = y at *
    have Hy : RA y law T := RA_row H o3 (by decide) (by decide) (by rw [x3]; exact R) (by rw [x3, ex]) (fun i _ => by rw [x3, ex])
    have hp : drN s.2.1 % n < n := Nat.mod_lt _ hn
    have hp6 : drN s.2.1 % n < 6 := by omega
    have hq : drN (drN (drN s.2.1)) % 2 < 2 := Nat.mod_lt _ (by decide)
    have h4 : drN (drN s.2.1) % 4 < 4 := Nat.mod_lt _ (by decide)
    obtain ⟨c, w, hc, hw, e8, e14, t8, t14⟩ := Hy.at hp6
    -- the day passes
    have tail : ∀ (z : z_H) (m1 : Nat → Int32) (stp : Nat), OnM [81, 83, 99, 101] [34, 38, 39, 40] y z → aI z 83 = m1 → RowB m1 → (∀ i, i < 8 ∨ 44 ≤ i → m1 i = s.1 i) → yrS T n s = (upd m1 5 (m1 5 + 1), drN (drN (drN s.2.1)), stp) → ∃ x', OnM [81, 83, 99, 101] [34, 38, 39, 40, 56] x x' ∧ aI x' 83 = (yrs T n k (yrS T n s)).1 ∧ D_X11_years_201 (D_X11_years_68 fuel) z (some 81) (Int32.ofNat N) (Int32.ofNat stp) (Int32.ofNat i) = D_X11_years_217 x' (some 81) (Int32.ofNat (yrs T n k (yrS T n s)).2.2) := fun z m1 stp oz az Rz out ey => by
      have w5 : z_sI z (some 83) 5 (m1 5 + 1) = some (wA z 83 (upd m1 5 (m1 5 + 1))) := by
        have := w83 (i := 5) oz.1 (by decide) (m1 5 + 1)
        rw [az] at this
        exact this
      have ow : OnM [81, 83, 99, 101] [34, 38, 39, 40, 56] x (wA z 83 (upd m1 5 (m1 5 + 1))) := o3.trans ((oz.mono (by decide) (by decide)).trans (onA oz.1 rfl (by decide) _))
      have aw : aI (wA z 83 (upd m1 5 (m1 5 + 1))) 83 = upd m1 5 (m1 5 + 1) := aI_wA_eq oz.1 rfl _
      have Hw : RA (wA z 83 (upd m1 5 (m1 5 + 1))) law T := RA_row H ow (by decide) (by decide) (by rw [aw]; exact RowB_day Rz (by rw [out 5 (by decide)]; exact c9)) (by rw [aw, ex, upd_ne (by decide)]; exact out 3 (by decide)) (fun i hi => by rw [aw, ex, upd_ne (by omega)]; exact out i (by omega))
      have jw : fJ (wA z 83 (upd m1 5 (m1 5 + 1))) 81 56 = Int64.ofNat (drN (drN (drN s.2.1))) := by rw [fJ_wA, (oz.2.2 56 (by decide)).2]; exact j3
      obtain ⟨x', o', a', e'⟩ := ih (i + 1) fuel (yrS T n s) (wA z 83 (upd m1 5 (m1 5 + 1))) (by omega) (by omega) (by rw [ey]; exact l3) (by rw [ey]; show upd m1 5 (m1 5 + 1) 0 = _; rw [upd_ne (by decide), out 0 (by decide)]; exact h0) Hw (by rw [ey]; exact aw) (by rw [ey]; exact jw)
      refine ⟨x', ow.trans o', a', ?_⟩
      unfold D_X11_years_201
      rw [q3 oz.1, Option.bind_some, r5 oz.1, Option.bind_some, az, w5, Option.bind_some, Option.bind_some, show Int32.ofNat i + 1 = Int32.ofNat (i + 1) from sc_add i 1]
      rw [ey] at e' ⊢
      exact e'
    have eq2 : (Int32.ofNat (drN (drN s.2.1) % 4) = 2) ↔ drN (drN s.2.1) % 4 = 2 := eq_lit (b := 2) (by omega) (by decide)
    have eq3 : (Int32.ofNat (drN (drN s.2.1) % 4) = 3) ↔ drN (drN s.2.1) % 4 = 3 := eq_lit (b := 3) (by omega) (by decide)
    have le2 : ((2 : Int32) ≤ Int32.ofNat (drN (drN s.2.1) % 4)) ↔ 2 ≤ drN (drN s.2.1) % 4 := nat_le (a := 2) (by decide) (by omega)
    by_cases c1 : 2 ≤ drN (drN s.2.1) % 4
    · rw [if_pos (le2.mpr c1)]
      unfold D_X11_years_148 D_X11_years_167
      rw [if_pos rfl]
      by_cases c2 : drN (drN s.2.1) % 4 = 2
      · have eact : actOf (drN (drN s.2.1) % 4) = 1 := by unfold actOf; rw [if_neg (by omega), if_pos c2]
        obtain ⟨z, oz, az, dz⟩ := m_turnIt Hy hp6 hq
        have ea : actN T s.1 1 (drN s.2.1 % n) (drN (drN (drN s.2.1)) % 2) = some (trnV (s.1 (14 + drN s.2.1 % n)) (Int32.ofNat (drN (drN (drN s.2.1)) % 2)), aI z 83) := by
          rw [az, x3]
          unfold actN wornV
          rw [if_neg (by decide), if_pos rfl]
        obtain ⟨R', out, -⟩ := act_row R (by decide) hp6 (fun _ => hq) (fun q => by cases q) ea
        have ey : yrS T n s = (upd (aI z 83) 5 (aI z 83 5 + 1), drN (drN (drN s.2.1)), s.2.2) := by
          unfold yrS
          rw [eact, ea]
          rfl
        obtain ⟨x', R''⟩ := tail z (aI z 83) s.2.2 oz rfl R' out ey
        refine ⟨x', R''.1, R''.2.1, ?_⟩
        rw [if_pos (eq2.mpr c2), s_ob Hy.1 (ci := 11) rfl, Option.bind_some, dz, Option.bind_some]
        unfold D_X11_years_181
        rw [if_neg (fun q => by have := eq3.mp q; omega)]
        exact R''.2.2
      · have c3 : drN (drN s.2.1) % 4 = 3 := by omega
        have eact : actOf (drN (drN s.2.1) % 4) = 2 := by unfold actOf; rw [if_neg (by omega), if_neg c2]
        obtain ⟨zx, z, v, oz, az, sx, dz1, dz2⟩ := m_pauseIt Hy hp6
        have ea : actN T s.1 2 (drN s.2.1 % n) (drN (drN (drN s.2.1)) % 2) = some (wornV T s.1 (drN s.2.1 % n) 1, aI z 83) := by
          rw [az, x3]
          unfold actN wornV
          rw [if_neg (by decide), if_neg (by decide), if_pos rfl]
        obtain ⟨R', out, -⟩ := act_row R (by decide) hp6 (fun q => by cases q) (fun q => by cases q) ea
        have ey : yrS T n s = (upd (aI z 83) 5 (aI z 83 5 + 1), drN (drN (drN s.2.1)), s.2.2) := by
          unfold yrS
          rw [eact, ea]
          rfl
        obtain ⟨x', R''⟩ := tail z (aI z 83) s.2.2 oz rfl R' out ey
        refine ⟨x', R''.1, R''.2.1, ?_⟩
        rw [if_neg (fun q => c2 (eq2.mp q))]
        unfold D_X11_years_181
        rw [if_pos (eq3.mpr c3), s_ob Hy.1 (ci := 11) rfl, Option.bind_some, dz1, Option.bind_some]
        dsimp only
        rw [s_ob sx (ci := 11) rfl, Option.bind_some, dz2, Option.bind_some]
        exact R''.2.2
    · have eact : actOf (drN (drN s.2.1) % 4) = 0 := by unfold actOf; rw [if_pos (by omega)]
      obtain ⟨z1, oz1, dz1⟩ := mI_stepOf Hy hp6 hc hw
      have az1 : aI z1 83 = s.1 := by rw [cell_aI (oz1.2.1.c (by decide))]; exact x3
      rw [if_neg (fun q => c1 (le2.mp q)), q3 Hy.1, Option.bind_some, (m_at Hy hp6).1, Option.bind_some, Option.bind_some, (m_at Hy hp6).2, Option.bind_some, s_ob Hy.1 (ci := 11) rfl, Option.bind_some, e8, e14, dz1, Option.bind_some]
      dsimp only
      unfold D_X11_years_148
      have skip : ∀ (z : z_H) (stp : Nat), D_X11_years_167 (D_X11_years_68 fuel) z (some 81) (Int32.ofNat N) (Int32.ofNat stp) (Int32.ofNat i) (Int32.ofNat (drN s.2.1 % n)) (Int32.ofNat (drN (drN s.2.1) % 4)) (Int32.ofNat (drN (drN (drN s.2.1)) % 2)) = D_X11_years_201 (D_X11_years_68 fuel) z (some 81) (Int32.ofNat N) (Int32.ofNat stp) (Int32.ofNat i) := fun z stp => by
        unfold D_X11_years_167 D_X11_years_181
        rw [if_neg (fun q => by have := eq2.mp q; omega), if_neg (fun q => by have := eq3.mp q; omega)]
      rw [x3] at t8 t14
      by_cases q : targV T (aI y 83) (drN s.2.1 % n) c w = -1
      · have ea : actN T s.1 0 (drN s.2.1 % n) (drN (drN (drN s.2.1)) % 2) = none := by
          unfold actN
          rw [if_pos rfl, t8, t14, ← x3, if_pos q]
        have ey : yrS T n s = (upd s.1 5 (s.1 5 + 1), drN (drN (drN s.2.1)), s.2.2) := by
          unfold yrS
          rw [eact, ea]
        obtain ⟨x', R''⟩ := tail z1 s.1 s.2.2 (oz1.mono (by decide) (by decide)) az1 R (fun _ _ => rfl) ey
        refine ⟨x', R''.1, R''.2.1, ?_⟩
        rw [if_pos q, skip]
        exact R''.2.2
      · have Hz1 := Hy.on oz1 (by decide) (by decide) (by decide)
        obtain ⟨z, oz, az, dz⟩ := m_stepIt Hz1 hp6 (targV T (aI y 83) (drN s.2.1 % n) c w)
        have ea : actN T s.1 0 (drN s.2.1 % n) (drN (drN (drN s.2.1)) % 2) = some (targV T s.1 (drN s.2.1 % n) c w, aI z 83) := by
          rw [az, az1]
          unfold actN wornV
          rw [if_pos rfl, t8, t14, ← x3, if_neg q]
        obtain ⟨R', out, -⟩ := act_row R (by decide) hp6 (fun q => by cases q) (fun q => by cases q) ea
        have ey : yrS T n s = (upd (aI z 83) 5 (aI z 83 5 + 1), drN (drN (drN s.2.1)), s.2.2 + 1) := by
          unfold yrS
          rw [eact, ea]
          rfl
        obtain ⟨x', R''⟩ := tail z (aI z 83) (s.2.2 + 1) ((oz1.mono (by decide) (by decide)).trans oz) rfl R' out ey
        refine ⟨x', R''.1, R''.2.1, ?_⟩
        rw [if_neg q, s_ob oz1.1 (ci := 11) rfl, Option.bind_some, dz, Option.bind_some, Option.bind_some, show Int32.ofNat s.2.2 + 1 = Int32.ofNat (s.2.2 + 1) from sc_add _ 1, skip]
        exact R''.2.2
end YM
