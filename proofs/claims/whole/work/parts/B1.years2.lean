section YR
variable {g g' h : z_H} {a b : Nat} {m m' : Nat → Int32} {law : Option Nat} {T : LawT}
theorem LawR_row {k : Int32} (H : LawR g m k law T) (e : ∀ i, 62 ≤ i → m' i = m i) : LawR g m' k law T := by
  rcases H with q | ⟨q, t, n, c, op, ar, cl, e1, e2, e3, e4, X, R⟩
  · exact Or.inl q
  · refine Or.inr ⟨q, t, n, c, op, ar, cl, e1, e2, e3, e4, X, ?_⟩
    have : (fun i => m' (62 + 900 * q + i)) = fun i => m (62 + 900 * q + i) := by
      funext i
      exact e _ (by omega)
    rw [this]
    exact R
/-- the law in force, out of another yard or heap -/
theorem lawF_copy (hs : Sh g) (hb : isY b) (hs' : Sh g') (ha : isY a) (d : D_X9_lawInForce g (some b) = some (law, g)) (Y : Yrel g b m) (f11 : fI g' a 11 = fI g b 11) (f12 : fI g' a 12 = fI g b 12) (q8 : ∀ k, k < 6 → aQ g' (a + 8) k = aQ g (b + 8) k) : D_X9_lawInForce g' (some a) = some (law, g') := by
  have y5 := Y.1.2.2.2.2.1
  have y4 := Y.1.2.2.2.1
  obtain ⟨f1, f2⟩ := y4.tn (by decide)
  obtain ⟨r0, r1, r2, r3, r4, r5, r6, r7, r8, r9, r10⟩ := yR hs hb
  obtain ⟨r0', r1', r2', r3', r4', r5', r6', r7', r8', r9', r10'⟩ := yR hs' ha
  unfold D_X9_lawInForce D_X9_lawAt D_X9_hasLaw at d ⊢
  rw [r10, Option.bind_some, r0, Option.bind_some, Option.bind_some] at d
  rw [r10', Option.bind_some, r0', Option.bind_some, Option.bind_some, f12]
  rcases y5 with e | ⟨q, e, hq⟩
  · rw [e, if_pos (by decide), Option.bind_some] at d ⊢
    dsimp only at d ⊢
    rw [if_pos rfl, Option.bind_some] at d ⊢
    cases d
    rfl
  · rw [e, if_neg (not_neg (by omega))] at d ⊢
    rw [r9, Option.bind_some, if_neg (by rw [f1, nat_le (by omega) (by omega)]; omega), Option.bind_some] at d
    rw [r9', Option.bind_some, f11, if_neg (by rw [f1, nat_le (by omega) (by omega)]; omega), Option.bind_some]
    dsimp only at d ⊢
    rw [if_neg one_ne] at d ⊢
    rw [r6, Option.bind_some, (yA hs hb).2.2.2.2.2 q (by omega), Option.bind_some, Option.bind_some] at d
    rw [r6', Option.bind_some, (yA hs' ha).2.2.2.2.2 q (by omega), Option.bind_some, Option.bind_some, q8 q (by omega)]
    cases d
    rfl
theorem c_yrsL (hs0 : Sh h) {n N : Nat} (hn : 0 < n) (hn6 : n ≤ 6) (hN : N ≤ 60) : ∀ (k i fuel : Nat) (s : (Nat → Int32) × Nat × Nat) (g : z_H), i + k = N → k < fuel → s.2.1 < 1000003 → s.2.2 ≤ i → s.1 0 = Int32.ofNat n → Sh g → Tch [12, 13, 14, 15, 16, 17, 18, 19, 20, 29, 30, 31, 33] h g → Yrel g 12 s.1 → D_X9_lawInForce g (some 12) = some (law, g) → LawR g s.1 (s.1 3) law T → ∃ g', Sh g' ∧ Tch [12, 13, 14, 15, 16, 17, 18, 19, 20, 29, 30, 31, 33] h g' ∧ Yrel g' 12 (yrs T n k s).1 ∧ (yrs T n k s).2.2 ≤ N ∧ D_X10_liveOnPaper_19 fuel g (some 0) (Int32.ofNat N) (Int32.ofNat s.2.1) (Int32.ofNat s.2.2) (Int32.ofNat i) = some (Int32.ofNat (yrs T n k s).2.2, g') := by
  have ha : isY 12 := Or.inr rfl
  intro k
  induction k with
  | zero =>
    intro i fuel s g hi hf hd hst h0 hs T0 Y dl lr
    obtain ⟨fuel, rfl⟩ : ∃ f, fuel = f + 1 := ⟨fuel - 1, by omega⟩
    refine ⟨g, hs, T0, Y, by show s.2.2 ≤ N; omega, ?_⟩
    show D_X10_liveOnPaper_19b (D_X10_liveOnPaper_19 fuel) g (some 0) (Int32.ofNat N) (Int32.ofNat s.2.1) (Int32.ofNat s.2.2) (Int32.ofNat i) = _
    unfold D_X10_liveOnPaper_19b
    rw [if_pos (by rw [nat_le (by omega) (by omega)]; omega)]
    rfl
  | succ k ih =>
    intro i fuel s g hi hf hd hst h0 hs T0 Y dl lr
    obtain ⟨fuel, rfl⟩ : ∃ f, fuel = f + 1 := ⟨fuel - 1, by omega⟩
    have st : D_X10_liveOnPaper_19 (fuel + 1) g (some 0) (Int32.ofNat N) (Int32.ofNat s.2.1) (Int32.ofNat s.2.2) (Int32.ofNat i) = D_X10_liveOnPaper_19b (D_X10_liveOnPaper_19 fuel) g (some 0) (Int32.ofNat N) (Int32.ofNat s.2.1) (Int32.ofNat s.2.2) (Int32.ofNat i) := rfl
    have e8 : fI g 12 8 = Int32.ofNat n := by rw [← Y.2.1.1]; exact h0
    have e17 : aI g 17 0 = s.1 5 := (Y.2.1.2.2.2.2.2.2.2 0 (by decide)).symm
    obtain ⟨dd, edd, hdd⟩ := Y.row.2.2.1
    have q3 : ∀ {x : z_H}, Sh x → z_gQ 10 x (some 0) 3 = some (some 12) := fun hx => s_gQ hx rfl rfl
    have q4 : ∀ {x : z_H}, Sh x → z_gQ 9 x (some 12) 4 = some (some 17) := fun hx => s_gQ hx rfl rfl
    have g8 : z_gI 9 g (some 12) 8 = some (Int32.ofNat n) := by rw [s_gI hs (ci := 9) rfl rfl, e8]
    have r17 : ∀ {x : z_H}, Sh x → z_aI .int x (some 17) 0 = some (aI x 17 0) := fun hx => aR (n := 3) (i := 0) hx rfl (by decide) (by decide)
    have x0 : z_xI (z_xs 1) 0 = some 999 := i_terms 0 999 (Or.inl ⟨rfl, rfl⟩)
    have pos : ¬ Int32.ofNat n ≤ 0 := fun z => by have := (nat_le (a := n) (b := 0) (by omega) (by decide)).mp z; omega
    rw [st]
    unfold D_X10_liveOnPaper_19b
    rw [if_neg (by rw [nat_le (by omega) (by omega)]; omega), q3 hs, Option.bind_some, g8, Option.bind_some, if_neg pos, Option.bind_some, q4 hs, Option.bind_some, r17 hs, Option.bind_some, x0, Option.bind_some, e17, edd]
    have le9 : ((999 : Int32) ≤ Int32.ofNat dd) ↔ 999 ≤ dd := nat_le (a := 999) (by decide) (by omega)
    unfold yrs
    by_cases c9 : s.1 5 = 999
    · have : dd = 999 := by
        rw [edd] at c9
        exact (eq_lit (b := 999) (by omega) (by decide)).mp c9
      rw [if_pos (le9.mpr (by omega)), if_pos c9]
      exact ⟨g, hs, T0, Y, by omega, rfl⟩
    have ndd : ¬ 999 ≤ dd := fun z => c9 (by rw [edd, show dd = 999 by omega]; rfl)
    rw [if_neg (fun z => ndd (le9.mp z)), if_neg c9, d_draw g hd, Option.bind_some]
    dsimp only
    have l1 := drN_lt s.2.1
    have l2 := drN_lt (drN s.2.1)
    have l3 := drN_lt (drN (drN s.2.1))
    have nn : ¬ Int32.ofNat n = 0 := fun z => by have := (eq_lit (b := 0) (by omega) (by decide)).mp z; omega
    rw [q3 hs, Option.bind_some, g8, Option.bind_some, if_neg nn, Option.bind_some, sc_mod (by omega) (by omega) hn, d_draw g l1, Option.bind_some]
    dsimp only
    rw [show (4 : Int32) = Int32.ofNat 4 from rfl, Option.bind_some, sc_mod (by omega) (by decide) (by decide), d_draw g l2, Option.bind_some]
    dsimp only
    have hp : drN s.2.1 % n < n := Nat.mod_lt _ hn
    have hq : drN (drN (drN s.2.1)) % 2 < 2 := Nat.mod_lt _ (by decide)
    -- the act
    have main : ∀ act, act < 3 → actOf (drN (drN s.2.1) % 4) = act → ∃ g', Sh g' ∧ Tch [12, 13, 14, 15, 16, 17, 18, 19, 20, 29, 30, 31, 33] h g' ∧ Yrel g' 12 (yrs T n k (yrS T n s)).1 ∧ (yrs T n k (yrS T n s)).2.2 ≤ N ∧ D_X10_liveOnPaper_104 (D_X10_liveOnPaper_19 fuel) g (some 0) (Int32.ofNat N) (Int32.ofNat (drN (drN (drN s.2.1)))) (Int32.ofNat s.2.2) (Int32.ofNat i) (Int32.ofNat (drN s.2.1 % n)) (Int32.ofNat act) = some (Int32.ofNat (yrs T n k (yrS T n s)).2.2, g') := fun act hact eact => by
      have b2 : Int32.ofNat (drN (drN (drN s.2.1))) - Int32.ofNat (drN (drN (drN s.2.1))) / 2 * 2 = Int32.ofNat (drN (drN (drN s.2.1)) % 2) := sc_mod (b := 2) (by omega) (by decide) (by decide)
      obtain ⟨C1, C2⟩ := c_carry hs ha Y dl lr e8 hn6 (act := act) (p := drN s.2.1 % n) (j := drN (drN (drN s.2.1)) % 2) (b := Int32.ofNat (drN (drN (drN s.2.1)) % 2)) (by omega) hp (fun _ => ⟨hq, rfl⟩) (fun z => by omega)
      have R := Y.row
      have ok := yrS_ok (T := T) hn hn6 R c9
      -- what follows the act
      have tail : ∀ (g1 : z_H) (m1 : Nat → Int32) (stp : Nat), Sh g1 → Tch [12, 13, 14, 15, 16, 17, 18, 19, 20, 29, 30, 31, 33] h g1 → Yrel g1 12 m1 → D_X9_lawInForce g1 (some 12) = some (law, g1) → LawR g1 m1 (m1 3) law T → m1 5 = s.1 5 → m1 0 = s.1 0 → stp ≤ i + 1 → yrS T n s = (upd m1 5 (m1 5 + 1), drN (drN (drN s.2.1)), stp) → ∃ g', Sh g' ∧ Tch [12, 13, 14, 15, 16, 17, 18, 19, 20, 29, 30, 31, 33] h g' ∧ Yrel g' 12 (yrs T n k (yrS T n s)).1 ∧ (yrs T n k (yrS T n s)).2.2 ≤ N ∧ D_X10_liveOnPaper_135 (D_X10_liveOnPaper_19 fuel) g1 (some 0) (Int32.ofNat N) (Int32.ofNat (drN (drN (drN s.2.1)))) (Int32.ofNat stp) (Int32.ofNat i) = some (Int32.ofNat (yrs T n k (yrS T n s)).2.2, g') := fun g1 m1 stp s1 T1 Y1 dl1 lr1 m5 m0 hst1 ey => by
        have f17 : aI g1 17 0 = m1 5 := (Y1.2.1.2.2.2.2.2.2.2 0 (by decide)).symm
        have s2 : Sh (wA g1 17 (upd (aI g1 17) 0 (m1 5 + 1))) := Sh_wA s1 rfl _
        have w17 : z_sI g1 (some 17) 0 (m1 5 + 1) = some (wA g1 17 (upd (aI g1 17) 0 (m1 5 + 1))) := aW (n := 3) (i := 0) s1 rfl (by decide) (by decide) _
        have T2 : Tch [17] g1 (wA g1 17 (upd (aI g1 17) 0 (m1 5 + 1))) := Tch_wA (Tch_rfl _ g1) (by decide) _
        have bd : nb (m1 5 + 1) 999 := ⟨dd + 1, by rw [m5, edd]; exact sc_add dd 1, by omega⟩
        have Y2 : Yrel (wA g1 17 (upd (aI g1 17) 0 (m1 5 + 1))) 12 (upd m1 5 (m1 5 + 1)) := Yrel_day (a := 12) Y1 T2 (by decide) (fun q h1 h2 => by simp only [List.mem_cons, List.not_mem_nil, or_false]; omega) bd (aI_wA_eq s1 rfl _)
        have dl2 := lawF_copy (a := 12) (b := 12) s1 ha s2 ha dl1 Y1 (fI_wA _ _ _ _) (fI_wA _ _ _ _) (fun k _ => by rw [aQ_wA])
        have lr2 : LawR (wA g1 17 (upd (aI g1 17) 0 (m1 5 + 1))) (upd m1 5 (m1 5 + 1)) (upd m1 5 (m1 5 + 1) 3) law T := by
          rw [upd_ne (by decide)]
          exact LawR_row (lr1.T T2 (by decide)) (fun i hi => upd_ne (by omega))
        obtain ⟨g', s', T', Y', st', e'⟩ := ih (i + 1) fuel (yrS T n s) (wA g1 17 (upd (aI g1 17) 0 (m1 5 + 1))) (by omega) (by omega) (by rw [ey]; exact l3) (by rw [ey]; exact hst1) (by rw [ey]; show upd m1 5 (m1 5 + 1) 0 = _; rw [upd_ne (by decide), m0]; exact h0) s2 (T1.trans (T2.mono (by decide))) (by rw [ey]; exact Y2) dl2 (by rw [ey]; exact lr2)
        refine ⟨g', s', T', Y', st', ?_⟩
        unfold D_X10_liveOnPaper_135
        rw [q3 s1, Option.bind_some, q4 s1, Option.bind_some, r17 s1, Option.bind_some, f17, w17, Option.bind_some, Option.bind_some, show Int32.ofNat i + 1 = Int32.ofNat (i + 1) from sc_add i 1]
        rw [ey] at e' ⊢
        exact e'
      unfold D_X10_liveOnPaper_104
      rw [s_gQ (r := 32) hs rfl rfl, Option.bind_some, q3 hs, Option.bind_some, s_ob hs (ci := 0) rfl, Option.bind_some, b2]
      cases ea : actN T s.1 act (drN s.2.1 % n) (drN (drN (drN s.2.1)) % 2) with
      | none =>
        obtain ⟨g1, s1, T1, d1⟩ := C1 ea
        have T1' : Tch [12, 13, 14, 15, 16, 17, 18, 19, 20, 29, 30, 31, 33] h g1 := T0.trans (T1.mono (by decide))
        have Y1 := Yrel_T Y T1 (isY_S ha (by decide)) (by decide)
        have dl1 := lawF_T hs ha dl s1 T1 (by decide) Y
        obtain ⟨g', R'⟩ := tail g1 s.1 s.2.2 s1 T1' Y1 dl1 (lr.T T1 (by decide)) rfl rfl (by omega) (by unfold yrS; rw [eact, ea])
        refine ⟨g', R'.1, R'.2.1, R'.2.2.1, R'.2.2.2.1, ?_⟩
        rw [d1, Option.bind_some]
        dsimp only
        rw [if_pos (by decide)]
        exact R'.2.2.2.2
      | some rm =>
        obtain ⟨r, m'⟩ := rm
        obtain ⟨g1, s1, T1, Y1, -, hr, d1⟩ := C2 r m' ea
        obtain ⟨R', o, -⟩ := act_row R (by omega) (by omega) (fun _ => hq) (fun z => by omega) ea
        have T1' : Tch [12, 13, 14, 15, 16, 17, 18, 19, 20, 29, 30, 31, 33] h g1 := T0.trans (T1.mono (by decide))
        have c12 : g1.2.2 12 = g.2.2 12 := T1.c (by decide)
        have c20 : g1.2.2 20 = g.2.2 20 := T1.c (by decide)
        have dl1 := lawF_copy (a := 12) (b := 12) hs ha s1 ha dl Y (cell_fI c12 11) (cell_fI c12 12) (fun k _ => by rw [show (12 : Nat) + 8 = 20 from rfl, cell_aQ c20])
        have lr1 : LawR g1 m' (m' 3) law T := by
          rw [o 3 (by decide)]
          exact LawR_row (lr.T T1 (by decide)) (fun i hi => o i (by omega))
        have rn : ¬ r < 0 := by
          have := hr.ge (by decide)
          rw [ge0] at this
          rw [lt0]
          omega
        obtain ⟨g', R''⟩ := tail g1 m' (if act = 0 then s.2.2 + 1 else s.2.2) s1 T1' Y1 dl1 lr1 (o 5 (by decide)) (o 0 (by decide)) (by split <;> omega) (by unfold yrS; rw [eact, ea])
        refine ⟨g', R''.1, R''.2.1, R''.2.2.1, R''.2.2.2.1, ?_⟩
        rw [d1, Option.bind_some]
        dsimp only
        rw [if_neg rn]
        by_cases z : act = 0
        · have e5 := R''.2.2.2.2
          rw [if_pos z] at e5
          rw [if_pos (by rw [z]; rfl), Option.bind_some, show Int32.ofNat s.2.2 + 1 = Int32.ofNat (s.2.2 + 1) from sc_add _ 1]
          exact e5
        · have e5 := R''.2.2.2.2
          rw [if_neg z] at e5
          rw [if_neg (show ¬ Int32.ofNat act = 0 from fun q => z ((eq_lit (b := 0) (by omega) (by decide)).mp q))]
          exact e5
    have h4 : drN (drN s.2.1) % 4 < 4 := Nat.mod_lt _ (by decide)
    have le2 : ((2 : Int32) ≤ Int32.ofNat (drN (drN s.2.1) % 4)) ↔ 2 ≤ drN (drN s.2.1) % 4 := nat_le (a := 2) (by decide) (by omega)
    have eq2 : (Int32.ofNat (drN (drN s.2.1) % 4) = 2) ↔ drN (drN s.2.1) % 4 = 2 := eq_lit (b := 2) (by omega) (by decide)
    by_cases c1 : 2 ≤ drN (drN s.2.1) % 4
    · rw [if_pos (le2.mpr c1)]
      by_cases c2 : drN (drN s.2.1) % 4 = 2
      · rw [if_pos (eq2.mpr c2)]
        exact main 1 (by decide) (by unfold actOf; rw [if_neg (by omega), if_pos c2])
      · rw [if_neg (fun z => c2 (eq2.mp z))]
        exact main 2 (by decide) (by unfold actOf; rw [if_neg (by omega), if_neg c2])
    · rw [if_neg (fun z => c1 (le2.mp z))]
      exact main 0 (by decide) (by unfold actOf; rw [if_pos (by omega)])
end YR
