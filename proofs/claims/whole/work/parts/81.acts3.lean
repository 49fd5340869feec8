theorem of_nm1 {c : Nat} (hc : c < 2 ^ 31) : ¬ Int32.ofNat c = -1 := fun z => by
  have h := congrArg Int32.toInt z
  rw [of_int hc] at h
  have e : (-1 : Int32).toInt = -1 := by decide
  rw [e] at h
  omega
section CC
variable {g : z_H} {a : Nat} {m : Nat → Int32}
theorem partN_lt {act j : Nat} (hact : act < 4) (hb1 : act = 1 → j < 2) (hb3 : act = 3 → j < 4) : partN act j < 4 := by
  unfold partN
  by_cases c0 : act = 0
  · rw [if_pos c0]; decide
  rw [if_neg c0]
  by_cases c1 : act = 1
  · rw [if_pos c1]; have := hb1 c1; omega
  rw [if_neg c1]
  by_cases c2 : act = 2
  · rw [if_pos c2]; decide
  rw [if_neg c2]
  exact hb3 (by omega)
/-- up to the remembering -/
theorem c_to84 (hs : Sh g) (ha : isY a) {n : Nat} (e1 : fI g a 8 = Int32.ofNat n) (hn : n ≤ 6) {act p j : Nat} {b : Int32} (hact : act < 4) (hp : p < n) (hb1 : act = 1 → j < 2 ∧ b = Int32.ofNat j) (hb3 : act = 3 → j < 4 ∧ b = Int32.ofNat j) :
    D_X0_carryOut g (some 32) (some a) (Int32.ofNat act) (Int32.ofNat p) b = D_X0_carryOut_84 g (some 32) (some a) (Int32.ofNat act) (Int32.ofNat p) b (Int32.ofNat (partN act j)) := by
  have hP := hasP1 hs ha e1 (by omega) hp
  have : act = 0 ∨ act = 1 ∨ act = 2 ∨ act = 3 := by omega
  rcases this with rfl | rfl | rfl | rfl
  · unfold D_X0_carryOut
    rw [if_neg (by decide)]
    unfold D_X0_carryOut_16
    rw [if_neg (by decide)]
    unfold D_X0_carryOut_31
    rw [if_neg (by decide), (yR hs ha).1, Option.bind_some, hP, Option.bind_some]
    dsimp only
    rw [if_neg one_ne, if_pos (by decide)]
    rfl
  · obtain ⟨hj, rfl⟩ := hb1 rfl
    unfold D_X0_carryOut
    rw [if_pos (by decide), if_neg (not_neg (by omega)), if_neg (fun z => by have := (nat_lt (a := 1) (b := j) (by decide) (by omega)).mp z; omega)]
    unfold D_X0_carryOut_16
    rw [if_neg (by decide)]
    unfold D_X0_carryOut_31
    rw [if_neg (by decide), (yR hs ha).1, Option.bind_some, hP, Option.bind_some]
    dsimp only
    rw [if_neg one_ne, if_neg (by decide), if_pos (by decide), show (2 : Int32) + Int32.ofNat j = Int32.ofNat (2 + j) from sc_add 2 j]
    rfl
  · unfold D_X0_carryOut
    rw [if_neg (by decide)]
    unfold D_X0_carryOut_16
    rw [if_neg (by decide)]
    unfold D_X0_carryOut_31
    rw [if_neg (by decide), (yR hs ha).1, Option.bind_some, hP, Option.bind_some]
    dsimp only
    rw [if_neg one_ne, if_neg (by decide), if_neg (by decide), if_pos (by decide)]
    rfl
  · obtain ⟨hj, rfl⟩ := hb3 rfl
    unfold D_X0_carryOut
    rw [if_neg (by decide)]
    unfold D_X0_carryOut_16
    rw [if_pos (by decide), partC1 hj, Option.bind_some]
    dsimp only
    rw [if_neg one_ne]
    unfold D_X0_carryOut_31
    rw [if_neg (by decide), (yR hs ha).1, Option.bind_some, hP, Option.bind_some]
    dsimp only
    rw [if_neg one_ne, if_neg (by decide), if_neg (by decide), if_neg (by decide)]
    rfl
theorem act_ne {act k : Nat} (ha : act < 4) (hk : k < 4) (e : act ≠ k) : ¬ Int32.ofNat act = Int32.ofNat k := fun z => e ((eq_lit (by omega) (by omega)).mp z)
/-- an act of the class, by what it comes to -/
theorem c_carry (hs : Sh g) (ha : isY a) (Y : Yrel g a m) {k : Int32} {law : Option Nat} {T : LawT} (d : D_X9_lawInForce g (some a) = some (law, g)) (lr : LawR g m k law T) {n : Nat} (e1 : fI g a 8 = Int32.ofNat n) (hn : n ≤ 6) {act p j : Nat} {b : Int32} (hact : act < 4) (hp : p < n) (hb1 : act = 1 → j < 2 ∧ b = Int32.ofNat j) (hb3 : act = 3 → j < 4 ∧ b = Int32.ofNat j) :
    (actN T m act p j = none → ∃ g', Sh g' ∧ Tch [29, 30, 31, 33] g g' ∧ D_X0_carryOut g (some 32) (some a) (Int32.ofNat act) (Int32.ofNat p) b = some (-3, g')) ∧
    (∀ r m', actN T m act p j = some (r, m') → ∃ g', Sh g' ∧ Tch [29, 30, 31, 33, a + 1, a + 2, a + 4] g g' ∧ Yrel g' a m' ∧ (∀ k, k < 7 → aI g' 33 k = recR act p (partN act j) (m (8 + p)) (m (14 + p)) (m (20 + 4 * p + partN act j)) (m 5) k) ∧ nb r 99 ∧ D_X0_carryOut g (some 32) (some a) (Int32.ofNat act) (Int32.ofNat p) b = some (r, g')) := by
  have hp6 : p < 6 := by omega
  have hi := partN_lt hact (fun q => (hb1 q).1) (fun q => (hb3 q).1)
  rw [c_to84 hs ha e1 hn hact hp hb1 hb3]
  obtain ⟨c, y, hc, hy, m8, m14, c1, c2, t8, t14⟩ := Y.at hp6
  obtain ⟨g1, s1, T1, r1, dr⟩ := c_rem hs ha hp6 hi act
  have Y1 := Yrel_T Y T1 (isY_S ha (by decide)) (by decide)
  have d1 := lawF_T hs ha d s1 T1 (by decide) Y
  have lr1 := lr.T T1 (by decide)
  have yk : ∀ q, q ≤ 8 → aI g1 (a + q) = aI g (a + q) := fun q hq => cell_aI (T1.c (isY_not ha (by decide) hq))
  have e5 : aI g (a + 5) 0 = m 5 := (Y.2.1.2.2.2.2.2.2.2 0 (by decide)).symm
  obtain ⟨ew, w, hw, ew2⟩ := Y.worn hp6 hi
  have ew1 := (Y1.worn hp6 hi).1
  have r1' : ∀ k, k < 7 → aI g1 33 k = recR act p (partN act j) (m (8 + p)) (m (14 + p)) (m (20 + 4 * p + partN act j)) (m 5) k := fun k hk => by rw [r1 k hk, c1, c2, ← m8, ← m14, e5, ew]
  have pl := placeY s1 ha hp6 (by rw [yk 1 (by decide)]; exact c1) (by rw [yk 2 (by decide)]; exact c2)
  have D84 : D_X0_carryOut_84 g (some 32) (some a) (Int32.ofNat act) (Int32.ofNat p) b (Int32.ofNat (partN act j)) = (if act = 0 then (D_X1_target g1 (some 29) (some a) (Int32.ofNat p) (Int32.ofNat (4 * c + y))).bind fun q => D_X0_carryOut_135 q.2 (some 32) (some a) (Int32.ofNat act) (Int32.ofNat p) b (Int32.ofNat (partN act j)) (m (20 + 4 * p + partN act j)) (Int32.ofNat (4 * c + y)) q.1 else D_X0_carryOut_135 g1 (some 32) (some a) (Int32.ofNat act) (Int32.ofNat p) b (Int32.ofNat (partN act j)) (m (20 + 4 * p + partN act j)) (Int32.ofNat (4 * c + y)) (m (8 + p))) := by
    unfold D_X0_carryOut_84
    rw [s_ob hs (ci := 0) rfl, Option.bind_some, dr, Option.bind_some, (yR s1 ha).1, Option.bind_some, wornC s1 ha hp6 hi, Option.bind_some]
    dsimp only
    rw [(yR s1 ha).1, Option.bind_some, pl, Option.bind_some]
    dsimp only
    rw [ew1]
    by_cases q : act = 0
    · subst q
      rw [if_pos (by decide), if_pos rfl, s_gQ (r := 29) s1 rfl rfl, Option.bind_some, s_ob s1 (ci := 1) rfl, Option.bind_some]
    · rw [if_neg (show ¬ Int32.ofNat act = 0 from act_ne hact (k := 0) (by decide) q), if_neg q, (yR s1 ha).2.1, Option.bind_some, (yA s1 ha).1 p hp6, Option.bind_some, yk 1 (by decide), c1, m8]
  rw [D84]
  have mT : ∀ {S : List Nat} {h h' : z_H}, Tch S h h' → (∀ q ∈ S, q ∈ [29, 30, 31, 33]) → Tch [29, 30, 31, 33] h h' := fun T f => T.mono f
  have : act = 0 ∨ act = 1 ∨ act = 2 ∨ act = 3 := by omega
  rcases this with rfl | rfl | rfl | rfl
  · -- STEP
    obtain ⟨g2, s2, T2, d2⟩ := cI_target s1 ha Y1 d1 lr1 (p := p) (c := c) (y := y) hp6 hc hy
    have Y2 := Yrel_T Y1 T2 (isY_S ha (by decide)) (by decide)
    have dl2 := lawF_T s1 ha d1 s2 T2 (by decide) Y1
    have lr2 := lr1.T T2 (by decide)
    rw [if_pos rfl, d2, Option.bind_some]
    dsimp only
    unfold actN
    rw [if_pos rfl, t8, t14]
    unfold D_X0_carryOut_135
    by_cases q : targV T m p c y = -1
    · rw [if_pos q]
      refine ⟨fun _ => ⟨g2, s2, (mT T1 (by decide)).trans (mT T2 (by decide)), by rw [if_pos q]⟩, fun r m' e => ?_⟩
      cases e
    · rw [if_neg q]
      refine ⟨fun e => (by cases e), fun r m' e => ?_⟩
      obtain ⟨bt, hbt, ebt⟩ := (targ_ok (T := T) (m := m) (p := p) hc hy).resolve_left q
      obtain ⟨g3, s3, T3, x33, Y3, d3⟩ := c156w s2 ha Y2 dl2 lr2 (act := 0) (p := p) (i := 0) (by decide) hp6 (by decide) b (to := targV T m p c y) ⟨bt, ebt, by omega⟩ hc hy
      rw [if_neg (show ¬ (0 : Nat) = 1 by decide)] at Y3
      rw [if_pos rfl] at d3
      cases e
      refine ⟨g3, s3, (T1.mono (fun q hq => sub_y3 hq)).trans ((T2.mono (fun q hq => sub_y hq)).trans T3), Y3, fun k hk => ?_, ⟨bt, ebt, by omega⟩, ?_⟩
      · rw [x33, cell_aI (T2.c (by decide))]
        exact r1' k hk
      · rw [if_neg q, if_neg (by decide)]
        exact d3
  · -- TURN
    obtain ⟨hj, rfl⟩ := hb1 rfl
    obtain ⟨g3, s3, T3, x33, Y3, d3⟩ := c156w s1 ha Y1 d1 lr1 (act := 1) (p := p) (i := 2 + j) (by decide) hp6 (by omega) (Int32.ofNat j) (to := m (8 + p)) ⟨c, m8, by omega⟩ hc hy
    rw [if_neg (by decide)]
    unfold actN
    rw [if_neg (by decide), if_pos rfl, t8, t14]
    refine ⟨fun e => (by cases e), fun r m' e => ?_⟩
    cases e
    rw [if_pos rfl] at Y3
    rw [if_neg (by decide), if_pos rfl] at d3
    refine ⟨g3, s3, (T1.mono (fun q hq => sub_y3 hq)).trans T3, Y3, fun k hk => by rw [x33]; exact r1' k hk, ?_, ?_⟩
    · rw [m14]
      obtain ⟨z, ez, hz⟩ := trn_ok hy (Int32.ofNat j)
      exact ⟨z, ez, by omega⟩
    · unfold D_X0_carryOut_135
      rw [if_neg (by rw [m8]; exact of_nm1 (by omega)), if_neg (by decide)]
      exact d3
  · -- PAUSE
    obtain ⟨g3, s3, T3, x33, Y3, d3⟩ := c156w s1 ha Y1 d1 lr1 (act := 2) (p := p) (i := 1) (by decide) hp6 (by omega) b (to := m (8 + p)) ⟨c, m8, by omega⟩ hc hy
    rw [if_neg (by decide)]
    unfold actN
    rw [if_neg (by decide), if_neg (by decide), if_pos rfl, t8, t14]
    refine ⟨fun e => (by cases e), fun r m' e => ?_⟩
    cases e
    rw [if_neg (by decide)] at Y3
    rw [if_neg (by decide), if_neg (by decide)] at d3
    refine ⟨g3, s3, (T1.mono (fun q hq => sub_y3 hq)).trans T3, Y3, fun k hk => by rw [x33]; exact r1' k hk, ?_, ?_⟩
    · obtain ⟨v, hv, ev⟩ := wears_nb T (WA m p (Int32.ofNat 1) (m (20 + 4 * p + 1)) c y)
      rw [ev, show m (20 + 4 * p + 1) = Int32.ofNat w from ew2]; exact minV_nb hw (by omega)
    · unfold D_X0_carryOut_135
      rw [if_neg (by rw [m8]; exact of_nm1 (by omega)), if_neg (by decide)]
      exact d3
  · -- MEND
    obtain ⟨hj, rfl⟩ := hb3 rfl
    have ep : partN 3 j = j := rfl
    rw [ep] at ew2 r1' ew ew1
    rw [if_neg (by decide), ep]
    unfold actN
    rw [if_neg (by decide), if_neg (by decide), if_neg (by decide), t8, t14]
    have nm : ¬ m (8 + p) = -1 := by
      rw [m8]; exact of_nm1 (by omega)
    unfold D_X0_carryOut_135
    rw [if_neg nm, if_pos (show Int32.ofNat 3 = 3 by decide)]
    by_cases q : m (20 + 4 * p + j) = 0
    · rw [if_pos q]
      refine ⟨fun _ => ⟨g1, s1, mT T1 (by decide), by rw [if_pos q]⟩, fun r m' e => ?_⟩
      cases e
    · rw [if_neg q]
      refine ⟨fun e => (by cases e), fun r m' e => ?_⟩
      cases e
      obtain ⟨g2, s2, T2, d2⟩ := cI_leaves s1 ha Y1 d1 lr1 (p := p) (j := j) hp6 hj m8 m14 hc hy
      obtain ⟨v, hv, ev⟩ := leaves_nb T (WA m p (Int32.ofNat j) (m (20 + 4 * p + j)) c y)
      obtain ⟨g3, s3, T3, x1, x2, x4, d3⟩ := c197 s2 ha hp6 hj (act := 3) (by decide) (Int32.ofNat j) (m (20 + 4 * p + j)) (m (8 + p)) (leavesV T (WA m p (Int32.ofNat j) (m (20 + 4 * p + j)) c y))
      have yk2 : ∀ q, q ≤ 8 → aI g2 (a + q) = aI g (a + q) := fun q hq => by rw [cell_aI (T2.c (isY_not ha (by decide) hq)), yk q hq]
      have T' : Tch [29, 30, 31, 33, a + 1, a + 2, a + 4] g g3 := (T1.mono (fun q hq => sub_y3 hq)).trans ((T2.mono (fun q hq => sub_y hq)).trans (T3.mono (fun q hq => sub_y2 hq)))
      have e2 : aI g (a + 2) p = m (14 + p) := by rw [c2, m14]
      have mv : minV (leavesV T (WA m p (Int32.ofNat j) (m (20 + 4 * p + j)) c y)) = leavesV T (WA m p (Int32.ofNat j) (m (20 + 4 * p + j)) c y) := by rw [ev, minV_of (by omega), Nat.min_eq_left hv]
      have ha' : a = 1 ∨ a = 12 := ha
      rw [yk2 1 (by decide)] at x1
      rw [yk2 2 (by decide), e2, if_neg (by decide)] at x2
      rw [yk2 4 (by decide), mv] at x4
      refine ⟨g3, s3, T', ?_, fun k hk => ?_, ⟨w, ew2, hw⟩, ?_⟩
      · exact Yrel_act Y T' (low_y ha).1 (nin_y (q := 0) ha (by decide)) (nin_y ha (by decide)) (nin_y ha (by decide)) (nin_y ha (by decide)) (nin_y ha (by decide)) (nin_y ha (by decide)) hp6 hj ⟨v, ev, hv⟩ ⟨c, m8, by omega⟩ ⟨y, m14, by omega⟩ x1 x2 x4
      · rw [cell_aI (T3.c (by simp only [List.mem_cons, List.not_mem_nil, or_false]; omega)), cell_aI (T2.c (by decide))]
        exact r1' k hk
      · rw [if_neg q]
        unfold D_X0_carryOut_156
        rw [if_pos (by decide), s_gQ (r := 29) s1 rfl rfl, Option.bind_some, s_ob s1 (ci := 1) rfl, Option.bind_some, d2, Option.bind_some]
        dsimp only
        rw [d3]
        rfl
/-- PASS -/
theorem c_passD (hs : Sh g) (ha : isY a) (Y : Yrel g a m) (x b : Int32) : (m 5 = 999 → D_X0_carryOut g (some 32) (some a) 4 x b = some (-3, g)) ∧ (m 5 ≠ 999 → ∃ g', Sh g' ∧ Tch [33, a + 5] g g' ∧ Yrel g' a (upd m 5 (m 5 + 1)) ∧ aI g' 33 0 = 4 ∧ aI g' 33 1 = -1 ∧ aI g' 33 6 = m 5 ∧ nb (m 5 + 1) 999 ∧ D_X0_carryOut g (some 32) (some a) 4 x b = some (m 5 + 1, g')) := by
  have ha' : a = 1 ∨ a = 12 := ha
  have e5 : aI g (a + 5) 0 = m 5 := (Y.2.1.2.2.2.2.2.2.2 0 (by decide)).symm
  obtain ⟨dd, ed, hd⟩ := Y.1.2.2.2.2.2.2.2.1
  have em : m 5 = Int32.ofNat dd := by rw [← e5]; exact ed
  have hd0 : D_X0_carryOut g (some 32) (some a) 4 x b = (D_X0_passDay g (some 32) (some a)).bind fun p772 => some (p772.1, p772.2) := by
    unfold D_X0_carryOut
    rw [if_neg (by decide)]
    unfold D_X0_carryOut_16
    rw [if_neg (by decide)]
    unfold D_X0_carryOut_31
    rw [if_pos (by decide), s_ob hs (ci := 0) rfl, Option.bind_some]
  have x0 : z_xI (z_xs 1) 0 = some 999 := i_terms 0 999 (Or.inl ⟨rfl, rfl⟩)
  have r0 : ∀ {h : z_H}, Sh h → z_aI .int h (some (a + 5)) 0 = some (aI h (a + 5) 0) := fun hs => (yA hs ha).2.2.2.2.1 0 (by decide)
  rw [hd0]
  unfold D_X0_passDay
  rw [(yR hs ha).2.2.2.2.2.1, Option.bind_some, r0 hs, Option.bind_some, x0, Option.bind_some, e5, em]
  have lt : (Int32.ofNat dd < 999) ↔ dd < 999 := nat_lt (b := 999) (by omega) (by decide)
  refine ⟨fun e => ?_, fun e => ?_⟩
  · rw [if_neg (by rw [e]; decide), Option.bind_some]
  · have hd' : dd < 999 := by
      rcases Nat.lt_or_ge dd 999 with q | q
      · exact q
      · exact absurd (by rw [show dd = 999 by omega]; rfl) e
    rw [if_pos (lt.mpr hd')]
    have w33 : ∀ {h : z_H}, Sh h → ∀ k, k < 7 → ∀ v, z_sI h (some 33) (Int32.ofNat k) v = some (wA h 33 (upd (aI h 33) k v)) := fun hs k hk v => by rw [s_sI (n := 7) hs rfl, iW_ofNat hk (by decide), tn_of' (by omega)]
    have q33 : ∀ {h : z_H}, Sh h → z_gQ 0 h (some 32) 1 = some (some 33) := fun hs => s_gQ hs rfl rfl
    obtain ⟨g1, eg1⟩ : ∃ g1, g1 = wA g 33 (upd (aI g 33) 0 4) := ⟨_, rfl⟩
    have s1 : Sh g1 := by rw [eg1]; exact Sh_wA hs rfl _
    have v1 : z_sI g (some 33) 0 4 = some g1 := by rw [eg1]; exact w33 hs 0 (by decide) 4
    have f1 : aI g1 33 = upd (aI g 33) 0 4 := by rw [eg1]; exact aI_wA_eq hs rfl _
    obtain ⟨g2, eg2⟩ : ∃ g2, g2 = wA g1 33 (upd (aI g1 33) 1 (-1)) := ⟨_, rfl⟩
    have s2 : Sh g2 := by rw [eg2]; exact Sh_wA s1 rfl _
    have v2 : z_sI g1 (some 33) 1 (-1) = some g2 := by rw [eg2]; exact w33 s1 1 (by decide) (-1)
    have f2 : aI g2 33 = upd (upd (aI g 33) 0 4) 1 (-1) := by rw [eg2, aI_wA_eq s1 rfl, f1]
    have k2 : ∀ q, q ≤ 8 → g2.2.2 (a + q) = g.2.2 (a + q) := fun q hq => by rw [eg2, wA_ne (by omega), eg1, wA_ne (by omega)]
    obtain ⟨g3, eg3⟩ : ∃ g3, g3 = wA g2 33 (upd (aI g2 33) 6 (Int32.ofNat dd)) := ⟨_, rfl⟩
    have s3 : Sh g3 := by rw [eg3]; exact Sh_wA s2 rfl _
    have v3 : z_sI g2 (some 33) 6 (Int32.ofNat dd) = some g3 := by rw [eg3]; exact w33 s2 6 (by decide) _
    have f3 : aI g3 33 = upd (upd (upd (aI g 33) 0 4) 1 (-1)) 6 (Int32.ofNat dd) := by rw [eg3, aI_wA_eq s2 rfl, f2]
    have k3 : ∀ q, q ≤ 8 → g3.2.2 (a + q) = g.2.2 (a + q) := fun q hq => by rw [eg3, wA_ne (by omega), k2 q hq]
    have c2 : aI g2 (a + 5) 0 = Int32.ofNat dd := by rw [cell_aI (k2 5 (by decide)), e5, em]
    have c3 : aI g3 (a + 5) 0 = Int32.ofNat dd := by rw [cell_aI (k3 5 (by decide)), e5, em]
    obtain ⟨g4, eg4⟩ : ∃ g4, g4 = wA g3 (a + 5) (upd (aI g3 (a + 5)) 0 (Int32.ofNat dd + 1)) := ⟨_, rfl⟩
    have i5 := (isA_y ha).2.2.2.2
    have s4 : Sh g4 := by rw [eg4]; exact Sh_wA s3 i5 _
    have v4 : z_sI g3 (some (a + 5)) 0 (Int32.ofNat dd + 1) = some g4 := by rw [eg4]; exact (yW s3 ha).2.2.2 0 _ (by decide)
    have f4 : aI g4 (a + 5) = upd (aI g (a + 5)) 0 (Int32.ofNat dd + 1) := by rw [eg4, aI_wA_eq s3 i5, cell_aI (k3 5 (by decide))]
    have f433 : aI g4 33 = upd (upd (upd (aI g 33) 0 4) 1 (-1)) 6 (Int32.ofNat dd) := by rw [eg4, aI_wA_ne (by omega), f3]
    have T4 : Tch [33, a + 5] g g4 := by
      rw [eg4, eg3, eg2, eg1]
      exact Tch_wA (Tch_wA (Tch_wA (Tch_wA (Tch_rfl _ g) (by simp) _) (by simp) _) (by simp) _) (by simp) _
    have lo : low [33, a + 5] = true := by rcases ha' with rfl | rfl <;> decide
    have nn : ∀ q, q ≤ 8 → q ≠ 5 → a + q ∉ [33, a + 5] := fun q h1 h2 => by
      simp only [List.mem_cons, List.not_mem_nil, or_false]
      omega
    have e1 : Int32.ofNat dd + 1 = Int32.ofNat (dd + 1) := sc_add dd 1
    refine ⟨g4, s4, T4, ?_, by rw [f433]; rfl, by rw [f433]; rfl, by rw [f433]; rfl, ⟨dd + 1, e1, by omega⟩, ?_⟩
    · obtain ⟨⟨y1, y2, y3, y4, y5, y6, y7, y8, y9, y10⟩, ⟨q0, q4, q1, q2, q3, q5, q6, q7⟩, L⟩ := Y
      have f : ∀ k, fI g4 a k = fI g a k := fun k => cell_fI (T4.c (nn 0 (by decide) (by decide))) k
      have cc : ∀ q, q ≤ 8 → q ≠ 5 → aI g4 (a + q) = aI g (a + q) := fun q h1 h2 => cell_aI (T4.c (nn q h1 h2))
      refine ⟨⟨by rw [f]; exact y1, by rw [f]; exact y2, by rw [f]; exact y3, by rw [f]; exact y4, by rw [f, f]; exact y5, fun q hq => ?_, fun q hq => ?_, ?_, ?_, ?_⟩, ⟨by rw [f, upd_ne (by decide)]; exact q0, by rw [f, upd_ne (by decide)]; exact q4, by rw [f, upd_ne (by decide)]; exact q1, by rw [f, upd_ne (by decide)]; exact q2, by rw [f, upd_ne (by decide)]; exact q3, fun q hq => ?_, fun q hq => ?_, fun q hq => ?_⟩, Ylaw_R L T4 lo (nn 0 (by decide) (by decide)) (nn 8 (by decide) (by decide)) (fun q hq => upd_ne (by omega))⟩
      · rw [cc 1 (by decide) (by decide), cc 2 (by decide) (by decide), cc 3 (by decide) (by decide), cc 6 (by decide) (by decide), cc 7 (by decide) (by decide)]; exact y6 q hq
      · rw [cc 4 (by decide) (by decide)]; exact y7 q hq
      · rw [f4, upd_eq]; exact ⟨dd + 1, e1, by omega⟩
      · rw [f4, upd_ne (by decide)]; exact y9
      · rw [f4, upd_ne (by decide)]; exact y10
      · rw [cc 1 (by decide) (by decide), cc 2 (by decide) (by decide), cc 3 (by decide) (by decide), cc 6 (by decide) (by decide), cc 7 (by decide) (by decide), upd_ne (by omega), upd_ne (by omega), upd_ne (by omega), upd_ne (by omega), upd_ne (by omega)]; exact q5 q hq
      · rw [cc 4 (by decide) (by decide), upd_ne (by omega)]; exact q6 q hq
      · rw [f4]
        by_cases e : q = 0
        · subst e; rw [upd_eq, upd_eq]
        · rw [upd_ne e, upd_ne (by omega)]; exact q7 q hq
    · rw [q33 hs, Option.bind_some, v1, Option.bind_some, q33 s1, Option.bind_some, v2, Option.bind_some, q33 s2, Option.bind_some, (yR s2 ha).2.2.2.2.2.1, Option.bind_some, r0 s2, Option.bind_some, c2, v3, Option.bind_some, (yR s3 ha).2.2.2.2.2.1, Option.bind_some, r0 s3, Option.bind_some, c3, v4, Option.bind_some, (yR s4 ha).2.2.2.2.2.1, Option.bind_some, r0 s4, Option.bind_some, f4, upd_eq, Option.bind_some]
end CC
