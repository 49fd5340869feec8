/-! THE CLASS'S ASKER -/
def isY (a : Nat) : Prop := a = 1 ∨ a = 12
section AS
variable {g : z_H} {a : Nat} {m w : Nat → Int32}
theorem yR (hs : Sh g) (ha : isY a) : z_ob 9 g (some a) = some (flds g a) ∧ z_gQ 9 g (some a) 0 = some (some (a + 1)) ∧ z_gQ 9 g (some a) 1 = some (some (a + 2)) ∧ z_gQ 9 g (some a) 2 = some (some (a + 3)) ∧ z_gQ 9 g (some a) 3 = some (some (a + 4)) ∧ z_gQ 9 g (some a) 4 = some (some (a + 5)) ∧ z_gQ 9 g (some a) 7 = some (some (a + 8)) ∧ z_gI 9 g (some a) 8 = some (fI g a 8) ∧ z_gI 9 g (some a) 9 = some (fI g a 9) ∧ z_gI 9 g (some a) 11 = some (fI g a 11) ∧ z_gI 9 g (some a) 12 = some (fI g a 12) := by
  rcases ha with rfl | rfl <;> exact ⟨s_ob hs rfl, s_gQ hs rfl rfl, s_gQ hs rfl rfl, s_gQ hs rfl rfl, s_gQ hs rfl rfl, s_gQ hs rfl rfl, s_gQ hs rfl rfl, s_gI hs rfl rfl, s_gI hs rfl rfl, s_gI hs rfl rfl, s_gI hs rfl rfl⟩
theorem yA (hs : Sh g) (ha : isY a) : (∀ i, i < 6 → z_aI .int g (some (a + 1)) (Int32.ofNat i) = some (aI g (a + 1) i)) ∧ (∀ i, i < 6 → z_aI .int g (some (a + 2)) (Int32.ofNat i) = some (aI g (a + 2) i)) ∧ (∀ i, i < 6 → z_aI .int g (some (a + 3)) (Int32.ofNat i) = some (aI g (a + 3) i)) ∧ (∀ i, i < 24 → z_aI .int g (some (a + 4)) (Int32.ofNat i) = some (aI g (a + 4) i)) ∧ (∀ i, i < 3 → z_aI .int g (some (a + 5)) (Int32.ofNat i) = some (aI g (a + 5) i)) ∧ ∀ i, i < 6 → z_aQ RX7 g (some (a + 8)) (Int32.ofNat i) = some (aQ g (a + 8) i) := by
  rcases ha with rfl | rfl <;> exact ⟨fun i hi => by rw [s_aI (n := 6) hs (Or.inl rfl) rfl, iR_ofNat hi (by decide)], fun i hi => by rw [s_aI (n := 6) hs (Or.inl rfl) rfl, iR_ofNat hi (by decide)], fun i hi => by rw [s_aI (n := 6) hs (Or.inl rfl) rfl, iR_ofNat hi (by decide)], fun i hi => by rw [s_aI (n := 24) hs (Or.inl rfl) rfl, iR_ofNat hi (by decide)], fun i hi => by rw [s_aI (n := 3) hs (Or.inl rfl) rfl, iR_ofNat hi (by decide)], fun i hi => by rw [s_aQ (n := 6) hs rfl, iR_ofNat hi (by decide)]⟩
theorem isY_not {S : List Nat} (ha : isY a) (f : fre S [1, 2, 3, 4, 5, 6, 7, 8, 9, 12, 13, 14, 15, 16, 17, 18, 19, 20] = true) {q : Nat} (hq : q ≤ 8) : a + q ∉ S := by
  refine fre_spec f ?_
  have : q = 0 ∨ q = 1 ∨ q = 2 ∨ q = 3 ∨ q = 4 ∨ q = 5 ∨ q = 6 ∨ q = 7 ∨ q = 8 := by omega
  rcases ha with rfl | rfl <;> rcases this with rfl | rfl | rfl | rfl | rfl | rfl | rfl | rfl | rfl <;> decide
theorem LawR.T {S : List Nat} {g' : z_H} {k : Int32} {law : Option Nat} {T : LawT} (H : LawR g m k law T) (t : Tch S g g') (b : low S = true) : LawR g' m k law T := by
  rcases H with q | ⟨q, t', n, c, op, ar, cl, e1, e2, e3, e4, X, R⟩
  · exact Or.inl q
  · exact Or.inr ⟨q, t', n, c, op, ar, cl, e1, e2, e3, e4, X.kept (Nat.le_of_eq t.1.symm) (fun a ha _ => t.c (low_spec b ha)), R⟩
/-- the law of a number in a yard -/
theorem c_lawAt (hs : Sh g) (ha : isY a) (Y : Yrel g a m) {k : Int32} (hk : k = -1 ∨ ∃ q : Nat, k = Int32.ofNat q ∧ q < tn (fI g a 11)) : ∃ law T, D_X9_lawAt g (some a) k = some (law, g) ∧ LawR g m k law T := by
  obtain ⟨⟨-, -, -, y4, -⟩, -, -, l2⟩ := Y
  obtain ⟨f1, f2⟩ := y4.tn (by decide)
  obtain ⟨r0, r1, r2, r3, r4, r5, r6, r7, r8, r9, r10⟩ := yR hs ha
  rcases hk with rfl | ⟨q, rfl, hq⟩
  · refine ⟨none, none, ?_, Or.inl ⟨rfl, rfl, rfl⟩⟩
    unfold D_X9_lawAt D_X9_hasLaw
    rw [r0, Option.bind_some, if_pos (by decide), Option.bind_some]
    dsimp only
    rw [if_pos rfl]
  · obtain ⟨t, n, c, op, ar, cl, e1, X, R⟩ := l2 q hq
    refine ⟨some t, some (n, c, op, ar, cl), ?_, Or.inr ⟨q, t, n, c, op, ar, cl, rfl, by omega, rfl, rfl, X, R⟩⟩
    unfold D_X9_lawAt D_X9_hasLaw
    rw [r0, Option.bind_some, if_neg (not_neg (by omega)), r9, Option.bind_some, if_neg (by rw [f1, nat_le (by omega) (by omega)]; omega), Option.bind_some]
    dsimp only
    rw [if_neg one_ne, r6, Option.bind_some, (yA hs ha).2.2.2.2.2 q (by omega), Option.bind_some, e1]
theorem c_lawF (hs : Sh g) (ha : isY a) (Y : Yrel g a m) : ∃ law T, D_X9_lawInForce g (some a) = some (law, g) ∧ LawR g m (fI g a 12) law T := by
  obtain ⟨law, T, d, R⟩ := c_lawAt hs ha Y (k := fI g a 12) Y.1.2.2.2.2.1
  refine ⟨law, T, ?_, R⟩
  obtain ⟨r0, r1, r2, r3, r4, r5, r6, r7, r8, r9, r10⟩ := yR hs ha
  unfold D_X9_lawInForce
  rw [r10, Option.bind_some, r0, Option.bind_some, d, Option.bind_some]
def stW (g : z_H) (k : Nat) (v : Int32) : z_H := wA g 30 (upd (aI g 30) k v)
theorem Sh_stW (hs : Sh g) (k : Nat) (v : Int32) : Sh (stW g k v) := Sh_wA hs rfl _
theorem stW_a (hs : Sh g) (k : Nat) (v : Int32) : aI (stW g k v) 30 = upd (aI g 30) k v := aI_wA_eq hs rfl _
theorem stW_T (k : Nat) (v : Int32) : Tch [30] g (stW g k v) := Tch_wA (Tch_rfl _ g) (by decide) _
theorem c_set (hs : Sh g) {k : Nat} (hk : k < 23) (v : Int32) : z_sI g (some 30) (Int32.ofNat k) v = some (stW g k v) := by
  have tl : (Int32.ofNat k).toNatClampNeg = k := tn_of (by omega)
  rw [s_sI (n := 23) hs rfl, iW_ofNat hk (by decide), tl, stW]
theorem c_sets (hs : Sh g) (v : Int32) : z_sI g (some 30) 0 v = some (stW g 0 v) ∧ z_sI g (some 30) 1 v = some (stW g 1 v) ∧ z_sI g (some 30) 2 v = some (stW g 2 v) ∧ z_sI g (some 30) 3 v = some (stW g 3 v) ∧ z_sI g (some 30) 4 v = some (stW g 4 v) ∧ z_sI g (some 30) 5 v = some (stW g 5 v) ∧ z_sI g (some 30) 6 v = some (stW g 6 v) ∧ z_sI g (some 30) 7 v = some (stW g 7 v) ∧ z_sI g (some 30) 8 v = some (stW g 8 v) :=
  ⟨c_set (k := 0) hs (by decide) v, c_set (k := 1) hs (by decide) v, c_set (k := 2) hs (by decide) v, c_set (k := 3) hs (by decide) v, c_set (k := 4) hs (by decide) v, c_set (k := 5) hs (by decide) v, c_set (k := 6) hs (by decide) v, c_set (k := 7) hs (by decide) v, c_set (k := 8) hs (by decide) v⟩
theorem c_setW (hs : Sh g) (ha : isY a) {p : Nat} (hp : p < 6) (part worn place : Int32) : ∃ g', Sh g' ∧ Tch [30] g g' ∧ (∀ k, k < 9 → aI g' 30 k = WL (Int32.ofNat p) (aI g (a + 3) p) part worn (place / 4) (place - place / 4 * 4) (aI g (a + 5) 0) (aI g (a + 5) 2) k) ∧ D_X1_setLawWords g (some 29) (some a) (Int32.ofNat p) part worn place = some g' := by
  have s1 := Sh_stW hs 0 (Int32.ofNat p)
  obtain ⟨h1, e1⟩ : ∃ h1, h1 = stW g 0 (Int32.ofNat p) := ⟨_, rfl⟩
  rw [← e1] at s1
  have s2 := Sh_stW s1 1 (aI g (a + 3) p)
  obtain ⟨h2, e2⟩ : ∃ h2, h2 = stW h1 1 (aI g (a + 3) p) := ⟨_, rfl⟩
  rw [← e2] at s2
  have s3 := Sh_stW s2 2 part
  obtain ⟨h3, e3⟩ : ∃ h3, h3 = stW h2 2 part := ⟨_, rfl⟩
  rw [← e3] at s3
  have s4 := Sh_stW s3 3 worn
  obtain ⟨h4, e4⟩ : ∃ h4, h4 = stW h3 3 worn := ⟨_, rfl⟩
  rw [← e4] at s4
  have s5 := Sh_stW s4 4 (place / 4 - place / 4 / 5 * 5)
  obtain ⟨h5, e5⟩ : ∃ h5, h5 = stW h4 4 (place / 4 - place / 4 / 5 * 5) := ⟨_, rfl⟩
  rw [← e5] at s5
  have s6 := Sh_stW s5 5 (place / 4 / 5)
  obtain ⟨h6, e6⟩ : ∃ h6, h6 = stW h5 5 (place / 4 / 5) := ⟨_, rfl⟩
  rw [← e6] at s6
  have s7 := Sh_stW s6 6 (place - place / 4 * 4)
  obtain ⟨h7, e7⟩ : ∃ h7, h7 = stW h6 6 (place - place / 4 * 4) := ⟨_, rfl⟩
  rw [← e7] at s7
  have s8 := Sh_stW s7 7 (aI g (a + 5) 0)
  obtain ⟨h8, e8⟩ : ∃ h8, h8 = stW h7 7 (aI g (a + 5) 0) := ⟨_, rfl⟩
  rw [← e8] at s8
  have s9 := Sh_stW s8 8 (aI g (a + 5) 2)
  obtain ⟨h9, e9⟩ : ∃ h9, h9 = stW h8 8 (aI g (a + 5) 2) := ⟨_, rfl⟩
  rw [← e9] at s9
  have T1 : Tch [30] g h1 := by rw [e1]; exact stW_T _ _
  have T2 : Tch [30] g h2 := by rw [e2]; exact T1.trans (stW_T _ _)
  have T3 : Tch [30] g h3 := by rw [e3]; exact T2.trans (stW_T _ _)
  have T4 : Tch [30] g h4 := by rw [e4]; exact T3.trans (stW_T _ _)
  have T5 : Tch [30] g h5 := by rw [e5]; exact T4.trans (stW_T _ _)
  have T6 : Tch [30] g h6 := by rw [e6]; exact T5.trans (stW_T _ _)
  have T7 : Tch [30] g h7 := by rw [e7]; exact T6.trans (stW_T _ _)
  have T8 : Tch [30] g h8 := by rw [e8]; exact T7.trans (stW_T _ _)
  have T9 : Tch [30] g h9 := by rw [e9]; exact T8.trans (stW_T _ _)
  have yk : ∀ (h' : z_H) (q : Nat), Tch [30] g h' → q ≤ 8 → aI h' (a + q) = aI g (a + q) := fun h' q t hq => cell_aI (t.c (isY_not ha (by decide) hq))
  refine ⟨h9, s9, T9, fun k hk => ?_, ?_⟩
  · have a9 : aI h9 30 = upd (upd (upd (upd (upd (upd (upd (upd (upd (aI g 30) 0 (Int32.ofNat p)) 1 (aI g (a + 3) p)) 2 part) 3 worn) 4 (place / 4 - place / 4 / 5 * 5)) 5 (place / 4 / 5)) 6 (place - place / 4 * 4)) 7 (aI g (a + 5) 0)) 8 (aI g (a + 5) 2) := by
      rw [e9, stW_a s8, e8, stW_a s7, e7, stW_a s6, e6, stW_a s5, e5, stW_a s4, e4, stW_a s3, e3, stW_a s2, e2, stW_a s1, e1, stW_a hs]
    rw [a9]
    have : k = 0 ∨ k = 1 ∨ k = 2 ∨ k = 3 ∨ k = 4 ∨ k = 5 ∨ k = 6 ∨ k = 7 ∨ k = 8 := by omega
    rcases this with rfl | rfl | rfl | rfl | rfl | rfl | rfl | rfl | rfl <;> simp [upd, WL]
  · have i0 : z_aI .int h7 (some (a + 5)) 0 = some (aI h7 (a + 5) 0) := (yA s7 ha).2.2.2.2.1 0 (by decide)
    have i2 : z_aI .int h8 (some (a + 5)) 2 = some (aI h8 (a + 5) 2) := (yA s8 ha).2.2.2.2.1 2 (by decide)
    unfold D_X1_setLawWords
    rw [Option.bind_some, s_gQ (r := 30) hs rfl rfl, Option.bind_some, (c_sets hs _).1, ← e1, Option.bind_some, s_gQ (r := 30) s1 rfl rfl, Option.bind_some, (yR s1 ha).2.2.2.1, Option.bind_some, (yA s1 ha).2.2.1 p hp, Option.bind_some, yk h1 3 T1 (by decide), (c_sets s1 _).2.1, ← e2, Option.bind_some, s_gQ (r := 30) s2 rfl rfl, Option.bind_some, (c_sets s2 _).2.2.1, ← e3, Option.bind_some, s_gQ (r := 30) s3 rfl rfl, Option.bind_some, (c_sets s3 _).2.2.2.1, ← e4, Option.bind_some, s_gQ (r := 30) s4 rfl rfl, Option.bind_some, (c_sets s4 _).2.2.2.2.1, ← e5, Option.bind_some, s_gQ (r := 30) s5 rfl rfl, Option.bind_some, (c_sets s5 _).2.2.2.2.2.1, ← e6, Option.bind_some, s_gQ (r := 30) s6 rfl rfl, Option.bind_some, (c_sets s6 _).2.2.2.2.2.2.1, ← e7, Option.bind_some, s_gQ (r := 30) s7 rfl rfl, Option.bind_some, (yR s7 ha).2.2.2.2.2.1, Option.bind_some, i0, Option.bind_some, yk h7 5 T7 (by decide), (c_sets s7 _).2.2.2.2.2.2.2.1, ← e8, Option.bind_some, s_gQ (r := 30) s8 rfl rfl, Option.bind_some, (yR s8 ha).2.2.2.2.2.1, Option.bind_some, i2, Option.bind_some, yk h8 5 T8 (by decide), (c_sets s8 _).2.2.2.2.2.2.2.2, ← e9, Option.bind_some]
/-- what both are to answer -/
def wearsV (T : LawT) (w : Nat → Int32) : Int32 := clampV 9 (tv 0 1 (tell T 0 w))
def leavesV (T : LawT) (w : Nat → Int32) : Int32 := clampV 99 (tv 1 0 (tell T 1 w))
theorem c_wears {k : Int32} {law : Option Nat} {T : LawT} (hs : Sh g) (ha : isY a) (lr : LawR g m k law T) {p : Nat} (hp : p < 6) (part worn place : Int32) (hw : ∀ k, k < 9 → -1000000000 ≤ (WL (Int32.ofNat p) (aI g (a + 3) p) part worn (place / 4) (place - place / 4 * 4) (aI g (a + 5) 0) (aI g (a + 5) 2) k).toInt ∧ (WL (Int32.ofNat p) (aI g (a + 3) p) part worn (place / 4) (place - place / 4 * 4) (aI g (a + 5) 0) (aI g (a + 5) 2) k).toInt ≤ 1000000000) :
    ∃ g', Sh g' ∧ Tch [29, 30, 31] g g' ∧ D_X1_wears g (some 29) (some a) law (Int32.ofNat p) part worn place = some (wearsV T (WL (Int32.ofNat p) (aI g (a + 3) p) part worn (place / 4) (place - place / 4 * 4) (aI g (a + 5) 0) (aI g (a + 5) 2)), g') := by
  obtain ⟨g1, s1, T1, w1, d1⟩ := c_setW hs ha hp part worn place
  have lr1 := lr.T T1 (by decide)
  have ct := c_tell s1 lr1 w1 0
  unfold D_X1_wears wearsV
  rw [s_ob hs (ci := 1) rfl, Option.bind_some, d1, Option.bind_some, s_ob s1 (ci := 1) rfl, Option.bind_some]
  cases e : tell T 0 (WL (Int32.ofNat p) (aI g (a + 3) p) part worn (place / 4) (place - place / 4 * 4) (aI g (a + 5) 0) (aI g (a + 5) 2)) with
  | none =>
    obtain ⟨g2, s2, T2, d2⟩ := ct.1 e
    have d2' : D_X1_lastThatHolds g1 (some 29) law 5 = some (-1, g2) := d2
    refine ⟨g2, s2, (T1.mono (by decide)).trans (T2.mono (by decide)), ?_⟩
    rw [d2', Option.bind_some]
    dsimp only
    rw [if_pos rfl]
    rfl
  | some v =>
    obtain ⟨g2, x, s2, T2, f2, nx, d2⟩ := ct.2 v e
    have d2' : D_X1_lastThatHolds g1 (some 29) law 5 = some (x, g2) := d2
    refine ⟨g2, s2, (T1.mono (by decide)).trans (T2.mono (by decide)), ?_⟩
    rw [d2', Option.bind_some]
    dsimp only
    rw [if_neg nx, s_gI s2 (ci := 1) rfl rfl, Option.bind_some, f2, Option.bind_some, Option.bind_some]
    have := c_clamp (tell_bd lr hw e) (hi := 9) (by decide) (by decide)
    rw [show tv 0 1 (some v) = v from rfl, ← this]
    rfl
theorem c_leaves (hs : Sh g) (ha : isY a) (Y : Yrel g a m) {p j : Nat} (hp : p < 6) (hj : j < 4) {law : Option Nat} {T : LawT} (dl : ∀ g', Sh g' → Tch [29, 30, 31] g g' → D_X9_lawInForce g' (some a) = some (law, g')) {k : Int32} (lr : LawR g m k law T) {place : Int32} (epl : place = aI g (a + 1) p * 4 + aI g (a + 2) p) (hw : ∀ k, k < 9 → -1000000000 ≤ (WL (Int32.ofNat p) (aI g (a + 3) p) (Int32.ofNat j) (aI g (a + 4) (4 * p + j)) (place / 4) (place - place / 4 * 4) (aI g (a + 5) 0) (aI g (a + 5) 2) k).toInt ∧ (WL (Int32.ofNat p) (aI g (a + 3) p) (Int32.ofNat j) (aI g (a + 4) (4 * p + j)) (place / 4) (place - place / 4 * 4) (aI g (a + 5) 0) (aI g (a + 5) 2) k).toInt ≤ 1000000000) :
    ∃ g', Sh g' ∧ Tch [29, 30, 31] g g' ∧ D_X1_leaves g (some 29) (some a) (Int32.ofNat p) (Int32.ofNat j) = some (leavesV T (WL (Int32.ofNat p) (aI g (a + 3) p) (Int32.ofNat j) (aI g (a + 4) (4 * p + j)) (place / 4) (place - place / 4 * 4) (aI g (a + 5) 0) (aI g (a + 5) 2)), g') := by
  have ei : Int32.ofNat p * 4 + Int32.ofNat j = Int32.ofNat (4 * p + j) := by rw [show (4 : Int32) = Int32.ofNat 4 from rfl, sc_mul, sc_add, Nat.mul_comm]
  have dwo : D_X9_wornAt g (some a) (Int32.ofNat p) (Int32.ofNat j) = some (aI g (a + 4) (4 * p + j), g) := by
    unfold D_X9_wornAt
    rw [(yR hs ha).2.2.2.2.1, Option.bind_some, ei, (yA hs ha).2.2.2.1 _ (by omega), Option.bind_some]
  have dpl : D_X9_placeOf g (some a) (Int32.ofNat p) = some (place, g) := by
    unfold D_X9_placeOf
    rw [(yR hs ha).2.1, Option.bind_some, (yA hs ha).1 _ hp, Option.bind_some, (yR hs ha).2.2.1, Option.bind_some, (yA hs ha).2.1 _ hp, Option.bind_some, epl]
  obtain ⟨g1, s1, T1, w1, d1⟩ := c_setW hs ha hp (Int32.ofNat j) (aI g (a + 4) (4 * p + j)) place
  have lr1 := lr.T T1 (by decide)
  have ct := c_tell s1 lr1 w1 1
  unfold D_X1_leaves leavesV
  rw [(yR hs ha).1, Option.bind_some, dwo, Option.bind_some]
  dsimp only
  rw [(yR hs ha).1, Option.bind_some, dpl, Option.bind_some]
  dsimp only
  rw [s_ob hs (ci := 1) rfl, Option.bind_some, d1, Option.bind_some, (yR s1 ha).1, Option.bind_some, dl g1 s1 (T1.mono (by decide)), Option.bind_some]
  dsimp only
  rw [s_ob s1 (ci := 1) rfl, Option.bind_some]
  cases e : tell T 1 (WL (Int32.ofNat p) (aI g (a + 3) p) (Int32.ofNat j) (aI g (a + 4) (4 * p + j)) (place / 4) (place - place / 4 * 4) (aI g (a + 5) 0) (aI g (a + 5) 2)) with
  | none =>
    obtain ⟨g2, s2, T2, d2⟩ := ct.1 e
    have d2' : D_X1_lastThatHolds g1 (some 29) law 6 = some (-1, g2) := d2
    refine ⟨g2, s2, (T1.mono (by decide)).trans (T2.mono (by decide)), ?_⟩
    rw [d2', Option.bind_some]
    dsimp only
    rw [if_pos rfl]
    rfl
  | some v =>
    obtain ⟨g2, x, s2, T2, f2, nx, d2⟩ := ct.2 v e
    have d2' : D_X1_lastThatHolds g1 (some 29) law 6 = some (x, g2) := d2
    refine ⟨g2, s2, (T1.mono (by decide)).trans (T2.mono (by decide)), ?_⟩
    rw [d2', Option.bind_some]
    dsimp only
    rw [if_neg nx, s_gI s2 (ci := 1) rfl rfl, Option.bind_some, f2, Option.bind_some, Option.bind_some]
    have := c_clamp (tell_bd lr hw e) (hi := 99) (by decide) (by decide)
    rw [show tv 1 0 (some v) = v from rfl, ← this]
    rfl
end AS
