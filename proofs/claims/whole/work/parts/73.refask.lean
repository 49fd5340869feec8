/-! the reference's side of the same values -/
section RA
variable {g : z_H} {k : Int32} {law : Option Nat} {T : LawT}
/-- what the reference needs to ask -/
def RA (g : z_H) (law : Option Nat) (T : LawT) : Prop := Sh g ∧ fI g 81 20 = 0 ∧ RowB (aI g 83) ∧ LawR g (aI g 83) (aI g 83 3) law T
theorem RA.on {S ks : List Nat} {g' : z_H} (H : RA g law T) (o : OnM S ks g g') (f : fre S [83] = true) (b : low S = true) (k20 : 20 ∉ ks) : RA g' law T := by
  obtain ⟨h1, h2, h3, h4⟩ := H
  have c : aI g' 83 = aI g 83 := cell_aI (o.2.1.c (fre_spec f (by decide : 83 ∈ _)))
  refine ⟨o.1, by rw [(o.2.2 20 k20).1]; exact h2, by rw [c]; exact h3, ?_⟩
  rw [c]
  exact h4.T o.2.1 b
theorem mI_wearsAt (H : RA g law T) {p j c y : Nat} (hp : p < 6) (hj : j < 4) : ∃ g', OnM [81, 99, 101] [34, 38, 39, 40] g g' ∧ D_X11_wearsAt g (some 81) (Int32.ofNat p) (Int32.ofNat j) (Int32.ofNat c) (Int32.ofNat y) = some (wearsV T (WA (aI g 83) p (Int32.ofNat j) (aI g 83 (20 + 4 * p + j)) c y), g') := by
  obtain ⟨hs, o0, R, lr⟩ := H
  obtain ⟨g', o, d⟩ := m_tells hs o0 R.2.2.2.2.1 rfl lr (head := 0) (by decide) hp (Or.inr ⟨j, hj, rfl, rfl⟩) (Int32.ofNat c) (Int32.ofNat y) 1
  refine ⟨g', o, ?_⟩
  have d' : D_X11_tells g (some 81) 0 (Int32.ofNat p) (Int32.ofNat j) (Int32.ofNat c) (Int32.ofNat y) 1 = _ := d
  have b := fun v => d_bounded (g := g') v (hi := 9) (by decide)
  have b' : ∀ v, D_X11_bounded g' v 0 9 = some (clampV 9 v, g') := b
  unfold D_X11_wearsAt
  rw [s_ob hs (ci := 11) rfl, Option.bind_some, d', Option.bind_some]
  dsimp only
  rw [b', Option.bind_some]
  rfl
theorem m_at (H : RA g law T) {p : Nat} (hp : p < 6) : z_aI .int g (some 83) (8 + Int32.ofNat p) = some (aI g 83 (8 + p)) ∧ z_aI .int g (some 83) (14 + Int32.ofNat p) = some (aI g 83 (14 + p)) := by
  have e8 : (8 : Int32) + Int32.ofNat p = Int32.ofNat (8 + p) := sc_add 8 p
  have e14 : (14 : Int32) + Int32.ofNat p = Int32.ofNat (14 + p) := sc_add 14 p
  exact ⟨by rw [e8]; exact m83 H.1 (by omega), by rw [e14]; exact m83 H.1 (by omega)⟩
theorem mI_wearsNow (H : RA g law T) {p j c y : Nat} (hp : p < 6) (hj : j < 4) (ec : aI g 83 (8 + p) = Int32.ofNat c) (ey : aI g 83 (14 + p) = Int32.ofNat y) : ∃ g', OnM [81, 99, 101] [34, 38, 39, 40] g g' ∧ D_X11_wearsNow g (some 81) (Int32.ofNat p) (Int32.ofNat j) = some (wearsV T (WA (aI g 83) p (Int32.ofNat j) (aI g 83 (20 + 4 * p + j)) c y), g') := by
  obtain ⟨g', o, d⟩ := mI_wearsAt H (c := c) (y := y) hp hj
  refine ⟨g', o, ?_⟩
  unfold D_X11_wearsNow
  rw [s_gQ (r := 83) H.1 rfl rfl, Option.bind_some, (m_at H hp).1, Option.bind_some, Option.bind_some, (m_at H hp).2, Option.bind_some, s_ob H.1 (ci := 11) rfl, Option.bind_some, ec, ey, d, Option.bind_some]
theorem mI_leaves (H : RA g law T) {p j c y : Nat} (hp : p < 6) (hj : j < 4) (ec : aI g 83 (8 + p) = Int32.ofNat c) (ey : aI g 83 (14 + p) = Int32.ofNat y) : ∃ g', OnM [81, 99, 101] [34, 38, 39, 40] g g' ∧ D_X11_leavesOf g (some 81) (Int32.ofNat p) (Int32.ofNat j) = some (leavesV T (WA (aI g 83) p (Int32.ofNat j) (aI g 83 (20 + 4 * p + j)) c y), g') := by
  obtain ⟨g', o, d⟩ := m_tells H.1 H.2.1 H.2.2.1.2.2.2.2.1 rfl H.2.2.2 (head := 1) (by decide) hp (Or.inr ⟨j, hj, rfl, rfl⟩) (Int32.ofNat c) (Int32.ofNat y) 0
  refine ⟨g', o, ?_⟩
  have d' : D_X11_tells g (some 81) 1 (Int32.ofNat p) (Int32.ofNat j) (Int32.ofNat c) (Int32.ofNat y) 0 = _ := d
  have b := fun v => d_bounded (g := g') v (hi := 99) (by decide)
  have b' : ∀ v, D_X11_bounded g' v 0 99 = some (clampV 99 v, g') := b
  unfold D_X11_leavesOf
  rw [s_gQ (r := 83) H.1 rfl rfl, Option.bind_some, (m_at H hp).1, Option.bind_some, Option.bind_some, (m_at H hp).2, Option.bind_some, s_ob H.1 (ci := 11) rfl, Option.bind_some, ec, ey, d', Option.bind_some]
  dsimp only
  rw [b', Option.bind_some]
  rfl
theorem m_isWall (hs : Sh g) (b : Int32) : D_X11_isWall g (some 81) b = some (if wallB (aI g 83 4) b then 1 else 0, g) := by
  have i4 : z_aI .int g (some 83) 4 = some (aI g 83 4) := m83 (i := 4) hs (by decide)
  unfold D_X11_isWall D_X11_is wallB
  rw [s_gQ (r := 83) hs rfl rfl, Option.bind_some, i4, Option.bind_some]
  by_cases q : ((aI g 83 4 >>> (b &&& 31)) &&& (1 : Int32)) = (1 : Int32)
  · rw [if_pos q, if_pos q, Option.bind_some, if_pos (Or.inr rfl)]
  · rw [if_neg q, if_neg q, Option.bind_some, if_pos (Or.inl rfl)]
theorem mI_stepOf (H : RA g law T) {p c y : Nat} (hp : p < 6) (hc : c < 25) (hy : y < 4) : ∃ g', OnM [81, 99, 101] [34, 38, 39, 40] g g' ∧ D_X11_stepOf g (some 81) (Int32.ofNat p) (Int32.ofNat c) (Int32.ofNat y) = some (targV T (aI g 83) p c y, g') := by
  have hs := H.1
  unfold D_X11_stepOf targV
  rw [m_beside hc hy, Option.bind_some]
  dsimp only
  by_cases c1 : bes c y = -1
  · rw [if_pos c1, if_pos c1]
    exact ⟨g, OnM.rfl' hs, rfl⟩
  rw [if_neg c1, if_neg c1, s_ob hs (ci := 11) rfl, Option.bind_some, m_isWall hs, Option.bind_some]
  dsimp only
  by_cases c2 : wallB (aI g 83 4) (bes c y)
  · rw [if_pos c2, if_neg one_ne, if_pos c2]
    exact ⟨g, OnM.rfl' hs, rfl⟩
  rw [if_neg c2, if_pos rfl, if_neg c2]
  obtain ⟨b, hb, eb⟩ := (bes_ok hc hy).resolve_left c1
  have tb : tn (bes c y) = b := by rw [eb]; exact tn_of (by omega)
  obtain ⟨g', o, d⟩ := m_tells hs H.2.1 H.2.2.1.2.2.2.2.1 rfl H.2.2.2 (head := 2) (by decide) hp (Or.inl ⟨rfl, rfl⟩) (Int32.ofNat b) (Int32.ofNat y) 0
  have d' : D_X11_tells g (some 81) 2 (Int32.ofNat p) (-1) (Int32.ofNat b) (Int32.ofNat y) 0 = some (tv 2 0 (tell T 2 (WA (aI g 83) p (-1) (-1) b y)), g') := d
  refine ⟨g', o, ?_⟩
  rw [s_ob hs (ci := 11) rfl, Option.bind_some, tb]
  rw [eb, d', Option.bind_some]
  dsimp only
  cases et : tell T 2 (WA (aI g 83) p (-1) (-1) b y) with
  | none => rw [if_pos rfl, if_neg (by decide)]
  | some v => rw [if_pos ((lg_zero (tv 2 0 (some v)) 1).mpr rfl), if_neg (by intro q; cases q)]
end RA
/-! what is done on paper leaves the invariant -/
def papS (S : List Nat) : Bool := S.all (fun a => !prs a && a != 23 && a != 34 && a != 81)
def papM (S ks : List Nat) : Bool := S.all (fun a => !prs a && a != 23 && a != 34) && ks.all (fun k => !([1, 8, 11, 13, 18, 20, 54, 58] : List Nat).contains k)
theorem Same_T {S : List Nat} {h h' : z_H} (T : Tch S h h') (hs' : Sh h') (e : papS S = true) : Same h h' := by
  have q : ∀ a ∈ S, prs a = false ∧ a ≠ 23 ∧ a ≠ 34 ∧ a ≠ 81 := fun a ha => by
    have := List.all_eq_true.mp e a ha
    simp at this
    exact ⟨this.1.1.1, this.1.1.2, this.1.2, this.2⟩
  have k : ∀ q' ∈ keyF, q'.1 ∉ S := fun q' hq' z => by
    have := q _ z
    simp only [keyF, List.mem_cons, List.not_mem_nil, or_false] at hq'
    rcases hq' with rfl | rfl | rfl | rfl | rfl | rfl | rfl | rfl | rfl | rfl | rfl <;> simp at this
  exact ⟨hs', T.1, T.2.1, fun a ha => T.c (fun z => by rw [(q a z).1] at ha; cases ha), fun q' hq' => cell_fI (T.c (k q' hq')) _⟩
theorem Same_M {S ks : List Nat} {h h' : z_H} (o : OnM S ks h h') (e : papM S ks = true) : Same h h' := by
  have e1 := (Bool.and_eq_true_iff.mp e).1
  have e2 := (Bool.and_eq_true_iff.mp e).2
  have q : ∀ a ∈ S, prs a = false ∧ a ≠ 23 ∧ a ≠ 34 := fun a ha => by
    have := List.all_eq_true.mp e1 a ha
    simp at this
    exact ⟨this.1.1, this.1.2, this.2⟩
  have q2 : ∀ k ∈ ks, k ∉ ([1, 8, 11, 13, 18, 20, 54, 58] : List Nat) := fun k hk => by
    have := List.all_eq_true.mp e2 k hk
    intro z
    rw [List.contains_iff_mem.mpr z] at this
    cases this
  refine ⟨o.1, o.2.1.1, o.2.1.2.1, fun a ha => o.2.1.c (fun z => by rw [(q a z).1] at ha; cases ha), fun q' hq' => ?_⟩
  have f81 : ∀ k, k ∈ ([1, 8, 11, 13, 18, 20, 54, 58] : List Nat) → fI h' 81 k = fI h 81 k := fun k hk => (o.2.2 k (fun z => q2 k z hk)).1
  simp only [keyF, List.mem_cons, List.not_mem_nil, or_false] at hq'
  rcases hq' with rfl | rfl | rfl | rfl | rfl | rfl | rfl | rfl | rfl | rfl | rfl
  · exact cell_fI (o.2.1.c (fun z => (q _ z).2.1 rfl)) _
  · exact cell_fI (o.2.1.c (fun z => (q _ z).2.1 rfl)) _
  · exact cell_fI (o.2.1.c (fun z => (q _ z).2.2 rfl)) _
  all_goals exact f81 _ (by decide)
section RB
variable {j : Nat} {h : z_H}
theorem Inv.Y (H : Inv j h) : Yrel h 1 (aI h 83) := H.2.2.1
/-- the law in force, for both -/
theorem Inv.law (H : Inv j h) : ∃ law T, D_X9_lawInForce h (some 1) = some (law, h) ∧ LawR h (aI h 83) (aI h 83 3) law T := by
  obtain ⟨law, T, d, R⟩ := c_lawF H.1 (Or.inl rfl) H.Y
  refine ⟨law, T, d, ?_⟩
  rw [H.Y.2.1.2.2.2.2.1]
  exact R
theorem Inv.ord (H : Inv j h) : fI h 81 20 = 0 := H.2.2.2.2.1.2.2.2.2.2.2.2.2
/-- the reference may ask, once the class has done on paper -/
theorem Inv.RA (H : Inv j h) {law : Option Nat} {T : LawT} (lr : LawR h (aI h 83) (aI h 83 3) law T) {S : List Nat} {g : z_H} (hs : Sh g) (t : Tch S h g) (f : fre S [81, 83] = true) (b : low S = true) : RA g law T := by
  have c : aI g 83 = aI h 83 := cell_aI (t.c (fre_spec f (by decide : 83 ∈ _)))
  refine ⟨hs, by rw [cell_fI (t.c (fre_spec f (by decide : 81 ∈ _)))]; exact H.ord, by rw [c]; exact H.Y.row, ?_⟩
  rw [c]
  exact lr.T t b
end RB
