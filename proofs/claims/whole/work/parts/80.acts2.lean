section YA
variable {g g' : z_H} {a : Nat} {m m' : Nat → Int32} {S : List Nat}
theorem setPF_o {p i k : Nat} {v c y : Int32} (h1 : k ≠ 20 + 4 * p + i) (h2 : k ≠ 8 + p) (h3 : k ≠ 14 + p) : setPF m p i v c y k = m k := by unfold setPF; rw [upd_ne h3, upd_ne h2, upd_ne h1]
theorem setPF_c {p i : Nat} {v c y : Int32} : setPF m p i v c y (8 + p) = c := by unfold setPF; rw [upd_ne (by omega), upd_eq]
theorem setPF_y {p i : Nat} {v c y : Int32} : setPF m p i v c y (14 + p) = y := by unfold setPF; rw [upd_eq]
theorem setPF_v {p i : Nat} {v c y : Int32} (hp : p < 6) : setPF m p i v c y (20 + 4 * p + i) = v := by unfold setPF; rw [upd_ne (by omega), upd_ne (by omega), upd_eq]
theorem nb_upd {f : Nat → Int32} {k i n : Nat} {x : Int32} (h : nb (f i) n) (hx : nb x n) : nb (upd f k x i) n := by
  unfold upd
  by_cases c : i = k
  · rw [if_pos c]; exact hx
  · rw [if_neg c]; exact h
theorem Ylaw_R (H : Ylaw g a m) (T : Tch S g g') (b : low S = true) (c0 : a ∉ S) (c8 : a + 8 ∉ S) (row : ∀ i, 62 ≤ i → m' i = m i) : Ylaw g' a m' := by
  obtain ⟨H1, H2⟩ := H
  have kp : ∀ {t n c : Nat} {op ar cl : Nat → Int32}, Txt g t n c op ar cl → Txt g' t n c op ar cl := fun X => X.kept (Nat.le_of_eq T.1.symm) (fun x hx _ => T.c (low_spec b hx))
  refine ⟨fun k hk => ?_, fun k hk => ?_⟩
  · rw [cell_aQ (T.c c8)]
    rcases H1 k hk with q | ⟨t, n, c, op, ar, cl, q1, q2⟩
    · exact Or.inl q
    · exact Or.inr ⟨t, n, c, op, ar, cl, q1, kp q2⟩
  · rw [cell_fI (T.c c0)] at hk
    rw [cell_aQ (T.c c8)]
    obtain ⟨t, n, c, op, ar, cl, q1, q2, q3⟩ := H2 k hk
    refine ⟨t, n, c, op, ar, cl, q1, kp q2, ?_⟩
    have : (fun i => m' (62 + 900 * k + i)) = fun i => m (62 + 900 * k + i) := by
      funext i
      exact row _ (by omega)
    rw [this]
    exact q3
theorem Yrel_act (Y : Yrel g a m) (T : Tch S g g') (b : low S = true) (c0 : a ∉ S) (c3 : a + 3 ∉ S) (c5 : a + 5 ∉ S) (c6 : a + 6 ∉ S) (c7 : a + 7 ∉ S) (c8 : a + 8 ∉ S) {p i : Nat} (hp : p < 6) (hi : i < 4) {v c y : Int32} (bv : nb v 99) (bc : nb c 24) (hy : nb y 3) (a1 : aI g' (a + 1) = upd (aI g (a + 1)) p c) (a2 : aI g' (a + 2) = upd (aI g (a + 2)) p y) (a4 : aI g' (a + 4) = upd (aI g (a + 4)) (4 * p + i) v) : Yrel g' a (setPF m p i v c y) := by
  obtain ⟨⟨y1, y2, y3, y4, y5, y6, y7, y8, y9, y10⟩, ⟨q0, q4, q1, q2, q3, q5, q6, q7⟩, L⟩ := Y
  have f := fun k => cell_fI (T.c c0) k
  have e3 := cell_aI (T.c c3)
  have e5 := cell_aI (T.c c5)
  have e6 := cell_aI (T.c c6)
  have e7 := cell_aI (T.c c7)
  have lo : ∀ k, k < 8 → setPF m p i v c y k = m k := fun k hk => setPF_o (by omega) (by omega) (by omega)
  refine ⟨⟨by rw [f]; exact y1, by rw [f]; exact y2, by rw [f]; exact y3, by rw [f]; exact y4, by rw [f, f]; exact y5, fun q hq => ?_, fun q hq => ?_, by rw [e5]; exact y8, by rw [e5]; exact y9, by rw [e5]; exact y10⟩, ⟨by rw [f, lo 0 (by decide)]; exact q0, by rw [f, lo 4 (by decide)]; exact q4, by rw [f, lo 1 (by decide)]; exact q1, by rw [f, lo 2 (by decide)]; exact q2, by rw [f, lo 3 (by decide)]; exact q3, fun q hq => ?_, fun q hq => ?_, fun q hq => ?_⟩, Ylaw_R L T b c0 c8 (fun q hq => setPF_o (by omega) (by omega) (by omega))⟩
  · obtain ⟨z1, z2, z3, z4, z5⟩ := y6 q hq
    rw [a1, a2, e3, e6, e7]
    exact ⟨nb_upd z1 bc, nb_upd z2 hy, z3, z4, z5⟩
  · rw [a4]
    exact nb_upd (y7 q hq) bv
  · obtain ⟨z1, z2, z3, z4, z5⟩ := q5 q hq
    rw [a1, a2, e3, e6, e7]
    refine ⟨?_, ?_, by rw [setPF_o (by omega) (by omega) (by omega)]; exact z3, by rw [setPF_o (by omega) (by omega) (by omega)]; exact z4, by rw [setPF_o (by omega) (by omega) (by omega)]; exact z5⟩
    · by_cases e : q = p
      · subst e; rw [setPF_c, upd_eq]
      · rw [setPF_o (by omega) (by omega) (by omega), upd_ne e]; exact z1
    · by_cases e : q = p
      · subst e; rw [setPF_y, upd_eq]
      · rw [setPF_o (by omega) (by omega) (by omega), upd_ne e]; exact z2
  · rw [a4]
    by_cases e : q = 4 * p + i
    · subst e; rw [upd_eq, ← Nat.add_assoc, setPF_v hp]
    · rw [setPF_o (by omega) (by omega) (by omega), upd_ne e]; exact q6 q hq
  · rw [e5, setPF_o (by omega) (by omega) (by omega)]; exact q7 q hq
end YA
section CB
variable {g : z_H} {a : Nat} {m : Nat → Int32}
theorem Yrel.at (Y : Yrel g a m) {p : Nat} (hp : p < 6) : ∃ c y, c < 25 ∧ y < 4 ∧ m (8 + p) = Int32.ofNat c ∧ m (14 + p) = Int32.ofNat y ∧ aI g (a + 1) p = Int32.ofNat c ∧ aI g (a + 2) p = Int32.ofNat y ∧ tn (m (8 + p)) = c ∧ tn (m (14 + p)) = y := by
  obtain ⟨b1, b2, -⟩ := Y.1.2.2.2.2.2.1 p hp
  obtain ⟨e1, e2, -⟩ := Y.2.1.2.2.2.2.2.1 p hp
  obtain ⟨c, ec, hc⟩ := b1
  obtain ⟨y, ey, hy⟩ := b2
  refine ⟨c, y, by omega, by omega, by rw [e1]; exact ec, by rw [e2]; exact ey, ec, ey, by rw [e1, ec]; exact tn_of (by omega), by rw [e2, ey]; exact tn_of (by omega)⟩
theorem Yrel.worn (Y : Yrel g a m) {p i : Nat} (hp : p < 6) (hi : i < 4) : m (20 + 4 * p + i) = aI g (a + 4) (4 * p + i) ∧ ∃ w, w ≤ 99 ∧ m (20 + 4 * p + i) = Int32.ofNat w := by
  have e := Y.2.1.2.2.2.2.2.2.1 (4 * p + i) (by omega)
  rw [← Nat.add_assoc] at e
  obtain ⟨w, e', hw⟩ := Y.1.2.2.2.2.2.2.1 (4 * p + i) (by omega)
  exact ⟨e, w, hw, by rw [e]; exact e'⟩
theorem isY_S (ha : isY a) {S : List Nat} (f : fre S [1, 2, 3, 4, 5, 6, 7, 8, 9, 12, 13, 14, 15, 16, 17, 18, 19, 20] = true) : ∀ q, q ≤ 8 → a + q ∉ S := fun _ hq => isY_not ha f hq
theorem low_y (ha : isY a) : low [29, 30, 31, 33, a + 1, a + 2, a + 4] = true ∧ low [a + 1, a + 2, a + 4] = true := by
  rcases ha with rfl | rfl <;> decide
theorem nin_y (ha : isY a) {q : Nat} (hq : q = 0 ∨ q = 3 ∨ q = 5 ∨ q = 6 ∨ q = 7 ∨ q = 8) : a + q ∉ [29, 30, 31, 33, a + 1, a + 2, a + 4] := by
  have ha' : a = 1 ∨ a = 12 := ha
  simp only [List.mem_cons, List.not_mem_nil, or_false]
  omega
theorem sub_y {q : Nat} (h : q ∈ [29, 30, 31]) : q ∈ [29, 30, 31, 33, a + 1, a + 2, a + 4] := by
  simp only [List.mem_cons, List.not_mem_nil, or_false] at h ⊢
  omega
theorem sub_y2 {q : Nat} (h : q ∈ [a + 1, a + 2, a + 4]) : q ∈ [29, 30, 31, 33, a + 1, a + 2, a + 4] := by
  simp only [List.mem_cons, List.not_mem_nil, or_false] at h ⊢
  omega
theorem sub_y3 {q : Nat} (h : q ∈ [33]) : q ∈ [29, 30, 31, 33, a + 1, a + 2, a + 4] := by
  simp only [List.mem_cons, List.not_mem_nil, or_false] at h ⊢
  omega
theorem wears_nb (T : LawT) (w : Nat → Int32) : ∃ v, v ≤ 9 ∧ wearsV T w = Int32.ofNat v := by
  obtain ⟨v, e, h⟩ := clamp_nb (hi := 9) (by decide) (tv 0 1 (tell T 0 w))
  exact ⟨v, h, e⟩
theorem leaves_nb (T : LawT) (w : Nat → Int32) : ∃ v, v ≤ 99 ∧ leavesV T w = Int32.ofNat v := by
  obtain ⟨v, e, h⟩ := clamp_nb (hi := 99) (by decide) (tv 1 0 (tell T 1 w))
  exact ⟨v, h, e⟩
theorem minV_nb {w v : Nat} (hw : w ≤ 99) (hv : v ≤ 99) : nb (minV (Int32.ofNat w + Int32.ofNat v)) 99 := by
  rw [sc_add, minV_of (by omega)]
  exact ⟨_, rfl, by omega⟩
/-- what is worn and written, but for MEND -/
theorem c156w (hs : Sh g) (ha : isY a) (Y : Yrel g a m) {k : Int32} {law : Option Nat} {T : LawT} (d : D_X9_lawInForce g (some a) = some (law, g)) (lr : LawR g m k law T) {act p i : Nat} (hact : act < 3) (hp : p < 6) (hi : i < 4) (b : Int32) {to : Int32} (hto : nb to 24) {c y : Nat} (hc : c < 25) (hy : y < 4) :
    ∃ g', Sh g' ∧ Tch [29, 30, 31, 33, a + 1, a + 2, a + 4] g g' ∧ aI g' 33 = aI g 33 ∧ Yrel g' a (setPF m p i (minV (m (20 + 4 * p + i) + wearsV T (WA m p (Int32.ofNat i) (m (20 + 4 * p + i)) c y))) to (if act = 1 then trnV (m (14 + p)) b else m (14 + p))) ∧ D_X0_carryOut_156 g (some 32) (some a) (Int32.ofNat act) (Int32.ofNat p) b (Int32.ofNat i) (m (20 + 4 * p + i)) (Int32.ofNat (4 * c + y)) to = some (if act = 0 then to else if act = 1 then trnV (m (14 + p)) b else minV (m (20 + 4 * p + i) + wearsV T (WA m p (Int32.ofNat i) (m (20 + 4 * p + i)) c y)), g') := by
  obtain ⟨ew, w, hw, ew2⟩ := Y.worn hp hi
  obtain ⟨c', y', hc', hy', m8, m14, c2, c3, -, -⟩ := Y.at hp
  have ha' : a = 1 ∨ a = 12 := ha
  obtain ⟨g1, s1, T1, d1⟩ := cI_wears hs ha Y lr (p := p) (j := i) hp hi hc hy (worn := m (20 + 4 * p + i)) (by rw [ew2, of_int (by omega)]; omega)
  obtain ⟨v, hv, ev⟩ := wears_nb T (WA m p (Int32.ofNat i) (m (20 + 4 * p + i)) c y)
  obtain ⟨g2, s2, T2, x1, x2, x4, d2⟩ := c197 s1 ha hp hi (act := act) (by omega) b (m (20 + 4 * p + i)) to (m (20 + 4 * p + i) + wearsV T (WA m p (Int32.ofNat i) (m (20 + 4 * p + i)) c y))
  have yk : ∀ q, q ≤ 8 → aI g1 (a + q) = aI g (a + q) := fun q hq => cell_aI (T1.c (isY_not ha (by decide) hq))
  have T' : Tch [29, 30, 31, 33, a + 1, a + 2, a + 4] g g2 := (T1.mono (fun q hq => sub_y hq)).trans (T2.mono (fun q hq => sub_y2 hq))
  have e2 : aI g (a + 2) p = m (14 + p) := by rw [c3, m14]
  rw [yk 1 (by decide)] at x1
  rw [yk 2 (by decide), e2] at x2
  rw [yk 4 (by decide)] at x4
  refine ⟨g2, s2, T', ?_, ?_, ?_⟩
  · rw [cell_aI (T2.c (by simp only [List.mem_cons, List.not_mem_nil, or_false]; omega)), cell_aI (T1.c (by decide))]
  · refine Yrel_act Y T' (low_y ha).1 (nin_y (q := 0) ha (by decide)) (nin_y ha (by decide)) (nin_y ha (by decide)) (nin_y ha (by decide)) (nin_y ha (by decide)) (nin_y ha (by decide)) hp hi ?_ hto ?_ x1 x2 x4
    · rw [ev, ew2]; exact minV_nb hw (by omega)
    · by_cases q : act = 1
      · rw [if_pos q, m14]; exact trn_ok hy' b
      · rw [if_neg q, m14]; exact ⟨y', rfl, by omega⟩
  · unfold D_X0_carryOut_156
    rw [if_neg (fun z => by have := (eq_lit (a := act) (b := 3) (by omega) (by decide)).mp z; omega), s_gQ (r := 29) hs rfl rfl, Option.bind_some, (yR hs ha).1, Option.bind_some, d, Option.bind_some]
    dsimp only
    rw [s_ob hs (ci := 1) rfl, Option.bind_some, d1, Option.bind_some]
    dsimp only
    rw [d2, yk 2 (by decide), e2]
    by_cases q0 : act = 0
    · rw [if_pos q0, if_pos q0]
    rw [if_neg q0, if_neg q0]
    by_cases q1 : act = 1
    · rw [if_pos q1, if_pos q1]
    rw [if_neg q1, if_neg q1, if_pos (by omega)]
end CB
