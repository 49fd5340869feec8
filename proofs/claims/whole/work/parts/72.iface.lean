/-! ONE VALUE FOR BOTH: wears, leaves, whither one steps; by the row m -/
def WA (m : Nat → Int32) (p : Nat) (part worn : Int32) (c y : Nat) : Nat → Int32 := WL (Int32.ofNat p) (m (44 + p)) part worn (Int32.ofNat c) (Int32.ofNat y) (m 5) (m 7)
def bes (c y : Nat) : Int32 := if y = 0 then (if c / 5 = 4 then -1 else Int32.ofNat (c + 5)) else if y = 1 then (if c % 5 = 4 then -1 else Int32.ofNat (c + 1)) else if y = 2 then (if c / 5 = 0 then -1 else Int32.ofNat (c - 5)) else (if c % 5 = 0 then -1 else Int32.ofNat (c - 1))
theorem bes_ok {c y : Nat} (hc : c < 25) (hy : y < 4) : bes c y = -1 ∨ ∃ b, b < 25 ∧ bes c y = Int32.ofNat b := by
  unfold bes
  by_cases y0 : y = 0
  · rw [if_pos y0]
    by_cases q : c / 5 = 4
    · rw [if_pos q]; exact Or.inl rfl
    · rw [if_neg q]; exact Or.inr ⟨c + 5, by omega, rfl⟩
  rw [if_neg y0]
  by_cases y1 : y = 1
  · rw [if_pos y1]
    by_cases q : c % 5 = 4
    · rw [if_pos q]; exact Or.inl rfl
    · rw [if_neg q]; exact Or.inr ⟨c + 1, by omega, rfl⟩
  rw [if_neg y1]
  by_cases y2 : y = 2
  · rw [if_pos y2]
    by_cases q : c / 5 = 0
    · rw [if_pos q]; exact Or.inl rfl
    · rw [if_neg q]; exact Or.inr ⟨c - 5, by omega, rfl⟩
  rw [if_neg y2]
  by_cases q : c % 5 = 0
  · rw [if_pos q]; exact Or.inl rfl
  · rw [if_neg q]; exact Or.inr ⟨c - 1, by omega, rfl⟩
abbrev wallB (bits b : Int32) : Prop := ((bits >>> (b &&& 31)) &&& (1 : Int32)) = (1 : Int32)
/-- the cell to which a pair would step; -1 -/
def targV (T : LawT) (m : Nat → Int32) (p c y : Nat) : Int32 := if bes c y = -1 then -1 else if wallB (m 4) (bes c y) then -1 else if tell T 2 (WA m p (-1) (-1) (tn (bes c y)) y) = none then bes c y else -1
theorem targ_ok {T : LawT} {m : Nat → Int32} {p c y : Nat} (hc : c < 25) (hy : y < 4) : targV T m p c y = -1 ∨ ∃ b, b < 25 ∧ targV T m p c y = Int32.ofNat b := by
  unfold targV
  by_cases c1 : bes c y = -1
  · rw [if_pos c1]; exact Or.inl rfl
  rw [if_neg c1]
  by_cases c2 : wallB (m 4) (bes c y)
  · rw [if_pos c2]; exact Or.inl rfl
  rw [if_neg c2]
  by_cases c3 : tell T 2 (WA m p (-1) (-1) (tn (bes c y)) y) = none
  · rw [if_pos c3]; exact Or.inr ((bes_ok hc hy).resolve_left c1)
  · rw [if_neg c3]; exact Or.inl rfl
section IF
variable {g : z_H} {a : Nat} {m : Nat → Int32}
theorem eq_lit {a b : Nat} (ha : a < 2 ^ 31) (hb : b < 2 ^ 31) : (Int32.ofNat a = Int32.ofNat b) ↔ a = b := ⟨fun q => Classical.byContradiction fun z => of_ne ha hb z q, fun q => by rw [q]⟩
theorem c_beside {c y : Nat} (hc : c < 25) (hy : y < 4) : D_X1_beside g (Int32.ofNat c) (Int32.ofNat y) = some (bes c y, g) := by
  have e5 : Int32.ofNat c / 5 = Int32.ofNat (c / 5) := sc_div (b := 5) (by omega) (by decide) (by decide)
  have m5 : Int32.ofNat c - Int32.ofNat c / 5 * 5 = Int32.ofNat (c % 5) := sc_mod (b := 5) (by omega) (by decide) (by decide)
  have y0 : (Int32.ofNat y = 0) ↔ y = 0 := eq_lit (b := 0) (by omega) (by decide)
  have y1 : (Int32.ofNat y = 1) ↔ y = 1 := eq_lit (b := 1) (by omega) (by decide)
  have y2 : (Int32.ofNat y = 2) ↔ y = 2 := eq_lit (b := 2) (by omega) (by decide)
  have q1 : ((5 : Int32) ≤ Int32.ofNat (c / 5) + 1) ↔ c / 5 = 4 := by
    rw [show Int32.ofNat (c / 5) + 1 = Int32.ofNat (c / 5 + 1) from sc_add _ 1, show (5 : Int32) = Int32.ofNat 5 from rfl, nat_le (by decide) (by omega)]; omega
  have q2 : ((5 : Int32) ≤ Int32.ofNat (c % 5) + 1) ↔ c % 5 = 4 := by
    rw [show Int32.ofNat (c % 5) + 1 = Int32.ofNat (c % 5 + 1) from sc_add _ 1, show (5 : Int32) = Int32.ofNat 5 from rfl, nat_le (by decide) (by omega)]; omega
  have q3 : (Int32.ofNat (c / 5) ≤ 0) ↔ c / 5 = 0 := by rw [show (0 : Int32) = Int32.ofNat 0 from rfl, nat_le (by omega) (by decide)]; omega
  have q4 : (Int32.ofNat (c % 5) ≤ 0) ↔ c % 5 = 0 := by rw [show (0 : Int32) = Int32.ofNat 0 from rfl, nat_le (by omega) (by decide)]; omega
  unfold D_X1_beside bes
  rw [Option.bind_some, Option.bind_some, m5, e5]
  by_cases c0 : y = 0
  · rw [if_pos (y0.mpr c0), if_pos c0]
    by_cases q : c / 5 = 4
    · rw [if_pos (q1.mpr q), if_pos q]
    · rw [if_neg (fun z => q (q1.mp z)), if_neg q, show Int32.ofNat c + 5 = Int32.ofNat (c + 5) from sc_add _ 5]
  rw [if_neg (fun z => c0 (y0.mp z)), if_neg c0]
  by_cases c1 : y = 1
  · rw [if_pos (y1.mpr c1), if_pos c1]
    by_cases q : c % 5 = 4
    · rw [if_pos (q2.mpr q), if_pos q]
    · rw [if_neg (fun z => q (q2.mp z)), if_neg q, show Int32.ofNat c + 1 = Int32.ofNat (c + 1) from sc_add _ 1]
  rw [if_neg (fun z => c1 (y1.mp z)), if_neg c1]
  by_cases c2 : y = 2
  · rw [if_pos (y2.mpr c2), if_pos c2]
    by_cases q : c / 5 = 0
    · rw [if_pos (q3.mpr q), if_pos q]
    · rw [if_neg (fun z => q (q3.mp z)), if_neg q, show Int32.ofNat c - 5 = Int32.ofNat (c - 5) from sc_sub (k := 5) (by omega)]
  rw [if_neg (fun z => c2 (y2.mp z)), if_neg c2]
  by_cases q : c % 5 = 0
  · rw [if_pos (q4.mpr q), if_pos q]
  · rw [if_neg (fun z => q (q4.mp z)), if_neg q, show Int32.ofNat c - 1 = Int32.ofNat (c - 1) from sc_sub (k := 1) (by omega)]
theorem m_beside {c y : Nat} (hc : c < 25) (hy : y < 4) : D_X11_beside g (Int32.ofNat c) (Int32.ofNat y) = some (bes c y, g) := by
  have e5 : Int32.ofNat c / 5 = Int32.ofNat (c / 5) := sc_div (b := 5) (by omega) (by decide) (by decide)
  have m5 : Int32.ofNat c - Int32.ofNat c / 5 * 5 = Int32.ofNat (c % 5) := sc_mod (b := 5) (by omega) (by decide) (by decide)
  have fin : ∀ (x : Int32) (s0 s1 : Int32) (r : Int32), (if (0 ≤ x.toInt ∧ x.toInt ≤ 4) then (if 0 ≤ (s0 + s1).toInt ∧ (s0 + s1).toInt ≤ 4 then 5 * (s0 + s1) + x else -1) else -1) = r → D_X11_beside_45 g x s0 s1 = some (r, g) := fun x s0 s1 r e => by
    unfold D_X11_beside_45
    rw [Option.bind_some, d_in, Option.bind_some, wide]
    dsimp only
    have l : ((0 : Int64).toInt ≤ x.toInt ∧ x.toInt ≤ (4 : Int64).toInt) ↔ (0 ≤ x.toInt ∧ x.toInt ≤ 4) := Iff.rfl
    have l2 : ((0 : Int64).toInt ≤ (s0 + s1).toInt ∧ (s0 + s1).toInt ≤ (4 : Int64).toInt) ↔ (0 ≤ (s0 + s1).toInt ∧ (s0 + s1).toInt ≤ 4) := Iff.rfl
    rw [← e]
    by_cases c : 0 ≤ x.toInt ∧ x.toInt ≤ 4
    · rw [if_pos (l.mpr c), if_pos c, if_neg one_ne, d_in, Option.bind_some, wide]
      dsimp only
      by_cases c' : 0 ≤ (s0 + s1).toInt ∧ (s0 + s1).toInt ≤ 4
      · rw [if_pos (l2.mpr c'), if_pos c', if_neg one_ne]
      · rw [if_neg (fun z => c' (l2.mp z)), if_neg c', if_pos rfl]
    · rw [if_neg (fun z => c (l.mp z)), if_neg c, if_pos rfl]
  have all : ∀ c : Fin 25, ∀ y : Fin 4, (if (0 ≤ (Int32.ofNat (c % 5) + (if y.val = 1 then 1 else if y.val = 3 then -1 else 0)).toInt ∧ (Int32.ofNat (c % 5) + (if y.val = 1 then 1 else if y.val = 3 then -1 else 0)).toInt ≤ 4) then (if 0 ≤ (Int32.ofNat (c / 5) + (if y.val = 0 then 1 else if y.val = 2 then -1 else 0)).toInt ∧ (Int32.ofNat (c / 5) + (if y.val = 0 then 1 else if y.val = 2 then -1 else 0)).toInt ≤ 4 then 5 * (Int32.ofNat (c / 5) + (if y.val = 0 then 1 else if y.val = 2 then -1 else 0)) + (Int32.ofNat (c % 5) + (if y.val = 1 then 1 else if y.val = 3 then -1 else 0)) else -1) else -1) = bes c.val y.val := by decide +kernel
  have a1 := all ⟨c, hc⟩ ⟨y, hy⟩
  dsimp only at a1
  have y0 : (Int32.ofNat y = 0) ↔ y = 0 := eq_lit (b := 0) (by omega) (by decide)
  have y1 : (Int32.ofNat y = 1) ↔ y = 1 := eq_lit (b := 1) (by omega) (by decide)
  have y2 : (Int32.ofNat y = 2) ↔ y = 2 := eq_lit (b := 2) (by omega) (by decide)
  have y3 : (Int32.ofNat y = 3) ↔ y = 3 := eq_lit (b := 3) (by omega) (by decide)
  have h22 : ∀ x : Int32, D_X11_beside_22 g (Int32.ofNat c) (Int32.ofNat y) (Int32.ofNat (c % 5)) x = D_X11_beside_45 g (Int32.ofNat (c % 5) + x) (Int32.ofNat (c / 5)) (if y = 0 then 1 else if y = 2 then -1 else 0) := fun x => by
    unfold D_X11_beside_22
    rw [Option.bind_some, e5]
    by_cases c0 : y = 0
    · rw [if_pos (y0.mpr c0), if_pos c0]
    · rw [if_neg (fun z => c0 (y0.mp z)), if_neg c0]
      by_cases c2 : y = 2
      · rw [if_pos (y2.mpr c2), if_pos c2]
      · rw [if_neg (fun z => c2 (y2.mp z)), if_neg c2]
  have h0 : D_X11_beside g (Int32.ofNat c) (Int32.ofNat y) = D_X11_beside_22 g (Int32.ofNat c) (Int32.ofNat y) (Int32.ofNat (c % 5)) (if y = 1 then 1 else if y = 3 then -1 else 0) := by
    unfold D_X11_beside
    rw [m5]
    by_cases c1 : y = 1
    · rw [if_pos (y1.mpr c1), if_pos c1]
    · rw [if_neg (fun z => c1 (y1.mp z)), if_neg c1]
      by_cases c3 : y = 3
      · rw [if_pos (y3.mpr c3), if_pos c3]
      · rw [if_neg (fun z => c3 (y3.mp z)), if_neg c3]
  rw [h0, h22]
  exact fin _ _ _ _ a1
theorem pl_div {c y : Nat} (hc : c < 25) (hy : y < 4) : Int32.ofNat (4 * c + y) / 4 = Int32.ofNat c ∧ Int32.ofNat (4 * c + y) - Int32.ofNat (4 * c + y) / 4 * 4 = Int32.ofNat y := by
  have e1 : Int32.ofNat (4 * c + y) / 4 = Int32.ofNat ((4 * c + y) / 4) := sc_div (b := 4) (by omega) (by decide) (by decide)
  have e2 : Int32.ofNat (4 * c + y) - Int32.ofNat (4 * c + y) / 4 * 4 = Int32.ofNat ((4 * c + y) % 4) := sc_mod (b := 4) (by omega) (by decide) (by decide)
  rw [e2, e1]
  constructor <;> congr 1 <;> omega
theorem WA_bd {p c y : Nat} (hp : p < 6) (hc : c < 25) (hy : y < 4) (l : nb (m (44 + p)) 9) (d : nb (m 5) 999) (mo : nb (m 7) 9) {part worn : Int32} (hpt : -1 ≤ part.toInt ∧ part.toInt ≤ 3) (hwn : -1 ≤ worn.toInt ∧ worn.toInt ≤ 1000000) : ∀ k, k < 9 → -1000000000 ≤ (WA m p part worn c y k).toInt ∧ (WA m p part worn c y k).toInt ≤ 1000000000 := by
  intro k hk
  have e5 : Int32.ofNat c / 5 = Int32.ofNat (c / 5) := sc_div (b := 5) (by omega) (by decide) (by decide)
  have m5 : Int32.ofNat c - Int32.ofNat c / 5 * 5 = Int32.ofNat (c % 5) := sc_mod (b := 5) (by omega) (by decide) (by decide)
  have q : ∀ n, n < 1000 → -1000000000 ≤ (Int32.ofNat n).toInt ∧ (Int32.ofNat n).toInt ≤ 1000000000 := fun n hn => by rw [Int32.toInt_ofNat_of_lt (by omega)]; omega
  have b1 := l.int (by decide)
  have b2 := d.int (by decide)
  have b3 := mo.int (by decide)
  have : k = 0 ∨ k = 1 ∨ k = 2 ∨ k = 3 ∨ k = 4 ∨ k = 5 ∨ k = 6 ∨ k = 7 ∨ k = 8 := by omega
  rcases this with rfl | rfl | rfl | rfl | rfl | rfl | rfl | rfl | rfl
  · exact q p (by omega)
  · exact ⟨by show -1000000000 ≤ (m (44 + p)).toInt; omega, by show (m (44 + p)).toInt ≤ 1000000000; omega⟩
  · exact ⟨by show -1000000000 ≤ part.toInt; omega, by show part.toInt ≤ 1000000000; omega⟩
  · exact ⟨by show -1000000000 ≤ worn.toInt; omega, by show worn.toInt ≤ 1000000000; omega⟩
  · show -1000000000 ≤ (Int32.ofNat c - Int32.ofNat c / 5 * 5).toInt ∧ (Int32.ofNat c - Int32.ofNat c / 5 * 5).toInt ≤ 1000000000
    rw [m5]; exact q _ (by omega)
  · show -1000000000 ≤ (Int32.ofNat c / 5).toInt ∧ (Int32.ofNat c / 5).toInt ≤ 1000000000
    rw [e5]; exact q _ (by omega)
  · exact q y (by omega)
  · exact ⟨by show -1000000000 ≤ (m 5).toInt; omega, by show (m 5).toInt ≤ 1000000000; omega⟩
  · exact ⟨by show -1000000000 ≤ (m 7).toInt; omega, by show (m 7).toInt ≤ 1000000000; omega⟩
/-- what of a row is small -/
def RowB (m : Nat → Int32) : Prop := (∀ p, p < 6 → nb (m (8 + p)) 24 ∧ nb (m (14 + p)) 3 ∧ nb (m (44 + p)) 9) ∧ (∀ i, i < 24 → nb (m (20 + i)) 99) ∧ nb (m 5) 999 ∧ nb (m 7) 9 ∧ nb (m 0) 6 ∧ nb (m 6) 10
theorem Yrel.row (Y : Yrel g a m) : RowB m := by
  obtain ⟨⟨y1, y2, y3, y4, y5, y6, y7, y8, y9, y10⟩, ⟨q0, q4, q1, q2, q3, q5, q6, q7⟩, -⟩ := Y
  refine ⟨fun p hp => ?_, fun i hi => by rw [q6 i hi]; exact y7 i hi, ?_, ?_, by rw [q0]; exact y1, ?_⟩
  · obtain ⟨e1, e2, e3, -⟩ := q5 p hp
    obtain ⟨b1, b2, b3, -⟩ := y6 p hp
    rw [e1, e2, e3]; exact ⟨b1, b2, b3⟩
  · rw [q7 0 (by decide)]; exact y8
  · rw [q7 2 (by decide)]; exact y10
  · rw [q7 1 (by decide)]; exact y9
theorem cI_wears (hs : Sh g) (ha : isY a) (Y : Yrel g a m) {k : Int32} {law : Option Nat} {T : LawT} (lr : LawR g m k law T) {p j c y : Nat} (hp : p < 6) (hj : j < 4) (hc : c < 25) (hy : y < 4) {worn : Int32} (hwn : 0 ≤ worn.toInt ∧ worn.toInt ≤ 1000000) :
    ∃ g', Sh g' ∧ Tch [29, 30, 31] g g' ∧ D_X1_wears g (some 29) (some a) law (Int32.ofNat p) (Int32.ofNat j) worn (Int32.ofNat (4 * c + y)) = some (wearsV T (WA m p (Int32.ofNat j) worn c y), g') := by
  obtain ⟨pd1, pd2⟩ := pl_div hc hy
  have R := Y.row
  have hpt : -1 ≤ (Int32.ofNat j).toInt ∧ (Int32.ofNat j).toInt ≤ 3 := by rw [Int32.toInt_ofNat_of_lt (by omega)]; omega
  have bd := WA_bd (m := m) hp hc hy (R.1 p hp).2.2 R.2.2.1 R.2.2.2.1 hpt (worn := worn) (by omega)
  have e : WL (Int32.ofNat p) (aI g (a + 3) p) (Int32.ofNat j) worn (Int32.ofNat (4 * c + y) / 4) (Int32.ofNat (4 * c + y) - Int32.ofNat (4 * c + y) / 4 * 4) (aI g (a + 5) 0) (aI g (a + 5) 2) = WA m p (Int32.ofNat j) worn c y := by
    rw [pd2, pd1]
    unfold WA
    rw [(Y.2.1.2.2.2.2.2.1 p hp).2.2.1, Y.2.1.2.2.2.2.2.2.2 0 (by decide), Y.2.1.2.2.2.2.2.2.2 2 (by decide)]
  have := c_wears hs ha lr hp (Int32.ofNat j) worn (Int32.ofNat (4 * c + y)) (by rw [e]; exact bd)
  rw [e] at this
  exact this
theorem lawF_T {S : List Nat} {law : Option Nat} {g' : z_H} (hs : Sh g) (ha : isY a) (d : D_X9_lawInForce g (some a) = some (law, g)) (hs' : Sh g') (t : Tch S g g') (f : fre S [1, 2, 3, 4, 5, 6, 7, 8, 9, 12, 13, 14, 15, 16, 17, 18, 19, 20] = true) (Y : Yrel g a m) : D_X9_lawInForce g' (some a) = some (law, g') := by
  have y5 := Y.1.2.2.2.2.1
  have y4 := Y.1.2.2.2.1
  obtain ⟨f1, f2⟩ := y4.tn (by decide)
  have c0 : ∀ k, fI g' a k = fI g a k := fun k => cell_fI (t.c (isY_not (q := 0) ha f (by decide))) k
  have c8 : aQ g' (a + 8) = aQ g (a + 8) := cell_aQ (t.c (isY_not ha f (by decide)))
  obtain ⟨r0, r1, r2, r3, r4, r5, r6, r7, r8, r9, r10⟩ := yR hs ha
  obtain ⟨r0', r1', r2', r3', r4', r5', r6', r7', r8', r9', r10'⟩ := yR hs' ha
  unfold D_X9_lawInForce D_X9_lawAt D_X9_hasLaw at d ⊢
  rw [r10, Option.bind_some, r0, Option.bind_some, Option.bind_some] at d
  rw [r10', Option.bind_some, r0', Option.bind_some, Option.bind_some, c0]
  rcases y5 with e | ⟨q, e, hq⟩
  · rw [e, if_pos (by decide), Option.bind_some] at d ⊢
    dsimp only at d ⊢
    rw [if_pos rfl, Option.bind_some] at d ⊢
    cases d
    rfl
  · rw [e, if_neg (not_neg (by omega))] at d ⊢
    rw [r9, Option.bind_some, if_neg (by rw [f1, nat_le (by omega) (by omega)]; omega), Option.bind_some] at d
    rw [r9', Option.bind_some, c0, if_neg (by rw [f1, nat_le (by omega) (by omega)]; omega), Option.bind_some]
    dsimp only at d ⊢
    rw [if_neg one_ne] at d ⊢
    rw [r6, Option.bind_some, (yA hs ha).2.2.2.2.2 q (by omega), Option.bind_some, Option.bind_some] at d
    rw [r6', Option.bind_some, (yA hs' ha).2.2.2.2.2 q (by omega), Option.bind_some, Option.bind_some, c8]
    cases d
    rfl
theorem cI_leaves (hs : Sh g) (ha : isY a) (Y : Yrel g a m) {k : Int32} {law : Option Nat} {T : LawT} (d : D_X9_lawInForce g (some a) = some (law, g)) (lr : LawR g m k law T) {p j c y : Nat} (hp : p < 6) (hj : j < 4) (ec : m (8 + p) = Int32.ofNat c) (ey : m (14 + p) = Int32.ofNat y) (hc : c < 25) (hy : y < 4) :
    ∃ g', Sh g' ∧ Tch [29, 30, 31] g g' ∧ D_X1_leaves g (some 29) (some a) (Int32.ofNat p) (Int32.ofNat j) = some (leavesV T (WA m p (Int32.ofNat j) (m (20 + 4 * p + j)) c y), g') := by
  obtain ⟨pd1, pd2⟩ := pl_div hc hy
  have R := Y.row
  have hpt : -1 ≤ (Int32.ofNat j).toInt ∧ (Int32.ofNat j).toInt ≤ 3 := by rw [Int32.toInt_ofNat_of_lt (by omega)]; omega
  have e20 : 20 + 4 * p + j = 20 + (4 * p + j) := Nat.add_assoc _ _ _
  have hw0 := (R.2.1 (4 * p + j) (by omega)).int (by decide)
  have bd := WA_bd (m := m) hp hc hy (R.1 p hp).2.2 R.2.2.1 R.2.2.2.1 hpt (worn := m (20 + 4 * p + j)) (by rw [e20]; omega)
  have e : WL (Int32.ofNat p) (aI g (a + 3) p) (Int32.ofNat j) (aI g (a + 4) (4 * p + j)) (Int32.ofNat (4 * c + y) / 4) (Int32.ofNat (4 * c + y) - Int32.ofNat (4 * c + y) / 4 * 4) (aI g (a + 5) 0) (aI g (a + 5) 2) = WA m p (Int32.ofNat j) (m (20 + 4 * p + j)) c y := by
    rw [pd2, pd1]
    unfold WA
    rw [(Y.2.1.2.2.2.2.2.1 p hp).2.2.1, Y.2.1.2.2.2.2.2.2.2 0 (by decide), Y.2.1.2.2.2.2.2.2.2 2 (by decide), e20, Y.2.1.2.2.2.2.2.2.1 (4 * p + j) (by omega)]
  have epl : Int32.ofNat (4 * c + y) = aI g (a + 1) p * 4 + aI g (a + 2) p := by
    rw [← (Y.2.1.2.2.2.2.2.1 p hp).1, ← (Y.2.1.2.2.2.2.2.1 p hp).2.1, ec, ey, show (4 : Int32) = Int32.ofNat 4 from rfl, sc_mul, sc_add, Nat.mul_comm]
  have := c_leaves hs ha Y hp hj (fun g' s' t => lawF_T hs ha d s' t (by decide) Y) lr epl (by rw [e]; exact bd)
  rw [e] at this
  exact this
theorem cI_target (hs : Sh g) (ha : isY a) (Y : Yrel g a m) {k : Int32} {law : Option Nat} {T : LawT} (d : D_X9_lawInForce g (some a) = some (law, g)) (lr : LawR g m k law T) {p c y : Nat} (hp : p < 6) (hc : c < 25) (hy : y < 4) :
    ∃ g', Sh g' ∧ Tch [29, 30, 31] g g' ∧ D_X1_target g (some 29) (some a) (Int32.ofNat p) (Int32.ofNat (4 * c + y)) = some (targV T m p c y, g') := by
  obtain ⟨pd1, pd2⟩ := pl_div hc hy
  have R := Y.row
  unfold D_X1_target targV
  rw [Option.bind_some, pd2, pd1, c_beside hc hy, Option.bind_some]
  dsimp only
  by_cases c1 : bes c y = -1
  · rw [if_pos c1, if_pos c1]
    exact ⟨g, hs, Tch_rfl _ g, rfl⟩
  rw [if_neg c1, if_neg c1, (yR hs ha).1, Option.bind_some]
  have e4 : m 4 = fI g a 9 := Y.2.1.2.1
  have dw : D_X9_isWall g (some a) (bes c y) = some (if wallB (m 4) (bes c y) then 1 else 0, g) := by
    unfold D_X9_isWall
    rw [(yR hs ha).2.2.2.2.2.2.2.2.1, Option.bind_some, e4]
    unfold wallB
    by_cases q : ((fI g a 9 >>> (bes c y &&& 31)) &&& (1 : Int32)) = (1 : Int32)
    · rw [if_pos q, if_pos q]
    · rw [if_neg q, if_neg q]
  rw [dw, Option.bind_some]
  dsimp only
  by_cases c2 : wallB (m 4) (bes c y)
  · rw [if_pos c2, if_neg one_ne, if_pos c2]
    exact ⟨g, hs, Tch_rfl _ g, rfl⟩
  rw [if_neg c2, if_pos rfl, if_neg c2]
  obtain ⟨b, hb, eb⟩ := (bes_ok hc hy).resolve_left c1
  obtain ⟨qd1, qd2⟩ := pl_div hb hy
  have epl : bes c y * 4 + Int32.ofNat y = Int32.ofNat (4 * b + y) := by rw [eb, show (4 : Int32) = Int32.ofNat 4 from rfl, sc_mul, sc_add, Nat.mul_comm]
  have tb : tn (bes c y) = b := by rw [eb]; exact tn_of (by omega)
  obtain ⟨g1, s1, T1, w1, d1⟩ := c_setW hs ha hp (-1) (-1) (Int32.ofNat (4 * b + y))
  have e : WL (Int32.ofNat p) (aI g (a + 3) p) (-1) (-1) (Int32.ofNat (4 * b + y) / 4) (Int32.ofNat (4 * b + y) - Int32.ofNat (4 * b + y) / 4 * 4) (aI g (a + 5) 0) (aI g (a + 5) 2) = WA m p (-1) (-1) b y := by
    rw [qd2, qd1]
    unfold WA
    rw [(Y.2.1.2.2.2.2.2.1 p hp).2.2.1, Y.2.1.2.2.2.2.2.2.2 0 (by decide), Y.2.1.2.2.2.2.2.2.2 2 (by decide)]
  rw [e] at w1
  have lr1 := lr.T T1 (by decide)
  have ct := c_tell s1 lr1 w1 2
  have dl := lawF_T hs ha d s1 T1 (by decide) Y
  rw [s_ob hs (ci := 1) rfl, Option.bind_some, epl, d1, Option.bind_some, (yR s1 ha).1, Option.bind_some, dl, Option.bind_some]
  dsimp only
  rw [s_ob s1 (ci := 1) rfl, Option.bind_some, tb]
  cases et : tell T 2 (WA m p (-1) (-1) b y) with
  | none =>
    obtain ⟨g2, s2, T2, d2⟩ := ct.1 et
    have d2' : D_X1_lastThatHolds g1 (some 29) law 7 = some (-1, g2) := d2
    refine ⟨g2, s2, (T1.mono (by decide)).trans (T2.mono (by decide)), ?_⟩
    rw [d2', Option.bind_some]
    dsimp only
    rw [if_pos rfl, if_pos rfl]
  | some v =>
    obtain ⟨g2, x, s2, T2, f2, nx, d2⟩ := ct.2 v et
    have d2' : D_X1_lastThatHolds g1 (some 29) law 7 = some (x, g2) := d2
    refine ⟨g2, s2, (T1.mono (by decide)).trans (T2.mono (by decide)), ?_⟩
    rw [d2', Option.bind_some]
    dsimp only
    rw [if_neg nx, if_neg (by intro q; cases q)]
end IF
