/-! ACTS, purely -/
def setPF (m : Nat → Int32) (p i : Nat) (v c y : Int32) : Nat → Int32 := upd (upd (upd m (20 + 4 * p + i) v) (8 + p) c) (14 + p) y
def trnV (w s : Int32) : Int32 := (w + (if s = 0 then 3 else 1)) - (w + (if s = 0 then 3 else 1)) / 4 * 4
def minV (x : Int32) : Int32 := if x < 99 then x else 99
theorem setPF_w (m : Nat → Int32) {p i : Nat} (hp : p < 6) (hi : i < 4) (v : Int32) : setPF m p i v (m (8 + p)) (m (14 + p)) = upd m (20 + 4 * p + i) v := by
  funext k
  unfold setPF upd
  by_cases c1 : k = 14 + p
  · rw [if_pos c1, if_neg (by omega), c1]
  rw [if_neg c1]
  by_cases c2 : k = 8 + p
  · rw [if_pos c2, if_neg (by omega), c2]
  rw [if_neg c2]
theorem trn_ok {y : Nat} (hy : y < 4) (s : Int32) : nb (trnV (Int32.ofNat y) s) 3 := by
  unfold trnV
  have e : ∀ k : Nat, k < 8 → nb (Int32.ofNat k - Int32.ofNat k / 4 * 4) 3 := fun k hk => by
    have := sc_mod (a := k) (b := 4) (by omega) (by decide) (by decide)
    exact ⟨k % 4, this, by omega⟩
  by_cases c : s = 0
  · rw [if_pos c, show Int32.ofNat y + 3 = Int32.ofNat (y + 3) from sc_add _ 3]
    exact e _ (by omega)
  · rw [if_neg c, show Int32.ofNat y + 1 = Int32.ofNat (y + 1) from sc_add _ 1]
    exact e _ (by omega)
theorem minV_of {k : Nat} (hk : k < 2 ^ 31) : minV (Int32.ofNat k) = Int32.ofNat (min k 99) := by
  unfold minV
  have : (Int32.ofNat k < 99) ↔ k < 99 := nat_lt (b := 99) hk (by decide)
  by_cases c : k < 99
  · rw [if_pos (this.mpr c), Nat.min_eq_left (by omega)]
  · rw [if_neg (fun z => c (this.mp z)), Nat.min_eq_right (by omega)]
    rfl
theorem clampN_of {k : Nat} (hk : k < 2 ^ 31) {N : Nat} (hN : N < 2 ^ 31) : clampV N (Int32.ofNat k).toInt64 = Int32.ofNat (min k N) := by
  unfold clampV
  rw [wide, of_int hk, if_neg (by omega)]
  by_cases c : (N : Int) < (k : Int)
  · rw [if_pos c, Nat.min_eq_right (by omega)]
  · rw [if_neg c, Nat.min_eq_left (by omega)]
    exact Int32.toInt32_toInt64 _
def actN (T : LawT) (m : Nat → Int32) (act p j : Nat) : Option (Int32 × (Nat → Int32)) :=
  if act = 0 then
    (if targV T m p (tn (m (8 + p))) (tn (m (14 + p))) = -1 then none else some (targV T m p (tn (m (8 + p))) (tn (m (14 + p))), setPF m p 0 (minV (m (20 + 4 * p + 0) + wearsV T (WA m p (Int32.ofNat 0) (m (20 + 4 * p + 0)) (tn (m (8 + p))) (tn (m (14 + p)))))) (targV T m p (tn (m (8 + p))) (tn (m (14 + p)))) (m (14 + p))))
  else if act = 1 then
    some (trnV (m (14 + p)) (Int32.ofNat j), setPF m p (2 + j) (minV (m (20 + 4 * p + (2 + j)) + wearsV T (WA m p (Int32.ofNat (2 + j)) (m (20 + 4 * p + (2 + j))) (tn (m (8 + p))) (tn (m (14 + p)))))) (m (8 + p)) (trnV (m (14 + p)) (Int32.ofNat j)))
  else if act = 2 then
    some (minV (m (20 + 4 * p + 1) + wearsV T (WA m p (Int32.ofNat 1) (m (20 + 4 * p + 1)) (tn (m (8 + p))) (tn (m (14 + p))))), setPF m p 1 (minV (m (20 + 4 * p + 1) + wearsV T (WA m p (Int32.ofNat 1) (m (20 + 4 * p + 1)) (tn (m (8 + p))) (tn (m (14 + p)))))) (m (8 + p)) (m (14 + p)))
  else
    (if m (20 + 4 * p + j) = 0 then none else some (m (20 + 4 * p + j), setPF m p j (leavesV T (WA m p (Int32.ofNat j) (m (20 + 4 * p + j)) (tn (m (8 + p))) (tn (m (14 + p))))) (m (8 + p)) (m (14 + p))))
def partN (act j : Nat) : Nat := if act = 0 then 0 else if act = 1 then 2 + j else if act = 2 then 1 else j
/-! the class's side -/
section CA
variable {g : z_H} {a : Nat} {m : Nat → Int32}
theorem isA_y (ha : isY a) : isA (a + 1) = true ∧ isA (a + 2) = true ∧ isA (a + 3) = true ∧ isA (a + 4) = true ∧ isA (a + 5) = true := by
  rcases ha with rfl | rfl <;> exact ⟨rfl, rfl, rfl, rfl, rfl⟩
theorem yW (hs : Sh g) (ha : isY a) : (∀ i v, i < 6 → z_sI g (some (a + 1)) (Int32.ofNat i) v = some (wA g (a + 1) (upd (aI g (a + 1)) i v))) ∧ (∀ i v, i < 6 → z_sI g (some (a + 2)) (Int32.ofNat i) v = some (wA g (a + 2) (upd (aI g (a + 2)) i v))) ∧ (∀ i v, i < 24 → z_sI g (some (a + 4)) (Int32.ofNat i) v = some (wA g (a + 4) (upd (aI g (a + 4)) i v))) ∧ (∀ i v, i < 3 → z_sI g (some (a + 5)) (Int32.ofNat i) v = some (wA g (a + 5) (upd (aI g (a + 5)) i v))) := by
  rcases ha with rfl | rfl <;> exact ⟨fun i v hi => by rw [s_sI (n := 6) hs rfl, iW_ofNat hi (by decide), tn_of' (by omega)], fun i v hi => by rw [s_sI (n := 6) hs rfl, iW_ofNat hi (by decide), tn_of' (by omega)], fun i v hi => by rw [s_sI (n := 24) hs rfl, iW_ofNat hi (by decide), tn_of' (by omega)], fun i v hi => by rw [s_sI (n := 3) hs rfl, iW_ofNat hi (by decide), tn_of' (by omega)]⟩
theorem Sh_y (hs : Sh g) (ha : isY a) (f : Nat → Int32) : Sh (wA g (a + 1) f) ∧ Sh (wA g (a + 2) f) ∧ Sh (wA g (a + 4) f) ∧ Sh (wA g (a + 5) f) := by
  obtain ⟨i1, i2, i3, i4, i5⟩ := isA_y ha
  exact ⟨Sh_wA hs i1 f, Sh_wA hs i2 f, Sh_wA hs i4 f, Sh_wA hs i5 f⟩
/-- what the class keeps to undo an act -/
def recR (act p i : Nat) (c y w d : Int32) (k : Nat) : Int32 := [Int32.ofNat act, Int32.ofNat p, c, y, Int32.ofNat i, w, d].getD k 0
theorem c_rem (hs : Sh g) (ha : isY a) {p i : Nat} (hp : p < 6) (hi : i < 4) (act : Nat) : ∃ g', Sh g' ∧ Tch [33] g g' ∧ (∀ k, k < 7 → aI g' 33 k = recR act p i (aI g (a + 1) p) (aI g (a + 2) p) (aI g (a + 4) (4 * p + i)) (aI g (a + 5) 0) k) ∧ D_X0_remember g (some 32) (some a) (Int32.ofNat act) (Int32.ofNat p) (Int32.ofNat i) = some g' := by
  have ha' : a = 1 ∨ a = 12 := ha
  refine ⟨wA g 33 (rec7 (Int32.ofNat act) (Int32.ofNat p) (aI g (a + 1) p) (aI g (a + 2) p) (Int32.ofNat i) (aI g (a + 4) (4 * p + i)) (aI g (a + 5) 0) (aI g 33)), Sh_wA hs rfl _, Tch_wA (Tch_rfl _ g) (by decide) _, fun k hk => ?_, ?_⟩
  · rw [aI_wA_eq hs rfl]
    have : k = 0 ∨ k = 1 ∨ k = 2 ∨ k = 3 ∨ k = 4 ∨ k = 5 ∨ k = 6 := by omega
    rcases this with rfl | rfl | rfl | rfl | rfl | rfl | rfl <;> simp [rec7, upd, recR]
  · rcases ha' with rfl | rfl
    · simp (disch := first | assumption | omega | (simp only [isAs, isFs, isJs, isAJs, isAQs]; done) | ((repeat (first | assumption | apply Sh_wA | apply Sh_wF | apply Sh_wJ | apply Sh_wFJ | apply Sh_wQ | simp only [isAs, isFs, isJs, isAJs, isAQs])); done) | fail) only [D_X0_remember, D_X9_wornAt, rec7, Nat.mul_comm p 4, Nat.reduceAdd, Option.bind_some, rdQ_c, rdO_c, rdF_c, rdA_c, rdQ_m, rdO_m, rdF_m, rdA_m, wrF_c, wrF_m, wrA_c, wrA_m, iR_ofNat, iW_ofNat, iRs, iWs, tns, tn_of', aI_wF, aI_wA_eq, aI_wA_ne, fI_wA, fI_wF_eq, fI_wF_ne, wA_wA, litA, litB, litM, litN, sc_add, sc_mul]
    · simp (disch := first | assumption | omega | (simp only [isAs, isFs, isJs, isAJs, isAQs]; done) | ((repeat (first | assumption | apply Sh_wA | apply Sh_wF | apply Sh_wJ | apply Sh_wFJ | apply Sh_wQ | simp only [isAs, isFs, isJs, isAJs, isAQs])); done) | fail) only [D_X0_remember, D_X9_wornAt, rec7, Nat.mul_comm p 4, Nat.reduceAdd, Option.bind_some, rdQ_c, rdO_c, rdF_c, rdA_c, rdQ_m, rdO_m, rdF_m, rdA_m, wrF_c, wrF_m, wrA_c, wrA_m, iR_ofNat, iW_ofNat, iRs, iWs, tns, tn_of', aI_wF, aI_wA_eq, aI_wA_ne, fI_wA, fI_wF_eq, fI_wF_ne, wA_wA, litA, litB, litM, litN, sc_add, sc_mul]
theorem placeY (hs : Sh g) (ha : isY a) {p c y : Nat} (hp : p < 6) (ec : aI g (a + 1) p = Int32.ofNat c) (ey : aI g (a + 2) p = Int32.ofNat y) : D_X9_placeOf g (some a) (Int32.ofNat p) = some (Int32.ofNat (4 * c + y), g) := by
  unfold D_X9_placeOf
  rw [(yR hs ha).2.1, Option.bind_some, (yA hs ha).1 _ hp, Option.bind_some, (yR hs ha).2.2.1, Option.bind_some, (yA hs ha).2.1 _ hp, Option.bind_some, ec, ey, show (4 : Int32) = Int32.ofNat 4 from rfl, sc_mul, sc_add, Nat.mul_comm]
/-- the writing of what is done -/
theorem c197 (hs : Sh g) (ha : isY a) {p i : Nat} (hp : p < 6) (hi : i < 4) {act : Nat} (hact : act < 4) (b w to s0 : Int32) : ∃ g', Sh g' ∧ Tch [a + 1, a + 2, a + 4] g g' ∧ aI g' (a + 1) = upd (aI g (a + 1)) p to ∧ aI g' (a + 2) = upd (aI g (a + 2)) p (if act = 1 then trnV (aI g (a + 2) p) b else aI g (a + 2) p) ∧ aI g' (a + 4) = upd (aI g (a + 4)) (4 * p + i) (minV s0) ∧ D_X0_carryOut_197 g (some a) (Int32.ofNat act) (Int32.ofNat p) b (Int32.ofNat i) w to s0 = some (if act = 0 then to else if act = 1 then trnV (aI g (a + 2) p) b else if act = 2 then minV s0 else w, g') := by
  have ha' : a = 1 ∨ a = 12 := ha
  obtain ⟨i1, i2, i3, i4, i5⟩ := isA_y ha
  have s1 : Sh (wA g (a + 4) (upd (aI g (a + 4)) (4 * p + i) (minV s0))) := Sh_wA hs i4 _
  have s2 := Sh_wA s1 i1 (upd (aI g (a + 1)) p to)
  have s3 := Sh_wA s2 i2 (upd (aI g (a + 2)) p (trnV (aI g (a + 2) p) b))
  have x1 : aI (wA g (a + 4) (upd (aI g (a + 4)) (4 * p + i) (minV s0))) (a + 1) = aI g (a + 1) := aI_wA_ne (by omega)
  have x2 : aI (wA (wA g (a + 4) (upd (aI g (a + 4)) (4 * p + i) (minV s0))) (a + 1) (upd (aI g (a + 1)) p to)) (a + 2) = aI g (a + 2) := by rw [aI_wA_ne (by omega), aI_wA_ne (by omega)]
  have T2 : Tch [a + 1, a + 2, a + 4] g (wA (wA g (a + 4) (upd (aI g (a + 4)) (4 * p + i) (minV s0))) (a + 1) (upd (aI g (a + 1)) p to)) := Tch_wA (Tch_wA (Tch_rfl _ g) (by simp) _) (by simp) _
  have T3 : Tch [a + 1, a + 2, a + 4] g (wA (wA (wA g (a + 4) (upd (aI g (a + 4)) (4 * p + i) (minV s0))) (a + 1) (upd (aI g (a + 1)) p to)) (a + 2) (upd (aI g (a + 2)) p (trnV (aI g (a + 2) p) b))) := Tch_wA T2 (by simp) _
  have ei : Int32.ofNat p * 4 + Int32.ofNat i = Int32.ofNat (4 * p + i) := by rw [show (4 : Int32) = Int32.ofNat 4 from rfl, sc_mul, sc_add, Nat.mul_comm]
  have dt : ∀ h' : z_H, D_X10_turned h' (aI g (a + 2) p) b = some (trnV (aI g (a + 2) p) b, h') := fun h' => by
    unfold D_X10_turned D_X10_turned_10 trnV
    by_cases c : b = 0
    · rw [if_pos c, if_pos c]
    · rw [if_neg c, if_neg c]
  have hd : D_X0_carryOut_197 g (some a) (Int32.ofNat act) (Int32.ofNat p) b (Int32.ofNat i) w to s0 = (if Int32.ofNat act = 1 then D_X0_carryOut_247 (wA (wA (wA g (a + 4) (upd (aI g (a + 4)) (4 * p + i) (minV s0))) (a + 1) (upd (aI g (a + 1)) p to)) (a + 2) (upd (aI g (a + 2)) p (trnV (aI g (a + 2) p) b))) (some a) (Int32.ofNat act) (Int32.ofNat p) (Int32.ofNat i) w to else D_X0_carryOut_247 (wA (wA g (a + 4) (upd (aI g (a + 4)) (4 * p + i) (minV s0))) (a + 1) (upd (aI g (a + 1)) p to)) (some a) (Int32.ofNat act) (Int32.ofNat p) (Int32.ofNat i) w to) := by
    unfold D_X0_carryOut_197
    rw [(yR hs ha).2.2.2.2.1, Option.bind_some, Option.bind_some, ei, (yW hs ha).2.2.1 _ _ (by omega), Option.bind_some]
    rw [show (if s0 < 99 then s0 else 99) = minV s0 from rfl, (yR s1 ha).2.1, Option.bind_some, (yW s1 ha).1 _ _ hp, Option.bind_some, x1]
    by_cases c : Int32.ofNat act = 1
    · rw [if_pos c, if_pos c, (yR s2 ha).2.2.1, Option.bind_some, Option.bind_some, (yA s2 ha).2.1 _ hp, Option.bind_some, x2, dt, Option.bind_some]
      dsimp only
      rw [(yW s2 ha).2.1 _ _ hp, Option.bind_some, x2]
    · rw [if_neg c, if_neg c]
  have a4 : ∀ f1 : Nat → Int32, aI (wA (wA g (a + 4) (upd (aI g (a + 4)) (4 * p + i) (minV s0))) (a + 1) f1) (a + 4) = upd (aI g (a + 4)) (4 * p + i) (minV s0) := fun f1 => by rw [aI_wA_ne (by omega), aI_wA_eq hs i4]
  rw [hd]
  have : act = 0 ∨ act = 1 ∨ act = 2 ∨ act = 3 := by omega
  rcases this with rfl | rfl | rfl | rfl
  · refine ⟨_, s2, T2, aI_wA_eq s1 i1 _, by rw [x2, if_neg (by decide), upd_self], a4 _, ?_⟩
    rw [if_neg (by decide)]
    rfl
  · refine ⟨_, s3, T3, by rw [aI_wA_ne (by omega)]; exact aI_wA_eq s1 i1 _, by rw [aI_wA_eq s2 i2, if_pos rfl], by rw [aI_wA_ne (by omega)]; exact a4 _, ?_⟩
    rw [if_pos (by decide)]
    unfold D_X0_carryOut_247
    rw [if_neg (by decide), if_pos (by decide), (yR s3 ha).2.2.1, Option.bind_some, (yA s3 ha).2.1 _ hp, Option.bind_some, aI_wA_eq s2 i2, upd_eq, if_neg (by decide), if_pos rfl]
  · refine ⟨_, s2, T2, aI_wA_eq s1 i1 _, by rw [x2, if_neg (by decide), upd_self], a4 _, ?_⟩
    rw [if_neg (by decide)]
    unfold D_X0_carryOut_247
    rw [if_neg (by decide), if_neg (by decide), if_pos (by decide), (yR s2 ha).1, Option.bind_some, wornC s2 ha hp hi, Option.bind_some, a4, upd_eq, if_neg (by decide), if_neg (by decide), if_pos rfl]
  · refine ⟨_, s2, T2, aI_wA_eq s1 i1 _, by rw [x2, if_neg (by decide), upd_self], a4 _, ?_⟩
    rw [if_neg (by decide)]
    unfold D_X0_carryOut_247
    rw [if_neg (by decide), if_neg (by decide), if_neg (by decide), if_neg (by decide), if_neg (by decide), if_neg (by decide)]
end CA
