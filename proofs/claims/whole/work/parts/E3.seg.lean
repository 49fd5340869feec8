/-! stretches of code, pure -/
section SE
variable {ord : Bool} {op ar K Ka op' ar' K' Ka' : Nat → Int32} {lo hi mid b m m1 m2 w w1 w2 n : Nat} {f : Nat → Nat}
def sg (ord : Bool) (op ar K Ka : Nat → Int32) (f : Nat → Nat) (lo hi : Nat) : Prop := ∀ i, lo ≤ i → i < hi → posRel ord op ar K Ka hi f i ∧ ∃ t : Nat, f (i + 1) = f i + 1 + 2 * t ∧ (op i = 3 ∨ op i = 4 → t = 0) ∧ notsM K (f i + 1) (2 * t)
theorem sg_mono (H : sg ord op ar K Ka f lo hi) : ∀ d i, lo ≤ i → i + d ≤ hi → f i + d ≤ f (i + d) := by
  intro d
  induction d with
  | zero => intro i _ _; exact Nat.le_refl _
  | succ d ih =>
    intro i h1 h2
    obtain ⟨t, e, _⟩ := (H (i + d) (by omega) (by omega)).2
    have := ih i h1 (by omega)
    rw [show i + (d + 1) = i + d + 1 by omega, e]
    omega
theorem sg_le (H : sg ord op ar K Ka f lo hi) {i j : Nat} (h1 : lo ≤ i) (h2 : i ≤ j) (h3 : j ≤ hi) : f i + (j - i) ≤ f j := by
  have := sg_mono H (j - i) i h1 (by omega)
  rw [show i + (j - i) = j by omega] at this
  exact this
theorem posRel_cg {n n' i : Nat} {f' : Nat → Nat} (H : posRel ord op ar K Ka n f i) (fm : ∀ j, i < j → j ≤ n → f j ≤ f n) (e1 : op' i = op i) (e2 : ar' i = ar i) (e3 : K' (f i) = K (f i)) (e4 : Ka' (f i) = Ka (f i)) (ei : f' i = f i) (ej : ∀ j, i < j → j ≤ n → f' j = f j) (ek : ∀ u, f i < u → u < f n → K' u = K u) (nn : n ≤ n') : posRel ord op' ar' K' Ka' n' f' i := by
  unfold posRel at H ⊢
  rw [e1, e2, ei, e3, e4]
  rcases H with h | h | h | h | h | h | h
  · exact Or.inl h
  · exact Or.inr (Or.inl h)
  · exact Or.inr (Or.inr (Or.inl h))
  · exact Or.inr (Or.inr (Or.inr (Or.inl h)))
  · exact Or.inr (Or.inr (Or.inr (Or.inr (Or.inl h))))
  · obtain ⟨h1, j, t, e, h2, h3, h4, h5, h6, h7, h8⟩ := h
    refine Or.inr (Or.inr (Or.inr (Or.inr (Or.inr (Or.inl ⟨h1, j, t, e, h2, by omega, h4, h5, by rw [ej j h2 h3]; exact h6, h7, fun u hu => ?_⟩)))))
    have := fm j h2 h3
    rw [ek (t + u) (by omega) (by omega)]
    exact h8 u hu
  · exact Or.inr (Or.inr (Or.inr (Or.inr (Or.inr (Or.inr h)))))
def SG (ord : Bool) (op ar K Ka : Nat → Int32) (lo hi b m : Nat) : Prop := lo ≤ hi ∧ ∃ f : Nat → Nat, f lo = b ∧ f hi = m ∧ sg ord op ar K Ka f lo hi
theorem SG.le (H : SG ord op ar K Ka lo hi b m) : b + (hi - lo) ≤ m := by
  obtain ⟨h, f, rfl, rfl, s⟩ := H
  exact sg_le s (Nat.le_refl _) h (Nat.le_refl _)
theorem sg_cg (H : sg ord op ar K Ka f lo hi) (e1 : ∀ i, lo ≤ i → i < hi → op' i = op i ∧ ar' i = ar i) (e2 : ∀ i, f lo ≤ i → i < f hi → K' i = K i ∧ Ka' i = Ka i) : sg ord op' ar' K' Ka' f lo hi := by
  intro i h1 h2
  obtain ⟨p, t, q1, q2, q3⟩ := H i h1 h2
  have l1 := sg_le H (Nat.le_refl lo) h1 (Nat.le_of_lt h2)
  have l2 := sg_le H h1 (Nat.le_of_lt h2) (Nat.le_refl hi)
  have l3 := sg_le H (i := i + 1) (j := hi) (by omega) h2 (Nat.le_refl hi)
  refine ⟨posRel_cg p (fun j a c => by have := sg_le H (i := j) (j := hi) (by omega) c (Nat.le_refl hi); omega) (e1 i h1 h2).1 (e1 i h1 h2).2 (e2 _ (by omega) (by omega)).1 (e2 _ (by omega) (by omega)).2 rfl (fun _ _ _ => rfl) (fun u a c => (e2 u (by omega) c).1) (Nat.le_refl _), t, q1, ?_, fun u hu => ?_⟩
  · rw [(e1 i h1 h2).1]; exact q2
  · rw [(e2 _ (by omega) (by omega)).1]; exact q3 u hu
theorem SG.cg (H : SG ord op ar K Ka lo hi b m) (e1 : ∀ i, lo ≤ i → i < hi → op' i = op i ∧ ar' i = ar i) (e2 : ∀ i, b ≤ i → i < m → K' i = K i ∧ Ka' i = Ka i) : SG ord op' ar' K' Ka' lo hi b m := by
  obtain ⟨h, f, rfl, rfl, s⟩ := H
  exact ⟨h, f, rfl, rfl, sg_cg s e1 e2⟩
theorem sg_app {f1 f2 : Nat → Nat} (H1 : sg ord op ar K Ka f1 lo mid) (H2 : sg ord op ar K Ka f2 mid hi) (hm : lo ≤ mid) (hh : mid ≤ hi) (e : f1 mid = f2 mid) : sg ord op ar K Ka (fun i => if i ≤ mid then f1 i else f2 i) lo hi := by
  have F1 : ∀ i, i ≤ mid → (fun i => if i ≤ mid then f1 i else f2 i) i = f1 i := fun i h => if_pos h
  have F2 : ∀ i, mid ≤ i → (fun i => if i ≤ mid then f1 i else f2 i) i = f2 i := fun i h => by
    dsimp only
    by_cases q : i ≤ mid
    · rw [if_pos q, show i = mid by omega, e]
    · rw [if_neg q]
  generalize (fun i => if i ≤ mid then f1 i else f2 i) = F at *
  intro i h1 h2
  by_cases c : i < mid
  · obtain ⟨p, t, q1, q2, q3⟩ := H1 i h1 c
    refine ⟨posRel_cg p (fun j a d => by have := sg_le H1 (i := j) (j := mid) (by omega) d (Nat.le_refl _); omega) rfl rfl rfl rfl (F1 i (by omega)) (fun j a d => F1 j d) (fun _ _ _ => rfl) hh, t, ?_, q2, ?_⟩
    · rw [F1 i (by omega), F1 (i + 1) (by omega)]; exact q1
    · rw [F1 i (by omega)]; exact q3
  · obtain ⟨p, t, q1, q2, q3⟩ := H2 i (by omega) h2
    refine ⟨posRel_cg p (fun j a d => by have := sg_le H2 (i := j) (j := hi) (by omega) d (Nat.le_refl _); omega) rfl rfl rfl rfl (F2 i (by omega)) (fun j a d => F2 j (by omega)) (fun _ _ _ => rfl) (Nat.le_refl _), t, ?_, q2, ?_⟩
    · rw [F2 i (by omega), F2 (i + 1) (by omega)]; exact q1
    · rw [F2 i (by omega)]; exact q3
theorem SG.app (H1 : SG ord op ar K Ka lo mid b m1) (H2 : SG ord op ar K Ka mid hi m1 m2) : SG ord op ar K Ka lo hi b m2 := by
  obtain ⟨h1, f1, a1, b1, s1⟩ := H1
  obtain ⟨h2, f2, a2, b2, s2⟩ := H2
  refine ⟨by omega, fun i => if i ≤ mid then f1 i else f2 i, ?_, ?_, sg_app s1 s2 h1 h2 (by rw [b1, a2])⟩
  · dsimp only; rw [if_pos h1, a1]
  · dsimp only
    by_cases q : hi ≤ mid
    · rw [if_pos q, show hi = mid by omega, b1, ← a2, ← b2, show hi = mid by omega]
    · rw [if_neg q, b2]
theorem SG.one (H : posRel ord op ar K Ka (n + 1) (fun i => b + (i - n)) n) : SG ord op ar K Ka n (n + 1) b (b + 1) := by
  refine ⟨by omega, fun i => b + (i - n), by simp, by dsimp only; omega, fun i h1 h2 => ?_⟩
  have : i = n := by omega
  subst this
  exact ⟨H, 0, by dsimp only; omega, fun _ => rfl, fun u hu => by omega⟩
theorem SG.shift (H : SG ord op ar K Ka lo hi b m) (h : lo < hi) (no : ¬ (op (hi - 1) = 3 ∨ op (hi - 1) = 4)) (k1 : K m = 28) (k2 : K (m + 1) = 28) : SG ord op ar K Ka lo hi b (m + 2) := by
  obtain ⟨_, f, rfl, rfl, s⟩ := H
  refine ⟨by omega, fun i => if i = hi then f hi + 2 else f i, by dsimp only; rw [if_neg (by omega)], by dsimp only; rw [if_pos rfl], fun i h1 h2 => ?_⟩
  have F1 : ∀ i, i < hi → (fun i => if i = hi then f hi + 2 else f i) i = f i := fun i h => if_neg (by omega)
  have F2 : (fun i => if i = hi then f hi + 2 else f i) hi = f hi + 2 := if_pos rfl
  generalize (fun i => if i = hi then f hi + 2 else f i) = F at *
  obtain ⟨p, t, q1, q2, q3⟩ := s i h1 h2
  constructor
  · unfold posRel at p ⊢
    rw [F1 i h2]
    rcases p with p | p | p | p | p | p | p
    · exact Or.inl p
    · exact Or.inr (Or.inl p)
    · exact Or.inr (Or.inr (Or.inl p))
    · exact Or.inr (Or.inr (Or.inr (Or.inl p)))
    · exact Or.inr (Or.inr (Or.inr (Or.inr (Or.inl p))))
    · obtain ⟨p1, j, tt, e, p2, p3, p4, p5, p6, p7, p8⟩ := p
      by_cases q : j = hi
      · subst q
        refine Or.inr (Or.inr (Or.inr (Or.inr (Or.inr (Or.inl ⟨p1, j, tt, e + 1, p2, p3, p4, p5, by rw [F2]; omega, p7, fun u hu => ?_⟩)))))
        by_cases c1 : u < 2 * e
        · exact p8 u c1
        · by_cases c2 : u = 2 * e
          · rw [show tt + u = f j by omega]; exact k1
          · rw [show tt + u = f j + 1 by omega]; exact k2
      · exact Or.inr (Or.inr (Or.inr (Or.inr (Or.inr (Or.inl ⟨p1, j, tt, e, p2, p3, p4, p5, by rw [F1 j (by omega)]; exact p6, p7, p8⟩)))))
    · exact Or.inr (Or.inr (Or.inr (Or.inr (Or.inr (Or.inr p)))))
  · by_cases q : i + 1 = hi
    · refine ⟨t + 1, ?_, fun z => absurd z (by rw [show i = hi - 1 by omega]; exact no), fun u hu => ?_⟩
      · rw [q, F2, F1 i h2, ← q, q1]; omega
      · rw [F1 i h2]
        rw [q] at q1
        by_cases c1 : u < 2 * t
        · exact q3 u c1
        · by_cases c2 : u = 2 * t
          · rw [show f i + 1 + u = f hi by omega]; exact k1
          · rw [show f i + 1 + u = f hi + 1 by omega]; exact k2
    · refine ⟨t, ?_, q2, ?_⟩
      · rw [F1 i h2, F1 (i + 1) (by omega)]; exact q1
      · rw [F1 i h2]; exact q3
theorem SG.jump {jm : Nat} (H1 : SG ord op ar K Ka lo jm b m1) (H2 : SG ord op ar K Ka (jm + 1) hi (m1 + 1) m) (e : op jm = 3 ∧ K m1 = 29 ∨ op jm = 4 ∧ K m1 = 30) (ea : ar jm = Int32.ofNat hi) (eb : Ka m1 = Int32.ofNat m) : SG ord op ar K Ka lo hi b m := by
  refine H1.app ?_
  have lm := H2.le
  obtain ⟨h2, f, a2, b2, s2⟩ := H2
  refine ⟨by omega, fun i => if i ≤ jm then m1 else f i, by dsimp only; rw [if_pos (Nat.le_refl _)], by dsimp only; rw [if_neg (by omega), b2], fun i h3 h4 => ?_⟩
  have F1 : (fun i => if i ≤ jm then m1 else f i) jm = m1 := if_pos (Nat.le_refl _)
  have F2 : ∀ i, jm < i → (fun i => if i ≤ jm then m1 else f i) i = f i := fun i h => if_neg (by omega)
  generalize (fun i => if i ≤ jm then m1 else f i) = F at *
  by_cases c : i = jm
  · subst c
    refine ⟨?_, 0, by rw [F1, F2 _ (by omega), a2], fun _ => rfl, fun u hu => by omega⟩
    unfold posRel
    rw [F1]
    exact Or.inr (Or.inr (Or.inr (Or.inr (Or.inr (Or.inl ⟨e, hi, m, 0, by omega, Nat.le_refl _, ea, eb, by rw [F2 _ (by omega), b2]; omega, by omega, fun u hu => by omega⟩)))))
  · obtain ⟨p, t, q1, q2, q3⟩ := s2 i (by omega) h4
    refine ⟨posRel_cg p (fun j a d => by have := sg_le s2 (i := j) (j := hi) (by omega) d (Nat.le_refl _); omega) rfl rfl rfl rfl (F2 i (by omega)) (fun j a d => F2 j (by omega)) (fun _ _ _ => rfl) (Nat.le_refl _), t, ?_, q2, ?_⟩
    · rw [F2 i (by omega), F2 (i + 1) (by omega)]; exact q1
    · rw [F2 i (by omega)]; exact q3
/-! how deep -/
def stp (op ar : Nat → Int32) (hi : Nat) (dp : Nat → Nat) (i : Nat) : Prop := (op i = 0 ∨ op i = 1) ∧ dp (i + 1) = dp i + 1 ∨ op i = 2 ∧ 1 ≤ dp i ∧ dp (i + 1) = dp i ∨ ((op i = 3 ∨ op i = 4) ∧ 1 ≤ dp i ∧ dp (i + 1) + 1 = dp i ∧ i < tn (ar i) ∧ tn (ar i) ≤ hi ∧ dp (tn (ar i)) = dp i) ∨ (∃ o : Nat, 5 ≤ o ∧ o ≤ 12 ∧ op i = Int32.ofNat o) ∧ 2 ≤ dp i ∧ dp (i + 1) + 1 = dp i
theorem stp_cg {hi hi' d : Nat} {dp dp' : Nat → Nat} {i : Nat} (H : stp op ar hi dp i) (e1 : op' i = op i) (e2 : ar' i = ar i) (ej : ∀ j, i ≤ j → j ≤ hi → dp' j = dp j + d) (ih : i < hi) (hh : hi ≤ hi') : stp op' ar' hi' dp' i := by
  unfold stp at *
  rw [e1, e2, ej i (Nat.le_refl _) (by omega), ej (i + 1) (by omega) (by omega)]
  rcases H with ⟨h, h1⟩ | ⟨h, h1, h2⟩ | ⟨h, h1, h2, h3, h4, h5⟩ | ⟨h, h1, h2⟩
  · exact Or.inl ⟨h, by omega⟩
  · exact Or.inr (Or.inl ⟨h, by omega, by omega⟩)
  · exact Or.inr (Or.inr (Or.inl ⟨h, by omega, by omega, h3, by omega, by rw [ej _ (by omega) h4]; omega⟩))
  · exact Or.inr (Or.inr (Or.inr ⟨h, by omega, by omega⟩))
def DP (op ar : Nat → Int32) (lo hi w : Nat) : Prop := lo < hi ∧ 1 ≤ w ∧ ∃ dp : Nat → Nat, dp lo = 0 ∧ dp hi = 1 ∧ (∀ i, lo ≤ i → i ≤ hi → dp i ≤ w) ∧ ∀ i, lo ≤ i → i < hi → stp op ar hi dp i
theorem DP.cg (H : DP op ar lo hi w) (e1 : ∀ i, lo ≤ i → i < hi → op' i = op i ∧ ar' i = ar i) : DP op' ar' lo hi w := by
  obtain ⟨h, hw, dp, a, c, d, s⟩ := H
  exact ⟨h, hw, dp, a, c, d, fun i h1 h2 => stp_cg (d := 0) (s i h1 h2) (e1 i h1 h2).1 (e1 i h1 h2).2 (fun _ _ _ => rfl) h2 (Nat.le_refl _)⟩
theorem DP.put (e : op n = 0 ∨ op n = 1) : DP op ar n (n + 1) 1 := by
  refine ⟨by omega, Nat.le_refl _, fun i => i - n, by simp, by dsimp only; omega, fun i h1 h2 => by dsimp only; omega, fun i h1 h2 => ?_⟩
  have : i = n := by omega
  subst this
  exact Or.inl ⟨e, by dsimp only; omega⟩
theorem DP.bin (H1 : DP op ar lo mid w1) (H2 : DP op ar mid hi w2) {o : Nat} (h5 : 5 ≤ o) (h12 : o ≤ 12) (e : op hi = Int32.ofNat o) : DP op ar lo (hi + 1) (w1 + w2) := by
  obtain ⟨l1, hw1, d1, a1, b1, c1, s1⟩ := H1
  obtain ⟨l2, hw2, d2, a2, b2, c2, s2⟩ := H2
  have F1 : ∀ i, i ≤ mid → (fun i => if i ≤ mid then d1 i else if i ≤ hi then d2 i + 1 else 1) i = d1 i := fun i h => if_pos h
  have F2 : ∀ i, mid ≤ i → i ≤ hi → (fun i => if i ≤ mid then d1 i else if i ≤ hi then d2 i + 1 else 1) i = d2 i + 1 := fun i h h' => by
    dsimp only
    by_cases q : i ≤ mid
    · rw [if_pos q, show i = mid by omega, b1, a2]
    · rw [if_neg q, if_pos h']
  have F3 : (fun i => if i ≤ mid then d1 i else if i ≤ hi then d2 i + 1 else 1) (hi + 1) = 1 := by
    dsimp only
    rw [if_neg (by omega), if_neg (by omega)]
  refine ⟨by omega, by omega, fun i => if i ≤ mid then d1 i else if i ≤ hi then d2 i + 1 else 1, (F1 lo (by omega)).trans a1, F3, ?_, ?_⟩
  all_goals generalize (fun i => if i ≤ mid then d1 i else if i ≤ hi then d2 i + 1 else 1) = F at *
  · intro i h1 h2
    by_cases q : i ≤ mid
    · rw [F1 i q]; have := c1 i h1 q; omega
    · by_cases q2 : i ≤ hi
      · rw [F2 i (by omega) q2]; have := c2 i (by omega) q2; omega
      · rw [show i = hi + 1 by omega, F3]; omega
  · intro i h1 h2
    by_cases q : i < mid
    · exact stp_cg (d := 0) (s1 i h1 q) rfl rfl (fun j _ h => F1 j h) q (by omega)
    · by_cases q2 : i < hi
      · exact stp_cg (d := 1) (s2 i (by omega) q2) rfl rfl (fun j h h' => F2 j (by omega) h') q2 (by omega)
      · have : i = hi := by omega
        subst this
        refine Or.inr (Or.inr (Or.inr ⟨⟨o, h5, h12, e⟩, ?_, ?_⟩))
        · rw [F2 i (by omega) (Nat.le_refl _), b2]; omega
        · rw [F2 i (by omega) (Nat.le_refl _), F3, b2]
theorem DP.neg (H : DP op ar lo hi w) (e : op hi = 2) : DP op ar lo (hi + 1) w := by
  obtain ⟨l1, hw1, d1, a1, b1, c1, s1⟩ := H
  have F1 : ∀ i, i ≤ hi → (fun i => if i ≤ hi then d1 i else 1) i = d1 i := fun i h => if_pos h
  have F3 : (fun i => if i ≤ hi then d1 i else 1) (hi + 1) = 1 := if_neg (by omega)
  refine ⟨by omega, hw1, fun i => if i ≤ hi then d1 i else 1, (F1 lo (by omega)).trans a1, F3, ?_, ?_⟩
  all_goals generalize (fun i => if i ≤ hi then d1 i else 1) = F at *
  · intro i h1 h2
    by_cases q : i ≤ hi
    · rw [F1 i q]; exact c1 i h1 q
    · rw [show i = hi + 1 by omega, F3]; exact hw1
  · intro i h1 h2
    by_cases q : i < hi
    · exact stp_cg (d := 0) (s1 i h1 q) rfl rfl (fun j _ h => F1 j h) q (by omega)
    · have : i = hi := by omega
      subst this
      exact Or.inr (Or.inl ⟨e, by rw [F1 i (Nat.le_refl _), b1]; omega, by rw [F1 i (Nat.le_refl _), F3, b1]⟩)
theorem DP.jump {jm : Nat} (H1 : DP op ar lo jm w1) (H2 : DP op ar (jm + 1) hi w2) (e : op jm = 3 ∨ op jm = 4) (ea : ar jm = Int32.ofNat hi) (hb : hi < 2 ^ 31) : DP op ar lo hi (w1 + w2) := by
  obtain ⟨l1, hw1, d1, a1, b1, c1, s1⟩ := H1
  obtain ⟨l2, hw2, d2, a2, b2, c2, s2⟩ := H2
  have F1 : ∀ i, i ≤ jm → (fun i => if i ≤ jm then d1 i else d2 i) i = d1 i := fun i h => if_pos h
  have F2 : ∀ i, jm < i → (fun i => if i ≤ jm then d1 i else d2 i) i = d2 i := fun i h => if_neg (by omega)
  refine ⟨by omega, by omega, fun i => if i ≤ jm then d1 i else d2 i, (F1 lo (by omega)).trans a1, (F2 hi (by omega)).trans b2, ?_, ?_⟩
  all_goals generalize (fun i => if i ≤ jm then d1 i else d2 i) = F at *
  · intro i h1 h2
    by_cases q : i ≤ jm
    · rw [F1 i q]; have := c1 i h1 q; omega
    · rw [F2 i (by omega)]; have := c2 i (by omega) h2; omega
  · intro i h1 h2
    by_cases q : i < jm
    · exact stp_cg (d := 0) (s1 i h1 q) rfl rfl (fun j _ h => F1 j h) q (by omega)
    · by_cases q2 : i = jm
      · subst q2
        refine Or.inr (Or.inr (Or.inl ⟨e, ?_, ?_, ?_, ?_, ?_⟩))
        · rw [F1 i (Nat.le_refl _), b1]; omega
        · rw [F1 i (Nat.le_refl _), F2 _ (by omega), b1, a2]
        · rw [ea, tn_of hb]; omega
        · rw [ea, tn_of hb]; omega
        · rw [ea, tn_of hb, F2 hi (by omega), F1 i (Nat.le_refl _), b1, b2]
      · exact stp_cg (d := 0) (s2 i (by omega) h2) rfl rfl (fun j h h' => F2 j (by omega)) h2 (Nat.le_refl _)
theorem DP.deep (H : DP op ar lo hi w) (hw : w ≤ 50) : segOK op ar lo hi := by
  obtain ⟨l, _, dp, a, c, d, s⟩ := H
  refine ⟨by omega, dp, a, c, fun i h1 h2 => ⟨by have := d i h1 (by omega); omega, ?_⟩⟩
  rcases s i h1 h2 with ⟨h, h3⟩ | h | ⟨h, h3, h4, _, h5, h6⟩ | h
  · have := d (i + 1) (by omega) (by omega)
    exact Or.inl ⟨h, h3, by omega⟩
  · exact Or.inr (Or.inl h)
  · exact Or.inr (Or.inr (Or.inl ⟨h, h3, h4, h5, h6⟩))
  · exact Or.inr (Or.inr (Or.inr h))
/-! SUMS and TESTS -/
def SUMR (ord : Bool) (op ar K Ka : Nat → Int32) (lo hi b m w : Nat) : Prop := SG ord op ar K Ka lo hi b m ∧ DP op ar lo hi w ∧ ∀ i, lo ≤ i → i < hi → ¬ op i = 2
def lb (x : Int32) : Prop := (∃ o : Nat, 10 ≤ o ∧ o ≤ 12 ∧ x = Int32.ofNat o) ∨ x = 2
def TSTR (ord : Bool) (op ar K Ka : Nat → Int32) (lo hi b m w : Nat) : Prop := SG ord op ar K Ka lo hi b m ∧ DP op ar lo hi w ∧ (∀ i, lo ≤ i → i < hi → op i = 2 → lo < i ∧ lb (op (i - 1))) ∧ lb (op (hi - 1))
theorem SUMR.cg (H : SUMR ord op ar K Ka lo hi b m w) (e1 : ∀ i, lo ≤ i → i < hi → op' i = op i ∧ ar' i = ar i) (e2 : ∀ i, b ≤ i → i < m → K' i = K i ∧ Ka' i = Ka i) : SUMR ord op' ar' K' Ka' lo hi b m w :=
  ⟨H.1.cg e1 e2, H.2.1.cg e1, fun i h1 h2 => by rw [(e1 i h1 h2).1]; exact H.2.2 i h1 h2⟩
theorem TSTR.cg (H : TSTR ord op ar K Ka lo hi b m w) (e1 : ∀ i, lo ≤ i → i < hi → op' i = op i ∧ ar' i = ar i) (e2 : ∀ i, b ≤ i → i < m → K' i = K i ∧ Ka' i = Ka i) : TSTR ord op' ar' K' Ka' lo hi b m w := by
  have l := H.2.1.1
  refine ⟨H.1.cg e1 e2, H.2.1.cg e1, fun i h1 h2 q => ?_, by rw [(e1 (hi - 1) (by omega) (by omega)).1]; exact H.2.2.2⟩
  rw [(e1 i h1 h2).1] at q
  obtain ⟨a, c⟩ := H.2.2.1 i h1 h2 q
  exact ⟨a, by rw [(e1 (i - 1) (by omega) (by omega)).1]; exact c⟩
theorem o_ne {o c : Nat} (h1 : o < 2 ^ 31) (h2 : c < 2 ^ 31) (h : o ≠ c) : ¬ Int32.ofNat o = Int32.ofNat c := fun z => h ((eq_lit h1 h2).mp z)
theorem SUMR.put (h0 : op n = 0 ∨ op n = 1) (H : posRel ord op ar K Ka (n + 1) (fun i => b + (i - n)) n) : SUMR ord op ar K Ka n (n + 1) b (b + 1) 1 := by
  refine ⟨SG.one H, DP.put h0, fun i h1 h2 => ?_⟩
  have : i = n := by omega
  subst this
  rcases h0 with h | h <;> rw [h] <;> decide
theorem SG.join {o : Nat} (h5 : 5 ≤ o) (h12 : o ≤ 12) (e : op n = Int32.ofNat o) (k : K b = Int32.ofNat (o + 15)) : SG ord op ar K Ka n (n + 1) b (b + 1) := by
  refine SG.one ?_
  unfold posRel
  refine Or.inr (Or.inr (Or.inr (Or.inr (Or.inr (Or.inr ⟨o, h5, h12, e, ?_⟩)))))
  dsimp only
  rw [Nat.sub_self]; exact k
theorem SUMR.bin (H1 : SUMR ord op ar K Ka lo mid b m1 w1) (H2 : SUMR ord op ar K Ka mid hi m1 m2 w2) {o : Nat} (h5 : 5 ≤ o) (h12 : o ≤ 12) (e : op hi = Int32.ofNat o) (k : K m2 = Int32.ofNat (o + 15)) : SUMR ord op ar K Ka lo (hi + 1) b (m2 + 1) (w1 + w2) := by
  have l1 := H1.2.1.1
  have l2 := H2.2.1.1
  refine ⟨(H1.1.app H2.1).app (SG.join h5 h12 e k), H1.2.1.bin H2.2.1 h5 h12 e, fun i h1 h2 => ?_⟩
  by_cases q : i < mid
  · exact H1.2.2 i h1 q
  · by_cases q2 : i < hi
    · exact H2.2.2 i (by omega) q2
    · rw [show i = hi by omega, e]
      exact o_ne (c := 2) (by omega) (by decide) (by omega)
theorem TSTR.cmp (H1 : SUMR ord op ar K Ka lo mid b m1 w1) (H2 : SUMR ord op ar K Ka mid hi m1 m2 w2) {o : Nat} (h5 : 10 ≤ o) (h12 : o ≤ 12) (e : op hi = Int32.ofNat o) (k : K m2 = Int32.ofNat (o + 15)) : TSTR ord op ar K Ka lo (hi + 1) b (m2 + 1) (w1 + w2) := by
  have H := H1.bin H2 (by omega) h12 e k
  exact ⟨H.1, H.2.1, fun i h1 h2 q => absurd q (H.2.2 i h1 h2), Or.inl ⟨o, h5, h12, by rw [Nat.add_sub_cancel]; exact e⟩⟩
theorem TSTR.neg (H : TSTR ord op ar K Ka lo hi b m w) (e : op hi = 2) (k : K m = 28) : TSTR ord op ar K Ka lo (hi + 1) b (m + 1) w := by
  have l := H.2.1.1
  refine ⟨H.1.app (SG.one ?_), H.2.1.neg e, fun i h1 h2 q => ?_, Or.inr (by rw [Nat.add_sub_cancel]; exact e)⟩
  · unfold posRel
    refine Or.inr (Or.inr (Or.inr (Or.inr (Or.inl ⟨e, ?_⟩))))
    dsimp only
    rw [Nat.sub_self]; exact k
  · by_cases c : i < hi
    · exact H.2.2.1 i h1 c q
    · rw [show i = hi by omega]
      exact ⟨l, H.2.2.2⟩
theorem TSTR.pair (H : TSTR ord op ar K Ka lo hi b m w) (k1 : K m = 28) (k2 : K (m + 1) = 28) : TSTR ord op ar K Ka lo hi b (m + 2) w := by
  refine ⟨H.1.shift H.2.1.1 (fun z => ?_) k1 k2, H.2⟩
  rcases H.2.2.2 with ⟨o, h1, h2, e⟩ | e
  · rw [e] at z
    rcases z with z | z
    · exact o_ne (c := 3) (by omega) (by decide) (by omega) z
    · exact o_ne (c := 4) (by omega) (by decide) (by omega) z
  · rw [e] at z
    rcases z with z | z <;> exact absurd z (by decide)
theorem TSTR.jump {jm : Nat} (H1 : TSTR ord op ar K Ka lo jm b m1 w1) (H2 : TSTR ord op ar K Ka (jm + 1) hi (m1 + 1) m w2) (e : op jm = 3 ∧ K m1 = 29 ∨ op jm = 4 ∧ K m1 = 30) (ea : ar jm = Int32.ofNat hi) (eb : Ka m1 = Int32.ofNat m) (hb : hi < 2 ^ 31) : TSTR ord op ar K Ka lo hi b m (w1 + w2) := by
  have l1 := H1.2.1.1
  have l2 := H2.2.1.1
  have e' : op jm = 3 ∨ op jm = 4 := e.imp (fun z => z.1) (fun z => z.1)
  refine ⟨H1.1.jump H2.1 e ea eb, H1.2.1.jump H2.2.1 e' ea hb, fun i h1 h2 q => ?_, H2.2.2.2⟩
  by_cases c : i < jm
  · exact H1.2.2.1 i h1 c q
  · by_cases c2 : i = jm
    · subst c2
      rcases e' with z | z <;> rw [z] at q <;> exact absurd q (by decide)
    · obtain ⟨a, d⟩ := H2.2.2.1 i (by omega) h2 q
      exact ⟨by omega, d⟩
theorem TSTR.seg (H : TSTR ord op ar K Ka lo hi b m w) (hw : w ≤ 50) : segT op ar lo hi := by
  have l := H.2.1.1
  refine ⟨H.2.1.deep hw, fun i => if i ≤ lo then false else if op (i - 1) = 10 ∨ op (i - 1) = 11 ∨ op (i - 1) = 12 ∨ op (i - 1) = 2 then true else false, by dsimp only; rw [if_pos (Nat.le_refl _)], ?_, fun i h1 h2 q => ?_⟩
  · dsimp only
    rw [if_neg (by omega), if_pos]
    rcases H.2.2.2 with ⟨o, h1, h2, e⟩ | e
    · rw [e]
      rcases (show o = 10 ∨ o = 11 ∨ o = 12 by omega) with r | r | r <;> subst r <;> decide
    · exact Or.inr (Or.inr (Or.inr e))
  · dsimp only at q ⊢
    rw [if_neg (by omega), Nat.add_sub_cancel] at q
    by_cases c : op i = 10 ∨ op i = 11 ∨ op i = 12 ∨ op i = 2
    · rcases c with c | c | c | c
      · exact Or.inl ⟨10, by omega, by omega, c⟩
      · exact Or.inl ⟨11, by omega, by omega, c⟩
      · exact Or.inl ⟨12, by omega, by omega, c⟩
      · obtain ⟨a, d⟩ := H.2.2.1 i h1 h2 c
        refine Or.inr ⟨c, ?_⟩
        rw [if_neg (by omega), if_pos]
        rcases d with ⟨o, h1, h2, e⟩ | e
        · rw [e]
          rcases (show o = 10 ∨ o = 11 ∨ o = 12 by omega) with r | r | r <;> subst r <;> decide
        · exact Or.inr (Or.inr (Or.inr e))
    · rw [if_neg c] at q; cases q
end SE
