/-! the class's search by the number of acts, pure -/
section BS
abbrev FC : Nat := 1000000
variable {N : Nat → Nat → Option Nat} {s T q : Nat} {Q ct κ : Nat → Nat}
def dsc (ct : Nat → Nat) : Nat → Nat := fun x => if ct x = FC then 0 else 1
def BF (N : Nat → Nat → Option Nat) (s T q : Nat) (Q ct κ : Nat → Nat) : Prop := (1 ≤ q ∧ q = sumN (dsc ct) 100 ∧ Q 0 = s ∧ ct s = 0) ∧ (∀ j, j < q → Q j < 100 ∧ ct (Q j) ≤ j) ∧ (∀ j j', j < q → j' < q → Q j = Q j' → j = j') ∧ (∀ x, x < 100 → ct x = FC ∨ ∃ j, j < q ∧ Q j = x) ∧ (∀ j, 1 ≤ j → j < q → κ j < T ∧ κ j / 3 < j ∧ N (Q (κ j / 3)) (κ j % 3) = some (Q j) ∧ ct (Q j) = ct (Q (κ j / 3)) + 1) ∧ (∀ j j', 1 ≤ j → j < j' → j' < q → κ j < κ j') ∧ ∀ t, t < T → ∀ z, N (Q (t / 3)) (t % 3) = some z → ∃ j, j < q ∧ Q j = z ∧ (j = 0 ∨ κ j ≤ t)
theorem BF.le (B : BF N s T q Q ct κ) : q ≤ 100 := by
  rw [B.1.2.1]
  have := sum_cap (F := dsc ct) (c := 1) 100 (fun i _ => by unfold dsc; split <;> omega)
  omega
theorem BF.lt (B : BF N s T q Q ct κ) {z : Nat} (hz : z < 100) (e : ct z = FC) : q < 100 := by
  rw [B.1.2.1]
  have c1 : sumN (fun _ => 1) 100 = 100 := by decide
  have := sum_lt' (F := dsc ct) (G := fun _ => 1) 100 (fun i _ => by unfold dsc; split <;> omega) z hz (by unfold dsc; rw [if_pos e]; decide)
  omega
/-- nothing new is found -/
theorem BF.skip (B : BF N s T q Q ct κ) (hn : ∀ z, N (Q (T / 3)) (T % 3) = some z → z < 100 ∧ ct z ≠ FC) : BF N s (T + 1) q Q ct κ := by
  obtain ⟨b0, b1, b2, b3, b4, b5, b6⟩ := B
  refine ⟨b0, b1, b2, b3, fun j h1 h2 => ?_, b5, fun t ht z e => ?_⟩
  · obtain ⟨x1, x2⟩ := b4 j h1 h2
    exact ⟨by omega, x2⟩
  · by_cases w : t = T
    · subst w
      obtain ⟨z1, z2⟩ := hn z e
      obtain ⟨j, hj, ej⟩ := (b3 z z1).resolve_left z2
      refine ⟨j, hj, ej, ?_⟩
      rcases Nat.eq_zero_or_pos j with h0 | h0
      · exact Or.inl h0
      · exact Or.inr (Nat.le_of_lt (b4 j h0 hj).1)
    · exact b6 t (by omega) z e
theorem BF.add (B : BF N s T q Q ct κ) {z : Nat} (hi : T / 3 < q) (e : N (Q (T / 3)) (T % 3) = some z) (hz : z < 100) (hc : ct z = FC) : BF N s (T + 1) (q + 1) (updN Q q z) (updN ct z (ct (Q (T / 3)) + 1)) (updN κ q T) := by
  have q100 := B.lt hz hc
  obtain ⟨⟨b0, bq, bs, bc⟩, b1, b2, b3, b4, b5, b6⟩ := B
  have Qo : ∀ j, j < q → updN Q q z j = Q j := fun j hj => by unfold updN; rw [if_neg (by omega)]
  have Qn : updN Q q z q = z := by unfold updN; rw [if_pos rfl]
  have κo : ∀ j, j < q → updN κ q T j = κ j := fun j hj => by unfold updN; rw [if_neg (by omega)]
  have κn : updN κ q T q = T := by unfold updN; rw [if_pos rfl]
  have nz : ∀ j, j < q → Q j ≠ z := fun j hj w => by
    have := (b1 j hj).2
    rw [w, hc] at this
    unfold FC at this; omega
  have co : ∀ j, j < q → updN ct z (ct (Q (T / 3)) + 1) (Q j) = ct (Q j) := fun j hj => by unfold updN; rw [if_neg (nz j hj)]
  have cn : updN ct z (ct (Q (T / 3)) + 1) z = ct (Q (T / 3)) + 1 := by unfold updN; rw [if_pos rfl]
  have pi := (b1 (T / 3) hi).2
  have sz : s ≠ z := by
    have := nz 0 (by omega)
    rw [bs] at this
    exact this
  refine ⟨⟨by omega, ?_, ?_, ?_⟩, fun j hj => ?_, fun j j' hj hj' w => ?_, fun x hx => ?_, fun j h1 h2 => ?_, fun j j' h1 h2 h3 => ?_, fun t ht y ey => ?_⟩
  · have : dsc (updN ct z (ct (Q (T / 3)) + 1)) = addN (dsc ct) z 1 := by
      funext x
      unfold dsc addN updN
      by_cases w : x = z
      · rw [if_pos w, if_pos w, w]
        dsimp only
        rw [if_pos hc, if_neg (show ¬ ct (Q (T / 3)) + 1 = FC by unfold FC; omega)]
      · rw [if_neg w, if_neg w]
    rw [this, sum_add, if_pos hz, ← bq]
  · rw [Qo 0 (by omega)]; exact bs
  · unfold updN; rw [if_neg sz]; exact bc
  · by_cases w : j = q
    · rw [w, Qn, cn]; exact ⟨hz, by omega⟩
    · rw [Qo j (by omega), co j (by omega)]; exact b1 j (by omega)
  · by_cases w1 : j = q
    · by_cases w2 : j' = q
      · omega
      · rw [w1, Qn, Qo j' (by omega)] at w; exact absurd w.symm (nz j' (by omega))
    · by_cases w2 : j' = q
      · rw [w2, Qn, Qo j (by omega)] at w; exact absurd w (nz j (by omega))
      · rw [Qo j (by omega), Qo j' (by omega)] at w; exact b2 j j' (by omega) (by omega) w
  · by_cases w : x = z
    · exact Or.inr ⟨q, by omega, by rw [Qn, w]⟩
    · rcases b3 x hx with u | ⟨j, hj, ej⟩
      · refine Or.inl ?_
        unfold updN; rw [if_neg w]; exact u
      · exact Or.inr ⟨j, by omega, by rw [Qo j hj]; exact ej⟩
  · by_cases w : j = q
    · rw [w, κn, Qn, Qo _ hi, cn, co _ hi]
      exact ⟨by omega, hi, e, rfl⟩
    · obtain ⟨x1, x2, x3, x4⟩ := b4 j h1 (by omega)
      rw [κo j (by omega), Qo j (by omega), Qo _ (by omega), co j (by omega), co _ (by omega)]
      exact ⟨by omega, x2, x3, x4⟩
  · by_cases w : j' = q
    · rw [w, κn, κo j (by omega)]
      exact (b4 j h1 (by omega)).1
    · rw [κo j (by omega), κo j' (by omega)]; exact b5 j j' h1 h2 (by omega)
  · rw [Qo _ (by omega)] at ey
    by_cases w : t = T
    · subst w
      rw [e] at ey
      cases ey
      exact ⟨q, by omega, Qn, Or.inr (by rw [κn]; exact Nat.le_refl _)⟩
    · obtain ⟨j, hj, ej, k⟩ := b6 t (by omega) y ey
      exact ⟨j, by omega, by rw [Qo j hj]; exact ej, by rw [κo j hj]; exact k⟩
/-- costs grow along the queue -/
theorem BF.mono (B : BF N s T q Q ct κ) : ∀ n j j', j' ≤ n → j ≤ j' → j' < q → ct (Q j) ≤ ct (Q j') := by
  intro n
  induction n with
  | zero =>
    intro j j' h1 h2 h3
    rw [show j = j' by omega]
    exact Nat.le_refl _
  | succ n ih =>
    intro j j' h1 h2 h3
    by_cases w : j = j'
    · rw [w]; exact Nat.le_refl _
    rcases Nat.eq_zero_or_pos j with h0 | h0
    · rw [h0, B.1.2.2.1, B.1.2.2.2]; exact Nat.zero_le _
    · obtain ⟨-, x2, -, x4⟩ := B.2.2.2.2.1 j h0 (by omega)
      obtain ⟨-, y2, -, y4⟩ := B.2.2.2.2.1 j' (by omega) h3
      have k := B.2.2.2.2.2.1 j j' h0 (by omega) h3
      have := ih (κ j / 3) (κ j' / 3) (by omega) (by omega) (by omega)
      omega
/-- an act from a processed place costs at most one more -/
theorem BF.next (B : BF N s T q Q ct κ) {j a z : Nat} (hj : j < q) (ht : 3 * j + a < T) (ha : a < 3) (e : N (Q j) a = some z) : ∃ j', j' < q ∧ Q j' = z ∧ ct z ≤ ct (Q j) + 1 := by
  obtain ⟨j', hj', e', k⟩ := B.2.2.2.2.2.2 (3 * j + a) ht z (by rw [show (3 * j + a) / 3 = j by omega, show (3 * j + a) % 3 = a by omega]; exact e)
  refine ⟨j', hj', e', ?_⟩
  rcases Nat.eq_zero_or_pos j' with h0 | h0
  · rw [← e', h0, B.1.2.2.1, B.1.2.2.2]; exact Nat.zero_le _
  · have k' := k.resolve_left (by omega)
    obtain ⟨-, x2, -, x4⟩ := B.2.2.2.2.1 j' h0 hj'
    rw [← e', x4]
    have := B.mono j (κ j' / 3) j (Nat.le_refl _) (by omega) hj
    omega
variable {G : Nat → Prop}
theorem wlk_one : ∀ n k c, wlk N one' G n k c → c = n := by
  intro n
  induction n with
  | zero => exact fun k c q => q.2
  | succ n ih =>
    rintro k c ⟨a, k', c', -, -, q, rfl⟩
    have := ih k' c' q
    unfold one'
    omega
/-- the rows of the search's tree -/
theorem BF.real (B : BF N s T q Q ct κ) : ∀ n j, j ≤ n → j < q → ∀ m c, wlk N one' G m (Q j) c → ∃ m', wlk N one' G m' s (c + ct (Q j)) := by
  intro n
  induction n with
  | zero =>
    intro j h1 h2 m c w
    rw [show j = 0 by omega, B.1.2.2.1] at w ⊢
    rw [B.1.2.2.2]
    exact ⟨m, w⟩
  | succ n ih =>
    intro j h1 h2 m c w
    rcases Nat.eq_zero_or_pos j with h0 | h0
    · rw [h0, B.1.2.2.1] at w ⊢
      rw [B.1.2.2.2]
      exact ⟨m, w⟩
    · obtain ⟨-, x2, x3, x4⟩ := B.2.2.2.2.1 j h0 h2
      obtain ⟨m', w'⟩ := ih (κ j / 3) (by omega) (by omega) (m + 1) (1 + c) ⟨κ j % 3, Q j, c, by omega, x3, w, rfl⟩
      rw [x4]
      rw [show 1 + c + ct (Q (κ j / 3)) = c + (ct (Q (κ j / 3)) + 1) by omega] at w'
      exact ⟨m', w'⟩
/-- the first place of the queue in the goal has the least cost -/
theorem BF.best {i : Nat} (B : BF N s (3 * i) q Q ct κ) (hi : i < q) (g : G (Q i)) (no : ∀ j, j < i → ¬ G (Q j)) : lst N one' G 1 s (ct (Q i)) := by
  have key : ∀ n j c, j < q → wlk N one' G n (Q j) c → ct (Q i) ≤ ct (Q j) + n := by
    intro n
    induction n with
    | zero =>
      intro j c hj w
      have : i ≤ j := Nat.le_of_not_lt fun z => no j z w.1
      exact B.mono j i j (Nat.le_refl _) this hj
    | succ n ih =>
      rintro j c hj ⟨a, z, c', ha, e, w, rfl⟩
      rcases Nat.lt_or_ge j i with lt | ge
      · obtain ⟨j', hj', e', b⟩ := B.next hj (show 3 * j + a < 3 * i by omega) ha e
        rw [← e'] at w b
        have := ih j' c' hj' w
        omega
      · have := B.mono j i j (Nat.le_refl _) ge hj
        omega
  have l := B.le
  have c := (B.2.1 i hi).2
  refine Or.inr ⟨by omega, ?_, fun n c w => ?_⟩
  · have := B.real (G := G) i i (Nat.le_refl _) hi 0 0 ⟨g, rfl⟩
    rw [Nat.zero_add] at this
    exact this
  · rw [← B.1.2.2.1] at w
    have := key n 0 c (by have := B.1.1; omega) w
    rw [B.1.2.2.1, B.1.2.2.2] at this
    have := wlk_one n _ c w
    omega
theorem BF.none {i : Nat} (B : BF N s (3 * i) q Q ct κ) (hi : q ≤ i) (no : ∀ j, j < q → ¬ G (Q j)) : lst N one' G 1 s FR := by
  have key : ∀ n j c, j < q → ¬ wlk N one' G n (Q j) c := by
    intro n
    induction n with
    | zero => exact fun j c hj w => no j hj w.1
    | succ n ih =>
      rintro j c hj ⟨a, z, c', ha, e, w, rfl⟩
      obtain ⟨j', hj', e', -⟩ := B.next hj (show 3 * j + a < 3 * i by omega) ha e
      rw [← e'] at w
      exact ih j' c' hj' w
  refine Or.inl ⟨rfl, fun n c w => ?_⟩
  rw [← B.1.2.2.1] at w
  exact key n 0 c (by have := B.1.1; omega) w
end BS
