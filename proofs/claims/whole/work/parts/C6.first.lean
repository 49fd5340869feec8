/-! the first row of acts: the search's tree and the least acts are the same -/
section FW
def anc (κ : Nat → Nat) (i : Nat) : Nat → Nat
  | 0 => i
  | n + 1 => κ (anc κ i n) / 3
variable {N : Nat → Nat → Option Nat} {s q i : Nat} {Q ct κ v : Nat → Nat} {G : Nat → Prop}
theorem anc_ok (B : BF N s (3 * i) q Q ct κ) (hi : i < q) : ∀ n, n ≤ ct (Q i) → anc κ i n < q ∧ anc κ i n ≤ i ∧ (1 ≤ n → anc κ i n < i) ∧ ct (Q (anc κ i n)) + n = ct (Q i) := by
  intro n
  induction n with
  | zero => exact fun _ => ⟨hi, Nat.le_refl _, fun z => by omega, rfl⟩
  | succ n ih =>
    intro hn
    obtain ⟨a1, a2, a3, a4⟩ := ih (by omega)
    have p1 : 1 ≤ anc κ i n := by
      rcases Nat.eq_zero_or_pos (anc κ i n) with z | z
      · rw [z, B.1.2.2.1, B.1.2.2.2] at a4; omega
      · exact z
    obtain ⟨-, x2, -, x4⟩ := B.2.2.2.2.1 _ p1 a1
    show κ (anc κ i n) / 3 < q ∧ κ (anc κ i n) / 3 ≤ i ∧ (1 ≤ n + 1 → κ (anc κ i n) / 3 < i) ∧ ct (Q (κ (anc κ i n) / 3)) + (n + 1) = ct (Q i)
    exact ⟨by omega, by omega, fun _ => by omega, by omega⟩
theorem anc_pos (B : BF N s (3 * i) q Q ct κ) (hi : i < q) {n : Nat} (hn : n < ct (Q i)) : 1 ≤ anc κ i n := by
  obtain ⟨a1, a2, a3, a4⟩ := anc_ok B hi n (by omega)
  rcases Nat.eq_zero_or_pos (anc κ i n) with z | z
  · rw [z, B.1.2.2.1, B.1.2.2.2] at a4; omega
  · exact z
theorem anc_walk (B : BF N s (3 * i) q Q ct κ) (hi : i < q) (g : G (Q i)) : ∀ n, n ≤ ct (Q i) → wlk N one' G n (Q (anc κ i n)) n := by
  intro n
  induction n with
  | zero => exact fun _ => ⟨g, rfl⟩
  | succ n ih =>
    intro hn
    obtain ⟨a1, -⟩ := anc_ok B hi n (by omega)
    obtain ⟨-, -, x3, -⟩ := B.2.2.2.2.1 _ (anc_pos B hi (by omega)) a1
    exact ⟨κ (anc κ i n) % 3, Q (anc κ i n), n, by omega, x3, ih (by omega), Nat.add_comm _ _⟩
theorem lst_le {k x n c : Nat} (l : lst N one' G 1 k x) (w : wlk N one' G n k c) : x ≤ c := by
  rcases l with ⟨-, l⟩ | ⟨-, -, l⟩
  · exact absurd w (l n c)
  · exact l n c w
theorem lst_wlk {k x : Nat} (l : lst N one' G 1 k x) (hx : x ≤ 100) : wlk N one' G x k x := by
  rcases l with ⟨l, -⟩ | ⟨-, ⟨n, l⟩, -⟩
  · unfold FR at l; omega
  · have := wlk_one n k x l
    rw [← this] at l
    exact l
/-- what both agree on along the row -/
theorem first_row (B : BF N s (3 * i) q Q ct κ) (hi : i < q) (g : G (Q i)) (no : ∀ j, j < i → ¬ G (Q j)) (hv : ∀ k, k < 100 → lst N one' G 1 k (v k)) (hN : ∀ k a k', k < 100 → a < 3 → N k a = some k' → k' < 100) : v s = ct (Q i) ∧ (∀ n, n ≤ ct (Q i) → v (Q (anc κ i n)) = n) ∧ ∀ n, n < ct (Q i) → N (Q (anc κ i (n + 1))) (κ (anc κ i n) % 3) = some (Q (anc κ i n)) ∧ ∀ a z, a < κ (anc κ i n) % 3 → N (Q (anc κ i (n + 1))) a = some z → v z ≠ n := by
  have q100 := B.le
  have L100 := (B.2.1 i hi).2
  have s100 : s < 100 := by
    rw [← B.1.2.2.1]
    exact (B.2.1 0 (by have := B.1.1; omega)).1
  have vs : v s = ct (Q i) := lst_one (hv s s100) (B.best hi g no)
  have sumL : ∀ j, j < q → v (Q j) ≤ 100 → ct (Q i) ≤ ct (Q j) + v (Q j) := fun j hj hb => by
    obtain ⟨m', w'⟩ := B.real (G := G) j j (Nat.le_refl _) hj _ _ (lst_wlk (hv (Q j) (B.2.1 j hj).1) hb)
    have := lst_le (hv s s100) w'
    omega
  have va : ∀ n, n ≤ ct (Q i) → v (Q (anc κ i n)) = n := fun n hn => by
    obtain ⟨a1, -, -, a4⟩ := anc_ok B hi n hn
    have le := lst_le (hv _ (B.2.1 _ a1).1) (anc_walk B hi g n hn)
    have := sumL _ a1 (by omega)
    omega
  -- an act that leads on comes no earlier than the tree's
  have key : ∀ n, n < ct (Q i) → (∀ j, j < q → ct (Q j) + n = ct (Q i) → v (Q j) = n → anc κ i n ≤ j) → ∀ j a z, j < i → a < 3 → ct (Q j) + (n + 1) = ct (Q i) → N (Q j) a = some z → v z = n → κ (anc κ i n) ≤ 3 * j + a := by
    intro n hn M j a z hj ha cj e vz
    have jq : j < q := by omega
    obtain ⟨j', hj', e', k⟩ := B.2.2.2.2.2.2 (3 * j + a) (by omega) z (by rw [show (3 * j + a) / 3 = j by omega, show (3 * j + a) % 3 = a by omega]; exact e)
    obtain ⟨j2, hj2, e2, c2⟩ := B.next jq (show 3 * j + a < 3 * i by omega) ha e
    have : j2 = j' := B.2.2.1 j2 j' hj2 hj' (by rw [e2, e'])
    subst this
    have sl := sumL j2 hj2 (by rw [e']; omega)
    rw [e', vz] at sl
    have aj := M j2 hj2 (by rw [e']; omega) (by rw [e']; exact vz)
    have ap := anc_pos B hi hn
    have k' := k.resolve_left (by omega)
    by_cases w : anc κ i n = j2
    · rw [w]; exact k'
    · have := B.2.2.2.2.2.1 _ j2 ap (by omega) hj2
      omega
  have M : ∀ n, n ≤ ct (Q i) → ∀ j, j < q → ct (Q j) + n = ct (Q i) → v (Q j) = n → anc κ i n ≤ j := by
    intro n
    induction n with
    | zero =>
      intro _ j hj _ vj
      have w := lst_wlk (hv (Q j) (B.2.1 j hj).1) (by omega)
      rw [vj] at w
      show i ≤ j
      exact Nat.le_of_not_lt fun z => no j z w.1
    | succ n ih =>
      intro hn j hj cj vj
      refine Nat.le_of_not_lt fun lt => ?_
      obtain ⟨a1, a2, a3, a4⟩ := anc_ok B hi (n + 1) hn
      have w := lst_wlk (hv (Q j) (B.2.1 j hj).1) (by omega)
      rw [vj] at w
      obtain ⟨a, z, c', ha, e, w', ec⟩ := w
      have z100 := hN _ a z (B.2.1 j hj).1 ha e
      have c'n : c' = n := by unfold one' at ec; omega
      subst c'n
      have vz1 := lst_le (hv z z100) w'
      have vz2 : v (Q j) ≤ 1 + v z := lst_le (hv (Q j) (B.2.1 j hj).1) (n := v z + 1) ⟨a, z, v z, ha, e, lst_wlk (hv z z100) (by omega), rfl⟩
      have := key c' (by omega) (ih (by omega)) j a z (by omega) ha (by omega) e (by omega)
      have lt' : j < κ (anc κ i c') / 3 := lt
      omega
  refine ⟨vs, va, fun n hn => ?_⟩
  obtain ⟨a1, -⟩ := anc_ok B hi n (by omega)
  obtain ⟨b1, b2, b3, b4⟩ := anc_ok B hi (n + 1) (by omega)
  obtain ⟨-, -, x3, -⟩ := B.2.2.2.2.1 _ (anc_pos B hi hn) a1
  refine ⟨x3, fun a z ha e vz => ?_⟩
  have := key n hn (M n (by omega)) (anc κ i (n + 1)) a z (b3 (by omega)) (by omega) (by omega) e vz
  have ae : anc κ i (n + 1) = κ (anc κ i n) / 3 := rfl
  omega
end FW
