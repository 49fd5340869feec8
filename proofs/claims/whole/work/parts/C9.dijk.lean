/-! the class's search by cost, pure -/
section DJ
variable {N : Nat → Nat → Option Nat} {w : Nat → Nat → Nat} {G : Nat → Prop} {Wm s b : Nat} {cst : Nat → Nat} {set : Nat → Bool} {P : Nat → Nat → Prop}
/-- b bounds the costs; P are the acts that were looked at -/
def DJ (N : Nat → Nat → Option Nat) (w : Nat → Nat → Nat) (G : Nat → Prop) (Wm s b : Nat) (cst : Nat → Nat) (set : Nat → Bool) (P : Nat → Nat → Prop) : Prop := (∀ k, k < 100 → cst k = FC ∨ (cst k ≤ Wm * b ∧ ∀ m c, wlk N w G m k c → ∃ m', wlk N w G m' s (cst k + c))) ∧ (∀ u x, u < 100 → x < 100 → set u = true → set x = false → cst u ≤ cst x) ∧ (∀ u a x, P u a → u < 100 → a < 3 → N u a = some x → cst x ≤ cst u + w u a) ∧ (s < 100 ∧ cst s = 0) ∧ ∀ u, u < 100 → set u = true → ¬ G u ∧ cst u < FC
/-- a place is settled -/
theorem DJ.settle (D : DJ N w G Wm s b cst set P) {u : Nat} (ng : ¬ G u) (hu : cst u < FC) (mn : ∀ x, x < 100 → set x = false → cst u ≤ cst x) (pu : u < 100) (su : set u = false) : DJ N w G Wm s (b + 1) cst (fun x => if x = u then true else set x) P ∧ (∀ x, x < 100 → (if x = u then true else set x) = true → cst x ≤ cst u) ∧ ∀ x, x < 100 → (if x = u then true else set x) = false → cst u ≤ cst x := by
  obtain ⟨d1, d2, d3, d4, d5⟩ := D
  have old : ∀ x, x < 100 → (if x = u then true else set x) = true → cst x ≤ cst u := fun x hx q => by
    by_cases e : x = u
    · rw [e]; exact Nat.le_refl _
    · rw [if_neg e] at q; exact d2 x u hx pu q su
  have new : ∀ x, x < 100 → (if x = u then true else set x) = false → cst u ≤ cst x := fun x hx q => by
    by_cases e : x = u
    · rw [if_pos e] at q; cases q
    · rw [if_neg e] at q; exact mn x hx q
  refine ⟨⟨fun k hk => (d1 k hk).imp id (fun q => ⟨?_, q.2⟩), fun a x ha hx qa qx => Nat.le_trans (old a ha qa) (new x hx qx), d3, d4, fun x hx q => ?_⟩, old, new⟩
  · have := Nat.mul_le_mul_left Wm (Nat.le_succ b)
    exact Nat.le_trans q.1 this
  · by_cases e : x = u
    · rw [e]; exact ⟨ng, hu⟩
    · dsimp only at q
      rw [if_neg e] at q; exact d5 x hx q
/-- an act that leads nowhere new -/
theorem DJ.skip (D : DJ N w G Wm s b cst set P) {u a : Nat} (q : ∀ x, N u a = some x → cst x ≤ cst u + w u a) : DJ N w G Wm s b cst set (fun u' a' => P u' a' ∨ (u' = u ∧ a' = a)) := by
  obtain ⟨d1, d2, d3, d4, d5⟩ := D
  refine ⟨d1, d2, fun u' a' x p hu ha e => ?_, d4, d5⟩
  rcases p with p | ⟨rfl, rfl⟩
  · exact d3 u' a' x p hu ha e
  · exact q x e
end DJ
