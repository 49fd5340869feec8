/-! least, in the class: the three acts of a settled place, pure -/
section CA
variable {N : Nat → Nat → Option Nat} {w : Nat → Nat → Nat} {G : Nat → Prop} {Wm s b : Nat} {cst : Nat → Nat} {set : Nat → Bool}
/-- while the acts of u are looked at -/
def MD (N : Nat → Nat → Option Nat) (w : Nat → Nat → Nat) (G : Nat → Prop) (Wm s b : Nat) (set0 set : Nat → Bool) (u A : Nat) (cst : Nat → Nat) : Prop := ∃ P : Nat → Nat → Prop, DJ N w G Wm s b cst set P ∧ (∀ u a, P u a → set u = true) ∧ (∀ u' a, u' < 100 → set0 u' = true → a < 3 → P u' a) ∧ (∀ a, a < A → P u a) ∧ (∀ y, y < 100 → set y = true → cst y ≤ cst u) ∧ ∀ y, y < 100 → set y = false → cst u ≤ cst y
theorem MD.act {set0 : Nat → Bool} {u A : Nat} (O : GOK N w Wm) (M : MD N w G Wm s b set0 set u A cst) (pu : u < 100) (su : set u = true) (hA : A < 3) (hb : cst u + Wm ≤ Wm * b) : MD N w G Wm s b set0 set u (A + 1) (chp N w cst set u A) ∧ chp N w cst set u A u = cst u := by
  obtain ⟨P, D, p1, p2, p3, old, new⟩ := M
  have hw := O.2.1 u A pu hA
  have p3' : ∀ a, a < A + 1 → P u a ∨ (u = u ∧ a = A) := fun a h => by
    by_cases z : a = A
    · exact Or.inr ⟨rfl, z⟩
    · exact Or.inl (p3 a (by omega))
  have p1' : ∀ u' a, (P u' a ∨ (u' = u ∧ a = A)) → set u' = true := fun u' a q => by
    rcases q with q | ⟨rfl, -⟩
    · exact p1 u' a q
    · exact su
  unfold chp
  cases e : N u A with
  | none => exact ⟨⟨_, D.skip (u := u) (a := A) (fun x ex => by rw [e] at ex; cases ex), p1', fun u' a h1 h2 h3 => Or.inl (p2 u' a h1 h2 h3), p3', old, new⟩, rfl⟩
  | some x =>
    have hx := O.1 u A x pu hA e
    dsimp only
    cases q : set x
    · rw [if_neg (by decide)]
      obtain ⟨D', keep, nw⟩ := D.lower pu su hA e hx q (by omega) p1 old new
      refine ⟨⟨_, D', p1', fun u' a h1 h2 h3 => Or.inl (p2 u' a h1 h2 h3), p3', fun y hy sy => ?_, fun y hy sy => ?_⟩, keep u su⟩
      · rw [keep y sy, keep u su]; exact old y hy sy
      · rw [keep u su]; exact nw y hy sy
    · rw [if_pos rfl]
      exact ⟨⟨_, D.skip (u := u) (a := A) (fun y ey => by rw [e] at ey; cases ey; have := old x hx q; omega), p1', fun u' a h1 h2 h3 => Or.inl (p2 u' a h1 h2 h3), p3', old, new⟩, rfl⟩
end CA
