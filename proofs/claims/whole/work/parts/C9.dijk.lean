/-! the class's search by cost, pure -/
section DJ
variable {N : Nat → Nat → Option Nat} {w : Nat → Nat → Nat} {G : Nat → Prop} {Wm s b : Nat} {cst : Nat → Nat} {set : Nat → Bool} {P : Nat → Nat → Prop}
/-- b bounds the costs; P are the acts that were looked at -/
def DJ (N : Nat → Nat → Option Nat) (w : Nat → Nat → Nat) (G : Nat → Prop) (Wm s b : Nat) (cst : Nat → Nat) (set : Nat → Bool) (P : Nat → Nat → Prop) : Prop := (∀ k, k < 100 → cst k = FC ∨ (cst k ≤ Wm * b ∧ ∀ m c, wlk N w G m k c → ∃ m', wlk N w G m' s (cst k + c))) ∧ (∀ u x, u < 100 → x < 100 → set u = true → set x = false → cst u ≤ cst x) ∧ (∀ u a x, P u a → u < 100 → a < 3 → N u a = some x → cst x ≤ cst u + w u a) ∧ (s < 100 ∧ cst s = 0) ∧ ∀ u, u < 100 → set u = true → ¬ G u ∧ cst u < FC
/-- a place is settled -/
theorem DJ.settle (D : DJ N w G Wm s b cst set P) {u : Nat} (ng : ¬ G u) (hu : cst u < FC) (mn : ∀ x, x < 100 → set x = false → cst u ≤ cst x) (pu : u < 100) (su : set u = false) : DJ N w G Wm s (b + 1) cst (fun x => if x = u then true else set x) P ∧ (∀ x, x < 100 → (if x = u then true else set x) = true → cst x ≤ cst u) ∧ ∀ x, x < 100 → (if x = u then true else set x) = false → cst u ≤ cst x := by
  obtain ⟨d1, d2, d3, d4, d5⟩ := D
  have old : ∀ x, x < 100 → (if x = u then true else set x) = true → cst x ≤ cst u := fun x hx q => by
    by_cases e : x = u
    · rw [e]; exact Nat.le_refl _
    · rw [if_neg e] at q; exact d2 x u hx pu q su
  have new : ∀ x, x < 100 → (if x = u then true else set x) = false → cst u ≤ cst x := fun x hx q => by
    by_cases e : x = u
    · rw [if_pos e] at q; cases q
    · rw [if_neg e] at q; exact mn x hx q
  refine ⟨⟨fun k hk => (d1 k hk).imp id (fun q => ⟨?_, q.2⟩), fun a x ha hx qa qx => Nat.le_trans (old a ha qa) (new x hx qx), d3, d4, fun x hx q => ?_⟩, old, new⟩
  · have := Nat.mul_le_mul_left Wm (Nat.le_succ b)
    exact Nat.le_trans q.1 this
  · by_cases e : x = u
    · rw [e]; exact ⟨ng, hu⟩
    · dsimp only at q
      rw [if_neg e] at q; exact d5 x hx q
/-- an act that leads nowhere new -/
theorem DJ.skip (D : DJ N w G Wm s b cst set P) {u a : Nat} (q : ∀ x, N u a = some x → cst x ≤ cst u + w u a) : DJ N w G Wm s b cst set (fun u' a' => P u' a' ∨ (u' = u ∧ a' = a)) := by
  obtain ⟨d1, d2, d3, d4, d5⟩ := D
  refine ⟨d1, d2, fun u' a' x p hu ha e => ?_, d4, d5⟩
  rcases p with p | ⟨rfl, rfl⟩
  · exact d3 u' a' x p hu ha e
  · exact q x e
/-- an act that may make a place cheaper -/
theorem DJ.lower (D : DJ N w G Wm s b cst set P) {u a x : Nat} (pu : u < 100) (su : set u = true) (ha : a < 3) (e : N u a = some x) (hx : x < 100) (sx : set x = false) (hb : cst u + w u a ≤ Wm * b) (hP : ∀ u a, P u a → set u = true) (old : ∀ y, y < 100 → set y = true → cst y ≤ cst u) (new : ∀ y, y < 100 → set y = false → cst u ≤ cst y) : DJ N w G Wm s b (updN cst x (if cst u + w u a < cst x then cst u + w u a else cst x)) set (fun u' a' => P u' a' ∨ (u' = u ∧ a' = a)) ∧ (∀ y, set y = true → updN cst x (if cst u + w u a < cst x then cst u + w u a else cst x) y = cst y) ∧ ∀ y, y < 100 → set y = false → cst u ≤ updN cst x (if cst u + w u a < cst x then cst u + w u a else cst x) y := by
  obtain ⟨d1, d2, d3, d4, d5⟩ := D
  generalize hnv : (if cst u + w u a < cst x then cst u + w u a else cst x) = nv
  have nv1 : nv ≤ cst u + w u a := by rw [← hnv]; split <;> omega
  have nv2 : nv ≤ cst x := by rw [← hnv]; split <;> omega
  have nv3 : cst u ≤ nv := by
    have := new x hx sx
    rw [← hnv]; split <;> omega
  have nv4 : nv = cst u + w u a ∨ nv = cst x := by rw [← hnv]; split <;> simp
  have at' : ∀ y, updN cst x nv y = if y = x then nv else cst y := fun _ => rfl
  have keep : ∀ y, set y = true → updN cst x nv y = cst y := fun y q => by
    rw [at', if_neg (fun z => by rw [z, sx] at q; cases q)]
  have le : ∀ y, updN cst x nv y ≤ cst y := fun y => by
    rw [at']
    by_cases z : y = x
    · rw [if_pos z, z]; exact nv2
    · rw [if_neg z]; exact Nat.le_refl _
  have nw : ∀ y, y < 100 → set y = false → cst u ≤ updN cst x nv y := fun y hy q => by
    rw [at']
    by_cases z : y = x
    · rw [if_pos z]; exact nv3
    · rw [if_neg z]; exact new y hy q
  have uF := (d5 u pu su).2
  refine ⟨⟨fun k hk => ?_, fun u' y hu' hy q1 q2 => ?_, fun u' a' y p hu' ha' e' => ?_, ⟨d4.1, ?_⟩, fun y hy q => ?_⟩, keep, nw⟩
  · rw [at']
    by_cases z : k = x
    · rw [if_pos z]
      rcases nv4 with q | q
      · rw [q]
        refine Or.inr ⟨hb, fun m c wk => ?_⟩
        obtain ⟨-, real⟩ := (d1 u pu).resolve_left (by omega)
        obtain ⟨m', w'⟩ := real (m + 1) (w u a + c) ⟨a, x, c, ha, e, z ▸ wk, rfl⟩
        exact ⟨m', by rw [Nat.add_assoc]; exact w'⟩
      · rw [q, ← z]; exact d1 k hk
    · rw [if_neg z]; exact d1 k hk
  · rw [keep u' q1]
    exact Nat.le_trans (old u' hu' q1) (nw y hy q2)
  · rcases p with p | ⟨rfl, rfl⟩
    · rw [keep u' (hP u' a' p)]
      exact Nat.le_trans (le y) (d3 u' a' y p hu' ha' e')
    · rw [e] at e'
      cases e'
      rw [keep u' su, at', if_pos rfl]; exact nv1
  · have := le s
    rw [d4.2] at this
    omega
  · rw [keep y q]; exact d5 y hy q
theorem DJ.best (D : DJ N w G Wm s b cst set P) (O : GOK N w Wm) (hb : b ≤ 100) (full : ∀ u a, u < 100 → set u = true → a < 3 → P u a) {u : Nat} (pu : u < 100) (g : G u) (hu : cst u < FC) (mn : ∀ x, x < 100 → set x = false → cst u ≤ cst x) : lst N w G Wm s (cst u) := by
  obtain ⟨d1, d2, d3, d4, d5⟩ := D
  have key : ∀ n x c C, x < 100 → cst x ≤ C → wlk N w G n x c → cst u ≤ C + c := by
    intro n
    induction n with
    | zero =>
      intro x c C hx hC wk
      cases q : set x
      · have := mn x hx q; omega
      · exact absurd wk.1 (d5 x hx q).1
    | succ n ih =>
      rintro x c C hx hC ⟨a, k', c', ha, e, wk, rfl⟩
      cases q : set x
      · have := mn x hx q; omega
      · have := d3 x a k' (full x a hx q ha) hx ha e
        have := ih k' c' (C + w x a) (O.1 x a k' hx ha e) (by omega) wk
        omega
  obtain ⟨bd, real⟩ := (d1 u pu).resolve_left (by omega)
  have := Nat.mul_le_mul_left Wm hb
  refine Or.inr ⟨by omega, ?_, fun n c wk => ?_⟩
  · exact real 0 0 ⟨g, rfl⟩
  · have := key n s c 0 d4.1 (by omega) wk
    omega
theorem DJ.none (D : DJ N w G Wm s b cst set P) (O : GOK N w Wm) (hb : b ≤ 100) (full : ∀ u a, u < 100 → set u = true → a < 3 → P u a) (mn : ∀ x, x < 100 → set x = false → cst x = FC) : lst N w G Wm s FR := by
  obtain ⟨d1, d2, d3, d4, d5⟩ := D
  have hm := O.2.2
  have mb := Nat.mul_le_mul_left Wm hb
  have key : ∀ n x c, x < 100 → cst x ≠ FC → ¬ wlk N w G n x c := by
    intro n
    induction n with
    | zero =>
      intro x c hx hC wk
      cases q : set x
      · exact hC (mn x hx q)
      · exact absurd wk.1 (d5 x hx q).1
    | succ n ih =>
      rintro x c hx hC ⟨a, k', c', ha, e, wk, rfl⟩
      cases q : set x
      · exact hC (mn x hx q)
      · have t := d3 x a k' (full x a hx q ha) hx ha e
        have := ((d1 x hx).resolve_left hC).1
        have := O.2.1 x a hx ha
        exact ih k' c' (O.1 x a k' hx ha e) (by unfold FC at *; omega) wk
  exact Or.inl ⟨rfl, fun n c wk => key n s c d4.1 (by rw [d4.2]; decide) wk⟩
end DJ
