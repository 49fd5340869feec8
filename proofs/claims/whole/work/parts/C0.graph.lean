/-! least costs on a graph of 100 places: the reference's rounds of relaxing -/
section GR
theorem sum_le {F G : Nat → Nat} : ∀ n, (∀ i, i < n → F i ≤ G i) → sumN F n ≤ sumN G n := by
  intro n
  induction n with
  | zero => exact fun _ => Nat.le_refl _
  | succ n ih =>
    intro q
    have := ih (fun i hi => q i (by omega))
    have := q n (by omega)
    show sumN F n + F n ≤ sumN G n + G n
    omega
theorem sum_lt' {F G : Nat → Nat} : ∀ n, (∀ i, i < n → F i ≤ G i) → ∀ i, i < n → F i < G i → sumN F n < sumN G n := by
  intro n
  induction n with
  | zero => intro _ i hi; omega
  | succ n ih =>
    intro q i hi lt
    have a := sum_le n (fun i hi => q i (by omega))
    have b := q n (by omega)
    show sumN F n + F n < sumN G n + G n
    by_cases e : i = n
    · subst e; omega
    · have := ih (fun i hi => q i (by omega)) i (by omega) lt
      omega
theorem sum_cap {F : Nat → Nat} {c : Nat} : ∀ n, (∀ i, i < n → F i ≤ c) → sumN F n ≤ n * c := by
  intro n
  induction n with
  | zero => exact fun _ => Nat.zero_le _
  | succ n ih =>
    intro q
    have := ih (fun i hi => q i (by omega))
    have := q n (by omega)
    show sumN F n + F n ≤ _
    rw [Nat.succ_mul]
    omega
abbrev FR : Nat := 100000000
/-- a row of n acts from a place into the goal, and what it costs -/
def wlk (N : Nat → Nat → Option Nat) (w : Nat → Nat → Nat) (G : Nat → Prop) : Nat → Nat → Nat → Prop
  | 0 => fun k c => G k ∧ c = 0
  | n + 1 => fun k c => ∃ a k' c', a < 3 ∧ N k a = some k' ∧ wlk N w G n k' c' ∧ c = w k a + c'
variable {N : Nat → Nat → Option Nat} {w : Nat → Nat → Nat} {G : Nat → Prop} {Wm : Nat}
def updN (v : Nat → Nat) (k x : Nat) : Nat → Nat := fun i => if i = k then x else v i
def rs (N : Nat → Nat → Option Nat) (w : Nat → Nat → Nat) (k a : Nat) (s : (Nat → Nat) × Bool) : (Nat → Nat) × Bool := match N k a with
  | none => s
  | some k' => if s.1 k' + w k a < s.1 k then (updN s.1 k (s.1 k' + w k a), true) else s
def rRound (N : Nat → Nat → Option Nat) (w : Nat → Nat → Nat) (s : (Nat → Nat) × Bool) : (Nat → Nat) × Bool := foldN (fun k s => foldN (fun a s => rs N w k a s) 3 s) 100 s
def finN (v : Nat → Nat) : Nat := sumN (fun k => if v k = FR then 0 else 1) 100
def muN (Wm : Nat) (v : Nat → Nat) : Nat := sumN (fun k => min (v k) (100 * Wm + 1)) 100
def RV (N : Nat → Nat → Option Nat) (w : Nat → Nat → Nat) (G : Nat → Prop) (Wm : Nat) (v : Nat → Nat) : Prop := (∀ k, k < 100 → v k = FR ∨ (v k ≤ Wm * finN v ∧ ∃ n, wlk N w G n k (v k))) ∧ ∀ k, k < 100 → G k → v k = 0
def tight (N : Nat → Nat → Option Nat) (w : Nat → Nat → Nat) (v : Nat → Nat) (k a : Nat) : Prop := ∀ k', N k a = some k' → v k ≤ v k' + w k a
/-- the graph keeps to 100 places, and no act costs more than Wm -/
def GOK (N : Nat → Nat → Option Nat) (w : Nat → Nat → Nat) (Wm : Nat) : Prop := (∀ k a k', k < 100 → a < 3 → N k a = some k' → k' < 100) ∧ (∀ k a, k < 100 → a < 3 → w k a ≤ Wm) ∧ Wm ≤ 99
theorem fin_cap (v : Nat → Nat) : finN v ≤ 100 := by
  have := sum_cap (F := fun k => if v k = FR then 0 else 1) (c := 1) 100 (fun i _ => by split <;> omega)
  unfold finN
  omega
theorem RV.cap {v : Nat → Nat} (R : RV N w G Wm v) {k : Nat} (hk : k < 100) : v k = FR ∨ v k ≤ 100 * Wm := by
  rcases R.1 k hk with q | ⟨q, -⟩
  · exact Or.inl q
  · have := Nat.mul_le_mul_left Wm (fin_cap v)
    exact Or.inr (by omega)
theorem rs_ok (O : GOK N w Wm) {v : Nat → Nat} (R : RV N w G Wm v) {k a : Nat} (hk : k < 100) (ha : a < 3) (f : Bool) : RV N w G Wm (rs N w k a (v, f)).1 ∧ ((rs N w k a (v, f) = (v, f) ∧ tight N w v k a) ∨ ((rs N w k a (v, f)).2 = true ∧ muN Wm (rs N w k a (v, f)).1 < muN Wm v)) := by
  unfold rs
  cases e : N k a with
  | none => exact ⟨R, Or.inl ⟨rfl, fun k' z => by rw [e] at z; cases z⟩⟩
  | some k' =>
    have hk' := O.1 k a k' hk ha e
    have hw := O.2.1 k a hk ha
    have hm := O.2.2
    dsimp only
    by_cases c : v k' + w k a < v k
    · rw [if_pos c]
      have c1 := R.cap hk
      have c2 := R.cap hk'
      have kn : v k ≤ FR := by unfold FR at *; omega
      have nF : v k' ≠ FR := by unfold FR at *; omega
      obtain ⟨b', n', wn'⟩ := (R.1 k' hk').resolve_left nF
      have ne : ∀ i, updN v k (v k' + w k a) i = if i = k then v k' + w k a else v i := fun _ => rfl
      have lt : v k' + w k a < FR := by unfold FR at *; omega
      have mono : ∀ i, i < 100 → (if v i = FR then 0 else 1) ≤ (if updN v k (v k' + w k a) i = FR then 0 else 1 : Nat) := fun i hi => by
        rw [ne]
        by_cases q : i = k
        · rw [if_pos q, if_neg (show ¬ v k' + w k a = FR by omega)]; split <;> omega
        · rw [if_neg q]; exact Nat.le_refl _
      have fm : finN v ≤ finN (updN v k (v k' + w k a)) := sum_le 100 mono
      have mm := Nat.mul_le_mul_left Wm fm
      have nb' : v k' + w k a ≤ Wm * finN (updN v k (v k' + w k a)) := by
        rcases R.1 k hk with q | ⟨q, -⟩
        · have fs : finN v < finN (updN v k (v k' + w k a)) := sum_lt' 100 mono k hk (by
            rw [ne, if_pos q, if_pos rfl, if_neg (show ¬ v k' + w k a = FR by omega)]; decide)
          have := Nat.mul_le_mul_left Wm (show finN v + 1 ≤ _ from fs)
          rw [Nat.mul_add, Nat.mul_one] at this
          omega
        · omega
      refine ⟨⟨fun i hi => ?_, fun i hi gi => ?_⟩, Or.inr ⟨rfl, ?_⟩⟩
      · dsimp only
        rw [ne]
        by_cases q : i = k
        · rw [if_pos q]
          refine Or.inr ⟨nb', n' + 1, ?_⟩
          rw [q]
          exact ⟨a, k', v k', ha, e, wn', Nat.add_comm _ _⟩
        · rw [if_neg q]
          rcases R.1 i hi with z | ⟨z1, z2⟩
          · exact Or.inl z
          · exact Or.inr ⟨by omega, z2⟩
      · dsimp only
        rw [ne]
        by_cases q : i = k
        · have := R.2 k hk (q ▸ gi)
          omega
        · rw [if_neg q]; exact R.2 i hi gi
      · have cap2 := Nat.mul_le_mul_left Wm (fin_cap (updN v k (v k' + w k a)))
        refine sum_lt' 100 (fun i hi => ?_) k hk ?_
        · dsimp only
          rw [ne]
          by_cases q : i = k
          · rw [if_pos q, q]; omega
          · rw [if_neg q]; exact Nat.le_refl _
        · dsimp only
          rw [ne, if_pos rfl]
          omega
    · rw [if_neg c]
      exact ⟨R, Or.inl ⟨rfl, fun k'' z => by rw [e] at z; cases z; omega⟩⟩
/-- a round: it makes something less, or all is tight -/
theorem rRound_ok (O : GOK N w Wm) {v : Nat → Nat} (R : RV N w G Wm v) : RV N w G Wm (rRound N w (v, false)).1 ∧ (((rRound N w (v, false)).2 = true ∧ muN Wm (rRound N w (v, false)).1 < muN Wm v) ∨ (rRound N w (v, false) = (v, false) ∧ ∀ k a, k < 100 → a < 3 → tight N w v k a)) := by
  have main := fold_inv (f := fun k s => foldN (fun a s => rs N w k a s) 3 s) (s := (v, false)) (fun K s => RV N w G Wm s.1 ∧ ((s.2 = true ∧ muN Wm s.1 < muN Wm v) ∨ (s = (v, false) ∧ ∀ k a, k < K → a < 3 → tight N w v k a))) ⟨R, Or.inr ⟨rfl, fun k a z => by omega⟩⟩ 100 (fun k s hk I => by
    have inner := fold_inv (f := fun a s => rs N w k a s) (s := s) (fun A s => RV N w G Wm s.1 ∧ ((s.2 = true ∧ muN Wm s.1 < muN Wm v) ∨ (s = (v, false) ∧ (∀ k' a, k' < k → a < 3 → tight N w v k' a) ∧ ∀ a, a < A → tight N w v k a))) ⟨I.1, I.2.imp id (fun q => ⟨q.1, q.2, fun a z => by omega⟩)⟩ 3 (fun a s ha J => by
      obtain ⟨v', f⟩ := s
      obtain ⟨r1, r2⟩ := rs_ok O J.1 hk ha f
      refine ⟨r1, ?_⟩
      rcases r2 with ⟨e, t⟩ | ⟨e, l⟩
      · rw [e]
        rcases J.2 with q | ⟨q1, q2, q3⟩
        · exact Or.inl q
        · refine Or.inr ⟨q1, q2, fun b hb => ?_⟩
          by_cases z : b = a
          · subst z; cases q1; exact t
          · exact q3 b (by omega)
      · refine Or.inl ⟨e, ?_⟩
        rcases J.2 with ⟨-, q⟩ | ⟨q1, -⟩
        · dsimp only at q l; omega
        · cases q1; exact l)
    refine ⟨inner.1, inner.2.imp id (fun q => ⟨q.1, fun k' a hk' ha => ?_⟩)⟩
    by_cases z : k' = k
    · subst z; exact q.2.2 a ha
    · exact q.2.1 k' a (by omega) ha)
  exact main
/-- rounds till none changes anything -/
theorem rounds {β S : Type} (O : GOK N w Wm) {I : S → (Nat → Nat) → Prop} {F : Nat → S → Bool → Option β} {D : S → Option β} (stop : ∀ m g, F (m + 1) g false = D g) (go : ∀ m g v, I g v → RV N w G Wm v → ∃ g', I g' (rRound N w (v, false)).1 ∧ F (m + 1) g true = F m g' (rRound N w (v, false)).2) : ∀ (M : Nat) (v : Nat → Nat) (g : S) (m : Nat), I g v → RV N w G Wm v → muN Wm v ≤ M → M + 1 < m → ∃ g' v', I g' v' ∧ RV N w G Wm v' ∧ (∀ k a, k < 100 → a < 3 → tight N w v' k a) ∧ F m g true = D g' := by
  intro M
  induction M with
  | zero =>
    intro v g m i r mu hm
    obtain ⟨m, rfl⟩ : ∃ m', m = m' + 1 := ⟨m - 1, by omega⟩
    obtain ⟨g', i', e⟩ := go m g v i r
    obtain ⟨r', q⟩ := rRound_ok O r
    rcases q with ⟨-, q⟩ | ⟨q, t⟩
    · omega
    · obtain ⟨m, rfl⟩ : ∃ m', m = m' + 1 := ⟨m - 1, by omega⟩
      rw [q] at i' e
      exact ⟨g', v, i', r, t, e.trans (stop m g')⟩
  | succ M ih =>
    intro v g m i r mu hm
    obtain ⟨m, rfl⟩ : ∃ m', m = m' + 1 := ⟨m - 1, by omega⟩
    obtain ⟨g', i', e⟩ := go m g v i r
    obtain ⟨r', q⟩ := rRound_ok O r
    rcases q with ⟨q1, q⟩ | ⟨q, t⟩
    · rw [q1] at e
      obtain ⟨g2, v2, a, b, c, d⟩ := ih _ g' m i' r' (by omega) (by omega)
      exact ⟨g2, v2, a, b, c, e.trans d⟩
    · obtain ⟨m, rfl⟩ : ∃ m', m = m' + 1 := ⟨m - 1, by omega⟩
      rw [q] at i' e
      exact ⟨g', v, i', r, t, e.trans (stop m g')⟩
theorem mu_cap (Wm : Nat) (v : Nat → Nat) : muN Wm v ≤ 100 * (100 * Wm + 1) := sum_cap 100 (fun i _ => Nat.min_le_right _ _)
/-- what is found: the least cost, or that there is no row -/
def lst (N : Nat → Nat → Option Nat) (w : Nat → Nat → Nat) (G : Nat → Prop) (Wm k x : Nat) : Prop := (x = FR ∧ ∀ n c, ¬ wlk N w G n k c) ∨ (x ≤ 100 * Wm ∧ (∃ n, wlk N w G n k x) ∧ ∀ n c, wlk N w G n k c → x ≤ c)
theorem found (O : GOK N w Wm) {v : Nat → Nat} (R : RV N w G Wm v) (t : ∀ k a, k < 100 → a < 3 → tight N w v k a) {k : Nat} (hk : k < 100) : lst N w G Wm k (v k) := by
  have hm := O.2.2
  have fin : ∀ n k c, k < 100 → wlk N w G n k c → v k ≠ FR ∧ v k ≤ c := by
    intro n
    induction n with
    | zero =>
      intro k c hk q
      have := R.2 k hk q.1
      exact ⟨by unfold FR; omega, by omega⟩
    | succ n ih =>
      rintro k c hk ⟨a, k', c', ha, e, q, rfl⟩
      have hk' := O.1 k a k' hk ha e
      have hw := O.2.1 k a hk ha
      obtain ⟨i1, i2⟩ := ih k' c' hk' q
      have := t k a hk ha k' e
      have := (R.cap hk').resolve_left i1
      exact ⟨by unfold FR; omega, by omega⟩
  by_cases q : v k = FR
  · exact Or.inl ⟨q, fun n c z => (fin n k c hk z).1 q⟩
  · exact Or.inr ⟨(R.cap hk).resolve_left q, ((R.1 k hk).resolve_left q).2, fun n c z => (fin n k c hk z).2⟩
/-- there is one answer -/
theorem lst_one {k x y : Nat} (a : lst N w G Wm k x) (b : lst N w G Wm k y) : x = y := by
  rcases a with ⟨rfl, a⟩ | ⟨a1, ⟨n, a2⟩, a3⟩
  · rcases b with ⟨rfl, -⟩ | ⟨-, ⟨n, b2⟩, -⟩
    · rfl
    · exact absurd b2 (a n y)
  · rcases b with ⟨rfl, b⟩ | ⟨b1, ⟨n', b2⟩, b3⟩
    · exact absurd a2 (b n x)
    · have := a3 n' y b2
      have := b3 n x a2
      omega
end GR
