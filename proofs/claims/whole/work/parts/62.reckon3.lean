section RK3
variable {g : z_H} {t t1 t2 t3 N n NC cc hi : Nat} {op ar cl w : Nat → Int32}
def bot (s : List Int64) : Int32 := match s.getLast? with
  | none => 1
  | some v => v.toInt32
theorem SR_bot {x : Int64} {r : List Int64} (H : SR g (x :: r)) : (aJ g 31 0).toInt32 = bot (x :: r) := by
  have := H.2 0 (by simp)
  rw [← List.head?_eq_getElem?, List.head?_reverse] at this
  unfold bot
  rw [this]
theorem rk_out (hs : Sh g) {s : List Int64} (sr : SR g s) {i : Nat} (h4 : hi ≤ 400) (h5 : i ≤ 400) (hi1 : hi ≤ i) (m : Nat) : ∃ g', Sh g' ∧ Tch [29, 31] g g' ∧ fI g' 29 2 = bot s ∧ aI g' 30 = aI g 30 ∧ D_X1_reckon_6 (m + 1) g (some 29) (some t) (Int32.ofNat hi) (Int32.ofNat s.length - 1) (Int32.ofNat i) = some (1, g') := by
  refine ⟨wF g 29 2 (.int (bot s)), Sh_wF hs rfl _, Tch_wF (Tch_rfl _ g) (by decide) _ _, fI_wF_eq hs rfl _, aI_wF _ _ _ _, ?_⟩
  show D_X1_reckon_6b (D_X1_reckon_6 m) g (some 29) (some t) (Int32.ofNat hi) (Int32.ofNat s.length - 1) (Int32.ofNat i) = _
  unfold D_X1_reckon_6b
  rw [if_pos ((nat_le (by omega) (by omega)).mpr hi1)]
  unfold D_X1_reckon_294 D_X1_reckon_311
  cases s with
  | nil =>
    rw [if_neg (by decide), (wrF_c hs |> fun _ => (by simp only [wrF_c hs] : z_pV 1 g (some 29) 2 (.int 1) = some (wF g 29 2 (.int 1)))), Option.bind_some]
    rfl
  | cons x r =>
    have lr := sr.1
    rw [l4_cons, if_pos (by rw [ge0, Int32.toInt_ofNat_of_lt (by simp at lr; omega)]; omega)]
    simp only [rdQ_c hs, Option.bind_some, rdA_c hs, iRs, Nat.reduceLT, Nat.reduceLeDiff, wrF_c hs, SR_bot sr]
theorem stC_up {i i' : Nat} {s s' : List Int64} (e : stC op ar w i s = some (i', s')) (hi : i < 400) (wf3 : op i = 3 ∨ op i = 4 → nb (ar i) 400) : i < i' ∧ i' ≤ 400 := by
  unfold stC at e
  split at e
  · split at e
    · cases e
    · cases e; omega
  · split at e
    · split at e
      · cases e
      · cases e; omega
    · cases s with
      | nil => cases e
      | cons x r =>
        dsimp only at e
        split at e
        · cases e; omega
        · split at e
          · rename_i c34
            obtain ⟨k, ek, hk⟩ := wf3 c34
            have tk : tn (ar i) = k := by rw [ek]; exact tn_of (by omega)
            by_cases c : x = (if op i = 4 then 1 else 0)
            · rw [if_pos c] at e; cases e; rw [tk]; omega
            · rw [if_neg c] at e; cases e; omega
          · cases r with
            | nil => cases e
            | cons y r2 =>
              dsimp only at e
              split at e
              · cases e
              · split at e
                · cases e; omega
                · cases e
theorem rk_run (hn : hi ≤ n) (wf : ∀ i, i < hi → (op i = 1 → nb (ar i) 22) ∧ (op i = 3 ∨ op i = 4 → nb (ar i) 400)) : ∀ (k i : Nat) (s : List Int64) (g : z_H) (m : Nat), hi - i ≤ k → k < m → i ≤ 400 → Sh g → TxC g t t1 t2 t3 N n NC cc op ar cl → SR g s → (∀ k, k < 23 → aI g 30 k = w k) →
    (runC op ar w hi (k + 1) i s = none → ∃ g', Sh g' ∧ Tch [29, 31] g g' ∧ D_X1_reckon_6 m g (some 29) (some t) (Int32.ofNat hi) (Int32.ofNat s.length - 1) (Int32.ofNat i) = some (0, g')) ∧
    ∀ s', runC op ar w hi (k + 1) i s = some s' → ∃ g', Sh g' ∧ Tch [29, 31] g g' ∧ fI g' 29 2 = bot s' ∧ D_X1_reckon_6 m g (some 29) (some t) (Int32.ofNat hi) (Int32.ofNat s.length - 1) (Int32.ofNat i) = some (1, g') := by
  intro k
  induction k with
  | zero =>
    intro i s g m hk hm h4 hs tx sr hw
    obtain ⟨m, rfl⟩ : ∃ m', m = m' + 1 := ⟨m - 1, by omega⟩
    have hN := tx.2.2.2.2.2.1
    unfold runC
    rw [if_pos (by omega)]
    refine ⟨fun q => (by cases q), fun s' q => ?_⟩
    cases q
    obtain ⟨g', a1, a2, a3, a4, a5⟩ := rk_out (t := t) hs sr (hi := hi) (i := i) (by omega) h4 (by omega) m
    exact ⟨g', a1, a2, a3, a5⟩
  | succ k ih =>
    intro i s g m hk hm h4 hs tx sr hw
    obtain ⟨m, rfl⟩ : ∃ m', m = m' + 1 := ⟨m - 1, by omega⟩
    have hN := tx.2.2.2.2.2.1
    unfold runC
    by_cases c : hi ≤ i
    · rw [if_pos c]
      refine ⟨fun q => (by cases q), fun s' q => ?_⟩
      cases q
      obtain ⟨g', a1, a2, a3, a4, a5⟩ := rk_out (t := t) hs sr (hi := hi) (i := i) (by omega) h4 c m
      exact ⟨g', a1, a2, a3, a5⟩
    · rw [if_neg c]
      obtain ⟨w1, w2⟩ := wf i (by omega)
      obtain ⟨st1, st2⟩ := rk_step (hi := hi) hs tx hn (by omega) sr hw w1 w2 m
      cases e : stC op ar w i s with
      | none =>
        refine ⟨fun _ => ?_, fun s' q => (by cases q)⟩
        obtain ⟨g', a1, a2, a3⟩ := st1 e
        exact ⟨g', a1, a2.mono (by decide), a3⟩
      | some p =>
        obtain ⟨i', s'⟩ := p
        obtain ⟨g', a1, a2, a3, a4⟩ := st2 i' s' e
        have h1 : i < i' ∧ i' ≤ 400 := stC_up e (by omega) (fun q => w2 q)
        rw [Option.bind_some]
        have := ih i' s' g' m (by omega) (by omega) h1.2 a1 (TxC_T tx a2 (by decide)) a3 (fun k hk => by rw [cell_aI (a2.c (by decide)), hw k hk])
        rw [a4]
        refine ⟨fun q => ?_, fun s'' q => ?_⟩
        · obtain ⟨g2, b1, b2, b3⟩ := this.1 q
          exact ⟨g2, b1, (a2.mono (by decide)).trans b2, b3⟩
        · obtain ⟨g2, b1, b2, b3, b4⟩ := this.2 s'' q
          exact ⟨g2, b1, (a2.mono (by decide)).trans b2, b3, b4⟩
/-- what the stretch of code from lo to hi comes to: none (BROKEN), or what is left on the stack -/
def evC (op ar w : Nat → Int32) (lo hi : Nat) : Option (List Int64) := runC op ar w hi 401 lo []
theorem rk_class (hs : Sh g) (tx : TxC g t t1 t2 t3 N n NC cc op ar cl) (hn : hi ≤ n) {lo : Nat} (hlo : lo ≤ 400) (wf : ∀ i, i < hi → (op i = 1 → nb (ar i) 22) ∧ (op i = 3 ∨ op i = 4 → nb (ar i) 400)) (hw : ∀ k, k < 23 → aI g 30 k = w k) :
    (evC op ar w lo hi = none → ∃ g', Sh g' ∧ Tch [29, 31] g g' ∧ D_X1_reckon g (some 29) (some t) (Int32.ofNat lo) (Int32.ofNat hi) = some (0, g')) ∧
    ∀ s', evC op ar w lo hi = some s' → ∃ g', Sh g' ∧ Tch [29, 31] g g' ∧ fI g' 29 2 = bot s' ∧ D_X1_reckon g (some 29) (some t) (Int32.ofNat lo) (Int32.ofNat hi) = some (1, g') := by
  have hN := tx.2.2.2.2.2.1
  exact rk_run (t := t) hn wf 400 lo [] g z_F (by omega) (by decide) hlo hs tx ⟨by decide, fun i hi => absurd hi (by simp)⟩ hw
end RK3
