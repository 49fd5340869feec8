section LK2
variable {ord : Bool} {op ar K Ka w : Nat → Int32} {n lo hi : Nat} {f dp : Nat → Nat}
theorem lk_run (C : codeRel ord op ar K Ka n f) (D : deepOK op ar lo hi dp) (hn : hi ≤ n) : ∀ (k i : Nat) (s : List Int64) (g : z_H) (m : Nat), hi - i ≤ k → lo ≤ i → i ≤ hi → s.length = dp i → Sh g → RdM g ord K Ka → fI g 81 38 = 0 → SM g s → (∀ i, lo ≤ i → i < hi → op i = 1 → (w (tn (ar i))).toInt64 = LfM g ord (K (f i)) (Ka (f i))) → f hi - f i < m →
    (runC op ar w hi (k + 1) i s = none → ∃ g', OnM [81, 101] [38, 39] g g' ∧ fI g' 81 38 = 1 ∧ D_X11_reckonAll_10 m g (some 81) (Int32.ofNat (f hi)) (Int32.ofNat s.length) (Int32.ofNat (f i)) = some g') ∧
    ∀ s', runC op ar w hi (k + 1) i s = some s' → s'.length = dp hi ∧ ∃ g', OnM [81, 101] [38, 39] g g' ∧ fI g' 81 38 = 0 ∧ fJ g' 81 39 = s'.getLast?.getD 0 ∧ D_X11_reckonAll_10 m g (some 81) (Int32.ofNat (f hi)) (Int32.ofNat s.length) (Int32.ofNat (f i)) = some g' := by
  have h4 : f hi ≤ 400 := by have := f_le C hn (Nat.le_refl n); have := C.2.1; omega
  have fin : ∀ (i : Nat) (s : List Int64) (g : z_H) (m : Nat), i = hi → s.length = dp i → Sh g → fI g 81 38 = 0 → SM g s → f hi - f i < m → s.length = dp hi ∧ ∃ g', OnM [81, 101] [38, 39] g g' ∧ fI g' 81 38 = 0 ∧ fJ g' 81 39 = s.getLast?.getD 0 ∧ D_X11_reckonAll_10 m g (some 81) (Int32.ofNat (f hi)) (Int32.ofNat s.length) (Int32.ofNat (f i)) = some g' := fun i s g m ei hd hs br sm hm => by
    subst ei
    obtain ⟨m, rfl⟩ : ∃ m', m = m' + 1 := ⟨m - 1, by omega⟩
    obtain ⟨g', a1, a2, a3, a4⟩ := rm_out (last := f i) hs sm (k := f i) (Or.inl ⟨Nat.le_refl _, h4, h4⟩) m
    exact ⟨hd, g', a1, by rw [a2, br], a3, a4⟩
  intro k
  induction k with
  | zero =>
    intro i s g m hk h1 h2 hd hs rd br sm lf hm
    unfold runC
    rw [if_pos (by omega)]
    refine ⟨fun q => (by cases q), fun s' q => ?_⟩
    cases q
    exact fin i s g m (by omega) hd hs br sm hm
  | succ k ih =>
    intro i s g m hk h1 h2 hd hs rd br sm lf hm
    unfold runC
    by_cases c : hi ≤ i
    · rw [if_pos c]
      refine ⟨fun q => (by cases q), fun s' q => ?_⟩
      cases q
      exact fin i s g m (by omega) hd hs br sm hm
    · rw [if_neg c]
      obtain ⟨st1, st2⟩ := lk_step C D hn h1 (by omega) hd hs rd br sm (lf i h1 (by omega)) hm
      cases e : stC op ar w i s with
      | none => exact ⟨fun _ => st1 e, fun s' q => (by cases q)⟩
      | some p =>
        obtain ⟨i', s'⟩ := p
        obtain ⟨b1, b2, b3, g', m', a1, a2, a3, a4, a5⟩ := st2 i' s' e
        rw [Option.bind_some, a5]
        have := ih i' s' g' m' (by omega) (by omega) b2 b3 a1.1 (rd.on a1) a2 a3 (fun i x1 x2 x3 => by rw [LfM_on a1]; exact lf i x1 x2 x3) a4
        refine ⟨fun q => ?_, fun s'' q => ?_⟩
        · obtain ⟨g2, c1, c2, c3⟩ := this.1 q
          exact ⟨g2, a1.trans c1, c2, c3⟩
        · obtain ⟨c0, g2, c1, c2, c3, c4⟩ := this.2 s'' q
          exact ⟨c0, g2, a1.trans c1, c2, c3, c4⟩
/-- the reference comes to what the class comes to -/
theorem rk_ref (C : codeRel ord op ar K Ka n f) (S : segOK op ar lo hi) (hn : hi ≤ n) {g : z_H} (hs : Sh g) (rd : RdM g ord K Ka) (lf : ∀ i, lo ≤ i → i < hi → op i = 1 → (w (tn (ar i))).toInt64 = LfM g ord (K (f i)) (Ka (f i))) :
    (evC op ar w lo hi = none → ∃ g', OnM [81, 101] [38, 39] g g' ∧ fI g' 81 38 = 1 ∧ D_X11_reckonAll g (some 81) (Int32.ofNat (f lo)) (Int32.ofNat (f hi)) = some g') ∧
    ∀ s', evC op ar w lo hi = some s' → ∃ v, s' = [v] ∧ ∃ g', OnM [81, 101] [38, 39] g g' ∧ fI g' 81 38 = 0 ∧ fJ g' 81 39 = v ∧ D_X11_reckonAll g (some 81) (Int32.ofNat (f lo)) (Int32.ofNat (f hi)) = some g' := by
  obtain ⟨hlh, dp, D⟩ := S
  have h4 : f hi ≤ 400 := by have := f_le C hn (Nat.le_refl n); have := C.2.1; omega
  have n4 := C.1
  have hs1 : Sh (wF g 81 38 (.int 0)) := Sh_wF hs rfl _
  have on1 : OnM [81, 101] [38, 39] g (wF g 81 38 (.int 0)) := ⟨hs1, Tch_wF (Tch_rfl _ g) (by decide) _ _, fun k hk => ⟨fI_wF_ne (fun q => hk (by rw [q.2]; decide)), fJ_wF_ne (fun q => hk (by rw [q.2]; decide))⟩⟩
  have e : D_X11_reckonAll g (some 81) (Int32.ofNat (f lo)) (Int32.ofNat (f hi)) = D_X11_reckonAll_10 z_F (wF g 81 38 (.int 0)) (some 81) (Int32.ofNat (f hi)) 0 (Int32.ofNat (f lo)) := by
    unfold D_X11_reckonAll
    rw [s_pV hs (ci := 11) rfl (by decide), Option.bind_some]
  have := lk_run C D hn (w := w) 400 lo [] (wF g 81 38 (.int 0)) z_F (by omega) (Nat.le_refl _) hlh (by rw [D.1]; rfl) hs1 (rd.on on1) (fI_wF_eq hs rfl _) ⟨by decide, fun i hi => absurd hi (by simp)⟩ (fun i x1 x2 x3 => by rw [LfM_on on1]; exact lf i x1 x2 x3) (by have : z_F = 1000000 := rfl; omega)
  rw [e]
  refine ⟨fun q => ?_, fun s' q => ?_⟩
  · obtain ⟨g', c1, c2, c3⟩ := this.1 q
    exact ⟨g', on1.trans c1, c2, c3⟩
  · obtain ⟨c0, g', c1, c2, c3, c4⟩ := this.2 s' q
    rw [D.2.1] at c0
    match s', c0, c3 with
    | [v], _, c3 => exact ⟨v, rfl, g', on1.trans c1, c2, c3, c4⟩
/-- a TEST comes to 0 or to 1 -/
theorem ev_test (S : segT op ar lo hi) {s : List Int64} (e : evC op ar w lo hi = some s) (wf : ∀ i, i < hi → (op i = 3 ∨ op i = 4 → nb (ar i) 400)) (h4 : hi ≤ 400) : ∃ x r, s = x :: r ∧ (x = 0 ∨ x = 1) := by
  obtain ⟨⟨hlh, dp, D⟩, bt, b0, b1, bs⟩ := S
  have key : ∀ (k i : Nat) (s s' : List Int64), hi - i ≤ k → lo ≤ i → i ≤ hi → (bt i = true ∨ (i = hi ∧ False) → ∃ x r, s = x :: r ∧ (x = 0 ∨ x = 1)) → (∀ x r, s = x :: r → (x = 0 ∨ x = 1) ∨ ¬ (bt i = true)) → runC op ar w hi (k + 1) i s = some s' → (i = hi → ∃ x r, s = x :: r ∧ (x = 0 ∨ x = 1)) → ∃ x r, s' = x :: r ∧ (x = 0 ∨ x = 1) := by
    intro k
    induction k with
    | zero =>
      intro i s s' hk h1 h2 hb hb2 er hh
      unfold runC at er
      rw [if_pos (by omega)] at er
      cases er
      exact hh (by omega)
    | succ k ih =>
      intro i s s' hk h1 h2 hb hb2 er hh
      unfold runC at er
      by_cases c : hi ≤ i
      · rw [if_pos c] at er
        cases er
        exact hh (by omega)
      · rw [if_neg c] at er
        cases es : stC op ar w i s with
        | none => rw [es] at er; cases er
        | some p =>
          obtain ⟨i', s1⟩ := p
          rw [es, Option.bind_some] at er
          have up := stC_up es (by omega) (wf i (by omega))
          -- where the step comes to: by a jump with 0 or 1 on top, or to the next place
          have st : (i' = i + 1 ∧ (bt (i + 1) = true → ∃ x r, s1 = x :: r ∧ (x = 0 ∨ x = 1))) ∨ (i' ≤ hi ∧ ∃ x r, s1 = x :: r ∧ (x = 0 ∨ x = 1)) := by
            obtain ⟨-, dd⟩ := D.2.2 i h1 (by omega)
            have nb2 := bs i h1 (by omega)
            rcases dd with ⟨q, -⟩ | ⟨q, -⟩ | ⟨q, -, -, d3, -⟩ | ⟨⟨o', h5', h12', q⟩, -⟩
            · -- a leaf
              have nt : ¬ bt (i + 1) = true := fun z => by
                rcases nb2 z with ⟨o, o1, o2, o3⟩ | ⟨o3, -⟩
                · rcases q with q | q <;> rw [q] at o3
                  · exact absurd o3 (op_not (c := 0) (by omega) o2 (by decide))
                  · exact absurd o3 (op_not (c := 1) (by omega) o2 (by decide))
                · rcases q with q | q <;> rw [q] at o3 <;> exact absurd o3 (by decide)
              refine Or.inl ⟨?_, fun z => absurd z nt⟩
              unfold stC at es
              rcases q with q | q
              · rw [if_pos q] at es
                by_cases c51 : 51 ≤ s.length
                · rw [if_pos c51] at es; cases es
                · rw [if_neg c51] at es; cases es; rfl
              · rw [if_neg (by rw [q]; decide), if_pos q] at es
                by_cases c51 : 51 ≤ s.length
                · rw [if_pos c51] at es; cases es
                · rw [if_neg c51] at es; cases es; rfl
            · cases s with
              | nil => unfold stC at es; rw [if_neg (by rw [q]; decide), if_neg (by rw [q]; decide)] at es; cases es
              | cons x r =>
                rw [stC_2 q] at es
                cases es
                refine Or.inl ⟨rfl, fun z => ?_⟩
                rcases nb2 z with ⟨o, o1, o2, o3⟩ | ⟨-, o3⟩
                · rw [q] at o3; exact absurd o3 (op_not (c := 2) (by omega) o2 (by decide))
                · obtain ⟨x', r', e1, e2⟩ := hb (Or.inl o3)
                  cases e1
                  refine ⟨1 - x, r, rfl, ?_⟩
                  rcases e2 with rfl | rfl
                  · exact Or.inr rfl
                  · exact Or.inl rfl
            · cases s with
              | nil => unfold stC at es; rw [if_neg (fun z => by rw [z] at q; exact absurd q (by decide)), if_neg (fun z => by rw [z] at q; exact absurd q (by decide))] at es; cases es
              | cons x r =>
                rw [stC_34 q] at es
                by_cases cx : x = (if op i = 4 then 1 else 0)
                · rw [if_pos cx] at es
                  cases es
                  refine Or.inr ⟨by omega, x, r, rfl, ?_⟩
                  rw [cx]
                  by_cases c4 : op i = 4
                  · rw [if_pos c4]; exact Or.inr rfl
                  · rw [if_neg c4]; exact Or.inl rfl
                · rw [if_neg cx] at es
                  cases es
                  refine Or.inl ⟨rfl, fun z => ?_⟩
                  rcases nb2 z with ⟨o, o1, o2, o3⟩ | ⟨o3, -⟩
                  · rcases q with q | q <;> rw [q] at o3
                    · exact absurd o3 (op_not (c := 3) (by omega) o2 (by decide))
                    · exact absurd o3 (op_not (c := 4) (by omega) o2 (by decide))
                  · rcases q with q | q <;> rw [q] at o3 <;> exact absurd o3 (by decide)
            · cases s with
              | nil =>
                unfold stC at es
                rw [if_neg (by rw [q]; exact fun z => op_not (c := 0) h5' h12' (by decide) z.symm), if_neg (by rw [q]; exact fun z => op_not (c := 1) h5' h12' (by decide) z.symm)] at es; cases es
              | cons x s =>
                cases s with
                | nil =>
                  unfold stC at es
                  rw [if_neg (by rw [q]; exact fun z => op_not (c := 0) h5' h12' (by decide) z.symm), if_neg (by rw [q]; exact fun z => op_not (c := 1) h5' h12' (by decide) z.symm)] at es
                  dsimp only at es
                  rw [if_neg (by rw [q]; exact fun z => op_not (c := 2) h5' h12' (by decide) z.symm), if_neg (by rw [q]; exact fun z => z.elim (fun z => op_not (c := 3) h5' h12' (by decide) z.symm) (fun z => op_not (c := 4) h5' h12' (by decide) z.symm))] at es
                  cases es
                | cons y r =>
                  rw [stC_o h5' h12' q] at es
                  by_cases cz : (x = 0 ∧ (o' = 8 ∨ o' = 9)) ∨ ¬ (-1000000000 ≤ (jn (Int32.ofNat o') y x).toInt ∧ (jn (Int32.ofNat o') y x).toInt ≤ 1000000000)
                  · rw [if_pos cz] at es; cases es
                  · rw [if_neg cz] at es
                    cases es
                    refine Or.inl ⟨rfl, fun z => ⟨_, _, rfl, ?_⟩⟩
                    rcases nb2 z with ⟨o, o1, o2, o3⟩ | ⟨o3, -⟩
                    · rw [q] at o3
                      have : o' = o := Classical.byContradiction fun z => of_ne (by omega) (by omega) z o3
                      subst this
                      have : o' = 10 ∨ o' = 11 ∨ o' = 12 := by omega
                      rcases this with rfl | rfl | rfl
                      · have ej : jn (Int32.ofNat 10) y x = if y.toInt < x.toInt then 1 else 0 := by unfold jn; rw [if_neg (by decide), if_neg (by decide), if_neg (by decide), if_neg (by decide), if_neg (by decide), if_pos (by decide)]
                        rw [ej]; by_cases cc : y.toInt < x.toInt
                        · rw [if_pos cc]; exact Or.inr rfl
                        · rw [if_neg cc]; exact Or.inl rfl
                      · have ej : jn (Int32.ofNat 11) y x = if x.toInt < y.toInt then 1 else 0 := by unfold jn; rw [if_neg (by decide), if_neg (by decide), if_neg (by decide), if_neg (by decide), if_neg (by decide), if_neg (by decide), if_pos (by decide)]
                        rw [ej]; by_cases cc : x.toInt < y.toInt
                        · rw [if_pos cc]; exact Or.inr rfl
                        · rw [if_neg cc]; exact Or.inl rfl
                      · have ej : jn (Int32.ofNat 12) y x = if y = x then 1 else 0 := by unfold jn; rw [if_neg (by decide), if_neg (by decide), if_neg (by decide), if_neg (by decide), if_neg (by decide), if_neg (by decide), if_neg (by decide)]
                        rw [ej]; by_cases cc : y = x
                        · rw [if_pos cc]; exact Or.inr rfl
                        · rw [if_neg cc]; exact Or.inl rfl
                    · rw [q] at o3; exact absurd o3.symm (op_not (c := 2) h5' h12' (by decide))
          rcases st with ⟨rfl, st⟩ | ⟨st1, st2⟩
          · exact ih (i + 1) s1 s' (by omega) (by omega) (by omega) (fun z => z.elim st (fun z => z.2.elim)) (fun x r ex => Classical.byCases (fun z : bt (i + 1) = true => by
              obtain ⟨x', r', e1, e2⟩ := st z
              rw [ex] at e1; cases e1; exact Or.inl e2) (fun z => Or.inr z)) er (fun z => st (by rw [z]; exact b1))
          · exact ih i' s1 s' (by omega) (by omega) st1 (fun _ => st2) (fun x r ex => by
              obtain ⟨x', r', e1, e2⟩ := st2
              rw [ex] at e1; cases e1; exact Or.inl e2) er (fun _ => st2)
  have h5 : lo ≠ hi := fun z => by rw [z] at b0; rw [b0] at b1; cases b1
  refine key 400 lo [] s (by omega) (Nat.le_refl _) hlh (fun z => z.elim (fun z => by rw [b0] at z; cases z) (fun z => z.2.elim)) (fun x r ex => by cases ex) e (fun z => absurd z h5)
end LK2
