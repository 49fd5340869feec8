/-! PARTNERS in the class -/
section CQ
def dv (v : Nat) : Int32 := if v = 0 then -1 else Int32.ofNat (v - 1)
theorem dv_m1 {v : Nat} (hv : v ≤ 7) : dv v = -1 ↔ v = 0 := by
  unfold dv
  by_cases q : v = 0
  · rw [if_pos q]; exact ⟨fun _ => q, fun _ => rfl⟩
  · rw [if_neg q]; exact ⟨fun z => absurd z (of_nm1 (by omega)), fun z => absurd z q⟩
abbrev KS := Bool × Int32 × (Nat → Int32)
def keepK (K : KS) (s : Int32) (r : List Nat) : KS := if K.1 = true ∧ K.2.1 ≤ s then K else (true, s, fun i => dv (gt r i))
def sumT (d : Nat → Nat → Int32) (t : List (Nat × Nat)) : Int32 := t.foldl (fun s x => s + d x.1 x.2) 0
def keepAll (d : Nat → Nat → Int32) (K : KS) (o : Out) : KS := o.foldl (fun K x => keepK K (sumT d x.2) x.1) K
def CS (h g : z_H) (row : List Nat) (K : KS) : Prop := Sh g ∧ Tch [59, 60, 61] h g ∧ row.length = 6 ∧ (∀ i, i < 6 → gt row i ≤ 6 ∧ aI g 60 i = dv (gt row i)) ∧ fI g 59 3 = (if K.1 = true then 1 else 0) ∧ fI g 59 2 = K.2.1 ∧ ∀ i, i < 6 → aI g 61 i = K.2.2 i
variable {h g : z_H} {row : List Nat} {K : KS}
theorem CS_set (C : CS h g row K) {i v : Nat} (hi : i < 6) (hv : v ≤ 6) : z_sI g (some 60) (Int32.ofNat i) (dv v) = some (wA g 60 (upd (aI g 60) i (dv v))) ∧ CS h (wA g 60 (upd (aI g 60) i (dv v))) (row.set i v) K := by
  obtain ⟨hs, T, l, r, f3, f2, b⟩ := C
  refine ⟨aW hs (n := 6) rfl hi (by decide) _, Sh_wA hs rfl _, Tch_wA T (by decide) _, by rw [List.length_set]; exact l, fun k hk => ?_, by rw [fI_wA]; exact f3, by rw [fI_wA]; exact f2, fun k hk => by rw [aI_wA_ne (by decide)]; exact b k hk⟩
  rw [aI_wA_eq hs rfl, gt_set (by omega)]
  by_cases q : k = i
  · rw [if_pos q, q, upd_eq]; exact ⟨hv, rfl⟩
  · rw [if_neg q, upd_ne q]; exact r k hk
theorem c_keep (C : CS h g row K) (s : Int32) : ∃ g', D_X3_keepIfLess g (some 59) s = some g' ∧ CS h g' row (keepK K s row) := by
  obtain ⟨hs, T, l, r, f3, f2, b⟩ := C
  have s1 : Sh (wF g 59 3 (.int 1)) := Sh_wF hs rfl 1
  have s2 : Sh (wF (wF g 59 3 (.int 1)) 59 2 (.int s)) := Sh_wF s1 rfl s
  have e60 : aI (wF (wF g 59 3 (.int 1)) 59 2 (.int s)) 60 = aI g 60 := by rw [aI_wF, aI_wF]
  have cp : z_cI (wF (wF g 59 3 (.int 1)) 59 2 (.int s)) (some 60) 0 (some 61) 0 6 = some (wA (wF (wF g 59 3 (.int 1)) 59 2 (.int s)) 61 (va_cpy (aI g 60) (aI g 61) 0 0 6)) := by
    have := s_cI s2 (a := 61) (b := 60) (n := 6) (m := 6) rfl rfl (sp := 0) (dp := 0) (k := 6) (by decide) (by decide) (by decide) (by decide)
    rw [e60, aI_wF, aI_wF] at this
    exact this
  have kp : ∃ g', D_X3_keepIfLess_15 g (some 59) s = some g' ∧ CS h g' row (true, s, fun i => dv (gt row i)) := by
    refine ⟨wA (wF (wF g 59 3 (.int 1)) 59 2 (.int s)) 61 (va_cpy (aI g 60) (aI g 61) 0 0 6), ?_, Sh_wA s2 rfl _, Tch_wA (Tch_wF (Tch_wF T (by decide) _ _) (by decide) _ _) (by decide) _, l, fun i hi => ?_, ?_, ?_, fun i hi => ?_⟩
    · unfold D_X3_keepIfLess_15
      rw [s_pV hs (ci := 3) rfl (by decide), Option.bind_some, s_pV s1 (ci := 3) rfl (by decide), Option.bind_some, s_gQ (r := 60) s2 rfl rfl, Option.bind_some, s_gQ (r := 61) s2 rfl rfl, Option.bind_some, cp, Option.bind_some]
    · rw [aI_wA_ne (by decide), e60]; exact r i hi
    · rw [fI_wA, fI_wF_ne (by decide), fI_wF_eq hs rfl]; rfl
    · rw [fI_wA, fI_wF_eq s1 rfl]
    · rw [aI_wA_eq s2 rfl]
      unfold va_cpy
      rw [if_pos (by omega), show 0 + (i - 0) = i by omega]
      exact (r i hi).2
  unfold D_X3_keepIfLess
  rw [s_gI hs (ci := 3) rfl rfl, Option.bind_some, f3]
  unfold keepK
  cases hk : K.1
  · rw [if_neg (show ¬ (false = true ∧ K.2.1 ≤ s) from fun z => absurd z.1 (by decide)), if_pos (show (if false = true then (1 : Int32) else 0) = 0 from rfl)]
    exact kp
  · rw [if_pos rfl, if_neg one_ne, s_gI hs (ci := 3) rfl rfl, Option.bind_some, f2]
    by_cases q : K.2.1 ≤ s
    · rw [if_pos q, if_pos ⟨rfl, q⟩]
      exact ⟨g, rfl, hs, T, l, r, f3, f2, b⟩
    · rw [if_neg q, if_neg (fun z => q z.2)]
      exact kp
theorem keepAll_app (d : Nat → Nat → Int32) (K : KS) (a b : Out) : keepAll d K (a ++ b) = keepAll d (keepAll d K a) b := List.foldl_append
theorem sumT_app (d : Nat → Nat → Int32) (t : List (Nat × Nat)) (x : Nat × Nat) : sumT d (t ++ [x]) = sumT d t + d x.1 x.2 := by
  unfold sumT
  rw [List.foldl_append]
  rfl
theorem Tch59_Y {m : Nat → Int32} (T : Tch [59, 60, 61] h g) (Y : Yrel h 1 m) : Yrel g 1 m := by
  refine Y.kept (fun q hq => T.c ?_) (Nat.le_of_eq T.1.symm) (fun a ha _ => T.c ?_)
  · simp only [List.mem_cons, List.not_mem_nil, or_false]; omega
  · simp only [List.mem_cons, List.not_mem_nil, or_false]; omega
def b01 (b : Bool) : Int32 := if b = true then 1 else 0
theorem b01_0 (b : Bool) : b01 b = 0 ↔ b = false := by cases b <;> decide
theorem c_part {m : Nat → Int32} {n : Nat} (Y : Yrel h 1 m) (e8 : fI h 1 8 = Int32.ofNat n) (hn : n ≤ 6) : ∀ (f p : Nat) (al : Bool) (row : List Nat) (t : List (Nat × Nat)) (g : z_H) (K : KS), 6 < f + p → p ≤ 6 → CS h g row K → ∃ g', D_X3_partFrom f g (some 59) (some 1) (Int32.ofNat p) (b01 al) (sumT (differV m) t) = some g' ∧ CS h g' (cP n f p al row t).2 (keepAll (differV m) K (cP n f p al row t).1) := by
  intro f
  induction f with
  | zero => intro p al row t g K h1 h2; omega
  | succ f ih =>
    intro p al row t g K h1 h2 C
    have n8 : ∀ {g row K}, CS h g row K → z_gI 9 g (some 1) 8 = some (Int32.ofNat n) := fun {g row K} C => by
      rw [s_gI C.1 (ci := 9) rfl rfl, cell_fI (C.2.1.c (by decide)), e8]
    have q60 : ∀ {g row K}, CS h g row K → z_gQ 3 g (some 59) 0 = some (some 60) := fun {g row K} C => s_gQ C.1 rfl rfl
    have o3 : ∀ {g row K}, CS h g row K → z_ob 3 g (some 59) = some (flds g 59) := fun {g row K} C => s_ob C.1 rfl
    have rd : ∀ {g row K i}, CS h g row K → i < 6 → z_aI .int g (some 60) (Int32.ofNat i) = some (dv (gt row i)) := fun {g row K i} C hi => by
      rw [aR C.1 (n := 6) rfl hi (by decide), (C.2.2.2.1 i hi).2]
    have pp : Int32.ofNat p + 1 = Int32.ofNat (p + 1) := sc_add p 1
    show ∃ g', D_X3_partFromB (D_X3_partFrom f) g (some 59) (some 1) (Int32.ofNat p) (b01 al) (sumT (differV m) t) = some g' ∧ CS h g' (cP n (f + 1) p al row t).2 (keepAll (differV m) K (cP n (f + 1) p al row t).1)
    unfold D_X3_partFromB cP
    rw [n8 C, Option.bind_some]
    by_cases c1 : n ≤ p
    · rw [if_pos ((nat_le (by omega) (by omega)).mpr c1), if_pos c1]
      obtain ⟨g', e, C'⟩ := c_keep C (sumT (differV m) t)
      refine ⟨g', ?_, C'⟩
      unfold D_X3_partFromB_14
      rw [o3 C, Option.bind_some, e, Option.bind_some]
    · rw [if_neg (fun z => c1 ((nat_le (by omega) (by omega)).mp z)), if_neg c1, if_pos (show Int32.ofNat p < 6 from (nat_lt (a := p) (b := 6) (by omega) (by decide)).mpr (by omega)), q60 C, Option.bind_some, rd C (by omega), Option.bind_some]
      by_cases c2 : gt row p = 0
      · rw [if_pos ((dv_m1 (by have := (C.2.2.2.1 p (by omega)).1; omega)).mpr c2), if_pos c2]
        dsimp only
        -- the loop
        have lp : ∀ {s0 : Out × List Nat} {g : z_H}, CS h g s0.2 (keepAll (differV m) K s0.1) → ∃ g', D_X3_partFromB_65 (D_X3_partFrom f) g (some 59) (some 1) (Int32.ofNat p) (b01 al) (sumT (differV m) t) = some g' ∧ CS h g' ((foldN (cO p (cP n f (p + 1) al) t) (n - (p + 1)) s0).2.set p 0) (keepAll (differV m) K (foldN (cO p (cP n f (p + 1) al) t) (n - (p + 1)) s0).1) := fun {s0 g} C0 => by
          unfold D_X3_partFromB_65
          rw [Option.bind_some, pp]
          have := loop_up (I := fun o g => p + 1 ≤ o ∧ CS h g (foldN (cO p (cP n f (p + 1) al) t) (o - (p + 1)) s0).2 (keepAll (differV m) K (foldN (cO p (cP n f (p + 1) al) t) (o - (p + 1)) s0).1)) (F := fun k g o => D_X3_partFromB_70 (D_X3_partFrom f) k g (some 59) (some 1) (Int32.ofNat p) (b01 al) (sumT (differV m) t) (Int32.ofNat o)) (G := fun g => some (wA g 60 (upd (aI g 60) p (dv 0)))) (N := n) (fun k g I => ?_) (fun k g o ho I => ?_) (n - (p + 1)) (p + 1) z_F g rfl (by omega) (by show _ < 1000000; omega) ⟨Nat.le_refl _, by rw [Nat.sub_self]; exact C0⟩
          · obtain ⟨g', I, e⟩ := this
            exact ⟨_, e, (CS_set I.2 (by omega) (Nat.zero_le _)).2⟩
          · show D_X3_partFromB_70b (D_X3_partFrom f) _ g (some 59) (some 1) (Int32.ofNat p) (b01 al) (sumT (differV m) t) (Int32.ofNat n) = _
            unfold D_X3_partFromB_70b
            rw [n8 I.2, Option.bind_some, if_pos ((nat_le (by omega) (by omega)).mpr (Nat.le_refl _)), q60 I.2, Option.bind_some]
            have := (CS_set I.2 (i := p) (v := 0) (by omega) (by decide)).1
            rw [show dv 0 = -1 from rfl] at this
            rw [this, Option.bind_some]
            rfl
          · show ∃ g', _ ∧ D_X3_partFromB_70b (D_X3_partFrom f) (D_X3_partFromB_70 (D_X3_partFrom f) k) g (some 59) (some 1) (Int32.ofNat p) (b01 al) (sumT (differV m) t) (Int32.ofNat o) = _
            obtain ⟨po, CI⟩ := I
            have fe : foldN (cO p (cP n f (p + 1) al) t) (o + 1 - (p + 1)) s0 = cO p (cP n f (p + 1) al) t (o - (p + 1)) (foldN (cO p (cP n f (p + 1) al) t) (o - (p + 1)) s0) := by
              rw [show o + 1 - (p + 1) = (o - (p + 1)) + 1 by omega]; rfl
            rw [fe]
            generalize foldN (cO p (cP n f (p + 1) al) t) (o - (p + 1)) s0 = s at CI ⊢
            have oo : p + 1 + (o - (p + 1)) = o := by omega
            unfold D_X3_partFromB_70b cO
            rw [n8 CI, Option.bind_some, if_neg (show ¬ Int32.ofNat n ≤ Int32.ofNat o from fun z => by have := (nat_le (by omega) (by omega)).mp z; omega), q60 CI, Option.bind_some, rd CI (by omega), Option.bind_some, oo]
            by_cases c3 : gt s.2 o = 0
            · rw [if_pos ((dv_m1 (by have := (CI.2.2.2.1 o (by omega)).1; omega)).mpr c3), if_pos c3]
              dsimp only
              obtain ⟨w1, C1⟩ := CS_set CI (i := p) (v := o + 1) (by omega) (by omega)
              obtain ⟨w2, C2⟩ := CS_set C1 (i := o) (v := p + 1) (by omega) (by omega)
              rw [show dv (o + 1) = Int32.ofNat o from rfl] at w1
              rw [show dv (p + 1) = Int32.ofNat p from rfl] at w2
              obtain ⟨g2, e2, C3⟩ := ih (p + 1) al _ (t ++ [(p, o)]) _ _ (by omega) (by omega) C2
              rw [sumT_app] at e2
              obtain ⟨w4, C4⟩ := CS_set C3 (i := o) (v := 0) (by omega) (by omega)
              rw [show dv 0 = -1 from rfl] at w4
              refine ⟨wA g2 60 (upd (aI g2 60) o (dv 0)), ⟨by omega, ?_⟩, ?_⟩
              · rw [keepAll_app]; exact C4
              · rw [Option.bind_some, w1, Option.bind_some]
                rw [show dv (o + 1) = Int32.ofNat o from rfl] at C1 w2 C2 e2
                rw [show dv (p + 1) = Int32.ofNat p from rfl] at C2 e2
                rw [q60 C1, Option.bind_some, w2, Option.bind_some, c_differ C2.1 (Tch59_Y C2.2.1 Y) (by omega) (by omega), Option.bind_some]
                dsimp only
                rw [o3 C2, Option.bind_some, pp, e2, Option.bind_some, q60 C3, Option.bind_some, w4, Option.bind_some]
                unfold D_X3_partFromB_133
                rw [Option.bind_some, show Int32.ofNat o + 1 = Int32.ofNat (o + 1) from sc_add o 1]
                rfl
            · rw [if_neg (fun z => c3 ((dv_m1 (by have := (CI.2.2.2.1 o (by omega)).1; omega)).mp z)), if_neg c3]
              refine ⟨g, ⟨by omega, CI⟩, ?_⟩
              unfold D_X3_partFromB_133
              rw [Option.bind_some, show Int32.ofNat o + 1 = Int32.ofNat (o + 1) from sc_add o 1]
        cases al
        · rw [if_pos (show b01 false = 0 from rfl), if_neg (by decide)]
          exact lp (s0 := ([], row)) C
        · rw [if_neg (show ¬ b01 true = 0 by decide), if_pos rfl]
          obtain ⟨w1, C1⟩ := CS_set C (i := p) (v := p + 1) (by omega) (by omega)
          rw [show dv (p + 1) = Int32.ofNat p from rfl] at w1 C1
          obtain ⟨g2, e2, C2⟩ := ih (p + 1) false _ t _ _ (by omega) (by omega) C1
          rw [Option.bind_some, w1, Option.bind_some, o3 C1, Option.bind_some, pp]
          rw [show b01 false = 0 from rfl] at e2
          rw [e2, Option.bind_some]
          exact lp C2
      · rw [if_neg (fun z => c2 ((dv_m1 (by have := (C.2.2.2.1 p (by omega)).1; omega)).mp z)), if_neg c2, o3 C, Option.bind_some, pp]
        obtain ⟨g', e, C'⟩ := ih (p + 1) al row t g K (by omega) (by omega) C
        refine ⟨g', ?_, C'⟩
        rw [e, Option.bind_some]
end CQ
