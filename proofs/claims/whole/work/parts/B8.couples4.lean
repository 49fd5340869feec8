/-! PARTNERS in the reference: the run -/
section CV
abbrev KR := Int32 × (Nat → Int32)
def keepR (K : KR) (s : Int32) (r : List Nat) : KR := if K.1 ≤ s then K else (s, fun i => dv (gt r i))
def keepRs (d : Nat → Nat → Int32) (K : KR) (o : Out) : KR := o.foldl (fun K x => keepR K (sumT d x.2) x.1) K
theorem keepRs_app (d : Nat → Nat → Int32) (K : KR) (a : Out) (x : List Nat × List (Nat × Nat)) : keepRs d K (a ++ [x]) = keepR (keepRs d K a) (sumT d x.2) x.1 := by
  unfold keepRs
  rw [List.foldl_append]
  rfl
def RS (h g : z_H) (n p : Nat) (row : List Nat) (K : KR) : Prop := Sh g ∧ Tch [108, 109] h g ∧ row.length = 7 ∧ (∀ i, i < p → gt row i ≤ 6 ∧ aI g 108 i = dv (gt row i)) ∧ ∀ i, i < n → aI g 109 i = K.2 i
variable {h g : z_H} {row : List Nat} {n p : Nat} {K : KR}
theorem RS.q47 (R : RS h g n p row K) : z_gQ 11 g (some 81) 47 = some (some 108) := s_gQ R.1 rfl rfl
theorem RS.q48 (R : RS h g n p row K) : z_gQ 11 g (some 81) 48 = some (some 109) := s_gQ R.1 rfl rfl
theorem RS.rd (R : RS h g n p row K) {i : Nat} (hi : i < p) (h7 : i < 7) : z_aI .int g (some 108) (Int32.ofNat i) = some (dv (gt row i)) := by
  rw [aR R.1 (n := 7) rfl h7 (by decide), (R.2.2.2.1 i hi).2]
/-- a place is set; what stands behind it is forgotten -/
theorem RS.set (R : RS h g n p row K) {l v : Nat} (hl : l < 7) (hp : l ≤ p) (hv : v ≤ 7) : z_sI g (some 108) (Int32.ofNat l) (dv v) = some (wA g 108 (upd (aI g 108) l (dv v))) ∧ RS h (wA g 108 (upd (aI g 108) l (dv v))) n l (row.set l v) K ∧ (v ≤ 6 → RS h (wA g 108 (upd (aI g 108) l (dv v))) n (l + 1) (row.set l v) K) ∧ aI (wA g 108 (upd (aI g 108) l (dv v))) 108 l = dv v ∧ gt (row.set l v) l = v := by
  obtain ⟨hs, T, len, r, b⟩ := R
  have old : ∀ i, i < l → gt (row.set l v) i ≤ 6 ∧ aI (wA g 108 (upd (aI g 108) l (dv v))) 108 i = dv (gt (row.set l v) i) := fun i hi => by
    rw [aI_wA_eq hs rfl, gt_set (by omega), if_neg (by omega), upd_ne (by omega)]
    exact r i (by omega)
  have gl : gt (row.set l v) l = v := by rw [gt_set (by omega), if_pos rfl]
  have al : aI (wA g 108 (upd (aI g 108) l (dv v))) 108 l = dv v := by rw [aI_wA_eq hs rfl, upd_eq]
  have bb : ∀ i, i < n → aI (wA g 108 (upd (aI g 108) l (dv v))) 109 i = K.2 i := fun i hi => by rw [aI_wA_ne (by decide)]; exact b i hi
  have T' : Tch [108, 109] h (wA g 108 (upd (aI g 108) l (dv v))) := Tch_wA T (by decide) _
  have s' : Sh (wA g 108 (upd (aI g 108) l (dv v))) := Sh_wA hs rfl _
  have len' : (row.set l v).length = 7 := by rw [List.length_set]; exact len
  refine ⟨aW hs (n := 7) rfl hl (by decide) _, ⟨s', T', len', old, bb⟩, fun h6 => ⟨s', T', len', fun i hi => ?_, bb⟩, al, gl⟩
  by_cases q : i = l
  · rw [q, gl, al]; exact ⟨h6, rfl⟩
  · exact old i (by omega)
theorem dv_up (v : Nat) : dv v + 1 = dv (v + 1) := by
  unfold dv
  rw [if_neg (show ¬ v + 1 = 0 by omega)]
  by_cases q : v = 0
  · rw [if_pos q, q]; rfl
  · rw [if_neg q, show (1 : Int32) = Int32.ofNat 1 from rfl, sc_add, show v - 1 + 1 = v + 1 - 1 by omega]
theorem m_sum (R : RS h g n n row K) (hn : n ≤ 6) (h1 : 1 ≤ n) (k26 : z_H → Option Nat → Int32 → Int32 → Int32 → Option (Int32 × z_H)) (l2 : Int32) (up : ∀ i, i < n → gt row i ≤ 6) : D_X11_findCouples_85 k26 z_F g (some 81) (Int32.ofNat n) l2 (Int32.ofNat n) 0 0 = D_X11_findCouples_136 k26 g (some 81) (Int32.ofNat n) l2 (Int32.ofNat n) (sumT (differV (aI g 83)) (rT n row)) := by
  refine loop_fold (F := fun k t i => D_X11_findCouples_85 k26 k g (some 81) (Int32.ofNat n) l2 (Int32.ofNat n) (sumT (differV (aI g 83)) t) (Int32.ofNat i)) (G := fun t => D_X11_findCouples_136 k26 g (some 81) (Int32.ofNat n) l2 (Int32.ofNat n) (sumT (differV (aI g 83)) t)) (N := n) (fun i l => if gt row i ≤ i + 1 then l else l ++ [(i, gt row i - 1)]) (fun k t => ?_) (fun k t i hi => ?_) [] (by omega)
  · show D_X11_findCouples_85b k26 _ g (some 81) (Int32.ofNat n) l2 (Int32.ofNat n) (sumT (differV (aI g 83)) t) (Int32.ofNat n) = _
    unfold D_X11_findCouples_85b
    rw [if_pos ((nat_le (by omega) (by omega)).mpr (Nat.le_refl _))]
  · show D_X11_findCouples_85b k26 (D_X11_findCouples_85 k26 k) g (some 81) (Int32.ofNat n) l2 (Int32.ofNat n) (sumT (differV (aI g 83)) t) (Int32.ofNat i) = _
    have ii : Int32.ofNat i + 1 = Int32.ofNat (i + 1) := sc_add i 1
    have gi := up i hi
    unfold D_X11_findCouples_85b D_X11_findCouples_127
    rw [if_neg (show ¬ Int32.ofNat n ≤ Int32.ofNat i from fun z => by have := (nat_le (by omega) (by omega)).mp z; omega), if_pos (show Int32.ofNat n = Int32.ofNat n from rfl), R.q47, Option.bind_some, R.rd hi (by omega), Option.bind_some]
    by_cases q : gt row i ≤ i + 1
    · rw [if_pos ((dv_le (by omega) (by omega)).mpr q), if_pos q, Option.bind_some, Option.bind_some, ii, Int32.add_zero]
    · rw [if_neg (fun z => q ((dv_le (by omega) (by omega)).mp z)), if_neg q, Option.bind_some, R.rd hi (by omega), Option.bind_some, s_ob R.1 (ci := 11) rfl, Option.bind_some, show dv (gt row i) = Int32.ofNat (gt row i - 1) by unfold dv; rw [if_neg (by omega)], m_differ R.1 (by omega) (by omega), Option.bind_some]
      dsimp only
      rw [Option.bind_some, Option.bind_some, ii, sumT_app]
theorem m_keep (R : RS h g n n row K) (hn : n ≤ 6) (h1 : 1 ≤ n) (k26 : z_H → Option Nat → Int32 → Int32 → Int32 → Option (Int32 × z_H)) (s : Int32) : ∃ g', D_X11_findCouples_136 k26 g (some 81) (Int32.ofNat n) K.1 (Int32.ofNat n) s = k26 g' (some 81) (Int32.ofNat n) (keepR K s row).1 (Int32.ofNat n) ∧ RS h g' n n row (keepR K s row) ∧ aI g' 108 = aI g 108 := by
  obtain ⟨z, hz⟩ : ∃ z, z_F = z + 1 := ⟨999999, rfl⟩
  unfold D_X11_findCouples_136 keepR
  rw [if_pos (show Int32.ofNat n = Int32.ofNat n from rfl)]
  by_cases q : K.1 ≤ s
  · rw [if_pos q, if_pos q]
    refine ⟨g, ?_, R, rfl⟩
    unfold D_X11_findCouples_151 D_X11_findCouples_152
    rw [hz]
    show D_X11_findCouples_157b k26 _ g (some 81) (Int32.ofNat n) K.1 (Int32.ofNat n) s 0 0 = _
    unfold D_X11_findCouples_157b D_X11_findCouples_188 D_X11_findCouples_199
    rw [if_neg (show ¬ Int32.ofNat n ≤ 0 from fun z => by have := (nat_le (b := 0) (by omega) (by decide)).mp z; omega), if_pos rfl, if_pos rfl]
  · rw [if_neg q, if_neg q]
    unfold D_X11_findCouples_152
    have := loop_up (I := fun i g' => RS h g' n n row (K.1, aI g' 109) ∧ aI g' 108 = aI g 108 ∧ ∀ k, k < i → aI g' 109 k = dv (gt row k)) (F := fun k g' i => D_X11_findCouples_157 k26 k g' (some 81) (Int32.ofNat n) K.1 (Int32.ofNat n) s 1 (Int32.ofNat i)) (G := fun g' => k26 g' (some 81) (Int32.ofNat n) s (Int32.ofNat n)) (N := n) (fun k g' I => ?_) (fun k g' i hi I => ?_) n 0 z_F g (by omega) (by omega) (by show _ < 1000000; omega) ⟨⟨R.1, R.2.1, R.2.2.1, R.2.2.2.1, fun _ _ => rfl⟩, rfl, fun k hk => by omega⟩
    · obtain ⟨g', ⟨R', e8, I⟩, e⟩ := this
      exact ⟨g', e, ⟨R'.1, R'.2.1, R'.2.2.1, R'.2.2.2.1, I⟩, e8⟩
    · show D_X11_findCouples_157b k26 _ g' (some 81) (Int32.ofNat n) K.1 (Int32.ofNat n) s 1 (Int32.ofNat n) = _
      unfold D_X11_findCouples_157b D_X11_findCouples_188 D_X11_findCouples_199
      rw [if_pos ((nat_le (by omega) (by omega)).mpr (Nat.le_refl _)), if_neg one_ne]
    · show ∃ g'', _ ∧ D_X11_findCouples_157b k26 (D_X11_findCouples_157 k26 k) g' (some 81) (Int32.ofNat n) K.1 (Int32.ofNat n) s 1 (Int32.ofNat i) = _
      obtain ⟨R', e8, I⟩ := I
      have hs := R'.1
      refine ⟨wA g' 109 (upd (aI g' 109) i (dv (gt row i))), ⟨⟨Sh_wA hs rfl _, Tch_wA R'.2.1 (by decide) _, R'.2.2.1, fun k hk => ?_, fun _ _ => rfl⟩, ?_, fun k hk => ?_⟩, ?_⟩
      · rw [aI_wA_ne (by decide)]; exact R'.2.2.2.1 k hk
      · rw [aI_wA_ne (by decide)]; exact e8
      · rw [aI_wA_eq hs rfl]
        by_cases w : k = i
        · rw [w, upd_eq]
        · rw [upd_ne w]; exact I k (by omega)
      · unfold D_X11_findCouples_157b
        rw [if_neg (show ¬ Int32.ofNat n ≤ Int32.ofNat i from fun z => by have := (nat_le (by omega) (by omega)).mp z; omega), if_neg one_ne, R'.q48, Option.bind_some, R'.q47, Option.bind_some, R'.rd hi (by omega), Option.bind_some, aW hs (n := 6) rfl (by omega) (by decide), Option.bind_some, Option.bind_some, show Int32.ofNat i + 1 = Int32.ofNat (i + 1) from sc_add i 1]
theorem m_run {d : Nat → Nat → Int32} (hd : d = differV (aI h 83)) (e0 : aI h 83 0 = Int32.ofNat n) (hn : n ≤ 6) (h1 : 1 ≤ n) (K0 : KR) : ∀ (N p : Nat) (row : List Nat) (outs : Out) (g : z_H) (m : Nat), p ≤ n + 1 → RS h g n p row (keepRs d K0 outs) → (rRun n N p row outs).1 = 0 → N < m → ∃ g' row', D_X11_findCouples_26 m g (some 81) (Int32.ofNat n) (keepRs d K0 outs).1 (dv p) = some ((keepRs d K0 (rRun n N p row outs).2.2).1, g') ∧ RS h g' n 0 row' (keepRs d K0 (rRun n N p row outs).2.2) := by
  intro N
  induction N with
  | zero =>
    intro p row outs g m hp R z hm
    obtain ⟨m, rfl⟩ : ∃ m', m = m' + 1 := ⟨m - 1, by omega⟩
    have z' : p = 0 := z
    subst z'
    exact ⟨g, row, rfl, R⟩
  | succ N ih =>
    intro p row outs g m hp R z hm
    obtain ⟨m, rfl⟩ : ∃ m', m = m' + 1 := ⟨m - 1, by omega⟩
    cases p with
    | zero => exact ⟨g, row, rfl, R⟩
    | succ l =>
      have hl : l ≤ n := by omega
      have ru : rRun n (N + 1) (l + 1) row outs = rStep n (rRun n N) l row outs := force_eq l (fun l => rStep n (rRun n N) l row outs)
      rw [ru] at z ⊢
      unfold rStep at z ⊢
      rw [forceL_eq] at z ⊢
      have gl := (R.2.2.2.1 l (by omega)).1
      obtain ⟨w1, R1, R1', al1, gl1⟩ := R.set (l := l) (v := gt row l + 1) (by omega) (by omega) (by omega)
      generalize hr1 : row.set l (gt row l + 1) = r1 at *
      generalize hg1 : wA g 108 (upd (aI g 108) l (dv (gt row l + 1))) = g1 at *
      have back : l = 0 ∨ dv (l + 1) + -1 = dv l := by
        rcases Nat.eq_zero_or_pos l with q | q
        · exact Or.inl q
        · refine Or.inr ?_
          unfold dv
          rw [if_neg (by omega), if_neg (by omega)]
          have := sc_sub (i := l) (k := 1) q
          show Int32.ofNat l + -1 = _
          rw [← this, Int32.sub_eq_add_neg]
          rfl
      have back' : dv (l + 1) + -1 = dv l := by
        rcases back with q | q
        · rw [q]; rfl
        · exact q
      show ∃ g' row', D_X11_findCouples_26b (D_X11_findCouples_26 m) g (some 81) (Int32.ofNat n) (keepRs d K0 outs).1 (dv (l + 1)) = some (_, g') ∧ _
      unfold D_X11_findCouples_26b D_X11_findCouples_55
      have dl : dv (l + 1) = Int32.ofNat l := rfl
      rw [dl, if_neg (show ¬ Int32.ofNat l < 0 from fun z => by have := (nat_lt (b := 0) (by omega) (by decide)).mp z; omega), R.q47, Option.bind_some, R.rd (by omega) (by omega), Option.bind_some, dv_up, w1, Option.bind_some]
      rw [dl] at back'
      by_cases c1 : l = n
      · rw [if_pos c1] at z
        rw [if_pos (by rw [c1]), if_pos c1, Option.bind_some, back']
        exact ih l r1 outs g1 m (by omega) R1 z (by omega)
      · rw [if_neg c1] at z
        rw [if_neg (show ¬ Int32.ofNat l = Int32.ofNat n from fun w => c1 ((eq_lit (by omega) (by omega)).mp w)), if_neg c1, R1.q47, Option.bind_some]
        have rl : z_aI .int g1 (some 108) (Int32.ofNat l) = some (dv (gt r1 l)) := by
          rw [aR R1.1 (n := 7) rfl (by omega) (by decide), al1, gl1]
        rw [rl, Option.bind_some]
        by_cases c2 : gt r1 l ≤ n
        · rw [if_pos c2] at z
          rw [if_pos ((dv_lt (by omega) (by omega)).mpr c2), if_pos c2, s_ob R1.1 (ci := 11) rfl, Option.bind_some]
          have R2 := R1' (by omega)
          have e0' : aI g1 83 0 = Int32.ofNat n := by rw [cell_aI (R1.2.1.c (by decide))]; exact e0
          rw [m_goes R1.1 e0' hn (row := r1) (by omega) (fun i hi => R2.2.2.2.1 i (by omega)) (by omega), Option.bind_some]
          dsimp only
          by_cases c3 : goB n r1 l = true
          · rw [if_pos c3, forceL_eq] at z
            rw [c3, if_neg (show ¬ b01 true = 0 by decide), if_pos (show true = true from rfl), forceL_eq, Option.bind_some, show Int32.ofNat l + 1 = Int32.ofNat (l + 1) from sc_add l 1, R1.q47, Option.bind_some]
            obtain ⟨w3, R3, R3', al3, gl3⟩ := R2.set (l := l + 1) (v := 0) (by omega) (by omega) (by omega)
            rw [show dv 0 = -1 from rfl] at w3
            rw [w3, Option.bind_some]
            have R4 := R3' (by omega)
            rw [show dv 0 = -1 from rfl] at R3 R4
            generalize r1.set (l + 1) 0 = r2 at *
            generalize wA g1 108 (upd (aI g1 108) (l + 1) (-1)) = g2 at *
            by_cases c4 : l + 1 = n
            · subst c4
              rw [if_pos rfl] at z ⊢
              rw [m_sum R3 hn h1 _ _ (fun i hi => (R3.2.2.2.1 i hi).1), show aI g2 83 = aI h 83 from cell_aI (R3.2.1.c (by decide)), ← hd]
              obtain ⟨g3, e3, R5, e108⟩ := m_keep R3 hn h1 (D_X11_findCouples_26 m) (sumT d (rT (l + 1) r2))
              rw [e3]
              have := ih (l + 2) r2 (outs ++ [(r2, rT (l + 1) r2)]) g3 m (by omega) (by
                rw [keepRs_app]
                refine ⟨R5.1, R5.2.1, R5.2.2.1, fun i hi => ?_, R5.2.2.2.2⟩
                rw [e108]
                exact R4.2.2.2.1 i hi) z (by omega)
              rw [keepRs_app] at this
              exact this
            · rw [if_neg c4] at z ⊢
              have : D_X11_findCouples_85 (D_X11_findCouples_26 m) z_F g2 (some 81) (Int32.ofNat n) (keepRs d K0 outs).1 (Int32.ofNat (l + 1)) 0 0 = D_X11_findCouples_26 m g2 (some 81) (Int32.ofNat n) (keepRs d K0 outs).1 (Int32.ofNat (l + 1)) := by
                obtain ⟨y, hy⟩ : ∃ y, z_F = y + 1 := ⟨999999, rfl⟩
                have n0 : ¬ Int32.ofNat n ≤ 0 := fun z => by have := (nat_le (b := 0) (by omega) (by decide)).mp z; omega
                have nl : ¬ Int32.ofNat (l + 1) = Int32.ofNat n := fun w => c4 ((eq_lit (by omega) (by omega)).mp w)
                rw [hy]
                show D_X11_findCouples_85b (D_X11_findCouples_26 m) _ g2 (some 81) (Int32.ofNat n) (keepRs d K0 outs).1 (Int32.ofNat (l + 1)) 0 0 = _
                unfold D_X11_findCouples_85b D_X11_findCouples_136 D_X11_findCouples_151 D_X11_findCouples_152
                rw [if_neg n0, if_neg nl, if_neg nl, hy]
                show D_X11_findCouples_157b (D_X11_findCouples_26 m) _ g2 (some 81) (Int32.ofNat n) (keepRs d K0 outs).1 (Int32.ofNat (l + 1)) 0 0 0 = _
                unfold D_X11_findCouples_157b D_X11_findCouples_188 D_X11_findCouples_199
                rw [if_neg n0, if_pos rfl, if_pos rfl]
              rw [this]
              exact ih (l + 2) r2 outs g2 m (by omega) R4 z (by omega)
          · rw [if_neg c3] at z
            rw [Bool.eq_false_iff.mpr c3, if_pos (show b01 false = 0 from rfl), if_neg (by decide)]
            exact ih (l + 1) r1 outs g1 m (by omega) R2 z (by omega)
        · rw [if_neg c2] at z
          rw [if_neg (fun w => c2 ((dv_lt (by omega) (by omega)).mp w)), if_neg c2, Option.bind_some, back']
          exact ih l r1 outs g1 m (by omega) R1 z (by omega)
end CV
