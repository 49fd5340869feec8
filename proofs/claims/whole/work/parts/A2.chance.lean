section CH
variable {g : z_H} {tg : Nat → Option Nat} {j : Nat} {h : z_H}
theorem spK_zero {F G : Nat → Nat} {k : Nat} (e : F k / 3 = 0) : spK tg F k G = G := by
  unfold spK
  rw [e]
  show addN (addN (addN G _ 0) _ 0) _ 0 = G
  rw [addN_zero, addN_zero, addN_zero]
theorem enc_to {k a : Nat} (ok : tgOK tg) (hk : k < 100) : (enc (nxt tg k a) = -1 → toN tg k a = k) ∧ (¬ enc (nxt tg k a) = -1 → enc (nxt tg k a) = Int32.ofNat (toN tg k a)) := by
  unfold toN
  cases e : nxt tg k a with
  | none => exact ⟨fun _ => rfl, fun z => absurd rfl z⟩
  | some q =>
    have := nxt_lt ok hk e
    exact ⟨fun z => absurd z (of_nm1 (by omega)), fun _ => rfl⟩
theorem c_spread (hs : Sh g) (ok : tgOK tg) (al : ∀ k, k < 100 → aI g 47 k = enc (stN tg k)) {F : Nat → Nat} (f56 : isJN (aJ g 56) F) (bd : sumN F 100 ≤ 1000000000000) : ∃ g', Sh g' ∧ Tch [56, 57] g g' ∧ isJN (aJ g' 56) (spN tg F) ∧ D_X6_spread g (some 53) = some g' := by
  obtain ⟨f0, hf0, e0⟩ := d_fillJ hs (a := 57) (n := 100) rfl (by decide) 0
  have hS : ∀ f, Sh (wJ g 57 f) := fun f => Sh_wJ hs rfl f
  have r57 : ∀ f, aJ (wJ g 57 f) 57 = f := fun f => aJ_wJ_eq hs rfl f
  have r56 : ∀ f, aJ (wJ g 57 f) 56 = aJ g 56 := fun f => aJ_wJ_ne (by decide)
  have r47 : ∀ f k, k < 100 → aI (wJ g 57 f) 47 k = enc (stN tg k) := fun f k hk => by rw [aI_wJ]; exact al k hk
  have q0 : ∀ f, z_gQ 6 (wJ g 57 f) (some 53) 0 = some (some 46) := fun f => s_gQ (hS f) rfl rfl
  have q3 : ∀ f, z_gQ 6 (wJ g 57 f) (some 53) 3 = some (some 56) := fun f => s_gQ (hS f) rfl rfl
  have q4 : ∀ f, z_gQ 6 (wJ g 57 f) (some 53) 4 = some (some 57) := fun f => s_gQ (hS f) rfl rfl
  have lp := loop_up (β := z_H) (S := Nat → Int64) (N := 100) (F := fun k f i => D_X6_spread_10 k (wJ g 57 f) (some 53) (Int32.ofNat i)) (G := fun f => some (wJ (wJ g 57 f) 56 (va_cpy f (aJ g 56) 0 0 100))) (I := fun i f => isJN f (foldN (spK tg F) i (fun _ => 0)))
    (fun k f _ => by
      have cp : z_cJ (wJ g 57 f) (some 57) 0 (some 56) 0 100 = some (wJ (wJ g 57 f) 56 (va_cpy (aJ (wJ g 57 f) 57) (aJ (wJ g 57 f) 56) 0 0 100)) := s_cJ (sp := 0) (dp := 0) (k := 100) (hS f) (a := 56) (b := 57) rfl rfl (by decide) (by decide) (by decide) (by decide)
      show D_X6_spread_10b _ (wJ g 57 f) (some 53) (Int32.ofNat 100) = _
      unfold D_X6_spread_10b
      rw [if_pos (by decide), q4, Option.bind_some, q3, Option.bind_some, cp, Option.bind_some, r57, r56])
    (fun k f i hi I => by
      have bi : F i < 2 ^ 63 := by have := sum_ge F 100 i hi; omega
      have st : D_X6_spread_10 (k + 1) (wJ g 57 f) (some 53) (Int32.ofNat i) = D_X6_spread_30 (D_X6_spread_10 k) z_F (wJ g 57 f) (some 53) (Int32.ofNat i) (Int64.ofNat (F i / 3)) 0 := by
        show D_X6_spread_10b (D_X6_spread_10 k) (wJ g 57 f) (some 53) (Int32.ofNat i) = _
        unfold D_X6_spread_10b
        rw [if_neg (fun z => by have := (nat_le (a := 100) (b := i) (by decide) (by omega)).mp z; omega), q3, Option.bind_some, jR (n := 100) (hS f) rfl hi (by decide), Option.bind_some, Option.bind_some, r56, f56 i hi, J_div3 bi]
      have e81 : ∀ f, D_X6_spread_81 (D_X6_spread_10 k) (wJ g 57 f) (some 53) (Int32.ofNat i) = D_X6_spread_10 k (wJ g 57 f) (some 53) (Int32.ofNat (i + 1)) := fun f => by
        unfold D_X6_spread_81
        rw [Option.bind_some, show Int32.ofNat i + 1 = Int32.ofNat (i + 1) from sc_add i 1]
      have fs : foldN (spK tg F) (i + 1) (fun _ => 0) = spK tg F i (foldN (spK tg F) i (fun _ => 0)) := rfl
      by_cases c : F i / 3 = 0
      · refine ⟨f, by rw [fs, spK_zero c]; exact I, ?_⟩
        rw [st]
        obtain ⟨z, hz⟩ : ∃ z, z_F = z + 1 := ⟨999999, rfl⟩
        rw [hz]
        show D_X6_spread_30b (D_X6_spread_10 k) (D_X6_spread_30 (D_X6_spread_10 k) z) (wJ g 57 f) (some 53) (Int32.ofNat i) (Int64.ofNat (F i / 3)) 0 = _
        unfold D_X6_spread_30b
        rw [if_neg (by decide), if_pos ((J_pos (by omega)).mpr c), e81]
      · have il := loop_up (β := z_H) (S := Nat → Int64) (N := 3) (F := fun k' f a => D_X6_spread_30 (D_X6_spread_10 k) k' (wJ g 57 f) (some 53) (Int32.ofNat i) (Int64.ofNat (F i / 3)) (Int32.ofNat a)) (G := fun f => D_X6_spread_10 k (wJ g 57 f) (some 53) (Int32.ofNat (i + 1))) (I := fun a f => isJN f (foldN (fun a G => addN G (toN tg i a) (F i / 3)) a (foldN (spK tg F) i (fun _ => 0))))
          (fun k' f _ => by
            show D_X6_spread_30b (D_X6_spread_10 k) _ (wJ g 57 f) (some 53) (Int32.ofNat i) (Int64.ofNat (F i / 3)) (Int32.ofNat 3) = _
            unfold D_X6_spread_30b
            rw [if_pos (by decide), e81])
          (fun k' f a ha I' => by
            have tl := toN_lt ok (a := a) hi
            refine ⟨vp_updL f (toN tg i a) (f (toN tg i a) + Int64.ofNat (F i / 3)), isJN_add I' tl, ?_⟩
            have e70 : D_X6_spread_70 (D_X6_spread_10 k) (D_X6_spread_30 (D_X6_spread_10 k) k') (wJ g 57 f) (some 53) (Int32.ofNat i) (Int64.ofNat (F i / 3)) (Int32.ofNat a) (some 57) (Int32.ofNat (toN tg i a)) = D_X6_spread_30 (D_X6_spread_10 k) k' (wJ g 57 (vp_updL f (toN tg i a) (f (toN tg i a) + Int64.ofNat (F i / 3)))) (some 53) (Int32.ofNat i) (Int64.ofNat (F i / 3)) (Int32.ofNat (a + 1)) := by
              unfold D_X6_spread_70
              rw [jR (n := 100) (hS f) rfl tl (by decide), Option.bind_some, jW (n := 100) (hS f) rfl tl (by decide), Option.bind_some, Option.bind_some, wJ_wJ, r57, show Int32.ofNat a + 1 = Int32.ofNat (a + 1) from sc_add a 1]
            show D_X6_spread_30b (D_X6_spread_10 k) (D_X6_spread_30 (D_X6_spread_10 k) k') (wJ g 57 f) (some 53) (Int32.ofNat i) (Int64.ofNat (F i / 3)) (Int32.ofNat a) = _
            unfold D_X6_spread_30b
            rw [if_neg (fun z => by have := (nat_le (a := 3) (b := a) (by decide) (by omega)).mp z; omega), if_neg (fun z => c ((J_pos (by omega)).mp z)), q0, Option.bind_some, s_ob (hS f) (ci := 4) rfl, Option.bind_some, c_behind (hS f) (r47 f) hi ha, Option.bind_some]
            dsimp only
            rw [q4, Option.bind_some]
            obtain ⟨t1, t2⟩ := enc_to (a := a) ok hi
            by_cases q : enc (nxt tg i a) = -1
            · rw [if_pos q]
              rw [t1 q] at e70 ⊢
              exact e70
            · rw [if_neg q, t2 q]
              exact e70)
          3 0 z_F f (by decide) (by decide) (by decide) I
        obtain ⟨f', I', e'⟩ := il
        exact ⟨f', I', st.trans e'⟩)
    100 0 z_F f0 (by decide) (by decide) (by decide) (fun q hq => hf0 q hq)
  obtain ⟨f, I, e⟩ := lp
  refine ⟨wJ (wJ g 57 f) 56 (va_cpy f (aJ g 56) 0 0 100), Sh_wJ (hS f) rfl _, Tch_wJ (Tch_wJ (Tch_rfl _ g) (by decide) _) (by decide) _, fun k hk => ?_, ?_⟩
  rotate_left 1
  · unfold D_X6_spread
    rw [s_gQ (r := 57) hs rfl rfl, Option.bind_some, e0, Option.bind_some]
    exact e
  · rw [aJ_wJ_eq (hS f) rfl]
    unfold va_cpy
    rw [if_pos (by omega), show 0 + (k - 0) = k by omega]
    exact I k hk
def sum4 (f : Nat → Int64) (c : Nat) : Int64 := foldN (fun w s => s + f (4 * c + w)) 4 0
theorem sum4_congr {f f' : Nat → Int64} {F : Nat → Nat} {c : Nat} (hc : c < 25) (e : isJN f F) (e' : isJN f' F) : sum4 f c = sum4 f' c := fold_congr (fun i s hi => by rw [e _ (by omega), e' _ (by omega)])
theorem c_chance (hs0 : Sh g) {m : Nat → Int32} (Y : Yrel g 1 m) {law : Option Nat} {T : LawT} {k : Int32} (dl : D_X9_lawInForce g (some 1) = some (law, g)) (lr : LawR g m k law T) {p c0 y0 c n : Nat} (hp : p < 6) (e8 : m (8 + p) = Int32.ofNat c0) (hc0 : c0 < 25) (e14 : m (14 + p) = Int32.ofNat y0) (hy0 : y0 < 4) (hc : c < 25) (hn : n ≤ 30) : ∃ g' f, Sh g' ∧ Tch [29, 30, 31, 47, 56, 57] g g' ∧ isJN f (chN (tgN T m p) (4 * c0 + y0) n) ∧ D_X6_byChance g (some 53) (some 1) (Int32.ofNat p) (Int32.ofNat c) (Int32.ofNat n) = some (sum4 f c, g') := by
  have ha : isY 1 := Or.inl rfl
  have ok : tgOK (tgN T m p) := fun k b hk e => tgN_lt hk e
  obtain ⟨g1, s1, T1, al, d1⟩ := c_layOut hs0 Y dl lr hp
  obtain ⟨f0, hf0, e0⟩ := d_fillJ s1 (a := 56) (n := 100) rfl (by decide) 0
  have s2 : Sh (wJ g1 56 f0) := Sh_wJ s1 rfl _
  have Y1 := Yrel_T Y T1 (isY_S ha (by decide)) (by decide)
  have Y2 : Yrel (wJ g1 56 f0) 1 m := Yrel_T Y1 (Tch_wJ (S := [56]) (Tch_rfl _ g1) (by decide) _) (isY_S ha (by decide)) (by decide)
  obtain ⟨c', y', -, -, m8, m14, a2, a3, -, -⟩ := Y2.at hp
  have pl := placeY s2 ha hp (a2.trans (m8.symm.trans e8)) (a3.trans (m14.symm.trans e14))
  have w0 : z_sJ (wJ g1 56 f0) (some 56) (Int32.ofNat (4 * c0 + y0)) 1000000000000 = some (wJ g1 56 (vp_updL f0 (4 * c0 + y0) 1000000000000)) := by
    rw [jW (n := 100) s2 rfl (by omega) (by decide), aJ_wJ_eq s1 rfl, wJ_wJ]
  have lp := loop_up (β := Int64 × z_H) (S := z_H) (N := n) (F := fun k g i => D_X6_byChance_33 k g (some 53) (Int32.ofNat c) (Int32.ofNat n) (Int32.ofNat i)) (G := fun g => some (sum4 (aJ g 56) c, g)) (I := fun i g' => Sh g' ∧ Tch [56, 57] g1 g' ∧ isJN (aJ g' 56) (chN (tgN T m p) (4 * c0 + y0) i))
    (fun k g' I => by
      obtain ⟨s', T', J'⟩ := I
      show D_X6_byChance_33b _ g' (some 53) (Int32.ofNat c) (Int32.ofNat n) (Int32.ofNat n) = _
      unfold D_X6_byChance_33b
      rw [if_pos (by rw [nat_le (by omega) (by omega)]; exact Nat.le_refl _)]
      refine loop_fold (F := fun k a i => D_X6_byChance_56 k g' (some 53) (Int32.ofNat c) a (Int32.ofNat i)) (G := fun a => some (a, g')) (N := 4) (fun w a => a + aJ g' 56 (4 * c + w)) (fun k a => ?_) (fun k a i hi => ?_) 0 (by decide)
      · show D_X6_byChance_56b _ g' (some 53) (Int32.ofNat c) a (Int32.ofNat 4) = _
        unfold D_X6_byChance_56b
        rw [if_pos (by decide)]
      · show D_X6_byChance_56b (D_X6_byChance_56 k) g' (some 53) (Int32.ofNat c) a (Int32.ofNat i) = _
        unfold D_X6_byChance_56b
        rw [if_neg (fun z => by have := (nat_le (a := 4) (b := i) (by decide) (by omega)).mp z; omega), s_gQ (r := 56) s' rfl rfl, Option.bind_some, show Int32.ofNat c * 4 + Int32.ofNat i = Int32.ofNat (4 * c + i) by rw [show (4 : Int32) = Int32.ofNat 4 from rfl, sc_mul, sc_add, Nat.mul_comm], jR (n := 100) s' rfl (by omega) (by decide), Option.bind_some, Option.bind_some, Option.bind_some, show Int32.ofNat i + 1 = Int32.ofNat (i + 1) from sc_add i 1])
    (fun k g' i hi I => by
      obtain ⟨s', T', J'⟩ := I
      obtain ⟨g2, s2', T2, J2, e2⟩ := c_spread s' ok (fun k hk => by rw [cell_aI (T'.c (by decide))]; exact al k hk) J' (chN_sum ok i)
      refine ⟨g2, ⟨s2', T'.trans T2, J2⟩, ?_⟩
      show D_X6_byChance_33b (D_X6_byChance_33 k) g' (some 53) (Int32.ofNat c) (Int32.ofNat n) (Int32.ofNat i) = _
      unfold D_X6_byChance_33b
      rw [if_neg (by rw [nat_le (by omega) (by omega)]; omega), s_ob s' (ci := 6) rfl, Option.bind_some, e2, Option.bind_some, Option.bind_some, show Int32.ofNat i + 1 = Int32.ofNat (i + 1) from sc_add i 1])
    n 0 z_F (wJ g1 56 (vp_updL f0 (4 * c0 + y0) 1000000000000)) (by omega) (by omega) (by show n < 1000000; omega) ⟨Sh_wJ s1 rfl _, Tch_wJ (Tch_rfl _ g1) (by decide) _, fun k hk => by
      rw [aJ_wJ_eq s1 rfl]
      show _ = Int64.ofNat (if k = 4 * c0 + y0 then 1000000000000 else 0)
      by_cases q : k = 4 * c0 + y0
      · rw [if_pos q, q, updL_eq]; rfl
      · rw [if_neg q, updL_ne q]; exact hf0 k hk⟩
  obtain ⟨g', ⟨s', T', J'⟩, e'⟩ := lp
  refine ⟨g', aJ g' 56, s', (T1.mono (by decide)).trans (T'.mono (by decide)), J', ?_⟩
  unfold D_X6_byChance
  rw [s_gQ (r := 46) hs0 rfl rfl, Option.bind_some, s_ob hs0 (ci := 4) rfl, Option.bind_some, d1, Option.bind_some, s_gQ (r := 56) s1 rfl rfl, Option.bind_some, e0, Option.bind_some, s_gQ (r := 56) s2 rfl rfl, Option.bind_some, (yR s2 ha).1, Option.bind_some, pl, Option.bind_some]
  dsimp only
  rw [w0, Option.bind_some]
  exact e'
end CH
