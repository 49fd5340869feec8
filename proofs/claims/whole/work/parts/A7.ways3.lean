section WN
variable {g g0 : z_H} {c0 y0 : Nat} {j : Nat} {h : z_H}
def TabM (tg : Nat → Option Nat) (c0 y0 L Rt : Nat) (R : Nat → Int64) (s l r : Nat) : Prop := ∀ s' l' r' c, s' ≤ 6 → l' ≤ L → r' ≤ Rt → c < 25 → (s' < s ∨ (s' = s ∧ (l' < l ∨ (l' = l ∧ r' < r)))) → R (pl3 s' l' r' + c) = wW tg c0 y0 s' l' r' c
theorem m_layWays {law : Option Nat} {T : LawT} (H : RA g0 law T) {p S L Rt : Nat} (hp : p < 6) (e8 : aI g0 83 (8 + p) = Int32.ofNat c0) (hc0 : c0 < 25) (e14 : aI g0 83 (14 + p) = Int32.ofNat y0) (hy0 : y0 < 4) (hS : S ≤ 6) (hL : L ≤ 6) (hR : Rt ≤ 6) : ∃ g', OnM [81, 99, 101, 102, 103] [34, 38, 39, 40] g0 g' ∧ (∀ c, c < 25 → aJ g' 103 (pl3 S L Rt + c) = wW (tgN T (aI g0 83) p) c0 y0 S L Rt c) ∧ D_X11_layWays g0 (some 81) (Int32.ofNat p) (Int32.ofNat S) (Int32.ofNat L) (Int32.ofNat Rt) = some g' := by
  have ok : tgOK (tgN T (aI g0 83) p) := fun k b hk e => tgN_lt hk e
  obtain ⟨g1, o1, al, d1⟩ := m_laySteps H hp
  have c83 : aI g1 83 = aI g0 83 := cell_aI (o1.2.1.c (by decide))
  have lp := loop_up (β := z_H) (S := z_H) (N := S + 1) (F := fun k x s => D_X11_layWays_8 k x (some 81) (Int32.ofNat p) (Int32.ofNat S) (Int32.ofNat L) (Int32.ofNat Rt) (Int32.ofNat s)) (G := fun x => some x) (I := fun s x => OnM [103] [] g1 x ∧ TabM (tgN T (aI g0 83) p) c0 y0 L Rt (aJ x 103) s 0 0)
    (fun k x _ => by
      show D_X11_layWays_8b _ x (some 81) (Int32.ofNat p) (Int32.ofNat S) (Int32.ofNat L) (Int32.ofNat Rt) (Int32.ofNat (S + 1)) = _
      unfold D_X11_layWays_8b
      rw [if_pos (by rw [nat_lt (by omega) (by omega)]; omega)])
    (fun k x s hs I => by
      obtain ⟨ox, tx⟩ := I
      have lp2 := loop_up (β := z_H) (S := z_H) (N := L + 1) (F := fun k' x l => D_X11_layWays_17 (D_X11_layWays_8 k) k' x (some 81) (Int32.ofNat p) (Int32.ofNat S) (Int32.ofNat L) (Int32.ofNat Rt) (Int32.ofNat s) (Int32.ofNat l)) (G := fun x => D_X11_layWays_8 k x (some 81) (Int32.ofNat p) (Int32.ofNat S) (Int32.ofNat L) (Int32.ofNat Rt) (Int32.ofNat (s + 1))) (I := fun l x => OnM [103] [] g1 x ∧ TabM (tgN T (aI g0 83) p) c0 y0 L Rt (aJ x 103) s l 0)
        (fun k' x _ => by
          show D_X11_layWays_17b (D_X11_layWays_8 k) _ x (some 81) (Int32.ofNat p) (Int32.ofNat S) (Int32.ofNat L) (Int32.ofNat Rt) (Int32.ofNat s) (Int32.ofNat (L + 1)) = _
          unfold D_X11_layWays_17b
          rw [if_pos (by rw [nat_lt (by omega) (by omega)]; omega), Option.bind_some, show Int32.ofNat s + 1 = Int32.ofNat (s + 1) from sc_add s 1])
        (fun k' x l hl I => by
          obtain ⟨ox, tx⟩ := I
          have lp3 := loop_up (β := z_H) (S := z_H) (N := Rt + 1) (F := fun k'' x r => D_X11_layWays_26 (D_X11_layWays_8 k) (D_X11_layWays_17 (D_X11_layWays_8 k) k') k'' x (some 81) (Int32.ofNat p) (Int32.ofNat S) (Int32.ofNat L) (Int32.ofNat Rt) (Int32.ofNat s) (Int32.ofNat l) (Int32.ofNat r)) (G := fun x => D_X11_layWays_17 (D_X11_layWays_8 k) k' x (some 81) (Int32.ofNat p) (Int32.ofNat S) (Int32.ofNat L) (Int32.ofNat Rt) (Int32.ofNat s) (Int32.ofNat (l + 1))) (I := fun r x => OnM [103] [] g1 x ∧ TabM (tgN T (aI g0 83) p) c0 y0 L Rt (aJ x 103) s l r)
            (fun k'' x _ => by
              show D_X11_layWays_26b (D_X11_layWays_8 k) (D_X11_layWays_17 (D_X11_layWays_8 k) k') _ x (some 81) (Int32.ofNat p) (Int32.ofNat S) (Int32.ofNat L) (Int32.ofNat Rt) (Int32.ofNat s) (Int32.ofNat l) (Int32.ofNat (Rt + 1)) = _
              unfold D_X11_layWays_26b
              rw [if_pos (by rw [nat_lt (by omega) (by omega)]; omega), Option.bind_some, show Int32.ofNat l + 1 = Int32.ofNat (l + 1) from sc_add l 1])
            (fun k'' x r hr' I => by
              obtain ⟨ox, tx⟩ := I
              have cx : aI x 83 = aI g0 83 := by rw [cell_aI (ox.2.1.c (by decide))]; exact c83
              obtain ⟨f, F1, F2, ef⟩ := m_block (y0 := y0) (D_X11_layWays_8 k) (D_X11_layWays_17 (D_X11_layWays_8 k) k') (D_X11_layWays_26 (D_X11_layWays_8 k) (D_X11_layWays_17 (D_X11_layWays_8 k) k') k'') (Int32.ofNat S) (Int32.ofNat L) (Int32.ofNat Rt) ox.1 ok (fun k hk => by rw [cell_aI (ox.2.1.c (by decide))]; exact al k hk) hp (by rw [cx]; exact e8) hc0 (show s ≤ 6 by omega) (show l ≤ 6 by omega) (show r ≤ 6 by omega)
              refine ⟨wJ x 103 f, ⟨ox.trans (onJ ox.1 rfl (by decide) _), ?_⟩, ?_⟩
              · rw [aJ_wJ_eq ox.1 rfl]
                intro s' l' r' c h0 h1 h2 h3 z
                by_cases q : s' = s ∧ l' = l ∧ r' = r
                · obtain ⟨rfl, rfl, rfl⟩ := q
                  rw [wW_eq ok s' l' r' c h3]
                  refine (F1 c h3).trans (wCell_cong ok (fun z c hc => ?_) (fun z c hc => ?_) (fun z c hc => ?_) c h3)
                  · exact tx s' (l' - 1) r' c h0 (by omega) h2 hc (by omega)
                  · exact tx s' l' (r' - 1) c h0 h1 (by omega) hc (by omega)
                  · exact tx (s' - 1) l' r' c (by omega) h1 h2 hc (by omega)
                · have nq : ¬ (49 * s' + 7 * l' + r' = 49 * s + 7 * l + r) := by omega
                  rw [F2 _ (by unfold pl3; omega)]
                  exact tx s' l' r' c h0 h1 h2 h3 (by omega)
              · show D_X11_layWays_26b (D_X11_layWays_8 k) (D_X11_layWays_17 (D_X11_layWays_8 k) k') (D_X11_layWays_26 (D_X11_layWays_8 k) (D_X11_layWays_17 (D_X11_layWays_8 k) k') k'') x (some 81) (Int32.ofNat p) (Int32.ofNat S) (Int32.ofNat L) (Int32.ofNat Rt) (Int32.ofNat s) (Int32.ofNat l) (Int32.ofNat r) = _
                have x6 : ((Int32.ofNat y0 + Int32.ofNat r) + (3 * Int32.ofNat l)) - ((Int32.ofNat y0 + Int32.ofNat r) + (3 * Int32.ofNat l)) / 4 * 4 = Int32.ofNat ((y0 + r + 3 * l) % 4) := by
                  rw [show (3 : Int32) = Int32.ofNat 3 from rfl, sc_mul, sc_add, sc_add, show (4 : Int32) = Int32.ofNat 4 from rfl, sc_mod (by omega) (by decide) (by decide)]
                unfold D_X11_layWays_26b
                rw [if_neg (by rw [nat_lt (by omega) (by omega)]; omega), s_gQ (r := 83) ox.1 rfl rfl, Option.bind_some, show (14 : Int32) + Int32.ofNat p = Int32.ofNat (14 + p) from sc_add 14 p, m83 ox.1 (by omega), Option.bind_some, cx, e14, Option.bind_some, x6]
                exact ef)
            (Rt + 1) 0 z_F x (by omega) (by omega) (by show Rt + 1 < 1000000; omega) ⟨ox, tx⟩
          obtain ⟨x', ⟨o', t'⟩, e'⟩ := lp3
          refine ⟨x', ⟨o', fun s' l' r' c h0 h1 h2 h3 z => t' s' l' r' c h0 h1 h2 h3 (by omega)⟩, ?_⟩
          show D_X11_layWays_17b (D_X11_layWays_8 k) (D_X11_layWays_17 (D_X11_layWays_8 k) k') x (some 81) (Int32.ofNat p) (Int32.ofNat S) (Int32.ofNat L) (Int32.ofNat Rt) (Int32.ofNat s) (Int32.ofNat l) = _
          unfold D_X11_layWays_17b
          rw [if_neg (by rw [nat_lt (by omega) (by omega)]; omega)]
          exact e')
        (L + 1) 0 z_F x (by omega) (by omega) (by show L + 1 < 1000000; omega) ⟨ox, tx⟩
      obtain ⟨x', ⟨o', t'⟩, e'⟩ := lp2
      refine ⟨x', ⟨o', fun s' l' r' c h0 h1 h2 h3 z => t' s' l' r' c h0 h1 h2 h3 (by omega)⟩, ?_⟩
      show D_X11_layWays_8b (D_X11_layWays_8 k) x (some 81) (Int32.ofNat p) (Int32.ofNat S) (Int32.ofNat L) (Int32.ofNat Rt) (Int32.ofNat s) = _
      unfold D_X11_layWays_8b
      rw [if_neg (by rw [nat_lt (by omega) (by omega)]; omega)]
      exact e')
    (S + 1) 0 z_F g1 (by omega) (by omega) (by show S + 1 < 1000000; omega) ⟨OnM.rfl' o1.1, fun s' l' r' c h0 h1 h2 h3 z => by omega⟩
  obtain ⟨g', ⟨o', t'⟩, e'⟩ := lp
  refine ⟨g', (o1.mono (by decide) (by decide)).trans (o'.mono (by decide) (by decide)), fun c hc => t' S L Rt c hS (Nat.le_refl _) (Nat.le_refl _) hc (by omega), ?_⟩
  unfold D_X11_layWays
  rw [s_ob H.1 (ci := 11) rfl, Option.bind_some, d1, Option.bind_some]
  exact e'
theorem num6 {x : Int32} : (∃ q, q ≤ 6 ∧ x = Int32.ofNat q) ∨ ¬ (0 ≤ x.toInt ∧ x.toInt < (6 + 1 : Nat)) := by
  rcases xc x 7 (by decide) with ⟨q, hq, e⟩ | z
  · exact Or.inl ⟨q, by omega, e⟩
  · exact Or.inr z
theorem wn1 {q : Nat} (hq : q ≤ 6) (g : z_H) : D_X10_isWaysNumber g (Int32.ofNat q) = some (1, g) := by
  unfold D_X10_isWaysNumber
  rw [if_neg (not_neg (by omega)), if_neg (show ¬ (6 : Int32) < Int32.ofNat q from fun z => by have := (nat_lt (a := 6) (b := q) (by decide) (by omega)).mp z; omega)]
theorem wn0 {x : Int32} (hx : ¬ (0 ≤ x.toInt ∧ x.toInt < (6 + 1 : Nat))) (g : z_H) : D_X10_isWaysNumber g x = some (0, g) := by
  unfold D_X10_isWaysNumber
  by_cases c : x < 0
  · rw [if_pos c]
  · rw [if_neg c]
    rw [lt0] at c
    rw [if_pos (by rw [Int32.lt_iff_toInt_lt]; show (6 : Int) < x.toInt; omega)]
/-- whether ways can be counted: both say the same -/
theorem canW (H : Inv j h) (x a b c : Int32) : (∃ p s l r n, p < n ∧ n ≤ 6 ∧ s ≤ 6 ∧ l ≤ 6 ∧ r ≤ 6 ∧ fI h 1 8 = Int32.ofNat n ∧ aI h 83 0 = Int32.ofNat n ∧ x = Int32.ofNat p ∧ a = Int32.ofNat s ∧ b = Int32.ofNat l ∧ c = Int32.ofNat r ∧ D_X10_canCountWays h (some 0) x a b c = some (1, h) ∧ ∀ g, Sh g → aI g 83 = aI h 83 → D_X11_canAsk g (some 81) x a b c = some (1, g)) ∨ (D_X10_canCountWays h (some 0) x a b c = some (0, h) ∧ ∀ g, Sh g → aI g 83 = aI h 83 → D_X11_canAsk g (some 81) x a b c = some (0, g)) := by
  have hs := H.1
  have ha : isY 1 := Or.inl rfl
  obtain ⟨n, hn, e1, e2⟩ := H.np
  have q0 : z_gQ 10 h (some 0) 0 = some (some 1) := s_gQ hs rfl rfl
  rcases xc x n (by omega) with ⟨p, hp, rfl⟩ | nx
  · have P1 := hasP1 hs ha e1 (by omega) hp
    rcases num6 (x := a) with ⟨s, hss, rfl⟩ | na
    · rcases num6 (x := b) with ⟨l, hl, rfl⟩ | nb'
      · rcases num6 (x := c) with ⟨r, hr, rfl⟩ | nc
        · refine Or.inl ⟨p, s, l, r, n, hp, hn, hss, hl, hr, e1, e2, rfl, rfl, rfl, rfl, ?_, fun g hg cg => ?_⟩
          · unfold D_X10_canCountWays
            rw [q0, Option.bind_some, (yR hs ha).1, Option.bind_some, P1, Option.bind_some]
            dsimp only
            rw [if_neg one_ne, wn1 hss, Option.bind_some]
            dsimp only
            rw [if_neg one_ne, wn1 hl, Option.bind_some]
            dsimp only
            rw [if_neg one_ne, wn1 hr, Option.bind_some]
            dsimp only
            rw [if_neg one_ne]
          · unfold D_X11_canAsk
            rw [s_ob hg (ci := 11) rfl, Option.bind_some, isP1 hg (by rw [cg]; exact e2) hn hp, Option.bind_some]
            dsimp only
            rw [if_neg one_ne, din1 (C := 6) (N := 6) rfl (by omega) _ (by decide), Option.bind_some]
            dsimp only
            rw [if_neg one_ne, din1 (C := 6) (N := 6) rfl (by omega) _ (by decide), Option.bind_some]
            dsimp only
            rw [if_neg one_ne, din1 (C := 6) (N := 6) rfl (by omega) _ (by decide), Option.bind_some]
            dsimp only
            rw [if_neg one_ne]
        · refine Or.inr ⟨?_, fun g hg cg => ?_⟩
          · unfold D_X10_canCountWays
            rw [q0, Option.bind_some, (yR hs ha).1, Option.bind_some, P1, Option.bind_some]
            dsimp only
            rw [if_neg one_ne, wn1 hss, Option.bind_some]
            dsimp only
            rw [if_neg one_ne, wn1 hl, Option.bind_some]
            dsimp only
            rw [if_neg one_ne, wn0 nc, Option.bind_some]
            dsimp only
            rw [if_pos rfl]
          · unfold D_X11_canAsk
            rw [s_ob hg (ci := 11) rfl, Option.bind_some, isP1 hg (by rw [cg]; exact e2) hn hp, Option.bind_some]
            dsimp only
            rw [if_neg one_ne, din1 (C := 6) (N := 6) rfl (by omega) _ (by decide), Option.bind_some]
            dsimp only
            rw [if_neg one_ne, din1 (C := 6) (N := 6) rfl (by omega) _ (by decide), Option.bind_some]
            dsimp only
            rw [if_neg one_ne, din0 (C := 6) (N := 6) rfl nc, Option.bind_some]
            dsimp only
            rw [if_pos rfl]
      · refine Or.inr ⟨?_, fun g hg cg => ?_⟩
        · unfold D_X10_canCountWays
          rw [q0, Option.bind_some, (yR hs ha).1, Option.bind_some, P1, Option.bind_some]
          dsimp only
          rw [if_neg one_ne, wn1 hss, Option.bind_some]
          dsimp only
          rw [if_neg one_ne, wn0 nb', Option.bind_some]
          dsimp only
          rw [if_pos rfl]
        · unfold D_X11_canAsk
          rw [s_ob hg (ci := 11) rfl, Option.bind_some, isP1 hg (by rw [cg]; exact e2) hn hp, Option.bind_some]
          dsimp only
          rw [if_neg one_ne, din1 (C := 6) (N := 6) rfl (by omega) _ (by decide), Option.bind_some]
          dsimp only
          rw [if_neg one_ne, din0 (C := 6) (N := 6) rfl nb', Option.bind_some]
          dsimp only
          rw [if_pos rfl]
    · refine Or.inr ⟨?_, fun g hg cg => ?_⟩
      · unfold D_X10_canCountWays
        rw [q0, Option.bind_some, (yR hs ha).1, Option.bind_some, P1, Option.bind_some]
        dsimp only
        rw [if_neg one_ne, wn0 na, Option.bind_some]
        dsimp only
        rw [if_pos rfl]
      · unfold D_X11_canAsk
        rw [s_ob hg (ci := 11) rfl, Option.bind_some, isP1 hg (by rw [cg]; exact e2) hn hp, Option.bind_some]
        dsimp only
        rw [if_neg one_ne, din0 (C := 6) (N := 6) rfl na, Option.bind_some]
        dsimp only
        rw [if_pos rfl]
  · refine Or.inr ⟨?_, fun g hg cg => ?_⟩
    · unfold D_X10_canCountWays
      rw [q0, Option.bind_some, (yR hs ha).1, Option.bind_some, hasP0 hs ha e1 (by omega) nx, Option.bind_some]
      dsimp only
      rw [if_pos rfl]
    · unfold D_X11_canAsk
      rw [s_ob hg (ci := 11) rfl, Option.bind_some, isP0 hg (by rw [cg]; exact e2) hn nx, Option.bind_some]
      dsimp only
      rw [if_pos rfl]
def sum25 (f : Nat → Int64) : Int64 := foldN (fun c s => s + f c) 25 0
def end25 (f : Nat → Int64) : Int32 := foldN (fun c s => s ||| (if lg_cmp (f c) 0 ≤ 0 then 0 else (1 : Int32) <<< (Int32.ofNat c &&& 31))) 25 0
theorem a_ways (H : Inv j h) (x a b c : Int32) : Agree Inv j h (fun h => D_X10_ways h (some 0) x a b c) (fun h => D_X11_ways h (some 81) x a b c) := by
  have hs := H.1
  have st := Sh_t0 hs
  have c0' : aI (t0 h) 83 = aI h 83 := aI_wF _ _ _ _
  rcases canW H x a b c with ⟨p, s, l, r, n, hp, hn, hss, hl, hr', e1, e2, rfl, rfl, rfl, rfl, k1, k2⟩ | ⟨k1, k2⟩
  · obtain ⟨c0, y0, hc0, hy0, m8, m14, -, -⟩ := H.at (p := p) (by omega)
    obtain ⟨law, T, dl, lr⟩ := H.law
    obtain ⟨g1, s1, T1, w1, d1⟩ := c_countWays hs H.Y dl lr (p := p) (by omega) m8 hc0 m14 hy0 hss hl hr'
    have ra := (H.RA lr s1 T1 (by decide) (by decide)).on (t0_on s1) (by decide) (by decide) (by decide)
    have c83 : aI (t0 g1) 83 = aI h 83 := by rw [aI_wF]; exact cell_aI (T1.c (by decide))
    have st1 := Sh_t0 s1
    obtain ⟨g2, o2, w2, d2⟩ := m_layWays ra (p := p) (by omega) (by rw [c83]; exact m8) hc0 (by rw [c83]; exact m14) hy0 hss hl hr'
    rw [c83] at w2
    have x5 : ((Int32.ofNat l * 7) + Int32.ofNat r) * 25 = Int32.ofNat (hr l r) := by
      unfold hr
      rw [show (7 : Int32) = Int32.ofNat 7 from rfl, show (25 : Int32) = Int32.ofNat 25 from rfl, sc_mul, sc_add, sc_mul, Nat.mul_comm l 7]
    have bh : hr l r + 25 ≤ 1225 := by unfold hr; omega
    refine agree_q H (x := sum25 (wW (tgN T (aI h 83) p) c0 y0 s l r)) (h1 := g1) (h2 := g2) ?_ (Same_T T1 s1 (by decide)) ?_ ((Same_t0 s1).trans (Same_M o2 (by decide)))
    · show D_X10_ways h (some 0) (Int32.ofNat p) (Int32.ofNat s) (Int32.ofNat l) (Int32.ofNat r) = _
      have hm : D_X6_howMany g1 (some 53) (Int32.ofNat l) (Int32.ofNat r) = some (sum25 (wW (tgN T (aI h 83) p) c0 y0 s l r), g1) := by
        unfold D_X6_howMany
        rw [Option.bind_some, x5]
        refine loop_fold (F := fun k v i => D_X6_howMany_16 k g1 (some 53) (Int32.ofNat (hr l r)) v (Int32.ofNat i)) (G := fun v => some (v, g1)) (N := 25) (fun c v => v + wW (tgN T (aI h 83) p) c0 y0 s l r c) (fun k v => ?_) (fun k v i hi => ?_) 0 (by decide)
        · show D_X6_howMany_16b _ g1 (some 53) (Int32.ofNat (hr l r)) v (Int32.ofNat 25) = _
          unfold D_X6_howMany_16b
          rw [if_pos (by decide)]
        · show D_X6_howMany_16b (D_X6_howMany_16 k) g1 (some 53) (Int32.ofNat (hr l r)) v (Int32.ofNat i) = _
          unfold D_X6_howMany_16b
          rw [if_neg (fun z => by have := (nat_le (a := 25) (b := i) (by decide) (by omega)).mp z; omega), s_gQ (r := 54) s1 rfl rfl, Option.bind_some, sc_add, jR (n := 1225) s1 rfl (by omega) (by decide), Option.bind_some, Option.bind_some, Option.bind_some, w1 i hi, show Int32.ofNat i + 1 = Int32.ofNat (i + 1) from sc_add i 1]
      unfold D_X10_ways
      rw [s_ob hs (ci := 10) rfl, Option.bind_some, k1, Option.bind_some]
      dsimp only
      rw [if_neg one_ne, s_gQ (r := 53) hs rfl rfl, Option.bind_some, s_gQ (r := 1) hs rfl rfl, Option.bind_some, s_ob hs (ci := 6) rfl, Option.bind_some, d1, Option.bind_some, s_gQ (r := 53) s1 rfl rfl, Option.bind_some, s_ob s1 (ci := 6) rfl, Option.bind_some, hm, Option.bind_some]
    · show D_X11_ways g1 (some 81) (Int32.ofNat p) (Int32.ofNat s) (Int32.ofNat l) (Int32.ofNat r) = _
      unfold D_X11_ways
      rw [p81 s1, Option.bind_some, s_ob st1 (ci := 11) rfl, Option.bind_some, k2 _ st1 c83, Option.bind_some]
      dsimp only
      rw [if_neg one_ne, s_ob st1 (ci := 11) rfl, Option.bind_some, d2, Option.bind_some]
      refine loop_fold (F := fun k v i => D_X11_ways_36 k g2 (some 81) (Int32.ofNat s) (Int32.ofNat l) (Int32.ofNat r) v (Int32.ofNat i)) (G := fun v => some (v, g2)) (N := 25) (fun c v => v + wW (tgN T (aI h 83) p) c0 y0 s l r c) (fun k v => ?_) (fun k v i hi => ?_) 0 (by decide)
      · show D_X11_ways_36b _ g2 (some 81) (Int32.ofNat s) (Int32.ofNat l) (Int32.ofNat r) v (Int32.ofNat 25) = _
        unfold D_X11_ways_36b
        rw [if_pos (by decide)]
      · show D_X11_ways_36b (D_X11_ways_36 k) g2 (some 81) (Int32.ofNat s) (Int32.ofNat l) (Int32.ofNat r) v (Int32.ofNat i) = _
        unfold D_X11_ways_36b
        rw [if_neg (fun z => by have := (nat_le (a := 25) (b := i) (by decide) (by omega)).mp z; omega), s_gQ (r := 103) o2.1 rfl rfl, Option.bind_some, d_place, Option.bind_some]
        dsimp only
        rw [jR (n := 8575) o2.1 rfl (pl3_lt hss hl hr' hi) (by decide), Option.bind_some, Option.bind_some, Option.bind_some, w2 i hi, show Int32.ofNat i + 1 = Int32.ofNat (i + 1) from sc_add i 1]
  · refine agree_q H (x := (-1 : Int64)) (h1 := h) (h2 := t0 h) ?_ (Same.rfl' hs) ?_ (Same_t0 hs)
    · show D_X10_ways h (some 0) x a b c = _
      unfold D_X10_ways
      rw [s_ob hs (ci := 10) rfl, Option.bind_some, k1, Option.bind_some]
      dsimp only
      rw [if_pos rfl]
    · show D_X11_ways h (some 81) x a b c = _
      unfold D_X11_ways
      rw [p81 hs, Option.bind_some, s_ob st (ci := 11) rfl, Option.bind_some, k2 _ st c0', Option.bind_some]
      dsimp only
      rw [if_pos rfl]
theorem a_ends (H : Inv j h) (x a b c : Int32) : Agree Inv j h (fun h => D_X10_ends h (some 0) x a b c) (fun h => D_X11_ends h (some 81) x a b c) := by
  have hs := H.1
  have st := Sh_t0 hs
  have c0' : aI (t0 h) 83 = aI h 83 := aI_wF _ _ _ _
  rcases canW H x a b c with ⟨p, s, l, r, n, hp, hn, hss, hl, hr', e1, e2, rfl, rfl, rfl, rfl, k1, k2⟩ | ⟨k1, k2⟩
  · obtain ⟨c0, y0, hc0, hy0, m8, m14, -, -⟩ := H.at (p := p) (by omega)
    obtain ⟨law, T, dl, lr⟩ := H.law
    obtain ⟨g1, s1, T1, w1, d1⟩ := c_countWays hs H.Y dl lr (p := p) (by omega) m8 hc0 m14 hy0 hss hl hr'
    have ra := (H.RA lr s1 T1 (by decide) (by decide)).on (t0_on s1) (by decide) (by decide) (by decide)
    have c83 : aI (t0 g1) 83 = aI h 83 := by rw [aI_wF]; exact cell_aI (T1.c (by decide))
    have st1 := Sh_t0 s1
    obtain ⟨g2, o2, w2, d2⟩ := m_layWays ra (p := p) (by omega) (by rw [c83]; exact m8) hc0 (by rw [c83]; exact m14) hy0 hss hl hr'
    rw [c83] at w2
    have x5 : ((Int32.ofNat l * 7) + Int32.ofNat r) * 25 = Int32.ofNat (hr l r) := by
      unfold hr
      rw [show (7 : Int32) = Int32.ofNat 7 from rfl, show (25 : Int32) = Int32.ofNat 25 from rfl, sc_mul, sc_add, sc_mul, Nat.mul_comm l 7]
    have bh : hr l r + 25 ≤ 1225 := by unfold hr; omega
    refine agree_q H (x := end25 (wW (tgN T (aI h 83) p) c0 y0 s l r)) (h1 := g1) (h2 := g2) ?_ (Same_T T1 s1 (by decide)) ?_ ((Same_t0 s1).trans (Same_M o2 (by decide)))
    · show D_X10_ends h (some 0) (Int32.ofNat p) (Int32.ofNat s) (Int32.ofNat l) (Int32.ofNat r) = _
      have hm : D_X6_endCells g1 (some 53) (Int32.ofNat l) (Int32.ofNat r) = some (end25 (wW (tgN T (aI h 83) p) c0 y0 s l r), g1) := by
        unfold D_X6_endCells
        rw [Option.bind_some, x5]
        refine loop_fold (F := fun k v i => D_X6_endCells_16 k g1 (some 53) (Int32.ofNat (hr l r)) v (Int32.ofNat i)) (G := fun v => some (v, g1)) (N := 25) (fun c s' => s' ||| (if lg_cmp (wW (tgN T (aI h 83) p) c0 y0 s l r c) 0 ≤ 0 then 0 else (1 : Int32) <<< (Int32.ofNat c &&& 31))) (fun k v => ?_) (fun k v i hi => ?_) 0 (by decide)
        · show D_X6_endCells_16b _ g1 (some 53) (Int32.ofNat (hr l r)) v (Int32.ofNat 25) = _
          unfold D_X6_endCells_16b
          rw [if_pos (by decide)]
        · show D_X6_endCells_16b (D_X6_endCells_16 k) g1 (some 53) (Int32.ofNat (hr l r)) v (Int32.ofNat i) = _
          unfold D_X6_endCells_16b D_X6_endCells_47
          rw [if_neg (fun z => by have := (nat_le (a := 25) (b := i) (by decide) (by omega)).mp z; omega), s_gQ (r := 54) s1 rfl rfl, Option.bind_some, sc_add, jR (n := 1225) s1 rfl (by omega) (by decide), Option.bind_some, w1 i hi, show Int32.ofNat i + 1 = Int32.ofNat (i + 1) from sc_add i 1]
          by_cases q : lg_cmp (wW (tgN T (aI h 83) p) c0 y0 s l r i) 0 ≤ 0
          · rw [if_pos q, if_pos q, Option.bind_some, Option.bind_some]
          · rw [if_neg q, if_neg q, Option.bind_some, Option.bind_some]
      unfold D_X10_ends
      rw [s_ob hs (ci := 10) rfl, Option.bind_some, k1, Option.bind_some]
      dsimp only
      rw [if_neg one_ne, s_gQ (r := 53) hs rfl rfl, Option.bind_some, s_gQ (r := 1) hs rfl rfl, Option.bind_some, s_ob hs (ci := 6) rfl, Option.bind_some, d1, Option.bind_some, s_gQ (r := 53) s1 rfl rfl, Option.bind_some, s_ob s1 (ci := 6) rfl, Option.bind_some, hm, Option.bind_some]
    · show D_X11_ends g1 (some 81) (Int32.ofNat p) (Int32.ofNat s) (Int32.ofNat l) (Int32.ofNat r) = _
      unfold D_X11_ends
      rw [p81 s1, Option.bind_some, s_ob st1 (ci := 11) rfl, Option.bind_some, k2 _ st1 c83, Option.bind_some]
      dsimp only
      rw [if_neg one_ne, s_ob st1 (ci := 11) rfl, Option.bind_some, d2, Option.bind_some]
      refine loop_fold (F := fun k v i => D_X11_ends_34 k g2 (some 81) (Int32.ofNat s) (Int32.ofNat l) (Int32.ofNat r) v (Int32.ofNat i)) (G := fun v => some (v, g2)) (N := 25) (fun c s' => s' ||| (if lg_cmp (wW (tgN T (aI h 83) p) c0 y0 s l r c) 0 ≤ 0 then 0 else (1 : Int32) <<< (Int32.ofNat c &&& 31))) (fun k v => ?_) (fun k v i hi => ?_) 0 (by decide)
      · show D_X11_ends_34b _ g2 (some 81) (Int32.ofNat s) (Int32.ofNat l) (Int32.ofNat r) v (Int32.ofNat 25) = _
        unfold D_X11_ends_34b
        rw [if_pos (by decide)]
      · show D_X11_ends_34b (D_X11_ends_34 k) g2 (some 81) (Int32.ofNat s) (Int32.ofNat l) (Int32.ofNat r) v (Int32.ofNat i) = _
        unfold D_X11_ends_34b D_X11_ends_70
        rw [if_neg (fun z => by have := (nat_le (a := 25) (b := i) (by decide) (by omega)).mp z; omega), s_gQ (r := 103) o2.1 rfl rfl, Option.bind_some, d_place, Option.bind_some]
        dsimp only
        rw [jR (n := 8575) o2.1 rfl (pl3_lt hss hl hr' hi) (by decide), Option.bind_some, w2 i hi, show Int32.ofNat i + 1 = Int32.ofNat (i + 1) from sc_add i 1]
        by_cases q : lg_cmp (wW (tgN T (aI h 83) p) c0 y0 s l r i) 0 ≤ 0
        · rw [if_pos q, if_pos q, Option.bind_some, Option.bind_some]
        · rw [if_neg q, if_neg q, Option.bind_some, Option.bind_some]
  · refine none_q H (x := -1) ?_ ?_
    · show D_X10_ends h (some 0) x a b c = _
      unfold D_X10_ends
      rw [s_ob hs (ci := 10) rfl, Option.bind_some, k1, Option.bind_some]
      dsimp only
      rw [if_pos rfl]
    · show D_X11_ends h (some 81) x a b c = _
      unfold D_X11_ends
      rw [p81 hs, Option.bind_some, s_ob st (ci := 11) rfl, Option.bind_some, k2 _ st c0', Option.bind_some]
      dsimp only
      rw [if_pos rfl]
end WN
