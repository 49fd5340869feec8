/-! how long a part lasts -/
def lastV (T : LawT) (m : Nat → Int32) (p i c y : Nat) : Nat → Nat → Nat → Int32
  | 0, t, w => if 99 ≤ w then Int32.ofNat t else -1
  | d + 1, t, w => if 99 ≤ w then Int32.ofNat t else lastV T m p i c y d (t + 1) (w + tn (wearsV T (WA m p (Int32.ofNat i) (Int32.ofNat w) c y)))
section LA
variable {g g0 : z_H} {m : Nat → Int32} {j : Nat} {h : z_H} {law : Option Nat} {T : LawT}
theorem wears_tn (T : LawT) (w : Nat → Int32) : wearsV T w = Int32.ofNat (tn (wearsV T w)) ∧ tn (wearsV T w) ≤ 9 := by
  obtain ⟨v, hv, e⟩ := wears_nb T w
  rw [e, tn_of (by omega)]
  exact ⟨rfl, hv⟩
theorem c_lastsL (hs0 : Sh g0) (Y : Yrel g0 1 m) {k : Int32} (dl : D_X9_lawInForce g0 (some 1) = some (law, g0)) (lr : LawR g0 m k law T) {p i c y : Nat} (hp : p < 6) (hi : i < 4) (e8 : m (8 + p) = Int32.ofNat c) (hc : c < 25) (e14 : m (14 + p) = Int32.ofNat y) (hy : y < 4) : ∀ (d t w fuel : Nat) (g : z_H), t + d = 200 → w ≤ 107 → d < fuel → Sh g → Tch [29, 30, 31] g0 g → ∃ g', Sh g' ∧ Tch [29, 30, 31] g0 g' ∧ D_X10_lasts_33 fuel g (some 0) (Int32.ofNat p) (Int32.ofNat i) (Int32.ofNat w) (Int32.ofNat t) = some (lastV T m p i c y d t w, g') := by
  have ha : isY 1 := Or.inl rfl
  intro d
  induction d with
  | zero =>
    intro t w fuel g ht hw hf hs T0
    obtain ⟨fuel, rfl⟩ : ∃ f, fuel = f + 1 := ⟨fuel - 1, by omega⟩
    refine ⟨g, hs, T0, ?_⟩
    show D_X10_lasts_33b (D_X10_lasts_33 fuel) g (some 0) (Int32.ofNat p) (Int32.ofNat i) (Int32.ofNat w) (Int32.ofNat t) = _
    unfold D_X10_lasts_33b D_X10_lasts_85 lastV
    rw [if_pos (show (200 : Int32) ≤ Int32.ofNat t from (nat_le (a := 200) (by decide) (by omega)).mpr (by omega))]
    have le : ((99 : Int32) ≤ Int32.ofNat w) ↔ 99 ≤ w := nat_le (a := 99) (by decide) (by omega)
    by_cases q : 99 ≤ w
    · rw [if_pos (le.mpr q), if_pos q]
    · rw [if_neg (fun z => q (le.mp z)), if_neg q]
  | succ d ih =>
    intro t w fuel g ht hw hf hs T0
    obtain ⟨fuel, rfl⟩ : ∃ f, fuel = f + 1 := ⟨fuel - 1, by omega⟩
    have le : ((99 : Int32) ≤ Int32.ofNat w) ↔ 99 ≤ w := nat_le (a := 99) (by decide) (by omega)
    have st : D_X10_lasts_33 (fuel + 1) g (some 0) (Int32.ofNat p) (Int32.ofNat i) (Int32.ofNat w) (Int32.ofNat t) = D_X10_lasts_33b (D_X10_lasts_33 fuel) g (some 0) (Int32.ofNat p) (Int32.ofNat i) (Int32.ofNat w) (Int32.ofNat t) := rfl
    rw [st]
    unfold D_X10_lasts_33b D_X10_lasts_85 lastV
    rw [if_neg (show ¬ (200 : Int32) ≤ Int32.ofNat t from fun z => by have := (nat_le (a := 200) (b := t) (by decide) (by omega)).mp z; omega)]
    by_cases q : 99 ≤ w
    · rw [if_pos (le.mpr q), if_pos q]
      exact ⟨g, hs, T0, by rw [if_pos (le.mpr q)]⟩
    · have Y1 := Yrel_T Y T0 (isY_S ha (by decide)) (by decide)
      have d1 := lawF_T hs0 ha dl hs T0 (by decide) Y
      have lr1 := lr.T T0 (by decide)
      obtain ⟨c', y', -, -, m8, m14, a2, a3, -, -⟩ := Y1.at hp
      have pl := placeY hs ha hp (a2.trans (m8.symm.trans e8)) (a3.trans (m14.symm.trans e14))
      obtain ⟨g1, s1, T1, w1⟩ := cI_wears hs ha Y1 lr1 (p := p) (j := i) hp hi hc hy (worn := Int32.ofNat w) (by rw [of_int (by omega)]; omega)
      obtain ⟨ev, hv⟩ := wears_tn T (WA m p (Int32.ofNat i) (Int32.ofNat w) c y)
      obtain ⟨g', s', T', e'⟩ := ih (t + 1) (w + tn (wearsV T (WA m p (Int32.ofNat i) (Int32.ofNat w) c y))) fuel g1 (by omega) (by omega) (by omega) s1 (T0.trans T1)
      refine ⟨g', s', T', ?_⟩
      rw [if_neg (fun z => q (le.mp z)), if_neg q, s_gQ (r := 29) hs rfl rfl, Option.bind_some, s_gQ (r := 1) hs rfl rfl, Option.bind_some, Option.bind_some, (yR hs ha).1, Option.bind_some, d1, Option.bind_some]
      dsimp only
      rw [s_gQ (r := 1) hs rfl rfl, Option.bind_some, (yR hs ha).1, Option.bind_some, pl, Option.bind_some]
      dsimp only
      have es : Int32.ofNat w + wearsV T (WA m p (Int32.ofNat i) (Int32.ofNat w) c y) = Int32.ofNat (w + tn (wearsV T (WA m p (Int32.ofNat i) (Int32.ofNat w) c y))) := (congrArg (fun z => Int32.ofNat w + z) ev).trans (sc_add _ _)
      rw [s_ob hs (ci := 1) rfl, Option.bind_some, w1, Option.bind_some, Option.bind_some, Option.bind_some, show Int32.ofNat t + 1 = Int32.ofNat (t + 1) from sc_add t 1]
      dsimp only
      rw [es]
      exact e'
theorem RowB_w {v : Int32} (R : RowB m) {k : Nat} (hk : k < 24) (hv : nb v 99) : RowB (upd m (20 + k) v) := by
  obtain ⟨r1, r2, r3, r4, r5, r6⟩ := R
  refine ⟨fun p hp => ?_, fun i hi => nb_upd (r2 i hi) hv, by rw [upd_ne (by omega)]; exact r3, by rw [upd_ne (by omega)]; exact r4, by rw [upd_ne (by omega)]; exact r5, by rw [upd_ne (by omega)]; exact r6⟩
  rw [upd_ne (by omega), upd_ne (by omega), upd_ne (by omega)]
  exact r1 p hp
theorem RA_w {S ks : List Nat} (H : RA g0 law T) (o : OnM S ks g0 g) (b : low S = true) (k20 : 20 ∉ ks) {k : Nat} (hk : k < 24) {v : Int32} (hv : nb v 99) (e : aI g 83 = upd (aI g0 83) (20 + k) v) : RA g law T := by
  obtain ⟨h1, h2, h3, h4⟩ := H
  refine ⟨o.1, by rw [(o.2.2 20 k20).1]; exact h2, by rw [e]; exact RowB_w h3 hk hv, ?_⟩
  rw [e, upd_ne (show (3 : Nat) ≠ 20 + k by omega)]
  exact LawR_upd (h4.T o.2.1 b) (by omega)
theorem WA_w {p c y k : Nat} (hp : p < 6) (hk : k < 24) {v part worn : Int32} : WA (upd m (20 + k) v) p part worn c y = WA m p part worn c y := by
  unfold WA
  rw [upd_ne (by omega), upd_ne (by omega), upd_ne (by omega)]
theorem m_lastsL (H : RA g0 law T) {p i c y : Nat} (hp : p < 6) (hi : i < 4) (e8 : aI g0 83 (8 + p) = Int32.ofNat c) (e14 : aI g0 83 (14 + p) = Int32.ofNat y) (hc : c < 25) (hy : y < 4) : ∀ (d t w fuel : Nat) (g : z_H), t + d = 200 → w ≤ 107 → d + 1 < fuel → OnM [83, 81, 99, 101] [0, 34, 38, 39, 40] g0 g → aI g 83 = upd (aI g0 83) (20 + (4 * p + i)) (Int32.ofNat (min w 99)) → ∃ g', OnM [81, 99, 101] [0, 34, 38, 39, 40] g0 g' ∧ D_X11_lasts_32 fuel g (some 81) (Int32.ofNat p) (Int32.ofNat i) (aI g0 83 (20 + 4 * p + i)) (Int32.ofNat t) = some (lastV T (aI g0 83) p i c y d t w, g') := by
  have as : 20 + 4 * p + i = 20 + (4 * p + i) := Nat.add_assoc _ _ _
  have ei : (20 : Int32) + 4 * Int32.ofNat p + Int32.ofNat i = Int32.ofNat (20 + 4 * p + i) := by rw [show (20 : Int32) = Int32.ofNat 20 from rfl, show (4 : Int32) = Int32.ofNat 4 from rfl, sc_mul, sc_add, sc_add]
  have d69 : ∀ (g : z_H) (t w : Nat), OnM [83, 81, 99, 101] [0, 34, 38, 39, 40] g0 g → aI g 83 = upd (aI g0 83) (20 + (4 * p + i)) (Int32.ofNat (min w 99)) → t < 300 → ∃ g', OnM [81, 99, 101] [0, 34, 38, 39, 40] g0 g' ∧ D_X11_lasts_69 g (some 81) (Int32.ofNat p) (Int32.ofNat i) (aI g0 83 (20 + 4 * p + i)) (Int32.ofNat t) = some (if t ≤ 200 then Int32.ofNat t else -1, g') := fun g t w o e ht => by
    have o2 : OnM [83, 81, 99, 101] [0, 34, 38, 39, 40] g0 (wA g 83 (upd (aI g 83) (20 + 4 * p + i) (aI g0 83 (20 + 4 * p + i)))) := o.trans ⟨Sh_wA o.1 rfl _, Tch_wA (Tch_rfl _ g) (by decide) _, fun _ _ => ⟨fI_wA _ _ _ _, fJ_wA _ _ _ _⟩⟩
    have e2 : aI (wA g 83 (upd (aI g 83) (20 + 4 * p + i) (aI g0 83 (20 + 4 * p + i)))) 83 = aI g0 83 := by
      rw [aI_wA_eq o.1 rfl, e, as, upd_upd, upd_self]
    refine ⟨_, o2.drop H.1 e2, ?_⟩
    unfold D_X11_lasts_69
    rw [s_gQ (r := 83) o.1 rfl rfl, Option.bind_some, ei, w83 o.1 (by omega), Option.bind_some]
    have le : (Int32.ofNat t ≤ 200) ↔ t ≤ 200 := nat_le (b := 200) (by omega) (by decide)
    by_cases q : t ≤ 200
    · rw [if_pos (le.mpr q), if_pos q]
    · rw [if_neg (fun z => q (le.mp z)), if_neg q]
  have one : ∀ (g : z_H) (t w fuel : Nat), OnM [83, 81, 99, 101] [0, 34, 38, 39, 40] g0 g → aI g 83 = upd (aI g0 83) (20 + (4 * p + i)) (Int32.ofNat (min w 99)) → w < 99 → t ≤ 200 → ∃ g', OnM [83, 81, 99, 101] [0, 34, 38, 39, 40] g0 g' ∧ aI g' 83 = upd (aI g0 83) (20 + (4 * p + i)) (Int32.ofNat (min (w + tn (wearsV T (WA (aI g0 83) p (Int32.ofNat i) (Int32.ofNat w) c y))) 99)) ∧ D_X11_lasts_32 (fuel + 1) g (some 81) (Int32.ofNat p) (Int32.ofNat i) (aI g0 83 (20 + 4 * p + i)) (Int32.ofNat t) = D_X11_lasts_32 fuel g' (some 81) (Int32.ofNat p) (Int32.ofNat i) (aI g0 83 (20 + 4 * p + i)) (Int32.ofNat (t + 1)) := fun g t w fuel o e hw ht => by
    have ra := RA_w H o (by decide) (by decide) (k := 4 * p + i) (by omega) ⟨min w 99, rfl, by omega⟩ e
    have wv : aI g 83 (20 + 4 * p + i) = Int32.ofNat w := by rw [e, as, upd_eq, Nat.min_eq_left (by omega)]
    obtain ⟨g1, g2, o1, c1, o2, c2, v, dv, dw⟩ := m_wearIt ra hp hi
    have t8 : tn (aI g 83 (8 + p)) = c := by rw [e, upd_ne (by omega), e8]; exact tn_of (by omega)
    have t14 : tn (aI g 83 (14 + p)) = y := by rw [e, upd_ne (by omega), e14]; exact tn_of (by omega)
    obtain ⟨ev, hv⟩ := wears_tn T (WA (aI g0 83) p (Int32.ofNat i) (Int32.ofNat w) c y)
    refine ⟨g2, o.trans (o2.mono (by decide) (by decide)), ?_, ?_⟩
    · rw [c2, e, as, upd_upd]
      congr 1
      unfold wornV
      rw [← e, t8, t14, wv, e, WA_w hp (by omega), ev, sc_add, minV_of (by omega), ← ev]
    · show D_X11_lasts_32b (D_X11_lasts_32 fuel) g (some 81) (Int32.ofNat p) (Int32.ofNat i) (aI g0 83 (20 + 4 * p + i)) (Int32.ofNat t) = _
      unfold D_X11_lasts_32b
      rw [if_neg (show ¬ (200 : Int32) < Int32.ofNat t from fun z => by have := (nat_lt (a := 200) (b := t) (by decide) (by omega)).mp z; omega), s_ob o.1 (ci := 11) rfl, Option.bind_some, wornM o.1 hp hi, Option.bind_some]
      dsimp only
      rw [wv, if_neg (show ¬ (99 : Int32) ≤ Int32.ofNat w from fun z => by have := (nat_le (a := 99) (b := w) (by decide) (by omega)).mp z; omega), s_ob o.1 (ci := 11) rfl, Option.bind_some, dv, Option.bind_some]
      dsimp only
      rw [s_ob o1.1 (ci := 11) rfl, Option.bind_some, dw, Option.bind_some, Option.bind_some, show Int32.ofNat t + 1 = Int32.ofNat (t + 1) from sc_add t 1]
  have out : ∀ (g : z_H) (t w fuel : Nat), OnM [83, 81, 99, 101] [0, 34, 38, 39, 40] g0 g → aI g 83 = upd (aI g0 83) (20 + (4 * p + i)) (Int32.ofNat (min w 99)) → t ≤ 200 → 99 ≤ w → ∃ g', OnM [81, 99, 101] [0, 34, 38, 39, 40] g0 g' ∧ D_X11_lasts_32 (fuel + 1) g (some 81) (Int32.ofNat p) (Int32.ofNat i) (aI g0 83 (20 + 4 * p + i)) (Int32.ofNat t) = some (Int32.ofNat t, g') := fun g t w fuel o e ht hw => by
    obtain ⟨g', o', d'⟩ := d69 g t w o e (by omega)
    have wv : aI g 83 (20 + 4 * p + i) = 99 := by rw [e, as, upd_eq, Nat.min_eq_right (by omega)]; rfl
    refine ⟨g', o', ?_⟩
    show D_X11_lasts_32b (D_X11_lasts_32 fuel) g (some 81) (Int32.ofNat p) (Int32.ofNat i) (aI g0 83 (20 + 4 * p + i)) (Int32.ofNat t) = _
    unfold D_X11_lasts_32b
    rw [if_neg (show ¬ (200 : Int32) < Int32.ofNat t from fun z => by have := (nat_lt (a := 200) (b := t) (by decide) (by omega)).mp z; omega), s_ob o.1 (ci := 11) rfl, Option.bind_some, wornM o.1 hp hi, Option.bind_some]
    dsimp only
    rw [wv, if_pos (by decide), d', if_pos ht]
  intro d
  induction d with
  | zero =>
    intro t w fuel g ht hw hf o e
    have t200 : t = 200 := by omega
    subst t200
    unfold lastV
    by_cases q : 99 ≤ w
    · obtain ⟨fuel, rfl⟩ : ∃ f, fuel = f + 1 := ⟨fuel - 1, by omega⟩
      rw [if_pos q]
      exact out g 200 w fuel o e (by omega) q
    · obtain ⟨fuel, rfl⟩ : ∃ f, fuel = f + 1 + 1 := ⟨fuel - 2, by omega⟩
      obtain ⟨g1, o1, e1, d1⟩ := one g 200 w (fuel + 1) o e (by omega) (by omega)
      obtain ⟨g', o', d'⟩ := d69 g1 201 _ o1 e1 (by omega)
      refine ⟨g', o', ?_⟩
      rw [d1, if_neg q]
      show D_X11_lasts_32b (D_X11_lasts_32 fuel) g1 (some 81) (Int32.ofNat p) (Int32.ofNat i) (aI g0 83 (20 + 4 * p + i)) (Int32.ofNat 201) = _
      unfold D_X11_lasts_32b
      rw [if_pos (by decide), d', if_neg (by decide)]
  | succ d ih =>
    intro t w fuel g ht hw hf o e
    obtain ⟨fuel, rfl⟩ : ∃ f, fuel = f + 1 := ⟨fuel - 1, by omega⟩
    unfold lastV
    by_cases q : 99 ≤ w
    · rw [if_pos q]
      exact out g t w fuel o e (by omega) q
    · obtain ⟨g1, o1, e1, d1⟩ := one g t w fuel o e (by omega) (by omega)
      obtain ⟨ev, hv⟩ := wears_tn T (WA (aI g0 83) p (Int32.ofNat i) (Int32.ofNat w) c y)
      rw [d1, if_neg q]
      exact ih (t + 1) _ fuel g1 (by omega) (by omega) (by omega) o1 e1
theorem a_lasts (H : Inv j h) (x y : Int32) : Agree Inv j h (fun h => D_X10_lasts h (some 0) x y) (fun h => D_X11_lasts h (some 81) x y) := by
  have hs := H.1
  have st := Sh_t0 hs
  have ha : isY 1 := Or.inl rfl
  obtain ⟨n, hn, e1, e2⟩ := H.np
  have e2' : aI (t0 h) 83 0 = Int32.ofNat n := by rw [aI_wF]; exact e2
  have q0 : z_gQ 10 h (some 0) 0 = some (some 1) := s_gQ hs rfl rfl
  rcases xc x n (by omega) with ⟨p, hp, rfl⟩ | nx
  · rcases xc y 4 (by decide) with ⟨i, hi, rfl⟩ | ny
    · obtain ⟨c, w, hc, hw, m8, m14, c2, c3⟩ := H.at (p := p) (by omega)
      obtain ⟨law, T, dl, lr⟩ := H.law
      obtain ⟨ew, z, hz, ez⟩ := H.Y.worn (p := p) (i := i) (by omega) hi
      obtain ⟨g1, s1, T1, d1⟩ := c_lastsL hs H.Y dl lr (p := p) (i := i) (by omega) hi m8 hc m14 hw 200 0 z z_F h (by decide) (by omega) (by decide) hs (Tch_rfl _ h)
      have ra := (H.RA lr s1 T1 (by decide) (by decide)).on (t0_on s1) (by decide) (by decide) (by decide)
      have c83 : aI (t0 g1) 83 = aI h 83 := by rw [aI_wF]; exact cell_aI (T1.c (by decide))
      have st1 := Sh_t0 s1
      obtain ⟨g2, o2, d2⟩ := m_lastsL ra (p := p) (i := i) (c := c) (y := w) (by omega) hi (by rw [c83]; exact m8) (by rw [c83]; exact m14) hc hw 200 0 z z_F (t0 g1) (by decide) (by omega) (by decide) (OnM.rfl' st1) (by rw [Nat.min_eq_left (by omega), ← ez, ← c83, ← Nat.add_assoc, upd_self])
      rw [c83] at d2
      refine agree_q H (x := lastV T (aI h 83) p i c w 200 0 z) (h1 := g1) (h2 := g2) ?_ (Same_T T1 s1 (by decide)) ?_ ((Same_t0 s1).trans (Same_M o2 (by decide)))
      · show D_X10_lasts h (some 0) (Int32.ofNat p) (Int32.ofNat i) = _
        unfold D_X10_lasts
        rw [q0, Option.bind_some, (yR hs ha).1, Option.bind_some, hasP1 hs ha e1 (by omega) hp, Option.bind_some]
        dsimp only
        rw [if_neg one_ne, partC1 hi, Option.bind_some]
        dsimp only
        rw [if_neg one_ne, q0, Option.bind_some, (yR hs ha).1, Option.bind_some, wornC hs ha (by omega) hi, Option.bind_some]
        dsimp only
        rw [← ew, ez]
        exact d1
      · show D_X11_lasts g1 (some 81) (Int32.ofNat p) (Int32.ofNat i) = _
        unfold D_X11_lasts
        rw [p81 s1, Option.bind_some, s_ob st1 (ci := 11) rfl, Option.bind_some, isP1 st1 (by rw [c83]; exact e2) hn hp, Option.bind_some]
        dsimp only
        rw [if_neg one_ne, partM1 hi, Option.bind_some]
        dsimp only
        rw [if_neg one_ne, s_ob st1 (ci := 11) rfl, Option.bind_some, wornM st1 (by omega) hi, Option.bind_some]
        dsimp only
        rw [c83]
        exact d2
    · refine none_q H (x := -1) ?_ ?_
      · show D_X10_lasts h (some 0) (Int32.ofNat p) y = _
        unfold D_X10_lasts
        rw [q0, Option.bind_some, (yR hs ha).1, Option.bind_some, hasP1 hs ha e1 (by omega) hp, Option.bind_some]
        dsimp only
        rw [if_neg one_ne, partC0 ny, Option.bind_some]
        dsimp only
        rw [if_pos rfl]
      · show D_X11_lasts h (some 81) (Int32.ofNat p) y = _
        unfold D_X11_lasts
        rw [p81 hs, Option.bind_some, s_ob st (ci := 11) rfl, Option.bind_some, isP1 st e2' hn hp, Option.bind_some]
        dsimp only
        rw [if_neg one_ne, partM0 ny, Option.bind_some]
        dsimp only
        rw [if_pos rfl]
  · refine none_q H (x := -1) ?_ ?_
    · show D_X10_lasts h (some 0) x y = _
      unfold D_X10_lasts
      rw [q0, Option.bind_some, (yR hs ha).1, Option.bind_some, hasP0 hs ha e1 (by omega) nx, Option.bind_some]
      dsimp only
      rw [if_pos rfl]
    · show D_X11_lasts h (some 81) x y = _
      unfold D_X11_lasts
      rw [p81 hs, Option.bind_some, s_ob st (ci := 11) rfl, Option.bind_some, isP0 st e2' hn nx, Option.bind_some]
      dsimp only
      rw [if_pos rfl]
end LA
