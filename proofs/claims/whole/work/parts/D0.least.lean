/-! least, in the reference -/
section LE
variable {g1 g g0 : z_H} {tg : Nat → Option Nat} {v : Nat → Nat} {law : Option Nat} {T : LawT} {p : Nat}
def ptN (a : Nat) : Nat := if a = 0 then 0 else a + 1
def lwN (T : LawT) (m : Nat → Int32) (p k a : Nat) : Nat := tn (wearsV T (WA m p (Int32.ofNat (ptN a)) (m (20 + 4 * p + ptN a)) (k / 4) (k % 4)))
theorem lwN_le (T : LawT) (m : Nat → Int32) (p k a : Nat) : lwN T m p k a ≤ 9 := (wears_tn _ _).2
def LW (g1 g : z_H) (v : Nat → Nat) : Prop := OnM [81, 99, 101, 105] [34, 38, 39, 40] g1 g ∧ (∀ k, k < 100 → aI g 105 k = Int32.ofNat (v k)) ∧ ∀ k, k < 100 → v k ≤ FR
theorem m_wrs (H : RA g1 law T) (hp : p < 6) (ok : tgOK tg) (al : ∀ k, k < 100 → aI g1 102 k = enc (tg k)) (L : LW g1 g v) {k a : Nat} (hk : k < 100) (ha : a < 3) (fl : Bool) (k63 : z_H → Option Nat → Int32 → Int32 → Option (Int32 × z_H)) (k72 : z_H → Option Nat → Int32 → Int32 → Int32 → Option (Int32 × z_H)) (k82 : z_H → Option Nat → Int32 → Int32 → Int32 → Int32 → Option (Int32 × z_H)) : ∃ g', LW g1 g' (rs (nxt tg) (lwN T (aI g1 83) p) k a (v, fl)).1 ∧ D_X11_least_82b k63 k72 k82 g (some 81) (Int32.ofNat p) (b01 fl) (Int32.ofNat k) (Int32.ofNat a) = k82 g' (some 81) (Int32.ofNat p) (b01 (rs (nxt tg) (lwN T (aI g1 83) p) k a (v, fl)).2) (Int32.ofNat k) (Int32.ofNat (a + 1)) := by
  have hs := L.1.1
  have al' : ∀ k, k < 100 → aI g 102 k = enc (tg k) := fun k hk => by rw [cell_aI (L.1.2.1.c (by decide))]; exact al k hk
  have aa : Int32.ofNat a + 1 = Int32.ofNat (a + 1) := sc_add a 1
  have rd : ∀ {i}, i < 100 → z_aI .int g (some 105) (Int32.ofNat i) = some (Int32.ofNat (v i)) := fun {i} hi => by
    rw [aR hs (n := 100) rfl hi (by decide), L.2.1 i hi]
  have q44 : z_gQ 11 g (some 81) 44 = some (some 105) := s_gQ hs rfl rfl
  have b1 := L.2.2 k hk
  have t117 : D_X11_least_117 k63 k72 k82 g (some 81) (Int32.ofNat p) (b01 fl) (Int32.ofNat k) (Int32.ofNat a) = k82 g (some 81) (Int32.ofNat p) (b01 fl) (Int32.ofNat k) (Int32.ofNat (a + 1)) := by
    unfold D_X11_least_117 D_X11_least_157 D_X11_least_182
    rw [q44, Option.bind_some, rd hk, Option.bind_some, if_pos (show Int32.ofNat (v k) ≤ 100000000 from (nat_le (b := 100000000) (by unfold FR at b1; omega) (by decide)).mpr b1), Option.bind_some, aa]
  unfold D_X11_least_82b rs
  rw [if_neg (show ¬ (3 : Int32) ≤ Int32.ofNat a from fun z => by have := (nat_le (a := 3) (b := a) (by decide) (by omega)).mp z; omega), s_ob hs (ci := 11) rfl, Option.bind_some, m_acted hs ok al' hk ha, Option.bind_some]
  dsimp only
  cases e : nxt tg k a with
  | none =>
    dsimp only
    refine ⟨g, L, ?_⟩
    rw [if_pos (show enc none = -1 from rfl), t117]
  | some k' =>
    have hk' := nxt_lt ok hk e
    have b2 := L.2.2 k' hk'
    dsimp only
    rw [if_neg (show ¬ enc (some k') = -1 from of_nm1 (by omega)), q44, Option.bind_some, show enc (some k') = Int32.ofNat k' from rfl, rd hk', Option.bind_some]
    by_cases cF : v k' = FR
    · rw [if_pos (show Int32.ofNat (v k') = 100000000 by rw [cF]; rfl), t117, if_neg (show ¬ v k' + lwN T (aI g1 83) p k a < v k by omega)]
      exact ⟨g, L, rfl⟩
    · rw [if_neg (show ¬ Int32.ofNat (v k') = 100000000 from fun z => cF ((eq_lit (b := 100000000) (by unfold FR at b2; omega) (by decide)).mp z)), Option.bind_some, rd hk', Option.bind_some]
      have hw := lwN_le T (aI g1 83) p k a
      have Hg := H.on L.1 (by decide) (by decide) (by decide)
      have c83 : aI g 83 = aI g1 83 := cell_aI (L.1.2.1.c (by decide))
      obtain ⟨g', o', d'⟩ := mI_wearsAt Hg (p := p) (j := ptN a) (c := k / 4) (y := k % 4) hp (by unfold ptN; split <;> omega)
      rw [c83, (wears_tn _ _).1] at d'
      have L' : LW g1 g' v := ⟨L.1.trans (o'.mono (by decide) (by decide)), fun i hi => by rw [cell_aI (o'.2.1.c (by decide))]; exact L.2.1 i hi, L.2.2⟩
      have kd : Int32.ofNat k / 4 = Int32.ofNat (k / 4) := sc_div (b := 4) (by omega) (by decide) (by decide)
      have km : Int32.ofNat k - Int32.ofNat k / 4 * 4 = Int32.ofNat (k % 4) := sc_mod (b := 4) (by omega) (by decide) (by decide)
      have t145 : ∃ g2, LW g1 g2 (if v k' + lwN T (aI g1 83) p k a < v k then (updN v k (v k' + lwN T (aI g1 83) p k a), true) else (v, fl)).1 ∧ D_X11_least_145 k63 k72 k82 g (some 81) (Int32.ofNat p) (b01 fl) (Int32.ofNat k) (Int32.ofNat a) (Int32.ofNat (v k')) (some 81) (Int32.ofNat p) (Int32.ofNat (ptN a)) = k82 g2 (some 81) (Int32.ofNat p) (b01 (if v k' + lwN T (aI g1 83) p k a < v k then (updN v k (v k' + lwN T (aI g1 83) p k a), true) else (v, fl)).2) (Int32.ofNat k) (Int32.ofNat (a + 1)) := by
        have hs' := o'.1
        unfold D_X11_least_145 D_X11_least_157 D_X11_least_182
        rw [s_ob hs (ci := 11) rfl, Option.bind_some, km, kd, d', Option.bind_some]
        dsimp only
        rw [show (tn (wearsV T (WA (aI g1 83) p (Int32.ofNat (ptN a)) (aI g1 83 (20 + 4 * p + ptN a)) (k / 4) (k % 4)))) = lwN T (aI g1 83) p k a from rfl, sc_add, s_gQ (r := 105) hs' rfl rfl, Option.bind_some, aR hs' (n := 100) rfl hk (by decide), L'.2.1 k hk, Option.bind_some]
        by_cases c : v k' + lwN T (aI g1 83) p k a < v k
        · rw [if_pos c, if_neg (show ¬ Int32.ofNat (v k) ≤ Int32.ofNat (v k' + lwN T (aI g1 83) p k a) from fun z => by have := (nat_le (by unfold FR at *; omega) (by unfold FR at *; omega)).mp z; omega), Option.bind_some, aW hs' (n := 100) rfl hk (by decide), Option.bind_some, Option.bind_some, aa]
          refine ⟨_, ⟨L'.1.trans (onA hs' rfl (by decide) _), fun i hi => ?_, fun i hi => ?_⟩, rfl⟩
          · rw [aI_wA_eq hs' rfl]
            show _ = Int32.ofNat (updN v k _ i)
            unfold updN
            by_cases q : i = k
            · rw [if_pos q, q, upd_eq]
            · rw [if_neg q, upd_ne q]; exact L'.2.1 i hi
          · show updN v k _ i ≤ FR
            unfold updN
            by_cases q : i = k
            · rw [if_pos q]; omega
            · rw [if_neg q]; exact L.2.2 i hi
        · rw [if_neg c, if_pos (show Int32.ofNat (v k) ≤ Int32.ofNat (v k' + lwN T (aI g1 83) p k a) from (nat_le (by unfold FR at *; omega) (by unfold FR at *; omega)).mpr (by omega)), Option.bind_some, aa]
          exact ⟨g', L', rfl⟩
      by_cases a0 : a = 0
      · rw [if_pos (show Int32.ofNat a = 0 by rw [a0]; rfl)]
        rw [show Int32.ofNat (ptN a) = 0 by rw [a0]; rfl] at t145
        exact t145
      · rw [if_neg (show ¬ Int32.ofNat a = 0 from fun z => a0 ((eq_lit (b := 0) (by omega) (by decide)).mp z)), aa]
        rw [show ptN a = a + 1 from if_neg a0] at t145
        exact t145
end LE
