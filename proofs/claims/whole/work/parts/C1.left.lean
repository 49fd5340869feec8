/-! the reference's acts that are left -/
section LL
variable {g1 g g0 : z_H} {tg : Nat → Option Nat} {v : Nat → Nat} {law : Option Nat} {T : LawT}
def one' : Nat → Nat → Nat := fun _ _ => 1
def LI (g1 g : z_H) (v : Nat → Nat) : Prop := OnM [104] [] g1 g ∧ (∀ k, k < 100 → aI g 104 k = Int32.ofNat (v k)) ∧ ∀ k, k < 100 → v k ≤ FR
theorem LI_set (L : LI g1 g v) {k x : Nat} (hk : k < 100) (hx : x ≤ FR) : z_sI g (some 104) (Int32.ofNat k) (Int32.ofNat x) = some (wA g 104 (upd (aI g 104) k (Int32.ofNat x))) ∧ LI g1 (wA g 104 (upd (aI g 104) k (Int32.ofNat x))) (updN v k x) := by
  refine ⟨aW L.1.1 (n := 100) rfl hk (by decide) _, L.1.trans (onA L.1.1 rfl (by decide) _), fun i hi => ?_, fun i hi => ?_⟩
  · rw [aI_wA_eq L.1.1 rfl]
    unfold updN
    by_cases q : i = k
    · rw [if_pos q, q, upd_eq]
    · rw [if_neg q, upd_ne q]; exact L.2.1 i hi
  · unfold updN
    by_cases q : i = k
    · rw [if_pos q]; exact hx
    · rw [if_neg q]; exact L.2.2 i hi
theorem nxt_ok (ok : tgOK tg) {w : Nat → Nat → Nat} {Wm : Nat} (hw : ∀ k a, k < 100 → a < 3 → w k a ≤ Wm) (hm : Wm ≤ 99) : GOK (nxt tg) w Wm := ⟨fun _ _ _ hk _ e => nxt_lt ok hk e, hw, hm⟩
theorem m_lrs (ok : tgOK tg) (al : ∀ k, k < 100 → aI g1 102 k = enc (tg k)) (L : LI g1 g v) {k a : Nat} (hk : k < 100) (ha : a < 3) (fl : Bool) (k41 : z_H → Option Nat → Int32 → Option z_H) (k50 : z_H → Option Nat → Int32 → Int32 → Option z_H) (k60 : z_H → Option Nat → Int32 → Int32 → Int32 → Option z_H) : ∃ g', LI g1 g' (rs (nxt tg) one' k a (v, fl)).1 ∧ D_X11_layLeft_60b k41 k50 k60 g (some 81) (b01 fl) (Int32.ofNat k) (Int32.ofNat a) = k60 g' (some 81) (b01 (rs (nxt tg) one' k a (v, fl)).2) (Int32.ofNat k) (Int32.ofNat (a + 1)) := by
  have hs := L.1.1
  have al' : ∀ k, k < 100 → aI g 102 k = enc (tg k) := fun k hk => by rw [cell_aI (L.1.2.1.c (by decide))]; exact al k hk
  have aa : Int32.ofNat a + 1 = Int32.ofNat (a + 1) := sc_add a 1
  have rd : ∀ {i}, i < 100 → z_aI .int g (some 104) (Int32.ofNat i) = some (Int32.ofNat (v i)) := fun {i} hi => by
    rw [aR hs (n := 100) rfl hi (by decide), L.2.1 i hi]
  have q43 : z_gQ 11 g (some 81) 43 = some (some 104) := s_gQ hs rfl rfl
  unfold D_X11_layLeft_60b D_X11_layLeft_119 rs
  rw [if_neg (show ¬ (3 : Int32) ≤ Int32.ofNat a from fun z => by have := (nat_le (a := 3) (b := a) (by decide) (by omega)).mp z; omega), s_ob hs (ci := 11) rfl, Option.bind_some, m_acted hs ok al' hk ha, Option.bind_some]
  dsimp only
  cases e : nxt tg k a with
  | none =>
    dsimp only
    refine ⟨g, L, ?_⟩
    rw [if_pos (show enc none = -1 from rfl), Option.bind_some, aa]
  | some k' =>
    have hk' := nxt_lt ok hk e
    have b1 := L.2.2 k hk
    have b2 := L.2.2 k' hk'
    dsimp only
    rw [if_neg (show ¬ enc (some k') = -1 from of_nm1 (by omega)), q43, Option.bind_some, show enc (some k') = Int32.ofNat k' from rfl, rd hk', Option.bind_some, Option.bind_some, rd hk, Option.bind_some, show Int32.ofNat (v k') + 1 = Int32.ofNat (v k' + 1) from sc_add _ 1]
    by_cases c : v k' + one' k a < v k
    · have c' : v k' + 1 < v k := c
      obtain ⟨w1, L1⟩ := LI_set L hk (x := v k' + 1) (by omega)
      rw [if_neg (show ¬ Int32.ofNat (v k) ≤ Int32.ofNat (v k' + 1) from fun z => by have := (nat_le (by unfold FR at *; omega) (by unfold FR at *; omega)).mp z; omega), if_pos c, Option.bind_some, Option.bind_some, rd hk', Option.bind_some, show Int32.ofNat (v k') + 1 = Int32.ofNat (v k' + 1) from sc_add _ 1, w1, Option.bind_some, Option.bind_some, aa]
      exact ⟨_, L1, rfl⟩
    · have c' : ¬ v k' + 1 < v k := c
      rw [if_pos (show Int32.ofNat (v k) ≤ Int32.ofNat (v k' + 1) from (nat_le (by unfold FR at *; omega) (by unfold FR at *; omega)).mpr (by omega)), if_neg c, Option.bind_some, aa]
      exact ⟨g, L, rfl⟩
theorem m_lround (ok : tgOK tg) (al : ∀ k, k < 100 → aI g1 102 k = enc (tg k)) (L : LI g1 g v) (k41 : z_H → Option Nat → Int32 → Option z_H) : ∃ g', LI g1 g' (rRound (nxt tg) one' (v, false)).1 ∧ D_X11_layLeft_50 k41 z_F g (some 81) 0 0 = k41 g' (some 81) (b01 (rRound (nxt tg) one' (v, false)).2) := by
  have lp := loop_up (S := z_H × ((Nat → Nat) × Bool)) (I := fun k s => LI g1 s.1 s.2.1 ∧ s.2 = foldN (fun k s => foldN (fun a s => rs (nxt tg) one' k a s) 3 s) k (v, false)) (F := fun m s k => D_X11_layLeft_50 k41 m s.1 (some 81) (b01 s.2.2) (Int32.ofNat k)) (G := fun s => k41 s.1 (some 81) (b01 s.2.2)) (N := 100) (fun m s _ => ?_) (fun m s k hk I => ?_) 100 0 z_F (g, (v, false)) (by decide) (by decide) (by show _ < 1000000; decide) ⟨L, rfl⟩
  · obtain ⟨s, ⟨L', e'⟩, e⟩ := lp
    unfold rRound
    rw [← e']
    exact ⟨s.1, L', e⟩
  · show D_X11_layLeft_50b k41 _ s.1 (some 81) (b01 s.2.2) (Int32.ofNat 100) = _
    unfold D_X11_layLeft_50b
    rw [if_pos (by decide)]
  · show ∃ s', _ ∧ D_X11_layLeft_50b k41 (D_X11_layLeft_50 k41 m) s.1 (some 81) (b01 s.2.2) (Int32.ofNat k) = _
    unfold D_X11_layLeft_50b
    rw [if_neg (show ¬ (100 : Int32) ≤ Int32.ofNat k from fun z => by have := (nat_le (a := 100) (b := k) (by decide) (by omega)).mp z; omega)]
    have ip := loop_up (S := z_H × ((Nat → Nat) × Bool)) (I := fun a t => LI g1 t.1 t.2.1 ∧ t.2 = foldN (fun a s => rs (nxt tg) one' k a s) a s.2) (F := fun m' t a => D_X11_layLeft_60 k41 (D_X11_layLeft_50 k41 m) m' t.1 (some 81) (b01 t.2.2) (Int32.ofNat k) (Int32.ofNat a)) (G := fun t => D_X11_layLeft_50 k41 m t.1 (some 81) (b01 t.2.2) (Int32.ofNat (k + 1))) (N := 3) (fun m' t _ => ?_) (fun m' t a ha J => ?_) 3 0 z_F s (by decide) (by decide) (by show _ < 1000000; decide) ⟨I.1, rfl⟩
    · obtain ⟨t, ⟨L', e'⟩, e⟩ := ip
      refine ⟨t, ⟨L', ?_⟩, e⟩
      rw [e', I.2]
      rfl
    · show D_X11_layLeft_60b k41 (D_X11_layLeft_50 k41 m) _ t.1 (some 81) (b01 t.2.2) (Int32.ofNat k) (Int32.ofNat 3) = _
      unfold D_X11_layLeft_60b
      rw [if_pos (by decide), Option.bind_some, show Int32.ofNat k + 1 = Int32.ofNat (k + 1) from sc_add k 1]
    · obtain ⟨gt', vt, ft⟩ := t
      obtain ⟨g', L', e'⟩ := m_lrs ok al J.1 hk ha ft k41 (D_X11_layLeft_50 k41 m) (D_X11_layLeft_60 k41 (D_X11_layLeft_50 k41 m) m')
      refine ⟨(g', rs (nxt tg) one' k a (vt, ft)), ⟨L', ?_⟩, e'⟩
      have := J.2
      dsimp only at this ⊢
      rw [this]
      rfl
def gl (c : Nat) : Nat → Prop := fun k => k / 4 = c
def v00 (c k : Nat) : Nat := if k / 4 = c then 0 else FR
theorem RV_00 {N : Nat → Nat → Option Nat} {w : Nat → Nat → Nat} {Wm : Nat} (c : Nat) : RV N w (gl c) Wm (v00 c) := by
  refine ⟨fun k hk => ?_, fun k hk q => if_pos q⟩
  unfold v00
  by_cases q : k / 4 = c
  · rw [if_pos q]; exact Or.inr ⟨Nat.zero_le _, 0, q, rfl⟩
  · rw [if_neg q]; exact Or.inl rfl
theorem m_layLeft (H : RA g0 law T) {p c : Nat} (hp : p < 6) (hc : c < 25) : ∃ (g' : z_H) (v : Nat → Nat), OnM [81, 99, 101, 102, 104] [34, 38, 39, 40] g0 g' ∧ (∀ k, k < 100 → aI g' 102 k = enc (tgN T (aI g0 83) p k)) ∧ (∀ k, k < 100 → aI g' 104 k = Int32.ofNat (v k)) ∧ (∀ k, k < 100 → lst (nxt (tgN T (aI g0 83) p)) one' (gl c) 1 k (v k)) ∧ D_X11_layLeft g0 (some 81) (Int32.ofNat p) (Int32.ofNat c) = some g' := by
  have ok : tgOK (tgN T (aI g0 83) p) := fun k b hk e => tgN_lt hk e
  have O := nxt_ok ok (w := one') (Wm := 1) (fun _ _ _ _ => Nat.le_refl _) (by decide)
  obtain ⟨g1, o1, al, d1⟩ := m_laySteps H hp
  -- the beginning
  have ini := loop_up (S := z_H) (I := fun i g => OnM [104] [] g1 g ∧ ∀ k, k < i → aI g 104 k = Int32.ofNat (v00 c k)) (F := fun m g i => D_X11_layLeft_7 m g (some 81) (Int32.ofNat c) (Int32.ofNat i)) (G := fun g => D_X11_layLeft_41 z_F g (some 81) 1) (N := 100) (fun m g _ => ?_) (fun m g i hi I => ?_) 100 0 z_F g1 (by decide) (by decide) (by show _ < 1000000; decide) ⟨OnM.rfl' o1.1, fun k hk => by omega⟩
  · obtain ⟨g2, ⟨o2, e2⟩, d2⟩ := ini
    have L : LI g1 g2 (v00 c) := ⟨o2, e2, fun k hk => by unfold v00; split <;> omega⟩
    have mc := mu_cap 1 (v00 c)
    obtain ⟨g3, v3, L3, R3, t3, d3⟩ := rounds (β := z_H) (S := z_H) O (G := gl c) (I := fun g v => LI g1 g v) (F := fun m g b => D_X11_layLeft_41 m g (some 81) (b01 b)) (D := fun g => some g) (fun m g => by
        show D_X11_layLeft_41b _ g (some 81) (b01 false) = _
        unfold D_X11_layLeft_41b
        rw [if_pos (show b01 false = 0 from rfl)]) (fun m g v L _ => by
        obtain ⟨g', L', e'⟩ := m_lround ok al L (D_X11_layLeft_41 m)
        refine ⟨g', L', ?_⟩
        show D_X11_layLeft_41b (D_X11_layLeft_41 m) g (some 81) (b01 true) = _
        unfold D_X11_layLeft_41b
        rw [if_neg (show ¬ b01 true = 0 by decide)]
        exact e') _ _ g2 z_F L (RV_00 c) mc (by show _ < 1000000; decide)
    refine ⟨g3, v3, (o1.mono (by decide) (by decide)).trans (L3.1.mono (by decide) (by decide)), fun k hk => by rw [cell_aI (L3.1.2.1.c (by decide))]; exact al k hk, L3.2.1, fun k hk => found O R3 t3 hk, ?_⟩
    unfold D_X11_layLeft
    rw [s_ob H.1 (ci := 11) rfl, Option.bind_some, d1, Option.bind_some]
    exact d2.trans d3
  · show D_X11_layLeft_7b _ g (some 81) (Int32.ofNat c) (Int32.ofNat 100) = _
    unfold D_X11_layLeft_7b
    rw [if_pos (by decide)]
  · show ∃ g', _ ∧ D_X11_layLeft_7b (D_X11_layLeft_7 m) g (some 81) (Int32.ofNat c) (Int32.ofNat i) = _
    have hs := I.1.1
    refine ⟨wA g 104 (upd (aI g 104) i (Int32.ofNat (v00 c i))), ⟨I.1.trans (onA hs rfl (by decide) _), fun k hk => ?_⟩, ?_⟩
    · rw [aI_wA_eq hs rfl]
      by_cases q : k = i
      · rw [q, upd_eq]
      · rw [upd_ne q]; exact I.2 k (by omega)
    · have ws := fun x => aW hs (a := 104) (n := 100) rfl hi (by decide) x
      unfold D_X11_layLeft_7b D_X11_layLeft_32 v00
      rw [if_neg (show ¬ (100 : Int32) ≤ Int32.ofNat i from fun z => by have := (nat_le (a := 100) (b := i) (by decide) (by omega)).mp z; omega), s_gQ (r := 104) hs rfl rfl, Option.bind_some, show Int32.ofNat i / 4 = Int32.ofNat (i / 4) from sc_div (b := 4) (by omega) (by decide) (by decide)]
      by_cases q : i / 4 = c
      · rw [if_pos (show Int32.ofNat (i / 4) = Int32.ofNat c by rw [q]), if_pos q, ws, Option.bind_some, Option.bind_some, show Int32.ofNat i + 1 = Int32.ofNat (i + 1) from sc_add i 1]
        rfl
      · rw [if_neg (show ¬ Int32.ofNat (i / 4) = Int32.ofNat c from fun z => q ((eq_lit (by omega) (by omega)).mp z)), if_neg q, ws, Option.bind_some, Option.bind_some, show Int32.ofNat i + 1 = Int32.ofNat (i + 1) from sc_add i 1]
        rfl
end LL
