/-! least, in the reference: the rounds -/
section LF
variable {g1 g g0 : z_H} {tg : Nat → Option Nat} {v : Nat → Nat} {law : Option Nat} {T : LawT} {p : Nat}
theorem m_wround (H : RA g1 law T) (hp : p < 6) (ok : tgOK tg) (al : ∀ k, k < 100 → aI g1 102 k = enc (tg k)) (L : LW g1 g v) (k63 : z_H → Option Nat → Int32 → Int32 → Option (Int32 × z_H)) : ∃ g', LW g1 g' (rRound (nxt tg) (lwN T (aI g1 83) p) (v, false)).1 ∧ D_X11_least_72 k63 z_F g (some 81) (Int32.ofNat p) 0 0 = k63 g' (some 81) (Int32.ofNat p) (b01 (rRound (nxt tg) (lwN T (aI g1 83) p) (v, false)).2) := by
  have lp := loop_up (S := z_H × ((Nat → Nat) × Bool)) (I := fun k s => LW g1 s.1 s.2.1 ∧ s.2 = foldN (fun k s => foldN (fun a s => rs (nxt tg) (lwN T (aI g1 83) p) k a s) 3 s) k (v, false)) (F := fun m s k => D_X11_least_72 k63 m s.1 (some 81) (Int32.ofNat p) (b01 s.2.2) (Int32.ofNat k)) (G := fun s => k63 s.1 (some 81) (Int32.ofNat p) (b01 s.2.2)) (N := 100) (fun m s _ => ?_) (fun m s k hk I => ?_) 100 0 z_F (g, (v, false)) (by decide) (by decide) (by show _ < 1000000; decide) ⟨L, rfl⟩
  · obtain ⟨s, ⟨L', e'⟩, e⟩ := lp
    unfold rRound
    rw [← e']
    exact ⟨s.1, L', e⟩
  · show D_X11_least_72b k63 _ s.1 (some 81) (Int32.ofNat p) (b01 s.2.2) (Int32.ofNat 100) = _
    unfold D_X11_least_72b
    rw [if_pos (by decide)]
  · show ∃ s', _ ∧ D_X11_least_72b k63 (D_X11_least_72 k63 m) s.1 (some 81) (Int32.ofNat p) (b01 s.2.2) (Int32.ofNat k) = _
    unfold D_X11_least_72b
    rw [if_neg (show ¬ (100 : Int32) ≤ Int32.ofNat k from fun z => by have := (nat_le (a := 100) (b := k) (by decide) (by omega)).mp z; omega)]
    have ip := loop_up (S := z_H × ((Nat → Nat) × Bool)) (I := fun a t => LW g1 t.1 t.2.1 ∧ t.2 = foldN (fun a s => rs (nxt tg) (lwN T (aI g1 83) p) k a s) a s.2) (F := fun m' t a => D_X11_least_82 k63 (D_X11_least_72 k63 m) m' t.1 (some 81) (Int32.ofNat p) (b01 t.2.2) (Int32.ofNat k) (Int32.ofNat a)) (G := fun t => D_X11_least_72 k63 m t.1 (some 81) (Int32.ofNat p) (b01 t.2.2) (Int32.ofNat (k + 1))) (N := 3) (fun m' t _ => ?_) (fun m' t a ha J => ?_) 3 0 z_F s (by decide) (by decide) (by show _ < 1000000; decide) ⟨I.1, rfl⟩
    · obtain ⟨t, ⟨L', e'⟩, e⟩ := ip
      refine ⟨t, ⟨L', ?_⟩, e⟩
      rw [e', I.2]
      rfl
    · show D_X11_least_82b k63 (D_X11_least_72 k63 m) _ t.1 (some 81) (Int32.ofNat p) (b01 t.2.2) (Int32.ofNat k) (Int32.ofNat 3) = _
      unfold D_X11_least_82b
      rw [if_pos (by decide), Option.bind_some, show Int32.ofNat k + 1 = Int32.ofNat (k + 1) from sc_add k 1]
    · obtain ⟨gt', vt, ft⟩ := t
      obtain ⟨g', L', e'⟩ := m_wrs H hp ok al J.1 hk ha ft k63 (D_X11_least_72 k63 m) (D_X11_least_82 k63 (D_X11_least_72 k63 m) m')
      refine ⟨(g', rs (nxt tg) (lwN T (aI g1 83) p) k a (vt, ft)), ⟨L', ?_⟩, e'⟩
      have := J.2
      dsimp only at this ⊢
      rw [this]
      rfl
/-- what least() answers behind its tests -/
theorem m_least (H : RA g0 law T) {c c0 y0 : Nat} (hp : p < 6) (hc : c < 25) (hc0 : c0 < 25) (hy0 : y0 < 4) (e8 : aI g0 83 (8 + p) = Int32.ofNat c0) (e14 : aI g0 83 (14 + p) = Int32.ofNat y0) : ∃ (gs g' : z_H) (x : Nat), OnM [81, 99, 101, 102, 105] [34, 38, 39, 40] g0 g' ∧ lst (nxt (tgN T (aI g0 83) p)) (lwN T (aI g0 83) p) (gl c) 9 (4 * c0 + y0) x ∧ D_X11_laySteps g0 (some 81) (Int32.ofNat p) = some gs ∧ D_X11_least_29 z_F gs (some 81) (Int32.ofNat p) (Int32.ofNat c) 0 = some (if x = FR then -1 else Int32.ofNat x, g') := by
  have ok : tgOK (tgN T (aI g0 83) p) := fun k b hk e => tgN_lt hk e
  have O := nxt_ok ok (w := lwN T (aI g0 83) p) (Wm := 9) (fun _ _ _ _ => lwN_le _ _ _ _ _) (by decide)
  obtain ⟨g1, o1, al, d1⟩ := m_laySteps H hp
  have H1 := H.on o1 (by decide) (by decide) (by decide)
  have c83 : aI g1 83 = aI g0 83 := cell_aI (o1.2.1.c (by decide))
  have ini := loop_up (S := z_H) (I := fun i g => OnM [81, 99, 101, 105] [34, 38, 39, 40] g1 g ∧ ∀ k, k < i → aI g 105 k = Int32.ofNat (v00 c k)) (F := fun m g i => D_X11_least_29 m g (some 81) (Int32.ofNat p) (Int32.ofNat c) (Int32.ofNat i)) (G := fun g => D_X11_least_63 z_F g (some 81) (Int32.ofNat p) 1) (N := 100) (fun m g _ => ?_) (fun m g i hi I => ?_) 100 0 z_F g1 (by decide) (by decide) (by show _ < 1000000; decide) ⟨OnM.rfl' o1.1, fun k hk => by omega⟩
  · obtain ⟨g2, ⟨o2, e2⟩, d2⟩ := ini
    have L : LW g1 g2 (v00 c) := ⟨o2, e2, fun k hk => by unfold v00; split <;> omega⟩
    have mc := mu_cap 9 (v00 c)
    have sp : 4 * c0 + y0 < 100 := by omega
    obtain ⟨g3, v3, L3, R3, t3, d3⟩ := rounds (β := Int32 × z_H) (S := z_H) O (G := gl c) (I := fun g v => LW g1 g v) (F := fun m g b => D_X11_least_63 m g (some 81) (Int32.ofNat p) (b01 b)) (D := fun g => D_X11_least_63b (fun _ _ _ _ => none) g (some 81) (Int32.ofNat p) 0) (fun m g => by
        show D_X11_least_63b _ g (some 81) (Int32.ofNat p) (b01 false) = _
        unfold D_X11_least_63b
        rw [if_pos (show b01 false = 0 from rfl), if_pos rfl]) (fun m g v L _ => by
        obtain ⟨g', L', e'⟩ := m_wround H1 hp ok al L (D_X11_least_63 m)
        rw [c83] at L' e'
        refine ⟨g', L', ?_⟩
        show D_X11_least_63b (D_X11_least_63 m) g (some 81) (Int32.ofNat p) (b01 true) = _
        unfold D_X11_least_63b
        rw [if_neg (show ¬ b01 true = 0 by decide)]
        exact e') _ _ g2 z_F L (RV_00 c) mc (by show _ < 1000000; decide)
    have o3 := o1.mono (S' := [81, 99, 101, 102, 105]) (ks' := [34, 38, 39, 40]) (by decide) (by decide) |>.trans (L3.1.mono (by decide) (by decide))
    have H3 := H.on o3 (by decide) (by decide) (by decide)
    have c3 : aI g3 83 = aI g0 83 := cell_aI (o3.2.1.c (by decide))
    have ms := m_state H3 (p := p) (c := c0) (y := y0) hp (by rw [c3]; exact e8) (by rw [c3]; exact e14)
    refine ⟨g1, g3, v3 (4 * c0 + y0), o3, found O R3 t3 sp, d1, (d2.trans d3).trans ?_⟩
    have hs3 := L3.1.1
    have b3 := L3.2.2 _ sp
    unfold D_X11_least_63b
    rw [if_pos rfl, s_gQ (r := 105) hs3 rfl rfl, Option.bind_some, s_ob hs3 (ci := 11) rfl, Option.bind_some, ms, Option.bind_some]
    dsimp only
    rw [aR hs3 (n := 100) rfl sp (by decide), L3.2.1 _ sp, Option.bind_some]
    by_cases q : v3 (4 * c0 + y0) = FR
    · rw [if_pos (show Int32.ofNat (v3 (4 * c0 + y0)) = 100000000 by rw [q]; rfl), if_pos q]
    · rw [if_neg (show ¬ Int32.ofNat (v3 (4 * c0 + y0)) = 100000000 from fun z => q ((eq_lit (b := 100000000) (by unfold FR at b3; omega) (by decide)).mp z)), if_neg q, s_gQ (r := 105) hs3 rfl rfl, Option.bind_some, s_ob hs3 (ci := 11) rfl, Option.bind_some, ms, Option.bind_some]
      dsimp only
      rw [aR hs3 (n := 100) rfl sp (by decide), L3.2.1 _ sp, Option.bind_some]
  · show D_X11_least_29b _ g (some 81) (Int32.ofNat p) (Int32.ofNat c) (Int32.ofNat 100) = _
    unfold D_X11_least_29b
    rw [if_pos (by decide)]
  · show ∃ g', _ ∧ D_X11_least_29b (D_X11_least_29 m) g (some 81) (Int32.ofNat p) (Int32.ofNat c) (Int32.ofNat i) = _
    have hs := I.1.1
    refine ⟨wA g 105 (upd (aI g 105) i (Int32.ofNat (v00 c i))), ⟨I.1.trans (onA hs rfl (by decide) _), fun k hk => ?_⟩, ?_⟩
    · rw [aI_wA_eq hs rfl]
      by_cases q : k = i
      · rw [q, upd_eq]
      · rw [upd_ne q]; exact I.2 k (by omega)
    · have ws := fun x => aW hs (a := 105) (n := 100) rfl hi (by decide) x
      unfold D_X11_least_29b D_X11_least_54 v00
      rw [if_neg (show ¬ (100 : Int32) ≤ Int32.ofNat i from fun z => by have := (nat_le (a := 100) (b := i) (by decide) (by omega)).mp z; omega), s_gQ (r := 105) hs rfl rfl, Option.bind_some, show Int32.ofNat i / 4 = Int32.ofNat (i / 4) from sc_div (b := 4) (by omega) (by decide) (by decide)]
      by_cases q : i / 4 = c
      · rw [if_pos (show Int32.ofNat (i / 4) = Int32.ofNat c by rw [q]), if_pos q, ws, Option.bind_some, Option.bind_some, show Int32.ofNat i + 1 = Int32.ofNat (i + 1) from sc_add i 1]
        rfl
      · rw [if_neg (show ¬ Int32.ofNat (i / 4) = Int32.ofNat c from fun z => q ((eq_lit (by omega) (by omega)).mp z)), if_neg q, ws, Option.bind_some, Option.bind_some, show Int32.ofNat i + 1 = Int32.ofNat (i + 1) from sc_add i 1]
        rfl
end LF
