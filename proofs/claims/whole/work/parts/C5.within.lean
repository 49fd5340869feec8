/-! within -/
section WI
variable {j : Nat} {h g : z_H}
noncomputable def wiF (C : Nat → Prop) (i : Nat) (b : Int32) : Int32 := @ite _ (C i) (Classical.propDecidable _) (b ||| ((1 : Int32) <<< (Int32.ofNat i &&& 31))) b
theorem wi_yes {C : Nat → Prop} {i : Nat} (q : C i) (b : Int32) : wiF C i b = b ||| ((1 : Int32) <<< (Int32.ofNat i &&& 31)) := by unfold wiF; rw [if_pos q]
theorem wi_no {C : Nat → Prop} {i : Nat} (q : ¬ C i) (b : Int32) : wiF C i b = b := by unfold wiF; rw [if_neg q]
abbrev SC : List Nat := [29, 30, 31, 46, 47, 48, 49, 50, 51]
theorem SC_Y {m : Nat → Int32} (t : Tch SC h g) (Y : Yrel h 1 m) : Yrel g 1 m := by
  refine Y.kept (fun q hq => t.c ?_) (Nat.le_of_eq t.1.symm) (fun a ha _ => t.c ?_)
  · simp only [List.mem_cons, List.not_mem_nil, or_false]; omega
  · simp only [List.mem_cons, List.not_mem_nil, or_false]; omega
theorem SRes.val {h g' : z_H} {tg : Nat → Option Nat} {s c : Nat} {x : Int32} (r : SRes h g' tg s c x) : Sh g' ∧ Tch [46, 48, 49, 50, 51] h g' ∧ ((x = -1 ∧ lst (nxt tg) one' (gl c) 1 s FR) ∨ ∃ d, d < 100 ∧ x = Int32.ofNat d ∧ lst (nxt tg) one' (gl c) 1 s d) := by
  rcases r with ⟨rfl, l, s1, t⟩ | ⟨i, q, Q, ct, κ, rfl, iq, B, H, f8, gi, no⟩
  · exact ⟨s1, t, Or.inl ⟨rfl, l⟩⟩
  · have := (B.2.1 i iq).2
    have := B.le
    exact ⟨H.1, H.2.1, Or.inr ⟨ct (Q i), by omega, rfl, B.best iq gi no⟩⟩
theorem a_within (H : Inv j h) (x y : Int32) : Agree Inv j h (fun h => D_X10_within h (some 0) x y) (fun h => D_X11_within h (some 81) x y) := by
  have hs := H.1
  have st := Sh_t0 hs
  have ha : isY 1 := Or.inl rfl
  obtain ⟨n, hn, e1, e2⟩ := H.np
  have e2' : aI (t0 h) 83 0 = Int32.ofNat n := by rw [aI_wF]; exact e2
  rcases xc x 25 (by decide) with ⟨c, hc, rfl⟩ | nx
  · rcases xc y 101 (by decide) with ⟨k, hk, rfl⟩ | ny
    · obtain ⟨law, T, dl, lr⟩ := H.law
      let st' : Nat → Nat := fun p => 4 * tn (aI h 83 (8 + p)) + tn (aI h 83 (14 + p))
      let C : Nat → Prop := fun p => ∃ d, d ≤ k ∧ lst (nxt (tgN T (aI h 83) p)) one' (gl c) 1 (st' p) d
      have stp : ∀ {p c0 y0}, c0 < 25 → y0 < 4 → aI h 83 (8 + p) = Int32.ofNat c0 → aI h 83 (14 + p) = Int32.ofNat y0 → st' p = 4 * c0 + y0 := fun {p c0 y0} h1 h2 e8 e14 => by
        show 4 * tn (aI h 83 (8 + p)) + tn (aI h 83 (14 + p)) = _
        rw [e8, e14, tn_of (by omega), tn_of (by omega)]
      -- the class
      have lpC := loop_up (S := z_H × Int32) (I := fun i t => Sh t.1 ∧ Tch SC h t.1 ∧ t.2 = foldN (wiF C) i 0) (F := fun m t i => D_X10_within_24 m t.1 (some 0) (Int32.ofNat c) (Int32.ofNat k) t.2 (Int32.ofNat i)) (G := fun t => some (t.2, t.1)) (N := n) (fun m t I => by
          show D_X10_within_24b _ t.1 (some 0) (Int32.ofNat c) (Int32.ofNat k) t.2 (Int32.ofNat n) = _
          unfold D_X10_within_24b
          rw [s_gQ (r := 1) I.1 rfl rfl, Option.bind_some, s_gI I.1 (ci := 9) rfl rfl, Option.bind_some, cell_fI (I.2.1.c (by decide)), e1, if_pos ((nat_le (by omega) (by omega)).mpr (Nat.le_refl _))])
        (fun m t p hp I => by
          obtain ⟨g, b⟩ := t
          obtain ⟨sg, tc, eb⟩ := I
          dsimp only at sg tc eb
          obtain ⟨c0, y0, hc0, hy0, m8, m14, a2, a3⟩ := H.at (p := p) (by omega)
          obtain ⟨g1, g', x, s1, T1, r, d⟩ := c_shortest sg (SC_Y tc H.Y) (lawF_T hs ha dl sg tc (by decide) H.Y) (lr.T tc (by decide)) (p := p) (c0 := c0) (y0 := y0) (by omega) hc0 hy0 (by rw [cell_aI (tc.c (by decide))]; exact a2) (by rw [cell_aI (tc.c (by decide))]; exact a3) hc
          obtain ⟨s', t', v⟩ := r.val
          rw [← stp hc0 hy0 m8 m14] at v
          have tc' : Tch SC h g' := tc.trans ((T1.mono (by decide)).trans (t'.mono (by decide)))
          refine ⟨(g', wiF C p b), ⟨s', tc', by rw [eb]; rfl⟩, ?_⟩
          show D_X10_within_24b (D_X10_within_24 m) g (some 0) (Int32.ofNat c) (Int32.ofNat k) b (Int32.ofNat p) = D_X10_within_24 m g' (some 0) (Int32.ofNat c) (Int32.ofNat k) (wiF C p b) (Int32.ofNat (p + 1))
          have pp : Int32.ofNat p + 1 = Int32.ofNat (p + 1) := sc_add p 1
          unfold D_X10_within_24b D_X10_within_71
          rw [s_gQ (r := 1) sg rfl rfl, Option.bind_some, s_gI sg (ci := 9) rfl rfl, Option.bind_some, cell_fI (tc.c (by decide)), e1, if_neg (show ¬ Int32.ofNat n ≤ Int32.ofNat p from fun z => by have := (nat_le (by omega) (by omega)).mp z; omega), s_gQ (r := 46) sg rfl rfl, Option.bind_some, Option.bind_some, s_ob sg (ci := 4) rfl, Option.bind_some, d, Option.bind_some]
          dsimp only
          rcases v with ⟨rfl, l⟩ | ⟨d0, hd0, rfl, l⟩
          · rw [if_pos rfl, Option.bind_some, pp, wi_no (fun ⟨d1, h1, l1⟩ => by have := lst_one l l1; unfold FR at this; omega)]
          · rw [if_neg (of_nm1 (by omega))]
            by_cases q : k < d0
            · rw [if_pos ((nat_lt (by omega) (by omega)).mpr q), Option.bind_some, pp, wi_no (fun ⟨d1, h1, l1⟩ => by have := lst_one l l1; omega)]
            · rw [if_neg (show ¬ Int32.ofNat k < Int32.ofNat d0 from fun z => q ((nat_lt (by omega) (by omega)).mp z)), Option.bind_some, Option.bind_some, pp, wi_yes ⟨d0, by omega, l⟩])
        n 0 z_F (h, 0) (by omega) (by omega) (by show _ < 1000000; omega) ⟨hs, Tch_rfl _ h, rfl⟩
      obtain ⟨⟨g1, b1⟩, ⟨s1, T1, eb1⟩, d1⟩ := lpC
      dsimp only at s1 T1 eb1 d1
      have st1 := Sh_t0 s1
      have c83 : aI (t0 g1) 83 = aI h 83 := by rw [aI_wF]; exact cell_aI (T1.c (by decide))
      have ra := (H.RA lr s1 T1 (by decide) (by decide)).on (t0_on s1) (by decide) (by decide) (by decide)
      -- the reference
      have lpM := loop_up (S := z_H × Int32) (I := fun i t => OnM [81, 99, 101, 102, 104] [34, 38, 39, 40] (t0 g1) t.1 ∧ t.2 = foldN (wiF C) i 0) (F := fun m t i => D_X11_within_31 m t.1 (some 81) (Int32.ofNat c) (Int32.ofNat k) t.2 (Int32.ofNat i)) (G := fun t => some (t.2, t.1)) (N := n) (fun m t I => by
          have hs := I.1.1
          have i0 : z_aI .int t.1 (some 83) 0 = some (Int32.ofNat n) := by
            have := m83 (i := 0) hs (by decide)
            rw [cell_aI (I.1.2.1.c (by decide)), c83, e2] at this
            exact this
          show D_X11_within_31b _ t.1 (some 81) (Int32.ofNat c) (Int32.ofNat k) t.2 (Int32.ofNat n) = _
          unfold D_X11_within_31b
          rw [s_gQ (r := 83) hs rfl rfl, Option.bind_some, i0, Option.bind_some, if_pos ((nat_le (by omega) (by omega)).mpr (Nat.le_refl _))])
        (fun m t p hp I => by
          obtain ⟨g, b⟩ := t
          obtain ⟨og, eb⟩ := I
          dsimp only at og eb
          have sg := og.1
          have c83g : aI g 83 = aI h 83 := by rw [cell_aI (og.2.1.c (by decide))]; exact c83
          obtain ⟨c0, y0, hc0, hy0, m8, m14, -, -⟩ := H.at (p := p) (by omega)
          have rg := ra.on og (by decide) (by decide) (by decide)
          obtain ⟨g', v, o', al, av, l, d⟩ := m_layLeft rg (p := p) (c := c) (by omega) hc
          rw [c83g] at l
          have lp := l (4 * c0 + y0) (by omega)
          rw [← stp hc0 hy0 m8 m14] at lp
          have rg' := rg.on o' (by decide) (by decide) (by decide)
          have c83g' : aI g' 83 = aI h 83 := by rw [cell_aI (o'.2.1.c (by decide))]; exact c83g
          have ms := m_state rg' (p := p) (c := c0) (y := y0) (by omega) (by rw [c83g']; exact m8) (by rw [c83g']; exact m14)
          rw [← stp hc0 hy0 m8 m14] at ms
          have sp : st' p < 100 := by rw [stp hc0 hy0 m8 m14]; omega
          have vb : v (st' p) ≤ FR := by
            rcases lp with ⟨q, -⟩ | ⟨q, -⟩
            · omega
            · unfold FR; omega
          have i0 : z_aI .int g (some 83) 0 = some (Int32.ofNat n) := by
            have := m83 (i := 0) sg (by decide)
            rw [c83g, e2] at this
            exact this
          refine ⟨(g', wiF C p b), ⟨og.trans o', by rw [eb]; rfl⟩, ?_⟩
          show D_X11_within_31b (D_X11_within_31 m) g (some 81) (Int32.ofNat c) (Int32.ofNat k) b (Int32.ofNat p) = D_X11_within_31 m g' (some 81) (Int32.ofNat c) (Int32.ofNat k) (wiF C p b) (Int32.ofNat (p + 1))
          have pp : Int32.ofNat p + 1 = Int32.ofNat (p + 1) := sc_add p 1
          unfold D_X11_within_31b D_X11_within_73
          rw [s_gQ (r := 83) sg rfl rfl, Option.bind_some, i0, Option.bind_some, if_neg (show ¬ Int32.ofNat n ≤ Int32.ofNat p from fun z => by have := (nat_le (by omega) (by omega)).mp z; omega), s_ob sg (ci := 11) rfl, Option.bind_some, d, Option.bind_some, s_gQ (r := 104) o'.1 rfl rfl, Option.bind_some, s_ob o'.1 (ci := 11) rfl, Option.bind_some, ms, Option.bind_some]
          dsimp only
          rw [aR o'.1 (n := 100) rfl sp (by decide), av _ sp, Option.bind_some]
          by_cases q : k < v (st' p)
          · rw [if_pos ((nat_lt (by omega) (by unfold FR at vb; omega)).mpr q), Option.bind_some, Option.bind_some, pp, Int32.or_zero, wi_no (fun ⟨d1, h1, l1⟩ => by have := lst_one lp l1; omega)]
          · rw [if_neg (show ¬ Int32.ofNat k < Int32.ofNat (v (st' p)) from fun z => q ((nat_lt (by omega) (by unfold FR at vb; omega)).mp z)), Option.bind_some, Option.bind_some, pp, wi_yes ⟨v (st' p), by omega, lp⟩])
        n 0 z_F (t0 g1, 0) (by omega) (by omega) (by show _ < 1000000; omega) ⟨OnM.rfl' st1, rfl⟩
      obtain ⟨⟨g2, b2⟩, ⟨o2, eb2⟩, d2⟩ := lpM
      dsimp only at o2 eb2 d2
      rw [eb1] at d1
      rw [eb2] at d2
      refine agree_q H (x := foldN (wiF C) n 0) (h1 := g1) (h2 := g2) ?_ (Same_T T1 s1 (by decide)) ?_ ((Same_t0 s1).trans (Same_M o2 (by decide)))
      · show D_X10_within h (some 0) (Int32.ofNat c) (Int32.ofNat k) = _
        unfold D_X10_within
        rw [cellC1 hc, Option.bind_some]
        dsimp only
        rw [if_neg one_ne, if_neg (not_neg (by omega)), if_pos (show Int32.ofNat k ≤ 100 from (nat_le (b := 100) (by omega) (by decide)).mpr (by omega))]
        exact d1
      · show D_X11_within g1 (some 81) (Int32.ofNat c) (Int32.ofNat k) = _
        unfold D_X11_within
        rw [p81 s1, Option.bind_some, cellM1 hc, Option.bind_some]
        dsimp only
        rw [if_neg one_ne, din1 (C := 100) (N := 100) rfl (by omega) _ (by decide), Option.bind_some]
        dsimp only
        rw [if_neg one_ne]
        exact d2
    · refine none_q H (x := -1) ?_ ?_
      · show D_X10_within h (some 0) (Int32.ofNat c) y = _
        unfold D_X10_within
        rw [cellC1 hc, Option.bind_some]
        dsimp only
        rw [if_neg one_ne]
        by_cases c1 : y < 0
        · rw [if_pos c1]
        · rw [if_neg c1]
          rw [lt0] at c1
          rw [if_neg (by rw [Int32.le_iff_toInt_le]; show ¬ y.toInt ≤ 100; omega)]
      · show D_X11_within h (some 81) (Int32.ofNat c) y = _
        unfold D_X11_within
        rw [p81 hs, Option.bind_some, cellM1 hc, Option.bind_some]
        dsimp only
        rw [if_neg one_ne, din0 (C := 100) (N := 100) rfl ny, Option.bind_some]
        dsimp only
        rw [if_pos rfl]
  · refine none_q H (x := -1) ?_ ?_
    · show D_X10_within h (some 0) x y = _
      unfold D_X10_within
      rw [cellC0 nx, Option.bind_some]
      dsimp only
      rw [if_pos rfl]
    · show D_X11_within h (some 81) x y = _
      unfold D_X11_within
      rw [p81 hs, Option.bind_some, cellM0 nx, Option.bind_some]
      dsimp only
      rw [if_pos rfl]
end WI
