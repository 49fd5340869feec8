/-! way: both together -/
section WZ
variable {j : Nat} {h : z_H}
theorem a_way (H : Inv j h) (x y z : Int32) : Agree Inv j h (fun h => D_X10_way h (some 0) x y z) (fun h => D_X11_way h (some 81) x y z) := by
  have hs := H.1
  have st := Sh_t0 hs
  have ha : isY 1 := Or.inl rfl
  obtain ⟨n, hn, e1, e2⟩ := H.np
  have e2' : aI (t0 h) 83 0 = Int32.ofNat n := by rw [aI_wF]; exact e2
  have q0 : z_gQ 10 h (some 0) 0 = some (some 1) := s_gQ hs rfl rfl
  rcases xc x n (by omega) with ⟨p, hp, rfl⟩ | nx
  · rcases xc y 25 (by decide) with ⟨c, hc, rfl⟩ | ny
    · by_cases hz : (-1 : Int32) ≤ z
      · obtain ⟨c0, y0, hc0, hy0, m8, m14, a2, a3⟩ := H.at (p := p) (by omega)
        obtain ⟨law, T, dl, lr⟩ := H.law
        have ok : tgOK (tgN T (aI h 83) p) := fun k b hk e => tgN_lt hk e
        obtain ⟨gl1, g1, x1, sl, Tl, r, d1⟩ := c_shortest hs H.Y dl lr (p := p) (c := c) (by omega) hc0 hy0 a2 a3 hc
        obtain ⟨s1, t1, vl⟩ := r.val
        have T1 : Tch SC h g1 := (Tl.mono (by decide)).trans (t1.mono (by decide))
        have st1 := Sh_t0 s1
        have c83 : aI (t0 g1) 83 = aI h 83 := by rw [aI_wF]; exact cell_aI (T1.c (by decide))
        have ra := (H.RA lr s1 T1 (by decide) (by decide)).on (t0_on s1) (by decide) (by decide) (by decide)
        obtain ⟨g2, v, o2, al, av, l, d2⟩ := m_layLeft ra (p := p) (c := c) (by omega) hc
        rw [c83] at l al
        have ra2 := ra.on o2 (by decide) (by decide) (by decide)
        have c83' : aI g2 83 = aI h 83 := by rw [cell_aI (o2.2.1.c (by decide))]; exact c83
        have ms := m_state ra2 (p := p) (c := c0) (y := y0) (by omega) (by rw [c83']; exact m8) (by rw [c83']; exact m14)
        have sp : 4 * c0 + y0 < 100 := by omega
        have lp := l _ sp
        have rv : z_aI .int g2 (some 104) (Int32.ofNat (4 * c0 + y0)) = some (Int32.ofNat (v (4 * c0 + y0))) := by rw [aR o2.1 (n := 100) rfl sp (by decide), av _ sp]
        have q43 : z_gQ 11 g2 (some 81) 43 = some (some 104) := s_gQ o2.1 rfl rfl
        -- the answer
        have both : ∃ w : Int32, (if z = -1 then some (x1, g1) else if x1 ≤ z then some (-1, g1) else (z_gQ 10 g1 (some 0) 9).bind fun x2051 => (z_ob 4 g1 x2051).bind fun _ => (D_X4_actAt g1 x2051 z).bind fun p2052 => some (p2052.1, p2052.2)) = some (w, g1) ∧ (if Int32.ofNat (v (4 * c0 + y0)) = 100000000 then some ((-1 : Int32), g2) else if z < Int32.ofNat (v (4 * c0 + y0)) then (if z = -1 then some (Int32.ofNat (v (4 * c0 + y0)), g2) else D_X11_way_85 z_F g2 (some 81) z (Int32.ofNat (4 * c0 + y0)) (-1) 0) else some (-1, g2)) = some (w, g2) := by
          rcases r with ⟨rfl, lF, -, -⟩ | ⟨i, q, Q, ct, κ, rfl, iq, B, HH, f8, gi, no⟩
          · have vF := lst_one lp lF
            rw [vF, if_pos (show Int32.ofNat FR = 100000000 from rfl), if_pos hz]
            refine ⟨-1, ?_, rfl⟩
            by_cases w : z = -1
            · rw [if_pos w]
            · rw [if_neg w]
          · have L100 := (B.2.1 i iq).2
            have q100 := B.le
            have vL := lst_one lp (B.best iq gi no)
            rw [vL, if_neg (show ¬ Int32.ofNat (ct (Q i)) = 100000000 from fun w => by have := (eq_lit (b := 100000000) (by omega) (by decide)).mp w; omega)]
            by_cases w : z = -1
            · rw [if_pos w, if_pos w, if_pos (show z < Int32.ofNat (ct (Q i)) by rw [w, Int32.lt_iff_toInt_lt, of_int (by omega)]; show (-1 : Int) < _; omega)]
              exact ⟨_, rfl, rfl⟩
            · have z0 : 0 ≤ z.toInt := by
                rw [Int32.le_iff_toInt_le] at hz
                have h1 : (-1 : Int) ≤ z.toInt := hz
                have h2 : z.toInt ≠ -1 := fun u => w (Int32.toInt_inj.mp u)
                omega
              obtain ⟨ln, rfl, -, l31⟩ := nat_of z0
              rw [if_neg w, if_neg w]
              by_cases u : ln < ct (Q i)
              · rw [if_neg (show ¬ Int32.ofNat (ct (Q i)) ≤ Int32.ofNat ln from fun k => by have := (nat_le (by omega) (by omega)).mp k; omega), if_pos (show Int32.ofNat ln < Int32.ofNat (ct (Q i)) from (nat_lt (by omega) (by omega)).mpr u), s_gQ (r := 46) s1 rfl rfl, Option.bind_some, s_ob s1 (ci := 4) rfl, Option.bind_some, c_actAt B HH f8 iq u, Option.bind_some, m_actAt ok o2.1 al av B iq gi no l u]
                exact ⟨_, rfl, rfl⟩
              · rw [if_pos (show Int32.ofNat (ct (Q i)) ≤ Int32.ofNat ln from (nat_le (by omega) (by omega)).mpr (by omega)), if_neg (show ¬ Int32.ofNat ln < Int32.ofNat (ct (Q i)) from fun k => u ((nat_lt (by omega) (by omega)).mp k))]
                exact ⟨_, rfl, rfl⟩
        obtain ⟨w, eC, eM⟩ := both
        refine agree_q H (x := w) (h1 := g1) (h2 := g2) ?_ (Same_T T1 s1 (by decide)) ?_ ((Same_t0 s1).trans (Same_M o2 (by decide)))
        · show D_X10_way h (some 0) (Int32.ofNat p) (Int32.ofNat c) z = _
          unfold D_X10_way
          rw [q0, Option.bind_some, (yR hs ha).1, Option.bind_some, hasP1 hs ha e1 (by omega) hp, Option.bind_some]
          dsimp only
          rw [if_neg one_ne, cellC1 hc, Option.bind_some]
          dsimp only
          rw [if_neg one_ne, if_pos hz, s_gQ (r := 46) hs rfl rfl, Option.bind_some, q0, Option.bind_some, s_ob hs (ci := 4) rfl, Option.bind_some, d1, Option.bind_some]
          exact eC
        · show D_X11_way g1 (some 81) (Int32.ofNat p) (Int32.ofNat c) z = _
          unfold D_X11_way
          rw [p81 s1, Option.bind_some, s_ob st1 (ci := 11) rfl, Option.bind_some, isP1 st1 (by rw [c83]; exact e2) hn hp, Option.bind_some]
          dsimp only
          rw [if_neg one_ne, cellM1 hc, Option.bind_some]
          dsimp only
          rw [if_neg one_ne, if_pos hz, s_ob st1 (ci := 11) rfl, Option.bind_some, d2, Option.bind_some, s_ob o2.1 (ci := 11) rfl, Option.bind_some, ms, Option.bind_some]
          dsimp only
          simp only [q43, rv, Option.bind_some]
          exact eM
      · refine none_q H (x := -1) ?_ ?_
        · show D_X10_way h (some 0) (Int32.ofNat p) (Int32.ofNat c) z = _
          unfold D_X10_way
          rw [q0, Option.bind_some, (yR hs ha).1, Option.bind_some, hasP1 hs ha e1 (by omega) hp, Option.bind_some]
          dsimp only
          rw [if_neg one_ne, cellC1 hc, Option.bind_some]
          dsimp only
          rw [if_neg one_ne, if_neg hz]
        · show D_X11_way h (some 81) (Int32.ofNat p) (Int32.ofNat c) z = _
          unfold D_X11_way
          rw [p81 hs, Option.bind_some, s_ob st (ci := 11) rfl, Option.bind_some, isP1 st e2' hn hp, Option.bind_some]
          dsimp only
          rw [if_neg one_ne, cellM1 hc, Option.bind_some]
          dsimp only
          rw [if_neg one_ne, if_neg hz]
    · refine none_q H (x := -1) ?_ ?_
      · show D_X10_way h (some 0) (Int32.ofNat p) y z = _
        unfold D_X10_way
        rw [q0, Option.bind_some, (yR hs ha).1, Option.bind_some, hasP1 hs ha e1 (by omega) hp, Option.bind_some]
        dsimp only
        rw [if_neg one_ne, cellC0 ny, Option.bind_some]
        dsimp only
        rw [if_pos rfl]
      · show D_X11_way h (some 81) (Int32.ofNat p) y z = _
        unfold D_X11_way
        rw [p81 hs, Option.bind_some, s_ob st (ci := 11) rfl, Option.bind_some, isP1 st e2' hn hp, Option.bind_some]
        dsimp only
        rw [if_neg one_ne, cellM0 ny, Option.bind_some]
        dsimp only
        rw [if_pos rfl]
  · refine none_q H (x := -1) ?_ ?_
    · show D_X10_way h (some 0) x y z = _
      unfold D_X10_way
      rw [q0, Option.bind_some, (yR hs ha).1, Option.bind_some, hasP0 hs ha e1 (by omega) nx, Option.bind_some]
      dsimp only
      rw [if_pos rfl]
    · show D_X11_way h (some 81) x y z = _
      unfold D_X11_way
      rw [p81 hs, Option.bind_some, s_ob st (ci := 11) rfl, Option.bind_some, isP0 st e2' hn nx, Option.bind_some]
      dsimp only
      rw [if_pos rfl]
end WZ
