section RW2
variable {j : Nat} {h : z_H}
theorem d_lasting_ok {g : z_H} (hs : Sh g) {x : Int32} (hx : 0 ≤ x) : D_X11_lasting g (some 81) x = some (x, wF (wF g 81 8 (.int 0)) 81 1 (.int 0)) := by
  have s1 := Sh_wF hs (a := 81) (k := 8) rfl 0
  unfold D_X11_lasting
  rw [if_pos hx]
  unfold D_X11_lasting_13
  rw [s_pV hs (ci := 11) rfl (by decide), Option.bind_some, s_ob s1 (ci := 11) rfl, Option.bind_some, d_tell_ok s1 hx, Option.bind_some]
theorem row_nat (t : Nat → Int32) (len : Nat) (m : Nat → Int32) (N : Nat) : (foldN (rowT t len) N (m, 0, 0)).2.1 ≤ N := by
  refine fold_inv (f := rowT t len) (s := (m, 0, 0)) (fun i s => s.2.1 ≤ i) (Nat.le_refl 0) N (fun i s hi I => ?_)
  unfold rowT
  split
  · show s.2.1 + 1 ≤ i + 1
    omega
  · show s.2.1 ≤ i + 1
    omega
theorem a_row (H : Inv j h) : Agree Inv j h (fun h => D_X10_row h (some 0)) (fun h => D_X11_row h (some 81)) := by
  have hs := H.1
  obtain ⟨t1, t2, t3, t4, ⟨len, elen, hlen⟩, t6, t7, t8, t9⟩ := H.2.2.2.2.1
  have e13 : fI h 81 13 = Int32.ofNat len := by rw [← t4]; exact elen
  by_cases c0 : len = 0
  · subst c0
    refine agree_no H (k := 6) (by decide) ?_ ?_
    · show D_X10_row h (some 0) = _
      have r6 := (rfs hs).2.2.2.2
      unfold D_X10_row
      rw [s_gQ (r := 23) hs rfl rfl, Option.bind_some, s_gI hs (ci := 5) rfl rfl, Option.bind_some, elen, if_pos (show Int32.ofNat 0 = 0 from rfl), s_ob hs (ci := 10) rfl, Option.bind_some, r6, Option.bind_some]
      rfl
    · show D_X11_row (rfC h 6) (some 81) = _
      have sr := Sh_rfC hs 6
      have st := Sh_t0 sr
      have r6 := (tls st).2.2.2.2
      have f13 : fI (t0 (rfC h 6)) 81 13 = 0 := by rw [fI_wF_ne (by decide), cell_fI ((rfC_cells h 6).c (by decide))]; exact e13
      have ws : wF (t0 (rfC h 6)) 81 13 (.int 0) = t0 (rfC h 6) := by
        have := wF_self st (a := 81) (k := 13) rfl
        rw [f13] at this
        exact this
      unfold D_X11_row
      rw [p81 sr, Option.bind_some, s_gI st (ci := 11) rfl rfl, Option.bind_some, s_pV st (ci := 11) rfl (by decide), Option.bind_some, ws, f13, if_pos rfl, s_ob st (ci := 11) rfl, Option.bind_some, r6, Option.bind_some]
      rfl
  · have nz : ¬ Int32.ofNat len = 0 := fun z => c0 ((eq_lit (b := 0) (by omega) (by decide)).mp z)
    obtain ⟨g1, s1, T1, Y1, d1⟩ := c_rowL hs H.Y hlen rfl
    have cong : foldN (rowT (aI h 90) len) ((len + 2) / 3) (aI h 83, 0, 0) = foldN (rowT (aI h 24) len) ((len + 2) / 3) (aI h 83, 0, 0) := fold_congr (fun q s hq => by
      by_cases c : 3 * q + 2 < len
      · unfold rowT
        rw [(t6 (3 * q) (by omega)).1, (t6 (3 * q + 1) (by omega)).1, (t6 (3 * q + 2) (by omega)).1]
      · rw [rowT_no (fun z => c z.1), rowT_no (fun z => c z.1)])
    have cn := row_nat (aI h 24) len (aI h 83) ((len + 2) / 3)
    generalize foldN (rowT (aI h 24) len) ((len + 2) / 3) (aI h 83, 0, 0) = R at *
    obtain ⟨mR, came, lost⟩ := R
    dsimp only at Y1 d1 cn
    have z1 := Sh_wF s1 (a := 0) (k := 14) rfl (Int32.ofNat lost)
    have z2 := Sh_wF z1 (a := 23) (k := 2) rfl 0
    have z3 := Sh_wF z2 (a := 21) (k := 1) rfl 0
    have z4 := Sh_wF z3 (a := 0) (k := 13) rfl 0
    have r0 : (0 : Int32) ≤ Int32.ofNat came := by rw [ge0, of_int (by omega)]; omega
    have eA : D_X10_row h (some 0) = some (Int32.ofNat came, wF (wF (wF (wF g1 0 14 (.int (Int32.ofNat lost))) 23 2 (.int 0)) 21 1 (.int 0)) 0 13 (.int 0)) := by
      unfold D_X10_row
      rw [s_gQ (r := 23) hs rfl rfl, Option.bind_some, s_gI hs (ci := 5) rfl rfl, Option.bind_some, elen, if_neg nz, Option.bind_some, s_gQ (r := 24) hs rfl rfl, Option.bind_some, d1, s_pV s1 (ci := 10) rfl (by decide), Option.bind_some, s_gQ (r := 23) z1 rfl rfl, Option.bind_some, s_pV z1 (ci := 5) rfl (by decide), Option.bind_some, s_gQ (r := 21) z2 rfl rfl, Option.bind_some, s_pV z2 (ci := 8) rfl (by decide), Option.bind_some, s_ob z3 (ci := 10) rfl, Option.bind_some, d_grant z3, Option.bind_some]
    have Tc : Tch [0, 1, 2, 3, 4, 5, 21, 23] h (wF (wF (wF (wF g1 0 14 (.int (Int32.ofNat lost))) 23 2 (.int 0)) 21 1 (.int 0)) 0 13 (.int 0)) := Tch_wF (Tch_wF (Tch_wF (Tch_wF (T1.mono (by decide)) (by decide) _ _) (by decide) _ _) (by decide) _ _) (by decide) _ _
    have f13 : fI (wF (wF (wF (wF g1 0 14 (.int (Int32.ofNat lost))) 23 2 (.int 0)) 21 1 (.int 0)) 0 13 (.int 0)) 0 13 = 0 := fI_wF_eq z3 rfl _
    have f14 : fI (wF (wF (wF (wF g1 0 14 (.int (Int32.ofNat lost))) 23 2 (.int 0)) 21 1 (.int 0)) 0 13 (.int 0)) 0 14 = Int32.ofNat lost := by rw [fI_wF_ne (by decide), fI_wF_ne (by decide), fI_wF_ne (by decide), fI_wF_eq s1 rfl]
    have f23 : fI (wF (wF (wF (wF g1 0 14 (.int (Int32.ofNat lost))) 23 2 (.int 0)) 21 1 (.int 0)) 0 13 (.int 0)) 23 2 = 0 := by rw [fI_wF_ne (by decide), fI_wF_ne (by decide), fI_wF_eq z1 rfl]
    have f233 : fI (wF (wF (wF (wF g1 0 14 (.int (Int32.ofNat lost))) 23 2 (.int 0)) 21 1 (.int 0)) 0 13 (.int 0)) 23 3 = fI h 23 3 := by rw [fI_wF_ne (by decide), fI_wF_ne (by decide), fI_wF_ne (by decide), fI_wF_ne (by decide), cell_fI (T1.c (by decide))]
    have f21 : fI (wF (wF (wF (wF g1 0 14 (.int (Int32.ofNat lost))) 23 2 (.int 0)) 21 1 (.int 0)) 0 13 (.int 0)) 21 1 = 0 := by rw [fI_wF_ne (by decide), fI_wF_eq z2 rfl]
    have Yc : Yrel (wF (wF (wF (wF g1 0 14 (.int (Int32.ofNat lost))) 23 2 (.int 0)) 21 1 (.int 0)) 0 13 (.int 0)) 1 mR := Yrel_T Y1 (Tch_wF (S := [0, 21, 23]) (Tch_wF (Tch_wF (Tch_wF (Tch_rfl _ g1) (by decide) _ _) (by decide) _ _) (by decide) _ _) (by decide) _ _) (isY_S (Or.inl rfl) (by decide)) (by decide)
    generalize wF (wF (wF (wF g1 0 14 (.int (Int32.ofNat lost))) 23 2 (.int 0)) 21 1 (.int 0)) 0 13 (.int 0) = h1 at *
    have st := Sh_t0 z4
    have b13 : fI (t0 h1) 81 13 = Int32.ofNat len := by rw [fI_wF_ne (by decide), cell_fI (Tc.c (by decide))]; exact e13
    have w1 := Sh_wF st (a := 81) (k := 13) rfl 0
    have w2 := Sh_wF w1 (a := 81) (k := 11) rfl 0
    have o0 : OnM [81] [0, 11, 13] h1 (wF (wF (t0 h1) 81 13 (.int 0)) 81 11 (.int 0)) := ((t0_on z4).mono (by decide) (by decide)).trans (((wF_on st (k := 13) rfl 0).mono (by decide) (by decide)).trans ((wF_on w1 (k := 11) rfl 0).mono (by decide) (by decide)))
    have b83 : aI (wF (wF (t0 h1) 81 13 (.int 0)) 81 11 (.int 0)) 83 = aI h 83 := by rw [aI_wF, aI_wF, aI_wF]; exact cell_aI (Tc.c (by decide))
    have b90 : aI (wF (wF (t0 h1) 81 13 (.int 0)) 81 11 (.int 0)) 90 = aI h 90 := by rw [aI_wF, aI_wF, aI_wF]; exact cell_aI (Tc.c (by decide))
    have b11 : fI (wF (wF (t0 h1) 81 13 (.int 0)) 81 11 (.int 0)) 81 11 = 0 := fI_wF_eq w1 rfl _
    have b13' : fI (wF (wF (t0 h1) 81 13 (.int 0)) 81 11 (.int 0)) 81 13 = 0 := by rw [fI_wF_ne (by decide), fI_wF_eq st rfl]
    obtain ⟨g2, o2, a83, x11, d2⟩ := m_rowL w2 (by rw [b83]; exact H.Y.row.2.2.2.2.1) hlen b11 (s0 := (aI h 83, 0, 0)) (by rw [b83])
    rw [b90, cong] at a83 x11 d2
    dsimp only at a83 x11 d2
    have eB : D_X11_row h1 (some 81) = some (Int32.ofNat came, wF (wF g2 81 8 (.int 0)) 81 1 (.int 0)) := by
      unfold D_X11_row
      rw [p81 z4, Option.bind_some, s_gI st (ci := 11) rfl rfl, Option.bind_some, b13, s_pV st (ci := 11) rfl (by decide), Option.bind_some, if_neg nz, s_pV w1 (ci := 11) rfl (by decide), Option.bind_some, d2, s_ob o2.1 (ci := 11) rfl, Option.bind_some, d_lasting_ok o2.1 r0, Option.bind_some]
    have y1 := Sh_wF o2.1 (a := 81) (k := 8) rfl 0
    have O : OnM [81, 83] [0, 1, 8, 11, 13] h1 (wF (wF g2 81 8 (.int 0)) 81 1 (.int 0)) := (o0.mono (by decide) (by decide)).trans ((o2.mono (by decide) (by decide)).trans (((wF_on o2.1 (k := 8) rfl 0).mono (by decide) (by decide)).trans ((wF_on y1 (k := 1) rfl 0).mono (by decide) (by decide))))
    have z83 : aI (wF (wF g2 81 8 (.int 0)) 81 1 (.int 0)) 83 = mR := by rw [aI_wF, aI_wF]; exact a83
    have x1 : fI (wF (wF g2 81 8 (.int 0)) 81 1 (.int 0)) 81 1 = 0 := fI_wF_eq y1 rfl _
    have x8 : fI (wF (wF g2 81 8 (.int 0)) 81 1 (.int 0)) 81 8 = 0 := by rw [fI_wF_ne (by decide), fI_wF_eq o2.1 rfl]
    have x11' : fI (wF (wF g2 81 8 (.int 0)) 81 1 (.int 0)) 81 11 = Int32.ofNat lost := by rw [fI_wF_ne (by decide), fI_wF_ne (by decide)]; exact x11
    have x13 : fI (wF (wF g2 81 8 (.int 0)) 81 1 (.int 0)) 81 13 = 0 := by rw [fI_wF_ne (by decide), fI_wF_ne (by decide), (o2.2.2 13 (by decide)).1]; exact b13'
    have T : Tch [0, 1, 2, 3, 4, 5, 21, 23, 81, 83] h (wF (wF g2 81 8 (.int 0)) 81 1 (.int 0)) := (Tc.mono (by decide)).trans (O.2.1.mono (by decide))
    refine ⟨Int32.ofNat came, h1, wF (wF g2 81 8 (.int 0)) 81 1 (.int 0), eA, ob81 z4, eB, ?_⟩
    generalize wF (wF g2 81 8 (.int 0)) 81 1 (.int 0) = h2 at *
    have fo : ∀ k, k ∉ [0, 1, 8, 11, 13] → fI h2 81 k = fI h 81 k := fun k hk => by rw [(O.2.2 k hk).1, cell_fI (Tc.c (by decide))]
    refine Inv_gen H O.1 T (by decide) (by decide) (fo 58 (by decide)) ?_ ?_ ⟨?_, ?_, ?_, ?_, ?_, ?_, ?_, ?_, ?_⟩
    · rw [z83]
      exact Yrel_T Yc O.2.1 (isY_S (Or.inl rfl) (by decide)) (by decide)
    · exact Ulog_zero x8 (by rw [cell_fI (O.2.1.c (by decide))]; exact f21)
    · rw [x1, cell_fI (O.2.1.c (by decide))]; exact f13
    · rw [x11', cell_fI (O.2.1.c (by decide))]; exact f14
    · rw [cell_aI (T.c (by decide)), cell_aI (T.c (by decide))]; exact t3
    · rw [x13, cell_fI (O.2.1.c (by decide))]; exact f23
    · rw [cell_fI (O.2.1.c (by decide)), f23]; exact ⟨0, rfl, by omega⟩
    · rw [cell_aI (T.c (by decide)), cell_aI (T.c (by decide))]; exact t6
    · rw [cell_fI (O.2.1.c (by decide)), f233, fo 18 (by decide)]; exact t7
    · rw [cell_fI (T.c (by decide)), fo 54 (by decide)]; exact t8
    · rw [fo 20 (by decide)]; exact t9
end RW2
