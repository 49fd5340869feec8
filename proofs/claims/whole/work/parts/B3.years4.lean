section YA2
variable {j : Nat} {h h' : z_H}
theorem Ulog_R2 (H : Ulog h) (e1 : fI h' 81 8 = fI h 81 8) (e2 : fI h' 21 1 = fI h 21 1) (e3 : fI h' 1 8 = fI h 1 8) (a22 : aI h' 22 = aI h 22) (a86 : ∀ q, q < 624 → aI h' 86 q = aI h 86 q) (a87 : aI h' 87 = aI h 87) (r : aI h' 83 = aI h 83) : Ulog h' := by
  obtain ⟨n, s, t, en, em, C, M, sn⟩ := H.split
  have hn := C.1
  refine Ulog.join (n := n) (s := s) (t := t) (by rw [e2]; exact en) (by rw [e1]; exact em) (by rw [a22, e3]; exact C) (fun q hq => ?_) (fun i hi => by rw [sn, r])
  obtain ⟨m1, m2⟩ := M q hq
  exact ⟨by rw [a87]; exact m1, fun i hi => by rw [a86 _ (by omega)]; exact m2 i hi⟩
theorem yrs_out {T : LawT} {n : Nat} (hn : 0 < n) (hn6 : n ≤ 6) : ∀ (k : Nat) (s : (Nat → Int32) × Nat × Nat), RowB s.1 → ∀ i, i < 5 ∨ 44 ≤ i → (yrs T n k s).1 i = s.1 i := by
  intro k
  induction k with
  | zero => intro s _ i _; rfl
  | succ k ih =>
    intro s R i hi
    unfold yrs
    by_cases c : s.1 5 = 999
    · rw [if_pos c]
    · rw [if_neg c]
      obtain ⟨R', o, -⟩ := yrS_ok (T := T) hn hn6 R c
      rw [ih _ R' i hi, o i hi]
theorem m_y217 {x : z_H} (hs : Sh x) {st : Nat} (hst : st ≤ 60) : D_X11_years_217 x (some 81) (Int32.ofNat st) = some (Int32.ofNat st, wF (wA (wF (wA x 113 (va_cpy (aI x 83) (aI x 113) 5 0 39)) 81 58 (.int (aI x 83 0))) 83 (va_cpy (aI x 86) (aI x 83) 624 5 39)) 81 1 (.int 0)) := by
  have s1 : Sh (wA x 113 (va_cpy (aI x 83) (aI x 113) 5 0 39)) := Sh_wA hs rfl _
  have s2 := Sh_wF s1 (a := 81) (k := 58) rfl (aI x 83 0)
  have r0 : z_aI .int (wA x 113 (va_cpy (aI x 83) (aI x 113) 5 0 39)) (some 83) 0 = some (aI x 83 0) := by
    have := m83 (i := 0) s1 (by decide)
    rw [aI_wA_ne (by decide)] at this
    exact this
  have pb := m_putBack s2 (k := 16) (by decide)
  rw [aI_wF, aI_wF, aI_wA_ne (by decide), aI_wA_ne (by decide)] at pb
  have pb' : D_X11_putBack (wF (wA x 113 (va_cpy (aI x 83) (aI x 113) 5 0 39)) 81 58 (.int (aI x 83 0))) (some 81) 16 = _ := pb
  have s3 : Sh (wA (wF (wA x 113 (va_cpy (aI x 83) (aI x 113) 5 0 39)) 81 58 (.int (aI x 83 0))) 83 (va_cpy (aI x 86) (aI x 83) 624 5 39)) := Sh_wA s2 rfl _
  unfold D_X11_years_217
  have lp := copy_loop (F := fun m g i => D_X11_years_220 m g (some 81) (Int32.ofNat st) i) (G := fun g => D_X11_years_220b (fun _ _ _ _ => none) g (some 81) (Int32.ofNat st) 39) (a := 113) (b := 83) (sp := 5) (dp := 0) (N := 39) rfl
    (fun m g hs => by
      show D_X11_years_220b _ g (some 81) (Int32.ofNat st) (Int32.ofNat 39) = _
      unfold D_X11_years_220b
      rw [if_pos (show (39 : Int32) ≤ Int32.ofNat 39 by decide), if_pos (show (39 : Int32) ≤ 39 by decide)])
    (fun m g i hs hi => by
      show D_X11_years_220b (D_X11_years_220 m) g (some 81) (Int32.ofNat st) (Int32.ofNat i) = _
      have c : ¬ (39 : Int32) ≤ Int32.ofNat i := fun z => by have := (nat_le (a := 39) (b := i) (by decide) (by omega)).mp z; omega
      unfold D_X11_years_220b
      rw [if_neg c, s_gQ (r := 113) hs rfl rfl, Option.bind_some, s_gQ (r := 83) hs rfl rfl, Option.bind_some, show (5 : Int32) + Int32.ofNat i = Int32.ofNat (5 + i) from sc_add 5 i, m83 hs (by omega), Option.bind_some, aW (n := 39) hs rfl hi (by decide), Option.bind_some, Option.bind_some, Nat.zero_add, show Int32.ofNat i + 1 = Int32.ofNat (i + 1) from sc_add i 1])
    (Or.inl (by decide)) hs (by decide)
  refine Eq.trans lp ?_
  unfold D_X11_years_220b
  rw [if_pos (by decide), s_gQ (r := 83) s1 rfl rfl, Option.bind_some, r0, Option.bind_some, s_pV s1 (ci := 11) rfl (by decide), Option.bind_some, s_ob s2 (ci := 11) rfl, Option.bind_some, pb', Option.bind_some, s_ob s3 (ci := 11) rfl, Option.bind_some, d_tell_ok s3 (by rw [ge0, of_int (by omega)]; omega), Option.bind_some]
theorem a_years (H : Inv j h) (x y : Int32) : Agree Inv j h (fun h => D_X10_years h (some 0) x y) (fun h => D_X11_years h (some 81) x y) := by
  have hs := H.1
  obtain ⟨n, hn6, e1, e2⟩ := H.np
  by_cases ok : (0 ≤ x.toInt ∧ x.toInt ≤ 1000000) ∧ (1 ≤ y.toInt ∧ y.toInt ≤ 60)
  · obtain ⟨d, rfl, ed, -⟩ := nat_of (x := x) (by omega)
    obtain ⟨N, rfl, eN, -⟩ := nat_of (x := y) (by omega)
    have hd : d ≤ 1000000 := by omega
    have hN : 1 ≤ N ∧ N ≤ 60 := by omega
    have pre : D_X10_years h (some 0) (Int32.ofNat d) (Int32.ofNat N) = (if Int32.ofNat n = 0 then (z_ob 10 h (some 0)).bind fun _ => (D_X10_refuse h (some 0) (-3:Int32)).bind fun p828 => some (p828.1, p828.2) else (z_ob 10 h (some 0)).bind fun _ => (D_X10_liveOnPaper h (some 0) (Int32.ofNat d) (Int32.ofNat N)).bind fun p824 => (z_ob 10 p824.2 (some 0)).bind fun _ => (D_X10_grant p824.2 (some 0) p824.1).bind fun p826 => some (p826.1, p826.2)) := by
      unfold D_X10_years
      rw [if_neg (not_neg (by omega)), if_neg (show ¬ (1000000 : Int32) < Int32.ofNat d from fun z => by have := (nat_lt (a := 1000000) (b := d) (by decide) (by omega)).mp z; omega), if_neg (show ¬ Int32.ofNat N < 1 from fun z => by have := (nat_lt (a := N) (b := 1) (by omega) (by decide)).mp z; omega), if_pos (show Int32.ofNat N ≤ 60 from (nat_le (b := 60) (by omega) (by decide)).mpr (by omega)), s_gQ (r := 1) hs rfl rfl, Option.bind_some, s_gI hs (ci := 9) rfl rfl, Option.bind_some, e1]
    have w1 : ∀ q : Nat, q < 2 ^ 31 → (Int32.ofNat q).toInt64.toInt = q := fun q hq => by rw [wide, of_int hq]
    have preM : ∀ g, Sh g → aI g 83 = aI h 83 → D_X11_years g (some 81) (Int32.ofNat d) (Int32.ofNat N) = (if Int32.ofNat n = 0 then (z_ob 11 (t0 g) (some 81)).bind fun _ => (D_X11_tell (t0 g) (some 81) (-3:Int32)).bind fun p1138 => some (p1138.1, p1138.2) else (z_ob 11 (t0 g) (some 81)).bind fun _ => (D_X11_keepAll (t0 g) (some 81) (16:Int32)).bind fun p1135 => (z_pV 11 p1135 (some 81) 56 (.long (Int32.toInt64 (Int32.ofNat d)))).bind fun h1137 => D_X11_years_68 z_F h1137 (some 81) (Int32.ofNat N) (0:Int32) (0:Int32)) := fun g hg cg => by
      have st := Sh_t0 hg
      have r0 : z_aI .int (t0 g) (some 83) 0 = some (Int32.ofNat n) := by
        have := m83 (i := 0) st (by decide)
        rw [aI_wF, cg, e2] at this
        exact this
      unfold D_X11_years
      rw [p81 hg, Option.bind_some, d_in_yes (by rw [w1 d (by omega)]; exact ⟨by show (0 : Int) ≤ d; omega, by show (d : Int) ≤ 1000000; omega⟩), Option.bind_some]
      dsimp only
      rw [if_neg one_ne, d_in_yes (by rw [w1 N (by omega)]; exact ⟨by show (1 : Int) ≤ N; omega, by show (N : Int) ≤ 60; omega⟩), Option.bind_some]
      dsimp only
      rw [if_neg one_ne, s_gQ (r := 83) st rfl rfl, Option.bind_some, r0, Option.bind_some]
    by_cases c0 : n = 0
    · subst c0
      have sr := Sh_rfC hs 3
      have st := Sh_t0 sr
      refine agree_no H (k := 3) (by decide) ?_ ?_
      · show D_X10_years h (some 0) (Int32.ofNat d) (Int32.ofNat N) = _
        have r3 := (rfs hs).2.2.1
        rw [pre, if_pos (show Int32.ofNat 0 = 0 from rfl), s_ob hs (ci := 10) rfl, Option.bind_some, r3, Option.bind_some]
        rfl
      · show D_X11_years (rfC h 3) (some 81) (Int32.ofNat d) (Int32.ofNat N) = _
        have r3 := (tls st).2.2.1
        rw [preM _ sr (cell_aI ((rfC_cells h 3).c (by decide))), if_pos (show Int32.ofNat 0 = 0 from rfl), s_ob st (ci := 11) rfl, Option.bind_some, r3, Option.bind_some]
        rfl
    · have hn : 0 < n := by omega
      have nz : ¬ Int32.ofNat n = 0 := fun z => c0 ((eq_lit (b := 0) (by omega) (by decide)).mp z)
      obtain ⟨law, T, dl, lr⟩ := H.law
      obtain ⟨g1, s1, ⟨t1, u1, c1⟩, C, dB⟩ := c_become hs (a := 12) (b := 1) (Or.inr (Or.inl rfl)) (Or.inl rfl) (by decide) H.Y.2.2.obs
      have T1 : Tch [12, 13, 14, 15, 16, 17, 18, 19, 20, 29, 30, 31, 33] h g1 := ⟨t1, u1, fun c hc => c1 c (by simp only [List.mem_cons, List.not_mem_nil, or_false] at hc; omega)⟩
      have Y1 : Yrel g1 12 (aI h 83) := Yrel_copy H.Y C (by omega) (fun a ha _ => c1 a (by omega))
      have dl1 := lawF_copy (a := 12) (b := 1) hs (Or.inl rfl) s1 (Or.inr rfl) dl H.Y (C.2.2.2 11 (by decide) (by decide)) (C.2.2.2 12 (by decide) (by decide)) (fun k hk => (C.1 k hk).2.2.2.2.2)
      obtain ⟨g2, s2, T2, Y2, hst, d2⟩ := c_yrsL (law := law) (T := T) hs hn hn6 hN.2 N 0 z_F (aI h 83, d, 0) g1 (by omega) (by show N < 1000000; omega) (by show d < 1000003; omega) (by show (0 : Nat) ≤ 0; omega) e2 s1 T1 Y1 dl1 (lr.T T1 (by decide))
      have s3 : Sh (wF g2 0 13 (.int 0)) := Sh_wF s2 rfl _
      have eA : D_X10_years h (some 0) (Int32.ofNat d) (Int32.ofNat N) = some (Int32.ofNat (yrs T n N (aI h 83, d, 0)).2.2, wF g2 0 13 (.int 0)) := by
        rw [pre, if_neg nz, s_ob hs (ci := 10) rfl, Option.bind_some]
        unfold D_X10_liveOnPaper
        rw [s_gQ (r := 12) hs rfl rfl, Option.bind_some, s_gQ (r := 1) hs rfl rfl, Option.bind_some, s_ob hs (ci := 9) rfl, Option.bind_some, dB, Option.bind_some, show D_X10_liveOnPaper_19 z_F g1 (some 0) (Int32.ofNat N) (Int32.ofNat d) 0 0 = _ from d2, Option.bind_some]
        dsimp only
        rw [s_ob s2 (ci := 10) rfl, Option.bind_some, d_grant s2, Option.bind_some]
      have Tc : Tch [0, 12, 13, 14, 15, 16, 17, 18, 19, 20, 29, 30, 31, 33] h (wF g2 0 13 (.int 0)) := Tch_wF (T2.mono (by decide)) (by decide) _ _
      have f13 : fI (wF g2 0 13 (.int 0)) 0 13 = 0 := fI_wF_eq s2 rfl _
      have f14 : fI (wF g2 0 13 (.int 0)) 0 14 = fI h 0 14 := by rw [fI_wF_ne (by decide), cell_fI (T2.c (by decide))]
      have Yp : Yrel (wF g2 0 13 (.int 0)) 12 (yrs T n N (aI h 83, d, 0)).1 := Yrel_T Y2 (Tch_wF (S := [0]) (Tch_rfl _ g2) (by decide) _ _) (isY_S (Or.inr rfl) (by decide)) (by decide)
      generalize wF g2 0 13 (.int 0) = h1 at *
      have st := Sh_t0 s3
      have b83 : aI (t0 h1) 83 = aI h 83 := by rw [aI_wF]; exact cell_aI (Tc.c (by decide))
      have b86 : aI (t0 h1) 86 = aI h 86 := by rw [aI_wF]; exact cell_aI (Tc.c (by decide))
      have ka := m_keepAll st (k := 16) (by decide)
      rw [b83, b86] at ka
      have ka' : D_X11_keepAll (t0 h1) (some 81) 16 = _ := ka
      have sk : Sh (wA (t0 h1) 86 (va_cpy (aI h 83) (aI h 86) 5 (39 * 16) 39)) := Sh_wA st rfl _
      have sJ : Sh (wF (wA (t0 h1) 86 (va_cpy (aI h 83) (aI h 86) 5 (39 * 16) 39)) 81 56 (.long (Int64.ofNat d))) := Sh_wFJ sk rfl _
      have oj : OnM [81, 86] [0, 56] h1 (wF (wA (t0 h1) 86 (va_cpy (aI h 83) (aI h 86) 5 (39 * 16) 39)) 81 56 (.long (Int64.ofNat d))) := ((t0_on s3).mono (by decide) (by decide)).trans ((onA st rfl (by decide) _).trans (wFJ_on sk rfl (by decide) (by decide) _))
      have j83 : aI (wF (wA (t0 h1) 86 (va_cpy (aI h 83) (aI h 86) 5 (39 * 16) 39)) 81 56 (.long (Int64.ofNat d))) 83 = aI h 83 := by rw [aI_wF, aI_wA_ne (by decide)]; exact b83
      have j86 : aI (wF (wA (t0 h1) 86 (va_cpy (aI h 83) (aI h 86) 5 (39 * 16) 39)) 81 56 (.long (Int64.ofNat d))) 86 = va_cpy (aI h 83) (aI h 86) 5 (39 * 16) 39 := by rw [aI_wF, aI_wA_eq st rfl]
      have jj : fJ (wF (wA (t0 h1) 86 (va_cpy (aI h 83) (aI h 86) 5 (39 * 16) 39)) 81 56 (.long (Int64.ofNat d))) 81 56 = Int64.ofNat d := fJ_wF_eq sk rfl _
      have eB0 : D_X11_years h1 (some 81) (Int32.ofNat d) (Int32.ofNat N) = D_X11_years_68 z_F (wF (wA (t0 h1) 86 (va_cpy (aI h 83) (aI h 86) 5 (39 * 16) 39)) 81 56 (.long (Int64.ofNat d))) (some 81) (Int32.ofNat N) 0 0 := by
        rw [preM _ s3 (cell_aI (Tc.c (by decide))), if_neg nz, s_ob st (ci := 11) rfl, Option.bind_some, ka', Option.bind_some, J_of32 (by omega), s_pV sk (ci := 11) rfl (by decide), Option.bind_some]
      generalize wF (wA (t0 h1) 86 (va_cpy (aI h 83) (aI h 86) 5 (39 * 16) 39)) 81 56 (.long (Int64.ofNat d)) = gx at *
      have ra : RA gx law T := (H.RA lr s3 Tc (by decide) (by decide)).on oj (by decide) (by decide) (by decide)
      obtain ⟨x', ox, ax, dx⟩ := m_yrsL (law := law) (T := T) hn hn6 hN.2 N 0 z_F (aI h 83, d, 0) gx (by omega) (by show N < 1000000; omega) (by show d < 1000003; omega) e2 ra j83 jj
      have m217 := m_y217 ox.1 (st := (yrs T n N (aI h 83, d, 0)).2.2) (by omega)
      have out := yrs_out (T := T) hn hn6 N (aI h 83, d, 0) H.Y.row
      rw [ax] at m217
      generalize yrs T n N (aI h 83, d, 0) = Rs at *
      obtain ⟨mF, dF, stF⟩ := Rs
      dsimp only at Y2 hst d2 eA Yp ax dx m217 out
      have x86 : aI x' 86 = va_cpy (aI h 83) (aI h 86) 5 (39 * 16) 39 := by rw [cell_aI (ox.2.1.c (by decide))]; exact j86
      have rowE : va_cpy (aI x' 86) mF 624 5 39 = aI h 83 := by
        funext q
        rw [x86]
        unfold va_cpy
        by_cases cq : 5 ≤ q ∧ q < 44
        · rw [if_pos (by omega), if_pos (by omega)]
          rw [show 5 + (624 + (q - 5) - 39 * 16) = q by omega]
        · rw [if_neg (by omega)]
          exact out q (by omega)
      rw [rowE] at m217
      have y1 : Sh (wA x' 113 (va_cpy mF (aI x' 113) 5 0 39)) := Sh_wA ox.1 rfl _
      have y2 := Sh_wF y1 (a := 81) (k := 58) rfl (mF 0)
      have y3 : Sh (wA (wF (wA x' 113 (va_cpy mF (aI x' 113) 5 0 39)) 81 58 (.int (mF 0))) 83 (aI h 83)) := Sh_wA y2 rfl _
      have O : OnM [81, 83, 86, 99, 101, 113] [0, 1, 34, 38, 39, 40, 56, 58] h1 (wF (wA (wF (wA x' 113 (va_cpy mF (aI x' 113) 5 0 39)) 81 58 (.int (mF 0))) 83 (aI h 83)) 81 1 (.int 0)) := (oj.mono (by decide) (by decide)).trans ((ox.mono (by decide) (by decide)).trans ((onA ox.1 rfl (by decide) _).trans (((wF_on y1 (k := 58) rfl (mF 0)).mono (by decide) (by decide)).trans ((onA y2 rfl (by decide) _).trans ((wF_on y3 (k := 1) rfl 0).mono (by decide) (by decide))))))
      have z83 : aI (wF (wA (wF (wA x' 113 (va_cpy mF (aI x' 113) 5 0 39)) 81 58 (.int (mF 0))) 83 (aI h 83)) 81 1 (.int 0)) 83 = aI h 83 := by rw [aI_wF]; exact aI_wA_eq y2 rfl _
      have z86 : aI (wF (wA (wF (wA x' 113 (va_cpy mF (aI x' 113) 5 0 39)) 81 58 (.int (mF 0))) 83 (aI h 83)) 81 1 (.int 0)) 86 = va_cpy (aI h 83) (aI h 86) 5 (39 * 16) 39 := by rw [aI_wF, aI_wA_ne (by decide), aI_wF, aI_wA_ne (by decide)]; exact x86
      have z113 : ∀ q, q < 39 → aI (wF (wA (wF (wA x' 113 (va_cpy mF (aI x' 113) 5 0 39)) 81 58 (.int (mF 0))) 83 (aI h 83)) 81 1 (.int 0)) 113 q = mF (5 + q) := fun q hq => by
        rw [aI_wF, aI_wA_ne (by decide), aI_wF, aI_wA_eq ox.1 rfl]
        unfold va_cpy
        rw [if_pos (by omega)]
        congr 1
      have z58 : fI (wF (wA (wF (wA x' 113 (va_cpy mF (aI x' 113) 5 0 39)) 81 58 (.int (mF 0))) 83 (aI h 83)) 81 1 (.int 0)) 81 58 = mF 0 := by rw [fI_wF_ne (by decide), fI_wA, fI_wF_eq y1 rfl]
      have z1 : fI (wF (wA (wF (wA x' 113 (va_cpy mF (aI x' 113) 5 0 39)) 81 58 (.int (mF 0))) 83 (aI h 83)) 81 1 (.int 0)) 81 1 = 0 := fI_wF_eq y3 rfl _
      refine ⟨Int32.ofNat stF, h1, wF (wA (wF (wA x' 113 (va_cpy mF (aI x' 113) 5 0 39)) 81 58 (.int (mF 0))) 83 (aI h 83)) 81 1 (.int 0), eA, ob81 s3, (eB0.trans dx).trans m217, ?_⟩
      generalize wF (wA (wF (wA x' 113 (va_cpy mF (aI x' 113) 5 0 39)) 81 58 (.int (mF 0))) 83 (aI h 83)) 81 1 (.int 0) = h2 at *
      have T : Tch [0, 12, 13, 14, 15, 16, 17, 18, 19, 20, 29, 30, 31, 33, 81, 83, 86, 99, 101, 113] h h2 := (Tc.mono (by decide)).trans (O.2.1.mono (by decide))
      have fo : ∀ k, k ∉ [0, 1, 34, 38, 39, 40, 56, 58] → fI h2 81 k = fI h 81 k := fun k hk => by rw [(O.2.2 k hk).1, cell_fI (Tc.c (by decide))]
      have Yp2 : Yrel h2 12 mF := Yrel_T Yp O.2.1 (isY_S (Or.inr rfl) (by decide)) (by decide)
      obtain ⟨i1, ⟨i2, i3⟩, i4, i5, i6, i7, i8, i9⟩ := H
      refine ⟨O.1, ⟨by rw [T.1]; omega, by rw [T.2.1]; omega⟩, ?_, ?_, ?_, Imgs_T i7 T (by decide) (by decide), ?_, Cnst_T i9 T (by decide)⟩
      · rw [z83]
        exact Yrel_T i4 T (fun q hq => by simp only [List.mem_cons, List.not_mem_nil, or_false]; omega) (by decide)
      · refine Ulog_R2 i5 (fo 8 (by decide)) (cell_fI (T.c (by decide)) 1) (cell_fI (T.c (by decide)) 8) (cell_aI (T.c (by decide))) (fun q hq => ?_) (cell_aI (T.c (by decide))) z83
        rw [z86]
        unfold va_cpy
        rw [if_neg (by omega)]
      · refine Told_T i6 T (by decide) ?_ (fun q hq => ?_)
        · rw [z1, cell_fI (O.2.1.c (by decide))]; exact f13
        · simp only [List.mem_cons, List.not_mem_nil, or_false] at hq
          rcases hq with rfl | rfl | rfl | rfl | rfl | rfl | rfl | rfl | rfl
          · rw [cell_fI (O.2.1.c (by decide))]; exact f14
          · exact fo _ (by decide)
          · exact cell_fI (T.c (by decide)) _
          · exact fo _ (by decide)
          · exact cell_fI (T.c (by decide)) _
          · exact fo _ (by decide)
          · exact cell_fI (T.c (by decide)) _
          · exact fo _ (by decide)
          · exact fo _ (by decide)
      · obtain ⟨yk, ⟨q0, q4, q1, q2, q3, q5, q6, q7⟩, -⟩ := Yp2
        refine Or.inr ⟨by rw [z58]; exact q0, yk.1, fun p hp => ⟨?_, ?_, fun q hq => ?_⟩⟩
        · rw [z113 _ (by omega), show 5 + (3 + p) = 8 + p by omega]; exact (q5 p hp).1
        · rw [z113 _ (by omega), show 5 + (9 + p) = 14 + p by omega]; exact (q5 p hp).2.1
        · rw [z113 _ (by omega), show 5 + (15 + 4 * p + q) = 20 + (4 * p + q) by omega]; exact q6 _ (by omega)
  · have sr := Sh_rfC hs 1
    have st := Sh_t0 sr
    have r1 := (rfs hs).1
    have r2 := (tls st).1
    have w1 : D_X10_years_22 h (some 0) = some (-1, rfC h 1) := by
      unfold D_X10_years_22
      rw [s_ob hs (ci := 10) rfl, Option.bind_some, r1, Option.bind_some]
    have w2 : D_X11_years_29 (t0 (rfC h 1)) (some 81) = some (-1, rfM (t0 (rfC h 1)) 1) := by
      unfold D_X11_years_29
      rw [s_ob st (ci := 11) rfl, Option.bind_some, r2, Option.bind_some]
    refine agree_no H (k := 1) (by decide) ?_ ?_
    · show D_X10_years h (some 0) x y = _
      unfold D_X10_years
      by_cases a1 : x < 0
      · rw [if_pos a1, w1]; rfl
      rw [if_neg a1]
      by_cases a2 : (1000000 : Int32) < x
      · rw [if_pos a2, w1]; rfl
      rw [if_neg a2]
      by_cases a3 : y < 1
      · rw [if_pos a3, w1]; rfl
      rw [if_neg a3]
      rw [lt0] at a1
      rw [Int32.lt_iff_toInt_lt] at a2 a3
      have k1 : (1000000 : Int32).toInt = 1000000 := by decide
      have k2 : (1 : Int32).toInt = 1 := by decide
      rw [if_neg (show ¬ y ≤ 60 from fun z => by
        rw [Int32.le_iff_toInt_le] at z
        have k3 : (60 : Int32).toInt = 60 := by decide
        omega), w1]
      rfl
    · show D_X11_years (rfC h 1) (some 81) x y = _
      unfold D_X11_years
      rw [p81 sr, Option.bind_some, d_in, Option.bind_some, wide]
      dsimp only
      by_cases a1 : (0 : Int64).toInt ≤ x.toInt ∧ x.toInt ≤ (1000000 : Int64).toInt
      · rw [if_pos a1, if_neg one_ne, d_in, Option.bind_some, wide]
        dsimp only
        rw [if_neg (show ¬ ((1 : Int64).toInt ≤ y.toInt ∧ y.toInt ≤ (60 : Int64).toInt) from fun z => ok ⟨a1, z⟩), if_pos rfl, w2]
        rfl
      · rw [if_neg a1, if_pos rfl, w2]
        rfl
end YA2
