/-! orders: both agree -/
section I5
variable {j : Nat} {h : z_H}
theorem a_orders (H : Inv j h) : Agree Inv j h (fun h => D_X10_orders h (some 0)) (fun h => D_X11_orders h (some 81)) := by
  have hs := H.1
  obtain ⟨tp, L, tC, tM⟩ := H.tape
  obtain ⟨t1, t2, t3, t4, t5, t6, t7, t8, t9⟩ := H.2.2.2.2.1
  have cn : Cnst h := H.2.2.2.2.2.2.2
  have wI : z_pV 2 h (some 34) 6 (.int (-1)) = some (wF h 34 6 (.int (-1))) := s_pV hs (ci := 2) rfl (by decide) _
  have sI : Sh (wF h 34 6 (.int (-1))) := Sh_wF hs rfl _
  have f6 : fI (wF h 34 6 (.int (-1))) 34 6 = -1 := fI_wF_eq hs rfl _
  have TI : Tch [34] h (wF h 34 6 (.int (-1))) := Tch_wF (Tch_rfl _ _) (by decide) _ _
  generalize wF h 34 6 (.int (-1)) = gI at *
  have tC' : TpC tp L gI := ⟨tC.1, by rw [cell_fI (TI.c (by decide))]; exact tC.2.1, by rw [cell_aI (TI.c (by decide))]; exact tC.2.2⟩
  obtain ⟨b, gC, hM0, hE0, dC, sC, TC, _, sM0, dE0, OE0, _, e200, X0⟩ := orders_run sI tC' hs tM cn
  have TCh : Tch (34 :: LC) h gC := (TI.mono (by decide)).trans (TC.mono (by decide))
  have g6 : fI gC 34 6 = -1 := by rw [cell_fI (TC.c (by decide))]; exact f6
  have sS : Sh (wF gC 23 2 (.int 0)) := Sh_wF sC rfl _
  have TS : Tch (34 :: LC) h (wF gC 23 2 (.int 0)) := Tch_wF TCh (by decide) _ _
  have pre : D_X10_orders h (some 0) = (if b01 b = 0 then (z_ob 10 (wF gC 23 2 (.int 0)) (some 0)).bind fun _ => (D_X10_refuse (wF gC 23 2 (.int 0)) (some 0) (-6:Int32)).bind fun p3072 => some (p3072.1, p3072.2) else (D_X2_run (wF gC 23 2 (.int 0)) (some 34) (some 25) (some 1) (some 21)).bind fun p3065 => if 0 ≤ p3065.1 then (z_ob 10 p3065.2 (some 0)).bind fun _ => (D_X10_grant p3065.2 (some 0) p3065.1).bind fun p3068 => some (p3068.1, p3068.2) else (z_ob 10 p3065.2 (some 0)).bind fun _ => (D_X10_refuse p3065.2 (some 0) p3065.1).bind fun p3070 => some (p3070.1, p3070.2)) := by
    unfold D_X10_orders
    rw [s_gQ (r := 34) hs rfl rfl, Option.bind_some, wI, Option.bind_some, s_gQ (r := 23) sI rfl rfl, Option.bind_some, o23 sI, Option.bind_some, dC, Option.bind_some]
    dsimp only
    rw [s_gQ (r := 23) sC rfl rfl, Option.bind_some, s_pV sC (ci := 5) rfl (by decide), Option.bind_some, s_gQ (r := 34) sS rfl rfl, Option.bind_some, s_gQ (r := 23) sS rfl rfl, Option.bind_some, s_gQ (r := 25) sS rfl rfl, Option.bind_some, s_gQ (r := 1) sS rfl rfl, Option.bind_some, s_gQ (r := 21) sS rfl rfl, Option.bind_some, s_ob sS (ci := 2) rfl, Option.bind_some]
  have again : ∀ hr, Sh hr → TpM tp L hr → Cnst hr → ∃ (hM hE : z_H), ((D_X11_beginText hr (some 81) 1).bind fun x => (z_ob 11 x (some 81)).bind fun _ => (D_X11_readOrder x (some 81)).bind fun y => D_X11_orders_19 z_F y (some 81)) = D_X11_orders_46 hM (some 81) ∧ Sh hM ∧ D_X11_endText hM (some 81) = some hE ∧ OnM LMc LMf2 hr hE ∧ fI hE 81 13 = 0 ∧ fI hE 81 20 = 0 ∧ ((b = false ∧ fI hE 81 19 = 1 ∧ fI gC 23 3 = fI hE 81 18) ∨ (b = true ∧ OGood gI gC hE)) := by
    intro hr a1 a2 a3
    obtain ⟨b', gC', hM, hE, dC', _, _, x1, x2, x3, x4, x5, x6, X⟩ := orders_run sI tC' a1 a2 a3
    have q := dC.symm.trans dC'
    have q1 := congrArg Prod.fst (Option.some.inj q)
    have q2 := congrArg Prod.snd (Option.some.inj q)
    dsimp only at q1 q2
    have q3 := b01_inj q1
    subst q2
    subst q3
    exact ⟨hM, hE, x1, x2, x3, x4, x5, x6, X⟩
  -- the reference, down to the end of the text
  have refl : ∀ h1, Sh h1 → (∀ a, a ∈ [81, 90, 96, 97, 98, 111] → h1.2.2 a = h.2.2 a) → ∃ (hM hE : z_H), D_X11_orders h1 (some 81) = D_X11_orders_46 hM (some 81) ∧ Sh hM ∧ D_X11_endText hM (some 81) = some hE ∧ OnM LMc (54 :: LMf2) (t0 h1) hE ∧ fI hE 81 54 = -1 ∧ fI hE 81 13 = 0 ∧ fI hE 81 20 = 0 ∧ ((b = false ∧ fI hE 81 19 = 1 ∧ fI gC 23 3 = fI hE 81 18) ∨ (b = true ∧ OGood gI gC hE)) := by
    intro h1 sh1 eq
    have st := Sh_t0 sh1
    have o := onMF st (k := 54) rfl (S := LMc) (ks := 54 :: LMf2) (by decide) (by decide) (-1)
    have w := s_pV st (a := 81) (ci := 11) (k := 54) rfl (by decide) (.int (-1))
    have v54 : fI (wF (t0 h1) 81 54 (.int (-1))) 81 54 = -1 := fI_wF_eq st rfl _
    have ca : ∀ a, a ∈ [90, 96, 97, 98, 111] → (wF (t0 h1) 81 54 (.int (-1))).2.2 a = h.2.2 a := fun a ha => by
      have n81 : a ≠ 81 := fun z => by rw [z] at ha; revert ha; decide
      rw [wF_ne n81, show (t0 h1).2.2 a = h1.2.2 a from wF_ne n81]
      exact eq a (List.mem_cons_of_mem _ ha)
    have c13 : fI (wF (t0 h1) 81 54 (.int (-1))) 81 13 = fI h 81 13 := by rw [fI_wF_ne (by decide), show fI (t0 h1) 81 13 = fI h1 81 13 from fI_wF_ne (by decide), cell_fI (eq 81 (by decide))]
    obtain ⟨hM, hE, x1, x2, x3, x4, x5, x6, X⟩ := again _ o.1 (tM.T c13 (cell_aI (ca 90 (by decide)))) (cn.T (fun a ha => by
      rcases ha with r | r | r | r <;> subst r <;> exact cell_aJ (ca _ (by decide))))
    refine ⟨hM, hE, ?_, x2, x3, o.trans (x4.mono (by decide) (by decide)), by rw [(x4.2.2 54 (by decide)).1]; exact v54, x5, x6, X⟩
    unfold D_X11_orders
    rw [p81 sh1, Option.bind_some, w, Option.bind_some, o81 o.1, Option.bind_some, x1]
  cases b with
  | false =>
    have sR := Sh_rfC sS 6
    have eA : D_X10_orders h (some 0) = some (-6, rfC (wF gC 23 2 (.int 0)) 6) := by
      rw [pre, if_pos (show b01 false = 0 from rfl), s_ob sS (ci := 10) rfl, Option.bind_some, (rfs sS).2.2.2.2, Option.bind_some]
    have cl : ∀ a, a ∉ 34 :: LC → a ≠ 0 → a ≠ 62 → (rfC (wF gC 23 2 (.int 0)) 6).2.2 a = h.2.2 a := fun a h1 h2 h3 => by
      unfold rfC
      rw [wA_ne h3, wF_ne h2, TS.c h1]
    generalize hh : rfC (wF gC 23 2 (.int 0)) 6 = h1 at *
    obtain ⟨hM, hE, x1, x2, x3, x4, x54, x5, x6, X⟩ := refl h1 sR (fun a ha => cl a (by revert ha; revert a; decide) (by rintro rfl; revert ha; decide) (by rintro rfl; revert ha; decide))
    have tj : ∀ q, q ≠ 0 → fI (t0 h1) 81 q = fI h 81 q := fun q hq => by rw [show fI (t0 h1) 81 q = fI h1 81 q from fI_wF_ne (by omega), cell_fI (cl 81 (by decide) (by decide) (by decide))]
    rcases X with ⟨_, y1, y2⟩ | ⟨z, _⟩
    · refine ⟨-6, h1, rfM hE 6, eA, ob81 sR, ?_, ?_⟩
      · show D_X11_orders h1 (some 81) = _
        rw [x1]
        unfold D_X11_orders_46
        rw [o81 x2, Option.bind_some, x3, Option.bind_some, s_gI x4.1 (ci := 11) rfl rfl, Option.bind_some, y1, if_neg one_ne, o81 x4.1, Option.bind_some, (tls x4.1).2.2.2.2, Option.bind_some]
      · exact bad_text H sC TCh hh.symm x4 x5 x6 y2 (g6.trans x54.symm) (by decide) (by decide) ⟨tj 8 (by decide), tj 58 (by decide), tj 11 (by decide)⟩ (by decide)
    · cases z
  | true =>
    rcases X0 with ⟨z, _⟩ | ⟨_, G0⟩
    · cases z
    have YS : Yrel (wF gC 23 2 (.int 0)) 1 (aI h 83) := Yrel_T H.Y TS (isY_S (Or.inl rfl) (by decide)) (by decide)
    have u2 : fI (wF gC 23 2 (.int 0)) 23 2 = 0 := fI_wF_eq sC rfl _
    have u3 : fI (wF gC 23 2 (.int 0)) 23 3 = -1 := by
      obtain ⟨_, _, _, _, _, _, _, _, _, _, c3, _⟩ := G0
      rw [fI_wF_ne (by decide)]; exact c3
    have u6 : fI (wF gC 23 2 (.int 0)) 34 6 = -1 := by rw [fI_wF_ne (by decide)]; exact g6
    have uc : ∀ a, a ≠ 23 → (wF gC 23 2 (.int 0)).2.2 a = gC.2.2 a := fun a ha => wF_ne ha
    obtain ⟨g0, dR, s0, Y1, Y35, e4, e5, e60, e44, e45, T0⟩ := c_start sS YS
    have T0h : Tch (WS ++ LC) h g0 := (TS.mono (by decide)).trans (T0.mono (by decide))
    have go : ∀ hM hE, Sh hM → Sh hE → D_X11_endText hM (some 81) = some hE → (∃ S, low S = true ∧ Tch S g0 hE) → aI hE 83 = aI h 83 → aI hE 86 = aI h 86 → aI hE 87 = aI h 87 → fI hE 81 8 = fI h 81 8 → fI hE 81 20 = 0 → OGood gI gC hE → ∃ (h0 : z_H) (K Ka mo : Nat → Int32), OnM [81, 86, 88, 89] [52, 53] hE h0 ∧ (∀ i, i < 624 → aI h0 88 i = aI h 86 i) ∧ (∀ i, i < 16 → aI h0 89 i = aI h 87 i) ∧ RUN g0 h0 (aI h 83) K Ka mo (fI h 81 8) (D_X2_run_29 z_F g0 (some 34) (some 25) (some 1) (some 21) (Int32.ofNat 0)) (D_X11_orders_46 hM (some 81)) := fun hM hE a1 a2 a3 a4 a5 a6 a7 a8 a9 a10 =>
      both_run H s0 Y1 Y35 e4 e5 (cell_fI (T0h.c (by decide)) 1) (cell_aI (T0h.c (by decide))) a4 a1 a2 a3 a5 a6 a7 a8 a9 a10 ((T0.c (by decide)).trans (uc 25 (by decide))) ((T0.c (by decide)).trans (uc 26 (by decide))) ((T0.c (by decide)).trans (uc 27 (by decide))) ((T0.c (by decide)).trans (uc 28 (by decide)))
    obtain ⟨hd, _, _, _, _, _, _, R0⟩ := go hM0 hE0 sM0 OE0.1 dE0 ⟨(WS ++ LC) ++ LMc, by decide, (T0h.symm'.mono (fun a z => List.mem_append_left _ z)).trans (OE0.2.1.mono (fun a z => List.mem_append_right _ z))⟩ (cell_aI (OE0.2.1.c (by decide))) (cell_aI (OE0.2.1.c (by decide))) (cell_aI (OE0.2.1.c (by decide))) (OE0.2.2 8 (by decide)).1 e200 G0
    generalize D_X2_run_29 z_F g0 (some 34) (some 25) (some 1) (some 21) (Int32.ofNat 0) = A at *
    have neg : ∀ dn : Nat, dn ≤ 240 → Int32.ofNat dn ≠ -3 := fun dn hd z => by
      have : (0 : Int32) ≤ Int32.ofNat dn := by rw [ge0, of_int (by omega)]; omega
      rw [z] at this
      revert this; decide
    rcases R0 with ⟨g', _, _, dn, _, _, dA, _, d240, J0⟩ | ⟨g1, _, _, dA, _, ⟨sg1, _, _, _, _, T1⟩, _⟩
    · have sg := J0.1
      have Tg : Tch WC g0 g' := J0.2.2.2.2.2.2.2.1
      have ge : (0 : Int32) ≤ Int32.ofNat dn := by rw [ge0, of_int (by omega)]; omega
      have s1 : Sh (wF g' 0 13 (.int 0)) := Sh_wF sg rfl _
      have T1 : Tch (0 :: WC) g0 (wF g' 0 13 (.int 0)) := Tch_wF (Tg.mono (by decide)) (by decide) _ _
      have T1h : Tch ((WS ++ LC) ++ 0 :: WC) h (wF g' 0 13 (.int 0)) := (T0h.mono (fun a z => List.mem_append_left _ z)).trans (T1.mono (fun a z => List.mem_append_right _ z))
      have eA : D_X10_orders h (some 0) = some (Int32.ofNat dn, wF g' 0 13 (.int 0)) := by
        rw [pre, if_neg (show ¬ b01 true = 0 from one_ne), dR, dA, Option.bind_some]
        dsimp only
        rw [if_pos ge, s_ob sg (ci := 10) rfl, Option.bind_some, d_grant sg, Option.bind_some]
      obtain ⟨hM, hE, x1, x2, x3, x4, x54, x5, x6, X⟩ := refl _ s1 (fun a ha => T1h.c (by revert ha; revert a; decide))
      rcases X with ⟨z, _⟩ | ⟨_, G⟩
      · cases z
      have x18 : fI hE 81 18 = -1 := by
        obtain ⟨_, _, _, _, _, y, _⟩ := G
        exact y
      have tz : Tch ((WS ++ LC ++ 0 :: WC) ++ LMc) h hE := (Tch_wF (T1h.mono (fun a z => List.mem_append_left _ z)) (by decide) 0 (.int 0)).trans (x4.2.1.mono (fun a z => List.mem_append_right _ z))
      have x8 : fI hE 81 8 = fI h 81 8 := by rw [(x4.2.2 8 (by decide)).1, show fI (t0 (wF g' 0 13 (.int 0))) 81 8 = fI (wF g' 0 13 (.int 0)) 81 8 from fI_wF_ne (by decide), cell_fI (T1h.c (by decide))]
      obtain ⟨h0, K, Ka, mo, O0, b88, b89, R⟩ := go hM hE x2 x4.1 x3 ⟨(WS ++ LC) ++ ((WS ++ LC ++ 0 :: WC) ++ LMc), by decide, (T0h.symm'.mono (fun a z => List.mem_append_left _ z)).trans (tz.mono (fun a z => List.mem_append_right _ z))⟩ (cell_aI (tz.c (by decide))) (cell_aI (tz.c (by decide))) (cell_aI (tz.c (by decide))) x8 x6 G
      rcases R with ⟨g2, h2, m, dn2, nu, la, dA2, dB2, d2, J⟩ | ⟨_, _, _, dA2, _⟩
      · have q := Option.some.inj (dA.symm.trans dA2)
        have q1 := congrArg Prod.fst q
        have q2 := congrArg Prod.snd q
        dsimp only at q1 q2
        subst q2
        have q3 : dn = dn2 := (eq_lit (by omega) (by omega)).mp q1
        subst q3
        exact ⟨Int32.ofNat dn, _, wF h2 81 1 (.int 0), eA, ob81 s1, x1.trans dB2, fin_ok H TS u2 u3 u6 T0 e60 J x4 x54 x5 x18 O0⟩
      · exact absurd (congrArg Prod.fst (Option.some.inj (dA.symm.trans dA2))) (neg dn d240)
    · have s1 := Sh_rfC sg1 3
      have eA : D_X10_orders h (some 0) = some (-3, rfC g1 3) := by
        rw [pre, if_neg (show ¬ b01 true = 0 from one_ne), dR, dA, Option.bind_some]
        dsimp only
        rw [if_neg (by decide), s_ob sg1 (ci := 10) rfl, Option.bind_some, (rfs sg1).2.2.1, Option.bind_some]
      have TR : Tch (0 :: 62 :: ([1, 4, 7, 8, 9] ++ WC)) g0 (rfC g1 3) := Tch_wA (Tch_wF (T1.mono (by decide)) (by decide) _ _) (by decide) _
      have T1h : Tch ((WS ++ LC) ++ 0 :: 62 :: ([1, 4, 7, 8, 9] ++ WC)) h (rfC g1 3) := (T0h.mono (fun a z => List.mem_append_left _ z)).trans (TR.mono (fun a z => List.mem_append_right _ z))
      obtain ⟨hM, hE, x1, x2, x3, x4, x54, x5, x6, X⟩ := refl _ s1 (fun a ha => T1h.c (by revert ha; revert a; decide))
      rcases X with ⟨z, _⟩ | ⟨_, G⟩
      · cases z
      have x18 : fI hE 81 18 = -1 := by
        obtain ⟨_, _, _, _, _, y, _⟩ := G
        exact y
      have tz : Tch (((WS ++ LC) ++ 0 :: 62 :: ([1, 4, 7, 8, 9] ++ WC)) ++ LMc) h hE := (Tch_wF (T1h.mono (fun a z => List.mem_append_left _ z)) (by decide) 0 (.int 0)).trans (x4.2.1.mono (fun a z => List.mem_append_right _ z))
      have x8 : fI hE 81 8 = fI h 81 8 := by rw [(x4.2.2 8 (by decide)).1, show fI (t0 (rfC g1 3)) 81 8 = fI (rfC g1 3) 81 8 from fI_wF_ne (by decide), cell_fI (T1h.c (by decide))]
      obtain ⟨h0, K, Ka, mo, O0, b88, b89, R⟩ := go hM hE x2 x4.1 x3 ⟨(WS ++ LC) ++ (((WS ++ LC) ++ 0 :: 62 :: ([1, 4, 7, 8, 9] ++ WC)) ++ LMc), by decide, (T0h.symm'.mono (fun a z => List.mem_append_left _ z)).trans (tz.mono (fun a z => List.mem_append_right _ z))⟩ (cell_aI (tz.c (by decide))) (cell_aI (tz.c (by decide))) (cell_aI (tz.c (by decide))) x8 x6 G
      rcases R with ⟨_, _, _, dn2, _, _, dA2, _, d2, _⟩ | ⟨g2, h2, k, dA2, dB2, ⟨sg2, Y2, q21, q22, q6, T2⟩, OM, r83, r8, r86, r87, r54, r20⟩
      · exact absurd (congrArg Prod.fst (Option.some.inj (dA2.symm.trans dA))) (neg dn2 d2)
      · have q2 := congrArg Prod.snd (Option.some.inj (dA.symm.trans dA2))
        dsimp only at q2
        subst q2
        exact ⟨-3, _, rfM h2 3, eA, ob81 s1, x1.trans dB2, fin_no H TS u2 u3 T0 e44 e45 sg2 Y2 q21 q22 q6 T2 x4 x5 x18 O0 b88 b89 OM r83 r8 r86 r87 r54 r20⟩
end I5
