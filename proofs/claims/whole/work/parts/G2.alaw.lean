/-! law: both together -/
section G2
variable {j : Nat} {h : z_H}
theorem LR_cg {n c : Nat} {op ar cl m m' : Nat → Int32} (H : LR n c op ar cl m) (e : ∀ i, i < 900 → m' i = m i) : LR n c op ar cl m' := by
  obtain ⟨hc, m1, f, ⟨cn, cf, cs⟩, cls⟩ := H
  have S : sg false op ar (fun k => m (98 + 2 * k)) (fun k => m (99 + 2 * k)) f 0 n := fun i _ hi => cs i hi
  have S' := sg_cg S (op' := op) (ar' := ar) (K' := fun k => m' (98 + 2 * k)) (Ka' := fun k => m' (99 + 2 * k)) (fun _ _ _ => ⟨rfl, rfl⟩) (fun i _ h => ⟨e _ (by omega), e _ (by omega)⟩)
  refine ⟨hc, by rw [e 1 (by decide)]; exact m1, f, ⟨cn, cf, fun i hi => S' i (Nat.zero_le _) hi⟩, fun k hk => ?_⟩
  obtain ⟨v, s0, s1, s2, a1, a2, a3, a4, a5, a6, b3, c1, c2, c3, c4, c5, d⟩ := cls k hk
  exact ⟨v, s0, s1, s2, a1, a2, a3, a4, a5, a6, b3, by rw [e _ (by omega)]; exact c1, by rw [e _ (by omega)]; exact c2, by rw [e _ (by omega)]; exact c3, by rw [e _ (by omega)]; exact c4, by rw [e _ (by omega)]; exact c5, d⟩
theorem Sh_kept {h h' : z_H} (hs : Sh h) (h1 : 114 ≤ h'.1) (e : ∀ a, a < 114 → h'.2.2 a = h.2.2 a) : Sh h' := by
  refine ⟨h1, fun a x hx => ?_⟩
  have h2 : shpL.length = 114 := rfl
  have ha : a < 114 := by have := (List.getElem?_eq_some_iff.mp hx).1; omega
  rw [e a ha, cell_canon (e a ha) x]
  exact hs.2 a x hx
theorem b01_inj {a b : Bool} (h : b01 a = b01 b) : a = b := by
  cases a <;> cases b <;> first | rfl | exact absurd h (by decide)
theorem law_full (H : Inv j h) (e : fI h 1 11 = 6) (e2 : aI h 83 2 = 6) : Agree Inv j h (fun h => D_X10_law h (some 0)) (fun h => D_X11_law h (some 81)) := by
  have hs := H.1
  obtain ⟨t1, t2, t3, t4, t5, t6, t7, t8, t9⟩ := H.2.2.2.2.1
  have s1 : Sh (wF h 23 2 (.int 0)) := Sh_wF hs rfl _
  have sC := Sh_rfC s1 5
  have eA : D_X10_law h (some 0) = some (-5, rfC (wF h 23 2 (.int 0)) 5) := by
    unfold D_X10_law
    rw [s_gQ (r := 1) hs rfl rfl, Option.bind_some, s_gI hs (ci := 9) rfl rfl, Option.bind_some, e, if_neg (by decide), s_gQ (r := 23) hs rfl rfl, Option.bind_some, s_pV hs (ci := 5) rfl (by decide), Option.bind_some, s_ob s1 (ci := 10) rfl, Option.bind_some, (rfs s1).2.2.2.1, Option.bind_some]
  have k62 : aI (rfC (wF h 23 2 (.int 0)) 5) 62 = upd (aI h 62) 5 (aI h 62 5 + 1) := by
    unfold rfC
    rw [aI_wA_eq (Sh_wF s1 rfl _) rfl, aI_wF]
  have kf : ∀ a q, ¬ (a = 0 ∧ q = 13) → ¬ (a = 23 ∧ q = 2) → fI (rfC (wF h 23 2 (.int 0)) 5) a q = fI h a q := fun a q u v => by
    unfold rfC
    rw [fI_wA, fI_wF_ne u, fI_wF_ne v]
  have k13 : fI (rfC (wF h 23 2 (.int 0)) 5) 0 13 = -5 := by unfold rfC; rw [fI_wA]; exact fI_wF_eq s1 rfl _
  have k2 : fI (rfC (wF h 23 2 (.int 0)) 5) 23 2 = 0 := by unfold rfC; rw [fI_wA, fI_wF_ne (by decide)]; exact fI_wF_eq hs rfl _
  have ka : ∀ a, a ≠ 62 → aI (rfC (wF h 23 2 (.int 0)) 5) a = aI h a := fun a u => by unfold rfC; rw [aI_wA_ne u, aI_wF, aI_wF]
  have T1 : Tch [0, 23, 62, 81, 82] h (rfC (wF h 23 2 (.int 0)) 5) := Tch_wA (Tch_wF (Tch_wF (Tch_rfl _ _) (by decide) _ _) (by decide) _ _) (by decide) _
  generalize rfC (wF h 23 2 (.int 0)) 5 = h1 at *
  have st := Sh_t0 sC
  have s3 : Sh (wF (t0 h1) 81 13 (.int 0)) := Sh_wF st rfl _
  have eB : D_X11_law h1 (some 81) = some (-5, rfM (wF (t0 h1) 81 13 (.int 0)) 5) := by
    unfold D_X11_law
    rw [p81 sC, Option.bind_some, s_gQ (r := 83) st rfl rfl, Option.bind_some, show (2 : Int32) = Int32.ofNat 2 from rfl, aR st (n := 5462) rfl (by decide) (by decide), show aI (t0 h1) 83 = aI h1 83 from aI_wF _ _ _ _, ka 83 (by decide), e2, Option.bind_some, if_pos rfl, s_pV st (ci := 11) rfl (by decide), Option.bind_some, o81 s3, Option.bind_some, (tls s3).2.2.2.1, Option.bind_some]
  have f1 : fI (rfM (wF (t0 h1) 81 13 (.int 0)) 5) 81 1 = -5 := by unfold rfM; rw [fI_wA]; exact fI_wF_eq s3 rfl _
  have fj : ∀ q, q ≠ 0 → q ≠ 1 → q ≠ 13 → fI (rfM (wF (t0 h1) 81 13 (.int 0)) 5) 81 q = fI h1 81 q := fun q u v w => by
    unfold rfM
    rw [fI_wA, fI_wF_ne (by omega), fI_wF_ne (by omega)]
    exact fI_wF_ne (by omega)
  have f13 : fI (rfM (wF (t0 h1) 81 13 (.int 0)) 5) 81 13 = 0 := by unfold rfM; rw [fI_wA, fI_wF_ne (by decide)]; exact fI_wF_eq st rfl _
  have x82 : aI (rfM (wF (t0 h1) 81 13 (.int 0)) 5) 82 = upd (aI h 82) 5 (aI h 82 5 + 1) := by
    unfold rfM
    rw [aI_wA_eq (Sh_wF s3 rfl _) rfl, aI_wF, show aI (t0 h1) 82 = aI h1 82 from aI_wF _ _ _ _, ka 82 (by decide)]
  have xa : ∀ a, a ≠ 82 → aI (rfM (wF (t0 h1) 81 13 (.int 0)) 5) a = aI h1 a := fun a u => by unfold rfM; rw [aI_wA_ne u, aI_wF, aI_wF]; exact aI_wF _ _ _ _
  have xf : ∀ a q, a ≠ 81 → fI (rfM (wF (t0 h1) 81 13 (.int 0)) 5) a q = fI h1 a q := fun a q u => by
    unfold rfM
    rw [fI_wA, fI_wF_ne (fun z => u z.1), fI_wF_ne (fun z => u z.1)]
    exact fI_wF_ne (fun z => u z.1)
  have T2 : Tch [0, 23, 62, 81, 82] h (rfM (wF (t0 h1) 81 13 (.int 0)) 5) := Tch_wA (Tch_wF (Tch_wF (Tch_wF T1 (by decide) _ _) (by decide) _ _) (by decide) _ _) (by decide) _
  refine ⟨-5, h1, _, eA, ob81 sC, eB, Inv_told H T2 (Sh_rfM s3 5) (by decide) (by decide) (by rw [fj 8 (by decide) (by decide) (by decide), kf 81 8 (by decide) (by decide)]) (by rw [fj 58 (by decide) (by decide) (by decide), kf 81 58 (by decide) (by decide)]) ⟨by rw [xf 0 13 (by decide), k13, f1], by rw [xf 0 14 (by decide), kf 0 14 (by decide) (by decide), fj 11 (by decide) (by decide) (by decide), kf 81 11 (by decide) (by decide)]; exact t2, fun i hi => ?_, by rw [xf 23 2 (by decide), k2, f13], by rw [xf 23 2 (by decide), k2]; exact ⟨0, rfl, by decide⟩, fun i hi => by rw [xa 24 (by decide), xa 90 (by decide), ka 24 (by decide), ka 90 (by decide)]; exact t6 i hi, by rw [xf 23 3 (by decide), kf 23 3 (by decide) (by decide), fj 18 (by decide) (by decide) (by decide), kf 81 18 (by decide) (by decide)]; exact t7, by rw [xf 34 6 (by decide), kf 34 6 (by decide) (by decide), fj 54 (by decide) (by decide) (by decide), kf 81 54 (by decide) (by decide)]; exact t8, by rw [fj 20 (by decide) (by decide) (by decide), kf 81 20 (by decide) (by decide)]; exact t9⟩⟩
  rw [xa 62 (by decide), k62, x82]
  by_cases q : i = 5
  · rw [q, upd_eq, upd_eq, t3 5 (by decide)]
  · rw [upd_ne q, upd_ne q]; exact t3 i hi
theorem TpM.T {tp : Nat → Nat} {L : Nat} {g' : z_H} (t : TpM tp L h) (e1 : fI g' 81 13 = fI h 81 13) (e2 : aI g' 90 = aI h 90) : TpM tp L g' := ⟨t.1, e1.trans t.2.1, by rw [e2]; exact t.2.2⟩
theorem Cnst.T {g' : z_H} (c : Cnst h) (e : ∀ a, a = 96 ∨ a = 97 ∨ a = 98 ∨ a = 111 → aJ g' a = aJ h a) : Cnst g' := by
  obtain ⟨c1, c2, c3, c4⟩ := c
  unfold Cnst
  rw [e 96 (by decide), e 97 (by decide), e 98 (by decide), e 111 (by decide)]
  exact ⟨c1, c2, c3, c4⟩
theorem a_law (H : Inv j h) : Agree Inv j h (fun h => D_X10_law h (some 0)) (fun h => D_X11_law h (some 81)) := by
  have hs := H.1
  obtain ⟨nl, hnl, e11, e2⟩ := H.nl
  by_cases n6 : nl < 6
  rotate_left
  · have : nl = 6 := by omega
    subst this
    exact law_full H e11 e2
  obtain ⟨tp, L, tC, tM⟩ := H.tape
  obtain ⟨t1, t2, t3, t4, t5, t6, t7, t8, t9⟩ := H.2.2.2.2.1
  have cn : Cnst h := H.2.2.2.2.2.2.2
  obtain ⟨b, gC, _, hE0, dC, sC, TC, _, _, _, _, _, _, X0⟩ := law_run hs tC hs tM cn
  have s2 : Sh (wF gC 23 2 (.int 0)) := Sh_wF sC rfl _
  have pre : D_X10_law h (some 0) = (if b01 b = 0 then (z_ob 10 (wF gC 23 2 (.int 0)) (some 0)).bind fun _ => (D_X10_refuse (wF gC 23 2 (.int 0)) (some 0) (-6:Int32)).bind fun p3739 => some (p3739.1, p3739.2) else (z_gQ 10 (wF gC 23 2 (.int 0)) (some 0) 0).bind fun x3723 => (z_gQ 9 (wF gC 23 2 (.int 0)) x3723 7).bind fun x3724 => (z_gQ 10 (wF gC 23 2 (.int 0)) (some 0) 0).bind fun x3725 => (z_gI 9 (wF gC 23 2 (.int 0)) x3725 11).bind fun x3726 => (z_gQ 10 (wF gC 23 2 (.int 0)) (some 0) 5).bind fun x3727 => (z_gQ 5 (wF gC 23 2 (.int 0)) x3727 1).bind fun x3728 => (z_ob 7 (wF gC 23 2 (.int 0)) x3728).bind fun _ => (D_X7_copy (wF gC 23 2 (.int 0)) x3728).bind fun p3729 => (z_sQ RX7 7 p3729.2 x3724 x3726 p3729.1).bind fun h3731 => (z_gQ 10 h3731 (some 0) 0).bind fun x3732 => (z_gI 9 h3731 x3732 11).bind fun x3733 => (z_pV 9 h3731 x3732 11 (.int (x3733 + (1:Int32)))).bind fun h3734 => (z_gQ 10 h3734 (some 0) 0).bind fun x3735 => (z_gI 9 h3734 x3735 11).bind fun x3736 => (z_ob 10 h3734 (some 0)).bind fun _ => (D_X10_grant h3734 (some 0) (x3736 - (1:Int32))).bind fun p3737 => some (p3737.1, p3737.2)) := by
    unfold D_X10_law
    rw [s_gQ (r := 1) hs rfl rfl, Option.bind_some, s_gI hs (ci := 9) rfl rfl, Option.bind_some, e11, if_pos (show Int32.ofNat nl < 6 from (nat_lt (b := 6) (by omega) (by decide)).mpr n6), s_gQ (r := 23) hs rfl rfl, Option.bind_some, o23 hs, Option.bind_some, dC, Option.bind_some]
    dsimp only
    rw [s_gQ (r := 23) sC rfl rfl, Option.bind_some, s_pV sC (ci := 5) rfl (by decide), Option.bind_some]
  have again : ∀ hr, Sh hr → TpM tp L hr → Cnst hr → ∃ (hM hE : z_H), ((D_X11_beginText hr (some 81) 0).bind fun x => (z_ob 11 x (some 81)).bind fun _ => (D_X11_readLaw x (some 81)).bind fun y => D_X11_law_37 z_F y (some 81)) = D_X11_law_64 hM (some 81) ∧ Sh hM ∧ D_X11_endText hM (some 81) = some hE ∧ OnM LMc LMf2 hr hE ∧ fI hE 81 13 = 0 ∧ fI hE 81 20 = 0 ∧ ((b = false ∧ fI hE 81 19 = 1 ∧ fI gC 23 3 = fI hE 81 18) ∨ (b = true ∧ LGood h gC hE)) := by
    intro hr a1 a2 a3
    obtain ⟨b', gC', hM, hE, dC', _, _, x1, x2, x3, x4, x5, x6, X⟩ := law_run hs tC a1 a2 a3
    have q := dC.symm.trans dC'
    have q1 := congrArg Prod.fst (Option.some.inj q)
    have q2 := congrArg Prod.snd (Option.some.inj q)
    dsimp only at q1 q2
    have q3 := b01_inj q1
    subst q2
    subst q3
    exact ⟨hM, hE, x1, x2, x3, x4, x5, x6, X⟩
  -- the reference, down to the end of the text
  have refl : ∀ h1, Sh h1 → aI h1 83 2 = Int32.ofNat nl → ∀ hM hE, ((D_X11_beginText (t0 h1) (some 81) 0).bind fun x => (z_ob 11 x (some 81)).bind fun _ => (D_X11_readLaw x (some 81)).bind fun y => D_X11_law_37 z_F y (some 81)) = D_X11_law_64 hM (some 81) → Sh hM → D_X11_endText hM (some 81) = some hE → D_X11_law h1 (some 81) = ((z_gI 11 hE (some 81) 19).bind fun x3820 => if x3820 = 0 then (z_gQ 11 hE (some 81) 3).bind fun x3822 => (z_aI .int hE x3822 (2:Int32)).bind fun x3823 => (some ((62:Int32) + ((900:Int32) * x3823))).bind fun x3824 => (z_gQ 11 hE (some 81) 3).bind fun x3825 => (z_gI 11 hE (some 81) 21).bind fun x3826 => (z_sI hE x3825 (x3824 + (1:Int32)) x3826).bind fun h3827 => D_X11_law_110 z_F h3827 (some 81) x3824 (0:Int32) else (z_ob 11 hE (some 81)).bind fun _ => (D_X11_tell hE (some 81) (-6:Int32)).bind fun p3828 => some (p3828.1, p3828.2)) := by
    intro h1 sh1 e83 hM hE r1 sM rE
    have st := Sh_t0 sh1
    unfold D_X11_law
    rw [p81 sh1, Option.bind_some, s_gQ (r := 83) st rfl rfl, Option.bind_some, show (2 : Int32) = Int32.ofNat 2 from rfl, aR st (n := 5462) rfl (by decide) (by decide), show aI (t0 h1) 83 = aI h1 83 from aI_wF _ _ _ _, e83, Option.bind_some, if_neg (show ¬ Int32.ofNat nl = 6 from fun z => by have := (eq_lit (b := 6) (by omega) (by decide)).mp z; omega), o81 st, Option.bind_some, r1]
    unfold D_X11_law_64
    rw [o81 sM, Option.bind_some, rE, Option.bind_some]
    rfl
  cases b with
  | false =>
    have sR := Sh_rfC s2 6
    have eA : D_X10_law h (some 0) = some (-6, rfC (wF gC 23 2 (.int 0)) 6) := by
      rw [pre, if_pos (show b01 false = 0 from rfl), s_ob s2 (ci := 10) rfl, Option.bind_some, (rfs s2).2.2.2.2, Option.bind_some]
    have cl : ∀ a, a ∉ LC → a ≠ 0 → a ≠ 62 → (rfC (wF gC 23 2 (.int 0)) 6).2.2 a = h.2.2 a := fun a h1 h2 h3 => by
      unfold rfC
      rw [wA_ne h3, wF_ne h2, wF_ne (fun z => h1 (by rw [z]; decide)), TC.c h1]
    generalize hh : rfC (wF gC 23 2 (.int 0)) 6 = h1 at *
    have st := Sh_t0 sR
    have tj : ∀ q, q ≠ 0 → fI (t0 h1) 81 q = fI h 81 q := fun q hq => by rw [show fI (t0 h1) 81 q = fI h1 81 q from fI_wF_ne (by omega), cell_fI (cl 81 (by decide) (by decide) (by decide))]
    have ta : ∀ a, a ∉ LC → a ≠ 0 → a ≠ 62 → a ≠ 81 → (t0 h1).2.2 a = h.2.2 a := fun a u v w x => by rw [show (t0 h1).2.2 a = h1.2.2 a from wF_ne x]; exact cl a u v w
    obtain ⟨hM, hE, x1, x2, x3, x4, x5, x6, X⟩ := again (t0 h1) st (tM.T (tj 13 (by decide)) (cell_aI (ta 90 (by decide) (by decide) (by decide) (by decide)))) (cn.T (fun a ha => by
      rcases ha with r | r | r | r <;> subst r <;> exact cell_aJ (ta _ (by decide) (by decide) (by decide) (by decide))))
    rcases X with ⟨_, y1, y2⟩ | ⟨z, _⟩
    · refine ⟨-6, h1, rfM hE 6, eA, ob81 sR, ?_, ?_⟩
      · show D_X11_law h1 (some 81) = _
        rw [refl h1 sR (by rw [cell_aI (cl 83 (by decide) (by decide) (by decide))]; exact e2) hM hE x1 x2 x3, s_gI x4.1 (ci := 11) rfl rfl, Option.bind_some, y1, if_neg one_ne, o81 x4.1, Option.bind_some, (tls x4.1).2.2.2.2, Option.bind_some]
      · refine bad_text H sC TC hh.symm x4 x5 x6 y2 ?_ (by decide) (by decide) ⟨tj 8 (by decide), tj 58 (by decide), tj 11 (by decide)⟩ (by decide)
        rw [cell_fI (TC.c (by decide)), (x4.2.2 54 (by decide)).1, tj 54 (by decide)]; exact t8
    · cases z
  | true =>
    rcases X0 with ⟨z, _⟩ | ⟨_, k0, n0, nM0, _, _, _, _, _, bk, bn, z3, z53, z54, len, _⟩
    · cases z
    have n400 : n0 ≤ 400 := by omega
    have w53 : fI (wF gC 23 2 (.int 0)) 25 3 = Int32.ofNat n0 := by rw [fI_wF_ne (by decide)]; exact z53
    have w54 : fI (wF gC 23 2 (.int 0)) 25 4 = Int32.ofNat k0 := by rw [fI_wF_ne (by decide)]; exact z54
    obtain ⟨g3, op', ar', cl', d3, Q3, eo, ecl⟩ := c_copy s2 w53 w54 n400 bk
    have hC1 : (wF gC 23 2 (.int 0)).1 = h.1 := TC.1
    have hC2 : (wF gC 23 2 (.int 0)).2.1 = h.2.1 := TC.2.1
    have h114 := hs.1
    rw [hC1] at d3 Q3
    have c2a : ∀ a, a ∉ LC → (wF gC 23 2 (.int 0)).2.2 a = h.2.2 a := fun a ha => by rw [wF_ne (fun z => ha (by rw [z]; decide)), TC.c ha]
    have c3a : ∀ a, a < h.1 → a ∉ LC → g3.2.2 a = h.2.2 a := fun a ha hb => by rw [Q3.2.2.1 a ha, c2a a hb]
    have s3 : Sh g3 := Sh_kept s2 (by have := Q3.1; omega) (fun a ha => Q3.2.2.1 a (by omega))
    have sx : z_sQ RX7 7 g3 (some 9) (Int32.ofNat nl) (some h.1) = some (wQ g3 9 (va_up (aQ g3 9) nl (some h.1))) := s_sQ s3 (n := 6) rfl (Or.inr (by rw [r_ob (by have := Q3.1; omega) Q3.2.2.2.1]; rfl)) n6 (by decide)
    have s4 : Sh (wQ g3 9 (va_up (aQ g3 9) nl (some h.1))) := Sh_wQ s3 rfl _
    have q4 : aQ (wQ g3 9 (va_up (aQ g3 9) nl (some h.1))) 9 = va_up (aQ h 9) nl (some h.1) := by rw [aQ_wQ_eq s3 rfl, cell_aQ (c3a 9 (by omega) (by decide))]
    have c4a : ∀ a, a ≠ 9 → (wQ g3 9 (va_up (aQ g3 9) nl (some h.1))).2.2 a = g3.2.2 a := fun a ha => wQ_ne ha
    have l4 : (wQ g3 9 (va_up (aQ g3 9) nl (some h.1))).1 = g3.1 ∧ (wQ g3 9 (va_up (aQ g3 9) nl (some h.1))).2.1 = g3.2.1 := ⟨rfl, rfl⟩
    have f411 : fI (wQ g3 9 (va_up (aQ g3 9) nl (some h.1))) 1 11 = Int32.ofNat nl := by rw [fI_wQ, cell_fI (c3a 1 (by omega) (by decide))]; exact e11
    generalize wQ g3 9 (va_up (aQ g3 9) nl (some h.1)) = g4 at *
    have s5 : Sh (wF g4 1 11 (.int (Int32.ofNat (nl + 1)))) := Sh_wF s4 rfl _
    have f511 : fI (wF g4 1 11 (.int (Int32.ofNat (nl + 1)))) 1 11 = Int32.ofNat (nl + 1) := fI_wF_eq s4 rfl _
    have s6 : Sh (wF (wF g4 1 11 (.int (Int32.ofNat (nl + 1)))) 0 13 (.int 0)) := Sh_wF s5 rfl _
    have q11 : z_gI 9 (wF gC 23 2 (.int 0)) (some 1) 11 = some (Int32.ofNat nl) := by rw [s_gI s2 (ci := 9) rfl rfl, fI_wF_ne (by decide), cell_fI (TC.c (by decide))]; exact congrArg some e11
    have eA : D_X10_law h (some 0) = some (Int32.ofNat nl, wF (wF g4 1 11 (.int (Int32.ofNat (nl + 1)))) 0 13 (.int 0)) := by
      rw [pre, if_neg (show ¬ b01 true = 0 by decide), s_gQ (r := 1) s2 rfl rfl, Option.bind_some, s_gQ (r := 9) s2 rfl rfl, Option.bind_some, Option.bind_some, q11, Option.bind_some, s_gQ (r := 23) s2 rfl rfl, Option.bind_some, q25 s2, Option.bind_some, o25 s2, Option.bind_some, d3, Option.bind_some]
      dsimp only
      rw [sx, Option.bind_some, s_gQ (r := 1) s4 rfl rfl, Option.bind_some, s_gI s4 (ci := 9) rfl rfl, Option.bind_some, f411, show Int32.ofNat nl + 1 = Int32.ofNat (nl + 1) from sc_add nl 1, s_pV s4 (ci := 9) rfl (by decide), Option.bind_some, s_gQ (r := 1) s5 rfl rfl, Option.bind_some, s_gI s5 (ci := 9) rfl rfl, Option.bind_some, f511, s_ob s5 (ci := 10) rfl, Option.bind_some, show Int32.ofNat (nl + 1) - 1 = Int32.ofNat nl from sc_sub (k := 1) (by omega), d_grant s5, Option.bind_some]
    -- the class's last heap
    have cl : ∀ a, a < h.1 → a ∉ LC → a ≠ 0 → a ≠ 1 → a ≠ 9 → (wF (wF g4 1 11 (.int (Int32.ofNat (nl + 1)))) 0 13 (.int 0)).2.2 a = h.2.2 a := fun a ha hb h0 h1 h9 => by rw [wF_ne h0, wF_ne h1, c4a a h9, c3a a ha hb]
    have cn4 : ∀ a, h.1 ≤ a → (wF (wF g4 1 11 (.int (Int32.ofNat (nl + 1)))) 0 13 (.int 0)).2.2 a = g3.2.2 a := fun a ha => by rw [wF_ne (by omega), wF_ne (by omega), c4a a (by omega)]
    have f1q : ∀ q, q ≠ 11 → fI (wF (wF g4 1 11 (.int (Int32.ofNat (nl + 1)))) 0 13 (.int 0)) 1 q = fI h 1 q := fun q hq => by rw [fI_wF_ne (by omega), fI_wF_ne (by omega), cell_fI (c4a 1 (by decide)), cell_fI (c3a 1 (by omega) (by decide))]
    have f111 : fI (wF (wF g4 1 11 (.int (Int32.ofNat (nl + 1)))) 0 13 (.int 0)) 1 11 = Int32.ofNat (nl + 1) := by rw [fI_wF_ne (by decide)]; exact f511
    have f013 : fI (wF (wF g4 1 11 (.int (Int32.ofNat (nl + 1)))) 0 13 (.int 0)) 0 13 = 0 := fI_wF_eq s5 rfl _
    have f014 : fI (wF (wF g4 1 11 (.int (Int32.ofNat (nl + 1)))) 0 13 (.int 0)) 0 14 = fI h 0 14 := by rw [fI_wF_ne (by decide), fI_wF_ne (by decide), cell_fI (c4a 0 (by decide)), cell_fI (c3a 0 (by omega) (by decide))]
    have q9 : aQ (wF (wF g4 1 11 (.int (Int32.ofNat (nl + 1)))) 0 13 (.int 0)) 9 = va_up (aQ h 9) nl (some h.1) := by rw [aQ_wF, aQ_wF]; exact q4
    have f23 : ∀ q, fI (wF (wF g4 1 11 (.int (Int32.ofNat (nl + 1)))) 0 13 (.int 0)) 23 q = fI (wF gC 23 2 (.int 0)) 23 q := fun q => by rw [fI_wF_ne (by omega), fI_wF_ne (by omega), cell_fI (c4a 23 (by decide)), cell_fI (Q3.2.2.1 23 (by omega))]
    have ll : (wF (wF g4 1 11 (.int (Int32.ofNat (nl + 1)))) 0 13 (.int 0)).1 = h.1 + 4 ∧ (wF (wF g4 1 11 (.int (Int32.ofNat (nl + 1)))) 0 13 (.int 0)).2.1 = h.2.1 + (5 + n0 + n0 + 6 * k0) := ⟨by show g4.1 = _; rw [l4.1]; exact Q3.1, by show g4.2.1 = _; rw [l4.2, Q3.2.1, hC2]⟩
    generalize wF (wF g4 1 11 (.int (Int32.ofNat (nl + 1)))) 0 13 (.int 0) = h1 at *
    have st := Sh_t0 s6
    have tj : ∀ q, q ≠ 0 → fI (t0 h1) 81 q = fI h 81 q := fun q hq => by rw [show fI (t0 h1) 81 q = fI h1 81 q from fI_wF_ne (by omega), cell_fI (cl 81 (by omega) (by decide) (by decide) (by decide) (by decide))]
    have ta : ∀ a, a ≠ 81 → (t0 h1).2.2 a = h1.2.2 a := fun a x => wF_ne x
    obtain ⟨hM, hE, x1, x2, x3, x4, x5, x6, X⟩ := again (t0 h1) st (tM.T (tj 13 (by decide)) (by rw [cell_aI (ta 90 (by decide)), cell_aI (cl 90 (by omega) (by decide) (by decide) (by decide) (by decide))])) (cn.T (fun a ha => by
      rcases ha with r | r | r | r <;> subst r <;> rw [cell_aJ (ta _ (by decide)), cell_aJ (cl _ (by omega) (by decide) (by decide) (by decide) (by decide))]))
    rcases X with ⟨z, _⟩ | ⟨_, k, n, nM, f, y19, y18, y21, y23, hk, hnM, _, y53, y54, le, f0, fn, SS, cls⟩
    · cases z
    have en : n = n0 := (eq_lit (by omega) (by omega)).mp (y53.symm.trans z53)
    have ek : k = k0 := (eq_lit (by omega) (by omega)).mp (y54.symm.trans z54)
    subst en
    subst ek
    have e83 : aI hE 83 = aI h 83 := by rw [cell_aI (x4.2.1.c (by decide)), cell_aI (ta 83 (by decide)), cell_aI (cl 83 (by omega) (by decide) (by decide) (by decide) (by decide))]
    obtain ⟨m', dm, m2, m1, mcl, mcd, mo⟩ := m_put x4.1 y21 hk y23 hnM n6 (m0 := upd (aI hE 83) (62 + 900 * nl + 1) (Int32.ofNat k)) (by rw [upd_ne (by omega), e83]; exact e2)
    rw [upd_eq] at m1
    have mk : ∀ i, i ≠ 2 → (i < 62 + 900 * nl ∨ 62 + 900 * (nl + 1) ≤ i) → m' i = aI h 83 i := fun i u v => by rw [mo i u v, upd_ne (by omega), e83]
    have eB : D_X11_law h1 (some 81) = some (Int32.ofNat nl, wF (wA hE 83 m') 81 1 (.int 0)) := by
      rw [refl h1 s6 (by rw [cell_aI (cl 83 (by omega) (by decide) (by decide) (by decide) (by decide))]; exact e2) hM hE x1 x2 x3, s_gI x4.1 (ci := 11) rfl rfl, Option.bind_some, y19, if_pos rfl, s_gQ (r := 83) x4.1 rfl rfl, Option.bind_some, show (2 : Int32) = Int32.ofNat 2 from rfl, aR x4.1 (n := 5462) rfl (by decide) (by decide), e83, e2, Option.bind_some, Option.bind_some, Option.bind_some, s_gI x4.1 (ci := 11) rfl rfl, Option.bind_some, y21, show (900 : Int32) * Int32.ofNat nl = Int32.ofNat (900 * nl) from (Int32.ofNat_mul 900 nl).symm, show (62 : Int32) + Int32.ofNat (900 * nl) = Int32.ofNat (62 + 900 * nl) from sc_add 62 _, show Int32.ofNat (62 + 900 * nl) + 1 = Int32.ofNat (62 + 900 * nl + 1) from sc_add _ 1, aW x4.1 (n := 5462) rfl (by omega) (by decide), Option.bind_some]
      exact dm
    have sA : Sh (wA hE 83 m') := Sh_wA x4.1 rfl _
    have sF : Sh (wF (wA hE 83 m') 81 1 (.int 0)) := Sh_wF sA rfl _
    have z83 : aI (wF (wA hE 83 m') 81 1 (.int 0)) 83 = m' := by rw [aI_wF, aI_wA_eq x4.1 rfl]
    have zc : ∀ a, a ∉ LMc → a ≠ 83 → (wF (wA hE 83 m') 81 1 (.int 0)).2.2 a = h1.2.2 a := fun a u v => by rw [wF_ne (fun z => u (by rw [z]; decide)), wA_ne v, x4.2.1.c u, ta a (fun z => u (by rw [z]; decide))]
    have zj : ∀ q, q ≠ 1 → fI (wF (wA hE 83 m') 81 1 (.int 0)) 81 q = fI hE 81 q := fun q hq => by rw [fI_wF_ne (by omega), fI_wA]
    have z1 : fI (wF (wA hE 83 m') 81 1 (.int 0)) 81 1 = 0 := fI_wF_eq sA rfl _
    have zl : (wF (wA hE 83 m') 81 1 (.int 0)).1 = h1.1 ∧ (wF (wA hE 83 m') 81 1 (.int 0)).2.1 = h1.2.1 := ⟨x4.2.1.1, x4.2.1.2.1⟩
    generalize wF (wA hE 83 m') 81 1 (.int 0) = h2 at *
    have zjj : ∀ q, q ≠ 0 → q ≠ 1 → q ∉ LMf2 → fI h2 81 q = fI h 81 q := fun q a b c => by rw [zj q b, (x4.2.2 q c).1, tj q a]
    -- cells of h2
    have zh : ∀ a, a < h.1 → a ∉ LC → a ≠ 0 → a ≠ 1 → a ≠ 9 → a ∉ LMc → a ≠ 83 → h2.2.2 a = h.2.2 a := fun a b c d e f i g => by rw [zc a i g, cl a b c d e f]
    have ch1 : ∀ q, fI h2 1 q = fI h1 1 q := fun q => cell_fI (zc 1 (by decide) (by decide)) q
    have lLC : ∀ x ∈ LC, x < 114 := by decide
    have lLM : ∀ x ∈ LMc, x < 114 := by decide
    have big : ∀ a, 114 ≤ a → a < h.1 → h2.2.2 a = h.2.2 a := fun a ha hb => zh a hb (fun z => by have := lLC a z; omega) (by omega) (by omega) (by omega) (fun z => by have := lLM a z; omega) (by omega)
    have lle : h.1 ≤ h2.1 := by rw [zl.1, ll.1]; omega
    have nLM : ∀ a, 114 ≤ a → a ∉ LMc := fun a ha z => by
      have : ∀ x ∈ LMc, x < 114 := by decide
      have := this a z; omega
    have aY : ∀ q, 1 ≤ q → q ≤ 7 → aI h2 (1 + q) = aI h (1 + q) := fun q u v => by
      rcases (show q = 1 ∨ q = 2 ∨ q = 3 ∨ q = 4 ∨ q = 5 ∨ q = 6 ∨ q = 7 by omega) with r | r | r | r | r | r | r <;> subst r <;> exact cell_aI (zh _ (by omega) (by decide) (by decide) (by decide) (by decide) (by decide) (by decide))
    have tnl : tn (Int32.ofNat nl) = nl := tn_of (by omega)
    have tnl1 : tn (Int32.ofNat (nl + 1)) = nl + 1 := tn_of (by omega)
    obtain ⟨o1, o2, o3, o4, o5, o6, o7, o8⟩ := H.Y.1
    obtain ⟨y1, y2, y3, y4, y5, y6, y7, y8⟩ := H.Y.2.1
    obtain ⟨l1, l2⟩ := H.Y.2.2
    have TN : Txt h2 h.1 n k op' ar' cl' := by
      have zz : ∀ i, i < 4 → h2.2.2 (h.1 + i) = g3.2.2 (h.1 + i) := fun i hi => by rw [zc _ (nLM _ (by omega)) (by omega), cn4 _ (by omega)]
      refine ⟨h114, by rw [zl.1, ll.1]; omega, n400, hk, ?_, ?_, ?_, ?_⟩
      · rw [show h.1 = h.1 + 0 from rfl, zz 0 (by decide)]; exact Q3.2.2.2.1
      · rw [zz 1 (by decide)]; exact Q3.2.2.2.2.1
      · rw [zz 2 (by decide)]; exact Q3.2.2.2.2.2.1
      · rw [zz 3 (by decide)]; exact Q3.2.2.2.2.2.2
    have LN : LR n k op' ar' cl' (fun i => m' (62 + 900 * nl + i)) := LR_new (m := fun i => m' (62 + 900 * nl + i)) hk hnM le f0 fn SS cls (fun i hi => ⟨by rw [(eo i hi).1, aI_wF], by rw [(eo i hi).2, aI_wF]⟩) (fun i hi => by rw [ecl i hi, aI_wF]) m1 (fun i hi => by
      have := mcl i hi
      rw [show 62 + 900 * nl + 2 + i = 62 + 900 * nl + (2 + i) by omega] at this
      exact this) (fun i hi => by
      have := mcd i hi
      rw [show 62 + 900 * nl + 98 + 2 * i = 62 + 900 * nl + (98 + 2 * i) by omega, show 62 + 900 * nl + 99 + 2 * i = 62 + 900 * nl + (99 + 2 * i) by omega] at this
      exact this)
    have q9h : ∀ i, aQ h2 9 i = if i = nl then some h.1 else aQ h 9 i := fun i => by rw [cell_aQ (zc 9 (by decide) (by decide)), q9]; rfl
    have YY : Yrel h2 1 m' := by
      refine ⟨⟨by rw [ch1, f1q 8 (by decide)]; exact o1, by rw [ch1, f1q 9 (by decide)]; exact o2, by rw [ch1, f1q 10 (by decide)]; exact o3, by rw [ch1, f111]; exact ⟨nl + 1, rfl, by omega⟩, ?_, ?_, ?_, ?_⟩, ⟨?_, ?_, ?_, ?_, ?_, ?_, ?_, ?_⟩, ?_, ?_⟩
      · rw [ch1, ch1, f1q 12 (by decide), f111, tnl1]
        rcases o5 with z | ⟨a, z1, z2⟩
        · exact Or.inl z
        · rw [e11, tnl] at z2
          exact Or.inr ⟨a, z1, by omega⟩
      · rw [aY 1 (by decide) (by decide), aY 2 (by decide) (by decide), aY 3 (by decide) (by decide), aY 6 (by decide) (by decide), aY 7 (by decide) (by decide)]; exact o6
      · rw [aY 4 (by decide) (by decide)]; exact o7
      · rw [aY 5 (by decide) (by decide)]; exact o8
      · rw [ch1, f1q 8 (by decide), mk 0 (by decide) (by omega)]; exact y1
      · rw [ch1, f1q 9 (by decide), mk 4 (by decide) (by omega)]; exact y2
      · rw [ch1, f1q 10 (by decide), mk 1 (by decide) (by omega)]; exact y3
      · rw [ch1, f111]; exact m2
      · rw [ch1, f1q 12 (by decide), mk 3 (by decide) (by omega)]; exact y5
      · intro i hi
        rw [mk (8 + i) (by omega) (by omega), mk (14 + i) (by omega) (by omega), mk (44 + i) (by omega) (by omega), mk (50 + 2 * i) (by omega) (by omega), mk (51 + 2 * i) (by omega) (by omega), aY 1 (by decide) (by decide), aY 2 (by decide) (by decide), aY 3 (by decide) (by decide), aY 6 (by decide) (by decide), aY 7 (by decide) (by decide)]; exact y6 i hi
      · intro i hi
        rw [mk (20 + i) (by omega) (by omega), aY 4 (by decide) (by decide)]; exact y7 i hi
      · intro i hi
        rw [mk (5 + i) (by omega) (by omega), aY 5 (by decide) (by decide)]; exact y8 i hi
      · intro i hi
        show aQ h2 9 i = none ∨ _
        rw [show (1 + 8 : Nat) = 9 from rfl, q9h]
        by_cases q : i = nl
        · rw [if_pos q]; exact Or.inr ⟨h.1, n, k, op', ar', cl', rfl, TN⟩
        · rw [if_neg q]
          rcases l1 i hi with z | ⟨t, n', c', a1, a2, a3, z1, z2⟩
          · exact Or.inl z
          · exact Or.inr ⟨t, n', c', a1, a2, a3, z1, z2.kept lle big⟩
      · intro i hi
        rw [ch1, f111, tnl1] at hi
        rw [show (1 + 8 : Nat) = 9 from rfl, q9h]
        by_cases q : i = nl
        · rw [if_pos q, q]; exact ⟨h.1, n, k, op', ar', cl', rfl, TN, LN⟩
        · rw [if_neg q]
          obtain ⟨t, n', c', a1, a2, a3, z1, z2, z3⟩ := l2 i (by rw [e11, tnl]; omega)
          exact ⟨t, n', c', a1, a2, a3, z1, z2.kept lle big, LR_cg z3 (fun u hu => mk _ (by omega) (by omega))⟩
    refine ⟨Int32.ofNat nl, h1, h2, eA, ob81 s6, eB, sF, ⟨?_, ?_⟩, by rw [z83]; exact YY, ?_, ⟨?_, ?_, ?_, ?_, ?_, ?_, ?_, ?_, ?_⟩, ?_, ?_, ?_⟩
    · rw [zl.1, ll.1]; have := H.2.1.1; omega
    · rw [zl.2, ll.2]; have := H.2.1.2; omega
    · obtain ⟨u1, u2, u3⟩ := H.2.2.2.1
      have v21 : ∀ q, fI h2 21 q = fI h 21 q := fun q => cell_fI (zh 21 (by omega) (by decide) (by decide) (by decide) (by decide) (by decide) (by decide)) q
      have v22 : aI h2 22 = aI h 22 := cell_aI (zh 22 (by omega) (by decide) (by decide) (by decide) (by decide) (by decide) (by decide))
      have v86 : aI h2 86 = aI h 86 := cell_aI (zh 86 (by omega) (by decide) (by decide) (by decide) (by decide) (by decide) (by decide))
      have v87 : aI h2 87 = aI h 87 := cell_aI (zh 87 (by omega) (by decide) (by decide) (by decide) (by decide) (by decide) (by decide))
      unfold Ulog
      rw [zjj 8 (by decide) (by decide) (by decide), v21, v22, v86, v87, ch1, f1q 8 (by decide), z83]
      refine ⟨u1, u2, fun i hi => ?_⟩
      obtain ⟨w1, w2, w3, w4, w5⟩ := u3 i hi
      refine ⟨w1, w2, w3, w4, fun q hq => ?_⟩
      rw [w5 q hq]
      unfold undone
      dsimp only
      rw [mk (5 + q) (by omega) (by omega)]
    · rw [cell_fI (zc 0 (by decide) (by decide)), f013, z1]
    · rw [cell_fI (zc 0 (by decide) (by decide)), f014, zjj 11 (by decide) (by decide) (by decide)]; exact t2
    · intro i hi
      rw [cell_aI (zh 62 (by omega) (by decide) (by decide) (by decide) (by decide) (by decide) (by decide)), cell_aI (zh 82 (by omega) (by decide) (by decide) (by decide) (by decide) (by decide) (by decide))]; exact t3 i hi
    · rw [cell_fI (zc 23 (by decide) (by decide)), f23, fI_wF_eq sC rfl, zj 13 (by decide), x5]
    · rw [cell_fI (zc 23 (by decide) (by decide)), f23, fI_wF_eq sC rfl]; exact ⟨0, rfl, by decide⟩
    · intro i hi
      rw [cell_aI (zh 24 (by omega) (by decide) (by decide) (by decide) (by decide) (by decide) (by decide)), cell_aI (zh 90 (by omega) (by decide) (by decide) (by decide) (by decide) (by decide) (by decide))]; exact t6 i hi
    · rw [cell_fI (zc 23 (by decide) (by decide)), f23, fI_wF_ne (by decide), zj 18 (by decide), y18, z3]
    · rw [cell_fI (zh 34 (by omega) (by decide) (by decide) (by decide) (by decide) (by decide) (by decide)), zjj 54 (by decide) (by decide) (by decide)]; exact t8
    · rw [zj 20 (by decide)]; exact x6
    · obtain ⟨i1, i2, i3⟩ := H.2.2.2.2.2.1
      unfold Imgs
      rw [cell_aQ (zh 10 (by omega) (by decide) (by decide) (by decide) (by decide) (by decide) (by decide)), cell_aI (zh 11 (by omega) (by decide) (by decide) (by decide) (by decide) (by decide) (by decide)), cell_aI (zh 84 (by omega) (by decide) (by decide) (by decide) (by decide) (by decide) (by decide)), cell_aI (zh 85 (by omega) (by decide) (by decide) (by decide) (by decide) (by decide) (by decide))]
      refine ⟨i1, i2, fun u hu => ⟨(i3 u hu).1, (i3 u hu).2.imp id (fun z => ⟨z.1, z.2.kept (fun q hq => ?_) lle big⟩)⟩⟩
      have nl1 : ∀ x ∈ LC, x < 63 := by decide
      have nl2 : ∀ x ∈ LMc, 81 ≤ x := by decide
      exact zh _ (by omega) (fun z => by have := nl1 _ z; omega) (by omega) (by omega) (by omega) (fun z => by have := nl2 _ z; omega) (by omega)
    · have := H.2.2.2.2.2.2.1
      unfold Drwn at this ⊢
      rw [zjj 58 (by decide) (by decide) (by decide), cell_fI (zh 12 (by omega) (by decide) (by decide) (by decide) (by decide) (by decide) (by decide)), cell_aI (zh 13 (by omega) (by decide) (by decide) (by decide) (by decide) (by decide) (by decide)), cell_aI (zh 14 (by omega) (by decide) (by decide) (by decide) (by decide) (by decide) (by decide)), cell_aI (zh 16 (by omega) (by decide) (by decide) (by decide) (by decide) (by decide) (by decide)), cell_aI (zh 113 (by omega) (by decide) (by decide) (by decide) (by decide) (by decide) (by decide))]
      exact this
    · exact cn.T (fun a ha => by
        rcases ha with r | r | r | r <;> subst r <;> exact cell_aJ (zh _ (by omega) (by decide) (by decide) (by decide) (by decide) (by decide) (by decide)))
end G2
