section YC
variable {g : z_H} {a : Nat} {m m' : Nat → Int32}
theorem Yeq_cong (H : Yeq g a m) (e : ∀ i, i < 62 → m' i = m i) : Yeq g a m' := by
  obtain ⟨q0, q4, q1, q2, q3, q5, q6, q7⟩ := H
  refine ⟨by rw [e 0 (by decide)]; exact q0, by rw [e 4 (by decide)]; exact q4, by rw [e 1 (by decide)]; exact q1, by rw [e 2 (by decide)]; exact q2, by rw [e 3 (by decide)]; exact q3, fun i hi => ?_, fun i hi => by rw [e _ (by omega)]; exact q6 i hi, fun i hi => by rw [e _ (by omega)]; exact q7 i hi⟩
  rw [e _ (by omega), e _ (by omega), e _ (by omega), e _ (by omega), e _ (by omega)]
  exact q5 i hi
theorem notsM_cong {K K' : Nat → Int32} {a n : Nat} (H : notsM K a n) (e : ∀ u, u < n → K' (a + u) = K (a + u)) : notsM K' a n := fun u hu => by rw [e u hu]; exact H u hu
theorem LR_cong {n c : Nat} {op ar cl : Nat → Int32} (H : LR n c op ar cl m) (e : ∀ i, i < 900 → m' i = m i) : LR n c op ar cl m' := by
  obtain ⟨h1, h2, f, ⟨f1, f2, f3⟩, h4⟩ := H
  have mono : ∀ i k, i + k = n → f i ≤ f n := fun i k => by
    induction k generalizing i with
    | zero => intro e; rw [show i = n by omega]; exact Nat.le_refl _
    | succ k ih =>
      intro e
      obtain ⟨-, t, et, -⟩ := f3 i (by omega)
      have := ih (i + 1) (by omega)
      omega
  have fle : ∀ i, i ≤ n → f i ≤ 400 := fun i hi => Nat.le_trans (mono i (n - i) (by omega)) f2
  refine ⟨h1, by rw [e 1 (by decide)]; exact h2, f, ⟨f1, f2, fun i hi => ?_⟩, fun k hk => ?_⟩
  · obtain ⟨p, t, et, ea, en⟩ := f3 i hi
    have b1 : f (i + 1) ≤ 400 := fle _ (by omega)
    have ki : m' (98 + 2 * f i) = m (98 + 2 * f i) := e _ (by omega)
    have ki' : m' (99 + 2 * f i) = m (99 + 2 * f i) := e _ (by omega)
    refine ⟨?_, t, et, ea, notsM_cong en (fun u hu => e _ (by omega))⟩
    unfold posRel at p ⊢
    dsimp only at p ⊢
    rw [ki, ki']
    rcases p with p | p | p | p | p | p | p
    · exact Or.inl p
    · exact Or.inr (Or.inl p)
    · exact Or.inr (Or.inr (Or.inl p))
    · exact Or.inr (Or.inr (Or.inr (Or.inl p)))
    · exact Or.inr (Or.inr (Or.inr (Or.inr (Or.inl p))))
    · obtain ⟨p1, jj, t', e', z1, z2, z3, z4, z5, z6, z7⟩ := p
      have b2 : f jj ≤ 400 := fle _ z2
      exact Or.inr (Or.inr (Or.inr (Or.inr (Or.inr (Or.inl ⟨p1, jj, t', e', z1, z2, z3, z4, z5, z6, notsM_cong z7 (fun u hu => e _ (by omega))⟩)))))
    · exact Or.inr (Or.inr (Or.inr (Or.inr (Or.inr (Or.inr p)))))
  · obtain ⟨v, s0, s1, s2, z⟩ := h4 k hk
    refine ⟨v, s0, s1, s2, ?_⟩
    rw [e (2 + 8 * k) (by omega), e (2 + 8 * k + 3) (by omega), e (2 + 8 * k + 4) (by omega), e (2 + 8 * k + 5) (by omega), e (2 + 8 * k + 6) (by omega)]
    exact z
theorem Ylaw_cong (H : Ylaw g a m) (y4 : nb (fI g a 11) 6) (e : ∀ i, i < 5462 → m' i = m i) : Ylaw g a m' := by
  refine ⟨H.1, fun k hk => ?_⟩
  obtain ⟨t, n, c, op, ar, cl, q1, q2, q3⟩ := H.2 k hk
  have hk6 : k < 6 := by
    obtain ⟨z, ez, hz⟩ := y4
    rw [ez, tn_of (by omega)] at hk
    omega
  exact ⟨t, n, c, op, ar, cl, q1, q2, LR_cong q3 (fun i hi => e _ (by omega))⟩
end YC
section IM
variable {j : Nat} {h : z_H}
theorem s_sZ1 {g : z_H} (hs : Sh g) {a n i : Nat} (sa : shpL[a]? = some (.inl (.boolean, n))) (hi : i < n) (hn : n < 2 ^ 31) : z_sZ g (some a) (Int32.ofNat i) 1 = some (wA g a (upd (aI g a) i 1)) := by
  rw [s_sZ hs sa, iW_ofNat hi (by omega), tn_of' (by omega)]
  rfl
theorem m_imgLoop {g : z_H} (hs : Sh g) {k : Nat} (hk : k < 2) : D_X11_image_23 z_F g (some 81) (Int32.ofNat k) 0 = some (0, wF (wA (wA g 84 (va_cpy (aI g 83) (aI g 84) 0 (5462 * k) 5462)) 85 (upd (aI g 85) k 1)) 81 1 (.int 0)) := by
  have s1 : Sh (wA g 84 (va_cpy (aI g 83) (aI g 84) 0 (5462 * k) 5462)) := Sh_wA hs rfl _
  have lp := copy_loop (F := fun m g i => D_X11_image_23 m g (some 81) (Int32.ofNat k) i) (G := fun g => (z_gQ 11 g (some 81) 5).bind fun x452 => (z_sZ g x452 (Int32.ofNat k) (1:Int32)).bind fun h453 => (z_ob 11 h453 (some 81)).bind fun _ => (D_X11_tell h453 (some 81) (0:Int32)).bind fun p454 => some (p454.1, p454.2)) (a := 84) (b := 83) (sp := 0) (dp := 5462 * k) (N := 5462) rfl
    (fun m g hs => by
      show D_X11_image_23b _ g (some 81) (Int32.ofNat k) (Int32.ofNat 5462) = _
      unfold D_X11_image_23b
      rw [if_pos (by decide)])
    (fun m g i hs hi => by
      show D_X11_image_23b (D_X11_image_23 m) g (some 81) (Int32.ofNat k) (Int32.ofNat i) = _
      have c : ¬ (5462 : Int32) ≤ Int32.ofNat i := fun z => by have := (nat_le (a := 5462) (b := i) (by decide) (by omega)).mp z; omega
      simp (disch := first | assumption | omega | (simp only [isAs, isFs, isJs, isAJs, isAQs]; done) | ((repeat (first | assumption | apply Sh_wA | apply Sh_wF | apply Sh_wJ | apply Sh_wFJ | apply Sh_wQ | simp only [isAs, isFs, isJs, isAJs, isAQs])); done) | fail) only [D_X11_image_23b, c, if_false, Nat.zero_add, Option.bind_some, rdQ_c, rdO_c, rdF_c, rdA_c, rdQ_m, rdO_m, rdF_m, rdA_m, wrF_c, wrF_m, wrA_c, wrA_m, iR_ofNat, iW_ofNat, iRs, iWs, tns, tn_of', aI_wF, aI_wA_eq, aI_wA_ne, fI_wA, fI_wF_eq, fI_wF_ne, wA_wA, litA, litB, litM, litN, sc_add, sc_mul])
    (Or.inl (by decide)) hs (by decide)
  refine Eq.trans lp ?_
  rw [s_gQ (r := 85) s1 rfl rfl, Option.bind_some, s_sZ1 s1 (n := 2) rfl hk (by decide), Option.bind_some, s_ob (Sh_wA s1 rfl _) (ci := 11) rfl, Option.bind_some, d_tell_ok (Sh_wA s1 rfl _) (by decide), Option.bind_some, aI_wA_ne (by decide)]
theorem m_backLoop {g : z_H} (hs : Sh g) {k : Nat} (hk : k < 2) : D_X11_back_39 z_F g (some 81) (Int32.ofNat k) 0 = some (0, wF (wF (wA g 83 (va_cpy (aI g 84) (aI g 83) (5462 * k) 0 5462)) 81 8 (.int 0)) 81 1 (.int 0)) := by
  have s1 : Sh (wA g 83 (va_cpy (aI g 84) (aI g 83) (5462 * k) 0 5462)) := Sh_wA hs rfl _
  have lp := copy_loop (F := fun m g i => D_X11_back_39 m g (some 81) (Int32.ofNat k) i) (G := fun g => (z_ob 11 g (some 81)).bind fun _ => (D_X11_lasting g (some 81) (0:Int32)).bind fun p421 => some (p421.1, p421.2)) (a := 83) (b := 84) (sp := 5462 * k) (dp := 0) (N := 5462) rfl
    (fun m g hs => by
      show D_X11_back_39b _ g (some 81) (Int32.ofNat k) (Int32.ofNat 5462) = _
      unfold D_X11_back_39b
      rw [if_pos (by decide)])
    (fun m g i hs hi => by
      show D_X11_back_39b (D_X11_back_39 m) g (some 81) (Int32.ofNat k) (Int32.ofNat i) = _
      have c : ¬ (5462 : Int32) ≤ Int32.ofNat i := fun z => by have := (nat_le (a := 5462) (b := i) (by decide) (by omega)).mp z; omega
      simp (disch := first | assumption | omega | (simp only [isAs, isFs, isJs, isAJs, isAQs]; done) | ((repeat (first | assumption | apply Sh_wA | apply Sh_wF | apply Sh_wJ | apply Sh_wFJ | apply Sh_wQ | simp only [isAs, isFs, isJs, isAJs, isAQs])); done) | fail) only [D_X11_back_39b, c, if_false, Nat.zero_add, Option.bind_some, rdQ_c, rdO_c, rdF_c, rdA_c, rdQ_m, rdO_m, rdF_m, rdA_m, wrF_c, wrF_m, wrA_c, wrA_m, iR_ofNat, iW_ofNat, iRs, iWs, tns, tn_of', aI_wF, aI_wA_eq, aI_wA_ne, fI_wA, fI_wF_eq, fI_wF_ne, wA_wA, litA, litB, litM, litN, sc_add, sc_mul])
    (Or.inl (by decide)) hs (by decide)
  refine Eq.trans lp ?_
  have s2 := Sh_wF s1 (a := 81) (k := 8) rfl 0
  rw [s_ob s1 (ci := 11) rfl, Option.bind_some]
  unfold D_X11_lasting
  rw [if_pos (by decide)]
  unfold D_X11_lasting_13
  rw [s_pV s1 (ci := 11) rfl (by decide), Option.bind_some, s_ob s2 (ci := 11) rfl, Option.bind_some, d_tell_ok s2 (by decide), Option.bind_some, Option.bind_some]
theorem a_image (H : Inv j h) (x : Int32) : Agree Inv j h (fun h => D_X10_image h (some 0) x) (fun h => D_X11_image h (some 81) x) := by
  have hs := H.1
  rcases xc x 2 (by decide) with ⟨k, hk, rfl⟩ | nx
  · obtain ⟨m1, m2, m3⟩ := H.2.2.2.2.2.1
    have q10 : aQ h 10 k = some (63 + 9 * k) := by
      have : k = 0 ∨ k = 1 := by omega
      rcases this with rfl | rfl
      · exact m1
      · exact m2
    have hd : isYd (63 + 9 * k) := by
      have : k = 0 ∨ k = 1 := by omega
      rcases this with rfl | rfl
      · exact Or.inr (Or.inr (Or.inr (Or.inl rfl)))
      · exact Or.inr (Or.inr (Or.inr (Or.inr rfl)))
    obtain ⟨g1, s1, ⟨t1, u1, c1⟩, C, dB⟩ := c_become hs hd (Or.inl rfl) (by omega) H.Y.2.2.obs
    have s2 : Sh (wA g1 11 (upd (aI g1 11) k 1)) := Sh_wA s1 rfl _
    have s3 : Sh (wF (wA g1 11 (upd (aI g1 11) k 1)) 0 13 (.int 0)) := Sh_wF s2 rfl _
    have cl : ∀ c, c ≠ 0 → c ≠ 11 → (c < 63 + 9 * k ∨ 63 + 9 * k + 8 < c) → (wF (wA g1 11 (upd (aI g1 11) k 1)) 0 13 (.int 0)).2.2 c = h.2.2 c := fun c h0 h11 hc => by rw [wF_ne h0, wA_ne h11, c1 c hc]
    have e11 : aI (wF (wA g1 11 (upd (aI g1 11) k 1)) 0 13 (.int 0)) 11 = upd (aI h 11) k 1 := by rw [aI_wF, aI_wA_eq s1 rfl, cell_aI (c1 11 (by omega))]
    have f13 : fI (wF (wA g1 11 (upd (aI g1 11) k 1)) 0 13 (.int 0)) 0 13 = 0 := fI_wF_eq s2 rfl _
    have f14 : fI (wF (wA g1 11 (upd (aI g1 11) k 1)) 0 13 (.int 0)) 0 14 = fI h 0 14 := by rw [fI_wF_ne (by decide), fI_wA, cell_fI (c1 0 (by omega))]
    have Yk : Yrel (wF (wA g1 11 (upd (aI g1 11) k 1)) 0 13 (.int 0)) (63 + 9 * k) (aI h 83) := by
      have Y1 := Yrel_copy H.Y C (by omega) (fun a ha _ => c1 a (by omega))
      exact Y1.kept (fun q hq => by rw [wF_ne (by omega), wA_ne (by omega)]) (Nat.le_refl _) (fun a ha _ => by rw [wF_ne (by omega), wA_ne (by omega)])
    have eA : D_X10_image h (some 0) (Int32.ofNat k) = some (0, wF (wA g1 11 (upd (aI g1 11) k 1)) 0 13 (.int 0)) := by
      unfold D_X10_image
      rw [if_neg (not_neg (by omega)), if_pos (show Int32.ofNat k < 2 from (nat_lt (b := 2) (by omega) (by decide)).mpr hk), s_gQ (r := 10) hs rfl rfl, Option.bind_some, s_aQ (n := 2) hs rfl, iR_ofNat hk (by decide), Option.bind_some, q10, s_gQ (r := 1) hs rfl rfl, Option.bind_some, s_ob hs (shpY hd).1, Option.bind_some, dB, Option.bind_some, s_gQ (r := 11) s1 rfl rfl, Option.bind_some, s_sZ1 s1 (n := 2) rfl hk (by decide), Option.bind_some, s_ob s2 (ci := 10) rfl, Option.bind_some, d_grant s2, Option.bind_some]
    have ll : (wF (wA g1 11 (upd (aI g1 11) k 1)) 0 13 (.int 0)).1 = h.1 ∧ (wF (wA g1 11 (upd (aI g1 11) k 1)) 0 13 (.int 0)).2.1 = h.2.1 := ⟨t1, u1⟩
    generalize wF (wA g1 11 (upd (aI g1 11) k 1)) 0 13 (.int 0) = h1 at *
    have st := Sh_t0 s3
    have il := m_imgLoop st hk
    have b83 : aI (t0 h1) 83 = aI h 83 := by rw [aI_wF]; exact cell_aI (cl 83 (by decide) (by decide) (by omega))
    have b84 : aI (t0 h1) 84 = aI h 84 := by rw [aI_wF]; exact cell_aI (cl 84 (by decide) (by decide) (by omega))
    have b85 : aI (t0 h1) 85 = aI h 85 := by rw [aI_wF]; exact cell_aI (cl 85 (by decide) (by decide) (by omega))
    rw [b83, b84, b85] at il
    have s5 : Sh (wA (wA (t0 h1) 84 (va_cpy (aI h 83) (aI h 84) 0 (5462 * k) 5462)) 85 (upd (aI h 85) k 1)) := Sh_wA (Sh_wA st rfl _) rfl _
    refine ⟨0, h1, wF (wA (wA (t0 h1) 84 (va_cpy (aI h 83) (aI h 84) 0 (5462 * k) 5462)) 85 (upd (aI h 85) k 1)) 81 1 (.int 0), eA, ob81 s3, ?_, ?_⟩
    · show D_X11_image h1 (some 81) (Int32.ofNat k) = _
      unfold D_X11_image
      rw [p81 s3, Option.bind_some, din1 (C := 1) (N := 1) rfl (by omega) _ (by decide), Option.bind_some]
      dsimp only
      rw [if_neg one_ne, il]
    · have z84 : aI (wF (wA (wA (t0 h1) 84 (va_cpy (aI h 83) (aI h 84) 0 (5462 * k) 5462)) 85 (upd (aI h 85) k 1)) 81 1 (.int 0)) 84 = va_cpy (aI h 83) (aI h 84) 0 (5462 * k) 5462 := by rw [aI_wF, aI_wA_ne (by decide), aI_wA_eq st rfl]
      have z85 : aI (wF (wA (wA (t0 h1) 84 (va_cpy (aI h 83) (aI h 84) 0 (5462 * k) 5462)) 85 (upd (aI h 85) k 1)) 81 1 (.int 0)) 85 = upd (aI h 85) k 1 := by rw [aI_wF, aI_wA_eq (Sh_wA st rfl _) rfl]
      have z1 : fI (wF (wA (wA (t0 h1) 84 (va_cpy (aI h 83) (aI h 84) 0 (5462 * k) 5462)) 85 (upd (aI h 85) k 1)) 81 1 (.int 0)) 81 1 = 0 := fI_wF_eq s5 rfl _
      have zf : ∀ q, q ≠ 0 → q ≠ 1 → fI (wF (wA (wA (t0 h1) 84 (va_cpy (aI h 83) (aI h 84) 0 (5462 * k) 5462)) 85 (upd (aI h 85) k 1)) 81 1 (.int 0)) 81 q = fI h 81 q := fun q h0 h1' => by rw [fI_wF_ne (by omega), fI_wA, fI_wA, fI_wF_ne (by omega), cell_fI (cl 81 (by decide) (by decide) (by omega))]
      have zc : ∀ c, c ≠ 81 → c ≠ 84 → c ≠ 85 → (wF (wA (wA (t0 h1) 84 (va_cpy (aI h 83) (aI h 84) 0 (5462 * k) 5462)) 85 (upd (aI h 85) k 1)) 81 1 (.int 0)).2.2 c = h1.2.2 c := fun c h1' h2 h3 => by rw [wF_ne h1', wA_ne h3, wA_ne h2, wF_ne h1']
      have sF : Sh (wF (wA (wA (t0 h1) 84 (va_cpy (aI h 83) (aI h 84) 0 (5462 * k) 5462)) 85 (upd (aI h 85) k 1)) 81 1 (.int 0)) := Sh_wF s5 rfl _
      have lF : (wF (wA (wA (t0 h1) 84 (va_cpy (aI h 83) (aI h 84) 0 (5462 * k) 5462)) 85 (upd (aI h 85) k 1)) 81 1 (.int 0)).1 = h1.1 ∧ (wF (wA (wA (t0 h1) 84 (va_cpy (aI h 83) (aI h 84) 0 (5462 * k) 5462)) 85 (upd (aI h 85) k 1)) 81 1 (.int 0)).2.1 = h1.2.1 := ⟨rfl, rfl⟩
      generalize wF (wA (wA (t0 h1) 84 (va_cpy (aI h 83) (aI h 84) 0 (5462 * k) 5462)) 85 (upd (aI h 85) k 1)) 81 1 (.int 0) = h2 at *
      have all : ∀ c, c ≠ 0 → c ≠ 11 → c ≠ 81 → c ≠ 84 → c ≠ 85 → (c < 63 + 9 * k ∨ 63 + 9 * k + 8 < c) → h2.2.2 c = h.2.2 c := fun c a1 a2 a3 a4 a5 a6 => by rw [zc c a3 a4 a5, cl c a1 a2 a6]
      obtain ⟨i1, ⟨i2, i3⟩, i4, i5, ⟨t1', t2, t3, t4, t5, t6, t7, t8, t9⟩, i7, i8, i9⟩ := H
      refine ⟨sF, ⟨by omega, by omega⟩, ?_, ?_, ?_, ?_, ?_, ?_⟩
      · rw [cell_aI (all 83 (by decide) (by decide) (by decide) (by decide) (by decide) (by omega))]
        exact i4.kept (fun q hq => all _ (by omega) (by omega) (by omega) (by omega) (by omega) (by omega)) (by omega) (fun a ha _ => all a (by omega) (by omega) (by omega) (by omega) (by omega) (by omega))
      · refine Ulog_R i5 (zf 8 (by decide) (by decide)) (cell_fI (all 21 (by decide) (by decide) (by decide) (by decide) (by decide) (by omega)) 1) (cell_fI (all 1 (by decide) (by decide) (by decide) (by decide) (by decide) (by omega)) 8) (cell_aI (all 22 (by decide) (by decide) (by decide) (by decide) (by decide) (by omega))) (cell_aI (all 86 (by decide) (by decide) (by decide) (by decide) (by decide) (by omega))) (cell_aI (all 87 (by decide) (by decide) (by decide) (by decide) (by decide) (by omega))) (fun q hq => ?_)
        rw [cell_aI (all 83 (by decide) (by decide) (by decide) (by decide) (by decide) (by omega))]
      · refine ⟨?_, ?_, fun i hi => ?_, ?_, ?_, ?_, ?_, ?_, ?_⟩
        · rw [z1, cell_fI (zc 0 (by decide) (by decide) (by decide)), f13]
        · rw [cell_fI (zc 0 (by decide) (by decide) (by decide)), f14, zf 11 (by decide) (by decide)]; exact t2
        · rw [cell_aI (all 62 (by decide) (by decide) (by decide) (by decide) (by decide) (by omega)), cell_aI (all 82 (by decide) (by decide) (by decide) (by decide) (by decide) (by omega))]; exact t3 i hi
        · rw [cell_fI (all 23 (by decide) (by decide) (by decide) (by decide) (by decide) (by omega)), zf 13 (by decide) (by decide)]; exact t4
        · rw [cell_fI (all 23 (by decide) (by decide) (by decide) (by decide) (by decide) (by omega))]; exact t5
        · rw [cell_aI (all 24 (by decide) (by decide) (by decide) (by decide) (by decide) (by omega)), cell_aI (all 90 (by decide) (by decide) (by decide) (by decide) (by decide) (by omega))]; exact t6
        · rw [cell_fI (all 23 (by decide) (by decide) (by decide) (by decide) (by decide) (by omega)), zf 18 (by decide) (by decide)]; exact t7
        · rw [cell_fI (all 34 (by decide) (by decide) (by decide) (by decide) (by decide) (by omega)), zf 54 (by decide) (by decide)]; exact t8
        · rw [zf 20 (by decide) (by decide)]; exact t9
      · unfold Imgs
        rw [cell_aQ (all 10 (by decide) (by decide) (by decide) (by decide) (by decide) (by omega)), cell_aI (zc 11 (by decide) (by decide) (by decide)), e11, z85, z84]
        refine ⟨m1, m2, fun q hq => ?_⟩
        by_cases e : q = k
        · subst e
          rw [upd_eq, upd_eq]
          refine ⟨rfl, Or.inr ⟨rfl, ?_⟩⟩
          have : Yrel h2 (63 + 9 * q) (aI h 83) := Yk.kept (fun r hr => zc _ (by omega) (by omega) (by omega)) (by omega) (fun a ha _ => zc a (by omega) (by omega) (by omega))
          obtain ⟨ya, yb, yc⟩ := this
          have ev : ∀ i, i < 5462 → va_cpy (aI h 83) (aI h 84) 0 (5462 * q) 5462 (5462 * q + i) = aI h 83 i := fun i hi => by
            unfold va_cpy
            rw [if_pos (by omega)]
            congr 1
            omega
          exact ⟨ya, Yeq_cong yb (fun i hi => ev i (by omega)), Ylaw_cong yc ya.2.2.2.1 (fun i hi => ev i (by omega))⟩
        · rw [upd_ne e, upd_ne e]
          refine ⟨(m3 q hq).1, ?_⟩
          rcases (m3 q hq).2 with z | ⟨z, Yq⟩
          · exact Or.inl z
          · refine Or.inr ⟨z, ?_⟩
            have : Yrel h2 (63 + 9 * q) (fun i => aI h 84 (5462 * q + i)) := Yq.kept (fun r hr => all _ (by omega) (by omega) (by omega) (by omega) (by omega) (by omega)) (by omega) (fun a ha _ => all a (by omega) (by omega) (by omega) (by omega) (by omega) (by omega))
            obtain ⟨ya, yb, yc⟩ := this
            have ev : ∀ i, i < 5462 → va_cpy (aI h 83) (aI h 84) 0 (5462 * k) 5462 (5462 * q + i) = aI h 84 (5462 * q + i) := fun i hi => by
              unfold va_cpy
              rw [if_neg (by omega)]
            exact ⟨ya, Yeq_cong yb (fun i hi => ev i (by omega)), Ylaw_cong yc ya.2.2.2.1 (fun i hi => ev i (by omega))⟩
      · unfold Drwn at i8 ⊢
        rw [zf 58 (by decide) (by decide), cell_fI (all 12 (by decide) (by decide) (by decide) (by decide) (by decide) (by omega)), cell_aI (all 13 (by decide) (by decide) (by decide) (by decide) (by decide) (by omega)), cell_aI (all 14 (by decide) (by decide) (by decide) (by decide) (by decide) (by omega)), cell_aI (all 16 (by decide) (by decide) (by decide) (by decide) (by decide) (by omega)), cell_aI (all 113 (by decide) (by decide) (by decide) (by decide) (by decide) (by omega))]
        exact i8
      · unfold Cnst at i9 ⊢
        rw [cell_aJ (all 96 (by decide) (by decide) (by decide) (by decide) (by decide) (by omega)), cell_aJ (all 97 (by decide) (by decide) (by decide) (by decide) (by decide) (by omega)), cell_aJ (all 98 (by decide) (by decide) (by decide) (by decide) (by decide) (by omega)), cell_aJ (all 111 (by decide) (by decide) (by decide) (by decide) (by decide) (by omega))]
        exact i9
  · have sr := Sh_rfC hs 1
    have st := Sh_t0 sr
    have r1 := (rfs hs).1
    have r2 := (tls st).1
    refine agree_no H (k := 1) (by decide) ?_ ?_
    · show D_X10_image h (some 0) x = _
      have w1 : D_X10_image_9 h (some 0) = some (-1, rfC h 1) := by
        unfold D_X10_image_9
        rw [s_ob hs (ci := 10) rfl, Option.bind_some, r1, Option.bind_some]
      unfold D_X10_image
      by_cases c1 : x < 0
      · rw [if_pos c1, w1]; rfl
      · rw [if_neg c1]
        rw [lt0] at c1
        rw [if_neg (by rw [Int32.lt_iff_toInt_lt]; show ¬ x.toInt < 2; omega), w1]
        rfl
    · show D_X11_image (rfC h 1) (some 81) x = _
      unfold D_X11_image
      rw [p81 sr, Option.bind_some, din0 (C := 1) (N := 1) rfl nx, Option.bind_some]
      dsimp only
      rw [if_pos rfl, s_ob st (ci := 11) rfl, Option.bind_some, r2, Option.bind_some]
      rfl
end IM
