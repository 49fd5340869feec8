section BK
variable {j : Nat} {h : z_H}
theorem a_back (H : Inv j h) (x : Int32) : Agree Inv j h (fun h => D_X10_back h (some 0) x) (fun h => D_X11_back h (some 81) x) := by
  have hs := H.1
  rcases xc x 2 (by decide) with ⟨k, hk, rfl⟩ | nx
  · obtain ⟨m1, m2, m3⟩ := H.2.2.2.2.2.1
    obtain ⟨m3a, m3b⟩ := m3 k hk
    have r11 : z_aI .boolean h (some 11) (Int32.ofNat k) = some (aI h 11 k) := by rw [s_aI (n := 2) hs (Or.inr rfl) rfl, iR_ofNat hk (by decide)]
    have lt2 : Int32.ofNat k < 2 := (nat_lt (b := 2) (by omega) (by decide)).mpr hk
    rcases m3b with z | ⟨z, Yk⟩
    · have sr := Sh_rfC hs 2
      have st := Sh_t0 sr
      have r2 := (rfs hs).2.1
      have r2' := (tls st).2.1
      refine agree_no H (k := 2) (by decide) ?_ ?_
      · show D_X10_back h (some 0) (Int32.ofNat k) = _
        unfold D_X10_back
        rw [if_neg (not_neg (by omega)), if_pos lt2, s_gQ (r := 11) hs rfl rfl, Option.bind_some, r11, Option.bind_some, if_pos z, s_ob hs (ci := 10) rfl, Option.bind_some, r2, Option.bind_some]
        rfl
      · show D_X11_back (rfC h 2) (some 81) (Int32.ofNat k) = _
        have r85 : z_aI .boolean (t0 (rfC h 2)) (some 85) (Int32.ofNat k) = some (aI h 85 k) := by
          rw [s_aI (n := 2) st (Or.inr rfl) rfl, iR_ofNat hk (by decide), aI_wF, cell_aI ((rfC_cells h 2).c (by decide))]
        unfold D_X11_back
        rw [p81 sr, Option.bind_some, din1 (C := 1) (N := 1) rfl (by omega) _ (by decide), Option.bind_some]
        dsimp only
        rw [if_neg one_ne, s_gQ (r := 85) st rfl rfl, Option.bind_some, r85, Option.bind_some, if_pos (by rw [← m3a]; exact z), s_ob st (ci := 11) rfl, Option.bind_some, r2', Option.bind_some]
        rfl
    · have nz : ¬ aI h 11 k = 0 := by rw [z]; decide
      have q10 : aQ h 10 k = some (63 + 9 * k) := by
        have : k = 0 ∨ k = 1 := by omega
        rcases this with rfl | rfl
        · exact m1
        · exact m2
      have hd : isYd (63 + 9 * k) := by
        have : k = 0 ∨ k = 1 := by omega
        rcases this with rfl | rfl
        · exact Or.inr (Or.inr (Or.inr (Or.inl rfl)))
        · exact Or.inr (Or.inr (Or.inr (Or.inr rfl)))
      obtain ⟨g1, s1, ⟨t1, u1, c1⟩, C, dB⟩ := c_become hs (Or.inl rfl) hd (by omega) Yk.2.2.obs
      have T1 : Tch [1, 2, 3, 4, 5, 6, 7, 8, 9] h g1 := ⟨t1, u1, fun c hc => c1 c (by simp only [List.mem_cons, List.not_mem_nil, or_false] at hc; omega)⟩
      have Y1 := Yrel_copy Yk C (by omega) (fun a ha _ => c1 a (by omega))
      have s2 : Sh (wF g1 21 1 (.int 0)) := Sh_wF s1 rfl _
      have s3 : Sh (wF (wF g1 21 1 (.int 0)) 0 13 (.int 0)) := Sh_wF s2 rfl _
      have Tc : Tch [0, 1, 2, 3, 4, 5, 6, 7, 8, 9, 21] h (wF (wF g1 21 1 (.int 0)) 0 13 (.int 0)) := Tch_wF (Tch_wF (T1.mono (by decide)) (by decide) _ _) (by decide) _ _
      have f13 : fI (wF (wF g1 21 1 (.int 0)) 0 13 (.int 0)) 0 13 = 0 := fI_wF_eq s2 rfl _
      have f14 : fI (wF (wF g1 21 1 (.int 0)) 0 13 (.int 0)) 0 14 = fI h 0 14 := by rw [fI_wF_ne (by decide), fI_wF_ne (by decide), cell_fI (T1.c (by decide))]
      have f21 : fI (wF (wF g1 21 1 (.int 0)) 0 13 (.int 0)) 21 1 = 0 := by rw [fI_wF_ne (by decide), fI_wF_eq s1 rfl]
      have Y2 : Yrel (wF (wF g1 21 1 (.int 0)) 0 13 (.int 0)) 1 (fun i => aI h 84 (5462 * k + i)) := Y1.kept (fun q hq => by rw [wF_ne (by omega), wF_ne (by omega)]) (Nat.le_refl _) (fun a ha _ => by rw [wF_ne (by omega), wF_ne (by omega)])
      have eA : D_X10_back h (some 0) (Int32.ofNat k) = some (0, wF (wF g1 21 1 (.int 0)) 0 13 (.int 0)) := by
        unfold D_X10_back
        rw [if_neg (not_neg (by omega)), if_pos lt2, s_gQ (r := 11) hs rfl rfl, Option.bind_some, r11, Option.bind_some, if_neg nz, s_gQ (r := 1) hs rfl rfl, Option.bind_some, s_gQ (r := 10) hs rfl rfl, Option.bind_some, s_aQ (n := 2) hs rfl, iR_ofNat hk (by decide), Option.bind_some, q10, s_ob hs (ci := 9) rfl, Option.bind_some, dB, Option.bind_some, s_gQ (r := 21) s1 rfl rfl, Option.bind_some, s_pV s1 (ci := 8) rfl (by decide), Option.bind_some, s_ob s2 (ci := 10) rfl, Option.bind_some, d_grant s2, Option.bind_some]
      generalize wF (wF g1 21 1 (.int 0)) 0 13 (.int 0) = h1 at *
      have st := Sh_t0 s3
      have bl := m_backLoop st hk
      have b83 : aI (t0 h1) 83 = aI h 83 := by rw [aI_wF]; exact cell_aI (Tc.c (by decide))
      have b84 : aI (t0 h1) 84 = aI h 84 := by rw [aI_wF]; exact cell_aI (Tc.c (by decide))
      have b85 : aI (t0 h1) 85 = aI h 85 := by rw [aI_wF]; exact cell_aI (Tc.c (by decide))
      rw [b83, b84] at bl
      have r85 : z_aI .boolean (t0 h1) (some 85) (Int32.ofNat k) = some (aI h 85 k) := by rw [s_aI (n := 2) st (Or.inr rfl) rfl, iR_ofNat hk (by decide), b85]
      have s5 : Sh (wA (t0 h1) 83 (va_cpy (aI h 84) (aI h 83) (5462 * k) 0 5462)) := Sh_wA st rfl _
      have s6 := Sh_wF s5 (a := 81) (k := 8) rfl 0
      have z83 : aI (wF (wF (wA (t0 h1) 83 (va_cpy (aI h 84) (aI h 83) (5462 * k) 0 5462)) 81 8 (.int 0)) 81 1 (.int 0)) 83 = va_cpy (aI h 84) (aI h 83) (5462 * k) 0 5462 := by rw [aI_wF, aI_wF]; exact aI_wA_eq st rfl _
      have z8 : fI (wF (wF (wA (t0 h1) 83 (va_cpy (aI h 84) (aI h 83) (5462 * k) 0 5462)) 81 8 (.int 0)) 81 1 (.int 0)) 81 8 = 0 := by rw [fI_wF_ne (by decide)]; exact fI_wF_eq s5 rfl _
      have O : OnM [81, 83] [0, 1, 8] h1 (wF (wF (wA (t0 h1) 83 (va_cpy (aI h 84) (aI h 83) (5462 * k) 0 5462)) 81 8 (.int 0)) 81 1 (.int 0)) := ((t0_on s3).mono (by decide) (by decide)).trans (OnM.trans ⟨s5, Tch_wA (Tch_rfl _ _) (by decide) _, fun _ _ => ⟨fI_wA _ _ _ _, fJ_wA _ _ _ _⟩⟩ (OnM.trans ((wF_on s5 (k := 8) rfl 0).mono (by decide) (by decide)) ((wF_on s6 (k := 1) rfl 0).mono (by decide) (by decide))))
      refine ⟨0, h1, wF (wF (wA (t0 h1) 83 (va_cpy (aI h 84) (aI h 83) (5462 * k) 0 5462)) 81 8 (.int 0)) 81 1 (.int 0), eA, ob81 s3, ?_, Inv_cm H Tc O (by decide) (by decide) f14 ?_ ?_ ?_⟩
      · show D_X11_back h1 (some 81) (Int32.ofNat k) = _
        unfold D_X11_back
        rw [p81 s3, Option.bind_some, din1 (C := 1) (N := 1) rfl (by omega) _ (by decide), Option.bind_some]
        dsimp only
        rw [if_neg one_ne, s_gQ (r := 85) st rfl rfl, Option.bind_some, r85, Option.bind_some, if_neg (by rw [← m3a]; exact nz), bl]
      · rw [f13, fI_wF_eq s6 rfl]
      · rw [z83]
        obtain ⟨ya, yb, yc⟩ := Y2
        have ev : ∀ i, i < 5462 → va_cpy (aI h 84) (aI h 83) (5462 * k) 0 5462 i = aI h 84 (5462 * k + i) := fun i hi => by
          unfold va_cpy
          rw [if_pos (by omega)]
          congr 1
        exact ⟨ya, Yeq_cong yb (fun i hi => ev i (by omega)), Ylaw_cong yc ya.2.2.2.1 (fun i hi => ev i (by omega))⟩
      · exact Ulog_zero z8 (by rw [cell_fI (O.2.1.c (by decide))]; exact f21)
  · have sr := Sh_rfC hs 1
    have st := Sh_t0 sr
    have r1 := (rfs hs).1
    have r2 := (tls st).1
    refine agree_no H (k := 1) (by decide) ?_ ?_
    · show D_X10_back h (some 0) x = _
      have w1 : D_X10_back_9 h (some 0) = some (-1, rfC h 1) := by
        unfold D_X10_back_9
        rw [s_ob hs (ci := 10) rfl, Option.bind_some, r1, Option.bind_some]
      unfold D_X10_back
      by_cases c1 : x < 0
      · rw [if_pos c1, w1]; rfl
      · rw [if_neg c1]
        rw [lt0] at c1
        rw [if_neg (by rw [Int32.lt_iff_toInt_lt]; show ¬ x.toInt < 2; omega), w1]
        rfl
    · show D_X11_back (rfC h 1) (some 81) x = _
      unfold D_X11_back
      rw [p81 sr, Option.bind_some, din0 (C := 1) (N := 1) rfl nx, Option.bind_some]
      dsimp only
      rw [if_pos rfl, s_ob st (ci := 11) rfl, Option.bind_some, r2, Option.bind_some]
      rfl
end BK
