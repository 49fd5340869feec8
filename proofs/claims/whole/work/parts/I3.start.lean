/-! orders: how a run of them starts -/
section I3
variable {g h : z_H} {m0 m op ar cl K Ka mo : Nat → Int32} {n cc k dn nu : Nat} {la had : Int32} {f : Nat → Nat}
theorem TxC_Sh (hs : Sh g) (e3 : fI g 25 3 = Int32.ofNat n) (e4 : fI g 25 4 = Int32.ofNat cc) (hn : n ≤ 400) (hc : cc ≤ 12) : TxC g 25 26 27 28 400 n 72 cc (aI g 26) (aI g 27) (aI g 28) := by
  have h1 := hs.1
  refine ⟨⟨by omega, by omega, by omega, by omega⟩, ?_, hs.2 26 _ rfl, hs.2 27 _ rfl, hs.2 28 _ rfl, ⟨hn, Nat.le_refl _⟩, ⟨by omega, hc, Nat.le_refl _⟩, by decide⟩
  refine (hs.2 25 _ rfl).trans ?_
  rw [← e3, ← e4]
  rfl
def WS : List Nat := [34, 35, 36, 37, 38, 39, 40, 41, 42, 43, 44, 45]
theorem c_start (s : Sh g) (Y : Yrel g 1 m0) : ∃ g0, D_X2_run g (some 34) (some 25) (some 1) (some 21) = D_X2_run_29 z_F g0 (some 34) (some 25) (some 1) (some 21) (Int32.ofNat 0) ∧ Sh g0 ∧ Yrel g0 1 m0 ∧ Yrel g0 35 m0 ∧ fI g0 34 4 = Int32.ofNat 0 ∧ fI g0 34 5 = -1 ∧ fI g0 34 6 = fI g 34 6 ∧ fI g0 44 1 = fI g 21 1 ∧ (∀ i, i < 112 → aI g0 45 i = aI g 22 i) ∧ Tch WS g g0 := by
  obtain ⟨ga, sa, ⟨t1, u1, c1⟩, Cp, dB⟩ := c_become s (a := 35) (b := 1) (Or.inr (Or.inr (Or.inl rfl))) (Or.inl rfl) (by decide) Y.2.2.obs
  have Ya : Yrel ga 35 m0 := Yrel_copy Y Cp (by omega) (fun a ha _ => c1 a (by omega))
  have Ta : Tch WS g ga := ⟨t1, u1, fun c hc => c1 c (by simp only [WS, List.mem_cons, List.not_mem_nil, or_false, not_or] at hc; omega)⟩
  obtain ⟨gb, sb, Tb, a45, f44, dL⟩ := c_log1 sa
  have s1 : Sh (wF gb 34 4 (.int 0)) := Sh_wF sb rfl _
  have s2 : Sh (wF (wF gb 34 4 (.int 0)) 34 5 (.int (-1))) := Sh_wF s1 rfl _
  have T2 : Tch [34, 44, 45] ga (wF (wF gb 34 4 (.int 0)) 34 5 (.int (-1))) := Tch_wF (Tch_wF (Tb.mono (by decide)) (by decide) _ _) (by decide) _ _
  have TT : Tch WS g (wF (wF gb 34 4 (.int 0)) 34 5 (.int (-1))) := Ta.trans (T2.mono (by decide))
  refine ⟨wF (wF gb 34 4 (.int 0)) 34 5 (.int (-1)), ?_, s2, Yrel_T Y TT (isY_S (Or.inl rfl) (by decide)) (by decide), Yrel_T Ya T2 (fun q hq z => by simp only [List.mem_cons, List.not_mem_nil, or_false] at z; omega) (by decide), ?_, fI_wF_eq s1 rfl _, ?_, ?_, fun i hi => ?_, TT⟩
  · unfold D_X2_run
    rw [s_gQ (r := 35) s rfl rfl, Option.bind_some, s_ob s (ci := 9) rfl, Option.bind_some, dB, Option.bind_some, s_gQ (r := 44) sa rfl rfl, Option.bind_some, s_ob sa (ci := 8) rfl, Option.bind_some, dL, Option.bind_some, s_pV sb (ci := 2) rfl (by decide), Option.bind_some, s_pV s1 (ci := 2) rfl (by decide), Option.bind_some]
    rfl
  · rw [fI_wF_ne (by decide)]; exact fI_wF_eq sb rfl _
  · rw [fI_wF_ne (by decide), fI_wF_ne (by decide), cell_fI (Tb.c (by decide)), cell_fI (c1 34 (by decide))]
  · rw [fI_wF_ne (by decide), fI_wF_ne (by decide), f44, cell_fI (c1 21 (by decide))]
  · rw [aI_wF, aI_wF, a45, cpy_lt hi, cell_aI (c1 22 (by decide))]
theorem m_start {hM hE : z_H} (sM : Sh hM) (s : Sh hE) (dE : D_X11_endText hM (some 81) = some hE) (e19 : fI hE 81 19 = 0) : ∃ h0, D_X11_orders_46 hM (some 81) = D_X11_orders_140 z_F h0 (some 81) (fI hE 81 8) (Int32.ofNat 0) ∧ OnM [81, 86, 88, 89] [52, 53] hE h0 ∧ (∀ i, i < 624 → aI h0 86 i = aI hE 86 i ∧ aI h0 88 i = aI hE 86 i) ∧ (∀ i, i < 39 → aI h0 86 (663 + i) = aI hE 83 (5 + i)) ∧ (∀ i, i < 16 → aI h0 89 i = aI hE 87 i) ∧ fI h0 81 52 = Int32.ofNat 0 ∧ fI h0 81 53 = -1 := by
  have p1 := m_keepAll s (k := 17) (by decide)
  have s1 : Sh (wA hE 86 (va_cpy (aI hE 83) (aI hE 86) 5 663 39)) := Sh_wA s rfl _
  have o1 := onA s (a := 86) (S := [81, 86, 88, 89]) (ks := [52, 53]) rfl (by decide) (va_cpy (aI hE 83) (aI hE 86) 5 663 39)
  have cp := m_copies s1 (fI hE 81 8)
  have b86 : aI (wA hE 86 (va_cpy (aI hE 83) (aI hE 86) 5 663 39)) 86 = va_cpy (aI hE 83) (aI hE 86) 5 663 39 := aI_wA_eq s rfl _
  have b87 : aI (wA hE 86 (va_cpy (aI hE 83) (aI hE 86) 5 663 39)) 87 = aI hE 87 := aI_wA_ne (by decide)
  have b8 : fI (wA hE 86 (va_cpy (aI hE 83) (aI hE 86) 5 663 39)) 81 8 = fI hE 81 8 := fI_wA _ _ _ _
  generalize wA hE 86 (va_cpy (aI hE 83) (aI hE 86) 5 663 39) = hA at *
  have o2 := onA s1 (a := 88) (S := [81, 86, 88, 89]) (ks := [52, 53]) rfl (by decide) (va_cpy (aI hA 86) (aI hA 88) 0 0 624)
  have c88 : aI (wA hA 88 (va_cpy (aI hA 86) (aI hA 88) 0 0 624)) 88 = va_cpy (aI hA 86) (aI hA 88) 0 0 624 := aI_wA_eq s1 rfl _
  have c86 : aI (wA hA 88 (va_cpy (aI hA 86) (aI hA 88) 0 0 624)) 86 = aI hA 86 := aI_wA_ne (by decide)
  have o3 := onA o2.1 (a := 89) (S := [81, 86, 88, 89]) (ks := [52, 53]) rfl (by decide) (va_cpy (aI hA 87) (aI hA 89) 0 0 16)
  have d89 := aI_wA_eq o2.1 (a := 89) rfl (va_cpy (aI hA 87) (aI hA 89) 0 0 16)
  have d88 : aI (wA (wA hA 88 (va_cpy (aI hA 86) (aI hA 88) 0 0 624)) 89 (va_cpy (aI hA 87) (aI hA 89) 0 0 16)) 88 = _ := (aI_wA_ne (by decide)).trans c88
  have d86 : aI (wA (wA hA 88 (va_cpy (aI hA 86) (aI hA 88) 0 0 624)) 89 (va_cpy (aI hA 87) (aI hA 89) 0 0 16)) 86 = _ := (aI_wA_ne (by decide)).trans c86
  generalize wA (wA hA 88 (va_cpy (aI hA 86) (aI hA 88) 0 0 624)) 89 (va_cpy (aI hA 87) (aI hA 89) 0 0 16) = hB at *
  have o4 := onMF o3.1 (k := 52) rfl (S := [81, 86, 88, 89]) (ks := [52, 53]) (by decide) (by decide) 0
  have o5 := onMF o4.1 (k := 53) rfl (S := [81, 86, 88, 89]) (ks := [52, 53]) (by decide) (by decide) (-1)
  refine ⟨_, ?_, o1.trans (o2.trans (o3.trans (o4.trans o5))), fun i hi => ?_, fun i hi => ?_, fun i hi => ?_, ?_, fI_wF_eq o4.1 rfl _⟩
  · unfold D_X11_orders_46
    rw [o81 sM, Option.bind_some, dE, Option.bind_some, s_gI s (ci := 11) rfl rfl, Option.bind_some, e19, if_pos rfl, o81 s, Option.bind_some, show D_X11_keepAll hE (some 81) 17 = some hA from p1, Option.bind_some, s_gI s1 (ci := 11) rfl rfl, Option.bind_some, b8, cp]
    unfold D_X11_orders_104b
    rw [if_pos (by decide), s_pV o3.1 (ci := 11) rfl (by decide), Option.bind_some, s_pV o4.1 (ci := 11) rfl (by decide), Option.bind_some]
    rfl
  · rw [aI_wF, aI_wF, aI_wF, aI_wF, d86, d88, cpy_lt hi, b86]
    have : va_cpy (aI hE 83) (aI hE 86) 5 663 39 i = aI hE 86 i := by unfold va_cpy; rw [if_neg (by omega)]
    exact ⟨this, this⟩
  · rw [aI_wF, aI_wF, d86, b86]
    unfold va_cpy
    rw [if_pos (by omega), show 5 + (663 + i - 663) = 5 + i by omega]
  · rw [aI_wF, aI_wF, d89, cpy_lt hi, b87]
  · rw [fI_wF_ne (by decide)]; exact fI_wF_eq o3.1 rfl _
theorem both_run {j : Nat} (H : Inv j h) {g0 hM hE : z_H} (s0 : Sh g0) (Y1 : Yrel g0 1 (aI h 83)) (Y35 : Yrel g0 35 (aI h 83)) (e4 : fI g0 34 4 = Int32.ofNat 0) (e5 : fI g0 34 5 = -1) (e21 : fI g0 21 1 = fI h 21 1) (a22 : aI g0 22 = aI h 22) (HT : ∃ S, low S = true ∧ Tch S g0 hE) (sM : Sh hM) (s : Sh hE) (dE : D_X11_endText hM (some 81) = some hE) (a83 : aI hE 83 = aI h 83) (a86 : aI hE 86 = aI h 86) (a87 : aI hE 87 = aI h 87) (e8 : fI hE 81 8 = fI h 81 8) (e20 : fI hE 81 20 = 0) {gI gC : z_H} (G : OGood gI gC hE) (c25 : g0.2.2 25 = gC.2.2 25) (c26 : g0.2.2 26 = gC.2.2 26) (c27 : g0.2.2 27 = gC.2.2 27) (c28 : g0.2.2 28 = gC.2.2 28) : ∃ (h0 : z_H) (K Ka mo : Nat → Int32), OnM [81, 86, 88, 89] [52, 53] hE h0 ∧ (∀ i, i < 624 → aI h0 88 i = aI h 86 i) ∧ (∀ i, i < 16 → aI h0 89 i = aI h 87 i) ∧ RUN g0 h0 (aI h 83) K Ka mo (fI h 81 8) (D_X2_run_29 z_F g0 (some 34) (some 25) (some 1) (some 21) (Int32.ofNat 0)) (D_X11_orders_46 hM (some 81)) := by
  obtain ⟨k, n, nM, f, g19, g18, g21, g23, k12, nM4, c3, cn, ck, len, f0, fn, S, OL⟩ := G
  obtain ⟨h0, r0, o0, b86, b663, b89, b52, b53⟩ := m_start sM s dE g19
  obtain ⟨nu, s', t, en, em, LC', LM', sn⟩ := H.2.2.2.1.split
  have tx := TxC_Sh s0 (n := n) (cc := k) (by rw [cell_fI c25]; exact cn) (by rw [cell_fI c25]; exact ck) (by omega) k12
  rw [cell_aI c26, cell_aI c27, cell_aI c28] at tx
  have hnu := LC'.1
  have CR : codeRel true (aI gC 26) (aI gC 27) (aI hE 92) (aI hE 93) n f := ⟨by omega, by omega, fun i hi => S i (Nat.zero_le _) hi⟩
  have R : RSt h0 (aI h 83) (aI hE 92) (aI hE 93) (aI hE 112) 0 nu (-1) := ⟨o0.1, by rw [cell_aI (o0.2.1.c (by decide))]; exact a83, by rw [(o0.2.2 20 (by decide)).1]; exact e20, b52, b53, by rw [(o0.2.2 8 (by decide)).1, e8]; exact em, fun i hi => by rw [cell_aI (o0.2.1.c (by decide)), cell_aI (o0.2.1.c (by decide))]; exact ⟨rfl, rfl⟩, fun i hi => by rw [cell_aI (o0.2.1.c (by decide))]⟩
  have LM2 : LogM nu (aI h0 86) (aI h0 87) s' t := fun q hq => by
    obtain ⟨x, y⟩ := LM' q hq
    exact ⟨by rw [cell_aI (o0.2.1.c (by decide)), a87]; exact x, fun i hi => by rw [(b86 (39 * q + i) (by omega)).1, a86]; exact y i hi⟩
  have e0 : aI h 83 0 = fI h 1 8 := H.Y.2.1.1
  have J : RJ g0 h0 (aI h 83) (aI hE 92) (aI hE 93) (aI hE 112) g0 h0 (aI h 83) 0 nu (-1) := ⟨s0, Y1, e4, e5, rfl, by rw [e21]; exact en, hnu, Tch_rfl _ _, R, OnM.rfl' o0.1, fun i hi => by rw [b663 i hi, a83], fun _ _ => rfl, s', t, by rw [a22, e0]; exact LC', LM2, sn⟩
  refine ⟨h0, aI hE 92, aI hE 93, aI hE 112, o0, fun i hi => by rw [(b86 i hi).2, a86], fun i hi => by rw [b89 i hi, a87], ?_⟩
  rw [r0, e8]
  exact loop_out tx CR (HT_of HT (Tch_rfl [] g0) (by decide) o0 (by decide)) Y35 OL (by rw [(o0.2.2 21 (by decide)).1]; exact g21) k 0 z_F z_F g0 h0 _ 0 nu (-1) rfl (by show _ < 1000000; omega) (by show _ < 1000000; omega) (Nat.zero_le _) J (by omega)
end I3
