section AT
variable {j : Nat} {h g1 : z_H}
theorem nb.ge {x : Int32} {n : Nat} (hx : nb x n) (hn : n < 2 ^ 31) : 0 ≤ x := by
  rw [ge0]
  exact (hx.int hn).1
theorem attempt_ok (H : Inv j h) {act x b : Int32} {B B' : z_H → Option (Int32 × z_H)} (hB : ∀ h1, Sh h1 → B h1 = ((B' (t0 h1)).bind fun p => (z_ob 11 p.2 (some 81)).bind fun _ => (D_X11_tell p.2 (some 81) p.1).bind fun q => some (q.1, q.2))) {law : Option Nat} {T : LawT} (lr : LawR h (aI h 83) (aI h 83 3) law T) {r a : Int32} {m' : Nat → Int32} (hr : nb r 999) (s1 : Sh g1) (T1 : Tch [2, 3, 5, 6, 29, 30, 31, 33] h g1) (Y1 : Yrel g1 1 m') (K : recOK (tn (fI h 1 8)) (aI g1 33) (fun i => aI h 83 (5 + i)) (fun i => m' (5 + i)) a) (dC : D_X0_carryOut h (some 32) (some 1) act x b = some (r, g1))
    (dM : ∀ g nu, RA g law T → aI g 83 = aI h 83 → fI g 81 8 = Int32.ofNat nu → nu ≤ 16 → ∃ g', OnM [81, 83, 86, 87, 99, 101] [8, 34, 38, 39, 40] g g' ∧ aI g' 83 = m' ∧ fI g' 81 8 = Int32.ofNat (nxN nu) ∧ aI g' 86 = nxU nu (aI g 86) (fun i => aI g 83 (5 + i)) ∧ aI g' 87 = nxM nu (aI g 87) a ∧ B' g = some (r, g')) : Agree Inv j h (fun h => D_X10_attempt h (some 0) act x b) B := by
  have hs := H.1
  obtain ⟨nu, en, hnu⟩ := H.2.2.2.1.2.1
  have en8 : fI h 81 8 = Int32.ofNat nu := by rw [H.2.2.2.1.1]; exact en
  have r0 := hr.ge (by decide)
  obtain ⟨g2, s2, T2, f21, a22, d2⟩ := c_add s1 (n := nu) (by rw [cell_fI (T1.c (by decide))]; exact en) hnu
  have s3 : Sh (wF g2 0 13 (.int 0)) := Sh_wF s2 rfl _
  have T3 : Tch [0, 2, 3, 5, 6, 21, 22, 29, 30, 31, 33] h (wF g2 0 13 (.int 0)) := Tch_wF ((T1.mono (by decide)).trans (T2.mono (by decide))) (by decide) _ _
  have f13 : fI (wF g2 0 13 (.int 0)) 0 13 = 0 := fI_wF_eq s2 rfl _
  have fo : ∀ a k, ¬ (a = 0 ∧ k = 13) → a ∉ [2, 3, 5, 6, 21, 22, 29, 30, 31, 33] → fI (wF g2 0 13 (.int 0)) a k = fI h a k := fun a k h1 h2 => by
    rw [fI_wF_ne h1, cell_fI (T2.c (fun q => h2 (by revert q; simp only [List.mem_cons, List.not_mem_nil, or_false]; omega))), cell_fI (T1.c (fun q => h2 (by revert q; simp only [List.mem_cons, List.not_mem_nil, or_false]; omega)))]
  have x21 : fI (wF g2 0 13 (.int 0)) 21 1 = Int32.ofNat (nxN nu) := by rw [fI_wF_ne (by decide)]; exact f21
  have x22 : aI (wF g2 0 13 (.int 0)) 22 = nxR nu (aI h 22) (aI g1 33) := by rw [aI_wF, a22, cell_aI (T1.c (by decide))]
  have Y3 : Yrel (wF g2 0 13 (.int 0)) 1 m' := Yrel_T Y1 (Tch_wF (S := [0, 21, 22]) (T2.mono (by decide)) (by decide) _ _) (isY_S (Or.inl rfl) (by decide)) (by decide)
  have eA : D_X10_attempt h (some 0) act x b = some (r, wF g2 0 13 (.int 0)) := by
    unfold D_X10_attempt
    rw [s_gQ (r := 32) hs rfl rfl, Option.bind_some, s_gQ (r := 1) hs rfl rfl, Option.bind_some, s_ob hs (ci := 0) rfl, Option.bind_some, dC, Option.bind_some]
    dsimp only
    rw [if_pos r0, s_gQ (r := 21) s1 rfl rfl, Option.bind_some, s_gQ (r := 32) s1 rfl rfl, Option.bind_some, s_gQ (r := 33) s1 rfl rfl, Option.bind_some, s_ob s1 (ci := 8) rfl, Option.bind_some, d2, Option.bind_some, s_ob s2 (ci := 10) rfl, Option.bind_some, d_grant s2, Option.bind_some]
  generalize wF g2 0 13 (.int 0) = h1 at *
  have ra := (H.RA lr s3 T3 (by decide) (by decide)).on (t0_on s3) (by decide) (by decide) (by decide)
  have c83 : aI (t0 h1) 83 = aI h 83 := by rw [aI_wF]; exact cell_aI (T3.c (by decide))
  have c86 : aI (t0 h1) 86 = aI h 86 := by rw [aI_wF]; exact cell_aI (T3.c (by decide))
  have c87 : aI (t0 h1) 87 = aI h 87 := by rw [aI_wF]; exact cell_aI (T3.c (by decide))
  have c8 : fI (t0 h1) 81 8 = Int32.ofNat nu := by rw [fI_wF_ne (by decide), fo 81 8 (by decide) (by decide)]; exact en8
  obtain ⟨g', o', a83, f8, a86, a87, dB⟩ := dM (t0 h1) nu ra c83 c8 hnu
  rw [c86, c83] at a86
  rw [c87] at a87
  have O : OnM [81, 83, 86, 87, 99, 101] [0, 1, 8, 34, 38, 39, 40] h1 (wF g' 81 1 (.int 0)) := by
    refine OnM.trans ((t0_on s3).mono (by decide) (by decide)) (OnM.trans (o'.mono (by decide) (by decide)) ⟨Sh_wF o'.1 rfl _, Tch_wF (Tch_rfl _ g') (by decide) _ _, fun k hk => ?_⟩)
    have : k ≠ 1 := fun q => hk (by rw [q]; decide)
    rw [fI_wF_ne (by omega), fJ_wF_ne (by omega)]
    exact ⟨rfl, rfl⟩
  have z83 : aI (wF g' 81 1 (.int 0)) 83 = m' := by rw [aI_wF]; exact a83
  have T : Tch [0, 2, 3, 5, 6, 21, 22, 29, 30, 31, 33, 81, 83, 86, 87, 99, 101] h (wF g' 81 1 (.int 0)) := (T3.mono (by decide)).trans (O.2.1.mono (by decide))
  refine ⟨r, h1, wF g' 81 1 (.int 0), eA, ob81 s3, ?_, ?_⟩
  · rw [hB h1 s3, dB, Option.bind_some]
    dsimp only
    rw [s_ob o'.1 (ci := 11) rfl, Option.bind_some, d_tell_ok o'.1 r0, Option.bind_some]
  · refine Inv_gen H O.1 T (by decide) (by decide) ?_ ?_ ?_ ?_
    · rw [(O.2.2 58 (by decide)).1]
      exact fo 81 58 (by decide) (by decide)
    · rw [z83]
      exact Yrel_T Y3 O.2.1 (isY_S (Or.inl rfl) (by decide)) (by decide)
    · refine Ulog_push H.2.2.2.1 en hnu K ?_ ?_ ?_ ?_ ?_ ?_ z83
      · rw [cell_fI (O.2.1.c (by decide))]; exact x21
      · rw [fI_wF_ne (by decide)]; exact f8
      · rw [cell_fI (O.2.1.c (by decide))]
        exact fo 1 8 (by decide) (by decide)
      · rw [cell_aI (O.2.1.c (by decide))]; exact x22
      · rw [aI_wF]; exact a86
      · rw [aI_wF]; exact a87
    · refine Told_T H.2.2.2.2.1 T (by decide) ?_ (fun q hq => ?_)
      · rw [fI_wF_eq o'.1 rfl, cell_fI (O.2.1.c (by decide))]
        exact f13
      · simp only [List.mem_cons, List.not_mem_nil, or_false] at hq
        rcases hq with rfl | rfl | rfl | rfl | rfl | rfl | rfl | rfl | rfl
        · rw [cell_fI (O.2.1.c (by decide))]; exact fo _ _ (by decide) (by decide)
        · rw [(O.2.2 _ (by decide)).1]; exact fo _ _ (by decide) (by decide)
        · rw [cell_fI (O.2.1.c (by decide))]; exact fo _ _ (by decide) (by decide)
        · rw [(O.2.2 _ (by decide)).1]; exact fo _ _ (by decide) (by decide)
        · rw [cell_fI (O.2.1.c (by decide))]; exact fo _ _ (by decide) (by decide)
        · rw [(O.2.2 _ (by decide)).1]; exact fo _ _ (by decide) (by decide)
        · rw [cell_fI (O.2.1.c (by decide))]; exact fo _ _ (by decide) (by decide)
        · rw [(O.2.2 _ (by decide)).1]; exact fo _ _ (by decide) (by decide)
        · rw [(O.2.2 _ (by decide)).1]; exact fo _ _ (by decide) (by decide)
/-- refused: by k -/
theorem attempt_no (H : Inv j h) {act x b : Int32} {B B' : z_H → Option (Int32 × z_H)} (hB : ∀ h1, Sh h1 → B h1 = ((B' (t0 h1)).bind fun p => (z_ob 11 p.2 (some 81)).bind fun _ => (D_X11_tell p.2 (some 81) p.1).bind fun q => some (q.1, q.2))) {law : Option Nat} {T : LawT} (lr : LawR h (aI h 83) (aI h 83 3) law T) {k : Nat} (hk : k < 7) (h0 : 0 < k) (s1 : Sh g1) (T1 : Tch [29, 30, 31, 33] h g1) (dC : D_X0_carryOut h (some 32) (some 1) act x b = some (-(Int32.ofNat k), g1))
    (dM : ∀ g nu, RA g law T → aI g 83 = aI h 83 → fI g 81 8 = Int32.ofNat nu → nu ≤ 16 → ∃ g', OnM [81, 99, 101] [34, 38, 39, 40] g g' ∧ B' g = some (-(Int32.ofNat k), g')) : Agree Inv j h (fun h => D_X10_attempt h (some 0) act x b) B := by
  have hs := H.1
  obtain ⟨nu, en, hnu⟩ := H.2.2.2.1.2.1
  have en8 : fI h 81 8 = Int32.ofNat nu := by rw [H.2.2.2.1.1]; exact en
  have e2 : ¬ 0 ≤ -(Int32.ofNat k) := by
    have : k = 1 ∨ k = 2 ∨ k = 3 ∨ k = 4 ∨ k = 5 ∨ k = 6 := by omega
    rcases this with rfl | rfl | rfl | rfl | rfl | rfl <;> decide
  have sr := Sh_rfC s1 k
  have Tr : Tch [0, 29, 30, 31, 33, 62] h (rfC g1 k) := (T1.mono (by decide)).trans ((rfC_cells g1 k).mono (by decide))
  have ra := (H.RA lr sr Tr (by decide) (by decide)).on (t0_on sr) (by decide) (by decide) (by decide)
  have c83 : aI (t0 (rfC g1 k)) 83 = aI h 83 := by rw [aI_wF]; exact cell_aI (Tr.c (by decide))
  have c8 : fI (t0 (rfC g1 k)) 81 8 = Int32.ofNat nu := by rw [fI_wF_ne (by decide), cell_fI (Tr.c (by decide))]; exact en8
  obtain ⟨g', o', dB⟩ := dM (t0 (rfC g1 k)) nu ra c83 c8 hnu
  refine agree_no_p H hk (g1 := g1) (g2 := g') (Same_T T1 s1 (by decide)) ?_ (((t0_on sr).mono (by decide) (by decide)).trans (o'.mono (by decide) (by decide))) ?_
  · show D_X10_attempt h (some 0) act x b = _
    unfold D_X10_attempt
    rw [s_gQ (r := 32) hs rfl rfl, Option.bind_some, s_gQ (r := 1) hs rfl rfl, Option.bind_some, s_ob hs (ci := 0) rfl, Option.bind_some, dC, Option.bind_some]
    dsimp only
    rw [if_neg e2, s_ob s1 (ci := 10) rfl, Option.bind_some, d_refuse s1 hk, Option.bind_some]
  · rw [hB _ sr, dB, Option.bind_some]
    dsimp only
    rw [s_ob o'.1 (ci := 11) rfl, Option.bind_some, d_tell_no o'.1 hk h0, Option.bind_some]
end AT
