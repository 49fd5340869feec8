/-! law: both readings of one tape; refusals -/
section G0
variable {tp : Nat → Nat} {L : Nat} {g h : z_H} {j : Nat}
/-- what a law's reading leaves, where it is one -/
def LGood (g gC hE : z_H) : Prop := ∃ (k n nM : Nat) (f : Nat → Nat), fI hE 81 19 = 0 ∧ fI hE 81 18 = -1 ∧ fI hE 81 21 = Int32.ofNat k ∧ fI hE 81 23 = Int32.ofNat nM ∧ k ≤ 12 ∧ nM ≤ 400 ∧ fI gC 23 3 = -1 ∧ fI gC 25 3 = Int32.ofNat n ∧ fI gC 25 4 = Int32.ofNat k ∧ n ≤ nM ∧ f 0 = 0 ∧ f n = nM ∧ sg false (aI gC 26) (aI gC 27) (aI hE 92) (aI hE 93) f 0 n ∧ ∀ j, j < k → CLR (aI gC 26) (aI gC 27) (aI gC 28) (aI hE 91) f n j
theorem law_run (hs : Sh g) (t : TpC tp L g) {hr : z_H} (hr1 : Sh hr) (tr : TpM tp L hr) (cr : Cnst hr) : ∃ (b : Bool) (gC hM hE : z_H), D_X5_read g (some 23) 0 = some (b01 b, gC) ∧ Sh gC ∧ Tch LC g gC ∧ ((D_X11_beginText hr (some 81) 0).bind fun x => (z_ob 11 x (some 81)).bind fun _ => (D_X11_readLaw x (some 81)).bind fun y => D_X11_law_37 z_F y (some 81)) = D_X11_law_64 hM (some 81) ∧ Sh hM ∧ D_X11_endText hM (some 81) = some hE ∧ OnM LMc LMf2 hr hE ∧ fI hE 81 13 = 0 ∧ fI hE 81 20 = 0 ∧ ((b = false ∧ fI hE 81 19 = 1 ∧ fI gC 23 3 = fI hE 81 18) ∨ (b = true ∧ LGood g gC hE)) := by
  obtain ⟨g1, op, ar, C, T, e3, e4, d1⟩ := c_begin (ord := false) hs t
  obtain ⟨h1, K, Ka, M, O, e18, e21, r1⟩ := m_begin (ord := false) hr1 tr cr
  have hL := t.1
  have S : LSt tp L g1 h1 g1 h1 0 (tkF tp L 0) 0 0 0 := ⟨op, ar, K, Ka, fun _ => 0, C, M, Tch_rfl _ _, OnM.rfl' M.1, e3, e18, e21, Nat.le_refl _, rfl, rfl, fun i _ h => by omega, fun i h => by omega⟩
  obtain ⟨b, gC, hM, hE, x1, x2, x3, x4, x5, x6, x7, X⟩ := law_text _ 0 (tkF tp L 0) 0 0 0 z_F z_F g1 h1 rfl (by show _ < 1000000; omega) (by show _ < 1000000; omega) (by decide) S
  have r0 : ((D_X11_beginText hr (some 81) 0).bind fun x => (z_ob 11 x (some 81)).bind fun _ => (D_X11_readLaw x (some 81)).bind fun y => D_X11_law_37 z_F y (some 81)) = D_X11_law_64 hM (some 81) := by
    rw [show D_X11_beginText hr (some 81) 0 = some h1 from r1, Option.bind_some, o81 M.1, Option.bind_some]
    exact x2
  have OE : OnM LMc LMf2 hr hE := (O.mono (by decide) (by decide)).trans x5
  have dC : D_X5_read g (some 23) 0 = some (b01 b, gC) := by
    rw [show D_X5_read g (some 23) 0 = D_X5_read_33 z_F g1 (some 23) 0 from d1]; exact x1
  rcases X with ⟨rfl, q, cx, y1, y2⟩ | ⟨rfl, k', p', n', nM', w', op', ar', K', Ka', f, y1, y2, y3, y4, y5, y6, y7, y8, y9, z1, z2, z3, z4, z5, z6, z7, z8, z9, z10, z11⟩
  · exact ⟨false, gC, hM, hE, dC, cx.1, T.trans cx.2.1, r0, x3, x4, OE, x6, x7, Or.inl ⟨rfl, y1, by rw [y2]; exact cx.2.2.1⟩⟩
  · refine ⟨true, gC, hM, hE, dC, y9, T.trans z1, r0, x3, x4, OE, x6, x7, Or.inr ⟨rfl, k', n', nM', f, y1, y2, y3, y4, y7, y8, z2, z3, z4, z7, z8, z9, ?_, ?_⟩⟩
    · rw [z5, z6, y5, y6]; exact z10
    · rw [z5, z6]; exact z11
theorem Inv.nl (H : Inv j h) : ∃ n, n ≤ 6 ∧ fI h 1 11 = Int32.ofNat n ∧ aI h 83 2 = Int32.ofNat n := by
  obtain ⟨n, e, hn⟩ := H.Y.1.2.2.2.1
  exact ⟨n, hn, e, by rw [H.Y.2.1.2.2.2.1]; exact e⟩
/-- the tape, for both -/
theorem Inv.tape (H : Inv j h) : ∃ (tp : Nat → Nat) (L : Nat), TpC tp L h ∧ TpM tp L h := by
  obtain ⟨t1, t2, t3, t4, ⟨L, eL, hL⟩, t6, t7, t8, t9⟩ := H.2.2.2.2.1
  have b : ∀ i, i < 400 → aI h 24 i = Int32.ofNat (tn (aI h 24 i)) ∧ tn (aI h 24 i) ≤ 255 := fun i hi => (t6 i hi).2.tn (by decide)
  exact ⟨fun i => tn (aI h 24 i), L, ⟨hL, eL, b⟩, hL, by rw [← t4]; exact eL, fun i hi => ⟨by rw [← (t6 i hi).1]; exact (b i hi).1, (b i hi).2⟩⟩
/-- a TEXT that can't be: both refuse by -6 -/
theorem bad_text (H : Inv j h) {g1 h1 hE : z_H} {S : List Nat} {ks : List Nat} (s1 : Sh g1) (T1 : Tch S h g1) (eh : h1 = rfC (wF g1 23 2 (.int 0)) 6) (O : OnM LMc ks (t0 h1) hE) (e13 : fI hE 81 13 = 0) (e20 : fI hE 81 20 = 0) (e18 : fI g1 23 3 = fI hE 81 18) (e54 : fI g1 34 6 = fI hE 81 54) (hS : fre S ([0, 1, 2, 3, 4, 5, 6, 7, 8, 9, 10, 11, 12, 13, 14, 16, 21, 22, 24, 62, 82, 83, 84, 85, 86, 87, 90, 96, 97, 98, 111, 113] ++ (List.range 18).map (fun k => 63 + k)) = true) (lo : low S = true) (k8 : fI (t0 h1) 81 8 = fI h 81 8 ∧ fI (t0 h1) 81 58 = fI h 81 58 ∧ fI (t0 h1) 81 11 = fI h 81 11) (n8 : 8 ∉ ks ∧ 58 ∉ ks ∧ 11 ∉ ks) : Inv (j + 1) (rfM hE 6) := by
  obtain ⟨t1, t2, t3, t4, t5, t6, t7, t8, t9⟩ := H.2.2.2.2.1
  have s2 : Sh (wF g1 23 2 (.int 0)) := Sh_wF s1 rfl _
  have sub : ∀ l : List Nat, (∀ a ∈ l, a ∈ ([0, 1, 2, 3, 4, 5, 6, 7, 8, 9, 10, 11, 12, 13, 14, 16, 21, 22, 24, 62, 82, 83, 84, 85, 86, 87, 90, 96, 97, 98, 111, 113] ++ (List.range 18).map (fun k => 63 + k))) → ∀ a ∈ l, a ∉ S := fun l hl a ha => fre_spec hS (hl a ha)
  have nS : ∀ a ∈ ([0, 1, 2, 3, 4, 5, 6, 7, 8, 9, 10, 11, 12, 13, 14, 16, 21, 22, 24, 62, 82, 83, 84, 85, 86, 87, 90, 96, 97, 98, 111, 113] ++ (List.range 18).map (fun k => 63 + k)), a ∉ S := fun a ha => fre_spec hS ha
  have TA : Tch (S ++ [0, 23, 62]) h h1 := by
    rw [eh]
    exact Tch_wA (Tch_wF (Tch_wF (T1.mono (fun a ha => List.mem_append_left _ ha)) (List.mem_append_right _ (by decide)) _ _) (List.mem_append_right _ (by decide)) _ _) (List.mem_append_right _ (by decide)) _
  have TB : Tch (S ++ [0, 23, 62] ++ 82 :: LMc) h (rfM hE 6) := by
    have a1 : Tch (S ++ [0, 23, 62] ++ 82 :: LMc) h (t0 h1) := Tch_wF (TA.mono (fun a ha => List.mem_append_left _ ha)) (List.mem_append_right _ (by decide)) _ _
    have a2 : Tch (S ++ [0, 23, 62] ++ 82 :: LMc) h hE := a1.trans (O.2.1.mono (fun a ha => List.mem_append_right _ (List.mem_cons_of_mem _ ha)))
    exact Tch_wA (Tch_wF a2 (List.mem_append_right _ (by decide)) _ _) (List.mem_append_right _ (by decide)) _
  have keep : ∀ a, a ∉ LMc → a ≠ 82 → (rfM hE 6).2.2 a = h1.2.2 a := fun a ha h8 => by
    unfold rfM
    rw [wA_ne h8, wF_ne (fun z => ha (by rw [z]; decide)), O.2.1.c ha]
    exact wF_ne (fun z => ha (by rw [z]; decide))
  have c62 : aI h1 62 = upd (aI h 62) 6 (aI h 62 6 + 1) := by
    rw [eh]; unfold rfC
    rw [aI_wA_eq (Sh_wF s2 rfl _) rfl, aI_wF, cell_aI (T1.c (nS 62 (by decide)))]
  have f0 : fI h1 0 13 = -6 := by
    rw [eh]; unfold rfC
    rw [fI_wA]; exact fI_wF_eq s2 rfl _
  have f014 : fI h1 0 14 = fI h 0 14 := by
    rw [eh]; unfold rfC
    rw [fI_wA, fI_wF_ne (by decide), fI_wF_ne (by decide), cell_fI (T1.c (nS 0 (by decide)))]
  have f23 : fI h1 23 2 = 0 := by
    rw [eh]; unfold rfC
    rw [fI_wA, fI_wF_ne (by decide)]; exact fI_wF_eq s1 rfl _
  have f233 : fI h1 23 3 = fI g1 23 3 := by
    rw [eh]; unfold rfC
    rw [fI_wA, fI_wF_ne (by decide), fI_wF_ne (by decide)]
  have f34 : fI h1 34 6 = fI g1 34 6 := by
    rw [eh]; unfold rfC
    rw [fI_wA, fI_wF_ne (by decide), fI_wF_ne (by decide)]
  have c82 : aI hE 82 = aI h 82 := by
    rw [cell_aI (O.2.1.c (by decide)), show aI (t0 h1) 82 = aI h1 82 from aI_wF _ _ _ _, eh]
    unfold rfC
    rw [aI_wA_ne (by decide), aI_wF, aI_wF, cell_aI (T1.c (nS 82 (by decide)))]
  have x82 : aI (rfM hE 6) 82 = upd (aI h 82) 6 (aI h 82 6 + 1) := by
    unfold rfM
    rw [aI_wA_eq (Sh_wF O.1 rfl _) rfl, c82]
  have y1 : fI (rfM hE 6) 81 1 = -6 := by
    unfold rfM
    rw [fI_wA]; exact fI_wF_eq O.1 rfl _
  have yj : ∀ q, q ≠ 1 → fI (rfM hE 6) 81 q = fI hE 81 q := fun q hq => by
    unfold rfM
    rw [fI_wA, fI_wF_ne (by omega)]
  refine Inv_told H TB (Sh_rfM O.1 6) ?_ ?_ (by rw [yj 8 (by decide), (O.2.2 8 n8.1).1]; exact k8.1) (by rw [yj 58 (by decide), (O.2.2 58 n8.2.1).1]; exact k8.2.1) ⟨?_, ?_, fun i hi => ?_, ?_, ?_, fun i hi => ?_, ?_, ?_, ?_⟩
  · apply List.all_eq_true.mpr
    intro a ha
    have h1 : a ∉ S := nS a (by
      rcases List.mem_append.mp ha with z | z
      · exact List.mem_append_left _ (by revert z; revert a; decide)
      · exact List.mem_append_right _ z)
    have h2 : a ∉ [0, 23, 62] ++ 82 :: LMc := by clear h1; revert ha; revert a; decide
    simp only [List.append_assoc, Bool.not_eq_true', List.contains_eq_mem, decide_eq_false_iff_not]
    intro z
    rcases List.mem_append.mp z with z | z
    · exact h1 z
    · exact h2 z
  · apply List.all_eq_true.mpr
    intro a ha
    rw [List.append_assoc] at ha
    rcases List.mem_append.mp ha with z | z
    · exact List.all_eq_true.mp lo a z
    · clear ha; revert z; revert a; decide
  · rw [cell_fI (keep 0 (by decide) (by decide)), f0, y1]
  · rw [cell_fI (keep 0 (by decide) (by decide)), f014, yj 11 (by decide), (O.2.2 11 n8.2.2).1, k8.2.2]; exact t2
  · rw [cell_aI (keep 62 (by decide) (by decide)), c62, x82]
    by_cases q : i = 6
    · rw [q, upd_eq, upd_eq, t3 6 (by decide)]
    · rw [upd_ne q, upd_ne q]; exact t3 i hi
  · rw [cell_fI (keep 23 (by decide) (by decide)), f23, yj 13 (by decide), e13]
  · rw [cell_fI (keep 23 (by decide) (by decide)), f23]; exact ⟨0, rfl, by decide⟩
  · have z24 : aI (rfM hE 6) 24 = aI h 24 := by rw [cell_aI (TB.c (fun z => by
        rw [List.append_assoc] at z
        rcases List.mem_append.mp z with z | z
        · exact nS 24 (by decide) z
        · revert z; decide))]
    have z90 : aI (rfM hE 6) 90 = aI h 90 := by rw [cell_aI (TB.c (fun z => by
        rw [List.append_assoc] at z
        rcases List.mem_append.mp z with z | z
        · exact nS 90 (by decide) z
        · revert z; decide))]
    rw [z24, z90]; exact t6 i hi
  · rw [cell_fI (keep 23 (by decide) (by decide)), f233, yj 18 (by decide)]; exact e18
  · rw [cell_fI (keep 34 (by decide) (by decide)), f34, yj 54 (by decide)]; exact e54
  · rw [yj 20 (by decide)]; exact e20
end G0
