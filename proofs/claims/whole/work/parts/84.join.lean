section JN
variable {S : List Nat} {j : Nat} {h h2 g g1 g2 : z_H}
theorem Inv_gen (H : Inv j h) (hs2 : Sh h2) (T : Tch S h h2) (b : low S = true) (f : fre S ([10, 11, 12, 13, 14, 16, 84, 85, 96, 97, 98, 111, 113] ++ (List.range 18).map (fun k => 63 + k)) = true) (e58 : fI h2 81 58 = fI h 81 58) (Y : Yrel h2 1 (aI h2 83)) (U : Ulog h2) (t : Told h2) : Inv (j + 1) h2 := by
  obtain ⟨i1, ⟨i2, i3⟩, i4, i5, i6, i7, i8, i9⟩ := H
  have sub : ∀ l : List Nat, (∀ a ∈ l, a ∈ ([10, 11, 12, 13, 14, 16, 84, 85, 96, 97, 98, 111, 113] ++ (List.range 18).map (fun k => 63 + k))) → fre S l = true := fun l hl => by
    apply List.all_eq_true.mpr
    intro a ha
    simpa using fre_spec f (hl a ha)
  exact ⟨hs2, ⟨by rw [T.1]; omega, by rw [T.2.1]; omega⟩, Y, U, t, Imgs_T i7 T (sub _ (by decide)) b, Drwn_T i8 T (sub _ (by decide)) e58, Cnst_T i9 T (sub _ (by decide))⟩
theorem Inv_same0 (H : Inv j h) (S : Same h h2) : Inv j h2 := by
  obtain ⟨a, -, c⟩ := Inv_same H S
  exact ⟨a, ⟨by rw [S.2.1]; exact H.2.1.1, by rw [S.2.2.1]; exact H.2.1.2⟩, c⟩
/-- refused, what was done on paper ahead of it staying on paper -/
theorem Inv_refused_p (H : Inv j g1) {k : Nat} (hk : k < 7) (o : OnM [81, 99, 101] [0, 34, 38, 39, 40] (rfC g1 k) g2) : Inv (j + 1) (rfM g2 k) := by
  have hs := H.1
  have s1 : Sh (wF g1 0 13 (.int (-(Int32.ofNat k)))) := Sh_wF hs rfl _
  have s4 : Sh (wF g2 81 1 (.int (-(Int32.ofNat k)))) := Sh_wF o.1 rfl _
  have s5 := Sh_rfM o.1 k
  have T0 : Tch [0, 62, 81, 82, 99, 101] g1 g2 := (rfC_cells g1 k |>.mono (by decide)).trans (o.2.1.mono (by decide))
  have T : Tch [0, 62, 81, 82, 99, 101] g1 (rfM g2 k) := Tch_wA (Tch_wF T0 (by decide) _ _) (by decide) _
  have a62 : aI (rfM g2 k) 62 = upd (aI g1 62) k (aI g1 62 k + 1) := by
    unfold rfM
    rw [aI_wA_ne (by decide), aI_wF, cell_aI (o.2.1.c (by decide))]
    unfold rfC
    rw [aI_wA_eq s1 rfl]
  have a82 : aI (rfM g2 k) 82 = upd (aI g1 82) k (aI g1 82 k + 1) := by
    have e : aI g2 82 = aI g1 82 := by rw [cell_aI (o.2.1.c (by decide)), cell_aI ((rfC_cells g1 k).c (by decide))]
    unfold rfM
    rw [aI_wA_eq s4 rfl, e]
  have f13 : fI (rfM g2 k) 0 13 = -(Int32.ofNat k) := by
    unfold rfM
    rw [fI_wA, fI_wF_ne (by decide), cell_fI (o.2.1.c (by decide))]
    unfold rfC
    rw [fI_wA, fI_wF_eq hs rfl]
  have f1 : fI (rfM g2 k) 81 1 = -(Int32.ofNat k) := by
    unfold rfM
    rw [fI_wA, fI_wF_eq o.1 rfl]
  have fo : ∀ a q, a ≠ 81 → ¬ (a = 0 ∧ q = 13) → fI (rfM g2 k) a q = fI g1 a q := fun a q ha hq => by
    unfold rfM
    rw [fI_wA, fI_wF_ne (by omega)]
    by_cases c : a ∈ [81, 99, 101]
    · have : a = 99 ∨ a = 101 := by
        simp only [List.mem_cons, List.not_mem_nil, or_false] at c
        omega
      have e : ∀ g : z_H, Sh g → fI g a q = 0 := fun g hs => by
        rcases this with rfl | rfl
        · have := hs.2 99 _ rfl
          unfold fI
          rw [this]
          rfl
        · have := hs.2 101 _ rfl
          unfold fI
          rw [this]
          rfl
      rw [e g2 o.1, e g1 hs]
    · rw [cell_fI (o.2.1.c c)]
      unfold rfC
      rw [fI_wA, fI_wF_ne hq]
  have f81 : ∀ q, q ∉ [0, 34, 38, 39, 40] → q ≠ 1 → fI (rfM g2 k) 81 q = fI g1 81 q := fun q hq h1 => by
    unfold rfM
    rw [fI_wA, fI_wF_ne (by omega), (o.2.2 q hq).1]
    unfold rfC
    rw [fI_wA, fI_wF_ne (by omega)]
  obtain ⟨t1, t2, t3, t4, t5, t6, t7, t8, t9⟩ := H.2.2.2.2.1
  refine Inv_told H T s5 (by decide) (by decide) (f81 8 (by decide) (by decide)) (f81 58 (by decide) (by decide)) ⟨f13.trans f1.symm, ?_, fun i hi => ?_, ?_, ?_, ?_, ?_, ?_, ?_⟩
  · rw [fo 0 14 (by decide) (by decide), f81 11 (by decide) (by decide)]; exact t2
  · rw [a62, a82]
    unfold upd
    by_cases e : i = k
    · rw [if_pos e, if_pos e, t3 k hk]
    · rw [if_neg e, if_neg e]; exact t3 i hi
  · rw [fo 23 2 (by decide) (by decide), f81 13 (by decide) (by decide)]; exact t4
  · rw [fo 23 2 (by decide) (by decide)]; exact t5
  · rw [cell_aI (T.c (by decide)), cell_aI (T.c (by decide))]; exact t6
  · rw [fo 23 3 (by decide) (by decide), f81 18 (by decide) (by decide)]; exact t7
  · rw [fo 34 6 (by decide) (by decide), f81 54 (by decide) (by decide)]; exact t8
  · rw [f81 20 (by decide) (by decide)]; exact t9
/-- both refuse, behind what they asked on paper -/
theorem agree_no_p {A B : z_H → Option (Int32 × z_H)} (H : Inv j h) {k : Nat} (hk : k < 7) (S1 : Same h g1) (eA : A h = some (-(Int32.ofNat k), rfC g1 k)) (o : OnM [81, 99, 101] [0, 34, 38, 39, 40] (rfC g1 k) g2) (eB : B (rfC g1 k) = some (-(Int32.ofNat k), rfM g2 k)) : Agree Inv j h A B :=
  ⟨_, _, _, eA, ob81 (Sh_rfC S1.1 k), eB, Inv_refused_p (Inv_same0 H S1) hk o⟩
theorem c_add (hs : Sh g) {n : Nat} (en : fI g 21 1 = Int32.ofNat n) (hn : n ≤ 16) : ∃ g', Sh g' ∧ Tch [21, 22] g g' ∧ fI g' 21 1 = Int32.ofNat (nxN n) ∧ aI g' 22 = nxR n (aI g 22) (aI g 33) ∧ D_X8_add g (some 21) (some 33) = some g' := by
  have a31 : ∀ (g : z_H) (n : Nat), Sh g → n < 16 → fI g 21 1 = Int32.ofNat n → D_X8_add_31 g (some 21) (some 33) = some (wF (wA g 22 (va_cpy (aI g 33) (aI g 22) 0 (7 * n) 7)) 21 1 (.int (Int32.ofNat (n + 1)))) := fun g n hs hn en => by
    have cp : z_cI g (some 33) 0 (some 22) (Int32.ofNat (7 * n)) 7 = some (wA g 22 (va_cpy (aI g 33) (aI g 22) 0 (7 * n) 7)) := s_cI (sp := 0) (k := 7) hs (a := 22) (b := 33) rfl rfl (by decide) (by omega) (by decide) (by decide)
    unfold D_X8_add_31
    rw [s_gQ (r := 22) hs rfl rfl, Option.bind_some, s_gI hs (ci := 8) rfl rfl, Option.bind_some, en, show Int32.ofNat n * 7 = Int32.ofNat (7 * n) by rw [Nat.mul_comm]; exact sc_mul n 7, cp, Option.bind_some, s_gI (Sh_wA hs rfl _) (ci := 8) rfl rfl, Option.bind_some, fI_wA, en, s_pV (Sh_wA hs rfl _) (ci := 8) rfl (by decide), Option.bind_some, show Int32.ofNat n + 1 = Int32.ofNat (n + 1) from sc_add n 1]
  by_cases c : n < 16
  · have d := a31 g n hs c en
    have d' : D_X8_add g (some 21) (some 33) = D_X8_add_31 g (some 21) (some 33) := by
      unfold D_X8_add
      rw [s_gI hs (ci := 8) rfl rfl, Option.bind_some, en, if_pos (show Int32.ofNat n < 16 from (nat_lt (b := 16) (by omega) (by decide)).mpr c)]
    refine ⟨wF (wA g 22 (va_cpy (aI g 33) (aI g 22) 0 (7 * n) 7)) 21 1 (.int (Int32.ofNat (n + 1))), Sh_wF (Sh_wA hs rfl _) rfl _, Tch_wF (Tch_wA (Tch_rfl _ g) (by decide) _) (by decide) _ _, ?_, ?_, d'.trans d⟩
    · rw [fI_wF_eq (Sh_wA hs rfl _) rfl]
      unfold nxN
      rw [if_pos c]
    · rw [aI_wF, aI_wA_eq hs rfl]
      unfold nxR
      rw [if_pos c]
  · have n16 : n = 16 := by omega
    subst n16
    have cp : z_cI g (some 22) 7 (some 22) 0 105 = some (wA g 22 (va_cpy (aI g 22) (aI g 22) 7 0 105)) := s_cI (sp := 7) (dp := 0) (k := 105) hs (a := 22) (b := 22) rfl rfl (by decide) (by decide) (by decide) (by decide)
    have s1 : Sh (wA g 22 (va_cpy (aI g 22) (aI g 22) 7 0 105)) := Sh_wA hs rfl _
    have s2 : Sh (wF (wA g 22 (va_cpy (aI g 22) (aI g 22) 7 0 105)) 21 1 (.int 15)) := Sh_wF s1 rfl _
    have d := a31 _ 15 s2 (by decide) (fI_wF_eq s1 rfl _)
    have d' : D_X8_add g (some 21) (some 33) = D_X8_add_31 (wF (wA g 22 (va_cpy (aI g 22) (aI g 22) 7 0 105)) 21 1 (.int 15)) (some 21) (some 33) := by
      unfold D_X8_add
      rw [s_gI hs (ci := 8) rfl rfl, Option.bind_some, en, if_neg (by decide), s_gQ (r := 22) hs rfl rfl, Option.bind_some, Option.bind_some, cp, Option.bind_some, s_pV s1 (ci := 8) rfl (by decide), Option.bind_some]
    generalize eX : wF (wA g 22 (va_cpy (aI g 22) (aI g 22) 7 0 105)) 21 1 (.int 15) = gX at *
    have TX : Tch [21, 22] g gX := by rw [← eX]; exact Tch_wF (Tch_wA (Tch_rfl _ g) (by decide) _) (by decide) _ _
    have x22 : aI gX 22 = va_cpy (aI g 22) (aI g 22) 7 0 105 := by rw [← eX, aI_wF, aI_wA_eq hs rfl]
    have x33 : aI gX 33 = aI g 33 := cell_aI (TX.c (by decide))
    refine ⟨wF (wA gX 22 (va_cpy (aI gX 33) (aI gX 22) 0 (7 * 15) 7)) 21 1 (.int (Int32.ofNat (15 + 1))), Sh_wF (Sh_wA s2 rfl _) rfl _, Tch_wF (Tch_wA TX (by decide) _) (by decide) _ _, ?_, ?_, d'.trans d⟩
    · rw [fI_wF_eq (Sh_wA s2 rfl _) rfl]
      rfl
    · rw [aI_wF, aI_wA_eq s2 rfl, x22, x33]
      unfold nxR
      rw [if_neg (by decide)]
/-- the log, an act later -/
theorem nxS_last (n : Nat) (hn : n ≤ 16) (s : Nat → Nat → Int32) (c : Nat → Int32) : nxS n s c (nxN n) = c := by
  unfold nxS nxN
  by_cases q : n < 16
  · rw [if_pos q, if_pos q, if_pos rfl]
  · rw [if_neg q, if_neg q, if_pos rfl]
theorem Ulog_push (U : Ulog h) {n : Nat} (en : fI h 21 1 = Int32.ofNat n) (hn : n ≤ 16) {rec : Nat → Int32} {a : Int32} {m' : Nat → Int32} (K : recOK (tn (fI h 1 8)) rec (fun i => aI h 83 (5 + i)) (fun i => m' (5 + i)) a) (e1 : fI h2 21 1 = Int32.ofNat (nxN n)) (e2 : fI h2 81 8 = Int32.ofNat (nxN n)) (e8 : fI h2 1 8 = fI h 1 8) (a22 : aI h2 22 = nxR n (aI h 22) rec) (a86 : aI h2 86 = nxU n (aI h 86) (fun i => aI h 83 (5 + i))) (a87 : aI h2 87 = nxM n (aI h 87) a) (a83 : aI h2 83 = m') : Ulog h2 := by
  obtain ⟨n', s, t, en', em, C, M, sn⟩ := U.split
  have : n' = n := by
    have e := en'.symm.trans en
    have := C.1
    exact (eq_lit (by omega) (by omega)).mp e
  subst this
  have C' := LogC_push C (by rw [sn]; exact K)
  have M' := LogM_push (c := fun i => m' (5 + i)) (a := a) hn M
  rw [sn] at M'
  refine Ulog.join e1 e2 (s := nxS n' s (fun i => m' (5 + i))) (t := nxT n' t a) (by rw [a22, e8]; exact C') (by rw [a86, a87]; exact M') (fun i hi => ?_)
  rw [nxS_last n' hn, a83]
/-- what undoes an act -/
theorem recOK_act {m rec : Nat → Int32} {np act p i c y w d : Nat} {v cc yy : Int32} (hact : act < 5) (hp : p < np) (hnp : np ≤ 6) (hi : i < 4) (r : ∀ k, k < 7 → rec k = recR act p i (m (8 + p)) (m (14 + p)) (m (20 + 4 * p + i)) (m 5) k) (e8 : m (8 + p) = Int32.ofNat c) (hc : c < 25) (e14 : m (14 + p) = Int32.ofNat y) (hy : y < 4) (e20 : m (20 + 4 * p + i) = Int32.ofNat w) (hw : w ≤ 99) (e5 : m 5 = Int32.ofNat d) (hd : d ≤ 999) : recOK np rec (fun k => m (5 + k)) (fun k => setPF m p i v cc yy (5 + k)) (Int32.ofNat act) := by
  have r0 : rec 0 = Int32.ofNat act := r 0 (by decide)
  have r1 : rec 1 = Int32.ofNat p := r 1 (by decide)
  have r2 : rec 2 = m (8 + p) := r 2 (by decide)
  have r3 : rec 3 = m (14 + p) := r 3 (by decide)
  have r4 : rec 4 = Int32.ofNat i := r 4 (by decide)
  have r5 : rec 5 = m (20 + 4 * p + i) := r 5 (by decide)
  have r6 : rec 6 = m 5 := r 6 (by decide)
  have t1 : tn (rec 1) = p := by rw [r1]; exact tn_of (by omega)
  have t4 : tn (rec 4) = i := by rw [r4]; exact tn_of (by omega)
  refine ⟨r0, ⟨act, rfl, by omega⟩, Or.inr ⟨⟨p, r1, hp⟩, ⟨c, by rw [r2, e8], by omega⟩, ⟨y, by rw [r3, e14], by omega⟩, ⟨i, r4, by omega⟩, ⟨w, by rw [r5, e20], hw⟩⟩, ⟨d, by rw [r6, e5], hd⟩, fun k hk => ?_⟩
  unfold undone
  rw [t1, t4, r2, r3, r5, r6]
  dsimp only
  by_cases c0 : k = 0
  · rw [if_pos c0, c0]
  rw [if_neg c0, if_neg (by rw [r1]; exact of_nm1 (by omega))]
  by_cases c1 : k = 3 + p
  · rw [if_pos c1, c1, show 5 + (3 + p) = 8 + p by omega]
  rw [if_neg c1]
  by_cases c2 : k = 9 + p
  · rw [if_pos c2, c2, show 5 + (9 + p) = 14 + p by omega]
  rw [if_neg c2]
  by_cases c3 : k = 15 + 4 * p + i
  · rw [if_pos c3, c3, show 5 + (15 + 4 * p + i) = 20 + 4 * p + i by omega]
  rw [if_neg c3, setPF_o (by omega) (by omega) (by omega)]
theorem recOK_pass {m rec : Nat → Int32} {np d : Nat} {v : Int32} (r0 : rec 0 = 4) (r1 : rec 1 = -1) (r6 : rec 6 = m 5) (e5 : m 5 = Int32.ofNat d) (hd : d ≤ 999) : recOK np rec (fun k => m (5 + k)) (fun k => upd m 5 v (5 + k)) 4 := by
  refine ⟨r0, ⟨4, rfl, by decide⟩, Or.inl r1, ⟨d, by rw [r6, e5], hd⟩, fun k hk => ?_⟩
  unfold undone
  rw [r6]
  dsimp only
  by_cases c0 : k = 0
  · rw [if_pos c0, c0]
  rw [if_neg c0, if_pos r1, upd_ne (by omega)]
end JN
