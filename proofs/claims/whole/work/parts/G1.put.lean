/-! law: the reference puts it into its row -/
section G1
variable {hE : z_H}
theorem m_put (hs : Sh hE) {k nM nl : Nat} (e21 : fI hE 81 21 = Int32.ofNat k) (hk : k ≤ 12) (e23 : fI hE 81 23 = Int32.ofNat nM) (hn : nM ≤ 400) (hl : nl < 6) {m0 : Nat → Int32} (e2 : m0 2 = Int32.ofNat nl) : ∃ m' : Nat → Int32, D_X11_law_110 z_F (wA hE 83 m0) (some 81) (Int32.ofNat (62 + 900 * nl)) 0 = some (Int32.ofNat nl, wF (wA hE 83 m') 81 1 (.int 0)) ∧ m' 2 = Int32.ofNat (nl + 1) ∧ m' (62 + 900 * nl + 1) = m0 (62 + 900 * nl + 1) ∧ (∀ i, i < 8 * k → m' (62 + 900 * nl + 2 + i) = aI hE 91 i) ∧ (∀ i, i < nM → m' (62 + 900 * nl + 98 + 2 * i) = aI hE 92 i ∧ m' (62 + 900 * nl + 99 + 2 * i) = aI hE 93 i) ∧ ∀ i, i ≠ 2 → (i < 62 + 900 * nl ∨ 62 + 900 * (nl + 1) ≤ i) → m' i = m0 i := by
  have S : ∀ m, Sh (wA hE 83 m) := fun m => Sh_wA hs rfl m
  have r83 : ∀ m, aI (wA hE 83 m) 83 = m := fun m => aI_wA_eq hs rfl m
  have ra : ∀ m a, a ≠ 83 → aI (wA hE 83 m) a = aI hE a := fun m a h => aI_wA_ne h
  have rf : ∀ m j, fI (wA hE 83 m) 81 j = fI hE 81 j := fun m j => fI_wA _ _ _ _
  have wr : ∀ m i x, i < 5462 → z_sI (wA hE 83 m) (some 83) (Int32.ofNat i) x = some (wA hE 83 (upd m i x)) := fun m i x h => by
    rw [aW (S m) (n := 5462) rfl h (by decide), r83, wA_wA]
  have q83 : ∀ m, z_gQ 11 (wA hE 83 m) (some 81) 3 = some (some 83) := fun m => s_gQ (S m) rfl rfl
  have lp := loop_up (S := Nat → Int32) (I := fun i m => m 2 = Int32.ofNat nl ∧ m (62 + 900 * nl + 1) = m0 (62 + 900 * nl + 1) ∧ (∀ u, u < i → m (62 + 900 * nl + 2 + u) = aI hE 91 u) ∧ ∀ u, (u < 62 + 900 * nl ∨ 62 + 900 * (nl + 1) ≤ u) → m u = m0 u) (F := fun f m i => D_X11_law_110 f (wA hE 83 m) (some 81) (Int32.ofNat (62 + 900 * nl)) (Int32.ofNat i)) (G := fun m => D_X11_law_145 z_F (wA hE 83 m) (some 81) (Int32.ofNat (62 + 900 * nl)) 0) (N := 8 * k) (fun f m _ => ?_) (fun f m i hi I => ?_) (8 * k) 0 z_F m0 (by omega) (by omega) (by show _ < 1000000; omega) ⟨e2, rfl, fun u hu => by omega, fun _ _ => rfl⟩
  · obtain ⟨m1, ⟨i1, i2, i3, i4⟩, d1⟩ := lp
    have lq := loop_up (S := Nat → Int32) (I := fun i m => m 2 = Int32.ofNat nl ∧ m (62 + 900 * nl + 1) = m0 (62 + 900 * nl + 1) ∧ (∀ u, u < 8 * k → m (62 + 900 * nl + 2 + u) = aI hE 91 u) ∧ (∀ u, u < i → m (62 + 900 * nl + 98 + 2 * u) = aI hE 92 u ∧ m (62 + 900 * nl + 99 + 2 * u) = aI hE 93 u) ∧ ∀ u, (u < 62 + 900 * nl ∨ 62 + 900 * (nl + 1) ≤ u) → m u = m0 u) (F := fun f m i => D_X11_law_145 f (wA hE 83 m) (some 81) (Int32.ofNat (62 + 900 * nl)) (Int32.ofNat i)) (G := fun m => some (Int32.ofNat nl, wF (wA hE 83 (upd m 2 (Int32.ofNat (nl + 1)))) 81 1 (.int 0))) (N := nM) (fun f m I => ?_) (fun f m i hi I => ?_) nM 0 z_F m1 (by omega) (by omega) (by show _ < 1000000; omega) ⟨i1, i2, i3, fun u hu => by omega, i4⟩
    · obtain ⟨m2, ⟨j1, j2, j3, j4, j5⟩, d2⟩ := lq
      refine ⟨upd m2 2 (Int32.ofNat (nl + 1)), d1.trans d2, upd_eq, by rw [upd_ne (by omega)]; exact j2, fun i hi => by rw [upd_ne (by omega)]; exact j3 i hi, fun i hi => by rw [upd_ne (by omega), upd_ne (by omega)]; exact j4 i hi, fun i h1 h2 => by rw [upd_ne h1]; exact j5 i h2⟩
    · show D_X11_law_145b _ (wA hE 83 m) (some 81) (Int32.ofNat (62 + 900 * nl)) (Int32.ofNat nM) = _
      have w2 : z_sI (wA hE 83 m) (some 83) 2 (Int32.ofNat nl + 1) = some (wA hE 83 (upd m 2 (Int32.ofNat (nl + 1)))) := by
        rw [show Int32.ofNat nl + 1 = Int32.ofNat (nl + 1) from sc_add nl 1]; exact wr m 2 _ (by decide)
      have rd2 : ∀ mm : Nat → Int32, z_aI .int (wA hE 83 mm) (some 83) 2 = some (mm 2) := fun mm => by
        rw [show (2 : Int32) = Int32.ofNat 2 from rfl, aR (S mm) (n := 5462) rfl (by decide) (by decide), r83]
      unfold D_X11_law_145b
      rw [s_gI (S m) (ci := 11) rfl rfl, Option.bind_some, rf, e23, if_pos (by rw [Int32.le_iff_toInt_le]; exact Int.le_refl _), q83, Option.bind_some, rd2, Option.bind_some, I.1, w2, Option.bind_some, q83, Option.bind_some, rd2, upd_eq, Option.bind_some, o81 (S _), Option.bind_some, show Int32.ofNat (nl + 1) - 1 = Int32.ofNat nl from sc_sub (k := 1) (by omega), d_tell_ok (S _) (show 0 ≤ Int32.ofNat nl from (nat_le (a := 0) (by decide) (by omega)).mpr (Nat.zero_le _)), Option.bind_some]
    · show ∃ m', _ ∧ D_X11_law_145b (D_X11_law_145 f) (wA hE 83 m) (some 81) (Int32.ofNat (62 + 900 * nl)) (Int32.ofNat i) = _
      obtain ⟨j1, j2, j3, j4, j5⟩ := I
      refine ⟨upd (upd m (62 + 900 * nl + 98 + 2 * i) (aI hE 92 i)) (62 + 900 * nl + 99 + 2 * i) (aI hE 93 i), ⟨by rw [upd_ne (by omega), upd_ne (by omega)]; exact j1, by rw [upd_ne (by omega), upd_ne (by omega)]; exact j2, fun u hu => by rw [upd_ne (by omega), upd_ne (by omega)]; exact j3 u hu, fun u hu => ?_, fun u hu => by rw [upd_ne (by omega), upd_ne (by omega)]; exact j5 u hu⟩, ?_⟩
      · by_cases q : u = i
        · rw [q, upd_ne (by omega), upd_eq, upd_eq]; exact ⟨rfl, rfl⟩
        · rw [upd_ne (by omega), upd_ne (by omega), upd_ne (by omega), upd_ne (by omega)]; exact j4 u (by omega)
      · have ix : (Int32.ofNat (62 + 900 * nl) + 98) + 2 * Int32.ofNat i = Int32.ofNat (62 + 900 * nl + 98 + 2 * i) := by
          rw [show Int32.ofNat (62 + 900 * nl) + 98 = Int32.ofNat (62 + 900 * nl + 98) from sc_add _ 98, show (2 : Int32) * Int32.ofNat i = Int32.ofNat (2 * i) from (Int32.ofNat_mul 2 i).symm, sc_add]
        unfold D_X11_law_145b
        rw [s_gI (S m) (ci := 11) rfl rfl, Option.bind_some, rf, e23, if_neg (fun z => by have := (nat_le (by omega) (by omega)).mp z; omega), q83, Option.bind_some, s_gQ (r := 92) (S m) rfl rfl, Option.bind_some, aR (S m) (n := 400) rfl (by omega) (by decide), ra m 92 (by decide), Option.bind_some, ix, wr m _ _ (by omega), Option.bind_some, q83, Option.bind_some, s_gQ (r := 93) (S _) rfl rfl, Option.bind_some, aR (S _) (n := 400) rfl (by omega) (by decide), ra _ 93 (by decide), Option.bind_some, show Int32.ofNat (62 + 900 * nl + 98 + 2 * i) + 1 = Int32.ofNat (62 + 900 * nl + 99 + 2 * i) by rw [show (1 : Int32) = Int32.ofNat 1 from rfl, sc_add, show 62 + 900 * nl + 98 + 2 * i + 1 = 62 + 900 * nl + 99 + 2 * i by omega], wr _ _ _ (by omega), Option.bind_some, Option.bind_some, show Int32.ofNat i + 1 = Int32.ofNat (i + 1) from sc_add i 1]
  · show D_X11_law_110b _ (wA hE 83 m) (some 81) (Int32.ofNat (62 + 900 * nl)) (Int32.ofNat (8 * k)) = _
    unfold D_X11_law_110b
    rw [s_gI (S m) (ci := 11) rfl rfl, Option.bind_some, rf, e21, show (8 : Int32) * Int32.ofNat k = Int32.ofNat (8 * k) from (Int32.ofNat_mul 8 k).symm, if_pos (by rw [Int32.le_iff_toInt_le]; exact Int.le_refl _)]
  · show ∃ m', _ ∧ D_X11_law_110b (D_X11_law_110 f) (wA hE 83 m) (some 81) (Int32.ofNat (62 + 900 * nl)) (Int32.ofNat i) = _
    obtain ⟨j1, j2, j3, j4⟩ := I
    refine ⟨upd m (62 + 900 * nl + 2 + i) (aI hE 91 i), ⟨by rw [upd_ne (by omega)]; exact j1, by rw [upd_ne (by omega)]; exact j2, fun u hu => ?_, fun u hu => by rw [upd_ne (by omega)]; exact j4 u hu⟩, ?_⟩
    · by_cases q : u = i
      · rw [q, upd_eq]
      · rw [upd_ne (by omega)]; exact j3 u (by omega)
    · unfold D_X11_law_110b
      rw [s_gI (S m) (ci := 11) rfl rfl, Option.bind_some, rf, e21, show (8 : Int32) * Int32.ofNat k = Int32.ofNat (8 * k) from (Int32.ofNat_mul 8 k).symm, if_neg (fun z => by have := (nat_le (by omega) (by omega)).mp z; omega), q83, Option.bind_some, s_gQ (r := 91) (S m) rfl rfl, Option.bind_some, aR (S m) (n := 96) rfl (by omega) (by decide), ra m 91 (by decide), Option.bind_some, show Int32.ofNat (62 + 900 * nl) + 2 + Int32.ofNat i = Int32.ofNat (62 + 900 * nl + 2 + i) by rw [show (2 : Int32) = Int32.ofNat 2 from rfl, sc_add, sc_add], wr m _ _ (by omega), Option.bind_some, Option.bind_some, show Int32.ofNat i + 1 = Int32.ofNat (i + 1) from sc_add i 1]
/-- the new law tells alike -/
theorem LR_new {k n nM : Nat} {op ar cl op' ar' cl' K Ka mc m : Nat → Int32} {f : Nat → Nat} (hk : k ≤ 12) (hn : nM ≤ 400) (le : n ≤ nM) (f0 : f 0 = 0) (fn : f n = nM) (S : sg false op ar K Ka f 0 n) (cls : ∀ j, j < k → CLR op ar cl mc f n j) (eo : ∀ i, i < n → op' i = op i ∧ ar' i = ar i) (ec : ∀ i, i < 6 * k → cl' i = cl i) (m1 : m 1 = Int32.ofNat k) (m2 : ∀ i, i < 8 * k → m (2 + i) = mc i) (m3 : ∀ i, i < nM → m (98 + 2 * i) = K i ∧ m (99 + 2 * i) = Ka i) : LR n k op' ar' cl' m := by
  refine ⟨hk, m1, f, ⟨by omega, by omega, fun i hi => ?_⟩, fun j hj => ?_⟩
  · have := sg_cg S (op' := op') (ar' := ar') (K' := fun k => m (98 + 2 * k)) (Ka' := fun k => m (99 + 2 * k)) (fun i _ h => eo i h) (fun i _ h => m3 i (by omega))
    exact this i (Nat.zero_le _) hi
  · obtain ⟨v, s0, s1, s2, a1, a2, a3, a4, a5, a6, b1, b2, b3, c1, c2, c3, c4, c5, d1, d2, d3⟩ := cls j hj
    refine ⟨v, s0, s1, s2, a1, by rw [ec _ (by omega)]; exact a2, by rw [ec _ (by omega)]; exact a3, by rw [ec _ (by omega)]; exact a4, by rw [ec _ (by omega)]; exact a5, by rw [ec _ (by omega)]; exact a6, b3, by rw [m2 _ (by omega)]; exact c1, by rw [show 2 + 8 * j + 3 = 2 + (8 * j + 3) by omega, m2 _ (by omega)]; exact c2, by rw [show 2 + 8 * j + 4 = 2 + (8 * j + 4) by omega, m2 _ (by omega)]; exact c3, by rw [show 2 + 8 * j + 5 = 2 + (8 * j + 5) by omega, m2 _ (by omega)]; exact c4, by rw [show 2 + 8 * j + 6 = 2 + (8 * j + 6) by omega, m2 _ (by omega)]; exact c5, d1, fun z => segOK_cg (d2 z) (fun i _ h => eo i (by omega)), d3.imp id (fun z => segT_cg z (fun i _ h => eo i (by omega)))⟩
end G1
