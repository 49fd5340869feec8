section CO
variable {g : z_H} {j : Nat} {h : z_H}
def popF (w : Nat) : Nat := foldN (fun c s => s + w / 2 ^ c % 2) 25 0
theorem mod256 (b : Nat) : b % 256 % 2 = b % 2 ∧ b % 256 / 2 % 2 = b / 2 % 2 ∧ b % 256 / 4 % 2 = b / 4 % 2 ∧ b % 256 / 8 % 2 = b / 8 % 2 ∧ b % 256 / 16 % 2 = b / 16 % 2 ∧ b % 256 / 32 % 2 = b / 32 % 2 ∧ b % 256 / 64 % 2 = b / 64 % 2 ∧ b % 256 / 128 % 2 = b / 128 % 2 := ⟨by omega, by omega, by omega, by omega, by omega, by omega, by omega, by omega⟩
def sumB (w n : Nat) : Nat := foldN (fun c s => s + w / 2 ^ c % 2) n 0
theorem sumB_8 (w : Nat) : sumB w 8 = pop8 (w % 256) := by
  obtain ⟨x0, x1, x2, x3, x4, x5, x6, x7⟩ := mod256 w
  unfold pop8
  rw [x0, x1, x2, x3, x4, x5, x6, x7]
  show 0 + w / 2 ^ 0 % 2 + w / 2 ^ 1 % 2 + w / 2 ^ 2 % 2 + w / 2 ^ 3 % 2 + w / 2 ^ 4 % 2 + w / 2 ^ 5 % 2 + w / 2 ^ 6 % 2 + w / 2 ^ 7 % 2 = _
  rw [Nat.pow_zero, Nat.div_one, Nat.zero_add]
theorem sumB_add (w : Nat) : ∀ n, sumB w (8 + n) = pop8 (w % 256) + sumB (w / 256) n := by
  intro n
  induction n with
  | zero => exact sumB_8 w
  | succ n ih =>
    show sumB w (8 + n) + w / 2 ^ (8 + n) % 2 = _ + (sumB (w / 256) n + w / 256 / 2 ^ n % 2)
    rw [ih, Nat.pow_add, ← Nat.div_div_eq_div_mul, Nat.add_assoc]
theorem pop_same {w : Nat} (hw : w < 33554432) : popF w = popN w := by
  have e1 := sumB_add w 17
  have e2 := sumB_add (w / 256) 9
  have e3 := sumB_add (w / 256 / 256) 1
  have e4 : sumB (w / 256 / 256 / 256) 1 = pop8 (w / 16777216) := by
    have q : w / 256 / 256 / 256 = w / 16777216 := by omega
    rw [q]
    have hb : w / 16777216 < 2 := by omega
    generalize w / 16777216 = b at hb
    have : b = 0 ∨ b = 1 := by omega
    rcases this with rfl | rfl <;> rfl
  have q2 : w / 256 / 256 = w / 65536 := by omega
  show sumB w (8 + 17) = _
  rw [e1, show sumB (w / 256) 17 = sumB (w / 256) (8 + 9) from rfl, e2, show sumB (w / 256 / 256) 9 = sumB (w / 256 / 256) (8 + 1) from rfl, e3, e4, q2]
  unfold popN
  rw [Nat.add_assoc, Nat.add_assoc]
theorem m_walls (hs : Sh g) {w : Nat} (hw : w < 33554432) (e4 : aI g 83 4 = Int32.ofNat w) : D_X11_wallsThere g (some 81) = some (Int32.ofNat (popN w), g) := by
  rw [← pop_same hw]
  have r4 : z_aI .int g (some 83) 4 = some (Int32.ofNat w) := by
    have := m83 (i := 4) hs (by decide)
    rw [e4] at this
    exact this
  unfold D_X11_wallsThere
  refine loop_fold (F := fun k v i => D_X11_wallsThere_4 k g (some 81) (Int32.ofNat v) (Int32.ofNat i)) (G := fun v => some (Int32.ofNat v, g)) (N := 25) (fun c s => s + w / 2 ^ c % 2) (fun k v => ?_) (fun k v i hi => ?_) 0 (by decide)
  · show D_X11_wallsThere_4b _ g (some 81) (Int32.ofNat v) (Int32.ofNat 25) = _
    unfold D_X11_wallsThere_4b
    rw [if_pos (by decide)]
  · show D_X11_wallsThere_4b (D_X11_wallsThere_4 k) g (some 81) (Int32.ofNat v) (Int32.ofNat i) = _
    have e1 : (Int32.ofNat w >>> (Int32.ofNat i &&& 31)) &&& 1 = Int32.ofNat (w / 2 ^ i % 2) := by
      rw [bit_of _ (by omega), b_of w i (by omega), Nat.testBit_eq_decide_div_mod_eq]
      have : w / 2 ^ i % 2 = 0 ∨ w / 2 ^ i % 2 = 1 := by omega
      rcases this with q | q
      · rw [q]; rfl
      · rw [q]; rfl
    unfold D_X11_wallsThere_4b
    rw [if_neg (fun z => by have := (nat_le (a := 25) (b := i) (by decide) (by omega)).mp z; omega), s_gQ (r := 83) hs rfl rfl, Option.bind_some, r4, Option.bind_some, Option.bind_some, Option.bind_some, e1, sc_add, show Int32.ofNat i + 1 = Int32.ofNat (i + 1) from sc_add i 1]
theorem a_count (H : Inv j h) (x : Int32) : Agree Inv j h (fun h => D_X10_count h (some 0) x) (fun h => D_X11_count h (some 81) x) := by
  have hs := H.1
  have st := Sh_t0 hs
  obtain ⟨t1, t2, t3, t4, t5, t6, t7, t8, t9⟩ := H.2.2.2.2.1
  obtain ⟨y1, ⟨w, ew, hw⟩, -⟩ := H.Y.1
  have Y := H.Y.2.1
  have c83 : aI (t0 h) 83 = aI h 83 := aI_wF _ _ _ _
  have c82 : aI (t0 h) 82 = aI h 82 := aI_wF _ _ _ _
  have r : ∀ {i : Nat}, i < 5462 → z_aI .int (t0 h) (some 83) (Int32.ofNat i) = some (aI h 83 i) := fun hi => by rw [m83 st hi, c83]
  have r82 : ∀ {i : Nat}, i < 7 → z_aI .int (t0 h) (some 82) (Int32.ofNat i) = some (aI h 82 i) := fun hi => by rw [aR (n := 7) st rfl hi (by decide), c82]
  have r62 : ∀ {i : Nat}, i < 7 → z_aI .int h (some 62) (Int32.ofNat i) = some (aI h 62 i) := fun hi => aR (n := 7) hs rfl hi (by decide)
  have p8 := p81 hs
  have q3 : z_gQ 11 (t0 h) (some 81) 3 = some (some 83) := s_gQ st rfl rfl
  have q2 : z_gQ 11 (t0 h) (some 81) 2 = some (some 82) := s_gQ st rfl rfl
  have xs1 : (Int32.ofNat (z_xs 1).1 : Int32) = 3 := rfl
  have xs2 : (Int32.ofNat (z_xs 2).1 : Int32) = 5 := rfl
  have rf : ∀ k : Nat, k < 5 → z_xI (z_xs 2) (Int32.ofNat k) = some ([1, 2, 3, 5, 6].getD k 0) := fun k hk => by
    have : k = 0 ∨ k = 1 ∨ k = 2 ∨ k = 3 ∨ k = 4 := by omega
    rcases this with rfl | rfl | rfl | rfl | rfl <;> rfl
  -- numbers that are told
  have small : ∀ k : Nat, k < 15 → Agree Inv j h (fun h => D_X10_count h (some 0) (Int32.ofNat k)) (fun h => D_X11_count h (some 81) (Int32.ofNat k)) := fun k hk => by
    have f8 : fI (t0 h) 81 8 = fI h 81 8 := fI_wF_ne (by decide)
    have f13 : fI (t0 h) 81 13 = fI h 81 13 := fI_wF_ne (by decide)
    have : k = 0 ∨ k = 1 ∨ k = 2 ∨ k = 3 ∨ k = 4 ∨ k = 5 ∨ k = 6 ∨ k = 7 ∨ k = 8 ∨ k = 9 ∨ k = 10 ∨ k = 11 ∨ k = 12 ∨ k = 13 ∨ k = 14 := by omega
    rcases this with rfl | rfl | rfl | rfl | rfl | rfl | rfl | rfl | rfl | rfl | rfl | rfl | rfl | rfl | rfl
    · refine none_q H (x := fI h 1 8) ?_ ?_
      · show D_X10_count h (some 0) 0 = _
        unfold D_X10_count D_X10_count_31 D_X10_count_61
        rw [if_pos (by decide), if_pos (by decide), if_pos rfl, s_gQ (r := 1) hs rfl rfl, Option.bind_some, s_gI hs (ci := 9) rfl rfl, Option.bind_some]
      · show D_X11_count h (some 81) 0 = _
        have r0 : z_aI .int (t0 h) (some 83) 0 = _ := r (i := 0) (by decide)
        unfold D_X11_count
        rw [p8, Option.bind_some, if_pos rfl, q3, Option.bind_some, r0, Option.bind_some, Y.1]
    · refine none_q H (x := Int32.ofNat (popN w)) ?_ ?_
      · show D_X10_count h (some 0) 1 = _
        unfold D_X10_count D_X10_count_31 D_X10_count_61
        rw [if_pos (by decide), if_pos (by decide), if_neg (by decide), if_pos rfl, s_gQ (r := 1) hs rfl rfl, Option.bind_some, s_gI hs (ci := 9) rfl rfl, Option.bind_some, ew, d_bitCount _ (by omega), Option.bind_some]
      · show D_X11_count h (some 81) 1 = _
        unfold D_X11_count
        rw [p8, Option.bind_some, if_neg (by decide), if_pos rfl, s_ob st (ci := 11) rfl, Option.bind_some, m_walls st (w := w) (by omega) (by rw [c83, Y.2.1]; exact ew), Option.bind_some]
    · refine none_q H (x := fI h 1 10) ?_ ?_
      · show D_X10_count h (some 0) 2 = _
        unfold D_X10_count D_X10_count_31 D_X10_count_61
        rw [if_pos (by decide), if_pos (by decide), if_neg (by decide), if_neg (by decide), if_pos rfl, s_gQ (r := 1) hs rfl rfl, Option.bind_some, s_gI hs (ci := 9) rfl rfl, Option.bind_some]
      · show D_X11_count h (some 81) 2 = _
        have r0 : z_aI .int (t0 h) (some 83) 1 = _ := r (i := 1) (by decide)
        unfold D_X11_count
        rw [p8, Option.bind_some, if_neg (by decide), if_neg (by decide), if_pos rfl, q3, Option.bind_some, r0, Option.bind_some, Y.2.2.1]
    · refine none_q H (x := fI h 1 11) ?_ ?_
      · show D_X10_count h (some 0) 3 = _
        unfold D_X10_count D_X10_count_31 D_X10_count_61
        rw [if_pos (by decide), if_pos (by decide), if_neg (by decide), if_neg (by decide), if_neg (by decide), if_pos rfl, s_gQ (r := 1) hs rfl rfl, Option.bind_some, s_gI hs (ci := 9) rfl rfl, Option.bind_some]
      · show D_X11_count h (some 81) 3 = _
        have r0 : z_aI .int (t0 h) (some 83) 2 = _ := r (i := 2) (by decide)
        unfold D_X11_count
        rw [p8, Option.bind_some, if_neg (by decide), if_neg (by decide), if_neg (by decide), if_pos rfl, q3, Option.bind_some, r0, Option.bind_some, Y.2.2.2.1]
    · refine none_q H (x := fI h 21 1) ?_ ?_
      · show D_X10_count h (some 0) 4 = _
        unfold D_X10_count D_X10_count_31 D_X10_count_61
        rw [if_pos (by decide), if_pos (by decide), if_neg (by decide), if_neg (by decide), if_neg (by decide), if_neg (by decide), if_pos rfl, s_gQ (r := 21) hs rfl rfl, Option.bind_some, s_gI hs (ci := 8) rfl rfl, Option.bind_some]
      · show D_X11_count h (some 81) 4 = _
        unfold D_X11_count
        rw [p8, Option.bind_some, if_neg (by decide), if_neg (by decide), if_neg (by decide), if_neg (by decide), if_pos rfl, s_gI st (ci := 11) rfl rfl, Option.bind_some, f8, H.2.2.2.1.1]
    · refine none_q H (x := fI h 23 2) ?_ ?_
      · show D_X10_count h (some 0) 5 = _
        unfold D_X10_count D_X10_count_31 D_X10_count_61
        rw [if_pos (by decide), if_pos (by decide), if_neg (by decide), if_neg (by decide), if_neg (by decide), if_neg (by decide), if_neg (by decide), if_pos rfl, s_gQ (r := 23) hs rfl rfl, Option.bind_some, s_gI hs (ci := 5) rfl rfl, Option.bind_some]
      · show D_X11_count h (some 81) 5 = _
        unfold D_X11_count
        rw [p8, Option.bind_some, if_neg (by decide), if_neg (by decide), if_neg (by decide), if_neg (by decide), if_neg (by decide), if_pos rfl, s_gI st (ci := 11) rfl rfl, Option.bind_some, f13, t4]
    · refine none_q H (x := aI h 62 1) ?_ ?_
      · show D_X10_count h (some 0) 6 = _
        unfold D_X10_count
        rw [if_neg (by decide), xs2, if_neg (by decide), s_gQ (r := 62) hs rfl rfl, Option.bind_some, show (6 : Int32) - 6 = Int32.ofNat 0 from rfl, rf 0 (by decide), Option.bind_some]
        exact congrArg (fun z => z.bind fun x => some (x, h)) (r62 (i := 1) (by decide))
      · show D_X11_count h (some 81) 6 = _
        have r0 : z_aI .int (t0 h) (some 82) 1 = _ := r82 (i := 1) (by decide)
        unfold D_X11_count
        rw [p8, Option.bind_some, if_neg (by decide), if_neg (by decide), if_neg (by decide), if_neg (by decide), if_neg (by decide), if_neg (by decide), if_pos rfl, q2, Option.bind_some, r0, Option.bind_some, t3 1 (by decide)]
    · refine none_q H (x := aI h 62 2) ?_ ?_
      · show D_X10_count h (some 0) 7 = _
        unfold D_X10_count
        rw [if_neg (by decide), xs2, if_neg (by decide), s_gQ (r := 62) hs rfl rfl, Option.bind_some, show (7 : Int32) - 6 = Int32.ofNat 1 from rfl, rf 1 (by decide), Option.bind_some]
        exact congrArg (fun z => z.bind fun x => some (x, h)) (r62 (i := 2) (by decide))
      · show D_X11_count h (some 81) 7 = _
        have r0 : z_aI .int (t0 h) (some 82) 2 = _ := r82 (i := 2) (by decide)
        unfold D_X11_count
        rw [p8, Option.bind_some, if_neg (by decide), if_neg (by decide), if_neg (by decide), if_neg (by decide), if_neg (by decide), if_neg (by decide), if_neg (by decide), if_pos rfl, q2, Option.bind_some, r0, Option.bind_some, t3 2 (by decide)]
    · refine none_q H (x := aI h 62 3) ?_ ?_
      · show D_X10_count h (some 0) 8 = _
        unfold D_X10_count
        rw [if_neg (by decide), xs2, if_neg (by decide), s_gQ (r := 62) hs rfl rfl, Option.bind_some, show (8 : Int32) - 6 = Int32.ofNat 2 from rfl, rf 2 (by decide), Option.bind_some]
        exact congrArg (fun z => z.bind fun x => some (x, h)) (r62 (i := 3) (by decide))
      · show D_X11_count h (some 81) 8 = _
        have r0 : z_aI .int (t0 h) (some 82) 3 = _ := r82 (i := 3) (by decide)
        unfold D_X11_count
        rw [p8, Option.bind_some, if_neg (by decide), if_neg (by decide), if_neg (by decide), if_neg (by decide), if_neg (by decide), if_neg (by decide), if_neg (by decide), if_neg (by decide), if_pos rfl, q2, Option.bind_some, r0, Option.bind_some, t3 3 (by decide)]
    · refine none_q H (x := aI h 62 5) ?_ ?_
      · show D_X10_count h (some 0) 9 = _
        unfold D_X10_count
        rw [if_neg (by decide), xs2, if_neg (by decide), s_gQ (r := 62) hs rfl rfl, Option.bind_some, show (9 : Int32) - 6 = Int32.ofNat 3 from rfl, rf 3 (by decide), Option.bind_some]
        exact congrArg (fun z => z.bind fun x => some (x, h)) (r62 (i := 5) (by decide))
      · show D_X11_count h (some 81) 9 = _
        have r0 : z_aI .int (t0 h) (some 82) 5 = _ := r82 (i := 5) (by decide)
        unfold D_X11_count
        rw [p8, Option.bind_some, if_neg (by decide), if_neg (by decide), if_neg (by decide), if_neg (by decide), if_neg (by decide), if_neg (by decide), if_neg (by decide), if_neg (by decide), if_neg (by decide), if_pos rfl, q2, Option.bind_some, r0, Option.bind_some, t3 5 (by decide)]
    · refine none_q H (x := aI h 62 6) ?_ ?_
      · show D_X10_count h (some 0) 10 = _
        unfold D_X10_count
        rw [if_neg (by decide), xs2, if_neg (by decide), s_gQ (r := 62) hs rfl rfl, Option.bind_some, show (10 : Int32) - 6 = Int32.ofNat 4 from rfl, rf 4 (by decide), Option.bind_some]
        exact congrArg (fun z => z.bind fun x => some (x, h)) (r62 (i := 6) (by decide))
      · show D_X11_count h (some 81) 10 = _
        have r0 : z_aI .int (t0 h) (some 82) 6 = _ := r82 (i := 6) (by decide)
        unfold D_X11_count
        rw [p8, Option.bind_some, if_neg (by decide), if_neg (by decide), if_neg (by decide), if_neg (by decide), if_neg (by decide), if_neg (by decide), if_neg (by decide), if_neg (by decide), if_neg (by decide), if_neg (by decide), if_pos rfl, q2, Option.bind_some, r0, Option.bind_some, t3 6 (by decide)]
    · refine none_q H (x := fI h 1 12) ?_ ?_
      · show D_X10_count h (some 0) 11 = _
        unfold D_X10_count D_X10_count_31 D_X10_count_61
        rw [if_neg (by decide), xs2, if_pos (by decide), if_pos (by decide), if_neg (by decide), if_neg (by decide), if_neg (by decide), if_neg (by decide), if_neg (by decide), if_neg (by decide), if_neg (by decide), if_neg (by decide), if_neg (by decide), if_neg (by decide), if_neg (by decide), if_pos rfl, s_gQ (r := 1) hs rfl rfl, Option.bind_some, s_gI hs (ci := 9) rfl rfl, Option.bind_some]
      · show D_X11_count h (some 81) 11 = _
        have r0 : z_aI .int (t0 h) (some 83) 3 = _ := r (i := 3) (by decide)
        unfold D_X11_count
        rw [p8, Option.bind_some, if_neg (by decide), if_neg (by decide), if_neg (by decide), if_neg (by decide), if_neg (by decide), if_neg (by decide), if_neg (by decide), if_neg (by decide), if_neg (by decide), if_neg (by decide), if_neg (by decide), if_pos rfl, q3, Option.bind_some, r0, Option.bind_some, Y.2.2.2.2.1]
    · refine none_q H (x := aI h 6 0) ?_ ?_
      · show D_X10_count h (some 0) 12 = _
        have r6 : z_aI .int h (some 6) (Int32.ofNat 0) = _ := aR (n := 3) (i := 0) hs rfl (by decide) (by decide)
        unfold D_X10_count D_X10_count_31
        rw [if_neg (by decide), xs2, if_pos (by decide), if_neg (by decide), xs1, if_neg (by decide), s_gQ (r := 1) hs rfl rfl, Option.bind_some, s_gQ (r := 6) hs rfl rfl, Option.bind_some, show (12 : Int32) - 12 = Int32.ofNat 0 from rfl, r6, Option.bind_some]
      · show D_X11_count h (some 81) 12 = _
        have r0 : z_aI .int (t0 h) (some 83) (Int32.ofNat 5) = _ := r (i := 5) (by decide)
        unfold D_X11_count
        rw [p8, Option.bind_some, if_neg (by decide), if_neg (by decide), if_neg (by decide), if_neg (by decide), if_neg (by decide), if_neg (by decide), if_neg (by decide), if_neg (by decide), if_neg (by decide), if_neg (by decide), if_neg (by decide), if_neg (by decide), d_in_yes (by decide), Option.bind_some]
        dsimp only
        rw [if_neg one_ne, q3, Option.bind_some, show (5 : Int32) + 12 - 12 = Int32.ofNat 5 from rfl, r0, Option.bind_some, Y.2.2.2.2.2.2.2 0 (by decide)]
    · refine none_q H (x := aI h 6 1) ?_ ?_
      · show D_X10_count h (some 0) 13 = _
        have r6 : z_aI .int h (some 6) (Int32.ofNat 1) = _ := aR (n := 3) (i := 1) hs rfl (by decide) (by decide)
        unfold D_X10_count D_X10_count_31
        rw [if_neg (by decide), xs2, if_pos (by decide), if_neg (by decide), xs1, if_neg (by decide), s_gQ (r := 1) hs rfl rfl, Option.bind_some, s_gQ (r := 6) hs rfl rfl, Option.bind_some, show (13 : Int32) - 12 = Int32.ofNat 1 from rfl, r6, Option.bind_some]
      · show D_X11_count h (some 81) 13 = _
        have r0 : z_aI .int (t0 h) (some 83) (Int32.ofNat 6) = _ := r (i := 6) (by decide)
        unfold D_X11_count
        rw [p8, Option.bind_some, if_neg (by decide), if_neg (by decide), if_neg (by decide), if_neg (by decide), if_neg (by decide), if_neg (by decide), if_neg (by decide), if_neg (by decide), if_neg (by decide), if_neg (by decide), if_neg (by decide), if_neg (by decide), d_in_yes (by decide), Option.bind_some]
        dsimp only
        rw [if_neg one_ne, q3, Option.bind_some, show (5 : Int32) + 13 - 12 = Int32.ofNat 6 from rfl, r0, Option.bind_some, Y.2.2.2.2.2.2.2 1 (by decide)]
    · refine none_q H (x := aI h 6 2) ?_ ?_
      · show D_X10_count h (some 0) 14 = _
        have r6 : z_aI .int h (some 6) (Int32.ofNat 2) = _ := aR (n := 3) (i := 2) hs rfl (by decide) (by decide)
        unfold D_X10_count D_X10_count_31
        rw [if_neg (by decide), xs2, if_pos (by decide), if_neg (by decide), xs1, if_neg (by decide), s_gQ (r := 1) hs rfl rfl, Option.bind_some, s_gQ (r := 6) hs rfl rfl, Option.bind_some, show (14 : Int32) - 12 = Int32.ofNat 2 from rfl, r6, Option.bind_some]
      · show D_X11_count h (some 81) 14 = _
        have r0 : z_aI .int (t0 h) (some 83) (Int32.ofNat 7) = _ := r (i := 7) (by decide)
        unfold D_X11_count
        rw [p8, Option.bind_some, if_neg (by decide), if_neg (by decide), if_neg (by decide), if_neg (by decide), if_neg (by decide), if_neg (by decide), if_neg (by decide), if_neg (by decide), if_neg (by decide), if_neg (by decide), if_neg (by decide), if_neg (by decide), d_in_yes (by decide), Option.bind_some]
        dsimp only
        rw [if_neg one_ne, q3, Option.bind_some, show (5 : Int32) + 14 - 12 = Int32.ofNat 7 from rfl, r0, Option.bind_some, Y.2.2.2.2.2.2.2 2 (by decide)]
  rcases xc x 15 (by decide) with ⟨k, hk, rfl⟩ | nx
  · exact small k hk
  · have ne : ∀ q : Nat, q < 15 → ¬ x = Int32.ofNat q := fun q hq e => nx (by rw [e, of_int (by omega)]; omega)
    have n0 : ¬ x = 0 := ne 0 (by decide)
    have n1 : ¬ x = 1 := ne 1 (by decide)
    have n2 : ¬ x = 2 := ne 2 (by decide)
    have n3 : ¬ x = 3 := ne 3 (by decide)
    have n4 : ¬ x = 4 := ne 4 (by decide)
    have n5 : ¬ x = 5 := ne 5 (by decide)
    have n6 : ¬ x = 6 := ne 6 (by decide)
    have n7 : ¬ x = 7 := ne 7 (by decide)
    have n8 : ¬ x = 8 := ne 8 (by decide)
    have n9 : ¬ x = 9 := ne 9 (by decide)
    have n10 : ¬ x = 10 := ne 10 (by decide)
    have n11 : ¬ x = 11 := ne 11 (by decide)
    have d61 : D_X10_count_61 h (some 0) x = some (-1, h) := by
      unfold D_X10_count_61
      rw [if_neg n0, if_neg n1, if_neg n2, if_neg n3, if_neg n4, if_neg n5, if_neg n6, if_neg n7, if_neg n8, if_neg n9, if_neg n10, if_neg n11]
    have d31 : D_X10_count_31 h (some 0) x = some (-1, h) := by
      unfold D_X10_count_31
      by_cases c : x < 12
      · rw [if_pos c, d61]
      · rw [if_neg c, xs1]
        rw [Int32.lt_iff_toInt_lt] at c
        have e12 : (12 : Int32).toInt = 12 := by decide
        rw [if_pos (by rw [Int32.le_iff_toInt_le]; show (15 : Int) ≤ x.toInt; omega), d61]
    refine none_q H (x := -1) ?_ ?_
    · show D_X10_count h (some 0) x = _
      unfold D_X10_count
      by_cases c : x < 6
      · rw [if_pos c, d31]
      · rw [if_neg c, xs2]
        rw [Int32.lt_iff_toInt_lt] at c
        have e6 : (6 : Int32).toInt = 6 := by decide
        rw [if_pos (by rw [Int32.le_iff_toInt_le]; show (11 : Int) ≤ x.toInt; omega), d31]
    · show D_X11_count h (some 81) x = _
      unfold D_X11_count
      rw [p8, Option.bind_some, if_neg n0, if_neg n1, if_neg n2, if_neg n3, if_neg n4, if_neg n5, if_neg n6, if_neg n7, if_neg n8, if_neg n9, if_neg n10, if_neg n11, d_in_no (by rw [wide]; show ¬ ((12 : Int) ≤ x.toInt ∧ x.toInt ≤ 14); omega), Option.bind_some]
      dsimp only
      rw [if_pos rfl]
end CO
