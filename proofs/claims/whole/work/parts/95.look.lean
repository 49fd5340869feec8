section LO
variable {g : z_H} {m : Nat → Int32} {j : Nat} {h : z_H}
theorem bit_is (x : Int32) {c : Nat} (hc : c < 31) : ((x >>> (Int32.ofNat c &&& 31)) &&& 1 = 1) ↔ bt x c = true := by
  rw [bit_of x hc]
  cases bt x c
  · exact ⟨fun z => by rw [if_neg (by decide)] at z; exact absurd z (by decide), fun z => by cases z⟩
  · exact ⟨fun _ => rfl, fun _ => by rw [if_pos rfl]⟩
theorem bit_both (x : Int32) {a b : Nat} (ha : a < 31) (hb : b < 31) : ((((x >>> (Int32.ofNat a &&& 31)) &&& (x >>> (Int32.ofNat b &&& 31))) &&& 1) = 1) ↔ (bt x a = true ∧ bt x b = true) := by
  rw [← bit_is x ha, ← bit_is x hb]
  have e : ((x >>> (Int32.ofNat a &&& 31)) &&& (x >>> (Int32.ofNat b &&& 31))) &&& (1 : Int32) = ((x >>> (Int32.ofNat a &&& 31)) &&& 1) &&& ((x >>> (Int32.ofNat b &&& 31)) &&& 1) := by
    apply b_ext
    intro i hi
    rw [b_and, b_and, b_and, b_and, b_and]
    generalize bt (x >>> (Int32.ofNat a &&& 31)) i = p
    generalize bt (x >>> (Int32.ofNat b &&& 31)) i = q
    generalize bt 1 i = r
    cases p <;> cases q <;> cases r <;> rfl
  rw [e, bit_of x ha, bit_of x hb]
  cases bt x a <;> cases bt x b <;> decide
theorem c_most (hs : Sh g) (Y : Yrel g 1 m) {n : Nat} (e8 : fI g 1 8 = Int32.ofNat n) (hn : n ≤ 6) (those : Int32) {part : Nat} (hpt : part < 4) : D_X3_mostAlike g (some 1) those (Int32.ofNat part) = some (mostV m n those part, g) := by
  have ha : isY 1 := Or.inl rfl
  unfold D_X3_mostAlike
  refine loop_fold (F := fun k s i => D_X3_mostAlike_5 k g (some 1) those (Int32.ofNat part) s (Int32.ofNat i)) (G := fun s => some (s, g)) (N := n) (mostO m n those part) (fun k s => ?_) (fun k s p hp => ?_) 0 (by omega)
  · show D_X3_mostAlike_5b _ g (some 1) those (Int32.ofNat part) s (Int32.ofNat n) = _
    unfold D_X3_mostAlike_5b
    rw [(yR hs ha).2.2.2.2.2.2.2.1, Option.bind_some, if_pos (by rw [e8]; exact (nat_le (by omega) (by omega)).mpr (by omega))]
  · show D_X3_mostAlike_5b (D_X3_mostAlike_5 k) g (some 1) those (Int32.ofNat part) s (Int32.ofNat p) = _
    unfold D_X3_mostAlike_5b
    rw [(yR hs ha).2.2.2.2.2.2.2.1, Option.bind_some, if_neg (show ¬ fI g 1 8 ≤ Int32.ofNat p from fun z => by rw [e8] at z; have := (nat_le (by omega) (by omega)).mp z; omega)]
    have lp := loop_fold (F := fun k' c i => D_X3_mostAlike_20 (D_X3_mostAlike_5 k) k' g (some 1) those (Int32.ofNat part) s (Int32.ofNat p) c (Int32.ofNat i)) (G := fun c => D_X3_mostAlike_5 k g (some 1) those (Int32.ofNat part) (if s < c then c else s) (Int32.ofNat (p + 1))) (N := n) (alikI m those part p)
      (fun k' c => by
        show D_X3_mostAlike_20b (D_X3_mostAlike_5 k) _ g (some 1) those (Int32.ofNat part) s (Int32.ofNat p) c (Int32.ofNat n) = _
        unfold D_X3_mostAlike_20b
        rw [(yR hs ha).2.2.2.2.2.2.2.1, Option.bind_some, if_pos (by rw [e8]; exact (nat_le (by omega) (by omega)).mpr (by omega)), Option.bind_some, Option.bind_some, show Int32.ofNat p + 1 = Int32.ofNat (p + 1) from sc_add p 1])
      (fun k' c i hi => by
        show D_X3_mostAlike_20b (D_X3_mostAlike_5 k) (D_X3_mostAlike_20 (D_X3_mostAlike_5 k) k') g (some 1) those (Int32.ofNat part) s (Int32.ofNat p) c (Int32.ofNat i) = _
        unfold D_X3_mostAlike_20b D_X3_mostAlike_49 D_X3_mostAlike_79 D_X3_mostAlike_80 alikI
        rw [(yR hs ha).2.2.2.2.2.2.2.1, Option.bind_some, if_neg (show ¬ fI g 1 8 ≤ Int32.ofNat i from fun z => by rw [e8] at z; have := (nat_le (by omega) (by omega)).mp z; omega), show Int32.ofNat i + 1 = Int32.ofNat (i + 1) from sc_add i 1]
        have bb := bit_both those (a := p) (b := i) (by omega) (by omega)
        by_cases c0 : bt those p = true ∧ bt those i = true
        · rw [if_pos (bb.mpr c0), if_neg one_ne, (yR hs ha).1, Option.bind_some, wornC hs ha (by omega) hpt, Option.bind_some]
          dsimp only
          rw [(yR hs ha).1, Option.bind_some, wornC hs ha (by omega) hpt, Option.bind_some]
          dsimp only
          rw [← (Y.worn (p := p) (i := part) (by omega) hpt).1, ← (Y.worn (p := i) (i := part) (by omega) hpt).1]
          by_cases c1 : m (20 + 4 * p + part) = m (20 + 4 * i + part)
          · rw [if_pos c1, if_pos ⟨c0.1, c0.2, c1⟩, Option.bind_some, Option.bind_some]
          · rw [if_neg c1, if_neg (fun z => c1 z.2.2), Option.bind_some, Option.bind_some]
        · rw [if_neg (fun z => c0 (bb.mp z)), if_pos rfl, if_neg (fun z => c0 ⟨z.1, z.2.1⟩), Option.bind_some, Option.bind_some])
      0 (by omega)
    exact lp
theorem m_most (hs : Sh g) {n : Nat} (e8 : aI g 83 0 = Int32.ofNat n) (hn : n ≤ 6) (those : Int32) {part : Nat} (hpt : part < 4) : D_X11_mostAlike g (some 81) those (Int32.ofNat part) = some (mostV (aI g 83) n those part, g) := by
  have i0 : z_aI .int g (some 83) 0 = some (Int32.ofNat n) := by
    have := m83 (i := 0) hs (by decide)
    rw [e8] at this
    exact this
  have dis : ∀ c, c < 31 → D_X11_is g those (Int32.ofNat c) = some (if bt those c = true then 1 else 0, g) := fun c hc => by
    unfold D_X11_is
    have := bit_is those hc
    by_cases q : bt those c = true
    · rw [if_pos (this.mpr q), if_pos q]
    · rw [if_neg (fun z => q (this.mp z)), if_neg q]
  unfold D_X11_mostAlike
  refine loop_fold (F := fun k s i => D_X11_mostAlike_5 k g (some 81) those (Int32.ofNat part) s (Int32.ofNat i)) (G := fun s => some (s, g)) (N := n) (mostO (aI g 83) n those part) (fun k s => ?_) (fun k s p hp => ?_) 0 (by omega)
  · show D_X11_mostAlike_5b _ g (some 81) those (Int32.ofNat part) s (Int32.ofNat n) = _
    unfold D_X11_mostAlike_5b
    rw [s_gQ (r := 83) hs rfl rfl, Option.bind_some, i0, Option.bind_some, if_pos ((nat_le (by omega) (by omega)).mpr (by omega))]
  · show D_X11_mostAlike_5b (D_X11_mostAlike_5 k) g (some 81) those (Int32.ofNat part) s (Int32.ofNat p) = _
    unfold D_X11_mostAlike_5b
    rw [s_gQ (r := 83) hs rfl rfl, Option.bind_some, i0, Option.bind_some, if_neg (show ¬ Int32.ofNat n ≤ Int32.ofNat p from fun z => by have := (nat_le (by omega) (by omega)).mp z; omega)]
    have lp := loop_fold (F := fun k' c i => D_X11_mostAlike_22 (D_X11_mostAlike_5 k) k' g (some 81) those (Int32.ofNat part) s (Int32.ofNat p) c (Int32.ofNat i)) (G := fun c => D_X11_mostAlike_5 k g (some 81) those (Int32.ofNat part) (if s < c then c else s) (Int32.ofNat (p + 1))) (N := n) (alikI (aI g 83) those part p)
      (fun k' c => by
        show D_X11_mostAlike_22b (D_X11_mostAlike_5 k) _ g (some 81) those (Int32.ofNat part) s (Int32.ofNat p) c (Int32.ofNat n) = _
        unfold D_X11_mostAlike_22b D_X11_mostAlike_96
        rw [s_gQ (r := 83) hs rfl rfl, Option.bind_some, i0, Option.bind_some, if_pos ((nat_le (by omega) (by omega)).mpr (by omega)), show Int32.ofNat p + 1 = Int32.ofNat (p + 1) from sc_add p 1]
        by_cases q : c ≤ s
        · rw [if_pos q, if_neg (fun z => by rw [Int32.lt_iff_toInt_lt] at z; rw [Int32.le_iff_toInt_le] at q; omega), Option.bind_some]
        · rw [if_neg q, if_pos (by rw [Int32.lt_iff_toInt_lt]; rw [Int32.le_iff_toInt_le] at q; omega), Option.bind_some])
      (fun k' c i hi => by
        show D_X11_mostAlike_22b (D_X11_mostAlike_5 k) (D_X11_mostAlike_22 (D_X11_mostAlike_5 k) k') g (some 81) those (Int32.ofNat part) s (Int32.ofNat p) c (Int32.ofNat i) = _
        unfold D_X11_mostAlike_22b D_X11_mostAlike_74 D_X11_mostAlike_75 alikI
        rw [s_gQ (r := 83) hs rfl rfl, Option.bind_some, i0, Option.bind_some, if_neg (show ¬ Int32.ofNat n ≤ Int32.ofNat i from fun z => by have := (nat_le (by omega) (by omega)).mp z; omega), show Int32.ofNat i + 1 = Int32.ofNat (i + 1) from sc_add i 1, dis p (by omega), Option.bind_some]
        dsimp only
        by_cases b1 : bt those p = true
        · rw [if_pos b1, if_neg one_ne, dis i (by omega), Option.bind_some]
          dsimp only
          by_cases b2 : bt those i = true
          · rw [if_pos b2, if_neg one_ne, s_ob hs (ci := 11) rfl, Option.bind_some, wornM hs (by omega) hpt, Option.bind_some]
            dsimp only
            rw [s_ob hs (ci := 11) rfl, Option.bind_some, wornM hs (by omega) hpt, Option.bind_some]
            dsimp only
            by_cases c1 : aI g 83 (20 + 4 * p + part) = aI g 83 (20 + 4 * i + part)
            · rw [if_pos c1, if_pos ⟨b1, b2, c1⟩, Option.bind_some, Option.bind_some]
            · rw [if_neg c1, if_neg (fun z => c1 z.2.2), Option.bind_some, Option.bind_some]
          · rw [if_neg b2, if_pos rfl, if_neg (fun z => b2 z.2.1), Option.bind_some, Option.bind_some]
        · rw [if_neg b1, if_pos rfl, if_neg (fun z => b1 z.1), Option.bind_some, Option.bind_some])
      0 (by omega)
    exact lp
theorem most_nb {n : Nat} (hn : n ≤ 6) (those : Int32) (part : Nat) : ∃ d, d ≤ 6 ∧ mostV m n those part = Int32.ofNat d := by
  have ak : ∀ one, ∃ d, d ≤ n ∧ foldN (alikI m those part one) n 0 = Int32.ofNat d := fun one => by
    refine fold_inv (f := alikI m those part one) (s := (0 : Int32)) (fun i s => ∃ d, d ≤ i ∧ s = Int32.ofNat d) ⟨0, by omega, rfl⟩ n (fun i s hi ⟨d, hd, e⟩ => ?_)
    unfold alikI
    split
    · exact ⟨d + 1, by omega, by rw [e]; exact sc_add d 1⟩
    · exact ⟨d, by omega, by rw [e]; exact sc_add d 0⟩
  obtain ⟨d, hd, e⟩ := fold_inv (f := mostO m n those part) (s := (0 : Int32)) (fun i s => ∃ d, d ≤ n ∧ s = Int32.ofNat d) ⟨0, by omega, rfl⟩ n (fun i s hi I => by
    unfold mostO
    split
    · exact ak i
    · exact I)
  exact ⟨d, by omega, e⟩
/-- the part to look at: least so far, and which -/
def lookM (m : Nat → Int32) (n : Nat) (those : Int32) (i : Nat) (s : Int32 × Int32) : Int32 × Int32 := if s.1 ≤ mostV m n those i then s else (mostV m n those i, Int32.ofNat i)
theorem m_lookL (hs : Sh g) {n : Nat} (e8 : aI g 83 0 = Int32.ofNat n) (hn : n ≤ 6) (those what : Int32) : D_X11_look_36 z_F g (some 81) what those 100000000 (-1) 0 = some (if what = 0 then (foldN (lookM (aI g 83) n those) 4 (100000000, -1)).2 else (foldN (lookM (aI g 83) n those) 4 (100000000, -1)).1, g) := by
  refine loop_fold (F := fun k s i => D_X11_look_36 k g (some 81) what those s.1 s.2 (Int32.ofNat i)) (G := fun s => some (if what = 0 then s.2 else s.1, g)) (N := 4) (lookM (aI g 83) n those) (fun k s => ?_) (fun k s i hi => ?_) (100000000, -1) (by decide)
  · show D_X11_look_36b _ g (some 81) what those s.1 s.2 (Int32.ofNat 4) = _
    unfold D_X11_look_36b
    rw [if_pos (by decide)]
    by_cases c : what = 0
    · rw [if_pos c, if_pos c]
    · rw [if_neg c, if_neg c]
  · show D_X11_look_36b (D_X11_look_36 k) g (some 81) what those s.1 s.2 (Int32.ofNat i) = _
    unfold D_X11_look_36b D_X11_look_64 D_X11_look_78 lookM
    rw [if_neg (fun z => by have := (nat_le (a := 4) (b := i) (by decide) (by omega)).mp z; omega), s_ob hs (ci := 11) rfl, Option.bind_some, m_most hs e8 hn those hi, Option.bind_some, show Int32.ofNat i + 1 = Int32.ofNat (i + 1) from sc_add i 1]
    dsimp only
    by_cases c : s.1 ≤ mostV (aI g 83) n those i
    · simp only [if_pos c, Option.bind_some]
    · simp only [if_neg c, Option.bind_some]
theorem c_lookL (hs : Sh g) (Y : Yrel g 1 m) {n : Nat} (e8 : fI g 1 8 = Int32.ofNat n) (hn : n ≤ 6) {those : Int32} (ht : ¬ those = 0) (f4 : fI g 59 4 = -1) : ∃ g', Sh g' ∧ Tch [59] g g' ∧ fI g' 59 4 = (foldN (lookM m n those) 4 (100000000, -1)).2 ∧ fI g' 59 5 = (foldN (lookM m n those) 4 (100000000, -1)).1 ∧ D_X3_choosePart_13 z_F g (some 59) (some 1) those 0 = some (1, g') := by
  have lp := loop_up (β := Int32 × z_H) (S := z_H) (N := 4) (F := fun k g' i => D_X3_choosePart_13 k g' (some 59) (some 1) those (Int32.ofNat i)) (G := fun g' => some (1, g'))
    (I := fun i g' => Sh g' ∧ Tch [59] g g' ∧ fI g' 59 4 = (foldN (lookM m n those) i (100000000, -1)).2 ∧ ((i = 0 ∧ (foldN (lookM m n those) i (100000000, -1)) = (100000000, -1)) ∨ (0 < i ∧ fI g' 59 5 = (foldN (lookM m n those) i (100000000, -1)).1 ∧ ¬ (foldN (lookM m n those) i (100000000, -1)).2 = -1)))
    (fun k g' _ => by
      show D_X3_choosePart_13b _ g' (some 59) (some 1) those (Int32.ofNat 4) = _
      unfold D_X3_choosePart_13b D_X3_choosePart_64
      rw [if_pos (by decide), if_neg ht])
    (fun k g' i hi I => by
      obtain ⟨s', T', x4, xx⟩ := I
      have Y' := Yrel_T Y T' (isY_S (Or.inl rfl) (by decide)) (by decide)
      have e8' : fI g' 1 8 = Int32.ofNat n := by rw [cell_fI (T'.c (by decide))]; exact e8
      obtain ⟨d, hd, ed⟩ := most_nb (m := m) hn those i
      have s1 := Sh_wF s' (a := 59) (k := 4) rfl (Int32.ofNat i)
      have s2 := Sh_wF s1 (a := 59) (k := 5) rfl (mostV m n those i)
      have T2 : Tch [59] g (wF (wF g' 59 4 (.int (Int32.ofNat i))) 59 5 (.int (mostV m n those i))) := Tch_wF (Tch_wF T' (by decide) _ _) (by decide) _ _
      have w4 : fI (wF (wF g' 59 4 (.int (Int32.ofNat i))) 59 5 (.int (mostV m n those i))) 59 4 = Int32.ofNat i := by rw [fI_wF_ne (by decide), fI_wF_eq s' rfl]
      have w5 : fI (wF (wF g' 59 4 (.int (Int32.ofNat i))) 59 5 (.int (mostV m n those i))) 59 5 = mostV m n those i := fI_wF_eq s1 rfl _
      have st : D_X3_choosePart_13 (k + 1) g' (some 59) (some 1) those (Int32.ofNat i) = D_X3_choosePart_13b (D_X3_choosePart_13 k) g' (some 59) (some 1) those (Int32.ofNat i) := rfl
      have h47 : D_X3_choosePart_47 (D_X3_choosePart_13 k) g' (some 59) (some 1) those (Int32.ofNat i) (mostV m n those i) = D_X3_choosePart_13 k (wF (wF g' 59 4 (.int (Int32.ofNat i))) 59 5 (.int (mostV m n those i))) (some 59) (some 1) those (Int32.ofNat (i + 1)) := by
        unfold D_X3_choosePart_47 D_X3_choosePart_58
        rw [s_pV s' (ci := 3) rfl (by decide), Option.bind_some, s_pV s1 (ci := 3) rfl (by decide), Option.bind_some, Option.bind_some, show Int32.ofNat i + 1 = Int32.ofNat (i + 1) from sc_add i 1]
      have pre : D_X3_choosePart_13b (D_X3_choosePart_13 k) g' (some 59) (some 1) those (Int32.ofNat i) = (if fI g' 59 4 = -1 then D_X3_choosePart_47 (D_X3_choosePart_13 k) g' (some 59) (some 1) those (Int32.ofNat i) (mostV m n those i) else if fI g' 59 5 ≤ mostV m n those i then D_X3_choosePart_58 (D_X3_choosePart_13 k) g' (some 59) (some 1) those (Int32.ofNat i) else D_X3_choosePart_47 (D_X3_choosePart_13 k) g' (some 59) (some 1) those (Int32.ofNat i) (mostV m n those i)) := by
        unfold D_X3_choosePart_13b
        rw [if_neg (fun z => by have := (nat_le (a := 4) (b := i) (by decide) (by omega)).mp z; omega), if_neg ht, c_most s' Y' e8' hn those hi, Option.bind_some]
        dsimp only
        rw [s_gI s' (ci := 3) rfl rfl, Option.bind_some, s_gI s' (ci := 3) rfl rfl, Option.bind_some]
      have fs : foldN (lookM m n those) (i + 1) (100000000, -1) = lookM m n those i (foldN (lookM m n those) i (100000000, -1)) := rfl
      rw [st, pre, fs]
      rcases xx with ⟨z, z2⟩ | ⟨z, z5, z2⟩
      · rw [z2] at x4 ⊢
        have lk : lookM m n those i (100000000, -1) = (mostV m n those i, Int32.ofNat i) := by
          unfold lookM
          rw [if_neg (by dsimp only; rw [ed]; exact fun z => by have := (nat_le (a := 100000000) (b := d) (by decide) (by omega)).mp z; omega)]
        rw [lk, if_pos x4, h47]
        exact ⟨_, ⟨s2, T2, w4, Or.inr ⟨by omega, w5, of_nm1 (by omega)⟩⟩, rfl⟩
      · have lk : lookM m n those i (foldN (lookM m n those) i (100000000, -1)) = if (foldN (lookM m n those) i (100000000, -1)).1 ≤ mostV m n those i then foldN (lookM m n those) i (100000000, -1) else (mostV m n those i, Int32.ofNat i) := rfl
        rw [if_neg (by rw [x4]; exact z2), z5, lk]
        by_cases c : (foldN (lookM m n those) i (100000000, -1)).1 ≤ mostV m n those i
        · rw [if_pos c, if_pos c]
          refine ⟨g', ⟨s', T', x4, Or.inr ⟨by omega, z5, z2⟩⟩, ?_⟩
          unfold D_X3_choosePart_58
          rw [Option.bind_some, show Int32.ofNat i + 1 = Int32.ofNat (i + 1) from sc_add i 1]
        · rw [if_neg c, if_neg c, h47]
          exact ⟨_, ⟨s2, T2, w4, Or.inr ⟨by omega, w5, of_nm1 (by omega)⟩⟩, rfl⟩)
    4 0 z_F g (by decide) (by decide) (by decide) ⟨hs, Tch_rfl _ g, f4, Or.inl ⟨rfl, rfl⟩⟩
  obtain ⟨g', ⟨s', T', x4, xx⟩, e⟩ := lp
  rcases xx with ⟨z, -⟩ | ⟨-, z5, -⟩
  · omega
  · exact ⟨g', s', T', x4, z5, e⟩
theorem a_look (H : Inv j h) (x : Int32) : Agree Inv j h (fun h => D_X10_look h (some 0) x) (fun h => D_X11_look h (some 81) x) := by
  have hs := H.1
  have st := Sh_t0 hs
  obtain ⟨n, hn, e1, e2⟩ := H.np
  obtain ⟨ns, hns, e10, e10'⟩ := H.sights
  have c83 : aI (t0 h) 83 = aI h 83 := aI_wF _ _ _ _
  have cd := c_cand hs H.Y e1 hn e10 hns (some 59)
  have mB : ∀ g, Sh g → aI g 83 = aI h 83 → D_X11_thatCanBe g (some 81) = some (candV (aI h 83) n ns, g) := fun g hg c => by
    rw [m_cand hg (H.seen c) (by rw [c]; exact e2) hn (by rw [c]; exact e10') hns, c]
  rcases xc x 2 (by decide) with ⟨k, hk, rfl⟩ | nx
  · have hA : D_X10_look h (some 0) (Int32.ofNat k) = (D_X3_choosePart h (some 59) (some 1)).bind fun p1325 => if p1325.1 = 0 then some ((-1:Int32), p1325.2) else if Int32.ofNat k = 0 then (z_gQ 10 p1325.2 (some 0) 11).bind fun x1331 => (z_gI 3 p1325.2 x1331 4).bind fun x1332 => some (x1332, p1325.2) else (z_gQ 10 p1325.2 (some 0) 11).bind fun x1329 => (z_gI 3 p1325.2 x1329 5).bind fun x1330 => some (x1330, p1325.2) := by
      unfold D_X10_look
      rw [if_neg (not_neg (by omega)), if_neg (fun z => by have := (nat_lt (a := 1) (b := k) (by decide) (by omega)).mp z; omega), s_gQ (r := 59) hs rfl rfl, Option.bind_some, s_gQ (r := 1) hs rfl rfl, Option.bind_some, s_ob hs (ci := 3) rfl, Option.bind_some]
    have s1 := Sh_wF hs (a := 59) (k := 4) rfl (-1)
    have T1 : Tch [59] h (wF h 59 4 (.int (-1))) := Tch_wF (Tch_rfl _ h) (by decide) _ _
    have f4 : fI (wF h 59 4 (.int (-1))) 59 4 = -1 := fI_wF_eq hs rfl _
    have hC : D_X3_choosePart h (some 59) (some 1) = D_X3_choosePart_13 z_F (wF h 59 4 (.int (-1))) (some 59) (some 1) (candV (aI h 83) n ns) 0 := by
      unfold D_X3_choosePart
      rw [s_ob hs (ci := 3) rfl, Option.bind_some, cd, Option.bind_some]
      dsimp only
      rw [s_pV hs (ci := 3) rfl (by decide), Option.bind_some]
    by_cases c0 : candV (aI h 83) n ns = 0
    · have d13 : D_X3_choosePart_13 z_F (wF h 59 4 (.int (-1))) (some 59) (some 1) (candV (aI h 83) n ns) 0 = some (0, wF h 59 4 (.int (-1))) := by
        obtain ⟨k', hk'⟩ : ∃ k', z_F = k' + 1 := ⟨999999, rfl⟩
        rw [hk']
        show D_X3_choosePart_13b (D_X3_choosePart_13 k') (wF h 59 4 (.int (-1))) (some 59) (some 1) (candV (aI h 83) n ns) 0 = _
        unfold D_X3_choosePart_13b D_X3_choosePart_64
        rw [if_neg (by decide), if_pos c0, if_pos c0]
      generalize wF h 59 4 (.int (-1)) = g1 at *
      have st1 := Sh_t0 s1
      have c1 : aI (t0 g1) 83 = aI h 83 := by rw [aI_wF]; exact cell_aI (T1.c (by decide))
      refine agree_q H (x := -1) (h1 := g1) (h2 := t0 g1) ?_ (Same_T T1 s1 (by decide)) ?_ (Same_t0 s1)
      · show D_X10_look h (some 0) (Int32.ofNat k) = _
        rw [hA, hC, d13, Option.bind_some]
        dsimp only
        rw [if_pos rfl]
      · show D_X11_look g1 (some 81) (Int32.ofNat k) = _
        unfold D_X11_look
        rw [p81 s1, Option.bind_some, s_ob st1 (ci := 11) rfl, Option.bind_some, mB _ st1 c1, Option.bind_some]
        dsimp only
        rw [din1 (C := 1) (N := 1) rfl (by omega) _ (by decide), Option.bind_some]
        dsimp only
        rw [if_neg one_ne, if_pos c0]
    · have Y1 := Yrel_T H.Y T1 (isY_S (Or.inl rfl) (by decide)) (by decide)
      obtain ⟨g1, s1', T1', x4, x5, d13⟩ := c_lookL s1 Y1 (by rw [cell_fI (T1.c (by decide))]; exact e1) hn c0 f4
      have T1 := T1.trans T1'
      have st1 := Sh_t0 s1'
      have c1 : aI (t0 g1) 83 = aI h 83 := by rw [aI_wF]; exact cell_aI (T1.c (by decide))
      have ml := m_lookL st1 (n := n) (by rw [c1]; exact e2) hn (candV (aI h 83) n ns) (Int32.ofNat k)
      rw [c1] at ml
      refine agree_q H (x := if Int32.ofNat k = 0 then (foldN (lookM (aI h 83) n (candV (aI h 83) n ns)) 4 (100000000, -1)).2 else (foldN (lookM (aI h 83) n (candV (aI h 83) n ns)) 4 (100000000, -1)).1) (h1 := g1) (h2 := t0 g1) ?_ (Same_T T1 s1' (by decide)) ?_ (Same_t0 s1')
      · show D_X10_look h (some 0) (Int32.ofNat k) = _
        rw [hA, hC, d13, Option.bind_some]
        dsimp only
        rw [if_neg one_ne, s_gQ (r := 59) s1' rfl rfl, Option.bind_some, Option.bind_some, s_gI s1' (ci := 3) rfl rfl, Option.bind_some, s_gI s1' (ci := 3) rfl rfl, Option.bind_some, x4, x5]
        by_cases q : Int32.ofNat k = 0
        · rw [if_pos q, if_pos q]
        · rw [if_neg q, if_neg q]
      · show D_X11_look g1 (some 81) (Int32.ofNat k) = _
        unfold D_X11_look
        rw [p81 s1', Option.bind_some, s_ob st1 (ci := 11) rfl, Option.bind_some, mB _ st1 c1, Option.bind_some]
        dsimp only
        rw [din1 (C := 1) (N := 1) rfl (by omega) _ (by decide), Option.bind_some]
        dsimp only
        rw [if_neg one_ne, if_neg c0, ml]
  · refine none_q H (x := -1) ?_ ?_
    · show D_X10_look h (some 0) x = _
      unfold D_X10_look
      by_cases c1 : x < 0
      · rw [if_pos c1]
      · rw [if_neg c1]
        rw [lt0] at c1
        rw [if_pos (by rw [Int32.lt_iff_toInt_lt]; show (1 : Int) < x.toInt; omega)]
    · show D_X11_look h (some 81) x = _
      unfold D_X11_look
      rw [p81 hs, Option.bind_some, s_ob st (ci := 11) rfl, Option.bind_some, mB _ st c83, Option.bind_some]
      dsimp only
      rw [din0 (C := 1) (N := 1) rfl nx, Option.bind_some]
      dsimp only
      rw [if_pos rfl]
end LO
