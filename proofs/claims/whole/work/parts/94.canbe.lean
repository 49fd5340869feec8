/-! which pair it can be; at which part to look -/
def candI (m : Nat → Int32) (p i : Nat) (ok : Int32) : Int32 := if ok = 0 then 0 else if m (20 + 4 * p + tn (m (50 + 2 * i))) = m (51 + 2 * i) then 1 else 0
def candO (m : Nat → Int32) (ns p : Nat) (s : Int32) : Int32 := s ||| (if foldN (candI m p) ns 1 = 0 then 0 else (1 : Int32) <<< (Int32.ofNat p &&& 31))
def candV (m : Nat → Int32) (n ns : Nat) : Int32 := foldN (candO m ns) n 0
def alikI (m : Nat → Int32) (those : Int32) (part one other : Nat) (s : Int32) : Int32 := s + (if bt those one = true ∧ bt those other = true ∧ m (20 + 4 * one + part) = m (20 + 4 * other + part) then 1 else 0)
def mostO (m : Nat → Int32) (n : Nat) (those : Int32) (part one : Nat) (s : Int32) : Int32 := if s < foldN (alikI m those part one) n 0 then foldN (alikI m those part one) n 0 else s
def mostV (m : Nat → Int32) (n : Nat) (those : Int32) (part : Nat) : Int32 := foldN (mostO m n those part) n 0
section CB1
variable {g : z_H} {m : Nat → Int32} {j : Nat} {h : z_H}
theorem seen_of (Y : Yrel g 1 m) {i : Nat} (hi : i < 6) : ∃ q, q < 4 ∧ m (50 + 2 * i) = Int32.ofNat q ∧ aI g 7 i = Int32.ofNat q ∧ aI g 8 i = m (51 + 2 * i) ∧ tn (m (50 + 2 * i)) = q := by
  obtain ⟨-, -, -, z4, z5⟩ := Y.2.1.2.2.2.2.2.1 i hi
  obtain ⟨-, -, -, ⟨q, e, hq⟩, -⟩ := Y.1.2.2.2.2.2.1 i hi
  exact ⟨q, by omega, by rw [z4]; exact e, e, z5.symm, by rw [z4]; rw [show aI g (1 + 6) i = aI g 7 i from rfl] at *; rw [show aI g 7 i = Int32.ofNat q from e]; exact tn_of (by omega)⟩
theorem c_cand (hs : Sh g) (Y : Yrel g 1 m) {n ns : Nat} (e8 : fI g 1 8 = Int32.ofNat n) (hn : n ≤ 6) (e10 : fI g 1 10 = Int32.ofNat ns) (hns : ns ≤ 6) (l0 : Option Nat) : D_X3_candidates g l0 (some 1) = some (candV m n ns, g) := by
  have ha : isY 1 := Or.inl rfl
  unfold D_X3_candidates
  refine loop_fold (F := fun k s i => D_X3_candidates_4 k g (some 1) s (Int32.ofNat i)) (G := fun s => some (s, g)) (N := n) (candO m ns) (fun k s => ?_) (fun k s p hp => ?_) 0 (by omega)
  · show D_X3_candidates_4b _ g (some 1) s (Int32.ofNat n) = _
    unfold D_X3_candidates_4b
    rw [(yR hs ha).2.2.2.2.2.2.2.1, Option.bind_some, if_pos (by rw [e8]; exact (nat_le (by omega) (by omega)).mpr (by omega))]
  · show D_X3_candidates_4b (D_X3_candidates_4 k) g (some 1) s (Int32.ofNat p) = _
    unfold D_X3_candidates_4b
    rw [(yR hs ha).2.2.2.2.2.2.2.1, Option.bind_some, if_neg (show ¬ fI g 1 8 ≤ Int32.ofNat p from fun z => by rw [e8] at z; have := (nat_le (by omega) (by omega)).mp z; omega)]
    have g10 : z_gI 9 g (some 1) 10 = some (Int32.ofNat ns) := by rw [s_gI hs (ci := 9) rfl rfl, e10]
    have lp := loop_fold (F := fun k' c i => D_X3_candidates_18 (D_X3_candidates_4 k) k' g (some 1) s (Int32.ofNat p) c (Int32.ofNat i)) (G := fun c => D_X3_candidates_4 k g (some 1) (s ||| (if c = 0 then 0 else (1 : Int32) <<< (Int32.ofNat p &&& 31))) (Int32.ofNat (p + 1))) (N := ns) (candI m p)
      (fun k' c => by
        show D_X3_candidates_18b (D_X3_candidates_4 k) _ g (some 1) s (Int32.ofNat p) c (Int32.ofNat ns) = _
        unfold D_X3_candidates_18b D_X3_candidates_80
        rw [g10, Option.bind_some, if_pos ((nat_le (by omega) (by omega)).mpr (by omega)), show Int32.ofNat p + 1 = Int32.ofNat (p + 1) from sc_add p 1]
        by_cases c0 : c = 0
        · rw [if_pos c0, if_pos c0, Option.bind_some, Option.bind_some]
        · rw [if_neg c0, if_neg c0, Option.bind_some, Option.bind_some])
      (fun k' c i hi => by
        show D_X3_candidates_18b (D_X3_candidates_4 k) (D_X3_candidates_18 (D_X3_candidates_4 k) k') g (some 1) s (Int32.ofNat p) c (Int32.ofNat i) = _
        obtain ⟨q, hq, s1, s2, s3, s4⟩ := seen_of Y (i := i) (by omega)
        have r7 : z_aI .int g (some 7) (Int32.ofNat i) = some (Int32.ofNat q) := by rw [s_aI (n := 6) hs (Or.inl rfl) rfl, iR_ofNat (by omega) (by decide), s2]
        have r8 : z_aI .int g (some 8) (Int32.ofNat i) = some (m (51 + 2 * i)) := by rw [s_aI (n := 6) hs (Or.inl rfl) rfl, iR_ofNat (by omega) (by decide), s3]
        unfold D_X3_candidates_18b D_X3_candidates_58 D_X3_candidates_59 candI
        rw [g10, Option.bind_some, if_neg (show ¬ Int32.ofNat ns ≤ Int32.ofNat i from fun z => by have := (nat_le (by omega) (by omega)).mp z; omega), show Int32.ofNat i + 1 = Int32.ofNat (i + 1) from sc_add i 1, s4]
        by_cases c0 : c = 0
        · rw [if_pos c0, if_pos c0, Option.bind_some]
        · rw [if_neg c0, if_neg c0, s_gQ (r := 7) hs rfl rfl, Option.bind_some, r7, Option.bind_some, (yR hs ha).1, Option.bind_some, wornC hs ha (by omega) hq, Option.bind_some]
          dsimp only
          rw [s_gQ (r := 8) hs rfl rfl, Option.bind_some, r8, Option.bind_some, ← (Y.worn (p := p) (i := q) (by omega) hq).1]
          by_cases c1 : m (20 + 4 * p + q) = m (51 + 2 * i)
          · rw [if_pos c1, if_pos c1, Option.bind_some]
          · rw [if_neg c1, if_neg c1, Option.bind_some])
      1 (by omega)
    exact lp
theorem m_cand (hs : Sh g) (Y : ∀ i, i < 6 → ∃ q, q < 4 ∧ aI g 83 (50 + 2 * i) = Int32.ofNat q ∧ tn (aI g 83 (50 + 2 * i)) = q) {n ns : Nat} (e8 : aI g 83 0 = Int32.ofNat n) (hn : n ≤ 6) (e10 : aI g 83 1 = Int32.ofNat ns) (hns : ns ≤ 6) : D_X11_thatCanBe g (some 81) = some (candV (aI g 83) n ns, g) := by
  have i0 : z_aI .int g (some 83) 0 = some (Int32.ofNat n) := by
    have := m83 (i := 0) hs (by decide)
    rw [e8] at this
    exact this
  have i1 : z_aI .int g (some 83) 1 = some (Int32.ofNat ns) := by
    have := m83 (i := 1) hs (by decide)
    rw [e10] at this
    exact this
  unfold D_X11_thatCanBe
  refine loop_fold (F := fun k s i => D_X11_thatCanBe_4 k g (some 81) s (Int32.ofNat i)) (G := fun s => some (s, g)) (N := n) (candO (aI g 83) ns) (fun k s => ?_) (fun k s p hp => ?_) 0 (by omega)
  · show D_X11_thatCanBe_4b _ g (some 81) s (Int32.ofNat n) = _
    unfold D_X11_thatCanBe_4b
    rw [s_gQ (r := 83) hs rfl rfl, Option.bind_some, i0, Option.bind_some, if_pos ((nat_le (by omega) (by omega)).mpr (by omega))]
  · show D_X11_thatCanBe_4b (D_X11_thatCanBe_4 k) g (some 81) s (Int32.ofNat p) = _
    unfold D_X11_thatCanBe_4b
    rw [s_gQ (r := 83) hs rfl rfl, Option.bind_some, i0, Option.bind_some, if_neg (show ¬ Int32.ofNat n ≤ Int32.ofNat p from fun z => by have := (nat_le (by omega) (by omega)).mp z; omega)]
    have lp := loop_fold (F := fun k' c i => D_X11_thatCanBe_19 (D_X11_thatCanBe_4 k) k' g (some 81) s (Int32.ofNat p) c (Int32.ofNat i)) (G := fun c => D_X11_thatCanBe_4 k g (some 81) (s ||| (if c = 0 then 0 else (1 : Int32) <<< (Int32.ofNat p &&& 31))) (Int32.ofNat (p + 1))) (N := ns) (candI (aI g 83) p)
      (fun k' c => by
        show D_X11_thatCanBe_19b (D_X11_thatCanBe_4 k) _ g (some 81) s (Int32.ofNat p) c (Int32.ofNat ns) = _
        unfold D_X11_thatCanBe_19b D_X11_thatCanBe_92
        rw [s_gQ (r := 83) hs rfl rfl, Option.bind_some, i1, Option.bind_some, if_pos ((nat_le (by omega) (by omega)).mpr (by omega)), show Int32.ofNat p + 1 = Int32.ofNat (p + 1) from sc_add p 1]
        by_cases c0 : c = 0
        · rw [if_pos c0, if_pos c0, Option.bind_some, Option.bind_some]
        · rw [if_neg c0, if_neg c0, Option.bind_some, Option.bind_some])
      (fun k' c i hi => by
        show D_X11_thatCanBe_19b (D_X11_thatCanBe_4 k) (D_X11_thatCanBe_19 (D_X11_thatCanBe_4 k) k') g (some 81) s (Int32.ofNat p) c (Int32.ofNat i) = _
        obtain ⟨q, hq, s1, s4⟩ := Y i (by omega)
        have x50 : (50 : Int32) + 2 * Int32.ofNat i = Int32.ofNat (50 + 2 * i) := by rw [show (50 : Int32) = Int32.ofNat 50 from rfl, show (2 : Int32) = Int32.ofNat 2 from rfl, sc_mul, sc_add]
        have x51 : Int32.ofNat (50 + 2 * i) + 1 = Int32.ofNat (51 + 2 * i) := by rw [show (1 : Int32) = Int32.ofNat 1 from rfl, sc_add]; congr 1; omega
        unfold D_X11_thatCanBe_19b D_X11_thatCanBe_72 D_X11_thatCanBe_73 candI
        rw [s_gQ (r := 83) hs rfl rfl, Option.bind_some, i1, Option.bind_some, if_neg (show ¬ Int32.ofNat ns ≤ Int32.ofNat i from fun z => by have := (nat_le (by omega) (by omega)).mp z; omega), show Int32.ofNat i + 1 = Int32.ofNat (i + 1) from sc_add i 1, s4]
        by_cases c0 : c = 0
        · rw [if_pos c0, if_pos c0, Option.bind_some]
        · rw [if_neg c0, if_neg c0, Option.bind_some, x50, m83 hs (by omega), Option.bind_some, s1, s_ob hs (ci := 11) rfl, Option.bind_some, wornM hs (by omega) hq, Option.bind_some]
          dsimp only
          rw [s_gQ (r := 83) hs rfl rfl, Option.bind_some, x51, m83 hs (by omega), Option.bind_some]
          by_cases c1 : aI g 83 (20 + 4 * p + q) = aI g 83 (51 + 2 * i)
          · rw [if_pos c1, if_pos c1, Option.bind_some]
          · rw [if_neg c1, if_neg c1, Option.bind_some])
      1 (by omega)
    exact lp
theorem Inv.sights (H : Inv j h) : ∃ ns, ns ≤ 6 ∧ fI h 1 10 = Int32.ofNat ns ∧ aI h 83 1 = Int32.ofNat ns := by
  obtain ⟨ns, e, hn⟩ := H.Y.1.2.2.1
  exact ⟨ns, hn, e, by rw [H.Y.2.1.2.2.1, e]⟩
theorem Inv.seen (H : Inv j h) {g : z_H} (e : aI g 83 = aI h 83) : ∀ i, i < 6 → ∃ q, q < 4 ∧ aI g 83 (50 + 2 * i) = Int32.ofNat q ∧ tn (aI g 83 (50 + 2 * i)) = q := fun i hi => by
  obtain ⟨q, hq, s1, -, -, s4⟩ := seen_of H.Y hi
  rw [e]
  exact ⟨q, hq, s1, s4⟩
theorem a_canBe (H : Inv j h) : Agree Inv j h (fun h => D_X10_canBe h (some 0)) (fun h => D_X11_canBe h (some 81)) := by
  have hs := H.1
  have st := Sh_t0 hs
  obtain ⟨n, hn, e1, e2⟩ := H.np
  obtain ⟨ns, hns, e10, e10'⟩ := H.sights
  have c83 : aI (t0 h) 83 = aI h 83 := aI_wF _ _ _ _
  refine none_q H (x := candV (aI h 83) n ns) ?_ ?_
  · show D_X10_canBe h (some 0) = _
    unfold D_X10_canBe
    rw [s_gQ (r := 59) hs rfl rfl, Option.bind_some, s_gQ (r := 1) hs rfl rfl, Option.bind_some, s_ob hs (ci := 3) rfl, Option.bind_some, c_cand hs H.Y e1 hn e10 hns, Option.bind_some]
  · show D_X11_canBe h (some 81) = _
    unfold D_X11_canBe
    rw [p81 hs, Option.bind_some, s_ob st (ci := 11) rfl, Option.bind_some, m_cand st (H.seen c83) (by rw [c83]; exact e2) hn (by rw [c83]; exact e10') hns, Option.bind_some, c83]
end CB1
