/-! orders: the words, in both -/
section H4
variable {g h : z_H} {m : Nat → Int32}
def oW (m : Nat → Int32) (dn : Nat) (la : Int32) (k : Nat) : Int32 := if k = 0 then m 5 else if k = 1 then Int32.ofNat dn else if k = 2 then la else if k = 3 then m 0 else if k = 4 then Int32.ofNat (popN (tn (m 4))) else if k < 11 then (if k - 5 < tn (m 0) then m (8 + (k - 5)) else -1) else if k < 17 then (if k - 11 < tn (m 0) then m (20 + 4 * (k - 11)) else -1) else (if k - 17 < tn (m 0) then m (20 + 4 * (k - 17) + 1) else -1)
theorem c_setOW (hs : Sh g) (Y : Yrel g 1 m) {dn : Nat} {la : Int32} (ed : fI g 34 4 = Int32.ofNat dn) (el : fI g 34 5 = la) : ∃ g', Sh g' ∧ Tch [30] g g' ∧ (∀ k, k < 23 → aI g' 30 k = oW m dn la k) ∧ D_X2_setOrderWords g (some 34) (some 1) = some g' := by
  obtain ⟨n, e1, hn⟩ := Y.1.1
  have ha : isY 1 := Or.inl rfl
  have S : ∀ w, Sh (wA g 30 w) := fun w => Sh_wA hs rfl w
  have r30 : ∀ w, aI (wA g 30 w) 30 = w := fun w => aI_wA_eq hs rfl w
  have ra : ∀ w a, a ≠ 30 → aI (wA g 30 w) a = aI g a := fun w a z => aI_wA_ne z
  have rf : ∀ w a k, fI (wA g 30 w) a k = fI g a k := fun w a k => fI_wA _ _ _ _
  have wr : ∀ w i x, i < 23 → z_sI (wA g 30 w) (some 30) (Int32.ofNat i) x = some (wA g 30 (upd w i x)) := fun w i x z => by
    rw [aW (S w) (n := 23) rfl z (by decide), r30, wA_wA]
  have wr0 : ∀ i x, i < 23 → z_sI g (some 30) (Int32.ofNat i) x = some (wA g 30 (upd (aI g 30) i x)) := fun i x z => aW hs (n := 23) rfl z (by decide) x
  obtain ⟨W, eW, hW⟩ := Y.1.2.1
  have tn0 : tn (m 0) = n := by rw [Y.2.1.1, e1]; exact tn_of (by omega)
  have tn4 : tn (m 4) = W := by rw [Y.2.1.2.1, eW]; exact tn_of (by omega)
  have e5 : aI g 6 0 = m 5 := (Y.2.1.2.2.2.2.2.2.2 0 (by decide)).symm
  have e0 : fI g 1 8 = m 0 := Y.2.1.1.symm
  have bc := fun x => d_bitCount x (w := W) (by omega)
  have cell : ∀ p, p < 6 → aI g 2 p = m (8 + p) := fun p hp => ((Y.2.1.2.2.2.2.2.1 p hp).1).symm
  have worn : ∀ i, i < 24 → aI g 5 i = m (20 + i) := fun i hi => (Y.2.1.2.2.2.2.2.2.1 i hi).symm
  have lp := loop_up (S := Nat → Int32) (I := fun i w => (∀ k, k < 5 → w k = oW m dn la k) ∧ ∀ p, p < i → w (5 + p) = oW m dn la (5 + p) ∧ w (11 + p) = oW m dn la (11 + p) ∧ w (17 + p) = oW m dn la (17 + p)) (F := fun f w i => D_X2_setOrderWords_50 f (wA g 30 w) (some 1) (some 30) (Int32.ofNat i)) (G := fun w => some (wA g 30 w)) (N := 6) (fun f w _ => ?_) (fun f w i hi I => ?_) 6 0 z_F (upd (upd (upd (upd (upd (aI g 30) 0 (m 5)) 1 (Int32.ofNat dn)) 2 la) 3 (m 0)) 4 (Int32.ofNat (popN W))) (by decide) (by decide) (by show _ < 1000000; decide) ⟨fun k hk => ?_, fun p hp => by omega⟩
  · obtain ⟨w, ⟨i1, i2⟩, dd⟩ := lp
    refine ⟨wA g 30 w, S w, Tch_wA (Tch_rfl _ _) (by decide) _, fun k hk => ?_, ?_⟩
    · rw [r30]
      by_cases c1 : k < 5
      · exact i1 k c1
      · by_cases c2 : k < 11
        · have := (i2 (k - 5) (by omega)).1
          rw [show 5 + (k - 5) = k by omega] at this
          exact this
        · by_cases c3 : k < 17
          · have := (i2 (k - 11) (by omega)).2.1
            rw [show 11 + (k - 11) = k by omega] at this
            exact this
          · have := (i2 (k - 17) (by omega)).2.2
            rw [show 17 + (k - 17) = k by omega] at this
            exact this
    · unfold D_X2_setOrderWords
      rw [s_gQ (r := 29) hs rfl rfl, Option.bind_some, s_gQ (r := 30) hs rfl rfl, Option.bind_some, s_gQ (r := 6) hs rfl rfl, Option.bind_some, show (0 : Int32) = Int32.ofNat 0 from rfl, aR hs (n := 3) rfl (by decide) (by decide), e5, Option.bind_some, wr0 0 _ (by decide), Option.bind_some, s_gI (S _) (ci := 2) rfl rfl, Option.bind_some, rf, ed, show (1 : Int32) = Int32.ofNat 1 from rfl, wr _ 1 _ (by decide), Option.bind_some, s_gI (S _) (ci := 2) rfl rfl, Option.bind_some, rf, el, show (2 : Int32) = Int32.ofNat 2 from rfl, wr _ 2 _ (by decide), Option.bind_some, s_gI (S _) (ci := 9) rfl rfl, Option.bind_some, rf, e0, show (3 : Int32) = Int32.ofNat 3 from rfl, wr _ 3 _ (by decide), Option.bind_some, s_gI (S _) (ci := 9) rfl rfl, Option.bind_some, rf, eW, bc, Option.bind_some]
      dsimp only
      rw [show (4 : Int32) = Int32.ofNat 4 from rfl, wr _ 4 _ (by decide), Option.bind_some]
      exact dd
  · show D_X2_setOrderWords_50b _ (wA g 30 w) (some 1) (some 30) (Int32.ofNat 6) = _
    unfold D_X2_setOrderWords_50b
    rw [if_pos (by decide)]
  · show ∃ w', _ ∧ D_X2_setOrderWords_50b (D_X2_setOrderWords_50 f) (wA g 30 w) (some 1) (some 30) (Int32.ofNat i) = _
    obtain ⟨i1, i2⟩ := I
    have o5 : oW m dn la (5 + i) = if i < n then m (8 + i) else -1 := by
      unfold oW
      rw [if_neg (by omega), if_neg (by omega), if_neg (by omega), if_neg (by omega), if_neg (by omega), if_pos (by omega), show 5 + i - 5 = i by omega, tn0]
    have o11 : oW m dn la (11 + i) = if i < n then m (20 + 4 * i) else -1 := by
      unfold oW
      rw [if_neg (by omega), if_neg (by omega), if_neg (by omega), if_neg (by omega), if_neg (by omega), if_neg (by omega), if_pos (by omega), show 11 + i - 11 = i by omega, tn0]
    have o17 : oW m dn la (17 + i) = if i < n then m (20 + 4 * i + 1) else -1 := by
      unfold oW
      rw [if_neg (by omega), if_neg (by omega), if_neg (by omega), if_neg (by omega), if_neg (by omega), if_neg (by omega), if_neg (by omega), show 17 + i - 17 = i by omega, tn0]
    refine ⟨upd (upd (upd w (5 + i) (oW m dn la (5 + i))) (11 + i) (oW m dn la (11 + i))) (17 + i) (oW m dn la (17 + i)), ⟨fun k hk => by rw [upd_ne (by omega), upd_ne (by omega), upd_ne (by omega)]; exact i1 k hk, fun p hp => ?_⟩, ?_⟩
    · by_cases q : p = i
      · rw [q, upd_ne (by omega), upd_ne (by omega), upd_eq, upd_ne (by omega), upd_eq, upd_eq]
        exact ⟨rfl, rfl, rfl⟩
      · rw [upd_ne (by omega), upd_ne (by omega), upd_ne (by omega), upd_ne (by omega), upd_ne (by omega), upd_ne (by omega), upd_ne (by omega), upd_ne (by omega), upd_ne (by omega)]
        exact i2 p (by omega)
    · unfold D_X2_setOrderWords_50b
      rw [if_neg (show ¬ (6 : Int32) ≤ Int32.ofNat i from fun z => by have := (nat_le (a := 6) (by decide) (by omega)).mp z; omega), (yR (S w) ha).1, Option.bind_some, show (5 : Int32) + Int32.ofNat i = Int32.ofNat (5 + i) from sc_add 5 i]
      by_cases q : i < n
      · rw [if_pos q] at o5 o11 o17
        rw [hasP1 (S w) ha (by rw [rf]; exact e1) (by omega) q, Option.bind_some]
        dsimp only
        rw [if_neg one_ne, s_gQ (r := 2) (S w) rfl rfl, Option.bind_some, aR (S w) (n := 6) rfl hi (by decide), ra w 2 (by decide), cell i hi, Option.bind_some, ← o5]
        unfold D_X2_setOrderWords_82
        rw [wr _ _ _ (by omega), Option.bind_some, if_neg one_ne, (yR (S _) ha).1, Option.bind_some, show (0 : Int32) = Int32.ofNat 0 from rfl, wornC (S _) ha hi (by decide), Option.bind_some]
        dsimp only
        rw [ra _ 5 (by decide), worn (4 * i + 0) (by omega), show (11 : Int32) + Int32.ofNat i = Int32.ofNat (11 + i) from sc_add 11 i, show 20 + (4 * i + 0) = 20 + 4 * i by omega, ← o11]
        unfold D_X2_setOrderWords_103
        rw [wr _ _ _ (by omega), Option.bind_some, if_neg one_ne, (yR (S _) ha).1, Option.bind_some, show (1 : Int32) = Int32.ofNat 1 from rfl, wornC (S _) ha hi (by decide), Option.bind_some]
        dsimp only
        rw [ra _ 5 (by decide), worn (4 * i + 1) (by omega), show (17 : Int32) + Int32.ofNat i = Int32.ofNat (17 + i) from sc_add 17 i, show 20 + (4 * i + 1) = 20 + 4 * i + 1 by omega, ← o17]
        unfold D_X2_setOrderWords_124
        rw [wr _ _ _ (by omega), Option.bind_some, Option.bind_some, show Int32.ofNat i + 1 = Int32.ofNat (i + 1) from sc_add i 1]
      · rw [if_neg q] at o5 o11 o17
        rw [hasP0 (S w) ha (by rw [rf]; exact e1) (by omega) (by rw [of_int (by omega)]; omega), Option.bind_some]
        dsimp only
        rw [if_pos rfl, ← o5]
        unfold D_X2_setOrderWords_82
        rw [wr _ _ _ (by omega), Option.bind_some, if_pos rfl, show (11 : Int32) + Int32.ofNat i = Int32.ofNat (11 + i) from sc_add 11 i, o5, ← o11]
        unfold D_X2_setOrderWords_103
        rw [wr _ _ _ (by omega), Option.bind_some, if_pos rfl, show (17 : Int32) + Int32.ofNat i = Int32.ofNat (17 + i) from sc_add 17 i, o11, ← o17]
        unfold D_X2_setOrderWords_124
        rw [wr _ _ _ (by omega), Option.bind_some, Option.bind_some, show Int32.ofNat i + 1 = Int32.ofNat (i + 1) from sc_add i 1]
  · rcases (show k = 0 ∨ k = 1 ∨ k = 2 ∨ k = 3 ∨ k = 4 by omega) with r | r | r | r | r <;> subst r
    · rw [upd_ne (by decide), upd_ne (by decide), upd_ne (by decide), upd_ne (by decide), upd_eq]; rfl
    · rw [upd_ne (by decide), upd_ne (by decide), upd_ne (by decide), upd_eq]; rfl
    · rw [upd_ne (by decide), upd_ne (by decide), upd_eq]; rfl
    · rw [upd_ne (by decide), upd_eq]; rfl
    · rw [upd_eq]
      show _ = Int32.ofNat (popN (tn (m 4)))
      rw [tn4]
/-- the reference's words -/
theorem lf_ord {op ar K Ka : Nat → Int32} {n : Nat} {f : Nat → Nat} {dn : Nat} {la : Int32} (C : codeRel true op ar K Ka n f) (c83 : aI h 83 = m) (hw : ∀ k, k < 5 → aJ h 100 (k + 1) = (oW m dn la k).toInt64) {i : Nat} (hi : i < n) (e : op i = 1) : (oW m dn la (tn (ar i))).toInt64 = LfM h true (K (f i)) (Ka (f i)) := by
  have P := (C.2.2 i hi).1
  unfold posRel at P
  rw [e] at P
  rcases P with ⟨z, _⟩ | ⟨_, z, _⟩ | ⟨_, _, w, w5, a1, a2⟩ | ⟨_, _, w, p, w3, p6, a1, a2, a3⟩ | ⟨z, _⟩ | ⟨z, _⟩ | ⟨o, o5, o12, z, _⟩
  · exact absurd z (by decide)
  · cases z
  · unfold LfM
    rw [a1, a2, tn_of (by omega), tn_of (by omega), if_neg (show ¬ Int32.ofNat (w + 1) = 0 from fun y => by have := (eq_lit (b := 0) (by omega) (by decide)).mp y; omega), if_neg (by decide), if_pos (by omega), hw w w5]
  · unfold LfM
    rw [a1, a2, a3, tn_of (by omega), tn_of (by omega), tn_of (by omega), if_neg (show ¬ Int32.ofNat (6 + w) = 0 from fun y => by have := (eq_lit (b := 0) (by omega) (by decide)).mp y; omega), if_neg (by decide), if_neg (by omega), c83]
    unfold oW
    rw [if_neg (by omega), if_neg (by omega), if_neg (by omega), if_neg (by omega), if_neg (by omega)]
    rcases (show w = 0 ∨ w = 1 ∨ w = 2 by omega) with r | r | r <;> subst r
    · rw [if_pos (by omega), show 5 + 6 * 0 + p - 5 = p by omega]
      by_cases q : p < tn (m 0)
      · rw [if_pos q, if_pos q, if_pos (by decide)]
      · rw [if_neg q, if_neg q]; rfl
    · rw [if_neg (by omega), if_pos (by omega), show 5 + 6 * 1 + p - 11 = p by omega]
      by_cases q : p < tn (m 0)
      · rw [if_pos q, if_pos q, if_neg (by decide), show 20 + 4 * p + (6 + 1) - 7 = 20 + 4 * p by omega]
      · rw [if_neg q, if_neg q]; rfl
    · rw [if_neg (by omega), if_neg (by omega), show 5 + 6 * 2 + p - 17 = p by omega]
      by_cases q : p < tn (m 0)
      · rw [if_pos q, if_pos q, if_neg (by decide), show 20 + 4 * p + (6 + 2) - 7 = 20 + 4 * p + 1 by omega]
      · rw [if_neg q, if_neg q]; rfl
  · exact absurd z (by decide)
  · rcases z with ⟨z, _⟩ | ⟨z, _⟩ <;> exact absurd z (by decide)
  · exact absurd z (op_not (c := 1) o5 o12 (by decide))
end H4
