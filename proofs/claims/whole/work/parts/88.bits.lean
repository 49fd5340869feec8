/-! bits (the first family of the kit's laws/BITS.to-paste, pasted) -/
def bt (x : Int32) (i : Nat) : Bool := x.toBitVec.getLsbD i
theorem b_ext {x y : Int32} (h : ∀ i, i < 32 → bt x i = bt y i) : x = y := Int32.toBitVec_inj.mp (BitVec.eq_of_getLsbD_eq (fun i hi => h i hi))
theorem b_or (x y : Int32) (i : Nat) : bt (x ||| y) i = (bt x i || bt y i) := by unfold bt; rw [Int32.toBitVec_or, BitVec.getLsbD_or]
theorem b_and (x y : Int32) (i : Nat) : bt (x &&& y) i = (bt x i && bt y i) := by unfold bt; rw [Int32.toBitVec_and, BitVec.getLsbD_and]
theorem b_xor (x y : Int32) (i : Nat) : bt (x ^^^ y) i = (bt x i ^^ bt y i) := by unfold bt; rw [Int32.toBitVec_xor, BitVec.getLsbD_xor]
theorem b_big {x : Int32} {i : Nat} (h : 32 ≤ i) : bt x i = false := BitVec.getLsbD_of_ge _ _ h
theorem b_m1 : ∀ i, i < 32 → bt (-1) i = true := by decide +kernel
theorem b_0 (i : Nat) : bt 0 i = false := BitVec.getLsbD_zero
theorem s_l : ∀ n, n < 32 → ((Int32.ofNat n &&& 31).toBitVec.smod 32).toNat = n := by decide +kernel
theorem s_u : ∀ n, n < 32 → (((Int32.ofNat n).toUInt32 &&& Int32.toUInt32 31).toBitVec % 32).toNat = n := by decide +kernel
theorem b_shl (n : Nat) (hn : n < 32) (x : Int32) {i : Nat} (hi : i < 32) : bt (x <<< (Int32.ofNat n &&& 31)) i = (decide (n ≤ i) && bt x (i - n)) := by
  unfold bt
  rw [Int32.toBitVec_shiftLeft]
  show (x.toBitVec <<< ((Int32.ofNat n &&& 31).toBitVec.smod 32).toNat).getLsbD i = _
  rw [s_l n hn, BitVec.getLsbD_shiftLeft]
  rcases Nat.lt_or_ge i n with h | h
  · simp [h, Nat.not_le.mpr h]
  · simp [hi, h, Nat.not_lt.mpr h]
theorem b_ushr (n : Nat) (hn : n < 32) (x : Int32) (i : Nat) : bt ((x.toUInt32 >>> ((Int32.ofNat n).toUInt32 &&& Int32.toUInt32 31)).toInt32) i = bt x (n + i) := by
  show (x.toUInt32 >>> ((Int32.ofNat n).toUInt32 &&& Int32.toUInt32 31)).toBitVec.getLsbD i = x.toUInt32.toBitVec.getLsbD (n + i)
  rw [UInt32.toBitVec_shiftRight]
  show (x.toUInt32.toBitVec >>> (((Int32.ofNat n).toUInt32 &&& Int32.toUInt32 31).toBitVec % 32).toNat).getLsbD i = _
  rw [s_u n hn, BitVec.getLsbD_ushiftRight]
theorem b_sshr (n : Nat) (hn : n < 32) (x : Int32) {i : Nat} (hi : i < 32) : bt (x >>> (Int32.ofNat n &&& 31)) i = if n + i < 32 then bt x (n + i) else bt x 31 := by
  unfold bt
  rw [Int32.toBitVec_shiftRight]
  show (x.toBitVec.sshiftRight ((Int32.ofNat n &&& 31).toBitVec.smod 32).toNat).getLsbD i = _
  rw [s_l n hn, BitVec.getLsbD_sshiftRight, BitVec.msb_eq_getLsbD_last]
  simp [hi]

theorem b_1 (i : Nat) : bt 1 i = decide (i = 0) := by
  rcases Nat.lt_or_ge i 32 with h | h
  · exact (by decide +kernel : ∀ i, i < 32 → bt 1 i = decide (i = 0)) i h
  · rw [b_big h, decide_eq_false (by omega)]
theorem b_of (k i : Nat) (hi : i < 32) : bt (Int32.ofNat k) i = k.testBit i := by
  show (BitVec.ofNat 32 k).getLsbD i = _
  rw [BitVec.getLsbD_ofNat, decide_eq_true hi, Bool.true_and]
theorem nb25 {x : Int32} : nb x 33554431 ↔ ∀ i, 25 ≤ i → i < 32 → bt x i = false := by
  constructor
  · rintro ⟨k, rfl, hk⟩ i h1 h2
    rw [b_of k i h2]
    exact Nat.testBit_lt_two_pow (Nat.lt_of_lt_of_le (show k < 2 ^ 25 by omega) (Nat.pow_le_pow_right (by decide) h1))
  · intro h
    have lt : x.toBitVec.toNat < 2 ^ 25 := by
      apply Nat.lt_pow_two_of_testBit
      intro i hi
      rcases Nat.lt_or_ge i 32 with q | q
      · have := h i hi q
        unfold bt at this
        rw [← BitVec.testBit_toNat] at this
        exact this
      · exact Nat.testBit_lt_two_pow (Nat.lt_of_lt_of_le x.toBitVec.isLt (Nat.pow_le_pow_right (by decide) q))
    refine ⟨x.toBitVec.toNat, ?_, by omega⟩
    apply Int32.toBitVec_inj.1
    show x.toBitVec = BitVec.ofNat 32 x.toBitVec.toNat
    simp
/-- one bit of a word -/
theorem bit_of (x : Int32) {c : Nat} (hc : c < 31) : (x >>> (Int32.ofNat c &&& 31)) &&& 1 = if bt x c then 1 else 0 := by
  apply b_ext
  intro i hi
  rw [b_and, b_sshr c (by omega) x hi, b_1]
  by_cases q : i = 0
  · subst q
    rw [if_pos (by omega), Nat.add_zero]
    cases bt x c
    · rfl
    · rfl
  · rw [decide_eq_false q, Bool.and_false]
    cases bt x c
    · exact (b_0 i).symm
    · show false = bt 1 i
      rw [b_1, decide_eq_false q]
theorem wall_bits (W : Int32) {c s : Nat} (hc : c < 25) (hs : s < 2) : (W &&& (((1 : Int32) <<< (Int32.ofNat c &&& 31)) ^^^ (-1))) ||| (Int32.ofNat s <<< (Int32.ofNat c &&& 31)) = W ^^^ (if ((W >>> (Int32.ofNat c &&& 31)) &&& 1) = Int32.ofNat s then 0 else (1 : Int32) <<< (Int32.ofNat c &&& 31)) := by
  rw [bit_of W (by omega)]
  have e1 : ∀ i, i < 32 → bt ((1 : Int32) <<< (Int32.ofNat c &&& 31)) i = decide (i = c) := fun i hi => by
    rw [b_shl c (by omega) 1 hi, b_1]
    by_cases q : c ≤ i
    · rw [decide_eq_true q, Bool.true_and]
      by_cases q2 : i = c
      · rw [decide_eq_true q2, decide_eq_true (by omega)]
      · rw [decide_eq_false q2, decide_eq_false (by omega)]
    · rw [decide_eq_false q, Bool.false_and, decide_eq_false (by omega)]
  have : s = 0 ∨ s = 1 := by omega
  apply b_ext
  intro i hi
  rw [b_or, b_and, b_xor, b_xor, b_m1 i hi, e1 i hi]
  rcases this with rfl | rfl
  · have e0 : bt (Int32.ofNat 0 <<< (Int32.ofNat c &&& 31)) i = false := by
      rw [b_shl c (by omega) _ hi, show (Int32.ofNat 0 : Int32) = 0 from rfl, b_0, Bool.and_false]
    rw [e0, Bool.or_false]
    cases hb : bt W c
    · rw [if_pos (by decide), b_0, Bool.xor_false]
      by_cases q : i = c
      · subst q; rw [hb]; rfl
      · rw [decide_eq_false q]; simp
    · rw [if_neg (by decide), e1 i hi]
      by_cases q : i = c
      · subst q; rw [hb, decide_eq_true rfl]; rfl
      · rw [decide_eq_false q]; simp
  · have e0 : bt (Int32.ofNat 1 <<< (Int32.ofNat c &&& 31)) i = decide (i = c) := e1 i hi
    rw [e0]
    cases hb : bt W c
    · rw [if_neg (by decide), e1 i hi]
      by_cases q : i = c
      · subst q; rw [hb, decide_eq_true rfl]; rfl
      · rw [decide_eq_false q]; simp
    · rw [if_pos (by decide), b_0, Bool.xor_false]
      by_cases q : i = c
      · subst q; rw [hb, decide_eq_true rfl]; rfl
      · rw [decide_eq_false q]; simp
theorem wall_nb {W : Int32} (hW : nb W 33554431) {c s : Nat} (hc : c < 25) (hs : s < 2) : nb ((W &&& (((1 : Int32) <<< (Int32.ofNat c &&& 31)) ^^^ (-1))) ||| (Int32.ofNat s <<< (Int32.ofNat c &&& 31))) 33554431 := by
  rw [nb25] at hW ⊢
  intro i h1 h2
  rw [b_or, b_and, hW i h1 h2, Bool.false_and, Bool.false_or, b_shl c (by omega) _ h2]
  have : s = 0 ∨ s = 1 := by omega
  rcases this with rfl | rfl
  · rw [show (Int32.ofNat 0 : Int32) = 0 from rfl, b_0, Bool.and_false]
  · rw [show (Int32.ofNat 1 : Int32) = 1 from rfl, b_1, decide_eq_false (show ¬ i - c = 0 by omega), Bool.and_false]
