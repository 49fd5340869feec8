/-! how many bits -/
theorem and_block {k a m A M : Nat} (ha : a < 2 ^ k) (hm : m < 2 ^ k) : (a + 2 ^ k * A) &&& (m + 2 ^ k * M) = (a &&& m) + 2 ^ k * (A &&& M) := by
  have hc : a &&& m < 2 ^ k := Nat.lt_of_le_of_lt Nat.and_le_left ha
  apply Nat.eq_of_testBit_eq
  intro i
  rw [Nat.testBit_and, Nat.add_comm a, Nat.add_comm m, Nat.add_comm (a &&& m), Nat.testBit_two_pow_mul_add A ha, Nat.testBit_two_pow_mul_add M hm, Nat.testBit_two_pow_mul_add (A &&& M) hc]
  by_cases c : i < k
  · rw [if_pos c, if_pos c, if_pos c, Nat.testBit_and]
  · rw [if_neg c, if_neg c, if_neg c, Nat.testBit_and]
def by1 (b : Nat) : Nat := b - (b / 2 &&& 0x55)
def by2 (b : Nat) : Nat := (by1 b &&& 0x33) + (by1 b / 4 &&& 0x33)
def pop8 (b : Nat) : Nat := b % 2 + b / 2 % 2 + b / 4 % 2 + b / 8 % 2 + b / 16 % 2 + b / 32 % 2 + b / 64 % 2 + b / 128 % 2
theorem by_all : ∀ b : Fin 256, (∀ t : Fin 2, (b.val / 2 + 128 * t.val) &&& 0x55 = b.val / 2 &&& 0x55) ∧ (b.val / 2 &&& 0x55) ≤ b.val ∧ by1 b.val < 256 ∧ (∀ t : Fin 4, (by1 b.val / 4 + 64 * t.val) &&& 0x33 = by1 b.val / 4 &&& 0x33) ∧ by2 b.val ≤ 68 ∧ by2 b.val % 16 ≤ 4 ∧ (∀ t : Fin 5, (by2 b.val + by2 b.val / 16 + 16 * t.val) &&& 0x0f = pop8 b.val) ∧ pop8 b.val ≤ 8 := by decide +kernel
def bc1 (x : Nat) : Nat := x - (x / 2 &&& 1431655765)
def bc2 (x : Nat) : Nat := (x &&& 858993459) + (x / 4 &&& 858993459)
def bc3 (x : Nat) : Nat := (x + x / 16) &&& 252645135
theorem bc_mask {a0 a1 a2 a3 m : Nat} (h0 : a0 < 256) (h1 : a1 < 256) (h2 : a2 < 256) (hm : m < 256) : (a0 + 256 * (a1 + 256 * (a2 + 256 * a3))) &&& (m + 256 * (m + 256 * (m + 256 * m))) = (a0 &&& m) + 256 * ((a1 &&& m) + 256 * ((a2 &&& m) + 256 * (a3 &&& m))) := by
  rw [show (256 : Nat) = 2 ^ 8 from rfl, and_block h0 hm, and_block h1 hm, and_block h2 hm]
theorem bc1_eq {b0 b1 b2 b3 : Nat} (h0 : b0 < 256) (h1 : b1 < 256) (h2 : b2 < 256) (h3 : b3 < 256) : bc1 (b0 + 256 * (b1 + 256 * (b2 + 256 * b3))) = by1 b0 + 256 * (by1 b1 + 256 * (by1 b2 + 256 * by1 b3)) := by
  obtain ⟨p0, q0, -⟩ := by_all ⟨b0, h0⟩
  obtain ⟨p1, q1, -⟩ := by_all ⟨b1, h1⟩
  obtain ⟨p2, q2, -⟩ := by_all ⟨b2, h2⟩
  obtain ⟨p3, q3, -⟩ := by_all ⟨b3, h3⟩
  have e0 := p0 ⟨b1 % 2, Nat.mod_lt _ (by decide)⟩
  have e1 := p1 ⟨b2 % 2, Nat.mod_lt _ (by decide)⟩
  have e2 := p2 ⟨b3 % 2, Nat.mod_lt _ (by decide)⟩
  dsimp only at e0 e1 e2 q0 q1 q2 q3
  unfold bc1 by1
  have hx : (b0 + 256 * (b1 + 256 * (b2 + 256 * b3))) / 2 = (b0 / 2 + 128 * (b1 % 2)) + 256 * ((b1 / 2 + 128 * (b2 % 2)) + 256 * ((b2 / 2 + 128 * (b3 % 2)) + 256 * (b3 / 2))) := by omega
  rw [hx, show (1431655765 : Nat) = 0x55 + 256 * (0x55 + 256 * (0x55 + 256 * 0x55)) from rfl, bc_mask (by omega) (by omega) (by omega) (by decide), e0, e1, e2]
  omega
theorem bc2_eq {y0 y1 y2 y3 : Nat} (h0 : y0 < 256) (h1 : y1 < 256) (h2 : y2 < 256) (e0 : (y0 / 4 + 64 * (y1 % 4)) &&& 0x33 = y0 / 4 &&& 0x33) (e1 : (y1 / 4 + 64 * (y2 % 4)) &&& 0x33 = y1 / 4 &&& 0x33) (e2 : (y2 / 4 + 64 * (y3 % 4)) &&& 0x33 = y2 / 4 &&& 0x33) : bc2 (y0 + 256 * (y1 + 256 * (y2 + 256 * y3))) = ((y0 &&& 0x33) + (y0 / 4 &&& 0x33)) + 256 * (((y1 &&& 0x33) + (y1 / 4 &&& 0x33)) + 256 * (((y2 &&& 0x33) + (y2 / 4 &&& 0x33)) + 256 * ((y3 &&& 0x33) + (y3 / 4 &&& 0x33)))) := by
  unfold bc2
  have hx : (y0 + 256 * (y1 + 256 * (y2 + 256 * y3))) / 4 = (y0 / 4 + 64 * (y1 % 4)) + 256 * ((y1 / 4 + 64 * (y2 % 4)) + 256 * ((y2 / 4 + 64 * (y3 % 4)) + 256 * (y3 / 4))) := by omega
  rw [hx, show (858993459 : Nat) = 0x33 + 256 * (0x33 + 256 * (0x33 + 256 * 0x33)) from rfl, bc_mask h0 h1 h2 (by decide), bc_mask (by omega) (by omega) (by omega) (by decide), e0, e1, e2]
  omega
theorem bc_all {b0 b1 b2 b3 : Nat} (h0 : b0 < 256) (h1 : b1 < 256) (h2 : b2 < 256) (h3 : b3 < 256) : bc3 (bc2 (bc1 (b0 + 256 * (b1 + 256 * (b2 + 256 * b3))))) = pop8 b0 + 256 * (pop8 b1 + 256 * (pop8 b2 + 256 * pop8 b3)) ∧ pop8 b0 ≤ 8 ∧ pop8 b1 ≤ 8 ∧ pop8 b2 ≤ 8 ∧ pop8 b3 ≤ 8 ∧ bc2 (bc1 (b0 + 256 * (b1 + 256 * (b2 + 256 * b3)))) < 2000000000 ∧ bc1 (b0 + 256 * (b1 + 256 * (b2 + 256 * b3))) < 4294967296 := by
  rw [bc1_eq h0 h1 h2 h3]
  obtain ⟨-, -, l0, f0, s0, t0, u0, v0⟩ := by_all ⟨b0, h0⟩
  obtain ⟨-, -, l1, f1, s1, t1, u1, v1⟩ := by_all ⟨b1, h1⟩
  obtain ⟨-, -, l2, f2, s2, t2, u2, v2⟩ := by_all ⟨b2, h2⟩
  obtain ⟨-, -, l3, f3, s3, t3, u3, v3⟩ := by_all ⟨b3, h3⟩
  dsimp only at l0 l1 l2 l3 s0 s1 s2 s3 t0 t1 t2 t3 v0 v1 v2 v3
  have e0 := f0 ⟨by1 b1 % 4, Nat.mod_lt _ (by decide)⟩
  have e1 := f1 ⟨by1 b2 % 4, Nat.mod_lt _ (by decide)⟩
  have e2 := f2 ⟨by1 b3 % 4, Nat.mod_lt _ (by decide)⟩
  rw [bc2_eq l0 l1 l2 e0 e1 e2]
  have g0 := u0 ⟨by2 b1 % 16, by omega⟩
  have g1 := u1 ⟨by2 b2 % 16, by omega⟩
  have g2 := u2 ⟨by2 b3 % 16, by omega⟩
  have g3 := u3 ⟨0, by decide⟩
  dsimp only at g0 g1 g2 g3
  show bc3 (by2 b0 + 256 * (by2 b1 + 256 * (by2 b2 + 256 * by2 b3))) = _ ∧ _
  have z : by2 b0 + 256 * (by2 b1 + 256 * (by2 b2 + 256 * by2 b3)) < 2000000000 := by omega
  refine ⟨?_, v0, v1, v2, v3, z, by omega⟩
  unfold bc3
  have hx : by2 b0 + 256 * (by2 b1 + 256 * (by2 b2 + 256 * by2 b3)) + (by2 b0 + 256 * (by2 b1 + 256 * (by2 b2 + 256 * by2 b3))) / 16 = (by2 b0 + by2 b0 / 16 + 16 * (by2 b1 % 16)) + 256 * ((by2 b1 + by2 b1 / 16 + 16 * (by2 b2 % 16)) + 256 * ((by2 b2 + by2 b2 / 16 + 16 * (by2 b3 % 16)) + 256 * (by2 b3 + by2 b3 / 16 + 16 * 0))) := by omega
  rw [hx, show (252645135 : Nat) = 0x0f + 256 * (0x0f + 256 * (0x0f + 256 * 0x0f)) from rfl, bc_mask (by omega) (by omega) (by omega) (by decide), g0, g1, g2, g3]
theorem nx_and (a b : Nat) : Int32.ofNat a &&& Int32.ofNat b = Int32.ofNat (a &&& b) := by
  apply Int32.toBitVec_inj.1
  show BitVec.ofNat 32 a &&& BitVec.ofNat 32 b = BitVec.ofNat 32 (a &&& b)
  apply BitVec.eq_of_getLsbD_eq
  intro i hi
  simp [hi]
theorem nx_cnt : ∀ j : Fin 32, (UInt32.ofNat j.val &&& Int32.toUInt32 31).toNat % 32 = j.val := by decide +kernel
theorem nx_ush {k j : Nat} (hk : k < 4294967296) (hj : j < 32) : ((Int32.ofNat k).toUInt32 >>> ((Int32.ofNat j).toUInt32 &&& Int32.toUInt32 31)).toInt32 = Int32.ofNat (k / 2 ^ j) := by
  have hs : k / 2 ^ j ≤ k := Nat.div_le_self _ _
  have e2 : UInt32.ofNat k >>> (UInt32.ofNat j &&& Int32.toUInt32 31) = UInt32.ofNat (k / 2 ^ j) := by
    apply UInt32.toNat_inj.1
    have h1 : (UInt32.ofNat k).toNat = k := Nat.mod_eq_of_lt (by omega)
    have h2 : (UInt32.ofNat (k / 2 ^ j)).toNat = k / 2 ^ j := Nat.mod_eq_of_lt (by omega)
    rw [UInt32.toNat_shiftRight, nx_cnt ⟨j, hj⟩, h1, h2, Nat.shiftRight_eq_div_pow]
  show (UInt32.ofNat k >>> (UInt32.ofNat j &&& Int32.toUInt32 31)).toInt32 = _
  rw [e2]
  rfl
def popN (w : Nat) : Nat := pop8 (w % 256) + pop8 (w / 256 % 256) + pop8 (w / 65536 % 256) + pop8 (w / 16777216)
theorem d_bitCount (g : z_H) {w : Nat} (hw : w < 33554432) : D_J6_bitCount_0f7a4 g (Int32.ofNat w) = some (Int32.ofNat (popN w), g) := by
  obtain ⟨k1, k2, k3, k4, k5, k6, k7⟩ := bc_all (b0 := w % 256) (b1 := w / 256 % 256) (b2 := w / 65536 % 256) (b3 := w / 16777216) (by omega) (by omega) (by omega) (by omega)
  rw [show w % 256 + 256 * (w / 256 % 256 + 256 * (w / 65536 % 256 + 256 * (w / 16777216))) = w by omega] at k1 k6 k7
  have u1 : ∀ {k : Nat}, k < 4294967296 → ((Int32.ofNat k).toUInt32 >>> ((1 : Int32).toUInt32 &&& Int32.toUInt32 31)).toInt32 = Int32.ofNat (k / 2) := fun hk => nx_ush (j := 1) hk (by decide)
  have u2 : ∀ {k : Nat}, k < 4294967296 → ((Int32.ofNat k).toUInt32 >>> ((2 : Int32).toUInt32 &&& Int32.toUInt32 31)).toInt32 = Int32.ofNat (k / 4) := fun hk => nx_ush (j := 2) hk (by decide)
  have u4 : ∀ {k : Nat}, k < 4294967296 → ((Int32.ofNat k).toUInt32 >>> ((4 : Int32).toUInt32 &&& Int32.toUInt32 31)).toInt32 = Int32.ofNat (k / 16) := fun hk => nx_ush (j := 4) hk (by decide)
  have u8 : ∀ {k : Nat}, k < 4294967296 → ((Int32.ofNat k).toUInt32 >>> ((8 : Int32).toUInt32 &&& Int32.toUInt32 31)).toInt32 = Int32.ofNat (k / 256) := fun hk => nx_ush (j := 8) hk (by decide)
  have u16 : ∀ {k : Nat}, k < 4294967296 → ((Int32.ofNat k).toUInt32 >>> ((16 : Int32).toUInt32 &&& Int32.toUInt32 31)).toInt32 = Int32.ofNat (k / 65536) := fun hk => nx_ush (j := 16) hk (by decide)
  have a1 : ∀ k, Int32.ofNat k &&& 1431655765 = Int32.ofNat (k &&& 1431655765) := fun k => nx_and k 1431655765
  have a2 : ∀ k, Int32.ofNat k &&& 858993459 = Int32.ofNat (k &&& 858993459) := fun k => nx_and k 858993459
  have a3 : ∀ k, Int32.ofNat k &&& 252645135 = Int32.ofNat (k &&& 252645135) := fun k => nx_and k 252645135
  have a4 : ∀ k, Int32.ofNat k &&& 63 = Int32.ofNat (k &&& 63) := fun k => nx_and k 63
  have s1 : w / 2 &&& 1431655765 ≤ w := Nat.le_trans Nat.and_le_left (Nat.div_le_self _ _)
  unfold D_J6_bitCount_0f7a4
  rw [Option.bind_some, Option.bind_some, Option.bind_some, Option.bind_some, Option.bind_some, u1 (by omega), a1, sc_sub s1]
  rw [show w - (w / 2 &&& 1431655765) = bc1 w from rfl, u2 k7, a2, a2, sc_add, show (bc1 w &&& 858993459) + (bc1 w / 4 &&& 858993459) = bc2 (bc1 w) from rfl, u4 (by omega), sc_add, a3, show (bc2 (bc1 w) + bc2 (bc1 w) / 16) &&& 252645135 = bc3 (bc2 (bc1 w)) from rfl, k1]
  rw [show popN w = pop8 (w % 256) + pop8 (w / 256 % 256) + pop8 (w / 65536 % 256) + pop8 (w / 16777216) from rfl]
  generalize pop8 (w % 256) = P0 at *
  generalize pop8 (w / 256 % 256) = P1 at *
  generalize pop8 (w / 65536 % 256) = P2 at *
  generalize pop8 (w / 16777216) = P3 at *
  have d1 : (P0 + 256 * (P1 + 256 * (P2 + 256 * P3))) / 256 = P1 + 256 * (P2 + 256 * P3) := by omega
  rw [u8 (by omega), sc_add, d1]
  have d2 : P0 + 256 * (P1 + 256 * (P2 + 256 * P3)) + (P1 + 256 * (P2 + 256 * P3)) = (P0 + P1) + 256 * ((P1 + P2) + 256 * ((P2 + P3) + 256 * P3)) := by omega
  rw [d2]
  have d3 : ((P0 + P1) + 256 * ((P1 + P2) + 256 * ((P2 + P3) + 256 * P3))) / 65536 = (P2 + P3) + 256 * P3 := by omega
  rw [u16 (by omega), sc_add, d3, a4]
  have e63 : ∀ k, k &&& 63 = k % 64 := fun k => Nat.and_two_pow_sub_one_eq_mod k 6
  rw [e63, show ((P0 + P1) + 256 * ((P1 + P2) + 256 * ((P2 + P3) + 256 * P3)) + ((P2 + P3) + 256 * P3)) % 64 = P0 + P1 + P2 + P3 by omega]
