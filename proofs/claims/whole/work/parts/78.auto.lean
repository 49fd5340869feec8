/-! rules for straight code -/
theorem litA (c p : Nat) : (no_index (OfNat.ofNat c) : Int32) + Int32.ofNat p = Int32.ofNat (OfNat.ofNat c + p) := (Int32.ofNat_add c p).symm
theorem litB (c p : Nat) : Int32.ofNat p + (no_index (OfNat.ofNat c) : Int32) = Int32.ofNat (p + OfNat.ofNat c) := (Int32.ofNat_add p c).symm
theorem litM (c p : Nat) : (no_index (OfNat.ofNat c) : Int32) * Int32.ofNat p = Int32.ofNat (OfNat.ofNat c * p) := (Int32.ofNat_mul c p).symm
theorem litN (c p : Nat) : Int32.ofNat p * (no_index (OfNat.ofNat c) : Int32) = Int32.ofNat (p * OfNat.ofNat c) := (Int32.ofNat_mul p c).symm
theorem tn_of' {k : Nat} (hk : k < 2 ^ 31) : (Int32.ofNat k).toNatClampNeg = k := Int32.toNatClampNeg_ofNat_of_lt hk
def rec7 (a0 a1 a2 a3 a4 a5 a6 : Int32) (f : Nat → Int32) : Nat → Int32 := upd (upd (upd (upd (upd (upd (upd f 0 a0) 1 a1) 2 a2) 3 a3) 4 a4) 5 a5) 6 a6
