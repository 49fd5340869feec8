/-! numbers -/
def nb (x : Int32) (n : Nat) : Prop := ∃ k : Nat, x = Int32.ofNat k ∧ k ≤ n
def tn (x : Int32) : Nat := x.toNatClampNeg
theorem tn_of {k : Nat} (hk : k < 2 ^ 31) : tn (Int32.ofNat k) = k := Int32.toNatClampNeg_ofNat_of_lt hk
theorem nb.tn {x : Int32} {n : Nat} (h : nb x n) (hn : n < 2 ^ 31) : x = Int32.ofNat (tn x) ∧ tn x ≤ n := by
  obtain ⟨k, rfl, hk⟩ := h
  rw [tn_of (by omega)]
  exact ⟨rfl, hk⟩
theorem not_neg {k : Nat} (hk : k < 2 ^ 31) : ¬ Int32.ofNat k < 0 := by
  rw [Int32.lt_iff_toInt_lt, Int32.toInt_ofNat_of_lt hk]
  simp
theorem iR_ofNat {α : Type} {n : Nat} {f : Nat → α} {k : Nat} (hk : k < n) (hn : n ≤ 2 ^ 31) : iR n f (Int32.ofNat k) = some (f k) := by
  have e : (Int32.ofNat k).toNatClampNeg = k := Int32.toNatClampNeg_ofNat_of_lt (by omega)
  unfold iR
  rw [if_neg, e]
  rintro (q | q)
  · exact not_neg (by omega) q
  · rw [e] at q; omega
theorem iW_ofNat {α : Type} {n : Nat} {x : α} {k : Nat} (hk : k < n) (hn : n ≤ 2 ^ 31) : iW n (Int32.ofNat k) x = some x := by
  have e : (Int32.ofNat k).toNatClampNeg = k := Int32.toNatClampNeg_ofNat_of_lt (by omega)
  unfold iW
  rw [if_neg]
  rintro (q | q)
  · exact not_neg (by omega) q
  · rw [e] at q; omega
/-! CODES. The class's: PUT_NUMBER 0, PUT_WORD 1, NOT 2, AND 3, OR 4, joining 5 to 12; the reference's: number 0, words 1 to 9, joining 20 to 27, NOT 28, AND 29, OR 30. The reference keeps pairs of NOT that the class leaves out. -/
def notsM (K : Nat → Int32) (a n : Nat) : Prop := ∀ u, u < n → K (a + u) = 28
/-- position i of the class's code against position f i of the reference's; ord: code of ORDERS -/
def posRel (ord : Bool) (op ar K Ka : Nat → Int32) (n : Nat) (f : Nat → Nat) (i : Nat) : Prop :=
  (op i = 0 ∧ K (f i) = 0 ∧ Ka (f i) = ar i ∧ nb (ar i) 1000) ∨
  (op i = 1 ∧ ord = false ∧ ∃ w : Nat, w < 9 ∧ ar i = Int32.ofNat w ∧ K (f i) = Int32.ofNat (w + 1)) ∨
  (op i = 1 ∧ ord = true ∧ ∃ w : Nat, w < 5 ∧ ar i = Int32.ofNat w ∧ K (f i) = Int32.ofNat (w + 1)) ∨
  (op i = 1 ∧ ord = true ∧ ∃ w p : Nat, w < 3 ∧ p < 6 ∧ ar i = Int32.ofNat (5 + 6 * w + p) ∧ K (f i) = Int32.ofNat (6 + w) ∧ Ka (f i) = Int32.ofNat p) ∨
  (op i = 2 ∧ K (f i) = 28) ∨
  ((op i = 3 ∧ K (f i) = 29 ∨ op i = 4 ∧ K (f i) = 30) ∧ ∃ j t e : Nat, i < j ∧ j ≤ n ∧ ar i = Int32.ofNat j ∧ Ka (f i) = Int32.ofNat t ∧ t + 2 * e = f j ∧ f i < t ∧ notsM K t (2 * e)) ∨
  (∃ o : Nat, 5 ≤ o ∧ o ≤ 12 ∧ op i = Int32.ofNat o ∧ K (f i) = Int32.ofNat (o + 15))
def codeRel (ord : Bool) (op ar K Ka : Nat → Int32) (n : Nat) (f : Nat → Nat) : Prop :=
  n ≤ 400 ∧ f n ≤ 400 ∧ ∀ i, i < n → posRel ord op ar K Ka n f i ∧ ∃ t : Nat, f (i + 1) = f i + 1 + 2 * t ∧ (op i = 3 ∨ op i = 4 → t = 0) ∧ notsM K (f i + 1) (2 * t)
/-- how deep the stack is: of a stretch of code that leaves one value (or is empty) -/
def deepOK (op ar : Nat → Int32) (lo hi : Nat) (dp : Nat → Nat) : Prop :=
  dp lo = 0 ∧ dp hi = 1 ∧ ∀ i, lo ≤ i → i < hi → dp i ≤ 50 ∧
    ((op i = 0 ∨ op i = 1) ∧ dp (i + 1) = dp i + 1 ∧ dp i < 50 ∨ op i = 2 ∧ 1 ≤ dp i ∧ dp (i + 1) = dp i ∨ (op i = 3 ∨ op i = 4) ∧ 1 ≤ dp i ∧ dp (i + 1) + 1 = dp i ∧ tn (ar i) ≤ hi ∧ dp (tn (ar i)) = dp i ∨ (∃ o : Nat, 5 ≤ o ∧ o ≤ 12 ∧ op i = Int32.ofNat o) ∧ 2 ≤ dp i ∧ dp (i + 1) + 1 = dp i)
def segOK (op ar : Nat → Int32) (lo hi : Nat) : Prop := lo ≤ hi ∧ ∃ dp, deepOK op ar lo hi dp
/-- of a TEST: it comes to 0 or to 1 -/
def segT (op ar : Nat → Int32) (lo hi : Nat) : Prop := segOK op ar lo hi ∧ ∃ bt : Nat → Bool, bt lo = false ∧ bt hi = true ∧ ∀ i, lo ≤ i → i < hi → bt (i + 1) = true → ((∃ o : Nat, 10 ≤ o ∧ o ≤ 12 ∧ op i = Int32.ofNat o) ∨ (op i = 2 ∧ bt i = true))
/-- a text of a law in the class (size n, c clauses) against the reference's row m of that law -/
def LR (n c : Nat) (op ar cl m : Nat → Int32) : Prop :=
  c ≤ 12 ∧ m 1 = Int32.ofNat c ∧ ∃ f : Nat → Nat, codeRel false op ar (fun k => m (98 + 2 * k)) (fun k => m (99 + 2 * k)) n f ∧ ∀ k, k < c → ∃ v s0 s1 s2 : Nat, v < 3 ∧ cl (6 * k) = Int32.ofNat (5 + v) ∧ cl (6 * k + 2) = Int32.ofNat s0 ∧ cl (6 * k + 3) = Int32.ofNat s1 ∧ cl (6 * k + 4) = Int32.ofNat s1 ∧ cl (6 * k + 5) = Int32.ofNat s2 ∧ s2 ≤ n ∧
    m (2 + 8 * k) = Int32.ofNat v ∧ m (2 + 8 * k + 3) = Int32.ofNat (f s0) ∧ m (2 + 8 * k + 4) = Int32.ofNat (f s1) ∧ m (2 + 8 * k + 5) = Int32.ofNat (f s1) ∧ m (2 + 8 * k + 6) = Int32.ofNat (f s2) ∧ (v = 2 → s1 = s0) ∧ (v ≠ 2 → segOK op ar s0 s1) ∧ (s1 = s2 ∨ segT op ar s1 s2)
/-- a text of a law lies at the cells t to t + 3 -/
def Txt (h : z_H) (t n c : Nat) (op ar cl : Nat → Int32) : Prop := 114 ≤ t ∧ t + 3 < h.1 ∧ n ≤ 400 ∧ c ≤ 12 ∧ h.2.2 t = .inr (7, [.ref (t + 1), .ref (t + 2), .ref (t + 3), .int (Int32.ofNat n), .int (Int32.ofNat c)]) ∧ h.2.2 (t + 1) = .inl (.int, n, .inl op) ∧ h.2.2 (t + 2) = .inl (.int, n, .inl ar) ∧ h.2.2 (t + 3) = .inl (.int, 6 * c, .inl cl)
/-! THE INVARIANT between calls -/
/-- a yard's bounds -/
def Yok (h : z_H) (a : Nat) : Prop := nb (fI h a 8) 6 ∧ nb (fI h a 9) 33554431 ∧ nb (fI h a 10) 6 ∧ nb (fI h a 11) 6 ∧ (fI h a 12 = -1 ∨ ∃ k : Nat, fI h a 12 = Int32.ofNat k ∧ k < tn (fI h a 11)) ∧ (∀ i, i < 6 → nb (aI h (a + 1) i) 24 ∧ nb (aI h (a + 2) i) 3 ∧ nb (aI h (a + 3) i) 9 ∧ nb (aI h (a + 6) i) 3 ∧ nb (aI h (a + 7) i) 99) ∧ (∀ i, i < 24 → nb (aI h (a + 4) i) 99) ∧ nb (aI h (a + 5) 0) 999 ∧ nb (aI h (a + 5) 1) 10 ∧ nb (aI h (a + 5) 2) 9
/-- a yard against a row of the reference -/
def Yeq (h : z_H) (a : Nat) (m : Nat → Int32) : Prop := m 0 = fI h a 8 ∧ m 4 = fI h a 9 ∧ m 1 = fI h a 10 ∧ m 2 = fI h a 11 ∧ m 3 = fI h a 12 ∧ (∀ i, i < 6 → m (8 + i) = aI h (a + 1) i ∧ m (14 + i) = aI h (a + 2) i ∧ m (44 + i) = aI h (a + 3) i ∧ m (50 + 2 * i) = aI h (a + 6) i ∧ m (51 + 2 * i) = aI h (a + 7) i) ∧ (∀ i, i < 24 → m (20 + i) = aI h (a + 4) i) ∧ (∀ i, i < 3 → m (5 + i) = aI h (a + 5) i)
/-- a yard's laws -/
def Ylaw (h : z_H) (a : Nat) (m : Nat → Int32) : Prop := (∀ k, k < 6 → aQ h (a + 8) k = none ∨ ∃ (t n c : Nat) (op ar cl : Nat → Int32), aQ h (a + 8) k = some t ∧ Txt h t n c op ar cl) ∧ ∀ k, k < tn (fI h a 11) → ∃ (t n c : Nat) (op ar cl : Nat → Int32), aQ h (a + 8) k = some t ∧ Txt h t n c op ar cl ∧ LR n c op ar cl (fun i => m (62 + 900 * k + i))
def Yrel (h : z_H) (a : Nat) (m : Nat → Int32) : Prop := Yok h a ∧ Yeq h a m ∧ Ylaw h a m
/-- what undoing a row of the log makes of a snapshot -/
def undone (r : Nat → Int32) (s : Nat → Int32) (i : Nat) : Int32 := if i = 0 then r 6 else if r 1 = -1 then s i else if i = 3 + tn (r 1) then r 2 else if i = 9 + tn (r 1) then r 3 else if i = 15 + 4 * tn (r 1) + tn (r 4) then r 5 else s i
def Ulog (h : z_H) : Prop := fI h 81 8 = fI h 21 1 ∧ nb (fI h 21 1) 16 ∧ ∀ j, j < tn (fI h 21 1) → aI h 87 j = aI h 22 (7 * j) ∧ nb (aI h 22 (7 * j)) 4 ∧ (aI h 22 (7 * j + 1) = -1 ∨ (∃ k : Nat, aI h 22 (7 * j + 1) = Int32.ofNat k ∧ k < tn (fI h 1 8)) ∧ nb (aI h 22 (7 * j + 2)) 24 ∧ nb (aI h 22 (7 * j + 3)) 3 ∧ nb (aI h 22 (7 * j + 4)) 3 ∧ nb (aI h 22 (7 * j + 5)) 99) ∧ nb (aI h 22 (7 * j + 6)) 999 ∧
  ∀ i, i < 39 → aI h 86 (39 * j + i) = undone (fun q => aI h 22 (7 * j + q)) (fun q => if j + 1 = tn (fI h 21 1) then aI h 83 (5 + q) else aI h 86 (39 * (j + 1) + q)) i
/-- the reader's tape, the answers that are only told -/
def Told (h : z_H) : Prop := fI h 0 13 = fI h 81 1 ∧ fI h 0 14 = fI h 81 11 ∧ (∀ i, i < 7 → aI h 62 i = aI h 82 i) ∧ fI h 23 2 = fI h 81 13 ∧ nb (fI h 23 2) 400 ∧ (∀ i, i < 400 → aI h 24 i = aI h 90 i ∧ nb (aI h 24 i) 255) ∧ fI h 23 3 = fI h 81 18 ∧ fI h 34 6 = fI h 81 54 ∧ fI h 81 20 = 0
def Imgs (h : z_H) : Prop := aQ h 10 0 = some 63 ∧ aQ h 10 1 = some 72 ∧ ∀ k, k < 2 → aI h 11 k = aI h 85 k ∧ (aI h 11 k = 0 ∨ aI h 11 k = 1 ∧ Yrel h (63 + 9 * k) (fun i => aI h 84 (5462 * k + i)))
def Drwn (h : z_H) : Prop := (fI h 81 58 = -1 ∧ fI h 12 8 = 0) ∨ (fI h 81 58 = fI h 12 8 ∧ nb (fI h 12 8) 6 ∧ ∀ p, p < 6 → aI h 113 (3 + p) = aI h 13 p ∧ aI h 113 (9 + p) = aI h 14 p ∧ ∀ q, q < 4 → aI h 113 (15 + 4 * p + q) = aI h 16 (4 * p + q))
def Cnst (h : z_H) : Prop := (∀ i, i < 9 → aJ h 96 i = [525618, 408612, 525908, 769614, 24, 25, 23609, 4153, 441828].getD i 0) ∧ (∀ i, i < 8 → aJ h 97 i = [4153, 146885, 404362868, 16819795, 24162707, 103820, 20965, 267436].getD i 0) ∧ (∀ i, i < 3 → aJ h 98 i = [24282707, 407951539, 67155].getD i 0) ∧ (∀ i, i < 5 → aJ h 111 i = [643248, 677454, 16832101, 431556, 525939].getD i 0)
def Inv (j : Nat) (h : z_H) : Prop := Sh h ∧ (h.1 ≤ 114 + 4 * j ∧ h.2.1 ≤ 100000 + 900 * j) ∧ Yrel h 1 (aI h 83) ∧ Ulog h ∧ Told h ∧ Imgs h ∧ Drwn h ∧ Cnst h
