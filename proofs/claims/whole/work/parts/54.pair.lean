def z4 (f : Nat → Int32) (b : Nat) : Nat → Int32 := upd (upd (upd (upd f b 0) (b + 1) 0) (b + 2) 0) (b + 3) 0
theorem z4_in {f : Nat → Int32} {b i : Nat} (h1 : b ≤ i) (h2 : i < b + 4) : z4 f b i = 0 := by
  unfold z4 upd
  have : i = b ∨ i = b + 1 ∨ i = b + 2 ∨ i = b + 3 := by omega
  rcases this with rfl | rfl | rfl | rfl <;> simp
theorem z4_out {f : Nat → Int32} {b i : Nat} (h : i < b ∨ b + 4 ≤ i) : z4 f b i = f i := by
  unfold z4
  rw [upd_ne (by omega), upd_ne (by omega), upd_ne (by omega), upd_ne (by omega)]
section C7
variable {S : List Nat} {j : Nat} {h h2 : z_H}
/-- the class's yard, with one pair more -/
def pairC (h : z_H) (n : Nat) (c w l : Int32) : z_H := wF (wA (wA (wA (wA h 2 (upd (aI h 2) n c)) 3 (upd (aI h 3) n w)) 4 (upd (aI h 4) n l)) 5 (z4 (aI h 5) (4 * n))) 1 8 (.int (Int32.ofNat (n + 1)))
theorem Sh_pairC (hs : Sh h) (n : Nat) (c w l : Int32) : Sh (pairC h n c w l) := Sh_wF (Sh_wA (Sh_wA (Sh_wA (Sh_wA hs rfl _) rfl _) rfl _) rfl _) rfl _
theorem d_add_loop {g : z_H} (hs : Sh g) {n : Nat} (hn : n < 6) (en : fI g 1 8 = Int32.ofNat n) : D_X9_addPair_43 z_F g (some 1) 0 = some (wF (wA g 5 (z4 (aI g 5) (4 * n))) 1 8 (.int (Int32.ofNat (n + 1)))) := by
  have st : ∀ (m k : Nat) (f : Nat → Int32), k < 4 → D_X9_addPair_43 (m + 1) (wA g 5 f) (some 1) (Int32.ofNat k) = D_X9_addPair_43 m (wA g 5 (upd f (4 * n + k) 0)) (some 1) (Int32.ofNat (k + 1)) := fun m k f hk => by
    have s1 : Sh (wA g 5 f) := Sh_wA hs rfl _
    have a5 : aI (wA g 5 f) 5 = f := aI_wA_eq hs rfl _
    have n4 : ¬ (4 : Int32) ≤ Int32.ofNat k := by rw [Int32.le_iff_toInt_le, Int32.toInt_ofNat_of_lt (by omega)]; show ¬ (4 : Int) ≤ k; omega
    have e4 : Int32.ofNat n * 4 + Int32.ofNat k = Int32.ofNat (4 * n + k) := by
      rw [show Int32.ofNat n * 4 = Int32.ofNat (n * 4) from sc_mul n 4, sc_add, Nat.mul_comm]
    have t4 : (Int32.ofNat (4 * n + k)).toNatClampNeg = 4 * n + k := tn_of (by omega)
    have e1 : Int32.ofNat k + 1 = Int32.ofNat (k + 1) := sc_add k 1
    show D_X9_addPair_43b (D_X9_addPair_43 m) (wA g 5 f) (some 1) (Int32.ofNat k) = _
    simp only [D_X9_addPair_43b, n4, if_false, rdQ_c s1, rdF_c s1, fI_wA, en, e4, Option.bind_some, wrA_c s1, iW_ofNat (show 4 * n + k < 24 by omega) (by decide), t4, a5, wA_wA, e1]
  have e0 : g = wA g 5 (aI g 5) := by
    have e : g.2.2 5 = .inl (.int, 24, .inl (aI g 5)) := hs.2 5 _ rfl
    unfold wA
    rw [e]
    simp only [z_up]
    refine Prod.ext rfl (Prod.ext rfl ?_)
    funext q
    by_cases hq : q = 5
    · subst hq; simp [e]
    · simp [hq]
  have s1 : Sh (wA g 5 (z4 (aI g 5) (4 * n))) := Sh_wA hs rfl _
  rw [show z_F = 999995 + 1 + 1 + 1 + 1 + 1 from rfl]
  conv => lhs; rw [e0]
  rw [show (0 : Int32) = Int32.ofNat 0 from rfl, st _ 0 _ (by decide), st _ 1 _ (by decide), st _ 2 _ (by decide), st _ 3 _ (by decide)]
  show D_X9_addPair_43b (D_X9_addPair_43 999995) (wA g 5 (z4 (aI g 5) (4 * n))) (some 1) (Int32.ofNat 4) = _
  have e1 : Int32.ofNat n + 1 = Int32.ofNat (n + 1) := sc_add n 1
  have n4 : (4 : Int32) ≤ Int32.ofNat 4 := by decide
  simp only [D_X9_addPair_43b, n4, if_true, rdF_c s1, wrF_c s1, fI_wA, en, Option.bind_some, e1]
theorem d_add (hs : Sh h) {n : Nat} (hn : n < 6) (en : fI h 1 8 = Int32.ofNat n) (c w l : Int32) : D_X9_addPair h (some 1) c w l = some (pairC h n c w l) := by
  have s1 : Sh (wA h 2 (upd (aI h 2) n c)) := Sh_wA hs rfl _
  have s2 : Sh (wA (wA h 2 (upd (aI h 2) n c)) 3 (upd (aI h 3) n w)) := Sh_wA s1 rfl _
  have s3 : Sh (wA (wA (wA h 2 (upd (aI h 2) n c)) 3 (upd (aI h 3) n w)) 4 (upd (aI h 4) n l)) := Sh_wA s2 rfl _
  have t : (Int32.ofNat n).toNatClampNeg = n := tn_of (by omega)
  have n6 : Int32.ofNat n < 6 := by rw [Int32.lt_iff_toInt_lt, Int32.toInt_ofNat_of_lt (by omega)]; show (n : Int) < 6; omega
  have a3 : aI (wA h 2 (upd (aI h 2) n c)) 3 = aI h 3 := aI_wA_ne (by decide)
  have a4 : aI (wA (wA h 2 (upd (aI h 2) n c)) 3 (upd (aI h 3) n w)) 4 = aI h 4 := by rw [aI_wA_ne (by decide), aI_wA_ne (by decide)]
  have a5 : aI (wA (wA (wA h 2 (upd (aI h 2) n c)) 3 (upd (aI h 3) n w)) 4 (upd (aI h 4) n l)) 5 = aI h 5 := by rw [aI_wA_ne (by decide), aI_wA_ne (by decide), aI_wA_ne (by decide)]
  have f3 : fI (wA (wA (wA h 2 (upd (aI h 2) n c)) 3 (upd (aI h 3) n w)) 4 (upd (aI h 4) n l)) 1 8 = Int32.ofNat n := by rw [fI_wA, fI_wA, fI_wA]; exact en
  have lp := d_add_loop s3 hn f3
  rw [a5] at lp
  simp only [D_X9_addPair, rdF_c hs, en, Option.bind_some, n6, if_true, rdQ_c hs, wrA_c hs, iW_ofNat (show n < 6 from hn) (by decide), t, rdQ_c s1, rdF_c s1, fI_wA, wrA_c s1, a3, rdQ_c s2, rdF_c s2, wrA_c s2, a4, lp, pairC]
/-- the reference's row, with one pair more -/
def rowP (f : Nat → Int32) (n : Nat) (c w l : Int32) : Nat → Int32 := upd (z4 (upd (upd (upd f (8 + n) c) (14 + n) w) (44 + n) l) (20 + 4 * n)) 0 (Int32.ofNat (n + 1))
theorem d_come_loop {g : z_H} (hs : Sh g) {n : Nat} (hn : n < 6) (en : aI g 83 0 = Int32.ofNat n) : D_X11_come_87 z_F g (some 81) (Int32.ofNat n) 0 = some (Int32.ofNat n, wA g 83 (upd (z4 (aI g 83) (20 + 4 * n)) 0 (Int32.ofNat (n + 1)))) := by
  have st : ∀ (m k : Nat) (f : Nat → Int32), k < 4 → D_X11_come_87 (m + 1) (wA g 83 f) (some 81) (Int32.ofNat n) (Int32.ofNat k) = D_X11_come_87 m (wA g 83 (upd f (20 + 4 * n + k) 0)) (some 81) (Int32.ofNat n) (Int32.ofNat (k + 1)) := fun m k f hk => by
    have s1 : Sh (wA g 83 f) := Sh_wA hs rfl _
    have a5 : aI (wA g 83 f) 83 = f := aI_wA_eq hs rfl _
    have n4 : ¬ (4 : Int32) ≤ Int32.ofNat k := by rw [Int32.le_iff_toInt_le, Int32.toInt_ofNat_of_lt (by omega)]; show ¬ (4 : Int) ≤ k; omega
    have e4 : (20 : Int32) + 4 * Int32.ofNat n + Int32.ofNat k = Int32.ofNat (20 + 4 * n + k) := by
      rw [show (4 : Int32) * Int32.ofNat n = Int32.ofNat (4 * n) from sc_mul 4 n, show (20 : Int32) + Int32.ofNat (4 * n) = Int32.ofNat (20 + 4 * n) from sc_add 20 (4 * n), sc_add]
    have t4 : (Int32.ofNat (20 + 4 * n + k)).toNatClampNeg = 20 + 4 * n + k := tn_of (by omega)
    have e1 : Int32.ofNat k + 1 = Int32.ofNat (k + 1) := sc_add k 1
    show D_X11_come_87b (D_X11_come_87 m) (wA g 83 f) (some 81) (Int32.ofNat n) (Int32.ofNat k) = _
    simp only [D_X11_come_87b, n4, if_false, rdQ_m s1, e4, Option.bind_some, wrA_m s1, iW_ofNat (show 20 + 4 * n + k < 5462 by omega) (by decide), t4, a5, wA_wA, e1]
  have e0 : g = wA g 83 (aI g 83) := by
    have e : g.2.2 83 = .inl (.int, 5462, .inl (aI g 83)) := hs.2 83 _ rfl
    unfold wA
    rw [e]
    simp only [z_up]
    refine Prod.ext rfl (Prod.ext rfl ?_)
    funext q
    by_cases hq : q = 83
    · subst hq; simp [e]
    · simp [hq]
  have s1 : Sh (wA g 83 (z4 (aI g 83) (20 + 4 * n))) := Sh_wA hs rfl _
  have a1 : aI (wA g 83 (z4 (aI g 83) (20 + 4 * n))) 83 = z4 (aI g 83) (20 + 4 * n) := aI_wA_eq hs rfl _
  rw [show z_F = 999995 + 1 + 1 + 1 + 1 + 1 from rfl]
  conv => lhs; rw [e0]
  rw [show (0 : Int32) = Int32.ofNat 0 from rfl, st _ 0 _ (by decide), st _ 1 _ (by decide), st _ 2 _ (by decide), st _ 3 _ (by decide)]
  show D_X11_come_87b (D_X11_come_87 999995) (wA g 83 (z4 (aI g 83) (20 + 4 * n))) (some 81) (Int32.ofNat n) (Int32.ofNat 4) = _
  have e1 : Int32.ofNat n + 1 = Int32.ofNat (n + 1) := sc_add n 1
  have z0 : z4 (aI g 83) (20 + 4 * n) 0 = Int32.ofNat n := by rw [z4_out (by omega)]; exact en
  have n4 : (4 : Int32) ≤ Int32.ofNat 4 := by decide
  simp only [D_X11_come_87b, n4, if_true, rdQ_m s1, rdA_m s1, wrA_m s1, a1, z0, iRs, iWs, tns, Nat.reduceLT, Nat.reduceLeDiff, Option.bind_some, e1, wA_wA]
def okP (c w l : Int32) : Prop := (0 ≤ c.toInt ∧ c.toInt ≤ 24) ∧ (0 ≤ w.toInt ∧ w.toInt ≤ 3) ∧ (0 ≤ l.toInt ∧ l.toInt ≤ 9)
theorem d_come_yes {g : z_H} (hs : Sh g) {n : Nat} (hn : n < 6) (en : aI g 83 0 = Int32.ofNat n) {c w l : Int32} (ok : okP c w l) : D_X11_come g (some 81) c w l = some (Int32.ofNat n, wA g 83 (rowP (aI g 83) n c w l)) := by
  obtain ⟨o1, o2, o3⟩ := ok
  have i1 := d_in_yes (a := w.toInt64) (b := 0) (c := 3) (by rw [wide]; exact o2)
  have i2 := d_in_yes (a := l.toInt64) (b := 0) (c := 9) (by rw [wide]; exact o3)
  have n6 : ¬ Int32.ofNat n = 6 := by
    intro q
    have := congrArg Int32.toInt q
    rw [Int32.toInt_ofNat_of_lt (by omega)] at this
    have e : (6 : Int32).toInt = 6 := by decide
    omega
  have s1 : Sh (wA g 83 (upd (aI g 83) (8 + n) c)) := Sh_wA hs rfl _
  have a1 : aI (wA g 83 (upd (aI g 83) (8 + n) c)) 83 = upd (aI g 83) (8 + n) c := aI_wA_eq hs rfl _
  have s2 : Sh (wA g 83 (upd (upd (aI g 83) (8 + n) c) (14 + n) w)) := Sh_wA hs rfl _
  have a2 : aI (wA g 83 (upd (upd (aI g 83) (8 + n) c) (14 + n) w)) 83 = upd (upd (aI g 83) (8 + n) c) (14 + n) w := aI_wA_eq hs rfl _
  have s3 : Sh (wA g 83 (upd (upd (upd (aI g 83) (8 + n) c) (14 + n) w) (44 + n) l)) := Sh_wA hs rfl _
  have a3 : aI (wA g 83 (upd (upd (upd (aI g 83) (8 + n) c) (14 + n) w) (44 + n) l)) 83 = upd (upd (upd (aI g 83) (8 + n) c) (14 + n) w) (44 + n) l := aI_wA_eq hs rfl _
  have z0 : upd (upd (upd (aI g 83) (8 + n) c) (14 + n) w) (44 + n) l 0 = Int32.ofNat n := by rw [upd_ne (by omega), upd_ne (by omega), upd_ne (by omega)]; exact en
  have lp := d_come_loop s3 hn (by rw [a3]; exact z0)
  rw [a3, wA_wA] at lp
  have e8 : (8 : Int32) + Int32.ofNat n = Int32.ofNat (8 + n) := sc_add 8 n
  have e14 : (14 : Int32) + Int32.ofNat n = Int32.ofNat (14 + n) := sc_add 14 n
  have e44 : (44 : Int32) + Int32.ofNat n = Int32.ofNat (44 + n) := sc_add 44 n
  have t8 : (Int32.ofNat (8 + n)).toNatClampNeg = 8 + n := tn_of (by omega)
  have t14 : (Int32.ofNat (14 + n)).toNatClampNeg = 14 + n := tn_of (by omega)
  have t44 : (Int32.ofNat (44 + n)).toNatClampNeg = 44 + n := tn_of (by omega)
  simp only [D_X11_come, cellM_yes o1, Option.bind_some, i1, i2, rdQ_m hs, rdA_m hs, iRs, Nat.reduceLT, Nat.reduceLeDiff, en, n6, if_false, wrA_m hs, e8, t8, iW_ofNat (show 8 + n < 5462 by omega) (by decide), rdQ_m s1, wrA_m s1, a1, e14, t14, iW_ofNat (show 14 + n < 5462 by omega) (by decide), wA_wA, rdQ_m s2, wrA_m s2, a2, e44, t44, iW_ofNat (show 44 + n < 5462 by omega) (by decide), lp, rowP]
  rw [if_neg one_ne, if_neg one_ne, if_neg one_ne]
theorem d_come_full {g : z_H} (hs : Sh g) (en : aI g 83 0 = 6) {c w l : Int32} (ok : okP c w l) : D_X11_come g (some 81) c w l = some (-5, g) := by
  obtain ⟨o1, o2, o3⟩ := ok
  have i1 := d_in_yes (a := w.toInt64) (b := 0) (c := 3) (by rw [wide]; exact o2)
  have i2 := d_in_yes (a := l.toInt64) (b := 0) (c := 9) (by rw [wide]; exact o3)
  simp only [D_X11_come, cellM_yes o1, Option.bind_some, i1, i2, rdQ_m hs, rdA_m hs, iRs, Nat.reduceLT, Nat.reduceLeDiff, en, if_true]
  rw [if_neg one_ne, if_neg one_ne, if_neg one_ne]
theorem d_come_no {g : z_H} {c w l : Int32} (ok : ¬ okP c w l) : D_X11_come g (some 81) c w l = some (-1, g) := by
  unfold D_X11_come
  by_cases o1 : 0 ≤ c.toInt ∧ c.toInt ≤ 24
  · rw [cellM_yes o1, Option.bind_some, if_neg one_ne]
    by_cases o2 : 0 ≤ w.toInt ∧ w.toInt ≤ 3
    · rw [d_in_yes (by rw [wide]; exact o2), Option.bind_some, if_neg one_ne, d_in_no (by rw [wide]; exact fun q => ok ⟨o1, o2, q⟩), Option.bind_some, if_pos rfl]
    · rw [d_in_no (by rw [wide]; exact o2), Option.bind_some, if_pos rfl]
  · rw [cellM_no o1, Option.bind_some, if_pos rfl]
theorem can_yes {g : z_H} {c w l : Int32} (ok : okP c w l) : D_X10_canBePair g c w l = some (1, g) := by
  obtain ⟨o1, o2, o3⟩ := ok
  unfold D_X10_canBePair
  rw [cell_yes o1, Option.bind_some, if_neg one_ne, if_neg (by rw [lt0]; omega), if_neg (by rw [Int32.le_iff_toInt_le]; show ¬ (4 : Int) ≤ w.toInt; omega), if_neg (by rw [lt0]; omega), if_neg (by rw [Int32.lt_iff_toInt_lt]; show ¬ (9 : Int) < l.toInt; omega)]
theorem can_no {g : z_H} {c w l : Int32} (ok : ¬ okP c w l) : D_X10_canBePair g c w l = some (0, g) := by
  unfold D_X10_canBePair
  by_cases o1 : 0 ≤ c.toInt ∧ c.toInt ≤ 24
  · rw [cell_yes o1, Option.bind_some, if_neg one_ne]
    by_cases w1 : w < 0
    · rw [if_pos w1]
    rw [if_neg w1]
    by_cases w2 : (4 : Int32) ≤ w
    · rw [if_pos w2]
    rw [if_neg w2]
    by_cases l1 : l < 0
    · rw [if_pos l1]
    rw [if_neg l1, if_pos]
    rw [lt0] at w1 l1
    rw [Int32.le_iff_toInt_le] at w2
    have w2' : ¬ (4 : Int) ≤ w.toInt := w2
    rw [Int32.lt_iff_toInt_lt]
    show (9 : Int) < l.toInt
    rcases Int.lt_or_le 9 l.toInt with q | q
    · exact q
    · exact absurd ⟨o1, ⟨by omega, by omega⟩, by omega, q⟩ ok
  · rw [cell_no o1, Option.bind_some, if_pos rfl]
end C7
