theorem nb_and255 (y : Int32) : nb (y &&& 255) 255 := by
  refine ⟨(y &&& 255).toBitVec.toNat, ?_, ?_⟩
  · apply Int32.toBitVec_inj.mp
    rw [show (Int32.ofNat (y &&& 255).toBitVec.toNat).toBitVec = BitVec.ofNat 32 (y &&& 255).toBitVec.toNat from rfl, BitVec.ofNat_toNat, BitVec.setWidth_eq]
  · rw [Int32.toBitVec_and, BitVec.toNat_and]
    exact Nat.and_le_right
def byt (v : Int32) (s : Nat) : Int32 := (v >>> (Int32.ofNat s &&& 31)) &&& 255
def P4f (f : Nat → Int32) (n : Nat) (v : Int32) : Nat → Int32 := upd (upd (upd (upd f n (byt v 24)) (n + 1) (byt v 16)) (n + 2) (byt v 8)) (n + 3) (byt v 0)
theorem upd_same {f f' : Nat → Int32} {n : Nat} {b : Int32} (hb : nb b 255) (e : ∀ i, i < 400 → f i = f' i ∧ nb (f i) 255) : ∀ i, i < 400 → upd f n b i = upd f' n b i ∧ nb (upd f n b i) 255 := fun i hi => by
  by_cases q : i = n
  · subst q; rw [upd_eq, upd_eq]; exact ⟨rfl, hb⟩
  · rw [upd_ne q, upd_ne q]; exact e i hi
theorem P4f_same {f f' : Nat → Int32} {n : Nat} {v : Int32} (e : ∀ i, i < 400 → f i = f' i ∧ nb (f i) 255) : ∀ i, i < 400 → P4f f n v i = P4f f' n v i ∧ nb (P4f f n v i) 255 :=
  upd_same (nb_and255 _) (upd_same (nb_and255 _) (upd_same (nb_and255 _) (upd_same (nb_and255 _) e)))
section C9
variable {j : Nat} {h g : z_H}
def stP (g : z_H) (n : Nat) (b : Int32) : z_H := wF (wA g 24 (upd (aI g 24) n b)) 23 2 (.int (Int32.ofNat (n + 1)))
def stQ (g : z_H) (n : Nat) (b : Int32) : z_H := wF (wA g 90 (upd (aI g 90) n b)) 81 13 (.int (Int32.ofNat (n + 1)))
theorem Sh_stP (hs : Sh g) (n : Nat) (b : Int32) : Sh (stP g n b) := Sh_wF (Sh_wA hs rfl _) rfl _
theorem Sh_stQ (hs : Sh g) (n : Nat) (b : Int32) : Sh (stQ g n b) := Sh_wF (Sh_wA hs rfl _) rfl _
theorem stP_r (hs : Sh g) (n : Nat) (b : Int32) : fI (stP g n b) 23 2 = Int32.ofNat (n + 1) ∧ aI (stP g n b) 24 = upd (aI g 24) n b ∧ (∀ a k, ¬ (a = 23 ∧ k = 2) → fI (stP g n b) a k = fI g a k) ∧ Tch [23, 24] g (stP g n b) :=
  ⟨fI_wF_eq (Sh_wA hs rfl _) rfl _, by unfold stP; rw [aI_wF]; exact aI_wA_eq hs rfl _, fun a k e => by unfold stP; rw [fI_wF_ne e, fI_wA], Tch_wF (Tch_wA (Tch_rfl _ g) (by decide) _) (by decide) _ _⟩
theorem stQ_r (hs : Sh g) (n : Nat) (b : Int32) : fI (stQ g n b) 81 13 = Int32.ofNat (n + 1) ∧ aI (stQ g n b) 90 = upd (aI g 90) n b ∧ (∀ a k, ¬ (a = 81 ∧ k = 13) → fI (stQ g n b) a k = fI g a k) ∧ Tch [81, 90] g (stQ g n b) :=
  ⟨fI_wF_eq (Sh_wA hs rfl _) rfl _, by unfold stQ; rw [aI_wF]; exact aI_wA_eq hs rfl _, fun a k e => by unfold stQ; rw [fI_wF_ne e, fI_wA], Tch_wF (Tch_wA (Tch_rfl _ g) (by decide) _) (by decide) _ _⟩
theorem put_st (hs : Sh g) {n : Nat} (hn : n < 400) (en : fI g 23 2 = Int32.ofNat n) (v : Int32) (m s : Nat) (hs2 : s < 32) : D_X5_put_3 (m + 1) g (some 23) v (Int32.ofNat s) = D_X5_put_3 m (stP g n (byt v s)) (some 23) v (Int32.ofNat s + (-8)) := by
  have s1 : Sh (wA g 24 (upd (aI g 24) n (byt v s))) := Sh_wA hs rfl _
  have n0 : ¬ Int32.ofNat s < 0 := not_neg (by omega)
  have n4 : ¬ (400 : Int32) ≤ Int32.ofNat n := by rw [Int32.le_iff_toInt_le, Int32.toInt_ofNat_of_lt (by omega)]; show ¬ (400 : Int) ≤ n; omega
  have t : (Int32.ofNat n).toNatClampNeg = n := tn_of (by omega)
  have e1 : Int32.ofNat n + 1 = Int32.ofNat (n + 1) := sc_add n 1
  show D_X5_put_3b (D_X5_put_3 m) g (some 23) v (Int32.ofNat s) = _
  simp only [D_X5_put_3b, n0, if_false, rdF_c hs, en, Option.bind_some, n4, rdQ_c hs, wrA_c hs, iW_ofNat hn (by decide), t]
  rw [show ((v >>> (Int32.ofNat s &&& 31)) &&& 255) = byt v s from rfl]
  simp only [rdF_c s1, fI_wA, en, wrF_c s1, Option.bind_some, e1, stP]
theorem four_st (hs : Sh g) {n : Nat} (hn : n < 400) (en : fI g 81 13 = Int32.ofNat n) (v : Int32) (m s : Nat) (hs2 : s < 32) : D_X11_four_3 (m + 1) g (some 81) v (Int32.ofNat s) = D_X11_four_3 m (stQ g n (byt v s)) (some 81) v (Int32.ofNat s + (-8)) := by
  have s1 : Sh (wA g 90 (upd (aI g 90) n (byt v s))) := Sh_wA hs rfl _
  have n0 : ¬ Int32.ofNat s < 0 := not_neg (by omega)
  have t : (Int32.ofNat n).toNatClampNeg = n := tn_of (by omega)
  have e1 : Int32.ofNat n + 1 = Int32.ofNat (n + 1) := sc_add n 1
  show D_X11_four_3b (D_X11_four_3 m) g (some 81) v (Int32.ofNat s) = _
  simp only [D_X11_four_3b, n0, if_false, rdF_m hs, en, Option.bind_some, rdQ_m hs, wrA_m hs, iW_ofNat hn (by decide), t]
  rw [show ((v >>> (Int32.ofNat s &&& 31)) &&& 255) = byt v s from rfl]
  simp only [rdF_m s1, fI_wA, en, wrF_m s1, Option.bind_some, e1, stQ]
theorem d_put (hs : Sh g) {n : Nat} (hn : n + 4 ≤ 400) (en : fI g 23 2 = Int32.ofNat n) (v : Int32) : ∃ g', D_X5_put g (some 23) v = some g' ∧ Sh g' ∧ fI g' 23 2 = Int32.ofNat (n + 4) ∧ aI g' 24 = P4f (aI g 24) n v ∧ (∀ a k, ¬ (a = 23 ∧ k = 2) → fI g' a k = fI g a k) ∧ Tch [23, 24] g g' := by
  have s1 := Sh_stP hs n (byt v 24)
  obtain ⟨a1, b1, c1, T1⟩ := stP_r hs n (byt v 24)
  have s2 := Sh_stP s1 (n + 1) (byt v 16)
  obtain ⟨a2, b2, c2, T2⟩ := stP_r s1 (n + 1) (byt v 16)
  have s3 := Sh_stP s2 (n + 1 + 1) (byt v 8)
  obtain ⟨a3, b3, c3, T3⟩ := stP_r s2 (n + 1 + 1) (byt v 8)
  have s4 := Sh_stP s3 (n + 1 + 1 + 1) (byt v 0)
  obtain ⟨a4, b4, c4, T4⟩ := stP_r s3 (n + 1 + 1 + 1) (byt v 0)
  refine ⟨_, ?_, s4, a4, ?_, fun a k e => (c4 a k e).trans ((c3 a k e).trans ((c2 a k e).trans (c1 a k e))), T1.trans (T2.trans (T3.trans T4))⟩
  · unfold D_X5_put
    rw [show z_F = 999995 + 1 + 1 + 1 + 1 + 1 from rfl, show (24 : Int32) = Int32.ofNat 24 from rfl, put_st hs (by omega) en v _ 24 (by decide), show Int32.ofNat 24 + (-8) = Int32.ofNat 16 by decide, put_st s1 (by omega) a1 v _ 16 (by decide), show Int32.ofNat 16 + (-8) = Int32.ofNat 8 by decide, put_st s2 (by omega) a2 v _ 8 (by decide), show Int32.ofNat 8 + (-8) = Int32.ofNat 0 by decide, put_st s3 (by omega) a3 v _ 0 (by decide)]
    show D_X5_put_3b (D_X5_put_3 999995) _ (some 23) v (Int32.ofNat 0 + -8) = _
    unfold D_X5_put_3b
    rw [if_pos (by decide)]
  · rw [b4, b3, b2, b1]; rfl
theorem d_four (hs : Sh g) {n : Nat} (hn : n + 4 ≤ 400) (en : fI g 81 13 = Int32.ofNat n) (v : Int32) : ∃ g', D_X11_four g (some 81) v = some g' ∧ Sh g' ∧ fI g' 81 13 = Int32.ofNat (n + 4) ∧ aI g' 90 = P4f (aI g 90) n v ∧ (∀ a k, ¬ (a = 81 ∧ k = 13) → fI g' a k = fI g a k) ∧ Tch [81, 90] g g' := by
  have s1 := Sh_stQ hs n (byt v 24)
  obtain ⟨a1, b1, c1, T1⟩ := stQ_r hs n (byt v 24)
  have s2 := Sh_stQ s1 (n + 1) (byt v 16)
  obtain ⟨a2, b2, c2, T2⟩ := stQ_r s1 (n + 1) (byt v 16)
  have s3 := Sh_stQ s2 (n + 1 + 1) (byt v 8)
  obtain ⟨a3, b3, c3, T3⟩ := stQ_r s2 (n + 1 + 1) (byt v 8)
  have s4 := Sh_stQ s3 (n + 1 + 1 + 1) (byt v 0)
  obtain ⟨a4, b4, c4, T4⟩ := stQ_r s3 (n + 1 + 1 + 1) (byt v 0)
  refine ⟨_, ?_, s4, a4, ?_, fun a k e => (c4 a k e).trans ((c3 a k e).trans ((c2 a k e).trans (c1 a k e))), T1.trans (T2.trans (T3.trans T4))⟩
  · unfold D_X11_four
    rw [show z_F = 999995 + 1 + 1 + 1 + 1 + 1 from rfl, show (24 : Int32) = Int32.ofNat 24 from rfl, four_st hs (by omega) en v _ 24 (by decide), show Int32.ofNat 24 + (-8) = Int32.ofNat 16 by decide, four_st s1 (by omega) a1 v _ 16 (by decide), show Int32.ofNat 16 + (-8) = Int32.ofNat 8 by decide, four_st s2 (by omega) a2 v _ 8 (by decide), show Int32.ofNat 8 + (-8) = Int32.ofNat 0 by decide, four_st s3 (by omega) a3 v _ 0 (by decide)]
    show D_X11_four_3b (D_X11_four_3 999995) _ (some 81) v (Int32.ofNat 0 + -8) = _
    unfold D_X11_four_3b
    rw [if_pos (by decide)]
  · rw [b4, b3, b2, b1]; rfl
theorem a_feed (H : Inv j h) (a b c d e : Int32) : Agree Inv j h (fun h => D_X10_feed h (some 0) a b c d e) (fun h => D_X11_feed h (some 81) a b c d e) := by
  have hs := H.1
  obtain ⟨t1, t2, t3, t4, t5, t6, t7, t8, t9⟩ := H.2.2.2.2.1
  obtain ⟨n, en, hn⟩ := t5
  have e20 : Int32.ofNat n + 20 = Int32.ofNat (n + 20) := sc_add n 20
  by_cases hc : n + 20 ≤ 400
  · have y1 : Int32.ofNat (n + 20) ≤ 400 := by rw [Int32.le_iff_toInt_le, Int32.toInt_ofNat_of_lt (by omega)]; show ((n + 20 : Nat) : Int) ≤ 400; omega
    obtain ⟨g1, d1, s1, f1, r1, k1, T1⟩ := d_put hs (n := n) (by omega) en a
    obtain ⟨g2, d2, s2, f2, r2, k2, T2⟩ := d_put s1 (n := n + 4) (by omega) f1 b
    obtain ⟨g3, d3, s3, f3, r3, k3, T3⟩ := d_put s2 (n := n + 4 + 4) (by omega) f2 c
    obtain ⟨g4, d4, s4, f4, r4, k4, T4⟩ := d_put s3 (n := n + 4 + 4 + 4) (by omega) f3 d
    obtain ⟨g5, d5, s5, f5, r5, k5, T5⟩ := d_put s4 (n := n + 4 + 4 + 4 + 4) (by omega) f4 e
    have T := T1.trans (T2.trans (T3.trans (T4.trans T5)))
    have kk : ∀ a k, ¬ (a = 23 ∧ k = 2) → fI g5 a k = fI h a k := fun a k q => (k5 a k q).trans ((k4 a k q).trans ((k3 a k q).trans ((k2 a k q).trans (k1 a k q))))
    have s6 := Sh_t0 s5
    have m0 : fI (t0 g5) 81 13 = Int32.ofNat n := by rw [fI_wF_ne (by decide), kk _ _ (by decide), ← t4]; exact en
    have m90 : aI (t0 g5) 90 = aI h 90 := by rw [aI_wF]; exact cell_aI (T.c (by decide))
    obtain ⟨g7, d7, s7, f7, r7, k7, T7⟩ := d_four s6 (n := n) (by omega) m0 a
    obtain ⟨g8, d8, s8, f8, r8, k8, T8⟩ := d_four s7 (n := n + 4) (by omega) f7 b
    obtain ⟨g9, d9, s9, f9, r9, k9, T9⟩ := d_four s8 (n := n + 4 + 4) (by omega) f8 c
    obtain ⟨g10, d10, s10, f10, r10, k10, T10⟩ := d_four s9 (n := n + 4 + 4 + 4) (by omega) f9 d
    obtain ⟨g11, d11, s11, f11, r11, k11, T11⟩ := d_four s10 (n := n + 4 + 4 + 4 + 4) (by omega) f10 e
    have TM := T7.trans (T8.trans (T9.trans (T10.trans T11)))
    have km : ∀ a k, ¬ (a = 81 ∧ k = 13) → fI g11 a k = fI (t0 g5) a k := fun a k q => (k11 a k q).trans ((k10 a k q).trans ((k9 a k q).trans ((k8 a k q).trans (k7 a k q))))
    have kt : ∀ a k, ¬ (a = 81 ∧ k = 13) → ¬ (a = 81 ∧ k = 0) → ¬ (a = 23 ∧ k = 2) → fI g11 a k = fI h a k := fun a k q1 q2 q3 => (km a k q1).trans ((fI_wF_ne q2).trans (kk a k q3))
    refine ⟨Int32.ofNat (n + 20), g5, g11, ?_, ob81 s5, ?_, ?_⟩
    · simp only [D_X10_feed, rdQ_c hs, rdF_c hs, en, Option.bind_some, e20, y1, if_true, rdO_c hs, d1, rdQ_c s1, rdO_c s1, d2, rdQ_c s2, rdO_c s2, d3, rdQ_c s3, rdO_c s3, d4, rdQ_c s4, rdO_c s4, d5, rdQ_c s5, rdF_c s5, f5]
    · simp only [D_X11_feed, wrF_m s5, Option.bind_some, rdF_m s6, m0, e20, y1, if_true, rdO_m s6, d7, rdO_m s7, d8, rdO_m s8, d9, rdO_m s9, d10, rdO_m s10, d11, rdF_m s11, f11]
    · have TT : Tch [23, 24, 81, 90] h g11 := (T.mono (by decide)).trans ((Tch_wF (Tch_rfl _ g5) (by decide) _ _).trans (TM.mono (by decide)))
      have l2 : fI g11 23 2 = Int32.ofNat (n + 20) := by rw [km _ _ (by decide), fI_wF_ne (by decide)]; exact f5
      refine Inv_told H TT s11 (by decide) (by decide) (kt _ _ (by decide) (by decide) (by decide)) (kt _ _ (by decide) (by decide) (by decide)) ⟨?_, ?_, fun i hi => ?_, ?_, ?_, ?_, ?_, ?_, ?_⟩
      · rw [kt _ _ (by decide) (by decide) (by decide), kt _ _ (by decide) (by decide) (by decide)]; exact t1
      · rw [kt _ _ (by decide) (by decide) (by decide), kt _ _ (by decide) (by decide) (by decide)]; exact t2
      · rw [cell_aI (TT.c (by decide)), cell_aI (TT.c (by decide))]; exact t3 i hi
      · rw [l2]; exact f11.symm
      · rw [l2]; exact ⟨n + 20, rfl, hc⟩
      · have x1 : aI g11 24 = aI g5 24 := by rw [cell_aI (TM.c (by decide)), aI_wF]
        rw [x1, r5, r4, r3, r2, r1, r11, r10, r9, r8, r7, m90]
        exact P4f_same (P4f_same (P4f_same (P4f_same (P4f_same t6))))
      · rw [kt _ _ (by decide) (by decide) (by decide), kt _ _ (by decide) (by decide) (by decide)]; exact t7
      · rw [kt _ _ (by decide) (by decide) (by decide), kt _ _ (by decide) (by decide) (by decide)]; exact t8
      · rw [kt _ _ (by decide) (by decide) (by decide)]; exact t9
  · have y1 : ¬ Int32.ofNat (n + 20) ≤ 400 := by rw [Int32.le_iff_toInt_le, Int32.toInt_ofNat_of_lt (by omega)]; show ¬ ((n + 20 : Nat) : Int) ≤ 400; omega
    have s6 := Sh_t0 hs
    have m0 : fI (t0 h) 81 13 = Int32.ofNat n := by rw [fI_wF_ne (by decide), ← t4]; exact en
    refine agree_none H (x := -1) ?_ ?_
    · simp only [D_X10_feed, rdQ_c hs, rdF_c hs, en, Option.bind_some, e20, y1, if_false]
    · simp only [D_X11_feed, wrF_m hs, Option.bind_some, rdF_m s6, m0, e20, y1, if_false]
end C9
