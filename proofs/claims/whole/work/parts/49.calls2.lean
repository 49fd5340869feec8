section C2
variable {S : List Nat} {j : Nat} {h h2 : z_H}
/-- a call that changes the yard but for its laws -/
theorem Inv_yard (H : Inv j h) (hs2 : Sh h2) (T : Tch S h h2) (b : low S = true) (f : fre S ([9, 10, 11, 12, 13, 14, 16, 84, 85, 96, 97, 98, 111, 113] ++ (List.range 18).map (fun k => 63 + k)) = true) (e58 : fI h2 81 58 = fI h 81 58) (e11 : fI h2 1 11 = fI h 1 11) (row : ∀ i, 62 ≤ i → aI h2 83 i = aI h 83 i) (Y1 : Yok h2 1) (Y2 : Yeq h2 1 (aI h2 83)) (U : Ulog h2) (t : Told h2) : Inv (j + 1) h2 := by
  obtain ⟨i1, ⟨i2, i3⟩, ⟨-, -, l1, l2⟩, i5, i6, i7, i8, i9⟩ := H
  have sub : ∀ l : List Nat, (∀ a ∈ l, a ∈ ([9, 10, 11, 12, 13, 14, 16, 84, 85, 96, 97, 98, 111, 113] ++ (List.range 18).map (fun k => 63 + k))) → fre S l = true := fun l hl => by
    apply List.all_eq_true.mpr
    intro a ha
    simpa using fre_spec f (hl a ha)
  have e9 : aQ h2 (1 + 8) = aQ h (1 + 8) := cell_aQ (T.c (fre_spec f (by decide : 9 ∈ _)))
  have kp : ∀ {t n c : Nat} {op ar cl : Nat → Int32}, Txt h t n c op ar cl → Txt h2 t n c op ar cl := fun X => X.kept (Nat.le_of_eq T.1.symm) (fun a ha _ => T.c (low_spec b ha))
  refine ⟨hs2, ⟨by rw [T.1]; omega, by rw [T.2.1]; omega⟩, ⟨Y1, Y2, fun k hk => ?_, fun k hk => ?_⟩, U, t, Imgs_T i7 T (sub _ (by decide)) b, Drwn_T i8 T (sub _ (by decide)) e58, Cnst_T i9 T (sub _ (by decide))⟩
  · rw [e9]
    rcases l1 k hk with q | ⟨t, n, c, op, ar, cl, z1, z2⟩
    · exact Or.inl q
    · exact Or.inr ⟨t, n, c, op, ar, cl, z1, kp z2⟩
  · rw [e11] at hk
    obtain ⟨t, n, c, op, ar, cl, z1, z2, z3⟩ := l2 k hk
    refine ⟨t, n, c, op, ar, cl, by rw [e9]; exact z1, kp z2, ?_⟩
    have e : (fun i => aI h2 83 (62 + 900 * k + i)) = (fun i => aI h 83 (62 + 900 * k + i)) := by
      funext i
      exact row _ (by omega)
    rw [e]; exact z3
/-- what is told stays, but for the status -/
theorem Told_T (H : Told h) (T : Tch S h h2) (f : fre S [24, 62, 82, 90] = true) (st : fI h2 0 13 = fI h2 81 1) (e : ∀ q ∈ [(0, 14), (81, 11), (23, 2), (81, 13), (23, 3), (81, 18), (34, 6), (81, 54), (81, 20)], fI h2 q.1 q.2 = fI h q.1 q.2) : Told h2 := by
  obtain ⟨t1, t2, t3, t4, t5, t6, t7, t8, t9⟩ := H
  have k1 := e (0, 14) (by decide)
  have k2 := e (81, 11) (by decide)
  have k3 := e (23, 2) (by decide)
  have k4 := e (81, 13) (by decide)
  have k5 := e (23, 3) (by decide)
  have k6 := e (81, 18) (by decide)
  have k7 := e (34, 6) (by decide)
  have k8 := e (81, 54) (by decide)
  have k9 := e (81, 20) (by decide)
  unfold Told
  simp only [k1, k2, k3, k4, k5, k6, k7, k8, k9, cell_aI (T.c (fre_spec f (by decide : 62 ∈ _))), cell_aI (T.c (fre_spec f (by decide : 82 ∈ _))), cell_aI (T.c (fre_spec f (by decide : 24 ∈ _))), cell_aI (T.c (fre_spec f (by decide : 90 ∈ _)))]
  exact ⟨st, t2, t3, t4, t5, t6, t7, t8, t9⟩
theorem upd_ne {f : Nat → Int32} {k i : Nat} {x : Int32} (e : i ≠ k) : upd f k x i = f i := by unfold upd; rw [if_neg e]
theorem upd_eq {f : Nat → Int32} {k : Nat} {x : Int32} : upd f k x k = x := by unfold upd; rw [if_pos rfl]
/-- reads of the yard stay, but one number -/
theorem Yok_num {k0 : Nat} (H : Yok h 1) (c : ∀ a, a ≠ 1 → 2 ≤ a → a ≤ 8 → aI h2 a = aI h a) (e : ∀ k, k ≠ k0 → fI h2 1 k = fI h 1 k) (n : (k0 = 9 ∧ nb (fI h2 1 9) 33554431) ∨ (k0 = 10 ∧ nb (fI h2 1 10) 6) ∨ (k0 = 12 ∧ (fI h2 1 12 = -1 ∨ ∃ k : Nat, fI h2 1 12 = Int32.ofNat k ∧ k < tn (fI h 1 11)))) : Yok h2 1 := by
  obtain ⟨y1, y2, y3, y4, y5, y6, y7, y8, y9, y10⟩ := H
  unfold Yok
  simp only [c (1 + 1) (by decide) (by decide) (by decide), c (1 + 2) (by decide) (by decide) (by decide), c (1 + 3) (by decide) (by decide) (by decide), c (1 + 4) (by decide) (by decide) (by decide), c (1 + 5) (by decide) (by decide) (by decide), c (1 + 6) (by decide) (by decide) (by decide), c (1 + 7) (by decide) (by decide) (by decide)]
  rcases n with ⟨rfl, n⟩ | ⟨rfl, n⟩ | ⟨rfl, n⟩
  · rw [e 8 (by decide), e 10 (by decide), e 11 (by decide), e 12 (by decide)]
    exact ⟨y1, n, y3, y4, y5, y6, y7, y8, y9, y10⟩
  · rw [e 8 (by decide), e 9 (by decide), e 11 (by decide), e 12 (by decide)]
    exact ⟨y1, y2, n, y4, y5, y6, y7, y8, y9, y10⟩
  · rw [e 8 (by decide), e 9 (by decide), e 10 (by decide), e 11 (by decide)]
    exact ⟨y1, y2, y3, y4, n, y6, y7, y8, y9, y10⟩
theorem Yeq_num {k0 m0 : Nat} {x : Int32} (H : Yeq h 1 (aI h 83)) (c : ∀ a, a ≠ 1 → 2 ≤ a → a ≤ 8 → aI h2 a = aI h a) (e : ∀ k, k ≠ k0 → fI h2 1 k = fI h 1 k) (e0 : fI h2 1 k0 = x) (r : aI h2 83 = upd (aI h 83) m0 x) (n : (k0 = 9 ∧ m0 = 4) ∨ (k0 = 10 ∧ m0 = 1) ∨ (k0 = 12 ∧ m0 = 3)) : Yeq h2 1 (aI h2 83) := by
  obtain ⟨q0, q4, q1, q2, q3, q5, q6, q7⟩ := H
  have hm : m0 < 5 := by omega
  unfold Yeq
  simp only [c (1 + 1) (by decide) (by decide) (by decide), c (1 + 2) (by decide) (by decide) (by decide), c (1 + 3) (by decide) (by decide) (by decide), c (1 + 4) (by decide) (by decide) (by decide), c (1 + 5) (by decide) (by decide) (by decide), c (1 + 6) (by decide) (by decide) (by decide), c (1 + 7) (by decide) (by decide) (by decide), r]
  have tl : (∀ i, i < 6 → upd (aI h 83) m0 x (8 + i) = aI h (1 + 1) i ∧ upd (aI h 83) m0 x (14 + i) = aI h (1 + 2) i ∧ upd (aI h 83) m0 x (44 + i) = aI h (1 + 3) i ∧ upd (aI h 83) m0 x (50 + 2 * i) = aI h (1 + 6) i ∧ upd (aI h 83) m0 x (51 + 2 * i) = aI h (1 + 7) i) ∧ (∀ i, i < 24 → upd (aI h 83) m0 x (20 + i) = aI h (1 + 4) i) ∧ ∀ i, i < 3 → upd (aI h 83) m0 x (5 + i) = aI h (1 + 5) i := by
    refine ⟨fun i hi => ?_, fun i hi => ?_, fun i hi => ?_⟩
    · rw [upd_ne (by omega), upd_ne (by omega), upd_ne (by omega), upd_ne (by omega), upd_ne (by omega)]
      exact q5 i hi
    · rw [upd_ne (by omega)]; exact q6 i hi
    · rw [upd_ne (by omega)]; exact q7 i hi
  rcases n with ⟨rfl, rfl⟩ | ⟨rfl, rfl⟩ | ⟨rfl, rfl⟩
  · rw [e 8 (by decide), e 10 (by decide), e 11 (by decide), e 12 (by decide), e0, upd_ne (by decide), upd_eq, upd_ne (by decide), upd_ne (by decide), upd_ne (by decide)]
    exact ⟨q0, rfl, q1, q2, q3, tl⟩
  · rw [e 8 (by decide), e 9 (by decide), e 11 (by decide), e 12 (by decide), e0, upd_ne (by decide), upd_ne (by decide), upd_eq, upd_ne (by decide), upd_ne (by decide)]
    exact ⟨q0, q4, rfl, q2, q3, tl⟩
  · rw [e 8 (by decide), e 9 (by decide), e 10 (by decide), e 11 (by decide), e0, upd_ne (by decide), upd_ne (by decide), upd_ne (by decide), upd_ne (by decide), upd_eq]
    exact ⟨q0, q4, q1, q2, rfl, tl⟩
theorem a_forget (H : Inv j h) : Agree Inv j h (fun h => D_X10_forget h (some 0)) (fun h => D_X11_forget h (some 81)) := by
  have hs := H.1
  have s1 : Sh (wF h 1 10 (.int 0)) := Sh_wF hs rfl _
  have s2 := Sh_t0 s1
  refine ⟨fI h 1 10, wF h 1 10 (.int 0), wA (t0 (wF h 1 10 (.int 0))) 83 (upd (aI h 83) 1 0), ?_, ob81 s1, ?_, ?_⟩
  · simp only [D_X10_forget, rdQ_c hs, rdF_c hs, wrF_c hs, Option.bind_some]
  · have e : aI h 83 1 = fI h 1 10 := H.2.2.1.2.1.2.2.1
    simp only [D_X11_forget, wrF_m s1, Option.bind_some, rdQ_m s2, rdA_m s2, wrA_m s2, aI_wF, iRs, iWs, tns, e, Nat.reduceLT, Nat.reduceLeDiff]
  · generalize e2 : wA (t0 (wF h 1 10 (.int 0))) 83 (upd (aI h 83) 1 0) = g
    have s3 : Sh g := by rw [← e2]; exact Sh_wA s2 rfl _
    have T : Tch [1, 81, 83] h g := by rw [← e2]; exact Tch_wA (Tch_wF (Tch_wF (Tch_rfl _ h) (by decide) _ _) (by decide) _ _) (by decide) _
    have r83 : aI g 83 = upd (aI h 83) 1 0 := by rw [← e2]; exact aI_wA_eq s2 rfl _
    have rF : ∀ a k, ¬ (a = 1 ∧ k = 10) → ¬ (a = 81 ∧ k = 0) → fI g a k = fI h a k := fun a k e1 e3 => by
      rw [← e2, fI_wA, fI_wF_ne e3, fI_wF_ne e1]
    have r10 : fI g 1 10 = 0 := by rw [← e2, fI_wA, fI_wF_ne (by decide), fI_wF_eq hs rfl]
    have rA : ∀ a, a ∉ [1, 81, 83] → aI g a = aI h a := fun a ha => cell_aI (T.c ha)
    refine Inv_yard H s3 T (by decide) (by decide) (rF _ _ (by decide) (by decide)) (rF _ _ (by decide) (by decide)) (fun i hi => by rw [r83, upd_ne (by omega)]) (Yok_num (k0 := 10) H.2.2.1.1 (fun a a1 a2 a3 => rA a (by simp; omega)) (fun k hk => rF 1 k (by omega) (by omega)) (Or.inr (Or.inl ⟨rfl, by rw [r10]; exact ⟨0, rfl, by omega⟩⟩))) (Yeq_num (k0 := 10) (m0 := 1) H.2.2.1.2.1 (fun a a1 a2 a3 => rA a (by simp; omega)) (fun k hk => rF 1 k (by omega) (by omega)) r10 r83 (Or.inr (Or.inl ⟨rfl, rfl⟩))) (Ulog_R H.2.2.2.1 (rF _ _ (by decide) (by decide)) (rF _ _ (by decide) (by decide)) (rF _ _ (by decide) (by decide)) (rA _ (by decide)) (rA _ (by decide)) (rA _ (by decide)) (fun q hq => by rw [r83, upd_ne (by omega)])) (Told_T H.2.2.2.2.1 T (by decide) ?_ (fun q hq => ?_))
    · rw [rF _ _ (by decide) (by decide), rF _ _ (by decide) (by decide)]; exact H.2.2.2.2.1.1
    · simp only [List.mem_cons, List.not_mem_nil, or_false] at hq
      rcases hq with rfl | rfl | rfl | rfl | rfl | rfl | rfl | rfl | rfl <;> exact rF _ _ (by decide) (by decide)
end C2
