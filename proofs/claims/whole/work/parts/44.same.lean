/-! WHAT A CALL MAY USE ON PAPER: cells and fields on which the invariant does not look -/
def prs (a : Nat) : Bool := decide (a ≤ 22) || a == 24 || (decide (62 ≤ a) && decide (a ≤ 80)) || (decide (82 ≤ a) && decide (a ≤ 87)) || a == 90 || a == 96 || a == 97 || a == 98 || a == 111 || a == 113 || decide (114 ≤ a)
def keyF : List (Nat × Nat) := [(23, 2), (23, 3), (34, 6), (81, 1), (81, 8), (81, 11), (81, 13), (81, 18), (81, 20), (81, 54), (81, 58)]
def Same (h h' : z_H) : Prop := Sh h' ∧ h'.1 = h.1 ∧ h'.2.1 = h.2.1 ∧ (∀ a, prs a = true → h'.2.2 a = h.2.2 a) ∧ ∀ q ∈ keyF, fI h' q.1 q.2 = fI h q.1 q.2
theorem Same.rfl' {h : z_H} (hs : Sh h) : Same h h := ⟨hs, rfl, rfl, fun _ _ => rfl, fun _ _ => rfl⟩
theorem Same.trans {h1 h2 h3 : z_H} (a : Same h1 h2) (b : Same h2 h3) : Same h1 h3 :=
  ⟨b.1, b.2.1.trans a.2.1, b.2.2.1.trans a.2.2.1, fun x hx => (b.2.2.2.1 x hx).trans (a.2.2.2.1 x hx), fun q hq => (b.2.2.2.2 q hq).trans (a.2.2.2.2 q hq)⟩
theorem Same_wA {h : z_H} (hs : Sh h) {a : Nat} (e : isA a = true) (np : prs a = false) (f : Nat → Int32) : Same h (wA h a f) :=
  ⟨Sh_wA hs e f, rfl, rfl, fun b hb => wA_ne (fun q => by rw [q, np] at hb; cases hb), fun _ _ => fI_wA _ _ _ _⟩
theorem Same_wJ {h : z_H} (hs : Sh h) {a : Nat} (e : isAJ a = true) (np : prs a = false) (f : Nat → Int64) : Same h (wJ h a f) :=
  ⟨Sh_wJ hs e f, rfl, rfl, fun b hb => wJ_ne (fun q => by rw [q, np] at hb; cases hb), fun _ _ => fI_wJ _ _ _ _⟩
theorem Same_wF {h : z_H} (hs : Sh h) {a k : Nat} (e : isF a k = true) (np : prs a = false) (nk : keyF.contains (a, k) = false) (x : Int32) : Same h (wF h a k (.int x)) :=
  ⟨Sh_wF hs e x, rfl, rfl, fun b hb => wF_ne (fun q => by rw [q, np] at hb; cases hb), fun q hq => fI_wF_ne (fun z => by
    have : keyF.contains (a, k) = true := by rw [← z.1, ← z.2]; exact List.contains_iff_mem.mpr hq
    rw [nk] at this; cases this)⟩
theorem Same_wFJ {h : z_H} (hs : Sh h) {a k : Nat} (e : isJ a k = true) (np : prs a = false) (nk : keyF.contains (a, k) = false) (x : Int64) : Same h (wF h a k (.long x)) :=
  ⟨Sh_wFJ hs e x, rfl, rfl, fun b hb => wF_ne (fun q => by rw [q, np] at hb; cases hb), fun q hq => fI_wF_ne (fun z => by
    have : keyF.contains (a, k) = true := by rw [← z.1, ← z.2]; exact List.contains_iff_mem.mpr hq
    rw [nk] at this; cases this)⟩
theorem Txt.kept {h h' : z_H} {t n c : Nat} {op ar cl : Nat → Int32} (H : Txt h t n c op ar cl) (h1 : h.1 ≤ h'.1) (h2 : ∀ a, 114 ≤ a → a < h.1 → h'.2.2 a = h.2.2 a) : Txt h' t n c op ar cl := by
  obtain ⟨a1, a2, a3, a4, a5, a6, a7, a8⟩ := H
  exact ⟨a1, by omega, a3, a4, by rw [h2 t a1 (by omega)]; exact a5, by rw [h2 (t + 1) (by omega) (by omega)]; exact a6, by rw [h2 (t + 2) (by omega) (by omega)]; exact a7, by rw [h2 (t + 3) (by omega) (by omega)]; exact a8⟩
theorem Yok.kept {h h' : z_H} {a : Nat} (H : Yok h a) (h2 : ∀ q, q ≤ 8 → h'.2.2 (a + q) = h.2.2 (a + q)) : Yok h' a := by
  have e0 := h2 0 (by omega)
  rw [Nat.add_zero] at e0
  unfold Yok at H ⊢
  simp only [cell_fI e0, cell_aI (h2 1 (by omega)), cell_aI (h2 2 (by omega)), cell_aI (h2 3 (by omega)), cell_aI (h2 4 (by omega)), cell_aI (h2 5 (by omega)), cell_aI (h2 6 (by omega)), cell_aI (h2 7 (by omega))]
  exact H
theorem Yeq.kept {h h' : z_H} {a : Nat} {m : Nat → Int32} (H : Yeq h a m) (h2 : ∀ q, q ≤ 8 → h'.2.2 (a + q) = h.2.2 (a + q)) : Yeq h' a m := by
  have e0 := h2 0 (by omega)
  rw [Nat.add_zero] at e0
  unfold Yeq at H ⊢
  simp only [cell_fI e0, cell_aI (h2 1 (by omega)), cell_aI (h2 2 (by omega)), cell_aI (h2 3 (by omega)), cell_aI (h2 4 (by omega)), cell_aI (h2 5 (by omega)), cell_aI (h2 6 (by omega)), cell_aI (h2 7 (by omega))]
  exact H
theorem Ylaw.kept {h h' : z_H} {a : Nat} {m : Nat → Int32} (H : Ylaw h a m) (h2 : ∀ q, q ≤ 8 → h'.2.2 (a + q) = h.2.2 (a + q)) (h1 : h.1 ≤ h'.1) (h3 : ∀ a, 114 ≤ a → a < h.1 → h'.2.2 a = h.2.2 a) : Ylaw h' a m := by
  have e0 := h2 0 (by omega)
  rw [Nat.add_zero] at e0
  obtain ⟨H1, H2⟩ := H
  refine ⟨fun k hk => ?_, fun k hk => ?_⟩
  · rw [cell_aQ (h2 8 (by omega))]
    rcases H1 k hk with q | ⟨t, n, c, op, ar, cl, q1, q2⟩
    · exact Or.inl q
    · exact Or.inr ⟨t, n, c, op, ar, cl, q1, q2.kept h1 h3⟩
  · rw [cell_fI e0] at hk
    rw [cell_aQ (h2 8 (by omega))]
    obtain ⟨t, n, c, op, ar, cl, q1, q2, q3⟩ := H2 k hk
    exact ⟨t, n, c, op, ar, cl, q1, q2.kept h1 h3, q3⟩
theorem Yrel.kept {h h' : z_H} {a : Nat} {m : Nat → Int32} (H : Yrel h a m) (h2 : ∀ q, q ≤ 8 → h'.2.2 (a + q) = h.2.2 (a + q)) (h1 : h.1 ≤ h'.1) (h3 : ∀ a, 114 ≤ a → a < h.1 → h'.2.2 a = h.2.2 a) : Yrel h' a m := ⟨H.1.kept h2, H.2.1.kept h2, H.2.2.kept h2 h1 h3⟩
theorem prs_yard {a q : Nat} (ha : a = 1 ∨ a = 63 ∨ a = 72) (hq : q ≤ 8) : prs (a + q) = true := by
  unfold prs
  simp only [Bool.or_eq_true, Bool.and_eq_true, decide_eq_true_eq, beq_iff_eq]
  omega
theorem prs_big {a : Nat} (ha : 114 ≤ a) : prs a = true := by
  unfold prs
  simp only [Bool.or_eq_true, Bool.and_eq_true, decide_eq_true_eq, beq_iff_eq]
  omega
theorem Inv_same {j : Nat} {h h' : z_H} (H : Inv j h) (S : Same h h') : Inv (j + 1) h' := by
  obtain ⟨i1, ⟨i2, i3⟩, i4, i5, i6, i7, i8, i9⟩ := H
  obtain ⟨s1, s2, s3, s4, s5⟩ := S
  have big : ∀ a, 114 ≤ a → a < h.1 → h'.2.2 a = h.2.2 a := fun a ha _ => s4 a (prs_big ha)
  have f := fun q hq => s5 q hq
  have k1 := s5 (23, 2) (by decide)
  have k2 := s5 (23, 3) (by decide)
  have k3 := s5 (34, 6) (by decide)
  have k4 := s5 (81, 1) (by decide)
  have k5 := s5 (81, 8) (by decide)
  have k6 := s5 (81, 11) (by decide)
  have k7 := s5 (81, 13) (by decide)
  have k8 := s5 (81, 18) (by decide)
  have k9 := s5 (81, 20) (by decide)
  have k10 := s5 (81, 54) (by decide)
  have k11 := s5 (81, 58) (by decide)
  have c := fun a (ha : prs a = true) => s4 a ha
  refine ⟨s1, ⟨by omega, by omega⟩, ?_, ?_, ?_, ?_, ?_, ?_⟩
  · rw [cell_aI (c 83 (by decide))]
    exact i4.kept (fun q hq => c (1 + q) (prs_yard (Or.inl rfl) hq)) (by omega) big
  · unfold Ulog at i5 ⊢
    simp only [k5, cell_fI (c 21 (by decide)), cell_fI (c 1 (by decide)), cell_aI (c 22 (by decide)), cell_aI (c 83 (by decide)), cell_aI (c 86 (by decide)), cell_aI (c 87 (by decide))]
    exact i5
  · unfold Told at i6 ⊢
    simp only [k1, k2, k3, k4, k6, k7, k8, k9, k10, cell_fI (c 0 (by decide)), cell_aI (c 62 (by decide)), cell_aI (c 82 (by decide)), cell_aI (c 24 (by decide)), cell_aI (c 90 (by decide))]
    exact i6
  · obtain ⟨m1, m2, m3⟩ := i7
    unfold Imgs
    rw [cell_aQ (c 10 (by decide)), cell_aI (c 11 (by decide)), cell_aI (c 85 (by decide)), cell_aI (c 84 (by decide))]
    refine ⟨m1, m2, fun k hk => ⟨(m3 k hk).1, ?_⟩⟩
    rcases (m3 k hk).2 with q | ⟨q1, q2⟩
    · exact Or.inl q
    · refine Or.inr ⟨q1, q2.kept (fun q hq => c _ (prs_yard ?_ hq)) (by omega) big⟩
      omega
  · unfold Drwn at i8 ⊢
    simp only [k11, cell_fI (c 12 (by decide)), cell_aI (c 13 (by decide)), cell_aI (c 14 (by decide)), cell_aI (c 16 (by decide)), cell_aI (c 113 (by decide))]
    exact i8
  · unfold Cnst at i9 ⊢
    simp only [cell_aJ (c 96 (by decide)), cell_aJ (c 97 (by decide)), cell_aJ (c 98 (by decide)), cell_aJ (c 111 (by decide))]
    exact i9
