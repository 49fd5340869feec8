/-! WHICH CELLS A RUN TOUCHED, and what stays then -/
def Tch (S : List Nat) (h h' : z_H) : Prop := h'.1 = h.1 ∧ h'.2.1 = h.2.1 ∧ ∀ a, a ∉ S → h'.2.2 a = h.2.2 a
theorem Tch_rfl (S : List Nat) (h : z_H) : Tch S h h := ⟨rfl, rfl, fun _ _ => rfl⟩
theorem Tch.trans {S : List Nat} {h1 h2 h3 : z_H} (a : Tch S h1 h2) (b : Tch S h2 h3) : Tch S h1 h3 := ⟨b.1.trans a.1, b.2.1.trans a.2.1, fun x hx => (b.2.2 x hx).trans (a.2.2 x hx)⟩
theorem Tch.up {S : List Nat} {h h1 : z_H} (T : Tch S h h1) {a : Nat} (ha : a ∈ S) (x : z_E) : Tch S h (z_up h1 a x) := ⟨T.1, T.2.1, fun b hb => (up_ne (fun q => hb (by rw [q]; exact ha))).trans (T.2.2 b hb)⟩
theorem Tch_wA {S : List Nat} {h h1 : z_H} (T : Tch S h h1) {a : Nat} (ha : a ∈ S) (f : Nat → Int32) : Tch S h (wA h1 a f) := T.up ha _
theorem Tch_wJ {S : List Nat} {h h1 : z_H} (T : Tch S h h1) {a : Nat} (ha : a ∈ S) (f : Nat → Int64) : Tch S h (wJ h1 a f) := T.up ha _
theorem Tch_wQ {S : List Nat} {h h1 : z_H} (T : Tch S h h1) {a : Nat} (ha : a ∈ S) (f : Nat → Option Nat) : Tch S h (wQ h1 a f) := T.up ha _
theorem Tch_wF {S : List Nat} {h h1 : z_H} (T : Tch S h h1) {a : Nat} (ha : a ∈ S) (k : Nat) (v : Value) : Tch S h (wF h1 a k v) := T.up ha _
def fre (S l : List Nat) : Bool := l.all (fun a => !S.contains a)
theorem fre_spec {S l : List Nat} (e : fre S l = true) {a : Nat} (ha : a ∈ l) : a ∉ S := by
  have := List.all_eq_true.mp e a ha
  simpa using this
def low (S : List Nat) : Bool := S.all (fun a => decide (a < 114))
theorem low_spec {S : List Nat} (e : low S = true) {a : Nat} (ha : 114 ≤ a) : a ∉ S := fun q => by
  have := List.all_eq_true.mp e a q
  simp at this
  omega
section KP
variable {S : List Nat} {h h' : z_H}
theorem Tch.c (T : Tch S h h') {a : Nat} (ha : a ∉ S) : h'.2.2 a = h.2.2 a := T.2.2 a ha
theorem Yrel_T {a : Nat} {m : Nat → Int32} (H : Yrel h a m) (T : Tch S h h') (f : ∀ q, q ≤ 8 → a + q ∉ S) (b : low S = true) : Yrel h' a m :=
  H.kept (fun q hq => T.c (f q hq)) (Nat.le_of_eq T.1.symm) (fun x hx _ => T.c (low_spec b hx))
theorem Ulog_T (H : Ulog h) (T : Tch S h h') (f : fre S [1, 21, 22, 83, 86, 87] = true) (e : fI h' 81 8 = fI h 81 8) : Ulog h' := by
  unfold Ulog at H ⊢
  simp only [e, cell_fI (T.c (fre_spec f (by decide : 21 ∈ _))), cell_fI (T.c (fre_spec f (by decide : 1 ∈ _))), cell_aI (T.c (fre_spec f (by decide : 22 ∈ _))), cell_aI (T.c (fre_spec f (by decide : 83 ∈ _))), cell_aI (T.c (fre_spec f (by decide : 86 ∈ _))), cell_aI (T.c (fre_spec f (by decide : 87 ∈ _)))]
  exact H
theorem Imgs_T (H : Imgs h) (T : Tch S h h') (f : fre S ([10, 11, 84, 85] ++ (List.range 18).map (fun k => 63 + k)) = true) (b : low S = true) : Imgs h' := by
  obtain ⟨m1, m2, m3⟩ := H
  unfold Imgs
  rw [cell_aQ (T.c (fre_spec f (by decide : 10 ∈ _))), cell_aI (T.c (fre_spec f (by decide : 11 ∈ _))), cell_aI (T.c (fre_spec f (by decide : 85 ∈ _))), cell_aI (T.c (fre_spec f (by decide : 84 ∈ _)))]
  refine ⟨m1, m2, fun k hk => ⟨(m3 k hk).1, ?_⟩⟩
  rcases (m3 k hk).2 with q | ⟨q1, q2⟩
  · exact Or.inl q
  · refine Or.inr ⟨q1, Yrel_T q2 T (fun q hq => fre_spec f ?_) b⟩
    refine List.mem_append_right _ (List.mem_map.mpr ⟨9 * k + q, List.mem_range.mpr (by omega), by omega⟩)
theorem Drwn_T (H : Drwn h) (T : Tch S h h') (f : fre S [12, 13, 14, 16, 113] = true) (e : fI h' 81 58 = fI h 81 58) : Drwn h' := by
  unfold Drwn at H ⊢
  simp only [e, cell_fI (T.c (fre_spec f (by decide : 12 ∈ _))), cell_aI (T.c (fre_spec f (by decide : 13 ∈ _))), cell_aI (T.c (fre_spec f (by decide : 14 ∈ _))), cell_aI (T.c (fre_spec f (by decide : 16 ∈ _))), cell_aI (T.c (fre_spec f (by decide : 113 ∈ _)))]
  exact H
theorem Cnst_T (H : Cnst h) (T : Tch S h h') (f : fre S [96, 97, 98, 111] = true) : Cnst h' := by
  unfold Cnst at H ⊢
  simp only [cell_aJ (T.c (fre_spec f (by decide : 96 ∈ _))), cell_aJ (T.c (fre_spec f (by decide : 97 ∈ _))), cell_aJ (T.c (fre_spec f (by decide : 98 ∈ _))), cell_aJ (T.c (fre_spec f (by decide : 111 ∈ _)))]
  exact H
/-- only what is told has changed -/
theorem Inv_told {j : Nat} (H : Inv j h) (T : Tch S h h') (hs' : Sh h') (f : fre S ([1, 2, 3, 4, 5, 6, 7, 8, 9, 10, 11, 12, 13, 14, 16, 21, 22, 83, 84, 85, 86, 87, 96, 97, 98, 111, 113] ++ (List.range 18).map (fun k => 63 + k)) = true) (b : low S = true) (e8 : fI h' 81 8 = fI h 81 8) (e58 : fI h' 81 58 = fI h 81 58) (t : Told h') : Inv (j + 1) h' := by
  obtain ⟨i1, ⟨i2, i3⟩, i4, i5, i6, i7, i8, i9⟩ := H
  have sub : ∀ l : List Nat, (∀ a ∈ l, a ∈ ([1, 2, 3, 4, 5, 6, 7, 8, 9, 10, 11, 12, 13, 14, 16, 21, 22, 83, 84, 85, 86, 87, 96, 97, 98, 111, 113] ++ (List.range 18).map (fun k => 63 + k))) → fre S l = true := fun l hl => by
    apply List.all_eq_true.mpr
    intro a ha
    simpa using fre_spec f (hl a ha)
  refine ⟨hs', ⟨by rw [T.1]; omega, by rw [T.2.1]; omega⟩, ?_, Ulog_T i5 T (sub _ (by decide)) e8, t, Imgs_T i7 T (sub _ (by decide)) b, Drwn_T i8 T (sub _ (by decide)) e58, Cnst_T i9 T (sub _ (by decide))⟩
  rw [cell_aI (T.c (fre_spec f (by decide : 83 ∈ _)))]
  exact Yrel_T i4 T (fun q hq => fre_spec f (List.mem_append_left _ (by
    have : q = 0 ∨ q = 1 ∨ q = 2 ∨ q = 3 ∨ q = 4 ∨ q = 5 ∨ q = 6 ∨ q = 7 ∨ q = 8 := by omega
    rcases this with rfl | rfl | rfl | rfl | rfl | rfl | rfl | rfl | rfl <;> decide))) b
end KP
/-! refusals and grants -/
section RF
variable {h : z_H}
/-- the class refuses by -k -/
def rfC (h : z_H) (k : Nat) : z_H := wA (wF h 0 13 (.int (-(Int32.ofNat k)))) 62 (upd (aI h 62) k (aI h 62 k + 1))
def rfM (h : z_H) (k : Nat) : z_H := wA (wF h 81 1 (.int (-(Int32.ofNat k)))) 82 (upd (aI h 82) k (aI h 82 k + 1))
theorem Sh_rfC (hs : Sh h) (k : Nat) : Sh (rfC h k) := Sh_wA (Sh_wF hs rfl _) rfl _
theorem Sh_rfM (hs : Sh h) (k : Nat) : Sh (rfM h k) := Sh_wA (Sh_wF hs rfl _) rfl _
theorem neg_neg32 (x : Int32) : -(-x) = x := Int32.neg_neg
theorem d_refuse (hs : Sh h) {k : Nat} (hk : k < 7) : D_X10_refuse h (some 0) (-(Int32.ofNat k)) = some (-(Int32.ofNat k), rfC h k) := by
  have hs1 : Sh (wF h 0 13 (.int (-(Int32.ofNat k)))) := Sh_wF hs rfl _
  have e1 : (Int32.ofNat k).toNatClampNeg = k := tn_of (by omega)
  simp only [D_X10_refuse, wrF_c hs, Option.bind_some, rdQ_c hs1, rdA_c hs1, wrA_c hs1, aI_wF, Int32.neg_neg, iR_ofNat (show k < 7 from hk) (by decide), iW_ofNat (show k < 7 from hk) (by decide), e1, rfC]
theorem d_grant (hs : Sh h) (x : Int32) : D_X10_grant h (some 0) x = some (x, wF h 0 13 (.int 0)) := by
  simp only [D_X10_grant, wrF_c hs, Option.bind_some]
theorem d_tell_ok (hs : Sh h) {x : Int32} (hx : 0 ≤ x) : D_X11_tell h (some 81) x = some (x, wF h 81 1 (.int 0)) := by
  simp only [D_X11_tell, D_X11_tell_10, hx, if_true, wrF_m hs, Option.bind_some]
theorem d_tell_no (hs : Sh h) {k : Nat} (hk : k < 7) (h0 : 0 < k) : D_X11_tell h (some 81) (-(Int32.ofNat k)) = some (-(Int32.ofNat k), rfM h k) := by
  have hs1 : Sh (wF h 81 1 (.int (-(Int32.ofNat k)))) := Sh_wF hs rfl _
  have e1 : (Int32.ofNat k).toNatClampNeg = k := tn_of (by omega)
  have e2 : ¬ 0 ≤ -(Int32.ofNat k) := by
    have : k = 1 ∨ k = 2 ∨ k = 3 ∨ k = 4 ∨ k = 5 ∨ k = 6 := by omega
    rcases this with rfl | rfl | rfl | rfl | rfl | rfl <;> decide
  simp only [D_X11_tell, D_X11_tell_10, e2, if_false, wrF_m hs, Option.bind_some, rdQ_m hs1, rdA_m hs1, wrA_m hs1, aI_wF, Int32.neg_neg, iR_ofNat (show k < 7 from hk) (by decide), iW_ofNat (show k < 7 from hk) (by decide), e1, rfM]
end RF
