/-! THE CELLS OF THE TWO SYSTEMS: 0 to 80 the class's, 81 to 113 the reference's; from 114 on the texts of laws -/
def fI (h : z_H) (a k : Nat) : Int32 := match h.2.2 a with
  | .inr (_, fs) => (match fs[k]? with
    | some (.int x) => x
    | _ => 0)
  | _ => 0
def fJ (h : z_H) (a k : Nat) : Int64 := match h.2.2 a with
  | .inr (_, fs) => (match fs[k]? with
    | some (.long x) => x
    | _ => 0)
  | _ => 0
def aI (h : z_H) (a : Nat) : Nat → Int32 := match h.2.2 a with
  | .inl (_, _, .inl f) => f
  | _ => fun _ => 0
def aJ (h : z_H) (a : Nat) : Nat → Int64 := match h.2.2 a with
  | .inl (_, _, .inr (.inl f)) => f
  | _ => fun _ => 0
def aQ (h : z_H) (a : Nat) : Nat → Option Nat := match h.2.2 a with
  | .inl (_, _, .inr (.inr (.inr (.inr f)))) => f
  | _ => fun _ => none
def flds (h : z_H) (a : Nat) : List Value := match h.2.2 a with
  | .inr (_, fs) => fs
  | _ => []
abbrev s_S : Type := (FieldType × Nat) ⊕ (Nat × List Nat)
def shpL : List s_S := [.inr (10, [3, 12, 13, 14, 23, 25, 31, 34, 36, 48, 55, 61, 64, 0, 0]), .inr (9, [4, 5, 6, 7, 8, 9, 10, 11, 0, 0, 0, 0, 0]), .inl (.int, 6), .inl (.int, 6), .inl (.int, 6), .inl (.int, 24), .inl (.int, 3), .inl (.int, 6), .inl (.int, 6), .inl ((.object RX7), 6), .inl ((.object RX9), 2), .inl (.boolean, 2), .inr (9, [15, 16, 17, 18, 19, 20, 21, 22, 0, 0, 0, 0, 0]), .inl (.int, 6), .inl (.int, 6), .inl (.int, 6), .inl (.int, 24), .inl (.int, 3), .inl (.int, 6), .inl (.int, 6), .inl ((.object RX7), 6), .inr (8, [24, 0]), .inl (.int, 112), .inr (5, [26, 27, 0, 0, 0, 0, 0, 0, 0, 0]), .inl (.int, 400), .inr (7, [28, 29, 30, 0, 0]), .inl (.int, 400), .inl (.int, 400), .inl (.int, 72), .inr (1, [32, 33, 0]), .inl (.int, 23), .inl (.long, 51), .inr (0, [31, 35]), .inl (.int, 7), .inr (2, [31, 34, 37, 46, 0, 0, 0]), .inr (9, [38, 39, 40, 41, 42, 43, 44, 45, 0, 0, 0, 0, 0]), .inl (.int, 6), .inl (.int, 6), .inl (.int, 6), .inl (.int, 24), .inl (.int, 3), .inl (.int, 6), .inl (.int, 6), .inl ((.object RX7), 6), .inr (8, [47, 0]), .inl (.int, 112), .inr (4, [31, 49, 50, 51, 52, 53, 54, 0, 0]), .inl (.int, 100), .inl (.int, 100), .inl (.int, 100), .inl (.int, 100), .inl (.int, 100), .inl (.boolean, 100), .inr (6, [48, 56, 57, 58, 59, 60]), .inl (.long, 1225), .inl (.long, 25), .inl (.long, 100), .inl (.long, 100), .inl (.long, 20), .inr (3, [62, 63, 0, 0, 0, 0]), .inl (.int, 6), .inl (.int, 6), .inl (.int, 7), .inr (9, [66, 67, 68, 69, 70, 71, 72, 73, 0, 0, 0, 0, 0]), .inl (.int, 6), .inl (.int, 6), .inl (.int, 6), .inl (.int, 24), .inl (.int, 3), .inl (.int, 6), .inl (.int, 6), .inl ((.object RX7), 6), .inr (9, [75, 76, 77, 78, 79, 80, 81, 82, 0, 0, 0, 0, 0]), .inl (.int, 6), .inl (.int, 6), .inl (.int, 6), .inl (.int, 24), .inl (.int, 3), .inl (.int, 6), .inl (.int, 6), .inl ((.object RX7), 6), .inr (11, [0, 0, 84, 85, 86, 87, 88, 89, 0, 90, 91, 0, 92, 0, 0, 0, 0, 1, 0, 0, 0, 0, 93, 0, 94, 95, 0, 96, 97, 0, 0, 98, 99, 100, 0, 101, 102, 103, 0, 1, 1, 104, 105, 106, 107, 108, 109, 110, 111, 112, 113, 114, 0, 0, 0, 0, 1, 115, 0]), .inl (.int, 7), .inl (.int, 5462), .inl (.int, 10924), .inl (.boolean, 2), .inl (.int, 702), .inl (.int, 16), .inl (.int, 624), .inl (.int, 16), .inl (.int, 400), .inl (.int, 96), .inl (.int, 400), .inl (.int, 400), .inl (.int, 400), .inl (.int, 400), .inl (.long, 9), .inl (.long, 8), .inl (.long, 3), .inl (.long, 13), .inl (.long, 13), .inl (.long, 400), .inl (.int, 100), .inl (.long, 8575), .inl (.int, 100), .inl (.int, 100), .inl (.long, 100), .inl (.long, 100), .inl (.int, 7), .inl (.int, 6), .inl (.long, 21), .inl (.long, 5), .inl (.int, 96), .inl (.int, 39)]
def fval (h : z_H) (a k kd : Nat) : Value := match kd with
  | 0 => .int (fI h a k)
  | 1 => .long (fJ h a k)
  | n + 2 => .ref n
def canon (h : z_H) (a : Nat) (x : s_S) : z_E := match x with
  | .inl (.int, n) => .inl (.int, n, .inl (aI h a))
  | .inl (.boolean, n) => .inl (.boolean, n, .inl (aI h a))
  | .inl (.long, n) => .inl (.long, n, .inr (.inl (aJ h a)))
  | .inl (ty, n) => .inl (ty, n, .inr (.inr (.inr (.inr (aQ h a)))))
  | .inr (ci, ks) => .inr (ci, ks.mapIdx (fun k kd => fval h a k kd))
def Sh (h : z_H) : Prop := 114 ≤ h.1 ∧ ∀ (a : Nat) (x : s_S), shpL[a]? = some x → h.2.2 a = canon h a x
theorem Sh.lt {h : z_H} (hs : Sh h) {a : Nat} {x : s_S} (ha : shpL[a]? = some x) : a < h.1 := by
  have h1 := (List.getElem?_eq_some_iff.mp ha).1
  have h2 : shpL.length = 114 := rfl
  have := hs.1
  omega
/-- reading a row, writing it, at an index that may be outside -/
def iR {α : Type} (n : Nat) (f : Nat → α) (i : Int32) : Option α := if i < 0 ∨ n ≤ i.toNatClampNeg then none else some (f i.toNatClampNeg)
def iW {α : Type} (n : Nat) (i : Int32) (x : α) : Option α := if i < 0 ∨ n ≤ i.toNatClampNeg then none else some x
def wF (h : z_H) (a k : Nat) (v : Value) : z_H := z_up h a (match h.2.2 a with
  | .inr (c, fs) => .inr (c, fs.set k v)
  | x => x)
def wA (h : z_H) (a : Nat) (f : Nat → Int32) : z_H := z_up h a (match h.2.2 a with
  | .inl (ty, n, .inl _) => .inl (ty, n, .inl f)
  | x => x)
def wJ (h : z_H) (a : Nat) (f : Nat → Int64) : z_H := z_up h a (match h.2.2 a with
  | .inl (ty, n, .inr (.inl _)) => .inl (ty, n, .inr (.inl f))
  | x => x)
def wQ (h : z_H) (a : Nat) (f : Nat → Option Nat) : z_H := z_up h a (match h.2.2 a with
  | .inl (ty, n, .inr (.inr (.inr (.inr _)))) => .inl (ty, n, .inr (.inr (.inr (.inr f))))
  | x => x)
section SH
variable {h : z_H}
theorem s_obj (hs : Sh h) {a ci : Nat} {ks : List Nat} (ha : shpL[a]? = some (.inr (ci, ks))) : h.2.2 a = .inr (ci, ks.mapIdx (fun k kd => fval h a k kd)) := hs.2 a _ ha
theorem s_ob (hs : Sh h) {a ci : Nat} {ks : List Nat} (ha : shpL[a]? = some (.inr (ci, ks))) : z_ob ci h (some a) = some (flds h a) := by
  simp [z_ob, flds, s_obj hs ha, hs.lt ha]
theorem s_gI (hs : Sh h) {a ci k : Nat} {ks : List Nat} (ha : shpL[a]? = some (.inr (ci, ks))) (hk : ks[k]? = some 0) : z_gI ci h (some a) k = some (fI h a k) := by
  have e := s_obj hs ha
  simp [z_gI, z_ob, e, hs.lt ha, hk, fval]
theorem s_gJ (hs : Sh h) {a ci k : Nat} {ks : List Nat} (ha : shpL[a]? = some (.inr (ci, ks))) (hk : ks[k]? = some 1) : z_gJ ci h (some a) k = some (fJ h a k) := by
  have e := s_obj hs ha
  simp [z_gJ, z_ob, e, hs.lt ha, hk, fval]
theorem s_gQ (hs : Sh h) {a ci k r : Nat} {ks : List Nat} (ha : shpL[a]? = some (.inr (ci, ks))) (hk : ks[k]? = some (r + 2)) : z_gQ ci h (some a) k = some (some r) := by
  have e := s_obj hs ha
  simp [z_gQ, z_ob, e, hs.lt ha, hk, fval]
theorem s_pV (hs : Sh h) {a ci k : Nat} {ks : List Nat} (ha : shpL[a]? = some (.inr (ci, ks))) (hk : k < ks.length) (v : Value) : z_pV ci h (some a) k v = some (wF h a k v) := by
  have e := s_obj hs ha
  simp [z_pV, z_ob, e, hs.lt ha, hk, wF]
theorem s_ar (hs : Sh h) {a n : Nat} {ty : FieldType} (hty : ty = .int ∨ ty = .boolean) (ha : shpL[a]? = some (.inl (ty, n))) : z_ar ty h (some a) = some (n, aI h a) := by
  have e := hs.2 a _ ha
  rcases hty with rfl | rfl <;> simp [z_ar, e, hs.lt ha, canon]
theorem s_arJ (hs : Sh h) {a n : Nat} (ha : shpL[a]? = some (.inl (.long, n))) : z_arJ h (some a) = some (n, aJ h a) := by
  have e := hs.2 a _ ha
  simp [z_arJ, e, hs.lt ha, canon]
theorem s_arQ (hs : Sh h) {a n : Nat} {C : String} (ha : shpL[a]? = some (.inl (.object C, n))) : z_arQ C h (some a) = some (n, aQ h a) := by
  have e := hs.2 a _ ha
  simp [z_arQ, e, hs.lt ha, canon]
theorem s_aI (hs : Sh h) {a n : Nat} {ty : FieldType} (hty : ty = .int ∨ ty = .boolean) (ha : shpL[a]? = some (.inl (ty, n))) (i : Int32) : z_aI ty h (some a) i = iR n (aI h a) i := by
  simp [z_aI, s_ar hs hty ha, iR]
theorem s_aJ (hs : Sh h) {a n : Nat} (ha : shpL[a]? = some (.inl (.long, n))) (i : Int32) : z_aJ h (some a) i = iR n (aJ h a) i := by
  simp [z_aJ, s_arJ hs ha, iR]
theorem s_aQ (hs : Sh h) {a n : Nat} {C : String} (ha : shpL[a]? = some (.inl (.object C, n))) (i : Int32) : z_aQ C h (some a) i = iR n (aQ h a) i := by
  simp [z_aQ, s_arQ hs ha, iR]
theorem s_sI (hs : Sh h) {a n : Nat} (ha : shpL[a]? = some (.inl (.int, n))) (i x : Int32) : z_sI h (some a) i x = iW n i (wA h a (upd (aI h a) i.toNatClampNeg x)) := by
  have e : h.2.2 a = .inl (.int, n, .inl (aI h a)) := hs.2 a _ ha
  simp [z_sI, s_ar hs (Or.inl rfl) ha, iW, wA, e]
theorem s_sZ (hs : Sh h) {a n : Nat} (ha : shpL[a]? = some (.inl (.boolean, n))) (i x : Int32) : z_sZ h (some a) i x = iW n i (wA h a (upd (aI h a) i.toNatClampNeg (vp_nar .boolean x))) := by
  have e : h.2.2 a = .inl (.boolean, n, .inl (aI h a)) := hs.2 a _ ha
  simp [z_sZ, s_ar hs (Or.inr rfl) ha, iW, wA, e]
theorem s_sJ (hs : Sh h) {a n : Nat} (ha : shpL[a]? = some (.inl (.long, n))) (i : Int32) (x : Int64) : z_sJ h (some a) i x = iW n i (wJ h a (vp_updL (aJ h a) i.toNatClampNeg x)) := by
  have e : h.2.2 a = .inl (.long, n, .inr (.inl (aJ h a))) := hs.2 a _ ha
  simp [z_sJ, s_arJ hs ha, iW, wJ, e]
theorem s_lI (hs : Sh h) {a n : Nat} (ha : shpL[a]? = some (.inl (.int, n))) : z_lI h (some a) = some (Int32.ofNat n) := by
  simp [z_lI, s_ar hs (Or.inl rfl) ha]
theorem s_lJ (hs : Sh h) {a n : Nat} (ha : shpL[a]? = some (.inl (.long, n))) : z_lJ h (some a) = some (Int32.ofNat n) := by
  simp [z_lJ, s_arJ hs ha]
/-! reads over writes -/
theorem up_ne {h : z_H} {a b : Nat} {x : z_E} (e : ¬ b = a) : (z_up h a x).2.2 b = h.2.2 b := by simp [z_up, e]
theorem up_eq {h : z_H} {a : Nat} {x : z_E} : (z_up h a x).2.2 a = x := by simp [z_up]
theorem fI_ne {a b k : Nat} {x : z_E} (e : ¬ b = a) : fI (z_up h a x) b k = fI h b k := by unfold fI; rw [up_ne e]
theorem fJ_ne {a b k : Nat} {x : z_E} (e : ¬ b = a) : fJ (z_up h a x) b k = fJ h b k := by unfold fJ; rw [up_ne e]
theorem aI_ne {a b : Nat} {x : z_E} (e : ¬ b = a) : aI (z_up h a x) b = aI h b := by unfold aI; rw [up_ne e]
theorem aJ_ne {a b : Nat} {x : z_E} (e : ¬ b = a) : aJ (z_up h a x) b = aJ h b := by unfold aJ; rw [up_ne e]
theorem aQ_ne {a b : Nat} {x : z_E} (e : ¬ b = a) : aQ (z_up h a x) b = aQ h b := by unfold aQ; rw [up_ne e]
theorem cell_fI {h h' : z_H} {b : Nat} (e : h'.2.2 b = h.2.2 b) (k : Nat) : fI h' b k = fI h b k := by unfold fI; rw [e]
theorem cell_fJ {h h' : z_H} {b : Nat} (e : h'.2.2 b = h.2.2 b) (k : Nat) : fJ h' b k = fJ h b k := by unfold fJ; rw [e]
theorem cell_aI {h h' : z_H} {b : Nat} (e : h'.2.2 b = h.2.2 b) : aI h' b = aI h b := by unfold aI; rw [e]
theorem cell_aJ {h h' : z_H} {b : Nat} (e : h'.2.2 b = h.2.2 b) : aJ h' b = aJ h b := by unfold aJ; rw [e]
theorem cell_aQ {h h' : z_H} {b : Nat} (e : h'.2.2 b = h.2.2 b) : aQ h' b = aQ h b := by unfold aQ; rw [e]
theorem cell_canon {h h' : z_H} {b : Nat} (e : h'.2.2 b = h.2.2 b) (x : s_S) : canon h' b x = canon h b x := by
  unfold canon fval
  simp only [cell_fI e, cell_fJ e, cell_aI e, cell_aJ e, cell_aQ e]
theorem wF_ne {a b k : Nat} {v : Value} (e : ¬ b = a) : (wF h a k v).2.2 b = h.2.2 b := up_ne e
theorem wA_ne {a b : Nat} {f : Nat → Int32} (e : ¬ b = a) : (wA h a f).2.2 b = h.2.2 b := up_ne e
theorem wJ_ne {a b : Nat} {f : Nat → Int64} (e : ¬ b = a) : (wJ h a f).2.2 b = h.2.2 b := up_ne e
theorem wQ_ne {a b : Nat} {f : Nat → Option Nat} (e : ¬ b = a) : (wQ h a f).2.2 b = h.2.2 b := up_ne e
theorem aI_wF (a b k : Nat) (v : Value) : aI (wF h a k v) b = aI h b := by
  by_cases e : b = a
  · subst e
    cases hx : h.2.2 b with
    | inl y => simp [aI, wF, up_eq, hx]
    | inr y => simp [aI, wF, up_eq, hx]
  · exact cell_aI (wF_ne e)
theorem aJ_wF (a b k : Nat) (v : Value) : aJ (wF h a k v) b = aJ h b := by
  by_cases e : b = a
  · subst e
    cases hx : h.2.2 b with
    | inl y => simp [aJ, wF, up_eq, hx]
    | inr y => simp [aJ, wF, up_eq, hx]
  · exact cell_aJ (wF_ne e)
theorem aQ_wF (a b k : Nat) (v : Value) : aQ (wF h a k v) b = aQ h b := by
  by_cases e : b = a
  · subst e
    cases hx : h.2.2 b with
    | inl y => simp [aQ, wF, up_eq, hx]
    | inr y => simp [aQ, wF, up_eq, hx]
  · exact cell_aQ (wF_ne e)
theorem fI_wF_ne {a b k j : Nat} {v : Value} (e : ¬ (b = a ∧ j = k)) : fI (wF h a k v) b j = fI h b j := by
  by_cases e1 : b = a
  · subst e1
    have e2 : ¬ k = j := fun q => e ⟨rfl, q.symm⟩
    cases hx : h.2.2 b with
    | inl y => simp [fI, wF, up_eq, hx]
    | inr y => simp [fI, wF, up_eq, hx, List.getElem?_set_ne e2]
  · exact cell_fI (wF_ne e1) j
theorem fJ_wF_ne {a b k j : Nat} {v : Value} (e : ¬ (b = a ∧ j = k)) : fJ (wF h a k v) b j = fJ h b j := by
  by_cases e1 : b = a
  · subst e1
    have e2 : ¬ k = j := fun q => e ⟨rfl, q.symm⟩
    cases hx : h.2.2 b with
    | inl y => simp [fJ, wF, up_eq, hx]
    | inr y => simp [fJ, wF, up_eq, hx, List.getElem?_set_ne e2]
  · exact cell_fJ (wF_ne e1) j
def isF (a k : Nat) : Bool := match shpL[a]? with
  | some (.inr (_, ks)) => ks[k]? == some 0
  | _ => false
def isJ (a k : Nat) : Bool := match shpL[a]? with
  | some (.inr (_, ks)) => ks[k]? == some 1
  | _ => false
theorem isF_spec {a k : Nat} (e : isF a k = true) : ∃ ci ks, shpL[a]? = some (.inr (ci, ks)) ∧ ks[k]? = some 0 := by
  unfold isF at e
  split at e
  · rename_i ci ks hx
    exact ⟨ci, ks, hx, by simpa using e⟩
  · cases e
theorem isJ_spec {a k : Nat} (e : isJ a k = true) : ∃ ci ks, shpL[a]? = some (.inr (ci, ks)) ∧ ks[k]? = some 1 := by
  unfold isJ at e
  split at e
  · rename_i ci ks hx
    exact ⟨ci, ks, hx, by simpa using e⟩
  · cases e
theorem fI_wF_eq (hs : Sh h) {a k : Nat} (e : isF a k = true) (x : Int32) : fI (wF h a k (.int x)) a k = x := by
  obtain ⟨ci, ks, h1, h2⟩ := isF_spec e
  have hk : k < ks.length := (List.getElem?_eq_some_iff.mp h2).1
  simp [fI, wF, up_eq, s_obj hs h1, hk]
theorem fJ_wF_eq (hs : Sh h) {a k : Nat} (e : isJ a k = true) (x : Int64) : fJ (wF h a k (.long x)) a k = x := by
  obtain ⟨ci, ks, h1, h2⟩ := isJ_spec e
  have hk : k < ks.length := (List.getElem?_eq_some_iff.mp h2).1
  simp [fJ, wF, up_eq, s_obj hs h1, hk]
theorem Sh_wF (hs : Sh h) {a k : Nat} (e : isF a k = true) (x : Int32) : Sh (wF h a k (.int x)) := by
  obtain ⟨ci, ks, h1, h2⟩ := isF_spec e
  have hk : k < ks.length := (List.getElem?_eq_some_iff.mp h2).1
  refine ⟨hs.1, fun b y hy => ?_⟩
  by_cases eb : b = a
  · subst eb
    cases h1.symm.trans hy
    have e0 := s_obj hs h1
    have e1 : (wF h b k (.int x)).2.2 b = .inr (ci, (ks.mapIdx (fun k kd => fval h b k kd)).set k (.int x)) := by simp [wF, up_eq, e0]
    rw [e1]
    simp only [canon]
    congr 2
    apply List.ext_getElem?
    intro j
    by_cases ej : k = j
    · subst ej
      rw [List.getElem?_set_self (by simpa using hk), List.getElem?_mapIdx, h2]
      simp [fval, fI_wF_eq hs e]
    · rw [List.getElem?_set_ne ej, List.getElem?_mapIdx, List.getElem?_mapIdx]
      cases hj : ks[j]? with
      | none => rfl
      | some kd =>
        have ej2 : ¬ (b = b ∧ j = k) := fun q => ej q.2.symm
        simp only [Option.map_some, fval, fI_wF_ne ej2, fJ_wF_ne ej2]
  · rw [wF_ne eb, cell_canon (wF_ne eb)]
    exact hs.2 b y hy
theorem Sh_wFJ (hs : Sh h) {a k : Nat} (e : isJ a k = true) (x : Int64) : Sh (wF h a k (.long x)) := by
  obtain ⟨ci, ks, h1, h2⟩ := isJ_spec e
  have hk : k < ks.length := (List.getElem?_eq_some_iff.mp h2).1
  refine ⟨hs.1, fun b y hy => ?_⟩
  by_cases eb : b = a
  · subst eb
    cases h1.symm.trans hy
    have e0 := s_obj hs h1
    have e1 : (wF h b k (.long x)).2.2 b = .inr (ci, (ks.mapIdx (fun k kd => fval h b k kd)).set k (.long x)) := by simp [wF, up_eq, e0]
    rw [e1]
    simp only [canon]
    congr 2
    apply List.ext_getElem?
    intro j
    by_cases ej : k = j
    · subst ej
      rw [List.getElem?_set_self (by simpa using hk), List.getElem?_mapIdx, h2]
      simp [fval, fJ_wF_eq hs e]
    · rw [List.getElem?_set_ne ej, List.getElem?_mapIdx, List.getElem?_mapIdx]
      cases hj : ks[j]? with
      | none => rfl
      | some kd =>
        have ej2 : ¬ (b = b ∧ j = k) := fun q => ej q.2.symm
        simp only [Option.map_some, fval, fI_wF_ne ej2, fJ_wF_ne ej2]
  · rw [wF_ne eb, cell_canon (wF_ne eb)]
    exact hs.2 b y hy
theorem fI_wA (a b k : Nat) (f : Nat → Int32) : fI (wA h a f) b k = fI h b k := by
  by_cases e : b = a
  · subst e
    cases hx : h.2.2 b with
    | inr y => simp [fI, wA, up_eq, hx]
    | inl y =>
      obtain ⟨t, n, g⟩ := y
      rcases g with g | g | g | g | g <;> simp [fI, wA, up_eq, hx]
  · exact cell_fI (wA_ne e) k
theorem fJ_wA (a b k : Nat) (f : Nat → Int32) : fJ (wA h a f) b k = fJ h b k := by
  by_cases e : b = a
  · subst e
    cases hx : h.2.2 b with
    | inr y => simp [fJ, wA, up_eq, hx]
    | inl y =>
      obtain ⟨t, n, g⟩ := y
      rcases g with g | g | g | g | g <;> simp [fJ, wA, up_eq, hx]
  · exact cell_fJ (wA_ne e) k
theorem aJ_wA (a b : Nat) (f : Nat → Int32) : aJ (wA h a f) b = aJ h b := by
  by_cases e : b = a
  · subst e
    cases hx : h.2.2 b with
    | inr y => simp [aJ, wA, up_eq, hx]
    | inl y =>
      obtain ⟨t, n, g⟩ := y
      rcases g with g | g | g | g | g <;> simp [aJ, wA, up_eq, hx]
  · exact cell_aJ (wA_ne e)
theorem aQ_wA (a b : Nat) (f : Nat → Int32) : aQ (wA h a f) b = aQ h b := by
  by_cases e : b = a
  · subst e
    cases hx : h.2.2 b with
    | inr y => simp [aQ, wA, up_eq, hx]
    | inl y =>
      obtain ⟨t, n, g⟩ := y
      rcases g with g | g | g | g | g <;> simp [aQ, wA, up_eq, hx]
  · exact cell_aQ (wA_ne e)
theorem aI_wA_ne {a b : Nat} {f : Nat → Int32} (e : ¬ b = a) : aI (wA h a f) b = aI h b := cell_aI (wA_ne e)
theorem wA_wA (a : Nat) (f g : Nat → Int32) : wA (wA h a f) a g = wA h a g := by
  have e : ∀ x y : z_E, z_up (z_up h a x) a y = z_up h a y := fun x y => by
    simp only [z_up]
    congr 2
    funext j
    by_cases q : j = a <;> simp [q]
  unfold wA
  rw [e]
  congr 1
  rw [up_eq]
  cases hx : h.2.2 a with
  | inr y => rfl
  | inl y =>
    obtain ⟨t, n, q⟩ := y
    rcases q with q | q | q | q | q <;> rfl
theorem fI_wJ (a b k : Nat) (f : Nat → Int64) : fI (wJ h a f) b k = fI h b k := by
  by_cases e : b = a
  · subst e
    cases hx : h.2.2 b with
    | inr y => simp [fI, wJ, up_eq, hx]
    | inl y =>
      obtain ⟨t, n, g⟩ := y
      rcases g with g | g | g | g | g <;> simp [fI, wJ, up_eq, hx]
  · exact cell_fI (wJ_ne e) k
theorem fJ_wJ (a b k : Nat) (f : Nat → Int64) : fJ (wJ h a f) b k = fJ h b k := by
  by_cases e : b = a
  · subst e
    cases hx : h.2.2 b with
    | inr y => simp [fJ, wJ, up_eq, hx]
    | inl y =>
      obtain ⟨t, n, g⟩ := y
      rcases g with g | g | g | g | g <;> simp [fJ, wJ, up_eq, hx]
  · exact cell_fJ (wJ_ne e) k
theorem aI_wJ (a b : Nat) (f : Nat → Int64) : aI (wJ h a f) b = aI h b := by
  by_cases e : b = a
  · subst e
    cases hx : h.2.2 b with
    | inr y => simp [aI, wJ, up_eq, hx]
    | inl y =>
      obtain ⟨t, n, g⟩ := y
      rcases g with g | g | g | g | g <;> simp [aI, wJ, up_eq, hx]
  · exact cell_aI (wJ_ne e)
theorem aQ_wJ (a b : Nat) (f : Nat → Int64) : aQ (wJ h a f) b = aQ h b := by
  by_cases e : b = a
  · subst e
    cases hx : h.2.2 b with
    | inr y => simp [aQ, wJ, up_eq, hx]
    | inl y =>
      obtain ⟨t, n, g⟩ := y
      rcases g with g | g | g | g | g <;> simp [aQ, wJ, up_eq, hx]
  · exact cell_aQ (wJ_ne e)
theorem aJ_wJ_ne {a b : Nat} {f : Nat → Int64} (e : ¬ b = a) : aJ (wJ h a f) b = aJ h b := cell_aJ (wJ_ne e)
theorem wJ_wJ (a : Nat) (f g : Nat → Int64) : wJ (wJ h a f) a g = wJ h a g := by
  have e : ∀ x y : z_E, z_up (z_up h a x) a y = z_up h a y := fun x y => by
    simp only [z_up]
    congr 2
    funext j
    by_cases q : j = a <;> simp [q]
  unfold wJ
  rw [e]
  congr 1
  rw [up_eq]
  cases hx : h.2.2 a with
  | inr y => rfl
  | inl y =>
    obtain ⟨t, n, q⟩ := y
    rcases q with q | q | q | q | q <;> rfl
theorem fI_wQ (a b k : Nat) (f : Nat → Option Nat) : fI (wQ h a f) b k = fI h b k := by
  by_cases e : b = a
  · subst e
    cases hx : h.2.2 b with
    | inr y => simp [fI, wQ, up_eq, hx]
    | inl y =>
      obtain ⟨t, n, g⟩ := y
      rcases g with g | g | g | g | g <;> simp [fI, wQ, up_eq, hx]
  · exact cell_fI (wQ_ne e) k
theorem fJ_wQ (a b k : Nat) (f : Nat → Option Nat) : fJ (wQ h a f) b k = fJ h b k := by
  by_cases e : b = a
  · subst e
    cases hx : h.2.2 b with
    | inr y => simp [fJ, wQ, up_eq, hx]
    | inl y =>
      obtain ⟨t, n, g⟩ := y
      rcases g with g | g | g | g | g <;> simp [fJ, wQ, up_eq, hx]
  · exact cell_fJ (wQ_ne e) k
theorem aI_wQ (a b : Nat) (f : Nat → Option Nat) : aI (wQ h a f) b = aI h b := by
  by_cases e : b = a
  · subst e
    cases hx : h.2.2 b with
    | inr y => simp [aI, wQ, up_eq, hx]
    | inl y =>
      obtain ⟨t, n, g⟩ := y
      rcases g with g | g | g | g | g <;> simp [aI, wQ, up_eq, hx]
  · exact cell_aI (wQ_ne e)
theorem aJ_wQ (a b : Nat) (f : Nat → Option Nat) : aJ (wQ h a f) b = aJ h b := by
  by_cases e : b = a
  · subst e
    cases hx : h.2.2 b with
    | inr y => simp [aJ, wQ, up_eq, hx]
    | inl y =>
      obtain ⟨t, n, g⟩ := y
      rcases g with g | g | g | g | g <;> simp [aJ, wQ, up_eq, hx]
  · exact cell_aJ (wQ_ne e)
theorem aQ_wQ_ne {a b : Nat} {f : Nat → Option Nat} (e : ¬ b = a) : aQ (wQ h a f) b = aQ h b := cell_aQ (wQ_ne e)
theorem wQ_wQ (a : Nat) (f g : Nat → Option Nat) : wQ (wQ h a f) a g = wQ h a g := by
  have e : ∀ x y : z_E, z_up (z_up h a x) a y = z_up h a y := fun x y => by
    simp only [z_up]
    congr 2
    funext j
    by_cases q : j = a <;> simp [q]
  unfold wQ
  rw [e]
  congr 1
  rw [up_eq]
  cases hx : h.2.2 a with
  | inr y => rfl
  | inl y =>
    obtain ⟨t, n, q⟩ := y
    rcases q with q | q | q | q | q <;> rfl
def isA (a : Nat) : Bool := match shpL[a]? with
  | some (.inl (.int, _)) => true
  | some (.inl (.boolean, _)) => true
  | _ => false
def isAJ (a : Nat) : Bool := match shpL[a]? with
  | some (.inl (.long, _)) => true
  | _ => false
def isAQ (a : Nat) : Bool := match shpL[a]? with
  | some (.inl (.object _, _)) => true
  | _ => false
theorem aI_wA_eq (hs : Sh h) {a : Nat} (e : isA a = true) (f : Nat → Int32) : aI (wA h a f) a = f := by
  unfold isA at e
  split at e
  · rename_i n hx
    obtain ⟨g0, e0⟩ : ∃ g0, h.2.2 a = .inl (.int, n, .inl g0) := ⟨_, hs.2 a _ hx⟩
    simp [aI, wA, up_eq, e0]
  · rename_i n hx
    obtain ⟨g0, e0⟩ : ∃ g0, h.2.2 a = .inl (.boolean, n, .inl g0) := ⟨_, hs.2 a _ hx⟩
    simp [aI, wA, up_eq, e0]
  · cases e
theorem aJ_wJ_eq (hs : Sh h) {a : Nat} (e : isAJ a = true) (f : Nat → Int64) : aJ (wJ h a f) a = f := by
  unfold isAJ at e
  split at e
  · rename_i n hx
    obtain ⟨g0, e0⟩ : ∃ g0, h.2.2 a = .inl (.long, n, .inr (.inl g0)) := ⟨_, hs.2 a _ hx⟩
    simp [aJ, wJ, up_eq, e0]
  · cases e
theorem aQ_wQ_eq (hs : Sh h) {a : Nat} (e : isAQ a = true) (f : Nat → Option Nat) : aQ (wQ h a f) a = f := by
  unfold isAQ at e
  split at e
  · rename_i C n hx
    obtain ⟨g0, e0⟩ : ∃ g0, h.2.2 a = .inl (.object C, n, .inr (.inr (.inr (.inr g0)))) := ⟨_, hs.2 a _ hx⟩
    simp [aQ, wQ, up_eq, e0]
  · cases e
theorem Sh_wA (hs : Sh h) {a : Nat} (e : isA a = true) (f : Nat → Int32) : Sh (wA h a f) := by
  refine ⟨hs.1, fun b y hy => ?_⟩
  by_cases eb : b = a
  · subst eb
    have e' := e
    unfold isA at e'
    split at e'
    · rename_i n hx
      cases hx.symm.trans hy
      obtain ⟨g0, e0⟩ : ∃ g0, h.2.2 b = .inl (.int, n, .inl g0) := ⟨_, hs.2 b _ hx⟩
      simp [canon, aI, wA, up_eq, e0]
    · rename_i n hx
      cases hx.symm.trans hy
      obtain ⟨g0, e0⟩ : ∃ g0, h.2.2 b = .inl (.boolean, n, .inl g0) := ⟨_, hs.2 b _ hx⟩
      simp [canon, aI, wA, up_eq, e0]
    · cases e'
  · rw [wA_ne eb, cell_canon (wA_ne eb)]
    exact hs.2 b y hy
theorem Sh_wJ (hs : Sh h) {a : Nat} (e : isAJ a = true) (f : Nat → Int64) : Sh (wJ h a f) := by
  refine ⟨hs.1, fun b y hy => ?_⟩
  by_cases eb : b = a
  · subst eb
    have e' := e
    unfold isAJ at e'
    split at e'
    · rename_i n hx
      cases hx.symm.trans hy
      obtain ⟨g0, e0⟩ : ∃ g0, h.2.2 b = .inl (.long, n, .inr (.inl g0)) := ⟨_, hs.2 b _ hx⟩
      simp [canon, aJ, wJ, up_eq, e0]
    · cases e'
  · rw [wJ_ne eb, cell_canon (wJ_ne eb)]
    exact hs.2 b y hy
theorem Sh_wQ (hs : Sh h) {a : Nat} (e : isAQ a = true) (f : Nat → Option Nat) : Sh (wQ h a f) := by
  refine ⟨hs.1, fun b y hy => ?_⟩
  by_cases eb : b = a
  · subst eb
    have e' := e
    unfold isAQ at e'
    split at e'
    · rename_i C n hx
      cases hx.symm.trans hy
      obtain ⟨g0, e0⟩ : ∃ g0, h.2.2 b = .inl (.object C, n, .inr (.inr (.inr (.inr g0)))) := ⟨_, hs.2 b _ hx⟩
      simp [canon, aQ, wQ, up_eq, e0]
    · cases e'
  · rw [wQ_ne eb, cell_canon (wQ_ne eb)]
    exact hs.2 b y hy
end SH
theorem rdF_c {h : z_H} (hs : Sh h) : z_gI 10 h (some 0) 13 = some (fI h 0 13) ∧ z_gI 10 h (some 0) 14 = some (fI h 0 14) ∧ z_gI 9 h (some 1) 8 = some (fI h 1 8) ∧ z_gI 9 h (some 1) 9 = some (fI h 1 9) ∧ z_gI 9 h (some 1) 10 = some (fI h 1 10) ∧ z_gI 9 h (some 1) 11 = some (fI h 1 11) ∧ z_gI 9 h (some 1) 12 = some (fI h 1 12) ∧ z_gI 9 h (some 12) 8 = some (fI h 12 8) ∧ z_gI 9 h (some 12) 9 = some (fI h 12 9) ∧ z_gI 9 h (some 12) 10 = some (fI h 12 10) ∧ z_gI 9 h (some 12) 11 = some (fI h 12 11) ∧ z_gI 9 h (some 12) 12 = some (fI h 12 12) ∧ z_gI 8 h (some 21) 1 = some (fI h 21 1) ∧ z_gI 5 h (some 23) 2 = some (fI h 23 2) ∧ z_gI 5 h (some 23) 3 = some (fI h 23 3) ∧ z_gI 5 h (some 23) 4 = some (fI h 23 4) ∧ z_gI 5 h (some 23) 5 = some (fI h 23 5) ∧ z_gI 5 h (some 23) 6 = some (fI h 23 6) ∧ z_gI 5 h (some 23) 7 = some (fI h 23 7) ∧ z_gI 5 h (some 23) 8 = some (fI h 23 8) ∧ z_gI 5 h (some 23) 9 = some (fI h 23 9) ∧ z_gI 7 h (some 25) 3 = some (fI h 25 3) ∧ z_gI 7 h (some 25) 4 = some (fI h 25 4) ∧ z_gI 1 h (some 29) 2 = some (fI h 29 2) ∧ z_gI 2 h (some 34) 4 = some (fI h 34 4) ∧ z_gI 2 h (some 34) 5 = some (fI h 34 5) ∧ z_gI 2 h (some 34) 6 = some (fI h 34 6) ∧ z_gI 9 h (some 35) 8 = some (fI h 35 8) ∧ z_gI 9 h (some 35) 9 = some (fI h 35 9) ∧ z_gI 9 h (some 35) 10 = some (fI h 35 10) ∧ z_gI 9 h (some 35) 11 = some (fI h 35 11) ∧ z_gI 9 h (some 35) 12 = some (fI h 35 12) ∧ z_gI 8 h (some 44) 1 = some (fI h 44 1) ∧ z_gI 4 h (some 46) 7 = some (fI h 46 7) ∧ z_gI 4 h (some 46) 8 = some (fI h 46 8) ∧ z_gI 3 h (some 59) 2 = some (fI h 59 2) ∧ z_gI 3 h (some 59) 3 = some (fI h 59 3) ∧ z_gI 3 h (some 59) 4 = some (fI h 59 4) ∧ z_gI 3 h (some 59) 5 = some (fI h 59 5) ∧ z_gI 9 h (some 63) 8 = some (fI h 63 8) ∧ z_gI 9 h (some 63) 9 = some (fI h 63 9) ∧ z_gI 9 h (some 63) 10 = some (fI h 63 10) ∧ z_gI 9 h (some 63) 11 = some (fI h 63 11) ∧ z_gI 9 h (some 63) 12 = some (fI h 63 12) ∧ z_gI 9 h (some 72) 8 = some (fI h 72 8) ∧ z_gI 9 h (some 72) 9 = some (fI h 72 9) ∧ z_gI 9 h (some 72) 10 = some (fI h 72 10) ∧ z_gI 9 h (some 72) 11 = some (fI h 72 11) ∧ z_gI 9 h (some 72) 12 = some (fI h 72 12) := ⟨s_gI hs rfl rfl, s_gI hs rfl rfl, s_gI hs rfl rfl, s_gI hs rfl rfl, s_gI hs rfl rfl, s_gI hs rfl rfl, s_gI hs rfl rfl, s_gI hs rfl rfl, s_gI hs rfl rfl, s_gI hs rfl rfl, s_gI hs rfl rfl, s_gI hs rfl rfl, s_gI hs rfl rfl, s_gI hs rfl rfl, s_gI hs rfl rfl, s_gI hs rfl rfl, s_gI hs rfl rfl, s_gI hs rfl rfl, s_gI hs rfl rfl, s_gI hs rfl rfl, s_gI hs rfl rfl, s_gI hs rfl rfl, s_gI hs rfl rfl, s_gI hs rfl rfl, s_gI hs rfl rfl, s_gI hs rfl rfl, s_gI hs rfl rfl, s_gI hs rfl rfl, s_gI hs rfl rfl, s_gI hs rfl rfl, s_gI hs rfl rfl, s_gI hs rfl rfl, s_gI hs rfl rfl, s_gI hs rfl rfl, s_gI hs rfl rfl, s_gI hs rfl rfl, s_gI hs rfl rfl, s_gI hs rfl rfl, s_gI hs rfl rfl, s_gI hs rfl rfl, s_gI hs rfl rfl, s_gI hs rfl rfl, s_gI hs rfl rfl, s_gI hs rfl rfl, s_gI hs rfl rfl, s_gI hs rfl rfl, s_gI hs rfl rfl, s_gI hs rfl rfl, s_gI hs rfl rfl⟩
theorem rdQ_c {h : z_H} (hs : Sh h) : z_gQ 10 h (some 0) 0 = some (some 1) ∧ z_gQ 10 h (some 0) 1 = some (some 10) ∧ z_gQ 10 h (some 0) 2 = some (some 11) ∧ z_gQ 10 h (some 0) 3 = some (some 12) ∧ z_gQ 10 h (some 0) 4 = some (some 21) ∧ z_gQ 10 h (some 0) 5 = some (some 23) ∧ z_gQ 10 h (some 0) 6 = some (some 29) ∧ z_gQ 10 h (some 0) 7 = some (some 32) ∧ z_gQ 10 h (some 0) 8 = some (some 34) ∧ z_gQ 10 h (some 0) 9 = some (some 46) ∧ z_gQ 10 h (some 0) 10 = some (some 53) ∧ z_gQ 10 h (some 0) 11 = some (some 59) ∧ z_gQ 10 h (some 0) 12 = some (some 62) ∧ z_gQ 9 h (some 1) 0 = some (some 2) ∧ z_gQ 9 h (some 1) 1 = some (some 3) ∧ z_gQ 9 h (some 1) 2 = some (some 4) ∧ z_gQ 9 h (some 1) 3 = some (some 5) ∧ z_gQ 9 h (some 1) 4 = some (some 6) ∧ z_gQ 9 h (some 1) 5 = some (some 7) ∧ z_gQ 9 h (some 1) 6 = some (some 8) ∧ z_gQ 9 h (some 1) 7 = some (some 9) ∧ z_gQ 9 h (some 12) 0 = some (some 13) ∧ z_gQ 9 h (some 12) 1 = some (some 14) ∧ z_gQ 9 h (some 12) 2 = some (some 15) ∧ z_gQ 9 h (some 12) 3 = some (some 16) ∧ z_gQ 9 h (some 12) 4 = some (some 17) ∧ z_gQ 9 h (some 12) 5 = some (some 18) ∧ z_gQ 9 h (some 12) 6 = some (some 19) ∧ z_gQ 9 h (some 12) 7 = some (some 20) ∧ z_gQ 8 h (some 21) 0 = some (some 22) ∧ z_gQ 5 h (some 23) 0 = some (some 24) ∧ z_gQ 5 h (some 23) 1 = some (some 25) ∧ z_gQ 7 h (some 25) 0 = some (some 26) ∧ z_gQ 7 h (some 25) 1 = some (some 27) ∧ z_gQ 7 h (some 25) 2 = some (some 28) ∧ z_gQ 1 h (some 29) 0 = some (some 30) ∧ z_gQ 1 h (some 29) 1 = some (some 31) ∧ z_gQ 0 h (some 32) 0 = some (some 29) ∧ z_gQ 0 h (some 32) 1 = some (some 33) ∧ z_gQ 2 h (some 34) 0 = some (some 29) ∧ z_gQ 2 h (some 34) 1 = some (some 32) ∧ z_gQ 2 h (some 34) 2 = some (some 35) ∧ z_gQ 2 h (some 34) 3 = some (some 44) ∧ z_gQ 9 h (some 35) 0 = some (some 36) ∧ z_gQ 9 h (some 35) 1 = some (some 37) ∧ z_gQ 9 h (some 35) 2 = some (some 38) ∧ z_gQ 9 h (some 35) 3 = some (some 39) ∧ z_gQ 9 h (some 35) 4 = some (some 40) ∧ z_gQ 9 h (some 35) 5 = some (some 41) ∧ z_gQ 9 h (some 35) 6 = some (some 42) ∧ z_gQ 9 h (some 35) 7 = some (some 43) ∧ z_gQ 8 h (some 44) 0 = some (some 45) ∧ z_gQ 4 h (some 46) 0 = some (some 29) ∧ z_gQ 4 h (some 46) 1 = some (some 47) ∧ z_gQ 4 h (some 46) 2 = some (some 48) ∧ z_gQ 4 h (some 46) 3 = some (some 49) ∧ z_gQ 4 h (some 46) 4 = some (some 50) ∧ z_gQ 4 h (some 46) 5 = some (some 51) ∧ z_gQ 4 h (some 46) 6 = some (some 52) ∧ z_gQ 6 h (some 53) 0 = some (some 46) ∧ z_gQ 6 h (some 53) 1 = some (some 54) ∧ z_gQ 6 h (some 53) 2 = some (some 55) ∧ z_gQ 6 h (some 53) 3 = some (some 56) ∧ z_gQ 6 h (some 53) 4 = some (some 57) ∧ z_gQ 6 h (some 53) 5 = some (some 58) ∧ z_gQ 3 h (some 59) 0 = some (some 60) ∧ z_gQ 3 h (some 59) 1 = some (some 61) ∧ z_gQ 9 h (some 63) 0 = some (some 64) ∧ z_gQ 9 h (some 63) 1 = some (some 65) ∧ z_gQ 9 h (some 63) 2 = some (some 66) ∧ z_gQ 9 h (some 63) 3 = some (some 67) ∧ z_gQ 9 h (some 63) 4 = some (some 68) ∧ z_gQ 9 h (some 63) 5 = some (some 69) ∧ z_gQ 9 h (some 63) 6 = some (some 70) ∧ z_gQ 9 h (some 63) 7 = some (some 71) ∧ z_gQ 9 h (some 72) 0 = some (some 73) ∧ z_gQ 9 h (some 72) 1 = some (some 74) ∧ z_gQ 9 h (some 72) 2 = some (some 75) ∧ z_gQ 9 h (some 72) 3 = some (some 76) ∧ z_gQ 9 h (some 72) 4 = some (some 77) ∧ z_gQ 9 h (some 72) 5 = some (some 78) ∧ z_gQ 9 h (some 72) 6 = some (some 79) ∧ z_gQ 9 h (some 72) 7 = some (some 80) := ⟨s_gQ hs rfl rfl, s_gQ hs rfl rfl, s_gQ hs rfl rfl, s_gQ hs rfl rfl, s_gQ hs rfl rfl, s_gQ hs rfl rfl, s_gQ hs rfl rfl, s_gQ hs rfl rfl, s_gQ hs rfl rfl, s_gQ hs rfl rfl, s_gQ hs rfl rfl, s_gQ hs rfl rfl, s_gQ hs rfl rfl, s_gQ hs rfl rfl, s_gQ hs rfl rfl, s_gQ hs rfl rfl, s_gQ hs rfl rfl, s_gQ hs rfl rfl, s_gQ hs rfl rfl, s_gQ hs rfl rfl, s_gQ hs rfl rfl, s_gQ hs rfl rfl, s_gQ hs rfl rfl, s_gQ hs rfl rfl, s_gQ hs rfl rfl, s_gQ hs rfl rfl, s_gQ hs rfl rfl, s_gQ hs rfl rfl, s_gQ hs rfl rfl, s_gQ hs rfl rfl, s_gQ hs rfl rfl, s_gQ hs rfl rfl, s_gQ hs rfl rfl, s_gQ hs rfl rfl, s_gQ hs rfl rfl, s_gQ hs rfl rfl, s_gQ hs rfl rfl, s_gQ hs rfl rfl, s_gQ hs rfl rfl, s_gQ hs rfl rfl, s_gQ hs rfl rfl, s_gQ hs rfl rfl, s_gQ hs rfl rfl, s_gQ hs rfl rfl, s_gQ hs rfl rfl, s_gQ hs rfl rfl, s_gQ hs rfl rfl, s_gQ hs rfl rfl, s_gQ hs rfl rfl, s_gQ hs rfl rfl, s_gQ hs rfl rfl, s_gQ hs rfl rfl, s_gQ hs rfl rfl, s_gQ hs rfl rfl, s_gQ hs rfl rfl, s_gQ hs rfl rfl, s_gQ hs rfl rfl, s_gQ hs rfl rfl, s_gQ hs rfl rfl, s_gQ hs rfl rfl, s_gQ hs rfl rfl, s_gQ hs rfl rfl, s_gQ hs rfl rfl, s_gQ hs rfl rfl, s_gQ hs rfl rfl, s_gQ hs rfl rfl, s_gQ hs rfl rfl, s_gQ hs rfl rfl, s_gQ hs rfl rfl, s_gQ hs rfl rfl, s_gQ hs rfl rfl, s_gQ hs rfl rfl, s_gQ hs rfl rfl, s_gQ hs rfl rfl, s_gQ hs rfl rfl, s_gQ hs rfl rfl, s_gQ hs rfl rfl, s_gQ hs rfl rfl, s_gQ hs rfl rfl, s_gQ hs rfl rfl, s_gQ hs rfl rfl, s_gQ hs rfl rfl, s_gQ hs rfl rfl⟩
theorem rdO_c {h : z_H} (hs : Sh h) : z_ob 10 h (some 0) = some (flds h 0) ∧ z_ob 9 h (some 1) = some (flds h 1) ∧ z_ob 9 h (some 12) = some (flds h 12) ∧ z_ob 8 h (some 21) = some (flds h 21) ∧ z_ob 5 h (some 23) = some (flds h 23) ∧ z_ob 7 h (some 25) = some (flds h 25) ∧ z_ob 1 h (some 29) = some (flds h 29) ∧ z_ob 0 h (some 32) = some (flds h 32) ∧ z_ob 2 h (some 34) = some (flds h 34) ∧ z_ob 9 h (some 35) = some (flds h 35) ∧ z_ob 8 h (some 44) = some (flds h 44) ∧ z_ob 4 h (some 46) = some (flds h 46) ∧ z_ob 6 h (some 53) = some (flds h 53) ∧ z_ob 3 h (some 59) = some (flds h 59) ∧ z_ob 9 h (some 63) = some (flds h 63) ∧ z_ob 9 h (some 72) = some (flds h 72) := ⟨s_ob hs rfl, s_ob hs rfl, s_ob hs rfl, s_ob hs rfl, s_ob hs rfl, s_ob hs rfl, s_ob hs rfl, s_ob hs rfl, s_ob hs rfl, s_ob hs rfl, s_ob hs rfl, s_ob hs rfl, s_ob hs rfl, s_ob hs rfl, s_ob hs rfl, s_ob hs rfl⟩
theorem wrF_c {h : z_H} (hs : Sh h) : (∀ v, z_pV 10 h (some 0) 13 v = some (wF h 0 13 v)) ∧ (∀ v, z_pV 10 h (some 0) 14 v = some (wF h 0 14 v)) ∧ (∀ v, z_pV 9 h (some 1) 8 v = some (wF h 1 8 v)) ∧ (∀ v, z_pV 9 h (some 1) 9 v = some (wF h 1 9 v)) ∧ (∀ v, z_pV 9 h (some 1) 10 v = some (wF h 1 10 v)) ∧ (∀ v, z_pV 9 h (some 1) 11 v = some (wF h 1 11 v)) ∧ (∀ v, z_pV 9 h (some 1) 12 v = some (wF h 1 12 v)) ∧ (∀ v, z_pV 9 h (some 12) 8 v = some (wF h 12 8 v)) ∧ (∀ v, z_pV 9 h (some 12) 9 v = some (wF h 12 9 v)) ∧ (∀ v, z_pV 9 h (some 12) 10 v = some (wF h 12 10 v)) ∧ (∀ v, z_pV 9 h (some 12) 11 v = some (wF h 12 11 v)) ∧ (∀ v, z_pV 9 h (some 12) 12 v = some (wF h 12 12 v)) ∧ (∀ v, z_pV 8 h (some 21) 1 v = some (wF h 21 1 v)) ∧ (∀ v, z_pV 5 h (some 23) 2 v = some (wF h 23 2 v)) ∧ (∀ v, z_pV 5 h (some 23) 3 v = some (wF h 23 3 v)) ∧ (∀ v, z_pV 5 h (some 23) 4 v = some (wF h 23 4 v)) ∧ (∀ v, z_pV 5 h (some 23) 5 v = some (wF h 23 5 v)) ∧ (∀ v, z_pV 5 h (some 23) 6 v = some (wF h 23 6 v)) ∧ (∀ v, z_pV 5 h (some 23) 7 v = some (wF h 23 7 v)) ∧ (∀ v, z_pV 5 h (some 23) 8 v = some (wF h 23 8 v)) ∧ (∀ v, z_pV 5 h (some 23) 9 v = some (wF h 23 9 v)) ∧ (∀ v, z_pV 7 h (some 25) 3 v = some (wF h 25 3 v)) ∧ (∀ v, z_pV 7 h (some 25) 4 v = some (wF h 25 4 v)) ∧ (∀ v, z_pV 1 h (some 29) 2 v = some (wF h 29 2 v)) ∧ (∀ v, z_pV 2 h (some 34) 4 v = some (wF h 34 4 v)) ∧ (∀ v, z_pV 2 h (some 34) 5 v = some (wF h 34 5 v)) ∧ (∀ v, z_pV 2 h (some 34) 6 v = some (wF h 34 6 v)) ∧ (∀ v, z_pV 9 h (some 35) 8 v = some (wF h 35 8 v)) ∧ (∀ v, z_pV 9 h (some 35) 9 v = some (wF h 35 9 v)) ∧ (∀ v, z_pV 9 h (some 35) 10 v = some (wF h 35 10 v)) ∧ (∀ v, z_pV 9 h (some 35) 11 v = some (wF h 35 11 v)) ∧ (∀ v, z_pV 9 h (some 35) 12 v = some (wF h 35 12 v)) ∧ (∀ v, z_pV 8 h (some 44) 1 v = some (wF h 44 1 v)) ∧ (∀ v, z_pV 4 h (some 46) 7 v = some (wF h 46 7 v)) ∧ (∀ v, z_pV 4 h (some 46) 8 v = some (wF h 46 8 v)) ∧ (∀ v, z_pV 3 h (some 59) 2 v = some (wF h 59 2 v)) ∧ (∀ v, z_pV 3 h (some 59) 3 v = some (wF h 59 3 v)) ∧ (∀ v, z_pV 3 h (some 59) 4 v = some (wF h 59 4 v)) ∧ (∀ v, z_pV 3 h (some 59) 5 v = some (wF h 59 5 v)) ∧ (∀ v, z_pV 9 h (some 63) 8 v = some (wF h 63 8 v)) ∧ (∀ v, z_pV 9 h (some 63) 9 v = some (wF h 63 9 v)) ∧ (∀ v, z_pV 9 h (some 63) 10 v = some (wF h 63 10 v)) ∧ (∀ v, z_pV 9 h (some 63) 11 v = some (wF h 63 11 v)) ∧ (∀ v, z_pV 9 h (some 63) 12 v = some (wF h 63 12 v)) ∧ (∀ v, z_pV 9 h (some 72) 8 v = some (wF h 72 8 v)) ∧ (∀ v, z_pV 9 h (some 72) 9 v = some (wF h 72 9 v)) ∧ (∀ v, z_pV 9 h (some 72) 10 v = some (wF h 72 10 v)) ∧ (∀ v, z_pV 9 h (some 72) 11 v = some (wF h 72 11 v)) ∧ (∀ v, z_pV 9 h (some 72) 12 v = some (wF h 72 12 v)) := ⟨fun v => s_pV hs rfl (by decide) v, fun v => s_pV hs rfl (by decide) v, fun v => s_pV hs rfl (by decide) v, fun v => s_pV hs rfl (by decide) v, fun v => s_pV hs rfl (by decide) v, fun v => s_pV hs rfl (by decide) v, fun v => s_pV hs rfl (by decide) v, fun v => s_pV hs rfl (by decide) v, fun v => s_pV hs rfl (by decide) v, fun v => s_pV hs rfl (by decide) v, fun v => s_pV hs rfl (by decide) v, fun v => s_pV hs rfl (by decide) v, fun v => s_pV hs rfl (by decide) v, fun v => s_pV hs rfl (by decide) v, fun v => s_pV hs rfl (by decide) v, fun v => s_pV hs rfl (by decide) v, fun v => s_pV hs rfl (by decide) v, fun v => s_pV hs rfl (by decide) v, fun v => s_pV hs rfl (by decide) v, fun v => s_pV hs rfl (by decide) v, fun v => s_pV hs rfl (by decide) v, fun v => s_pV hs rfl (by decide) v, fun v => s_pV hs rfl (by decide) v, fun v => s_pV hs rfl (by decide) v, fun v => s_pV hs rfl (by decide) v, fun v => s_pV hs rfl (by decide) v, fun v => s_pV hs rfl (by decide) v, fun v => s_pV hs rfl (by decide) v, fun v => s_pV hs rfl (by decide) v, fun v => s_pV hs rfl (by decide) v, fun v => s_pV hs rfl (by decide) v, fun v => s_pV hs rfl (by decide) v, fun v => s_pV hs rfl (by decide) v, fun v => s_pV hs rfl (by decide) v, fun v => s_pV hs rfl (by decide) v, fun v => s_pV hs rfl (by decide) v, fun v => s_pV hs rfl (by decide) v, fun v => s_pV hs rfl (by decide) v, fun v => s_pV hs rfl (by decide) v, fun v => s_pV hs rfl (by decide) v, fun v => s_pV hs rfl (by decide) v, fun v => s_pV hs rfl (by decide) v, fun v => s_pV hs rfl (by decide) v, fun v => s_pV hs rfl (by decide) v, fun v => s_pV hs rfl (by decide) v, fun v => s_pV hs rfl (by decide) v, fun v => s_pV hs rfl (by decide) v, fun v => s_pV hs rfl (by decide) v, fun v => s_pV hs rfl (by decide) v⟩
theorem rdA_c {h : z_H} (hs : Sh h) : (∀ i, z_aI .int h (some 2) i = iR 6 (aI h 2) i) ∧ (∀ i, z_aI .int h (some 3) i = iR 6 (aI h 3) i) ∧ (∀ i, z_aI .int h (some 4) i = iR 6 (aI h 4) i) ∧ (∀ i, z_aI .int h (some 5) i = iR 24 (aI h 5) i) ∧ (∀ i, z_aI .int h (some 6) i = iR 3 (aI h 6) i) ∧ (∀ i, z_aI .int h (some 7) i = iR 6 (aI h 7) i) ∧ (∀ i, z_aI .int h (some 8) i = iR 6 (aI h 8) i) ∧ (∀ i, z_aI .int h (some 13) i = iR 6 (aI h 13) i) ∧ (∀ i, z_aI .int h (some 14) i = iR 6 (aI h 14) i) ∧ (∀ i, z_aI .int h (some 15) i = iR 6 (aI h 15) i) ∧ (∀ i, z_aI .int h (some 16) i = iR 24 (aI h 16) i) ∧ (∀ i, z_aI .int h (some 17) i = iR 3 (aI h 17) i) ∧ (∀ i, z_aI .int h (some 18) i = iR 6 (aI h 18) i) ∧ (∀ i, z_aI .int h (some 19) i = iR 6 (aI h 19) i) ∧ (∀ i, z_aI .int h (some 22) i = iR 112 (aI h 22) i) ∧ (∀ i, z_aI .int h (some 24) i = iR 400 (aI h 24) i) ∧ (∀ i, z_aI .int h (some 26) i = iR 400 (aI h 26) i) ∧ (∀ i, z_aI .int h (some 27) i = iR 400 (aI h 27) i) ∧ (∀ i, z_aI .int h (some 28) i = iR 72 (aI h 28) i) ∧ (∀ i, z_aI .int h (some 30) i = iR 23 (aI h 30) i) ∧ (∀ i, z_aI .int h (some 33) i = iR 7 (aI h 33) i) ∧ (∀ i, z_aI .int h (some 36) i = iR 6 (aI h 36) i) ∧ (∀ i, z_aI .int h (some 37) i = iR 6 (aI h 37) i) ∧ (∀ i, z_aI .int h (some 38) i = iR 6 (aI h 38) i) ∧ (∀ i, z_aI .int h (some 39) i = iR 24 (aI h 39) i) ∧ (∀ i, z_aI .int h (some 40) i = iR 3 (aI h 40) i) ∧ (∀ i, z_aI .int h (some 41) i = iR 6 (aI h 41) i) ∧ (∀ i, z_aI .int h (some 42) i = iR 6 (aI h 42) i) ∧ (∀ i, z_aI .int h (some 45) i = iR 112 (aI h 45) i) ∧ (∀ i, z_aI .int h (some 47) i = iR 100 (aI h 47) i) ∧ (∀ i, z_aI .int h (some 48) i = iR 100 (aI h 48) i) ∧ (∀ i, z_aI .int h (some 49) i = iR 100 (aI h 49) i) ∧ (∀ i, z_aI .int h (some 50) i = iR 100 (aI h 50) i) ∧ (∀ i, z_aI .int h (some 51) i = iR 100 (aI h 51) i) ∧ (∀ i, z_aI .int h (some 60) i = iR 6 (aI h 60) i) ∧ (∀ i, z_aI .int h (some 61) i = iR 6 (aI h 61) i) ∧ (∀ i, z_aI .int h (some 62) i = iR 7 (aI h 62) i) ∧ (∀ i, z_aI .int h (some 64) i = iR 6 (aI h 64) i) ∧ (∀ i, z_aI .int h (some 65) i = iR 6 (aI h 65) i) ∧ (∀ i, z_aI .int h (some 66) i = iR 6 (aI h 66) i) ∧ (∀ i, z_aI .int h (some 67) i = iR 24 (aI h 67) i) ∧ (∀ i, z_aI .int h (some 68) i = iR 3 (aI h 68) i) ∧ (∀ i, z_aI .int h (some 69) i = iR 6 (aI h 69) i) ∧ (∀ i, z_aI .int h (some 70) i = iR 6 (aI h 70) i) ∧ (∀ i, z_aI .int h (some 73) i = iR 6 (aI h 73) i) ∧ (∀ i, z_aI .int h (some 74) i = iR 6 (aI h 74) i) ∧ (∀ i, z_aI .int h (some 75) i = iR 6 (aI h 75) i) ∧ (∀ i, z_aI .int h (some 76) i = iR 24 (aI h 76) i) ∧ (∀ i, z_aI .int h (some 77) i = iR 3 (aI h 77) i) ∧ (∀ i, z_aI .int h (some 78) i = iR 6 (aI h 78) i) ∧ (∀ i, z_aI .int h (some 79) i = iR 6 (aI h 79) i) ∧ (∀ i, z_aI .boolean h (some 11) i = iR 2 (aI h 11) i) ∧ (∀ i, z_aI .boolean h (some 52) i = iR 100 (aI h 52) i) ∧ (∀ i, z_aJ h (some 31) i = iR 51 (aJ h 31) i) ∧ (∀ i, z_aJ h (some 54) i = iR 1225 (aJ h 54) i) ∧ (∀ i, z_aJ h (some 55) i = iR 25 (aJ h 55) i) ∧ (∀ i, z_aJ h (some 56) i = iR 100 (aJ h 56) i) ∧ (∀ i, z_aJ h (some 57) i = iR 100 (aJ h 57) i) ∧ (∀ i, z_aJ h (some 58) i = iR 20 (aJ h 58) i) ∧ (∀ i, z_aQ RX7 h (some 9) i = iR 6 (aQ h 9) i) ∧ (∀ i, z_aQ RX9 h (some 10) i = iR 2 (aQ h 10) i) ∧ (∀ i, z_aQ RX7 h (some 20) i = iR 6 (aQ h 20) i) ∧ (∀ i, z_aQ RX7 h (some 43) i = iR 6 (aQ h 43) i) ∧ (∀ i, z_aQ RX7 h (some 71) i = iR 6 (aQ h 71) i) ∧ (∀ i, z_aQ RX7 h (some 80) i = iR 6 (aQ h 80) i) := ⟨fun i => s_aI hs (Or.inl rfl) rfl i, fun i => s_aI hs (Or.inl rfl) rfl i, fun i => s_aI hs (Or.inl rfl) rfl i, fun i => s_aI hs (Or.inl rfl) rfl i, fun i => s_aI hs (Or.inl rfl) rfl i, fun i => s_aI hs (Or.inl rfl) rfl i, fun i => s_aI hs (Or.inl rfl) rfl i, fun i => s_aI hs (Or.inl rfl) rfl i, fun i => s_aI hs (Or.inl rfl) rfl i, fun i => s_aI hs (Or.inl rfl) rfl i, fun i => s_aI hs (Or.inl rfl) rfl i, fun i => s_aI hs (Or.inl rfl) rfl i, fun i => s_aI hs (Or.inl rfl) rfl i, fun i => s_aI hs (Or.inl rfl) rfl i, fun i => s_aI hs (Or.inl rfl) rfl i, fun i => s_aI hs (Or.inl rfl) rfl i, fun i => s_aI hs (Or.inl rfl) rfl i, fun i => s_aI hs (Or.inl rfl) rfl i, fun i => s_aI hs (Or.inl rfl) rfl i, fun i => s_aI hs (Or.inl rfl) rfl i, fun i => s_aI hs (Or.inl rfl) rfl i, fun i => s_aI hs (Or.inl rfl) rfl i, fun i => s_aI hs (Or.inl rfl) rfl i, fun i => s_aI hs (Or.inl rfl) rfl i, fun i => s_aI hs (Or.inl rfl) rfl i, fun i => s_aI hs (Or.inl rfl) rfl i, fun i => s_aI hs (Or.inl rfl) rfl i, fun i => s_aI hs (Or.inl rfl) rfl i, fun i => s_aI hs (Or.inl rfl) rfl i, fun i => s_aI hs (Or.inl rfl) rfl i, fun i => s_aI hs (Or.inl rfl) rfl i, fun i => s_aI hs (Or.inl rfl) rfl i, fun i => s_aI hs (Or.inl rfl) rfl i, fun i => s_aI hs (Or.inl rfl) rfl i, fun i => s_aI hs (Or.inl rfl) rfl i, fun i => s_aI hs (Or.inl rfl) rfl i, fun i => s_aI hs (Or.inl rfl) rfl i, fun i => s_aI hs (Or.inl rfl) rfl i, fun i => s_aI hs (Or.inl rfl) rfl i, fun i => s_aI hs (Or.inl rfl) rfl i, fun i => s_aI hs (Or.inl rfl) rfl i, fun i => s_aI hs (Or.inl rfl) rfl i, fun i => s_aI hs (Or.inl rfl) rfl i, fun i => s_aI hs (Or.inl rfl) rfl i, fun i => s_aI hs (Or.inl rfl) rfl i, fun i => s_aI hs (Or.inl rfl) rfl i, fun i => s_aI hs (Or.inl rfl) rfl i, fun i => s_aI hs (Or.inl rfl) rfl i, fun i => s_aI hs (Or.inl rfl) rfl i, fun i => s_aI hs (Or.inl rfl) rfl i, fun i => s_aI hs (Or.inl rfl) rfl i, fun i => s_aI hs (Or.inr rfl) rfl i, fun i => s_aI hs (Or.inr rfl) rfl i, fun i => s_aJ hs rfl i, fun i => s_aJ hs rfl i, fun i => s_aJ hs rfl i, fun i => s_aJ hs rfl i, fun i => s_aJ hs rfl i, fun i => s_aJ hs rfl i, fun i => s_aQ hs rfl i, fun i => s_aQ hs rfl i, fun i => s_aQ hs rfl i, fun i => s_aQ hs rfl i, fun i => s_aQ hs rfl i, fun i => s_aQ hs rfl i⟩
theorem wrA_c {h : z_H} (hs : Sh h) : (∀ i x, z_sI h (some 2) i x = iW 6 i (wA h 2 (upd (aI h 2) i.toNatClampNeg x))) ∧ (∀ i x, z_sI h (some 3) i x = iW 6 i (wA h 3 (upd (aI h 3) i.toNatClampNeg x))) ∧ (∀ i x, z_sI h (some 4) i x = iW 6 i (wA h 4 (upd (aI h 4) i.toNatClampNeg x))) ∧ (∀ i x, z_sI h (some 5) i x = iW 24 i (wA h 5 (upd (aI h 5) i.toNatClampNeg x))) ∧ (∀ i x, z_sI h (some 6) i x = iW 3 i (wA h 6 (upd (aI h 6) i.toNatClampNeg x))) ∧ (∀ i x, z_sI h (some 7) i x = iW 6 i (wA h 7 (upd (aI h 7) i.toNatClampNeg x))) ∧ (∀ i x, z_sI h (some 8) i x = iW 6 i (wA h 8 (upd (aI h 8) i.toNatClampNeg x))) ∧ (∀ i x, z_sI h (some 13) i x = iW 6 i (wA h 13 (upd (aI h 13) i.toNatClampNeg x))) ∧ (∀ i x, z_sI h (some 14) i x = iW 6 i (wA h 14 (upd (aI h 14) i.toNatClampNeg x))) ∧ (∀ i x, z_sI h (some 15) i x = iW 6 i (wA h 15 (upd (aI h 15) i.toNatClampNeg x))) ∧ (∀ i x, z_sI h (some 16) i x = iW 24 i (wA h 16 (upd (aI h 16) i.toNatClampNeg x))) ∧ (∀ i x, z_sI h (some 17) i x = iW 3 i (wA h 17 (upd (aI h 17) i.toNatClampNeg x))) ∧ (∀ i x, z_sI h (some 18) i x = iW 6 i (wA h 18 (upd (aI h 18) i.toNatClampNeg x))) ∧ (∀ i x, z_sI h (some 19) i x = iW 6 i (wA h 19 (upd (aI h 19) i.toNatClampNeg x))) ∧ (∀ i x, z_sI h (some 22) i x = iW 112 i (wA h 22 (upd (aI h 22) i.toNatClampNeg x))) ∧ (∀ i x, z_sI h (some 24) i x = iW 400 i (wA h 24 (upd (aI h 24) i.toNatClampNeg x))) ∧ (∀ i x, z_sI h (some 26) i x = iW 400 i (wA h 26 (upd (aI h 26) i.toNatClampNeg x))) ∧ (∀ i x, z_sI h (some 27) i x = iW 400 i (wA h 27 (upd (aI h 27) i.toNatClampNeg x))) ∧ (∀ i x, z_sI h (some 28) i x = iW 72 i (wA h 28 (upd (aI h 28) i.toNatClampNeg x))) ∧ (∀ i x, z_sI h (some 30) i x = iW 23 i (wA h 30 (upd (aI h 30) i.toNatClampNeg x))) ∧ (∀ i x, z_sI h (some 33) i x = iW 7 i (wA h 33 (upd (aI h 33) i.toNatClampNeg x))) ∧ (∀ i x, z_sI h (some 36) i x = iW 6 i (wA h 36 (upd (aI h 36) i.toNatClampNeg x))) ∧ (∀ i x, z_sI h (some 37) i x = iW 6 i (wA h 37 (upd (aI h 37) i.toNatClampNeg x))) ∧ (∀ i x, z_sI h (some 38) i x = iW 6 i (wA h 38 (upd (aI h 38) i.toNatClampNeg x))) ∧ (∀ i x, z_sI h (some 39) i x = iW 24 i (wA h 39 (upd (aI h 39) i.toNatClampNeg x))) ∧ (∀ i x, z_sI h (some 40) i x = iW 3 i (wA h 40 (upd (aI h 40) i.toNatClampNeg x))) ∧ (∀ i x, z_sI h (some 41) i x = iW 6 i (wA h 41 (upd (aI h 41) i.toNatClampNeg x))) ∧ (∀ i x, z_sI h (some 42) i x = iW 6 i (wA h 42 (upd (aI h 42) i.toNatClampNeg x))) ∧ (∀ i x, z_sI h (some 45) i x = iW 112 i (wA h 45 (upd (aI h 45) i.toNatClampNeg x))) ∧ (∀ i x, z_sI h (some 47) i x = iW 100 i (wA h 47 (upd (aI h 47) i.toNatClampNeg x))) ∧ (∀ i x, z_sI h (some 48) i x = iW 100 i (wA h 48 (upd (aI h 48) i.toNatClampNeg x))) ∧ (∀ i x, z_sI h (some 49) i x = iW 100 i (wA h 49 (upd (aI h 49) i.toNatClampNeg x))) ∧ (∀ i x, z_sI h (some 50) i x = iW 100 i (wA h 50 (upd (aI h 50) i.toNatClampNeg x))) ∧ (∀ i x, z_sI h (some 51) i x = iW 100 i (wA h 51 (upd (aI h 51) i.toNatClampNeg x))) ∧ (∀ i x, z_sI h (some 60) i x = iW 6 i (wA h 60 (upd (aI h 60) i.toNatClampNeg x))) ∧ (∀ i x, z_sI h (some 61) i x = iW 6 i (wA h 61 (upd (aI h 61) i.toNatClampNeg x))) ∧ (∀ i x, z_sI h (some 62) i x = iW 7 i (wA h 62 (upd (aI h 62) i.toNatClampNeg x))) ∧ (∀ i x, z_sI h (some 64) i x = iW 6 i (wA h 64 (upd (aI h 64) i.toNatClampNeg x))) ∧ (∀ i x, z_sI h (some 65) i x = iW 6 i (wA h 65 (upd (aI h 65) i.toNatClampNeg x))) ∧ (∀ i x, z_sI h (some 66) i x = iW 6 i (wA h 66 (upd (aI h 66) i.toNatClampNeg x))) ∧ (∀ i x, z_sI h (some 67) i x = iW 24 i (wA h 67 (upd (aI h 67) i.toNatClampNeg x))) ∧ (∀ i x, z_sI h (some 68) i x = iW 3 i (wA h 68 (upd (aI h 68) i.toNatClampNeg x))) ∧ (∀ i x, z_sI h (some 69) i x = iW 6 i (wA h 69 (upd (aI h 69) i.toNatClampNeg x))) ∧ (∀ i x, z_sI h (some 70) i x = iW 6 i (wA h 70 (upd (aI h 70) i.toNatClampNeg x))) ∧ (∀ i x, z_sI h (some 73) i x = iW 6 i (wA h 73 (upd (aI h 73) i.toNatClampNeg x))) ∧ (∀ i x, z_sI h (some 74) i x = iW 6 i (wA h 74 (upd (aI h 74) i.toNatClampNeg x))) ∧ (∀ i x, z_sI h (some 75) i x = iW 6 i (wA h 75 (upd (aI h 75) i.toNatClampNeg x))) ∧ (∀ i x, z_sI h (some 76) i x = iW 24 i (wA h 76 (upd (aI h 76) i.toNatClampNeg x))) ∧ (∀ i x, z_sI h (some 77) i x = iW 3 i (wA h 77 (upd (aI h 77) i.toNatClampNeg x))) ∧ (∀ i x, z_sI h (some 78) i x = iW 6 i (wA h 78 (upd (aI h 78) i.toNatClampNeg x))) ∧ (∀ i x, z_sI h (some 79) i x = iW 6 i (wA h 79 (upd (aI h 79) i.toNatClampNeg x))) ∧ (∀ i x, z_sZ h (some 11) i x = iW 2 i (wA h 11 (upd (aI h 11) i.toNatClampNeg (vp_nar .boolean x)))) ∧ (∀ i x, z_sZ h (some 52) i x = iW 100 i (wA h 52 (upd (aI h 52) i.toNatClampNeg (vp_nar .boolean x)))) ∧ (∀ i x, z_sJ h (some 31) i x = iW 51 i (wJ h 31 (vp_updL (aJ h 31) i.toNatClampNeg x))) ∧ (∀ i x, z_sJ h (some 54) i x = iW 1225 i (wJ h 54 (vp_updL (aJ h 54) i.toNatClampNeg x))) ∧ (∀ i x, z_sJ h (some 55) i x = iW 25 i (wJ h 55 (vp_updL (aJ h 55) i.toNatClampNeg x))) ∧ (∀ i x, z_sJ h (some 56) i x = iW 100 i (wJ h 56 (vp_updL (aJ h 56) i.toNatClampNeg x))) ∧ (∀ i x, z_sJ h (some 57) i x = iW 100 i (wJ h 57 (vp_updL (aJ h 57) i.toNatClampNeg x))) ∧ (∀ i x, z_sJ h (some 58) i x = iW 20 i (wJ h 58 (vp_updL (aJ h 58) i.toNatClampNeg x))) := ⟨fun i x => s_sI hs rfl i x, fun i x => s_sI hs rfl i x, fun i x => s_sI hs rfl i x, fun i x => s_sI hs rfl i x, fun i x => s_sI hs rfl i x, fun i x => s_sI hs rfl i x, fun i x => s_sI hs rfl i x, fun i x => s_sI hs rfl i x, fun i x => s_sI hs rfl i x, fun i x => s_sI hs rfl i x, fun i x => s_sI hs rfl i x, fun i x => s_sI hs rfl i x, fun i x => s_sI hs rfl i x, fun i x => s_sI hs rfl i x, fun i x => s_sI hs rfl i x, fun i x => s_sI hs rfl i x, fun i x => s_sI hs rfl i x, fun i x => s_sI hs rfl i x, fun i x => s_sI hs rfl i x, fun i x => s_sI hs rfl i x, fun i x => s_sI hs rfl i x, fun i x => s_sI hs rfl i x, fun i x => s_sI hs rfl i x, fun i x => s_sI hs rfl i x, fun i x => s_sI hs rfl i x, fun i x => s_sI hs rfl i x, fun i x => s_sI hs rfl i x, fun i x => s_sI hs rfl i x, fun i x => s_sI hs rfl i x, fun i x => s_sI hs rfl i x, fun i x => s_sI hs rfl i x, fun i x => s_sI hs rfl i x, fun i x => s_sI hs rfl i x, fun i x => s_sI hs rfl i x, fun i x => s_sI hs rfl i x, fun i x => s_sI hs rfl i x, fun i x => s_sI hs rfl i x, fun i x => s_sI hs rfl i x, fun i x => s_sI hs rfl i x, fun i x => s_sI hs rfl i x, fun i x => s_sI hs rfl i x, fun i x => s_sI hs rfl i x, fun i x => s_sI hs rfl i x, fun i x => s_sI hs rfl i x, fun i x => s_sI hs rfl i x, fun i x => s_sI hs rfl i x, fun i x => s_sI hs rfl i x, fun i x => s_sI hs rfl i x, fun i x => s_sI hs rfl i x, fun i x => s_sI hs rfl i x, fun i x => s_sI hs rfl i x, fun i x => s_sZ hs rfl i x, fun i x => s_sZ hs rfl i x, fun i x => s_sJ hs rfl i x, fun i x => s_sJ hs rfl i x, fun i x => s_sJ hs rfl i x, fun i x => s_sJ hs rfl i x, fun i x => s_sJ hs rfl i x, fun i x => s_sJ hs rfl i x⟩
theorem rdF_m {h : z_H} (hs : Sh h) : z_gI 11 h (some 81) 0 = some (fI h 81 0) ∧ z_gI 11 h (some 81) 1 = some (fI h 81 1) ∧ z_gI 11 h (some 81) 8 = some (fI h 81 8) ∧ z_gI 11 h (some 81) 11 = some (fI h 81 11) ∧ z_gI 11 h (some 81) 13 = some (fI h 81 13) ∧ z_gI 11 h (some 81) 14 = some (fI h 81 14) ∧ z_gI 11 h (some 81) 15 = some (fI h 81 15) ∧ z_gI 11 h (some 81) 16 = some (fI h 81 16) ∧ z_gI 11 h (some 81) 18 = some (fI h 81 18) ∧ z_gI 11 h (some 81) 19 = some (fI h 81 19) ∧ z_gI 11 h (some 81) 20 = some (fI h 81 20) ∧ z_gI 11 h (some 81) 21 = some (fI h 81 21) ∧ z_gI 11 h (some 81) 23 = some (fI h 81 23) ∧ z_gI 11 h (some 81) 26 = some (fI h 81 26) ∧ z_gI 11 h (some 81) 29 = some (fI h 81 29) ∧ z_gI 11 h (some 81) 30 = some (fI h 81 30) ∧ z_gI 11 h (some 81) 34 = some (fI h 81 34) ∧ z_gI 11 h (some 81) 38 = some (fI h 81 38) ∧ z_gI 11 h (some 81) 52 = some (fI h 81 52) ∧ z_gI 11 h (some 81) 53 = some (fI h 81 53) ∧ z_gI 11 h (some 81) 54 = some (fI h 81 54) ∧ z_gI 11 h (some 81) 55 = some (fI h 81 55) ∧ z_gI 11 h (some 81) 58 = some (fI h 81 58) ∧ z_gJ 11 h (some 81) 17 = some (fJ h 81 17) ∧ z_gJ 11 h (some 81) 39 = some (fJ h 81 39) ∧ z_gJ 11 h (some 81) 40 = some (fJ h 81 40) ∧ z_gJ 11 h (some 81) 56 = some (fJ h 81 56) := ⟨s_gI hs rfl rfl, s_gI hs rfl rfl, s_gI hs rfl rfl, s_gI hs rfl rfl, s_gI hs rfl rfl, s_gI hs rfl rfl, s_gI hs rfl rfl, s_gI hs rfl rfl, s_gI hs rfl rfl, s_gI hs rfl rfl, s_gI hs rfl rfl, s_gI hs rfl rfl, s_gI hs rfl rfl, s_gI hs rfl rfl, s_gI hs rfl rfl, s_gI hs rfl rfl, s_gI hs rfl rfl, s_gI hs rfl rfl, s_gI hs rfl rfl, s_gI hs rfl rfl, s_gI hs rfl rfl, s_gI hs rfl rfl, s_gI hs rfl rfl, s_gJ hs rfl rfl, s_gJ hs rfl rfl, s_gJ hs rfl rfl, s_gJ hs rfl rfl⟩
theorem rdQ_m {h : z_H} (hs : Sh h) : z_gQ 11 h (some 81) 2 = some (some 82) ∧ z_gQ 11 h (some 81) 3 = some (some 83) ∧ z_gQ 11 h (some 81) 4 = some (some 84) ∧ z_gQ 11 h (some 81) 5 = some (some 85) ∧ z_gQ 11 h (some 81) 6 = some (some 86) ∧ z_gQ 11 h (some 81) 7 = some (some 87) ∧ z_gQ 11 h (some 81) 9 = some (some 88) ∧ z_gQ 11 h (some 81) 10 = some (some 89) ∧ z_gQ 11 h (some 81) 12 = some (some 90) ∧ z_gQ 11 h (some 81) 22 = some (some 91) ∧ z_gQ 11 h (some 81) 24 = some (some 92) ∧ z_gQ 11 h (some 81) 25 = some (some 93) ∧ z_gQ 11 h (some 81) 27 = some (some 94) ∧ z_gQ 11 h (some 81) 28 = some (some 95) ∧ z_gQ 11 h (some 81) 31 = some (some 96) ∧ z_gQ 11 h (some 81) 32 = some (some 97) ∧ z_gQ 11 h (some 81) 33 = some (some 98) ∧ z_gQ 11 h (some 81) 35 = some (some 99) ∧ z_gQ 11 h (some 81) 36 = some (some 100) ∧ z_gQ 11 h (some 81) 37 = some (some 101) ∧ z_gQ 11 h (some 81) 41 = some (some 102) ∧ z_gQ 11 h (some 81) 42 = some (some 103) ∧ z_gQ 11 h (some 81) 43 = some (some 104) ∧ z_gQ 11 h (some 81) 44 = some (some 105) ∧ z_gQ 11 h (some 81) 45 = some (some 106) ∧ z_gQ 11 h (some 81) 46 = some (some 107) ∧ z_gQ 11 h (some 81) 47 = some (some 108) ∧ z_gQ 11 h (some 81) 48 = some (some 109) ∧ z_gQ 11 h (some 81) 49 = some (some 110) ∧ z_gQ 11 h (some 81) 50 = some (some 111) ∧ z_gQ 11 h (some 81) 51 = some (some 112) ∧ z_gQ 11 h (some 81) 57 = some (some 113) := ⟨s_gQ hs rfl rfl, s_gQ hs rfl rfl, s_gQ hs rfl rfl, s_gQ hs rfl rfl, s_gQ hs rfl rfl, s_gQ hs rfl rfl, s_gQ hs rfl rfl, s_gQ hs rfl rfl, s_gQ hs rfl rfl, s_gQ hs rfl rfl, s_gQ hs rfl rfl, s_gQ hs rfl rfl, s_gQ hs rfl rfl, s_gQ hs rfl rfl, s_gQ hs rfl rfl, s_gQ hs rfl rfl, s_gQ hs rfl rfl, s_gQ hs rfl rfl, s_gQ hs rfl rfl, s_gQ hs rfl rfl, s_gQ hs rfl rfl, s_gQ hs rfl rfl, s_gQ hs rfl rfl, s_gQ hs rfl rfl, s_gQ hs rfl rfl, s_gQ hs rfl rfl, s_gQ hs rfl rfl, s_gQ hs rfl rfl, s_gQ hs rfl rfl, s_gQ hs rfl rfl, s_gQ hs rfl rfl, s_gQ hs rfl rfl⟩
theorem rdO_m {h : z_H} (hs : Sh h) : z_ob 11 h (some 81) = some (flds h 81) := s_ob hs rfl
theorem wrF_m {h : z_H} (hs : Sh h) : (∀ v, z_pV 11 h (some 81) 0 v = some (wF h 81 0 v)) ∧ (∀ v, z_pV 11 h (some 81) 1 v = some (wF h 81 1 v)) ∧ (∀ v, z_pV 11 h (some 81) 8 v = some (wF h 81 8 v)) ∧ (∀ v, z_pV 11 h (some 81) 11 v = some (wF h 81 11 v)) ∧ (∀ v, z_pV 11 h (some 81) 13 v = some (wF h 81 13 v)) ∧ (∀ v, z_pV 11 h (some 81) 14 v = some (wF h 81 14 v)) ∧ (∀ v, z_pV 11 h (some 81) 15 v = some (wF h 81 15 v)) ∧ (∀ v, z_pV 11 h (some 81) 16 v = some (wF h 81 16 v)) ∧ (∀ v, z_pV 11 h (some 81) 18 v = some (wF h 81 18 v)) ∧ (∀ v, z_pV 11 h (some 81) 19 v = some (wF h 81 19 v)) ∧ (∀ v, z_pV 11 h (some 81) 20 v = some (wF h 81 20 v)) ∧ (∀ v, z_pV 11 h (some 81) 21 v = some (wF h 81 21 v)) ∧ (∀ v, z_pV 11 h (some 81) 23 v = some (wF h 81 23 v)) ∧ (∀ v, z_pV 11 h (some 81) 26 v = some (wF h 81 26 v)) ∧ (∀ v, z_pV 11 h (some 81) 29 v = some (wF h 81 29 v)) ∧ (∀ v, z_pV 11 h (some 81) 30 v = some (wF h 81 30 v)) ∧ (∀ v, z_pV 11 h (some 81) 34 v = some (wF h 81 34 v)) ∧ (∀ v, z_pV 11 h (some 81) 38 v = some (wF h 81 38 v)) ∧ (∀ v, z_pV 11 h (some 81) 52 v = some (wF h 81 52 v)) ∧ (∀ v, z_pV 11 h (some 81) 53 v = some (wF h 81 53 v)) ∧ (∀ v, z_pV 11 h (some 81) 54 v = some (wF h 81 54 v)) ∧ (∀ v, z_pV 11 h (some 81) 55 v = some (wF h 81 55 v)) ∧ (∀ v, z_pV 11 h (some 81) 58 v = some (wF h 81 58 v)) ∧ (∀ v, z_pV 11 h (some 81) 17 v = some (wF h 81 17 v)) ∧ (∀ v, z_pV 11 h (some 81) 39 v = some (wF h 81 39 v)) ∧ (∀ v, z_pV 11 h (some 81) 40 v = some (wF h 81 40 v)) ∧ (∀ v, z_pV 11 h (some 81) 56 v = some (wF h 81 56 v)) := ⟨fun v => s_pV hs rfl (by decide) v, fun v => s_pV hs rfl (by decide) v, fun v => s_pV hs rfl (by decide) v, fun v => s_pV hs rfl (by decide) v, fun v => s_pV hs rfl (by decide) v, fun v => s_pV hs rfl (by decide) v, fun v => s_pV hs rfl (by decide) v, fun v => s_pV hs rfl (by decide) v, fun v => s_pV hs rfl (by decide) v, fun v => s_pV hs rfl (by decide) v, fun v => s_pV hs rfl (by decide) v, fun v => s_pV hs rfl (by decide) v, fun v => s_pV hs rfl (by decide) v, fun v => s_pV hs rfl (by decide) v, fun v => s_pV hs rfl (by decide) v, fun v => s_pV hs rfl (by decide) v, fun v => s_pV hs rfl (by decide) v, fun v => s_pV hs rfl (by decide) v, fun v => s_pV hs rfl (by decide) v, fun v => s_pV hs rfl (by decide) v, fun v => s_pV hs rfl (by decide) v, fun v => s_pV hs rfl (by decide) v, fun v => s_pV hs rfl (by decide) v, fun v => s_pV hs rfl (by decide) v, fun v => s_pV hs rfl (by decide) v, fun v => s_pV hs rfl (by decide) v, fun v => s_pV hs rfl (by decide) v⟩
theorem rdA_m {h : z_H} (hs : Sh h) : (∀ i, z_aI .int h (some 82) i = iR 7 (aI h 82) i) ∧ (∀ i, z_aI .int h (some 83) i = iR 5462 (aI h 83) i) ∧ (∀ i, z_aI .int h (some 84) i = iR 10924 (aI h 84) i) ∧ (∀ i, z_aI .int h (some 86) i = iR 702 (aI h 86) i) ∧ (∀ i, z_aI .int h (some 87) i = iR 16 (aI h 87) i) ∧ (∀ i, z_aI .int h (some 88) i = iR 624 (aI h 88) i) ∧ (∀ i, z_aI .int h (some 89) i = iR 16 (aI h 89) i) ∧ (∀ i, z_aI .int h (some 90) i = iR 400 (aI h 90) i) ∧ (∀ i, z_aI .int h (some 91) i = iR 96 (aI h 91) i) ∧ (∀ i, z_aI .int h (some 92) i = iR 400 (aI h 92) i) ∧ (∀ i, z_aI .int h (some 93) i = iR 400 (aI h 93) i) ∧ (∀ i, z_aI .int h (some 94) i = iR 400 (aI h 94) i) ∧ (∀ i, z_aI .int h (some 95) i = iR 400 (aI h 95) i) ∧ (∀ i, z_aI .int h (some 102) i = iR 100 (aI h 102) i) ∧ (∀ i, z_aI .int h (some 104) i = iR 100 (aI h 104) i) ∧ (∀ i, z_aI .int h (some 105) i = iR 100 (aI h 105) i) ∧ (∀ i, z_aI .int h (some 108) i = iR 7 (aI h 108) i) ∧ (∀ i, z_aI .int h (some 109) i = iR 6 (aI h 109) i) ∧ (∀ i, z_aI .int h (some 112) i = iR 96 (aI h 112) i) ∧ (∀ i, z_aI .int h (some 113) i = iR 39 (aI h 113) i) ∧ (∀ i, z_aI .boolean h (some 85) i = iR 2 (aI h 85) i) ∧ (∀ i, z_aJ h (some 96) i = iR 9 (aJ h 96) i) ∧ (∀ i, z_aJ h (some 97) i = iR 8 (aJ h 97) i) ∧ (∀ i, z_aJ h (some 98) i = iR 3 (aJ h 98) i) ∧ (∀ i, z_aJ h (some 99) i = iR 13 (aJ h 99) i) ∧ (∀ i, z_aJ h (some 100) i = iR 13 (aJ h 100) i) ∧ (∀ i, z_aJ h (some 101) i = iR 400 (aJ h 101) i) ∧ (∀ i, z_aJ h (some 103) i = iR 8575 (aJ h 103) i) ∧ (∀ i, z_aJ h (some 106) i = iR 100 (aJ h 106) i) ∧ (∀ i, z_aJ h (some 107) i = iR 100 (aJ h 107) i) ∧ (∀ i, z_aJ h (some 110) i = iR 21 (aJ h 110) i) ∧ (∀ i, z_aJ h (some 111) i = iR 5 (aJ h 111) i) := ⟨fun i => s_aI hs (Or.inl rfl) rfl i, fun i => s_aI hs (Or.inl rfl) rfl i, fun i => s_aI hs (Or.inl rfl) rfl i, fun i => s_aI hs (Or.inl rfl) rfl i, fun i => s_aI hs (Or.inl rfl) rfl i, fun i => s_aI hs (Or.inl rfl) rfl i, fun i => s_aI hs (Or.inl rfl) rfl i, fun i => s_aI hs (Or.inl rfl) rfl i, fun i => s_aI hs (Or.inl rfl) rfl i, fun i => s_aI hs (Or.inl rfl) rfl i, fun i => s_aI hs (Or.inl rfl) rfl i, fun i => s_aI hs (Or.inl rfl) rfl i, fun i => s_aI hs (Or.inl rfl) rfl i, fun i => s_aI hs (Or.inl rfl) rfl i, fun i => s_aI hs (Or.inl rfl) rfl i, fun i => s_aI hs (Or.inl rfl) rfl i, fun i => s_aI hs (Or.inl rfl) rfl i, fun i => s_aI hs (Or.inl rfl) rfl i, fun i => s_aI hs (Or.inl rfl) rfl i, fun i => s_aI hs (Or.inl rfl) rfl i, fun i => s_aI hs (Or.inr rfl) rfl i, fun i => s_aJ hs rfl i, fun i => s_aJ hs rfl i, fun i => s_aJ hs rfl i, fun i => s_aJ hs rfl i, fun i => s_aJ hs rfl i, fun i => s_aJ hs rfl i, fun i => s_aJ hs rfl i, fun i => s_aJ hs rfl i, fun i => s_aJ hs rfl i, fun i => s_aJ hs rfl i, fun i => s_aJ hs rfl i⟩
theorem wrA_m {h : z_H} (hs : Sh h) : (∀ i x, z_sI h (some 82) i x = iW 7 i (wA h 82 (upd (aI h 82) i.toNatClampNeg x))) ∧ (∀ i x, z_sI h (some 83) i x = iW 5462 i (wA h 83 (upd (aI h 83) i.toNatClampNeg x))) ∧ (∀ i x, z_sI h (some 84) i x = iW 10924 i (wA h 84 (upd (aI h 84) i.toNatClampNeg x))) ∧ (∀ i x, z_sI h (some 86) i x = iW 702 i (wA h 86 (upd (aI h 86) i.toNatClampNeg x))) ∧ (∀ i x, z_sI h (some 87) i x = iW 16 i (wA h 87 (upd (aI h 87) i.toNatClampNeg x))) ∧ (∀ i x, z_sI h (some 88) i x = iW 624 i (wA h 88 (upd (aI h 88) i.toNatClampNeg x))) ∧ (∀ i x, z_sI h (some 89) i x = iW 16 i (wA h 89 (upd (aI h 89) i.toNatClampNeg x))) ∧ (∀ i x, z_sI h (some 90) i x = iW 400 i (wA h 90 (upd (aI h 90) i.toNatClampNeg x))) ∧ (∀ i x, z_sI h (some 91) i x = iW 96 i (wA h 91 (upd (aI h 91) i.toNatClampNeg x))) ∧ (∀ i x, z_sI h (some 92) i x = iW 400 i (wA h 92 (upd (aI h 92) i.toNatClampNeg x))) ∧ (∀ i x, z_sI h (some 93) i x = iW 400 i (wA h 93 (upd (aI h 93) i.toNatClampNeg x))) ∧ (∀ i x, z_sI h (some 94) i x = iW 400 i (wA h 94 (upd (aI h 94) i.toNatClampNeg x))) ∧ (∀ i x, z_sI h (some 95) i x = iW 400 i (wA h 95 (upd (aI h 95) i.toNatClampNeg x))) ∧ (∀ i x, z_sI h (some 102) i x = iW 100 i (wA h 102 (upd (aI h 102) i.toNatClampNeg x))) ∧ (∀ i x, z_sI h (some 104) i x = iW 100 i (wA h 104 (upd (aI h 104) i.toNatClampNeg x))) ∧ (∀ i x, z_sI h (some 105) i x = iW 100 i (wA h 105 (upd (aI h 105) i.toNatClampNeg x))) ∧ (∀ i x, z_sI h (some 108) i x = iW 7 i (wA h 108 (upd (aI h 108) i.toNatClampNeg x))) ∧ (∀ i x, z_sI h (some 109) i x = iW 6 i (wA h 109 (upd (aI h 109) i.toNatClampNeg x))) ∧ (∀ i x, z_sI h (some 112) i x = iW 96 i (wA h 112 (upd (aI h 112) i.toNatClampNeg x))) ∧ (∀ i x, z_sI h (some 113) i x = iW 39 i (wA h 113 (upd (aI h 113) i.toNatClampNeg x))) ∧ (∀ i x, z_sZ h (some 85) i x = iW 2 i (wA h 85 (upd (aI h 85) i.toNatClampNeg (vp_nar .boolean x)))) ∧ (∀ i x, z_sJ h (some 96) i x = iW 9 i (wJ h 96 (vp_updL (aJ h 96) i.toNatClampNeg x))) ∧ (∀ i x, z_sJ h (some 97) i x = iW 8 i (wJ h 97 (vp_updL (aJ h 97) i.toNatClampNeg x))) ∧ (∀ i x, z_sJ h (some 98) i x = iW 3 i (wJ h 98 (vp_updL (aJ h 98) i.toNatClampNeg x))) ∧ (∀ i x, z_sJ h (some 99) i x = iW 13 i (wJ h 99 (vp_updL (aJ h 99) i.toNatClampNeg x))) ∧ (∀ i x, z_sJ h (some 100) i x = iW 13 i (wJ h 100 (vp_updL (aJ h 100) i.toNatClampNeg x))) ∧ (∀ i x, z_sJ h (some 101) i x = iW 400 i (wJ h 101 (vp_updL (aJ h 101) i.toNatClampNeg x))) ∧ (∀ i x, z_sJ h (some 103) i x = iW 8575 i (wJ h 103 (vp_updL (aJ h 103) i.toNatClampNeg x))) ∧ (∀ i x, z_sJ h (some 106) i x = iW 100 i (wJ h 106 (vp_updL (aJ h 106) i.toNatClampNeg x))) ∧ (∀ i x, z_sJ h (some 107) i x = iW 100 i (wJ h 107 (vp_updL (aJ h 107) i.toNatClampNeg x))) ∧ (∀ i x, z_sJ h (some 110) i x = iW 21 i (wJ h 110 (vp_updL (aJ h 110) i.toNatClampNeg x))) ∧ (∀ i x, z_sJ h (some 111) i x = iW 5 i (wJ h 111 (vp_updL (aJ h 111) i.toNatClampNeg x))) := ⟨fun i x => s_sI hs rfl i x, fun i x => s_sI hs rfl i x, fun i x => s_sI hs rfl i x, fun i x => s_sI hs rfl i x, fun i x => s_sI hs rfl i x, fun i x => s_sI hs rfl i x, fun i x => s_sI hs rfl i x, fun i x => s_sI hs rfl i x, fun i x => s_sI hs rfl i x, fun i x => s_sI hs rfl i x, fun i x => s_sI hs rfl i x, fun i x => s_sI hs rfl i x, fun i x => s_sI hs rfl i x, fun i x => s_sI hs rfl i x, fun i x => s_sI hs rfl i x, fun i x => s_sI hs rfl i x, fun i x => s_sI hs rfl i x, fun i x => s_sI hs rfl i x, fun i x => s_sI hs rfl i x, fun i x => s_sI hs rfl i x, fun i x => s_sZ hs rfl i x, fun i x => s_sJ hs rfl i x, fun i x => s_sJ hs rfl i x, fun i x => s_sJ hs rfl i x, fun i x => s_sJ hs rfl i x, fun i x => s_sJ hs rfl i x, fun i x => s_sJ hs rfl i x, fun i x => s_sJ hs rfl i x, fun i x => s_sJ hs rfl i x, fun i x => s_sJ hs rfl i x, fun i x => s_sJ hs rfl i x, fun i x => s_sJ hs rfl i x⟩
theorem isFs : isF 0 13 = true ∧ isF 0 14 = true ∧ isF 1 8 = true ∧ isF 1 9 = true ∧ isF 1 10 = true ∧ isF 1 11 = true ∧ isF 1 12 = true ∧ isF 12 8 = true ∧ isF 12 9 = true ∧ isF 12 10 = true ∧ isF 12 11 = true ∧ isF 12 12 = true ∧ isF 21 1 = true ∧ isF 23 2 = true ∧ isF 23 3 = true ∧ isF 23 4 = true ∧ isF 23 5 = true ∧ isF 23 6 = true ∧ isF 23 7 = true ∧ isF 23 8 = true ∧ isF 23 9 = true ∧ isF 25 3 = true ∧ isF 25 4 = true ∧ isF 29 2 = true ∧ isF 34 4 = true ∧ isF 34 5 = true ∧ isF 34 6 = true ∧ isF 35 8 = true ∧ isF 35 9 = true ∧ isF 35 10 = true ∧ isF 35 11 = true ∧ isF 35 12 = true ∧ isF 44 1 = true ∧ isF 46 7 = true ∧ isF 46 8 = true ∧ isF 59 2 = true ∧ isF 59 3 = true ∧ isF 59 4 = true ∧ isF 59 5 = true ∧ isF 63 8 = true ∧ isF 63 9 = true ∧ isF 63 10 = true ∧ isF 63 11 = true ∧ isF 63 12 = true ∧ isF 72 8 = true ∧ isF 72 9 = true ∧ isF 72 10 = true ∧ isF 72 11 = true ∧ isF 72 12 = true ∧ isF 81 0 = true ∧ isF 81 1 = true ∧ isF 81 8 = true ∧ isF 81 11 = true ∧ isF 81 13 = true ∧ isF 81 14 = true ∧ isF 81 15 = true ∧ isF 81 16 = true ∧ isF 81 18 = true ∧ isF 81 19 = true ∧ isF 81 20 = true ∧ isF 81 21 = true ∧ isF 81 23 = true ∧ isF 81 26 = true ∧ isF 81 29 = true ∧ isF 81 30 = true ∧ isF 81 34 = true ∧ isF 81 38 = true ∧ isF 81 52 = true ∧ isF 81 53 = true ∧ isF 81 54 = true ∧ isF 81 55 = true ∧ isF 81 58 = true := ⟨rfl, rfl, rfl, rfl, rfl, rfl, rfl, rfl, rfl, rfl, rfl, rfl, rfl, rfl, rfl, rfl, rfl, rfl, rfl, rfl, rfl, rfl, rfl, rfl, rfl, rfl, rfl, rfl, rfl, rfl, rfl, rfl, rfl, rfl, rfl, rfl, rfl, rfl, rfl, rfl, rfl, rfl, rfl, rfl, rfl, rfl, rfl, rfl, rfl, rfl, rfl, rfl, rfl, rfl, rfl, rfl, rfl, rfl, rfl, rfl, rfl, rfl, rfl, rfl, rfl, rfl, rfl, rfl, rfl, rfl, rfl, rfl⟩
theorem isJs : isJ 81 17 = true ∧ isJ 81 39 = true ∧ isJ 81 40 = true ∧ isJ 81 56 = true := ⟨rfl, rfl, rfl, rfl⟩
theorem isAs : isA 2 = true ∧ isA 3 = true ∧ isA 4 = true ∧ isA 5 = true ∧ isA 6 = true ∧ isA 7 = true ∧ isA 8 = true ∧ isA 11 = true ∧ isA 13 = true ∧ isA 14 = true ∧ isA 15 = true ∧ isA 16 = true ∧ isA 17 = true ∧ isA 18 = true ∧ isA 19 = true ∧ isA 22 = true ∧ isA 24 = true ∧ isA 26 = true ∧ isA 27 = true ∧ isA 28 = true ∧ isA 30 = true ∧ isA 33 = true ∧ isA 36 = true ∧ isA 37 = true ∧ isA 38 = true ∧ isA 39 = true ∧ isA 40 = true ∧ isA 41 = true ∧ isA 42 = true ∧ isA 45 = true ∧ isA 47 = true ∧ isA 48 = true ∧ isA 49 = true ∧ isA 50 = true ∧ isA 51 = true ∧ isA 52 = true ∧ isA 60 = true ∧ isA 61 = true ∧ isA 62 = true ∧ isA 64 = true ∧ isA 65 = true ∧ isA 66 = true ∧ isA 67 = true ∧ isA 68 = true ∧ isA 69 = true ∧ isA 70 = true ∧ isA 73 = true ∧ isA 74 = true ∧ isA 75 = true ∧ isA 76 = true ∧ isA 77 = true ∧ isA 78 = true ∧ isA 79 = true ∧ isA 82 = true ∧ isA 83 = true ∧ isA 84 = true ∧ isA 85 = true ∧ isA 86 = true ∧ isA 87 = true ∧ isA 88 = true ∧ isA 89 = true ∧ isA 90 = true ∧ isA 91 = true ∧ isA 92 = true ∧ isA 93 = true ∧ isA 94 = true ∧ isA 95 = true ∧ isA 102 = true ∧ isA 104 = true ∧ isA 105 = true ∧ isA 108 = true ∧ isA 109 = true ∧ isA 112 = true ∧ isA 113 = true := ⟨rfl, rfl, rfl, rfl, rfl, rfl, rfl, rfl, rfl, rfl, rfl, rfl, rfl, rfl, rfl, rfl, rfl, rfl, rfl, rfl, rfl, rfl, rfl, rfl, rfl, rfl, rfl, rfl, rfl, rfl, rfl, rfl, rfl, rfl, rfl, rfl, rfl, rfl, rfl, rfl, rfl, rfl, rfl, rfl, rfl, rfl, rfl, rfl, rfl, rfl, rfl, rfl, rfl, rfl, rfl, rfl, rfl, rfl, rfl, rfl, rfl, rfl, rfl, rfl, rfl, rfl, rfl, rfl, rfl, rfl, rfl, rfl, rfl, rfl⟩
theorem isAJs : isAJ 31 = true ∧ isAJ 54 = true ∧ isAJ 55 = true ∧ isAJ 56 = true ∧ isAJ 57 = true ∧ isAJ 58 = true ∧ isAJ 96 = true ∧ isAJ 97 = true ∧ isAJ 98 = true ∧ isAJ 99 = true ∧ isAJ 100 = true ∧ isAJ 101 = true ∧ isAJ 103 = true ∧ isAJ 106 = true ∧ isAJ 107 = true ∧ isAJ 110 = true ∧ isAJ 111 = true := ⟨rfl, rfl, rfl, rfl, rfl, rfl, rfl, rfl, rfl, rfl, rfl, rfl, rfl, rfl, rfl, rfl, rfl⟩
theorem isAQs : isAQ 9 = true ∧ isAQ 10 = true ∧ isAQ 20 = true ∧ isAQ 43 = true ∧ isAQ 71 = true ∧ isAQ 80 = true := ⟨rfl, rfl, rfl, rfl, rfl, rfl⟩
