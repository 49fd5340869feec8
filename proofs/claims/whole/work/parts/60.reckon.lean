/-! WHAT A CODE COMES TO (the class's reckoning, as a function) -/
def jn (o : Int32) (a b : Int64) : Int64 := if o = 5 then a + b else if o = 6 then a - b else if o = 7 then a * b else if o = 8 then (if b = 0 then 0 else a / b) else if o = 9 then (if b = 0 then 0 else a - a / b * b) else if o = 10 then (if a.toInt < b.toInt then 1 else 0) else if o = 11 then (if b.toInt < a.toInt then 1 else 0) else (if a = b then 1 else 0)
theorem lg_nonneg (x y : Int64) : (0 ≤ lg_cmp x y) ↔ ¬ x.toInt < y.toInt := by
  rw [← lg_neg]
  rw [Int32.lt_iff_toInt_lt, Int32.le_iff_toInt_le]
  omega
theorem lg_nonpos (x y : Int64) : (lg_cmp x y ≤ 0) ↔ ¬ y.toInt < x.toInt := by
  rw [← lg_pos]
  rw [Int32.lt_iff_toInt_lt, Int32.le_iff_toInt_le]
  omega
theorem d_joined (h : z_H) (o : Int32) (a b : Int64) : D_X1_joined h o a b = some (jn o a b, h) := by
  unfold D_X1_joined jn
  by_cases c5 : o = 5
  · simp only [c5, if_true]
  simp only [c5, if_false]
  by_cases c6 : o = 6
  · simp only [c6, if_true]
  simp only [c6, if_false]
  by_cases c7 : o = 7
  · simp only [c7, if_true]
  simp only [c7, if_false]
  by_cases c8 : o = 8
  · simp only [c8, if_true, lg_zero]
    by_cases cb : b = 0
    · simp only [cb, if_true]
    · simp only [cb, if_false]
  simp only [c8, if_false]
  by_cases c9 : o = 9
  · simp only [c9, if_true, lg_zero]
    by_cases cb : b = 0
    · simp only [cb, if_true]
    · simp only [cb, if_false]
  simp only [c9, if_false]
  by_cases c10 : o = 10
  · simp only [c10, if_true, lg_nonneg]
    by_cases cb : a.toInt < b.toInt
    · simp only [cb, not_true, if_false, if_true]
    · simp only [cb, not_false_iff, if_false, if_true]
  simp only [c10, if_false]
  by_cases c11 : o = 11
  · simp only [c11, if_true, lg_nonpos]
    by_cases cb : b.toInt < a.toInt
    · simp only [cb, not_true, if_false, if_true]
    · simp only [cb, not_false_iff, if_false, if_true]
  simp only [c11, if_false, lg_zero]
  by_cases cb : a = b
  · simp only [cb, if_true]
  · simp only [cb, if_false]
def bigB (v : Int64) : Prop := ¬ (-1000000000 ≤ v.toInt ∧ v.toInt ≤ 1000000000)
theorem bigB_dec (v : Int64) : bigB v ∨ ¬ bigB v := by unfold bigB; omega
def stC (op ar w : Nat → Int32) (i : Nat) (s : List Int64) : Option (Nat × List Int64) :=
  if op i = 0 then (if 51 ≤ s.length then none else some (i + 1, (ar i).toInt64 :: s))
  else if op i = 1 then (if 51 ≤ s.length then none else some (i + 1, (w (tn (ar i))).toInt64 :: s))
  else match s with
    | [] => none
    | x :: r => if op i = 2 then some (i + 1, (1 - x) :: r)
      else if op i = 3 ∨ op i = 4 then (if x = (if op i = 4 then 1 else 0) then some (max (i + 1) (tn (ar i)), x :: r) else some (i + 1, r))
      else match r with
        | [] => none
        | y :: r2 => if x = 0 ∧ (op i = 8 ∨ op i = 9) then none else if -1000000000 ≤ (jn (op i) y x).toInt ∧ (jn (op i) y x).toInt ≤ 1000000000 then some (i + 1, jn (op i) y x :: r2) else none
def runC (op ar w : Nat → Int32) (hi : Nat) : Nat → Nat → List Int64 → Option (List Int64)
  | 0, _, _ => none
  | n + 1, i, s => if hi ≤ i then some s else (stC op ar w i s).bind fun p => runC op ar w hi n p.1 p.2
/-- a text as the class has it: object t, rows t1, t2, t3 -/
def TxC (g : z_H) (t t1 t2 t3 N n NC cc : Nat) (op ar cl : Nat → Int32) : Prop := (t < g.1 ∧ t1 < g.1 ∧ t2 < g.1 ∧ t3 < g.1) ∧ g.2.2 t = .inr (7, [.ref t1, .ref t2, .ref t3, .int (Int32.ofNat n), .int (Int32.ofNat cc)]) ∧ g.2.2 t1 = .inl (.int, N, .inl op) ∧ g.2.2 t2 = .inl (.int, N, .inl ar) ∧ g.2.2 t3 = .inl (.int, NC, .inl cl) ∧ (n ≤ N ∧ N ≤ 400) ∧ (6 * cc ≤ NC ∧ cc ≤ 12 ∧ NC ≤ 72) ∧ fre [29, 30, 31] [t, t1, t2, t3] = true
section TX
variable {S : List Nat} {g g' : z_H} {t t1 t2 t3 N n NC cc : Nat} {op ar cl w : Nat → Int32}
theorem TxC_T (H : TxC g t t1 t2 t3 N n NC cc op ar cl) (T : Tch S g g') (hS : ∀ a ∈ S, a ∈ [29, 30, 31]) : TxC g' t t1 t2 t3 N n NC cc op ar cl := by
  obtain ⟨⟨h1, h2, h3, h4⟩, e1, e2, e3, e4, r⟩ := H
  have f := r.2.2
  have c : ∀ a, a ∈ [t, t1, t2, t3] → g'.2.2 a = g.2.2 a := fun a ha => T.c (fun q => fre_spec f ha (hS a q))
  rw [← T.1] at h1 h2 h3 h4
  exact ⟨⟨h1, h2, h3, h4⟩, (c t (by simp)).trans e1, (c t1 (by simp)).trans e2, (c t2 (by simp)).trans e3, (c t3 (by simp)).trans e4, r⟩
theorem TxC_r (H : TxC g t t1 t2 t3 N n NC cc op ar cl) : z_gQ 7 g (some t) 0 = some (some t1) ∧ z_gQ 7 g (some t) 1 = some (some t2) ∧ z_gQ 7 g (some t) 2 = some (some t3) ∧ z_gI 7 g (some t) 3 = some (Int32.ofNat n) ∧ z_gI 7 g (some t) 4 = some (Int32.ofNat cc) ∧ (∀ i, i < N → z_aI .int g (some t1) (Int32.ofNat i) = some (op i)) ∧ (∀ i, i < N → z_aI .int g (some t2) (Int32.ofNat i) = some (ar i)) ∧ (∀ i, i < NC → z_aI .int g (some t3) (Int32.ofNat i) = some (cl i)) ∧ ∃ fs, z_ob 7 g (some t) = some fs := by
  obtain ⟨⟨h1, h2, h3, h4⟩, e1, e2, e3, e4, ⟨r1, r2⟩, ⟨r3, r4, r6⟩, r5⟩ := H
  have q : ∀ (a M : Nat) (f : Nat → Int32), a < g.1 → g.2.2 a = .inl (.int, M, .inl f) → M ≤ 400 → ∀ i, i < M → z_aI .int g (some a) (Int32.ofNat i) = some (f i) := fun a M f ha e hM i hi => by
    have : z_ar .int g (some a) = some (M, f) := by simp [z_ar, e, ha]
    simp only [z_aI, this, Option.bind_some]
    exact iR_ofNat (f := f) hi (by omega)
  refine ⟨by simp [z_gQ, z_ob, e1, h1], by simp [z_gQ, z_ob, e1, h1], by simp [z_gQ, z_ob, e1, h1], by simp [z_gI, z_ob, e1, h1], by simp [z_gI, z_ob, e1, h1], q t1 N op h2 e2 r2, q t2 N ar h3 e3 r2, q t3 NC cl h4 e4 (by omega), ⟨_, by simp [z_ob, e1, h1]; rfl⟩⟩
end TX
/-- the class's stack holds s, top first -/
def SR (g : z_H) (s : List Int64) : Prop := s.length ≤ 51 ∧ ∀ i, i < s.length → s.reverse[i]? = some (aJ g 31 i)
theorem SR.top {g : z_H} {x : Int64} {r : List Int64} (H : SR g (x :: r)) : aJ g 31 r.length = x := by
  have := H.2 r.length (by simp)
  simp at this
  exact this.symm
theorem SR.tl {g : z_H} {x : Int64} {r : List Int64} (H : SR g (x :: r)) : SR g r := by
  refine ⟨by have := H.1; simp at this; omega, fun i hi => ?_⟩
  have := H.2 i (by simp; omega)
  rw [List.reverse_cons, List.getElem?_append_left (by simpa using hi)] at this
  exact this
theorem SR.push {g g' : z_H} {s : List Int64} {v : Int64} (H : SR g s) (hl : s.length < 51) (e : aJ g' 31 = vp_updL (aJ g 31) s.length v) : SR g' (v :: s) := by
  refine ⟨by simp; omega, fun i hi => ?_⟩
  rw [List.reverse_cons]
  by_cases q : i = s.length
  · subst q
    rw [List.getElem?_append_right (by simp), e]
    simp [vp_updL]
  · have hi2 : i < s.length := by simp at hi; omega
    rw [List.getElem?_append_left (by simpa using hi2), e, H.2 i hi2]
    simp [vp_updL, q]
