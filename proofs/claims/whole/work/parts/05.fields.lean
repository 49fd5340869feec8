/-! what the cells hold, read and written -/
def z_ob (ci : Nat) (h : z_H) (q : Option Nat) : Option (List Value) := match q with
  | none => none
  | some a => if a < h.1 then (match h.2.2 a with
    | .inr (c, fs) => if c = ci then some fs else none
    | .inl _ => none) else none
theorem z_ob_spec {ci : Nat} {h : z_H} {q : Option Nat} {fs : List Value} (e : z_ob ci h q = some fs) : ∃ a, q = some a ∧ a < h.1 ∧ h.2.2 a = .inr (ci, fs) := by
  cases q with
  | none => simp [z_ob] at e
  | some a =>
    refine ⟨a, rfl, ?_⟩
    simp only [z_ob] at e
    split at e
    · rename_i hlt
      refine ⟨hlt, ?_⟩
      cases hx : h.2.2 a with
      | inl y => rw [hx] at e; simp at e
      | inr y =>
        obtain ⟨c, gs⟩ := y
        rw [hx] at e
        simp only at e
        split at e
        · rename_i hc
          subst hc
          cases e
          rfl
        · cases e
    · cases e
def z_gI (ci : Nat) (h : z_H) (q : Option Nat) (k : Nat) : Option Int32 := (z_ob ci h q).bind fun fs => match fs[k]? with
  | some (.int x) => some x
  | _ => none
def z_gJ (ci : Nat) (h : z_H) (q : Option Nat) (k : Nat) : Option Int64 := (z_ob ci h q).bind fun fs => match fs[k]? with
  | some (.long x) => some x
  | _ => none
def z_gQ (ci : Nat) (h : z_H) (q : Option Nat) (k : Nat) : Option (Option Nat) := (z_ob ci h q).bind fun fs => match fs[k]? with
  | some (.ref x) => some (some x)
  | some .null => some none
  | _ => none
def z_pV (ci : Nat) (h : z_H) (q : Option Nat) (k : Nat) (v : Value) : Option z_H := match q with
  | none => none
  | some a => (z_ob ci h (some a)).bind fun fs => if k < fs.length then some (z_up h a (.inr (ci, fs.set k v))) else none
/-- rows of ints (or booleans) -/
def z_ar (ty : FieldType) (h : z_H) (q : Option Nat) : Option (Nat × (Nat → Int32)) := match q with
  | none => none
  | some a => if a < h.1 then (match h.2.2 a with
    | .inl (t, n, .inl f) => if t = ty then some (n, f) else none
    | _ => none) else none
def z_arJ (h : z_H) (q : Option Nat) : Option (Nat × (Nat → Int64)) := match q with
  | none => none
  | some a => if a < h.1 then (match h.2.2 a with
    | .inl (t, n, .inr (.inl f)) => if t = .long then some (n, f) else none
    | _ => none) else none
def z_arQ (C : String) (h : z_H) (q : Option Nat) : Option (Nat × (Nat → Option Nat)) := match q with
  | none => none
  | some a => if a < h.1 then (match h.2.2 a with
    | .inl (t, n, .inr (.inr (.inr (.inr f)))) => if t = .object C then some (n, f) else none
    | _ => none) else none
theorem z_ar_spec {ty : FieldType} {h : z_H} {q : Option Nat} {p : Nat × (Nat → Int32)} (e : z_ar ty h q = some p) : ∃ a, q = some a ∧ a < h.1 ∧ h.2.2 a = .inl (ty, p.1, .inl p.2) := by
  cases q with
  | none => simp [z_ar] at e
  | some a =>
    refine ⟨a, rfl, ?_⟩
    simp only [z_ar] at e
    split at e
    · rename_i hlt
      refine ⟨hlt, ?_⟩
      split at e
      · rename_i t n f hx
        split at e
        · rename_i hc
          subst hc
          cases e
          exact hx
        · cases e
      · cases e
    · cases e
theorem z_arJ_spec  {h : z_H} {q : Option Nat} {p : Nat × (Nat → Int64)} (e : z_arJ h q = some p) : ∃ a, q = some a ∧ a < h.1 ∧ h.2.2 a = .inl (.long, p.1, .inr (.inl p.2)) := by
  cases q with
  | none => simp [z_arJ] at e
  | some a =>
    refine ⟨a, rfl, ?_⟩
    simp only [z_arJ] at e
    split at e
    · rename_i hlt
      refine ⟨hlt, ?_⟩
      split at e
      · rename_i t n f hx
        split at e
        · rename_i hc
          subst hc
          cases e
          exact hx
        · cases e
      · cases e
    · cases e
theorem z_arQ_spec {C : String} {h : z_H} {q : Option Nat} {p : Nat × (Nat → Option Nat)} (e : z_arQ C h q = some p) : ∃ a, q = some a ∧ a < h.1 ∧ h.2.2 a = .inl (.object C, p.1, .inr (.inr (.inr (.inr p.2)))) := by
  cases q with
  | none => simp [z_arQ] at e
  | some a =>
    refine ⟨a, rfl, ?_⟩
    simp only [z_arQ] at e
    split at e
    · rename_i hlt
      refine ⟨hlt, ?_⟩
      split at e
      · rename_i t n f hx
        split at e
        · rename_i hc
          subst hc
          cases e
          exact hx
        · cases e
      · cases e
    · cases e
def z_aI (ty : FieldType) (h : z_H) (q : Option Nat) (i : Int32) : Option Int32 := (z_ar ty h q).bind fun p => if i < 0 ∨ p.1 ≤ i.toNatClampNeg then none else some (p.2 i.toNatClampNeg)
def z_aJ (h : z_H) (q : Option Nat) (i : Int32) : Option Int64 := (z_arJ h q).bind fun p => if i < 0 ∨ p.1 ≤ i.toNatClampNeg then none else some (p.2 i.toNatClampNeg)
def z_aQ (C : String) (h : z_H) (q : Option Nat) (i : Int32) : Option (Option Nat) := (z_arQ C h q).bind fun p => if i < 0 ∨ p.1 ≤ i.toNatClampNeg then none else some (p.2 i.toNatClampNeg)
def z_sI (h : z_H) (q : Option Nat) (i x : Int32) : Option z_H := match q with
  | none => none
  | some a => (z_ar .int h (some a)).bind fun p => if i < 0 ∨ p.1 ≤ i.toNatClampNeg then none else some (z_up h a (.inl (.int, p.1, .inl (upd p.2 i.toNatClampNeg x))))
def z_sZ (h : z_H) (q : Option Nat) (i x : Int32) : Option z_H := match q with
  | none => none
  | some a => (z_ar .boolean h (some a)).bind fun p => if i < 0 ∨ p.1 ≤ i.toNatClampNeg then none else some (z_up h a (.inl (.boolean, p.1, .inl (upd p.2 i.toNatClampNeg (vp_nar .boolean x)))))
def z_sJ (h : z_H) (q : Option Nat) (i : Int32) (x : Int64) : Option z_H := match q with
  | none => none
  | some a => (z_arJ h (some a)).bind fun p => if i < 0 ∨ p.1 ≤ i.toNatClampNeg then none else some (z_up h a (.inl (.long, p.1, .inr (.inl (vp_updL p.2 i.toNatClampNeg x)))))
def z_sQ (C : String) (ci : Nat) (h : z_H) (q : Option Nat) (i : Int32) (x : Option Nat) : Option z_H := match q with
  | none => none
  | some a => (z_arQ C h (some a)).bind fun p => if i < 0 ∨ p.1 ≤ i.toNatClampNeg then none else if x = none ∨ (z_ob ci h x).isSome then some (z_up h a (.inl (.object C, p.1, .inr (.inr (.inr (.inr (va_up p.2 i.toNatClampNeg x))))))) else none
def z_lI (h : z_H) (q : Option Nat) : Option Int32 := (z_ar .int h q).bind fun p => some (Int32.ofNat p.1)
def z_lJ (h : z_H) (q : Option Nat) : Option Int32 := (z_arJ h q).bind fun p => some (Int32.ofNat p.1)
/-- a field's link: index of the pool of a class, to field k of class number ci -/
def z_lk (own : String) (index ci k : Nat) : Prop := ∃ (C : String) (T : u_T) (N : Nat), vwCl[ci]? = some (C, T, N) ∧ k < N ∧ Cond.fieldLink own index (T k).1 (T k).2.1 (T k).2.2.1 ∈ lw_tbl ∧ ∀ w ∈ u_ws C T N, w ∈ lw_tbl ∧ goodWord w = true
section ZF
variable {G : z_G} {l : Launch} {d : Nat} {M : z_M} {pc : Nat} {L : List (Nat × Value)} {S : List Value} {h hF : z_H} {r : Option Value}
theorem z_getV {ci index k a : Nat} {fs : List Value} {v : Value} (lk : z_lk M.1.cls index ci k) (ha : a < h.1) (he : h.2.2 a = .inr (ci, fs)) (hv : fs[k]? = some v) (hd : decode M.2.1 pc = .ok (.getfield index, 3)) (kk : z_Run G l d M (pc + 3) L (v :: S) h hF r) : z_Run G l d M pc L (.ref a :: S) h hF r := by
  obtain ⟨C, T, N, hc, hk, hlw, hws⟩ := lk
  refine ⟨kk.1, fun n0 s0 p e R s m args below meth c X hn hs H locs ls hh hS hL => ?_⟩
  have hts : ∀ w ∈ u_ws C T N, w.before args s = true := fun w hw => X.2.2.2.2.2.1 w (hws w hw).1 (hws w hw).2
  refine va_get (D := z_D G) (cl := vwCl) (ci := ci) (v := z_t G v) (C := C) (T := T) (N := N) X.1 X.2.1 hts (fun _ q => q) X.2.2.2.2.1 X.2.2.2.2.2.2.2.2.1.1.1 hh a (fs := fs.map (z_t G)) ?_ hc k hk (X.2.2.2.2.2.1 _ hlw rfl) (fun _ q => q) ?_ hd (kk.2 n0 s0 p e R s m args below meth c X hn hs H locs ls hh hS hL)
  · rw [z_W_get ha, he]; rfl
  · rw [List.getElem?_map, hv]; rfl
theorem z_getI {ci index k : Nat} {q : Option Nat} {x : Int32} (e : z_gI ci h q k = some x) (lk : z_lk M.1.cls index ci k) (hd : decode M.2.1 pc = .ok (.getfield index, 3)) (kk : z_Run G l d M (pc + 3) L (.int x :: S) h hF r) : z_Run G l d M pc L (z_r q :: S) h hF r := by
  obtain ⟨fs, e1, e2⟩ := Option.bind_eq_some_iff.mp e
  obtain ⟨a, rfl, ha, he⟩ := z_ob_spec e1
  refine z_getV lk ha he ?_ hd kk
  split at e2
  · rename_i y hy; cases e2; exact hy
  · cases e2
theorem z_getJ {ci index k : Nat} {q : Option Nat} {x : Int64} (e : z_gJ ci h q k = some x) (lk : z_lk M.1.cls index ci k) (hd : decode M.2.1 pc = .ok (.getfield index, 3)) (kk : z_Run G l d M (pc + 3) L (.long x :: S) h hF r) : z_Run G l d M pc L (z_r q :: S) h hF r := by
  obtain ⟨fs, e1, e2⟩ := Option.bind_eq_some_iff.mp e
  obtain ⟨a, rfl, ha, he⟩ := z_ob_spec e1
  refine z_getV lk ha he ?_ hd kk
  split at e2
  · rename_i y hy; cases e2; exact hy
  · cases e2
theorem z_getQ {ci index k : Nat} {q : Option Nat} {x : Option Nat} (e : z_gQ ci h q k = some x) (lk : z_lk M.1.cls index ci k) (hd : decode M.2.1 pc = .ok (.getfield index, 3)) (kk : z_Run G l d M (pc + 3) L (z_r x :: S) h hF r) : z_Run G l d M pc L (z_r q :: S) h hF r := by
  obtain ⟨fs, e1, e2⟩ := Option.bind_eq_some_iff.mp e
  obtain ⟨a, rfl, ha, he⟩ := z_ob_spec e1
  refine z_getV lk ha he ?_ hd kk
  split at e2
  · rename_i y hy; cases e2; exact hy
  · rename_i hy; cases e2; exact hy
  · cases e2
/-- a field that may be written: type, not final -/
def z_wk (ci k : Nat) (ty : FieldType) (fin : Bool) : Prop := ∃ (C : String) (T : u_T) (N : Nat) (ty0 : Nat → FieldType), vwCl[ci]? = some (C, T, N) ∧ (∀ k, k < N → parseFieldDescriptor (T k).2.2.1 = some (ty0 k)) ∧ (∀ a, a < N → ∀ b, b < N → a ≠ b → (T a).2.1 ≠ (T b).2.1) ∧ (T k).2.2.2 = fin ∧ parseFieldDescriptor (T k).2.2.1 = some ty ∧ (T k).1 = C
theorem z_putV {ci index k : Nat} {q : Option Nat} {v : Value} {h1 : z_H} {ty : FieldType} (e : z_pV ci h q k v = some h1) (lk : z_lk M.1.cls index ci k) (wk : z_wk ci k ty false) (hn : ∀ G : z_G, narrow ty (z_t G v) = z_t G v) (hf : ∀ G : z_G, fits ty (z_t G v) = true) (hd : decode M.2.1 pc = .ok (.putfield index, 3)) (kk : z_Run G l d M (pc + 3) L S h1 hF r) : z_Run G l d M pc L (v :: z_r q :: S) h hF r := by
  cases q with
  | none => cases e
  | some a =>
    obtain ⟨fs, e1, e2⟩ := Option.bind_eq_some_iff.mp e
    obtain ⟨a', ea, ha, he⟩ := z_ob_spec e1
    cases ea
    split at e2
    · rename_i hk
      cases e2
      obtain ⟨C, T, N, hc, hkN, hlw, hws⟩ := lk
      obtain ⟨C', T', N', ty0, hc', w1, w2, w3, w4, -⟩ := wk
      cases hc.symm.trans hc'
      refine ⟨kk.1, fun n0 s0 p e R s m args below meth c X hn0 hs H locs ls hh hS hL => ?_⟩
      have hts : ∀ w ∈ u_ws C T N, w.before args s = true := fun w hw => X.2.2.2.2.2.1 w (hws w hw).1 (hws w hw).2
      refine va_put (D := z_D G) (cl := vwCl) (ci := ci) (v := z_t G v) (ty := ty) (C := C) (T := T) (N := N) X.1 X.2.1 hts (fun _ q => q) ty0 w1 w2 X.2.2.2.2.1 X.2.2.2.2.2.2.2.2.1.1.1 hh (z_W_D G h) hS a (fs := fs.map (z_t G)) ?_ hc k hkN (X.2.2.2.2.2.1 _ hlw rfl) (fun _ q => q) w3 w4 (hn G) (hf G) (by rw [List.length_map]; exact hk) hd (fun H1 locs1 hP1 _ hS1 => kk.2 n0 s0 p e R s m args below meth c X hn0 hs H1 locs1 ls (z_hp.set ha ?_) hS1 hL)
      · rw [z_W_get ha, he]; rfl
      · have e9 : z_te G (.inr (ci, fs.set k v)) = .inr (ci, (fs.map (z_t G)).set k (z_t G v)) := by simp [z_te, List.map_set]
        rw [e9]; exact hP1
    · cases e2
theorem z_putF {ci index k : Nat} {q : Option Nat} {v : Value} {h1 : z_H} {ty : FieldType} (e : z_pV ci h q k v = some h1) (lk : z_lk M.1.cls index ci k) (wk : z_wk ci k ty true) (hown : ∀ (C : String) (T : u_T) (N : Nat), vwCl[ci]? = some (C, T, N) → C = M.1.cls) (hini : M.1.name = "<init>") (hn : ∀ G : z_G, narrow ty (z_t G v) = z_t G v) (hf : ∀ G : z_G, fits ty (z_t G v) = true) (hd : decode M.2.1 pc = .ok (.putfield index, 3)) (kk : z_Run G l d M (pc + 3) L S h1 hF r) : z_Run G l d M pc L (v :: z_r q :: S) h hF r := by
  cases q with
  | none => cases e
  | some a =>
    obtain ⟨fs, e1, e2⟩ := Option.bind_eq_some_iff.mp e
    obtain ⟨a', ea, ha, he⟩ := z_ob_spec e1
    cases ea
    split at e2
    · rename_i hk
      cases e2
      obtain ⟨C, T, N, hc, hkN, hlw, hws⟩ := lk
      obtain ⟨C', T', N', ty0, hc', w1, w2, w3, w4, w5⟩ := wk
      cases hc.symm.trans hc'
      refine ⟨kk.1, fun n0 s0 p e R s m args below meth c X hn0 hs H locs ls hh hS hL => ?_⟩
      have hts : ∀ w ∈ u_ws C T N, w.before args s = true := fun w hw => X.2.2.2.2.2.1 w (hws w hw).1 (hws w hw).2
      refine va_putF (D := z_D G) (cl := vwCl) (ci := ci) (v := z_t G v) (ty := ty) (C := C) (T := T) (N := N) X.1 X.2.1 hts (fun _ q => q) ty0 w1 w2 X.2.2.2.2.1 X.2.2.2.2.2.2.2.2.1.1.1 hh (z_W_D G h) hS a (fs := fs.map (z_t G)) ?_ hc k hkN (X.2.2.2.2.2.1 _ hlw rfl) (fun _ q => q) w3 (X.2.2.2.2.2.2.2.1.trans hini) (w5.trans (hown C T N hc)) w4 (hn G) (hf G) (by rw [List.length_map]; exact hk) hd (fun H1 locs1 hP1 _ hS1 => kk.2 n0 s0 p e R s m args below meth c X hn0 hs H1 locs1 ls (z_hp.set ha ?_) hS1 hL)
      · rw [z_W_get ha, he]; rfl
      · have e9 : z_te G (.inr (ci, fs.set k v)) = .inr (ci, (fs.map (z_t G)).set k (z_t G v)) := by simp [z_te, List.map_set]
        rw [e9]; exact hP1
    · cases e2
end ZF
