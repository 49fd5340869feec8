/-! the start: both constructors, run -/
def shC (x : s_S) (c : z_E) : Bool := match x, c with
  | .inl (.int, n), .inl (.int, m, .inl _) => n == m
  | .inl (.boolean, n), .inl (.boolean, m, .inl _) => n == m
  | .inl (.long, n), .inl (.long, m, .inr (.inl _)) => n == m
  | .inl (.object C, n), .inl (.object C', m, .inr (.inr (.inr (.inr _)))) => n == m && C == C'
  | .inr (ci, ks), .inr (c, fs) => c == ci && fs.length == ks.length && (List.range ks.length).all (fun k => match ks[k]?, fs[k]? with
    | some 0, some (.int _) => true
    | some 1, some (.long _) => true
    | some (n + 2), some (.ref r) => r == n
    | _, _ => false)
  | _, _ => false
def shOK (h : z_H) : Bool := (List.range 114).all (fun a => match shpL[a]? with
  | some x => shC x (h.2.2 a)
  | none => true)
theorem shC_spec {h : z_H} {a : Nat} {x : s_S} (e : shC x (h.2.2 a) = true) : h.2.2 a = canon h a x := by
  unfold shC at e
  split at e
  · rename_i n m f hx
    have : n = m := by simpa using e
    subst this
    simp [canon, aI, hx]
  · rename_i n m f hx
    have : n = m := by simpa using e
    subst this
    simp [canon, aI, hx]
  · rename_i n m f hx
    have : n = m := by simpa using e
    subst this
    simp [canon, aJ, hx]
  · rename_i C n C' m f hx
    have : n = m ∧ C = C' := by simpa using e
    obtain ⟨rfl, rfl⟩ := this
    simp [canon, aQ, hx]
  · rename_i ci ks c fs hx
    simp only [Bool.and_eq_true, beq_iff_eq, List.all_eq_true, List.mem_range] at e
    obtain ⟨⟨rfl, hl⟩, hk⟩ := e
    rw [hx]
    simp only [canon]
    congr 2
    apply List.ext_getElem?
    intro k
    rw [List.getElem?_mapIdx]
    by_cases hkl : k < ks.length
    · have := hk k hkl
      have e1 : ks[k]? = some ks[k] := List.getElem?_eq_getElem hkl
      have e2 : fs[k]? = some fs[k] := List.getElem?_eq_getElem (by omega)
      rw [e1, e2] at this ⊢
      simp only [Option.map_some]
      split at this
      · rename_i q1 q2
        rename_i y
        have q3 : fs[k]? = some (.int y) := by rw [e2]; exact q2
        simp_all [fval, fI]
      · rename_i q1 q2
        rename_i y
        have q3 : fs[k]? = some (.long y) := by rw [e2]; exact q2
        simp_all [fval, fJ]
      · rename_i n r q1 q2
        have q4 : r = n := by simpa using this
        simp_all [fval]
      · cases this
    · rw [List.getElem?_eq_none (by omega), List.getElem?_eq_none (by omega)]
      rfl
  · cases e
theorem shOK_spec {h : z_H} (h1 : 114 ≤ h.1) (e : shOK h = true) : Sh h := by
  refine ⟨h1, fun a x hx => shC_spec ?_⟩
  have hl := (List.getElem?_eq_some_iff.mp hx).1
  have h2 : shpL.length = 114 := rfl
  have := List.all_eq_true.mp e a (List.mem_range.mpr (by omega))
  rw [hx] at this
  exact this
def z_0 : z_H := (0, 0, fun _ => .inr (0, []))
def h_A : Option z_H := D_X10_init (z_new z_0 15 (.inr (10, [.null, .null, .null, .null, .null, .null, .null, .null, .null, .null, .null, .null, .null, .int 0, .int 0]))) (some 0)
def h_B : Option z_H := h_A.bind fun p => D_X11_init (z_new p 59 (.inr (11, [.int 0, .int 0, .null, .null, .null, .null, .null, .null, .int 0, .null, .null, .int 0, .null, .int 0, .int 0, .int 0, .int 0, .long 0, .int 0, .int 0, .int 0, .int 0, .null, .int 0, .null, .null, .int 0, .null, .null, .int 0, .int 0, .null, .null, .null, .int 0, .null, .null, .null, .int 0, .long 0, .long 0, .null, .null, .null, .null, .null, .null, .null, .null, .null, .null, .null, .int 0, .int 0, .int 0, .int 0, .long 0, .null, .int 0]))) (some p.1)
theorem h_A1 : (match h_A with
  | some p => p.1 == 81
  | none => false) = true := by decide +kernel
theorem h_B1 : (match h_B with
  | some q => q.1 == 114 && shOK q && decide (q.2.1 ≤ 100000)
  | none => false) = true := by decide +kernel
