/-! THE SMALL WORLD: cells numbered in the order in which they were made; what is outside (script, static rows, texts) is numbered apart. -/
abbrev z_E : Type := (FieldType × vp_A) ⊕ (Nat × List Value)
abbrev z_H : Type := Nat × Nat × (Nat → z_E)
/-- classes and slots; classes of arrays; addresses outside; the first cell's address; the script -/
abbrev z_G : Type := va_G × (FieldType → ClassId) × (Nat → Nat) × Nat × (Nat × (Nat → Int32))
abbrev z_M : Type := MethodName × ByteArray × Nat × Option FieldType
abbrev z_D (G : z_G) : va_G := G.1
abbrev z_ca (G : z_G) : FieldType → ClassId := G.2.1
abbrev z_xd (G : z_G) : Nat → Nat := G.2.2.1
abbrev z_B (G : z_G) : Nat := G.2.2.2.1
def z_A (G : z_G) : Nat → Prop := fun q => z_B G ≤ q
def z_r (q : Option Nat) : Value := match q with
  | none => .null
  | some k => .ref k
def z_t (G : z_G) (v : Value) : Value := match v with
  | .int x => .int x
  | .long x => .long x
  | .null => .null
  | .ref k => .ref (z_B G + k)
  | .retAddr k => .ref (z_xd G k)
  | .float x => .float x
  | .double x => .double x
def z_te (G : z_G) (x : z_E) : va_E := match x with
  | .inl (ty, n, .inl f) => .inl (z_ca G ty, n, .inl f)
  | .inl (ty, n, .inr (.inl f)) => .inl (z_ca G ty, n, .inr (.inl f))
  | .inl (ty, n, .inr (.inr (.inl f))) => .inl (z_ca G ty, n, .inr (.inr (.inl f)))
  | .inl (ty, n, .inr (.inr (.inr (.inl f)))) => .inl (z_ca G ty, n, .inr (.inr (.inr (.inl f))))
  | .inl (ty, n, .inr (.inr (.inr (.inr f)))) => .inl (z_ca G ty, n, .inr (.inr (.inr (.inr (fun j => (f j).map (fun k => z_B G + k))))))
  | .inr (ci, fs) => .inr (ci, fs.map (z_t G))
def z_W (G : z_G) (h : z_H) : va_W := (List.range h.1).map (fun k => (z_B G + k, z_te G (h.2.2 k)))
def z_tl (G : z_G) (L : List (Nat × Value)) : List (Nat × Value) := L.map (fun q => (q.1, z_t G q.2))
abbrev z_tyl : List FieldType := [.int, .long, .boolean, .object RX9, .object RX7]
def z_tys (G : z_G) : List (ClassId × FieldType) := z_tyl.map (fun ty => (z_ca G ty, ty))
def z_up (h : z_H) (k : Nat) (x : z_E) : z_H := (h.1, h.2.1, fun j => if j = k then x else h.2.2 j)
def z_new (h : z_H) (n : Nat) (x : z_E) : z_H := (h.1 + 1, h.2.1 + n, fun j => if j = h.1 then x else h.2.2 j)
def z_hp (G : z_G) (h : z_H) (H : Heap) : Prop := va_P (z_D G) vwCl (z_W G h) H
/-- the rows outside: 0 the script, 1 TERM_MOST, 2 REFUSALS, 3 SUMS_OF_VERB -/
def z_xa (G : z_G) (k : Nat) : Option (Nat × (Nat → Int32)) := match k with
  | 0 => some G.2.2.2.2
  | 1 => some (3, fun j => [999, 10, 9].getD j 0)
  | 2 => some (5, fun j => [1, 2, 3, 5, 6].getD j 0)
  | 3 => some (8, fun j => [1, 2, 1, 2, 0, 1, 1, 0].getD j 0)
  | _ => none
def z_nestM : List (String × Nat × MethodName × String) := [("SoleReader", 29, yX8_init, "SoleReader"), ("SoleReader", 36, yX5_init, "SoleReader"), ("SoleReader", 43, yX1_init, "SoleReader"), ("SoleReader", 84, yX3_init, "SoleReader"), ("SoleReader$Acts", 21, yX10_isPart, "SoleReader"), ("SoleReader$Acts", 77, yX10_turned, "SoleReader"), ("SoleReader$Errands", 20, yX8_init, "SoleReader"), ("SoleReader$Paths", 48, yX10_turned, "SoleReader")]
def z_nestF : List (String × Nat × String × String × String × String) := [("SoleReader$Acts", 83, "SoleReader", "TERM_MOST", "[I", "SoleReader"), ("SoleReader$Reader", 112, "SoleReader", "SUMS_OF_VERB", "[I", "SoleReader"), ("SoleReader$Yard", 24, "SoleReader", "TERM_MOST", "[I", "SoleReader")]
def z_sl : List (Nat × String) := [(101, "step turn pause mend pass"), (103, "wears leaves bars"), (162, "day done latest pairs walls cell toe heel"), (164, "pair load part worn x y way day mood"), (118, "to"), (119, "at"), (124, "times"), (129, "if"), (151, "not"), (149, "and"), (137, "or")]
def z_len : List Nat := [25, 17, 41, 36, 2, 2, 5, 2, 3, 3, 2]
def z_byt : List (List Int32) := [[115, 116, 101, 112, 32, 116, 117, 114, 110, 32, 112, 97, 117, 115, 101, 32, 109, 101, 110, 100, 32, 112, 97, 115, 115], [119, 101, 97, 114, 115, 32, 108, 101, 97, 118, 101, 115, 32, 98, 97, 114, 115], [100, 97, 121, 32, 100, 111, 110, 101, 32, 108, 97, 116, 101, 115, 116, 32, 112, 97, 105, 114, 115, 32, 119, 97, 108, 108, 115, 32, 99, 101, 108, 108, 32, 116, 111, 101, 32, 104, 101, 101, 108], [112, 97, 105, 114, 32, 108, 111, 97, 100, 32, 112, 97, 114, 116, 32, 119, 111, 114, 110, 32, 120, 32, 121, 32, 119, 97, 121, 32, 100, 97, 121, 32, 109, 111, 111, 100], [116, 111], [97, 116], [116, 105, 109, 101, 115], [105, 102], [110, 111, 116], [97, 110, 100], [111, 114]]
/-- what the tables and the cells outside say, at a state -/
def z_wt (G : z_G) (U : State) : Prop := va_K (z_D G) vwCl (z_tys G) U ∧ (∀ q ∈ z_nestM, va_Nw (.methodLinkNest q.1 q.2.1 q.2.2.1 q.2.2.2) U) ∧ (∀ q ∈ z_nestF, va_Nw (.fieldLinkNest q.1 q.2.1 q.2.2.1 q.2.2.2.1 q.2.2.2.2.1 q.2.2.2.2.2) U) ∧ va_AO RX9 U ∧ va_AO RX7 U ∧ ∀ (i : Nat) (q : Nat × String), z_sl[i]? = some q → vk_R RX5 q.1 q.2 (z_xd G (4 + i)) U
def z_txl : List (Nat × String × Nat) := [(1, "TERM_MOST", 0), (2, "REFUSALS", 0), (3, "SUMS_OF_VERB", 0)]
def z_wx (G : z_G) (U : State) (H : Heap) : Prop := (∀ (k : Nat) (q : Nat × (Nat → Int32)), z_xa G k = some q → va_T .int (z_xd G k) q.1 (fun j => .int (q.2 j)) (z_A G) U H) ∧ (∀ q ∈ z_txl, va_Z "SoleReader" q.2.1 "[I" (.ref (z_xd G q.1)) (z_A G) U H) ∧ vk_S 11 z_len z_byt (fun i => z_xd G (4 + i)) (fun i => z_xd G (15 + i)) (z_A G) U H ∧ va_Z "java/lang/String" "COMPACT_STRINGS" "Z" (.int 1) (z_A G) U H ∧ (va_Z "jdk/internal/util/Preconditions" "SIOOBE_FORMATTER" "Ljava/util/function/BiFunction;" .null (z_A G) U H ∨ va_Z "jdk/internal/util/Preconditions" "SIOOBE_FORMATTER" "Ljava/util/function/BiFunction;" (.ref (z_xd G 30)) (z_A G) U H)
def z_wd (G : z_G) (U : State) : Prop := z_wt G U ∧ z_wx G U U.heap
theorem z_wt.warm {G : z_G} {s U : State} (hW : s.WarmedH U.vm) (h : z_wt G s) : z_wt G U :=
  ⟨va_K.moved hW.alike h.1, fun q hq => va_Nw.warmM hW (h.2.1 q hq), fun q hq => va_Nw.warmF hW (h.2.2.1 q hq), va_AO.moved hW.alike h.2.2.2.1, va_AO.moved hW.alike h.2.2.2.2.1, fun i q hq => vk_R.warm hW (h.2.2.2.2.2 i q hq)⟩
theorem z_wx.moved {G : z_G} {u U : State} {H : Heap} (hvm : u.vm.Alike U.vm) (h : z_wx G u H) : z_wx G U H :=
  ⟨fun k q hq => va_T.moved hvm (h.1 k q hq), fun q hq => va_Z.moved hvm (h.2.1 q hq), vk_S.moved hvm h.2.2.1, va_Z.moved hvm h.2.2.2.1, h.2.2.2.2.imp (va_Z.moved hvm) (va_Z.moved hvm)⟩
theorem z_wx.kept {G : z_G} {U : State} {H H1 : Heap} (h : z_wx G U H) (hq : ∀ a : Nat, a < H.size → ¬ z_A G a → H1[a]? = H[a]?) : z_wx G U H1 :=
  ⟨fun k q hk => va_T.kept (h.1 k q hk) hq, fun q hk => va_Z.kept (h.2.1 q hk) hq, vk_S.kept h.2.2.1 hq, va_Z.kept h.2.2.2.1 hq, h.2.2.2.2.imp (fun z => va_Z.kept z hq) (fun z => va_Z.kept z hq)⟩
theorem z_wd.go {G : z_G} {s U : State} {H : Heap} {locs : List Loc} (h : z_wd G s) (hS : va_S (z_A G) s.heap H locs) (hU : U.heap = H) (hW : s.WarmedH U.vm) : z_wd G U :=
  ⟨h.1.warm hW, by rw [hU]; exact (h.2.kept hS.2.1).moved hW.alike⟩
theorem z_wd.calling {G : z_G} {U : State} (g : JFrame) (mk : MethodId) (a : Array Value) (h : z_wd G U) : z_wd G (U.calling g mk a) := by
  refine ⟨?_, ?_⟩
  · obtain ⟨h1, h2, h3, h4, h5, h6⟩ := h.1
    exact ⟨va_K.moved (u := U) (U := U.calling g mk a) (Vm.Alike.refl U.vm) h1, fun q hq => va_Nw.same rfl rfl (h2 q hq), fun q hq => va_Nw.same rfl rfl (h3 q hq), va_AO.moved (u := U) (U := U.calling g mk a) (Vm.Alike.refl U.vm) h4, va_AO.moved (u := U) (U := U.calling g mk a) (Vm.Alike.refl U.vm) h5, fun i q hq => vk_R.same rfl (h6 i q hq)⟩
  · exact h.2.moved (u := U) (U := U.calling g mk a) (Vm.Alike.refl U.vm)
theorem z_W_len (G : z_G) (h : z_H) : (z_W G h).length = h.1 := by simp [z_W]
theorem z_W_get {G : z_G} {h : z_H} {k : Nat} (hk : k < h.1) : (z_W G h)[k]? = some (z_B G + k, z_te G (h.2.2 k)) := by
  simp [z_W, hk]
theorem z_W_D (G : z_G) (h : z_H) : va_D (z_A G) (z_W G h) := by
  refine ⟨fun i j p q hi hj e => ?_, fun k q hk => ?_⟩
  · have a1 : i < h.1 := by have := (List.getElem?_eq_some_iff.mp hi).1; rwa [z_W_len] at this
    have a2 : j < h.1 := by have := (List.getElem?_eq_some_iff.mp hj).1; rwa [z_W_len] at this
    rw [z_W_get a1] at hi
    rw [z_W_get a2] at hj
    cases hi; cases hj
    exact Nat.add_left_cancel e
  · have a1 : k < h.1 := by have := (List.getElem?_eq_some_iff.mp hk).1; rwa [z_W_len] at this
    rw [z_W_get a1] at hk
    cases hk
    exact Nat.le_add_right _ _
theorem z_W_set {G : z_G} {h : z_H} {k : Nat} (x : z_E) (hk : k < h.1) : (z_W G h).set k (z_B G + k, z_te G x) = z_W G (z_up h k x) := by
  apply List.ext_getElem?
  intro i
  by_cases hi : i < h.1
  · rw [z_W_get (h := z_up h k x) (show i < (z_up h k x).1 from hi), List.getElem?_set]
    by_cases e : k = i
    · subst e
      simp [z_W_len, hk, z_up]
    · have e2 : ¬ i = k := fun q => e q.symm
      simp [e, e2, z_W_get hi, z_up]
  · have a1 : (z_W G (z_up h k x)).length ≤ i := by rw [z_W_len]; exact Nat.not_lt.mp hi
    rw [List.getElem?_eq_none a1, List.getElem?_eq_none (by rw [List.length_set, z_W_len]; exact Nat.not_lt.mp hi)]
theorem z_W_new {G : z_G} {h : z_H} {n : Nat} (x : z_E) : z_W G h ++ [(z_B G + h.1, z_te G x)] = z_W G (z_new h n x) := by
  apply List.ext_getElem?
  intro i
  by_cases hi : i < h.1
  · rw [List.getElem?_append_left (by rw [z_W_len]; exact hi), z_W_get hi, z_W_get (h := z_new h n x) (show i < h.1 + 1 by omega)]
    have e2 : ¬ i = h.1 := by omega
    simp [z_new, e2]
  · by_cases e : i = h.1
    · subst e
      rw [List.getElem?_append_right (by rw [z_W_len]; exact Nat.le_refl _), z_W_get (h := z_new h n x) (show h.1 < h.1 + 1 by omega)]
      simp [z_W_len, z_new]
    · rw [List.getElem?_eq_none (by rw [List.length_append, z_W_len]; simp; omega), List.getElem?_eq_none (by rw [z_W_len]; show h.1 + 1 ≤ i; omega)]
theorem z_hp.set {G : z_G} {h : z_H} {H1 : Heap} {k : Nat} {x : z_E} (hk : k < h.1) (hP : va_P (z_D G) vwCl ((z_W G h).set k (z_B G + k, z_te G x)) H1) : z_hp G (z_up h k x) H1 := by
  unfold z_hp
  rw [← z_W_set x hk]; exact hP
theorem z_hp.lt {G : z_G} {h : z_H} {H : Heap} (hh : z_hp G h H) {k : Nat} (hk : k < h.1) : z_B G + k < H.size := va_at.lt (hh k _ (z_W_get hk))
/-- THE CONTRACT OF A RUN that starts at a frame: what comes back is r, the cells are hF's then -/
def z_Q (G : z_G) (hF : z_H) (r : Option Value) : Array Value → State → Outcome → State → Prop := fun _ st o t => o = .returned (r.map (z_t G)) ∧ z_hp G hF t.heap ∧ va_F (z_A G) st t
def z_ctx (G : z_G) (d : Nat) (M : z_M) (n0 s0 : Nat) (hF : z_H) (p : Program) (R : Room) (s : State) (m : MethodId) (args : Array Value) (meth : Method) (c : Code) : Prop :=
  p.tables.exec = Jvm.exec ∧ c.code = M.2.1 ∧ meth.sig.returnType = M.2.2.2 ∧ c.maxLocals = M.2.2.1 ∧ s.vm.findClass M.1.cls = some m.cls ∧ (∀ w ∈ lw_tbl, goodWord w = true → w.before args s = true) ∧ meth.locks = false ∧ meth.name = M.1.name ∧ z_wd G s ∧ s.heap.size = z_B G + n0 ∧ d ≤ R.frames ∧ hF.1 - n0 ≤ R.cells ∧ hF.2.1 - s0 ≤ R.slots ∧ 64 * d ≤ R.locals
def z_Run (G : z_G) (l : Launch) (d : Nat) (M : z_M) (pc : Nat) (L : List (Nat × Value)) (S : List Value) (h hF : z_H) (r : Option Value) : Prop :=
  (h.1 ≤ hF.1 ∧ h.2.1 ≤ hF.2.1) ∧ ∀ (n0 s0 : Nat) (p : Program) (e : Env) (R : Room) (s : State) (m : MethodId) (args : Array Value) (below : List Frame) (meth : Method) (c : Code), z_ctx G d M n0 s0 hF p R s m args meth c → n0 ≤ h.1 → s0 ≤ h.2.1 →
    ∀ (H : Heap) (locs : List Loc) (ls : Array Slot), z_hp G h H → va_S (z_A G) s.heap H locs → lv_has ls M.2.2.1 (z_tl G L) →
      W p l e R s m args below meth c H locs (h.1 - n0) (h.2.1 - s0) (MQ below (z_Q G hF r) args s (hF.1 - n0) (hF.2.1 - s0) (z_A G)) (F0 m pc ls (S.map (z_t G)))
theorem z_at {G : z_G} {ls : Array Slot} {nL : Nat} {L : List (Nat × Value)} (hl : lv_has ls nL (z_tl G L)) {k i : Nat} {v : Value} (hk : L[k]? = some (i, v)) : ls[i]? = some (.val (z_t G v)) := by
  refine lv_at hl k ?_
  rw [z_tl, List.getElem?_map, hk]
  rfl
theorem z_weak {G : z_G} {l : Launch} {d : Nat} {M : z_M} {pc : Nat} {L L' : List (Nat × Value)} {S : List Value} {h hF : z_H} {r : Option Value} (ks : List Nat) (hl : lv_pick L ks = L') (k : z_Run G l d M pc L' S h hF r) : z_Run G l d M pc L S h hF r := by
  refine ⟨k.1, fun n0 s0 p e R s m args below meth c C hn hs H locs ls hh hS hL => k.2 n0 s0 p e R s m args below meth c C hn hs H locs ls hh hS ?_⟩
  refine lv_sub hL ks ?_
  rw [← hl]
  simp [lv_pick, z_tl, List.map_filterMap, List.getElem?_map]
theorem z_eq {G : z_G} {l : Launch} {d : Nat} {M : z_M} {pc pc' : Nat} {L : List (Nat × Value)} {S : List Value} {h hF : z_H} {r : Option Value} (hp : pc = pc') (k : z_Run G l d M pc' L S h hF r) : z_Run G l d M pc L S h hF r := by
  subst hp; exact k
/-- a step that changes the frame alone -/
theorem z_pure {G : z_G} {l : Launch} {d : Nat} {M : z_M} {pc pc' : Nat} {L : List (Nat × Value)} {S S' : List Value} {h hF : z_H} {r : Option Value}
    (hstep : ∀ {n0 s0 : Nat} {p : Program} {e : Env} {R : Room} {s : State} {m : MethodId} {args : Array Value} {below : List Frame} {meth : Method} {c : Code} {H : Heap} {locs : List Loc} {cells slots : Nat} {Q : State → Prop} {ls : Array Slot}, z_ctx G d M n0 s0 hF p R s m args meth c → lv_has ls M.2.2.1 (z_tl G L) →
      W p l e R s m args below meth c H locs cells slots Q (F0 m pc' ls (S'.map (z_t G))) → W p l e R s m args below meth c H locs cells slots Q (F0 m pc ls (S.map (z_t G))))
    (k : z_Run G l d M pc' L S' h hF r) : z_Run G l d M pc L S h hF r :=
  ⟨k.1, fun n0 s0 p e R s m args below meth c C hn hs H locs ls hh hS hL => hstep C hL (k.2 n0 s0 p e R s m args below meth c C hn hs H locs ls hh hS hL)⟩
/-- a step that gives a new row of locals -/
theorem z_store {G : z_G} {l : Launch} {d : Nat} {M : z_M} {pc pc' : Nat} {L L' : List (Nat × Value)} {S S' : List Value} {h hF : z_H} {r : Option Value}
    (hstep : ∀ {n0 s0 : Nat} {p : Program} {e : Env} {R : Room} {s : State} {m : MethodId} {args : Array Value} {below : List Frame} {meth : Method} {c : Code} {H : Heap} {locs : List Loc} {cells slots : Nat} {Q : State → Prop} {ls : Array Slot}, z_ctx G d M n0 s0 hF p R s m args meth c → lv_has ls M.2.2.1 (z_tl G L) →
      (∀ ls' : Array Slot, lv_has ls' M.2.2.1 (z_tl G L') → W p l e R s m args below meth c H locs cells slots Q (F0 m pc' ls' (S'.map (z_t G)))) → W p l e R s m args below meth c H locs cells slots Q (F0 m pc ls (S.map (z_t G))))
    (k : z_Run G l d M pc' L' S' h hF r) : z_Run G l d M pc L S h hF r :=
  ⟨k.1, fun n0 s0 p e R s m args below meth c C hn hs H locs ls hh hS hL => hstep C hL (fun ls' hL' => k.2 n0 s0 p e R s m args below meth c C hn hs H locs ls' hh hS hL')⟩
