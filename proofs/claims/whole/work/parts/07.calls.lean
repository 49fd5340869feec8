section ZN
variable {G : z_G} {l : Launch} {d : Nat} {M : z_M} {pc : Nat} {L : List (Nat × Value)} {S : List Value} {h hF : z_H} {r : Option Value}
/-- what is known of a class of which an object is made -/
def z_nk (own : String) (index ci : Nat) (N : Nat) (fs : List Value) : Prop := ∃ (C : String) (T : u_T) (ty : Nat → FieldType), vwCl[ci]? = some (C, T, N) ∧ (∀ k, k < N → parseFieldDescriptor (T k).2.2.1 = some (ty k)) ∧ (∀ w ∈ u_ws C T N, w ∈ lw_tbl ∧ goodWord w = true) ∧ Cond.classLink own index C ∈ lw_tbl ∧ Cond.instantiable C N ∈ lw_tbl ∧ Cond.initialized C ∈ lw_tbl ∧ (∀ j, j < N → defaultValue (ty j) = vp_V fs j) ∧ ∀ G : z_G, fs.map (z_t G) = fs
theorem z_newO {ci index N : Nat} {fs : List Value} (nk : z_nk M.1.cls index ci N fs) (hd : decode M.2.1 pc = .ok (.new index, 3)) (kk : z_Run G l d M (pc + 3) L (z_r (some h.1) :: S) (z_new h N (.inr (ci, fs))) hF r) : z_Run G l d M pc L S h hF r := by
  obtain ⟨C, T, ty, hc, hty, hws, n1, n2, n3, hfs, hft⟩ := nk
  have k1 : h.1 + 1 ≤ hF.1 := kk.1.1
  have k2 : h.2.1 + N ≤ hF.2.1 := kk.1.2
  refine ⟨⟨by omega, by omega⟩, fun n0 s0 p e R s m args below meth c X hn hs H locs ls hh hS hL => ?_⟩
  have hts : ∀ w ∈ u_ws C T N, w.before args s = true := fun w hw => X.2.2.2.2.2.1 w (hws w hw).1 (hws w hw).2
  have hsz := X.2.2.2.2.2.2.2.2.2.1
  have r1 := X.2.2.2.2.2.2.2.2.2.2.2.1
  have r2 := X.2.2.2.2.2.2.2.2.2.2.2.2.1
  refine va_new (D := z_D G) (cl := vwCl) (A := z_A G) (ci := ci) (fs := fs) (C := C) (T := T) (N := N) X.1 X.2.1 hts (fun _ q => q) ty hty X.2.2.2.2.1 (X.2.2.2.2.2.1 _ n1 rfl) (X.2.2.2.2.2.1 _ n2 rfl) (X.2.2.2.2.2.1 _ n3 rfl) (z_K0 X) hh (z_W_D G h) hS (fun q hq => show z_B G ≤ q by omega) hc hfs (by omega) (by omega) hd (fun q H1 hP1 hD1 hS1 => ?_)
  refine z_szW (fun hz => ?_)
  have hq : q = z_B G + h.1 := z_adr hP1 hD1 (by omega)
  subst hq
  have e1 : h.1 - n0 + 1 = (z_new h N (.inr (ci, fs))).1 - n0 := by show _ = h.1 + 1 - n0; omega
  have e2 : h.2.1 - s0 + N = (z_new h N (.inr (ci, fs))).2.1 - s0 := by show _ = h.2.1 + N - s0; omega
  rw [e1, e2]
  refine kk.2 n0 s0 p e R s m args below meth c X (by show n0 ≤ h.1 + 1; omega) (by show s0 ≤ h.2.1 + N; omega) H1 locs ls ?_ hS1 hL
  have e9 : z_te G (.inr (ci, fs)) = .inr (ci, fs) := by simp only [z_te, hft G]
  unfold z_hp
  rw [← z_W_new (n := N), e9]
  exact hP1
theorem z_caeq {n0 s0 : Nat} {p : Program} {R : Room} {s : State} {m : MethodId} {args : Array Value} {meth : Method} {c : Code} (X : z_ctx G d M n0 s0 hF p R s m args meth c) {t0 : Nat} {ty : FieldType} (ht : z_tyl[t0]? = some ty) {cA : ClassId} (hK : va_K (z_D G) vwCl (z_tys G ++ [(cA, ty)]) s) : cA = z_ca G ty := by
  have h1 : va_RA s (z_ca G ty) ty := ((z_K0 X).2 t0 (z_ca G ty, ty) (by rw [z_tys, List.getElem?_map, ht]; rfl)).2
  have h2 : va_RA s cA ty := (hK.2 (z_tys G).length (cA, ty) (by rw [List.getElem?_append_right (Nat.le_refl _)]; simp)).2
  have f1 : s.vm.findClass ("[" ++ ty.toString) = some (z_ca G ty) := by
    cases ty <;> first | exact h1 | (obtain ⟨_, _, _, _, _, h⟩ := h1; exact h)
  have f2 : s.vm.findClass ("[" ++ ty.toString) = some cA := by
    cases ty <;> first | exact h2 | (obtain ⟨_, _, _, _, _, h⟩ := h2; exact h)
  rw [f1] at f2
  exact (Option.some.inj f2).symm
theorem z_newA {at0 : ArrayType} {ty : FieldType} {n : Int32} {a0 : vp_A} (t0 : Nat) (ht : z_tyl[t0]? = some ty) (hty : newarray.typeOf at0 = ty) (hw : Cond.arrayClass (newarray.typeOf at0) ∈ lw_tbl) (ha : ∀ cA : ClassId, vp_cell cA a0 = arrV cA n.toNatClampNeg (fun _ => defaultValue ty)) (hte : ∀ G : z_G, z_te G (.inl (ty, a0)) = .inl (z_ca G ty, a0)) (hn : ¬ n < 0) (hb : n.toNatClampNeg * componentBytes ty ≤ 536870912) (hd : decode M.2.1 pc = .ok (.newarray at0, 2)) (kk : z_Run G l d M (pc + 2) L (z_r (some h.1) :: S) (z_new h n.toNatClampNeg (.inl (ty, a0))) hF r) : z_Run G l d M pc L (.int n :: S) h hF r := by
  have k1 : h.1 + 1 ≤ hF.1 := kk.1.1
  have k2 : h.2.1 + n.toNatClampNeg ≤ hF.2.1 := kk.1.2
  refine ⟨⟨by omega, by omega⟩, fun n0 s0 p e R s m args below meth c X hn0 hs H locs ls hh hS hL => ?_⟩
  have hsz := X.2.2.2.2.2.2.2.2.2.1
  have r1 := X.2.2.2.2.2.2.2.2.2.2.2.1
  have r2 := X.2.2.2.2.2.2.2.2.2.2.2.2.1
  refine va_newa (D := z_D G) (cl := vwCl) (A := z_A G) (a0 := a0) X.1 X.2.1 (X.2.2.2.2.2.1 _ hw rfl) hty (z_K0 X) hh (z_W_D G h) hS (fun q hq => show z_B G ≤ q by omega) ha hn rfl hb (by omega) (by omega) hd (fun q cA H1 hK1 hP1 hD1 hS1 => ?_)
  refine z_szW (fun hz => ?_)
  have hq : q = z_B G + h.1 := z_adr hP1 hD1 (by omega)
  subst hq
  have hca := z_caeq X ht hK1
  subst hca
  have e1 : h.1 - n0 + 1 = (z_new h n.toNatClampNeg (.inl (ty, a0))).1 - n0 := by show _ = h.1 + 1 - n0; omega
  have e2 : h.2.1 - s0 + n.toNatClampNeg = (z_new h n.toNatClampNeg (.inl (ty, a0))).2.1 - s0 := by show _ = h.2.1 + n.toNatClampNeg - s0; omega
  rw [e1, e2]
  refine kk.2 n0 s0 p e R s m args below meth c X (by show n0 ≤ h.1 + 1; omega) (by show s0 ≤ h.2.1 + n.toNatClampNeg; omega) H1 locs ls ?_ hS1 hL
  unfold z_hp
  rw [← z_W_new (n := n.toNatClampNeg), hte G]
  exact hP1
theorem z_newQ {C : String} {index : Nat} {n : Int32} (t0 : Nat) (ht : z_tyl[t0]? = some (.object C)) (hC : C = RX9 ∨ C = RX7) (hw : Cond.classLink M.1.cls index C ∈ lw_tbl) (hn : ¬ n < 0) (hb : n.toNatClampNeg * 4 ≤ 536870912) (hd : decode M.2.1 pc = .ok (.anewarray index, 3)) (kk : z_Run G l d M (pc + 3) L (z_r (some h.1) :: S) (z_new h n.toNatClampNeg (.inl (.object C, n.toNatClampNeg, .inr (.inr (.inr (.inr (fun _ => none))))))) hF r) : z_Run G l d M pc L (.int n :: S) h hF r := by
  have k1 : h.1 + 1 ≤ hF.1 := kk.1.1
  have k2 : h.2.1 + n.toNatClampNeg ≤ hF.2.1 := kk.1.2
  refine ⟨⟨by omega, by omega⟩, fun n0 s0 p e R s m args below meth c X hn0 hs H locs ls hh hS hL => ?_⟩
  have hsz := X.2.2.2.2.2.2.2.2.2.1
  have r1 := X.2.2.2.2.2.2.2.2.2.2.2.1
  have r2 := X.2.2.2.2.2.2.2.2.2.2.2.2.1
  have hAO : va_AO C s := by
    rcases hC with rfl | rfl
    · exact X.2.2.2.2.2.2.2.2.1.1.2.2.2.1
    · exact X.2.2.2.2.2.2.2.2.1.1.2.2.2.2.1
  refine va_newq (D := z_D G) (cl := vwCl) (A := z_A G) X.1 X.2.1 X.2.2.2.2.1 (X.2.2.2.2.2.1 _ hw rfl) hAO (z_K0 X) hh (z_W_D G h) hS (fun q hq => show z_B G ≤ q by omega) hn rfl hb (by omega) (by omega) hd (fun q cA H1 hK1 hP1 hD1 hS1 => ?_)
  refine z_szW (fun hz => ?_)
  have hq : q = z_B G + h.1 := z_adr hP1 hD1 (by omega)
  subst hq
  have hca := z_caeq X ht hK1
  subst hca
  have e1 : h.1 - n0 + 1 = (z_new h n.toNatClampNeg (.inl (.object C, n.toNatClampNeg, .inr (.inr (.inr (.inr (fun _ => none))))))).1 - n0 := by show _ = h.1 + 1 - n0; omega
  have e2 : h.2.1 - s0 + n.toNatClampNeg = (z_new h n.toNatClampNeg (.inl (.object C, n.toNatClampNeg, .inr (.inr (.inr (.inr (fun _ => none))))))).2.1 - s0 := by show _ = h.2.1 + n.toNatClampNeg - s0; omega
  rw [e1, e2]
  refine kk.2 n0 s0 p e R s m args below meth c X (by show n0 ≤ h.1 + 1; omega) (by show s0 ≤ h.2.1 + n.toNatClampNeg; omega) H1 locs ls ?_ hS1 hL
  unfold z_hp
  rw [← z_W_new (n := n.toNatClampNeg)]
  exact hP1
/-- Object's constructor -/
theorem z_objI {index : Nat} {q : Nat} (hw : Cond.methodLink M.1.cls index Lib.objectInit ∈ lw_tbl) (hS0 : (S.map Value.category).sum ≤ 8) (hd1 : 1 ≤ d) (hd : decode M.2.1 pc = .ok (.invokespecial index, 3)) (h1 : Cond.instanceMethod Lib.objectInit ∈ lw_tbl) (h2 : Cond.code Lib.objectInit ⟨#[0xb1]⟩ 1 none ∈ lw_tbl) (kk : z_Run G l d M (pc + 3) L S h hF r) : z_Run G l d M pc L (z_r (some q) :: S) h hF r := by
  refine ⟨kk.1, fun n0 s0 p e R s m args below meth c X hn hs H locs ls hh hS hL => ?_⟩
  have f1 := X.2.2.2.2.2.2.2.2.2.2.1
  have f2 := X.2.2.2.2.2.2.2.2.2.2.2.2.2
  have hcat : ((S.map (z_t G)).map fun v => v.category).sum = (S.map Value.category).sum := by
    rw [List.map_map]; congr 1; apply List.map_congr_left; intro v _; exact z_cat G v
  refine W.objInit X.1 X.2.1 X.2.2.2.2.1 (X.2.2.2.2.2.1 _ hw rfl) (X.2.2.2.2.2.1 _ h1 rfl) (X.2.2.2.2.2.1 _ h2 rfl) rfl (by rw [X.2.2.2.1]; exact hL.1) rfl hd (by omega) (by show 2 * 0 + _ + 12 ≤ _; rw [hcat]; omega) ?_
  exact kk.2 n0 s0 p e R s m args below meth c X hn hs H locs ls hh hS hL
/-! calls -/
def z_ws (M : z_M) : List Cond := .code M.1 M.2.1 M.2.2.1 M.2.2.2 :: lw_tbl.filter goodWord
def z_Meth (G : z_G) (l : Launch) (d : Nat) (M : z_M) (vs : List Value) (h hF : z_H) (r : Option Value) : Prop := (h.1 ≤ hF.1 ∧ h.2.1 ≤ hF.2.1) ∧ Met l M.1 (z_ws M) { frames := d, cells := hF.1 - h.1, slots := hF.2.1 - h.2.1, locals := 64 * d } (va_Pc (vs.map (z_t G)) (fun U => z_wd G U ∧ U.heap.size = z_B G + h.1 ∧ z_hp G h U.heap)) (z_Q G hF r) (hF.1 - h.1) (hF.2.1 - h.2.1) (z_A G)
theorem z_args (G : z_G) (vs : List Value) : ∀ i : Nat, lv_args i (vs.map (z_t G)) = z_tl G (lv_args i vs) := by
  induction vs with
  | nil => intro i; rfl
  | cons v vs ih =>
    intro i
    simp only [List.map_cons, lv_args, z_cat, z_tl]
    rw [ih]
    rfl
theorem z_slen (G : z_G) (vs : List Value) : (lg_sl (vs.map (z_t G))).length = (lg_sl vs).length := by
  induction vs with
  | nil => rfl
  | cons v vs ih =>
    simp only [lg_sl, List.map_cons, List.flatMap_cons, List.length_append, z_cat] at ih ⊢
    rw [ih]
    congr 1
    split <;> rfl
theorem z_Meth.of {vs : List Value} (hy : plainName M.1.cls = true) (hlen : (lg_sl vs).length ≤ M.2.2.1) (hcode : Cond.code M.1 M.2.1 M.2.2.1 M.2.2.2 ∈ lw_tbl) (k : z_Run G l d M 0 (lv_args 0 vs) [] h hF r) : z_Meth G l d M vs h hF r := by
  refine ⟨k.1, Met.ofW (cc := M.2.1) (maxL := M.2.2.1) (ret := M.2.2.2) hy rfl ?_⟩
  intro p e s m args below meth c s₁ B hml hv
  obtain ⟨rfl, hwd, hsz, hP⟩ := hv
  have hts := atoms_spec (ws := z_ws M) B.pre
  have hl := lv_entry (vs.map (z_t G)) (n := M.2.2.1) (by rw [z_slen]; exact hlen)
  rw [lg_entry_eq]
  generalize (lg_sl (vs.map (z_t G)) ++ List.replicate (M.2.2.1 - (lg_sl (vs.map (z_t G))).length) Slot.unset).toArray = ls at hl ⊢
  rw [z_args] at hl
  have C : z_ctx G d M h.1 h.2.1 hF p (headSpec (z_ws M) { frames := d, cells := hF.1 - h.1, slots := hF.2.1 - h.2.1, locals := 64 * d }).room s m (vs.map (z_t G)).toArray meth c :=
    ⟨B.exec, B.bytes, B.returns, hml, findClass_of_methodNamed B.named, fun w hw hg => hts w (List.mem_cons_of_mem _ (List.mem_filter.mpr ⟨hw, hg⟩)), B.notSynchronized, (name_of_methodNamed B.named B.method).1, hwd, hsz, Nat.le_refl _, Nat.le_refl _, Nat.le_refl _, Nat.le_refl _⟩
  have := k.2 h.1 h.2.1 p e _ s m _ below meth c C (Nat.le_refl _) (Nat.le_refl _) s.heap [] ls hP va_S.rf hl
  rw [Nat.sub_self, Nat.sub_self] at this
  exact this
theorem z_after {p : Program} {e : Env} {R : Room} {s : State} {m : MethodId} {args : Array Value} {below : List Frame} {meth : Method} {c : Code} {H : Heap} {locs : List Loc} {cells slots mc ms : Nat} {Q : State → Prop} {ls : Array Slot} {st0 rest : List Value} {h1 : z_H} {r1 : Option Value} {a : Array Value}
    (hr : va_Run p l e R s m args below meth c H locs cells slots mc ms (F0 m pc ls st0) rest (z_Q G h1 r1 a) (z_A G)) (hS : va_S (z_A G) s.heap H locs)
    (kk : ∀ (H1 : Heap) (locs1 : List Loc), z_hp G h1 H1 → va_S (z_A G) s.heap H1 locs1 → W p l e R s m args below meth c H1 locs1 (cells + mc) (slots + ms) Q (F0 m (pc + 3) ls ((r1.map (z_t G)).toList ++ rest))) : W p l e R s m args below meth c H locs cells slots Q (F0 m pc ls st0) := by
  intro T hT X
  obtain ⟨v, st₀, t, T', L, h0, X', hL, e1, e2, ⟨hv, hp, hz, hk⟩, st⟩ := hr T hT X
  cases hv
  rw [h0] at hz hk
  obtain ⟨t2, a1, b1⟩ := kk T'.heap (locs ++ L) (by rw [e1]; exact hp)
    ⟨Nat.le_trans hS.1 (by rw [e1]; exact hz), fun q h1 h2 => by rw [e1, hk q (Nat.lt_of_lt_of_le h1 hS.1) h2]; exact hS.2.1 q h1 h2, fun q hq => by
      rcases List.mem_append.mp hq with h | h
      · exact hS.2.2 q h
      · exact hL q h⟩ T' rfl X'
  exact ⟨t2, st t2 a1, b1⟩
theorem z_goodw {n0 s0 : Nat} {p : Program} {R : Room} {s : State} {m : MethodId} {args : Array Value} {meth : Method} {c : Code} (X : z_ctx G d M n0 s0 hF p R s m args meth c) : ∀ w ∈ lw_tbl.filter goodWord, w.before args s = true := fun w hw => X.2.2.2.2.2.1 w (List.mem_filter.mp hw).1 (List.mem_filter.mp hw).2
theorem z_goodIn {M' : z_M} (hcode : Cond.code M'.1 M'.2.1 M'.2.2.1 M'.2.2.2 ∈ lw_tbl) : GoodIn (lw_tbl.filter goodWord) (z_ws M') := by
  intro w hw
  rcases List.mem_cons.mp hw with h | h
  · subst h
    exact ⟨List.mem_filter.mpr ⟨hcode, rfl⟩, Or.inl rfl⟩
  · exact ⟨h, good_of_word (List.mem_filter.mp h).2⟩
/-- the callee's part of a call: words, room -/
theorem z_callB {d' : Nat} {M' : z_M} {index n : Nat} {h1 : z_H} {n0 s0 : Nat} {p : Program} {R : Room} {s : State} {m : MethodId} {args : Array Value} {meth : Method} {c : Code} (X : z_ctx G d M n0 s0 hF p R s m args meth c) (hlk : Cond.methodLink M.1.cls index M'.1 ∈ lw_tbl) (hcode : Cond.code M'.1 M'.2.1 M'.2.2.1 M'.2.2.2 ∈ lw_tbl) (hini : Cond.initialized M'.1.cls ∈ lw_tbl) (hm : M'.1.cls ≠ "java/lang/invoke/MethodHandle" ∧ M'.1.cls ≠ "java/lang/invoke/VarHandle" ∧ (parseMethodDescriptor M'.1.desc).map (fun d => d.parameters.length) = some n) (hmx : M'.2.2.1 ≤ 40) (hdd : d' + 1 ≤ d) :
    CallB R s args M.1.cls index M'.1 M'.2.1 M'.2.2.1 M'.2.2.2 (z_ws M') { frames := d', cells := h1.1 - h.1, slots := h1.2.1 - h.2.1, locals := 64 * d' } (h1.1 - h.1) (h1.2.1 - h.2.1) n := by
  have f1 := X.2.2.2.2.2.2.2.2.2.2.1
  have f2 := X.2.2.2.2.2.2.2.2.2.2.2.2.2
  exact callB_of n (z_goodw X) (z_goodIn hcode) rfl rfl rfl (X.2.2.2.2.2.1 _ hini rfl) (X.2.2.2.2.2.1 _ hlk rfl) hm ⟨by show d' + 1 ≤ _; omega, by show 8 + (M'.2.2.1 + 11) + 64 * d' ≤ _; omega⟩
theorem z_preB {vs : List Value} : FrameBlind (va_Pc (vs.map (z_t G)) (fun U => z_wd G U ∧ U.heap.size = z_B G + h.1 ∧ z_hp G h U.heap)) := fun a U g mk q => by
  obtain ⟨q0, q1, q2, q3⟩ := q
  exact ⟨q0, q1.calling g mk a, q2, q3⟩
theorem z_cats (G : z_G) (S : List Value) : ((S.map (z_t G)).map fun v => v.category).sum = (S.map Value.category).sum := by
  rw [List.map_map]; congr 1; apply List.map_congr_left; intro v _; exact z_cat G v
theorem z_callS {d' : Nat} {M' : z_M} {index n : Nat} {h1 : z_H} {r1 : Option Value} {vs St : List Value} (hM : z_Meth G l d' M' vs h h1 r1) (hlk : Cond.methodLink M.1.cls index M'.1 ∈ lw_tbl) (hcode : Cond.code M'.1 M'.2.1 M'.2.2.1 M'.2.2.2 ∈ lw_tbl) (hini : Cond.initialized M'.1.cls ∈ lw_tbl) (hst : Cond.static M'.1 ∈ lw_tbl) (hm : M'.1.cls ≠ "java/lang/invoke/MethodHandle" ∧ M'.1.cls ≠ "java/lang/invoke/VarHandle" ∧ (parseMethodDescriptor M'.1.desc).map (fun d => d.parameters.length) = some n) (hmx : M'.2.2.1 ≤ 40) (hdd : d' + 1 ≤ d) (hn9 : vs.length = n) (hS0 : (S.map Value.category).sum ≤ 8) (hSt : St = vs.reverse ++ S) (hd : decode M.2.1 pc = .ok (.invokestatic index, 3)) (kk : z_Run G l d M (pc + 3) L (r1.toList ++ S) h1 hF r) : z_Run G l d M pc L St h hF r := by
  have m1 := hM.1
  have m2 := kk.1
  subst hSt
  refine ⟨⟨by omega, by omega⟩, fun n0 s0 p e R s m args below meth c X hn hs H locs ls hh hS hL => ?_⟩
  have hsz := X.2.2.2.2.2.2.2.2.2.1
  have hzL := z_szL X hh hS
  have c1 := X.2.2.2.2.2.2.2.2.2.2.2.1
  have c2 := X.2.2.2.2.2.2.2.2.2.2.2.2.1
  refine z_szW (fun hz => ?_)
  have hHs : H.size = z_B G + h.1 := by omega
  refine z_after (va_runS (As := vs.map (z_t G)) (rest := S.map (z_t G)) ⟨X.1, X.2.1, X.2.2.2.1, X.2.2.2.2.1, z_goodw X⟩ hM.2 ⟨z_callB X hlk hcode hini hm hmx hdd, X.2.2.2.2.2.1 _ hst rfl⟩ ⟨z_preB, fun U hU hW => ⟨rfl, z_wd.go X.2.2.2.2.2.2.2.2.1 hS hU hW, by rw [hU]; exact hHs, by rw [hU]; exact hh⟩⟩ rfl (by rw [List.length_map]; exact hn9) hL.1 (by show (vs.reverse ++ S).map (z_t G) = _; rw [List.map_append, List.map_reverse]) (by show 2 * 0 + _ ≤ 8; rw [z_cats]; omega) hd ⟨by omega, by omega⟩) hS ?_
  intro H1 locs1 hP1 hS1
  have e1 : h.1 - n0 + (h1.1 - h.1) = h1.1 - n0 := by omega
  have e2 : h.2.1 - s0 + (h1.2.1 - h.2.1) = h1.2.1 - s0 := by omega
  rw [e1, e2]
  have e3 : (r1.map (z_t G)).toList ++ S.map (z_t G) = (r1.toList ++ S).map (z_t G) := by cases r1 <;> rfl
  rw [e3]
  exact kk.2 n0 s0 p e R s m args below meth c X (by omega) (by omega) H1 locs1 ls hP1 hS1 hL
theorem z_callI {d' : Nat} {M' : z_M} {index n : Nat} {b : Nat} {h1 : z_H} {vs St : List Value} (hM : z_Meth G l d' M' (z_r (some b) :: vs) h h1 none) (hret : M'.2.2.2 = none) (hlk : Cond.methodLink M.1.cls index M'.1 ∈ lw_tbl) (hcode : Cond.code M'.1 M'.2.1 M'.2.2.1 M'.2.2.2 ∈ lw_tbl) (hini : Cond.initialized M'.1.cls ∈ lw_tbl) (hst : Cond.instanceMethod M'.1 ∈ lw_tbl) (hnm : M'.1.name = "<init>") (hm : M'.1.cls ≠ "java/lang/invoke/MethodHandle" ∧ M'.1.cls ≠ "java/lang/invoke/VarHandle" ∧ (parseMethodDescriptor M'.1.desc).map (fun d => d.parameters.length) = some n) (hmx : M'.2.2.1 ≤ 40) (hdd : d' + 1 ≤ d) (hn9 : vs.length = n) (hS0 : (S.map Value.category).sum ≤ 8) (hSt : St = vs.reverse ++ (z_r (some b) :: S)) (hd : decode M.2.1 pc = .ok (.invokespecial index, 3)) (kk : z_Run G l d M (pc + 3) L S h1 hF r) : z_Run G l d M pc L St h hF r := by
  have m1 := hM.1
  have m2 := kk.1
  subst hSt
  refine ⟨⟨by omega, by omega⟩, fun n0 s0 p e R s m args below meth c X hn hs H locs ls hh hS hL => ?_⟩
  have hsz := X.2.2.2.2.2.2.2.2.2.1
  have hzL := z_szL X hh hS
  have c1 := X.2.2.2.2.2.2.2.2.2.2.2.1
  have c2 := X.2.2.2.2.2.2.2.2.2.2.2.2.1
  refine z_szW (fun hz => ?_)
  have hHs : H.size = z_B G + h.1 := by omega
  have hcb := z_callB (h := h) (h1 := h1) X hlk hcode hini hm hmx hdd
  rw [hret] at hcb
  refine z_after (r1 := none) (va_runI (As := vs.map (z_t G)) (rest := S.map (z_t G)) (b := z_B G + b) ⟨X.1, X.2.1, X.2.2.2.1, X.2.2.2.2.1, z_goodw X⟩ hM.2 ⟨hcb, hnm, X.2.2.2.2.2.1 _ hst rfl⟩ ⟨z_preB, fun U hU hW => ⟨rfl, z_wd.go X.2.2.2.2.2.2.2.2.1 hS hU hW, by rw [hU]; exact hHs, by rw [hU]; exact hh⟩⟩ rfl (by rw [List.length_map]; exact hn9) hL.1 (by show (vs.reverse ++ (z_r (some b) :: S)).map (z_t G) = _; rw [List.map_append, List.map_reverse]; rfl) (by show 2 * 0 + _ ≤ 8; rw [z_cats]; omega) hd ⟨by omega, by omega⟩) hS ?_
  intro H1 locs1 hP1 hS1
  have e1 : h.1 - n0 + (h1.1 - h.1) = h1.1 - n0 := by omega
  have e2 : h.2.1 - s0 + (h1.2.1 - h.2.1) = h1.2.1 - s0 := by omega
  rw [e1, e2]
  exact kk.2 n0 s0 p e R s m args below meth c X (by omega) (by omega) H1 locs1 ls hP1 hS1 hL
theorem z_callV {d' : Nat} {M' : z_M} {index n ci : Nat} {q : Option Nat} {T : u_T} {N : Nat} {h1 : z_H} {r1 : Option Value} {vs St : List Value} {fs : List Value} (hM : z_Meth G l d' M' (z_r q :: vs) h h1 r1) (hq : z_ob ci h q = some fs) (hci : vwCl[ci]? = some (M'.1.cls, T, N)) (hlk : Cond.methodLink M.1.cls index M'.1 ∈ lw_tbl) (hcode : Cond.code M'.1 M'.2.1 M'.2.2.1 M'.2.2.2 ∈ lw_tbl) (hini : Cond.initialized M'.1.cls ∈ lw_tbl) (hst : Cond.instanceMethod M'.1 ∈ lw_tbl) (hsel : Cond.selects M'.1.cls M'.1 M'.1 ∈ lw_tbl) (hm : M'.1.cls ≠ "java/lang/invoke/MethodHandle" ∧ M'.1.cls ≠ "java/lang/invoke/VarHandle" ∧ (parseMethodDescriptor M'.1.desc).map (fun d => d.parameters.length) = some n) (hmx : M'.2.2.1 ≤ 40) (hdd : d' + 1 ≤ d) (hn9 : vs.length = n) (hS0 : (S.map Value.category).sum ≤ 8) (hSt : St = vs.reverse ++ (z_r q :: S)) (hd : decode M.2.1 pc = .ok (.invokevirtual index, 3)) (kk : z_Run G l d M (pc + 3) L (r1.toList ++ S) h1 hF r) : z_Run G l d M pc L St h hF r := by
  have m1 := hM.1
  have m2 := kk.1
  subst hSt
  obtain ⟨b, rfl, hb, hbe⟩ := z_ob_spec hq
  refine ⟨⟨by omega, by omega⟩, fun n0 s0 p e R s m args below meth c X hn hs H locs ls hh hS hL => ?_⟩
  have hsz := X.2.2.2.2.2.2.2.2.2.1
  have hzL := z_szL X hh hS
  have c1 := X.2.2.2.2.2.2.2.2.2.2.2.1
  have c2 := X.2.2.2.2.2.2.2.2.2.2.2.2.1
  refine z_szW (fun hz => ?_)
  have hHs : H.size = z_B G + h.1 := by omega
  refine z_after (va_runV (C := M'.1.cls) (As := vs.map (z_t G)) (rest := S.map (z_t G)) (b := z_B G + b) ⟨X.1, X.2.1, X.2.2.2.1, X.2.2.2.2.1, z_goodw X⟩ hM.2 ⟨z_callB X hlk hcode hini hm hmx hdd, X.2.2.2.2.2.1 _ hst rfl, X.2.2.2.2.2.1 _ hsel rfl⟩ ⟨z_preB, va_recv (z_K0 X) hh hci (q0 := b) (by rw [z_W_get hb, hbe]; rfl), fun U hU hW => ⟨rfl, z_wd.go X.2.2.2.2.2.2.2.2.1 hS hU hW, by rw [hU]; exact hHs, by rw [hU]; exact hh⟩⟩ rfl (by rw [List.length_map]; exact hn9) hL.1 (by show (vs.reverse ++ (z_r (some b) :: S)).map (z_t G) = _; rw [List.map_append, List.map_reverse]; rfl) (by show 2 * 0 + _ ≤ 8; rw [z_cats]; omega) hd ⟨by omega, by omega⟩) hS ?_
  intro H1 locs1 hP1 hS1
  have e1 : h.1 - n0 + (h1.1 - h.1) = h1.1 - n0 := by omega
  have e2 : h.2.1 - s0 + (h1.2.1 - h.2.1) = h1.2.1 - s0 := by omega
  rw [e1, e2]
  have e3 : (r1.map (z_t G)).toList ++ S.map (z_t G) = (r1.toList ++ S).map (z_t G) := by cases r1 <;> rfl
  rw [e3]
  exact kk.2 n0 s0 p e R s m args below meth c X (by omega) (by omega) H1 locs1 ls hP1 hS1 hL
end ZN
