section ZM
variable {G : z_G} {l : Launch} {d : Nat} {M : z_M} {pc : Nat} {L : List (Nat × Value)} {S : List Value} {h hF : z_H} {r : Option Value}
theorem z_aret {v : Option Nat} {rt : FieldType} (hd : decode M.2.1 pc = .ok (.areturn, 1)) (hr : M.2.2.2 = some rt) (hrt : ∃ n, rt = .object n) : z_Run G l d M pc L [z_r v] h h (some (z_r v)) :=
  ⟨⟨Nat.le_refl _, Nat.le_refl _⟩, fun n0 s0 p e R s m args below meth c C hn hs H locs ls hh hS hL => W.aret C.1 C.2.1 (C.2.2.1.trans hr) (Or.inl hrt) (by cases v; exact Or.inl rfl; exact Or.inr ⟨_, rfl⟩) (z_ret0 (r := some (z_r v)) hh hS) hS.2.2 hd C.2.2.2.2.2.2.1⟩
theorem z_i2c {x v : Int32} (hd : decode M.2.1 pc = .ok (.i2c, 1)) (hv : (x.toUInt32 % 65536).toInt32 = v) (k : z_Run G l d M (pc + 1) L (.int v :: S) h hF r) : z_Run G l d M pc L (.int x :: S) h hF r := z_pure (fun C _ k => lv_i2c C.1 C.2.1 hd hv k) k
/-- a static method of a nest mate -/
theorem z_callSN {d' : Nat} {M' : z_M} {index n : Nat} {host : String} {h1 : z_H} {r1 : Option Value} {vs St : List Value} (hM : z_Meth G l d' M' vs h h1 r1) (hlk : (M.1.cls, index, M'.1, host) ∈ z_nestM) (hcode : Cond.code M'.1 M'.2.1 M'.2.2.1 M'.2.2.2 ∈ lw_tbl) (hini : Cond.initialized M'.1.cls ∈ lw_tbl) (hst : Cond.static M'.1 ∈ lw_tbl) (hm : M'.1.cls ≠ "java/lang/invoke/MethodHandle" ∧ M'.1.cls ≠ "java/lang/invoke/VarHandle" ∧ (parseMethodDescriptor M'.1.desc).map (fun d => d.parameters.length) = some n) (hmx : M'.2.2.1 ≤ 40) (hdd : d' + 1 ≤ d) (hn9 : vs.length = n) (hS0 : (S.map Value.category).sum ≤ 8) (hSt : St = vs.reverse ++ S) (hd : decode M.2.1 pc = .ok (.invokestatic index, 3)) (kk : z_Run G l d M (pc + 3) L (r1.toList ++ S) h1 hF r) : z_Run G l d M pc L St h hF r := by
  have m1 := hM.1
  have m2 := kk.1
  subst hSt
  refine ⟨⟨by omega, by omega⟩, fun n0 s0 p e R s m args below meth c X hn hs H locs ls hh hS hL => ?_⟩
  have hsz := X.2.2.2.2.2.2.2.2.2.1
  have hzL := z_szL X hh hS
  have f1 := X.2.2.2.2.2.2.2.2.2.2.1
  have f2 := X.2.2.2.2.2.2.2.2.2.2.2.2.2
  have c1 := X.2.2.2.2.2.2.2.2.2.2.2.1
  have c2 := X.2.2.2.2.2.2.2.2.2.2.2.2.1
  refine z_szW (fun hz => ?_)
  have hHs : H.size = z_B G + h.1 := by omega
  refine z_after (va_runSN (host := host) (As := vs.map (z_t G)) (rest := S.map (z_t G)) ⟨X.1, X.2.1, X.2.2.2.1, X.2.2.2.2.1, z_goodw X⟩ hM.2 ⟨va_cnB n (z_goodw X) (z_goodIn hcode) rfl rfl rfl (X.2.2.2.2.2.2.2.2.1.1.2.1 _ hlk) (X.2.2.2.2.2.1 _ hini rfl) hm ⟨by show d' + 1 ≤ _; omega, by show 8 + (M'.2.2.1 + 11) + 64 * d' ≤ _; omega⟩, X.2.2.2.2.2.1 _ hst rfl, trivial⟩ ⟨z_preB, fun U hU hW => ⟨rfl, z_wd.go X.2.2.2.2.2.2.2.2.1 hS hU hW, by rw [hU]; exact hHs, by rw [hU]; exact hh⟩⟩ rfl (by rw [List.length_map]; exact hn9) hL.1 (by show (vs.reverse ++ S).map (z_t G) = _; rw [List.map_append, List.map_reverse]) (by show 2 * 0 + _ ≤ 8; rw [z_cats]; omega) hd ⟨by omega, by omega⟩) hS ?_
  intro H1 locs1 hP1 hS1
  have e1 : h.1 - n0 + (h1.1 - h.1) = h1.1 - n0 := by omega
  have e2 : h.2.1 - s0 + (h1.2.1 - h.2.1) = h1.2.1 - s0 := by omega
  rw [e1, e2]
  have e3 : (r1.map (z_t G)).toList ++ S.map (z_t G) = (r1.toList ++ S).map (z_t G) := by cases r1 <;> rfl
  rw [e3]
  exact kk.2 n0 s0 p e R s m args below meth c X (by omega) (by omega) H1 locs1 ls hP1 hS1 hL
theorem z_callIN {d' : Nat} {M' : z_M} {index n : Nat} {host : String} {b : Nat} {h1 : z_H} {vs St : List Value} (hM : z_Meth G l d' M' (z_r (some b) :: vs) h h1 none) (hret : M'.2.2.2 = none) (hlk : (M.1.cls, index, M'.1, host) ∈ z_nestM) (hcode : Cond.code M'.1 M'.2.1 M'.2.2.1 M'.2.2.2 ∈ lw_tbl) (hini : Cond.initialized M'.1.cls ∈ lw_tbl) (hst : Cond.instanceMethod M'.1 ∈ lw_tbl) (hnm : M'.1.name = "<init>") (hm : M'.1.cls ≠ "java/lang/invoke/MethodHandle" ∧ M'.1.cls ≠ "java/lang/invoke/VarHandle" ∧ (parseMethodDescriptor M'.1.desc).map (fun d => d.parameters.length) = some n) (hmx : M'.2.2.1 ≤ 40) (hdd : d' + 1 ≤ d) (hn9 : vs.length = n) (hS0 : (S.map Value.category).sum ≤ 8) (hSt : St = vs.reverse ++ (z_r (some b) :: S)) (hd : decode M.2.1 pc = .ok (.invokespecial index, 3)) (kk : z_Run G l d M (pc + 3) L S h1 hF r) : z_Run G l d M pc L St h hF r := by
  have m1 := hM.1
  have m2 := kk.1
  subst hSt
  refine ⟨⟨by omega, by omega⟩, fun n0 s0 p e R s m args below meth c X hn hs H locs ls hh hS hL => ?_⟩
  have hsz := X.2.2.2.2.2.2.2.2.2.1
  have hzL := z_szL X hh hS
  have f1 := X.2.2.2.2.2.2.2.2.2.2.1
  have f2 := X.2.2.2.2.2.2.2.2.2.2.2.2.2
  have c1 := X.2.2.2.2.2.2.2.2.2.2.2.1
  have c2 := X.2.2.2.2.2.2.2.2.2.2.2.2.1
  refine z_szW (fun hz => ?_)
  have hHs : H.size = z_B G + h.1 := by omega
  have hcb := va_cnB (R := R) (mc := h1.1 - h.1) (ms := h1.2.1 - h.2.1) (rm := { frames := d', cells := h1.1 - h.1, slots := h1.2.1 - h.2.1, locals := 64 * d' }) n (z_goodw X) (z_goodIn hcode) rfl rfl rfl (X.2.2.2.2.2.2.2.2.1.1.2.1 _ hlk) (X.2.2.2.2.2.1 _ hini rfl) hm ⟨by show d' + 1 ≤ _; omega, by show 8 + (M'.2.2.1 + 11) + 64 * d' ≤ _; omega⟩
  rw [hret] at hcb
  refine z_after (r1 := none) (va_runIN (host := host) (As := vs.map (z_t G)) (rest := S.map (z_t G)) (b := z_B G + b) ⟨X.1, X.2.1, X.2.2.2.1, X.2.2.2.2.1, z_goodw X⟩ hM.2 ⟨hcb, hnm, X.2.2.2.2.2.1 _ hst rfl⟩ ⟨z_preB, fun U hU hW => ⟨rfl, z_wd.go X.2.2.2.2.2.2.2.2.1 hS hU hW, by rw [hU]; exact hHs, by rw [hU]; exact hh⟩⟩ rfl (by rw [List.length_map]; exact hn9) hL.1 (by show (vs.reverse ++ (z_r (some b) :: S)).map (z_t G) = _; rw [List.map_append, List.map_reverse]; rfl) (by show 2 * 0 + _ ≤ 8; rw [z_cats]; omega) hd ⟨by omega, by omega⟩) hS ?_
  intro H1 locs1 hP1 hS1
  have e1 : h.1 - n0 + (h1.1 - h.1) = h1.1 - n0 := by omega
  have e2 : h.2.1 - s0 + (h1.2.1 - h.2.1) = h1.2.1 - s0 := by omega
  rw [e1, e2]
  exact kk.2 n0 s0 p e R s m args below meth c X (by omega) (by omega) H1 locs1 ls hP1 hS1 hL
theorem z_ldcS {index i : Nat} {tx : String} (hi : z_sl[i]? = some (index, tx)) (hM : M.1.cls = RX5) (hd : decode M.2.1 pc = .ok (.ldc index, 2)) (kk : z_Run G l d M (pc + 2) L (.retAddr (4 + i) :: S) h hF r) : z_Run G l d M pc L S h hF r :=
  ⟨kk.1, fun n0 s0 p e R s m args below meth c X hn hs H locs ls hh hS hL => va_ldcS X.1 X.2.1 (own := RX5) (by rw [← hM]; exact X.2.2.2.2.1) (X.2.2.2.2.2.2.2.2.1.1.2.2.2.2.2 i (index, tx) hi) hd (kk.2 n0 s0 p e R s m args below meth c X hn hs H locs ls hh hS hL)⟩
/-- a static row of the host, read in a nest mate -/
theorem z_getsN {index : Nat} {q : Nat × String × Nat} {host : String} (hq : q ∈ z_txl) (hw : (M.1.cls, index, "SoleReader", q.2.1, "[I", host) ∈ z_nestF) (hd : decode M.2.1 pc = .ok (.getstatic index, 3)) (kk : z_Run G l d M (pc + 3) L (.retAddr q.1 :: S) h hF r) : z_Run G l d M pc L S h hF r :=
  ⟨kk.1, fun n0 s0 p e R s m args below meth c X hn hs H locs ls hh hS hL => by
    have hX := X.2.2.2.2.2.2.2.2.1
    exact va_getsN X.1 X.2.1 (hX.2.2.1 q hq) hS X.2.2.2.2.1 (va_Nw.use rfl (hX.1.2.2.1 _ hw)) (fun _ q => q) hd (kk.2 n0 s0 p e R s m args below meth c X hn hs H locs ls hh hS hL)⟩
def z_cI (h : z_H) (q0 : Option Nat) (sp : Int32) (q1 : Option Nat) (dp n : Int32) : Option z_H := match q1 with
  | none => none
  | some a => (z_ar .int h q0).bind fun f => (z_ar .int h (some a)).bind fun g => if sp < 0 ∨ dp < 0 ∨ n < 0 ∨ f.1 < sp.toNatClampNeg + n.toNatClampNeg ∨ g.1 < dp.toNatClampNeg + n.toNatClampNeg then none else some (z_up h a (.inl (.int, g.1, .inl (va_cpy f.2 g.2 sp.toNatClampNeg dp.toNatClampNeg n.toNatClampNeg))))
def z_cJ (h : z_H) (q0 : Option Nat) (sp : Int32) (q1 : Option Nat) (dp n : Int32) : Option z_H := match q1 with
  | none => none
  | some a => (z_arJ h q0).bind fun f => (z_arJ h (some a)).bind fun g => if sp < 0 ∨ dp < 0 ∨ n < 0 ∨ f.1 < sp.toNatClampNeg + n.toNatClampNeg ∨ g.1 < dp.toNatClampNeg + n.toNatClampNeg then none else some (z_up h a (.inl (.long, g.1, .inr (.inl (va_cpy f.2 g.2 sp.toNatClampNeg dp.toNatClampNeg n.toNatClampNeg)))))
def z_acw : Prop := Cond.native arraycopyName ∈ lw_tbl ∧ Cond.static arraycopyName ∈ lw_tbl ∧ Cond.initialized "java/lang/System" ∈ lw_tbl
theorem z_cpyI {index : Nat} {q0 q1 : Option Nat} {sp dp n : Int32} {h1 : z_H} (e : z_cI h q0 sp q1 dp n = some h1) (hlk : Cond.methodLink M.1.cls index arraycopyName ∈ lw_tbl) (hac : z_acw) (hd1 : 4 ≤ d) (hS0 : (S.map Value.category).sum ≤ 8) (hd : decode M.2.1 pc = .ok (.invokestatic index, 3)) (kk : z_Run G l d M (pc + 3) L S h1 hF r) : z_Run G l d M pc L (.int n :: .int dp :: z_r q1 :: .int sp :: z_r q0 :: S) h hF r := by
  cases q1 with
  | none => cases e
  | some a =>
    obtain ⟨⟨n1, f⟩, e1, e3⟩ := Option.bind_eq_some_iff.mp e
    obtain ⟨⟨n2, g⟩, e2, e4⟩ := Option.bind_eq_some_iff.mp e3
    obtain ⟨b, rfl, hb, hbe⟩ := z_ar_spec e1
    obtain ⟨a', ea, ha, hae⟩ := z_ar_spec e2
    cases ea
    split at e4
    · cases e4
    · rename_i hc
      cases e4
      refine ⟨kk.1, fun n0 s0 p e R s m args below meth c X hn hs H locs ls hh hS hL => ?_⟩
      have f1 := X.2.2.2.2.2.2.2.2.2.2.1
      have f2 := X.2.2.2.2.2.2.2.2.2.2.2.2.2
      have hnf : nativeFrameWords "java/lang/System" "arraycopy" 5 ≤ 200 := by decide +kernel
      exact va_copyi (sp := sp) (dp := dp) (n := n) (n0 := n1) (n1 := n2) (f := f) (g := g) (ty := .int) X.1 X.2.1 (X.2.2.2.1.trans hL.1.symm) X.2.2.2.2.1 (X.2.2.2.2.2.1 _ hlk rfl) (X.2.2.2.2.2.1 _ hac.1 rfl) (X.2.2.2.2.2.1 _ hac.2.1 rfl) (X.2.2.2.2.2.1 _ hac.2.2 rfl) (z_K0 X) hh (z_W_D G h) hS b a 0 0 (by rw [z_W_get hb, hbe]; rfl) (by rw [z_W_get ha, hae]; rfl) rfl rfl rfl (fun q => hc (Or.inl q)) (fun q => hc (Or.inr (Or.inl q))) (fun q => hc (Or.inr (Or.inr (Or.inl q)))) (by have := fun q => hc (Or.inr (Or.inr (Or.inr (Or.inl q)))); exact Nat.not_lt.mp this) (by have := fun q => hc (Or.inr (Or.inr (Or.inr (Or.inr q)))); exact Nat.not_lt.mp this) (fun _ _ => rfl) (by omega) (by rw [z_cats]; omega) hd (fun H1 locs1 hP1 _ hS1 => kk.2 n0 s0 p e R s m args below meth c X hn hs H1 locs1 ls (z_hp.set ha hP1) hS1 hL)
theorem z_cpyJ {index : Nat} {q0 q1 : Option Nat} {sp dp n : Int32} {h1 : z_H} (e : z_cJ h q0 sp q1 dp n = some h1) (hlk : Cond.methodLink M.1.cls index arraycopyName ∈ lw_tbl) (hac : z_acw) (hd1 : 4 ≤ d) (hS0 : (S.map Value.category).sum ≤ 8) (hd : decode M.2.1 pc = .ok (.invokestatic index, 3)) (kk : z_Run G l d M (pc + 3) L S h1 hF r) : z_Run G l d M pc L (.int n :: .int dp :: z_r q1 :: .int sp :: z_r q0 :: S) h hF r := by
  cases q1 with
  | none => cases e
  | some a =>
    obtain ⟨⟨n1, f⟩, e1, e3⟩ := Option.bind_eq_some_iff.mp e
    obtain ⟨⟨n2, g⟩, e2, e4⟩ := Option.bind_eq_some_iff.mp e3
    obtain ⟨b, rfl, hb, hbe⟩ := z_arJ_spec e1
    obtain ⟨a', ea, ha, hae⟩ := z_arJ_spec e2
    cases ea
    split at e4
    · cases e4
    · rename_i hc
      cases e4
      refine ⟨kk.1, fun n0 s0 p e R s m args below meth c X hn hs H locs ls hh hS hL => ?_⟩
      have f1 := X.2.2.2.2.2.2.2.2.2.2.1
      have f2 := X.2.2.2.2.2.2.2.2.2.2.2.2.2
      have hnf : nativeFrameWords "java/lang/System" "arraycopy" 5 ≤ 200 := by decide +kernel
      exact va_copyl (sp := sp) (dp := dp) (n := n) (n0 := n1) (n1 := n2) (f := f) (g := g) (ty := .long) X.1 X.2.1 (X.2.2.2.1.trans hL.1.symm) X.2.2.2.2.1 (X.2.2.2.2.2.1 _ hlk rfl) (X.2.2.2.2.2.1 _ hac.1 rfl) (X.2.2.2.2.2.1 _ hac.2.1 rfl) (X.2.2.2.2.2.1 _ hac.2.2 rfl) (z_K0 X) hh (z_W_D G h) hS b a 1 1 (by rw [z_W_get hb, hbe]; rfl) (by rw [z_W_get ha, hae]; rfl) rfl rfl rfl (fun q => hc (Or.inl q)) (fun q => hc (Or.inr (Or.inl q))) (fun q => hc (Or.inr (Or.inr (Or.inl q)))) (by have := fun q => hc (Or.inr (Or.inr (Or.inr (Or.inl q)))); exact Nat.not_lt.mp this) (by have := fun q => hc (Or.inr (Or.inr (Or.inr (Or.inr q)))); exact Nat.not_lt.mp this) (fun _ _ => rfl) (by omega) (by rw [z_cats]; omega) hd (fun H1 locs1 hP1 _ hS1 => kk.2 n0 s0 p e R s m args below meth c X hn hs H1 locs1 ls (z_hp.set ha hP1) hS1 hL)
theorem z_cr (q : Option Nat) : (z_r q).category = 1 := by cases q <;> rfl
theorem z_nr {ty : FieldType} (hty : (∃ C, ty = .object C) ∨ ∃ t, ty = .array t) (q : Option Nat) (G : z_G) : narrow ty (z_t G (z_r q)) = z_t G (z_r q) ∧ fits ty (z_t G (z_r q)) = true := by
  rcases hty with ⟨C, rfl⟩ | ⟨t, rfl⟩ <;> cases q <;> exact ⟨rfl, rfl⟩
theorem z_nz {v : Int32} (hv : v = 0 ∨ v = 1) : narrow .boolean (.int v) = .int v ∧ fits .boolean (.int v) = true := by
  rcases hv with rfl | rfl <;> exact ⟨by decide, by decide⟩
theorem z_bd {α β : Type} {o : Option α} {f : α → Option β} {b : β} (h : o.bind f = some b) : ∃ a, o = some a ∧ f a = some b := Option.bind_eq_some_iff.mp h
/-- a callee's own words -/
def z_ck (M' : z_M) (n : Nat) : Prop := Cond.code M'.1 M'.2.1 M'.2.2.1 M'.2.2.2 ∈ lw_tbl ∧ Cond.initialized M'.1.cls ∈ lw_tbl ∧ (M'.1.cls ≠ "java/lang/invoke/MethodHandle" ∧ M'.1.cls ≠ "java/lang/invoke/VarHandle" ∧ (parseMethodDescriptor M'.1.desc).map (fun d => d.parameters.length) = some n) ∧ M'.2.2.1 ≤ 40 ∧ plainName M'.1.cls = true
theorem z_cS {d' : Nat} {M' : z_M} {index n : Nat} {h1 : z_H} {r1 : Option Value} {St : List Value} (vs : List Value) (hM : z_Meth G l d' M' vs h h1 r1) (hlk : Cond.methodLink M.1.cls index M'.1 ∈ lw_tbl) (ck : z_ck M' n) (hst : Cond.static M'.1 ∈ lw_tbl) (hd : decode M.2.1 pc = .ok (.invokestatic index, 3)) (hdd : d' + 1 ≤ d) (hn9 : vs.length = n) (hS0 : (S.map Value.category).sum ≤ 8) (hSt : St = vs.reverse ++ S) (kk : z_Run G l d M (pc + 3) L (r1.toList ++ S) h1 hF r) : z_Run G l d M pc L St h hF r :=
  z_callS hM hlk ck.1 ck.2.1 hst ck.2.2.1 ck.2.2.2.1 hdd hn9 hS0 hSt hd kk
theorem z_cSN {d' : Nat} {M' : z_M} {index n : Nat} {host : String} {h1 : z_H} {r1 : Option Value} {St : List Value} (vs : List Value) (hM : z_Meth G l d' M' vs h h1 r1) (hlk : (M.1.cls, index, M'.1, host) ∈ z_nestM) (ck : z_ck M' n) (hst : Cond.static M'.1 ∈ lw_tbl) (hd : decode M.2.1 pc = .ok (.invokestatic index, 3)) (hdd : d' + 1 ≤ d) (hn9 : vs.length = n) (hS0 : (S.map Value.category).sum ≤ 8) (hSt : St = vs.reverse ++ S) (kk : z_Run G l d M (pc + 3) L (r1.toList ++ S) h1 hF r) : z_Run G l d M pc L St h hF r :=
  z_callSN hM hlk ck.1 ck.2.1 hst ck.2.2.1 ck.2.2.2.1 hdd hn9 hS0 hSt hd kk
theorem z_cI' {d' : Nat} {M' : z_M} {index n : Nat} {b : Nat} {h1 : z_H} {St : List Value} (vs : List Value) (hM : z_Meth G l d' M' (z_r (some b) :: vs) h h1 none) (hret : M'.2.2.2 = none) (hlk : Cond.methodLink M.1.cls index M'.1 ∈ lw_tbl) (ck : z_ck M' n) (hst : Cond.instanceMethod M'.1 ∈ lw_tbl) (hnm : M'.1.name = "<init>") (hd : decode M.2.1 pc = .ok (.invokespecial index, 3)) (hdd : d' + 1 ≤ d) (hn9 : vs.length = n) (hS0 : (S.map Value.category).sum ≤ 8) (hSt : St = vs.reverse ++ (z_r (some b) :: S)) (kk : z_Run G l d M (pc + 3) L S h1 hF r) : z_Run G l d M pc L St h hF r :=
  z_callI hM hret hlk ck.1 ck.2.1 hst hnm ck.2.2.1 ck.2.2.2.1 hdd hn9 hS0 hSt hd kk
theorem z_cIN {d' : Nat} {M' : z_M} {index n : Nat} {host : String} {b : Nat} {h1 : z_H} {St : List Value} (vs : List Value) (hM : z_Meth G l d' M' (z_r (some b) :: vs) h h1 none) (hret : M'.2.2.2 = none) (hlk : (M.1.cls, index, M'.1, host) ∈ z_nestM) (ck : z_ck M' n) (hst : Cond.instanceMethod M'.1 ∈ lw_tbl) (hnm : M'.1.name = "<init>") (hd : decode M.2.1 pc = .ok (.invokespecial index, 3)) (hdd : d' + 1 ≤ d) (hn9 : vs.length = n) (hS0 : (S.map Value.category).sum ≤ 8) (hSt : St = vs.reverse ++ (z_r (some b) :: S)) (kk : z_Run G l d M (pc + 3) L S h1 hF r) : z_Run G l d M pc L St h hF r :=
  z_callIN hM hret hlk ck.1 ck.2.1 hst hnm ck.2.2.1 ck.2.2.2.1 hdd hn9 hS0 hSt hd kk
theorem z_cV {d' : Nat} {M' : z_M} {index n ci : Nat} {q : Option Nat} {T : u_T} {N : Nat} {h1 : z_H} {r1 : Option Value} {St fs : List Value} (vs : List Value) (hM : z_Meth G l d' M' (z_r q :: vs) h h1 r1) (hq : z_ob ci h q = some fs) (hci : vwCl[ci]? = some (M'.1.cls, T, N)) (hlk : Cond.methodLink M.1.cls index M'.1 ∈ lw_tbl) (ck : z_ck M' n) (hst : Cond.instanceMethod M'.1 ∈ lw_tbl ∧ Cond.selects M'.1.cls M'.1 M'.1 ∈ lw_tbl) (hd : decode M.2.1 pc = .ok (.invokevirtual index, 3)) (hdd : d' + 1 ≤ d) (hn9 : vs.length = n) (hS0 : (S.map Value.category).sum ≤ 8) (hSt : St = vs.reverse ++ (z_r q :: S)) (kk : z_Run G l d M (pc + 3) L (r1.toList ++ S) h1 hF r) : z_Run G l d M pc L St h hF r :=
  z_callV hM hq hci hlk ck.1 ck.2.1 hst.1 hst.2 ck.2.2.1 ck.2.2.2.1 hdd hn9 hS0 hSt hd kk
end ZM
