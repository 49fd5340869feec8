section ZA
variable {G : z_G} {l : Launch} {d : Nat} {M : z_M} {pc : Nat} {L : List (Nat × Value)} {S : List Value} {h hF : z_H} {r : Option Value}
theorem z_K0 {n0 s0 : Nat} {p : Program} {R : Room} {s : State} {m : MethodId} {args : Array Value} {meth : Method} {c : Code} (X : z_ctx G d M n0 s0 hF p R s m args meth c) : va_K (z_D G) vwCl (z_tys G) s := X.2.2.2.2.2.2.2.2.1.1.1
theorem z_iald {q : Option Nat} {i x : Int32} (e : z_aI .int h q i = some x) (hd : decode M.2.1 pc = .ok (.iaload, 1)) (kk : z_Run G l d M (pc + 1) L (.int x :: S) h hF r) : z_Run G l d M pc L (.int i :: z_r q :: S) h hF r := by
  obtain ⟨⟨n, f⟩, e1, e2⟩ := Option.bind_eq_some_iff.mp e
  obtain ⟨a, rfl, ha, he⟩ := z_ar_spec e1
  split at e2
  · cases e2
  · rename_i hi
    cases e2
    exact ⟨kk.1, fun n0 s0 p e R s m args below meth c X hn hs H locs ls hh hS hL => va_iald X.1 X.2.1 (z_K0 X) hh a 0 (cA := z_ca G .int) (n := n) (f := f) (by rw [z_W_get ha, he]; rfl) rfl hi hd (kk.2 n0 s0 p e R s m args below meth c X hn hs H locs ls hh hS hL)⟩
theorem z_zald {q : Option Nat} {i x : Int32} (e : z_aI .boolean h q i = some x) (hd : decode M.2.1 pc = .ok (.baload, 1)) (kk : z_Run G l d M (pc + 1) L (.int x :: S) h hF r) : z_Run G l d M pc L (.int i :: z_r q :: S) h hF r := by
  obtain ⟨⟨n, f⟩, e1, e2⟩ := Option.bind_eq_some_iff.mp e
  obtain ⟨a, rfl, ha, he⟩ := z_ar_spec e1
  split at e2
  · cases e2
  · rename_i hi
    cases e2
    exact ⟨kk.1, fun n0 s0 p e R s m args below meth c X hn hs H locs ls hh hS hL => va_zald X.1 X.2.1 (z_K0 X) hh a 2 (cA := z_ca G .boolean) (n := n) (f := f) (by rw [z_W_get ha, he]; rfl) rfl hi hd (kk.2 n0 s0 p e R s m args below meth c X hn hs H locs ls hh hS hL)⟩
theorem z_lald {q : Option Nat} {i : Int32} {x : Int64} (e : z_aJ h q i = some x) (hd : decode M.2.1 pc = .ok (.laload, 1)) (kk : z_Run G l d M (pc + 1) L (.long x :: S) h hF r) : z_Run G l d M pc L (.int i :: z_r q :: S) h hF r := by
  obtain ⟨⟨n, f⟩, e1, e2⟩ := Option.bind_eq_some_iff.mp e
  obtain ⟨a, rfl, ha, he⟩ := z_arJ_spec e1
  split at e2
  · cases e2
  · rename_i hi
    cases e2
    exact ⟨kk.1, fun n0 s0 p e R s m args below meth c X hn hs H locs ls hh hS hL => va_lald X.1 X.2.1 (z_K0 X) hh a 1 (cA := z_ca G .long) (n := n) (f := f) (by rw [z_W_get ha, he]; rfl) rfl hi hd (kk.2 n0 s0 p e R s m args below meth c X hn hs H locs ls hh hS hL)⟩
theorem z_iast {q : Option Nat} {i x : Int32} {h1 : z_H} (e : z_sI h q i x = some h1) (hd : decode M.2.1 pc = .ok (.iastore, 1)) (kk : z_Run G l d M (pc + 1) L S h1 hF r) : z_Run G l d M pc L (.int x :: .int i :: z_r q :: S) h hF r := by
  cases q with
  | none => cases e
  | some a =>
    obtain ⟨⟨n, f⟩, e1, e2⟩ := Option.bind_eq_some_iff.mp e
    obtain ⟨a', ea, ha, he⟩ := z_ar_spec e1
    cases ea
    split at e2
    · cases e2
    · rename_i hi
      cases e2
      exact ⟨kk.1, fun n0 s0 p e R s m args below meth c X hn hs H locs ls hh hS hL => va_iast X.1 X.2.1 (z_K0 X) hh (z_W_D G h) hS a 0 (cA := z_ca G .int) (n := n) (f := f) (by rw [z_W_get ha, he]; rfl) rfl hi hd (fun H1 locs1 hP1 _ hS1 => kk.2 n0 s0 p e R s m args below meth c X hn hs H1 locs1 ls (z_hp.set ha hP1) hS1 hL)⟩
theorem z_zast {q : Option Nat} {i x : Int32} {h1 : z_H} (e : z_sZ h q i x = some h1) (hd : decode M.2.1 pc = .ok (.bastore, 1)) (kk : z_Run G l d M (pc + 1) L S h1 hF r) : z_Run G l d M pc L (.int x :: .int i :: z_r q :: S) h hF r := by
  cases q with
  | none => cases e
  | some a =>
    obtain ⟨⟨n, f⟩, e1, e2⟩ := Option.bind_eq_some_iff.mp e
    obtain ⟨a', ea, ha, he⟩ := z_ar_spec e1
    cases ea
    split at e2
    · cases e2
    · rename_i hi
      cases e2
      exact ⟨kk.1, fun n0 s0 p e R s m args below meth c X hn hs H locs ls hh hS hL => va_zast X.1 X.2.1 (z_K0 X) hh (z_W_D G h) hS a 2 (cA := z_ca G .boolean) (n := n) (f := f) (by rw [z_W_get ha, he]; rfl) rfl hi hd (fun H1 locs1 hP1 _ hS1 => kk.2 n0 s0 p e R s m args below meth c X hn hs H1 locs1 ls (z_hp.set ha hP1) hS1 hL)⟩
theorem z_last {q : Option Nat} {i : Int32} {x : Int64} {h1 : z_H} (e : z_sJ h q i x = some h1) (hd : decode M.2.1 pc = .ok (.lastore, 1)) (kk : z_Run G l d M (pc + 1) L S h1 hF r) : z_Run G l d M pc L (.long x :: .int i :: z_r q :: S) h hF r := by
  cases q with
  | none => cases e
  | some a =>
    obtain ⟨⟨n, f⟩, e1, e2⟩ := Option.bind_eq_some_iff.mp e
    obtain ⟨a', ea, ha, he⟩ := z_arJ_spec e1
    cases ea
    split at e2
    · cases e2
    · rename_i hi
      cases e2
      exact ⟨kk.1, fun n0 s0 p e R s m args below meth c X hn hs H locs ls hh hS hL => va_last X.1 X.2.1 (z_K0 X) hh (z_W_D G h) hS a 1 (cA := z_ca G .long) (n := n) (f := f) (by rw [z_W_get ha, he]; rfl) rfl hi hd (fun H1 locs1 hP1 _ hS1 => kk.2 n0 s0 p e R s m args below meth c X hn hs H1 locs1 ls (z_hp.set ha hP1) hS1 hL)⟩
theorem z_rf (G : z_G) (x : Option Nat) : va_rf (x.map (fun k => z_B G + k)) = z_t G (z_r x) := by cases x <;> rfl
theorem z_aald {C : String} {q x : Option Nat} {i : Int32} (t0 : Nat) (hC : z_tyl[t0]? = some (.object C)) (e : z_aQ C h q i = some x) (hd : decode M.2.1 pc = .ok (.aaload, 1)) (kk : z_Run G l d M (pc + 1) L (z_r x :: S) h hF r) : z_Run G l d M pc L (.int i :: z_r q :: S) h hF r := by
  obtain ⟨⟨n, f⟩, e1, e2⟩ := Option.bind_eq_some_iff.mp e
  obtain ⟨a, rfl, ha, he⟩ := z_arQ_spec e1
  split at e2
  · cases e2
  · rename_i hi
    cases e2
    refine ⟨kk.1, fun n0 s0 p e R s m args below meth c X hn hs H locs ls hh hS hL => va_aldq X.1 X.2.1 (z_K0 X) hh a t0 (cA := z_ca G (.object C)) (C := C) (n := n) (f := fun j => (f j).map (fun k => z_B G + k)) (by rw [z_W_get ha, he]; rfl) (by rw [z_tys, List.getElem?_map, hC]; rfl) hi hd ?_⟩
    show W p l e R s m args below meth c H locs _ _ _ (F0 m (pc + 1) ls (va_rf ((f i.toNatClampNeg).map (fun k => z_B G + k)) :: S.map (z_t G)))
    rw [z_rf]
    exact kk.2 n0 s0 p e R s m args below meth c X hn hs H locs ls hh hS hL
theorem z_upq (G : z_G) (f : Nat → Option Nat) (i : Nat) (x : Option Nat) : va_up (fun j => (f j).map (fun k => z_B G + k)) i (x.map (fun k => z_B G + k)) = fun j => (va_up f i x j).map (fun k => z_B G + k) := by
  funext j
  by_cases e : j = i <;> simp [va_up, e]
theorem z_aast {C : String} {ci : Nat} {T : u_T} {N : Nat} {q x : Option Nat} {i : Int32} {h1 : z_H} (t0 : Nat) (hC : z_tyl[t0]? = some (.object C)) (hci : vwCl[ci]? = some (C, T, N)) (e : z_sQ C ci h q i x = some h1) (hd : decode M.2.1 pc = .ok (.aastore, 1)) (kk : z_Run G l d M (pc + 1) L S h1 hF r) : z_Run G l d M pc L (z_r x :: .int i :: z_r q :: S) h hF r := by
  cases q with
  | none => cases e
  | some a =>
    obtain ⟨⟨n, f⟩, e1, e2⟩ := Option.bind_eq_some_iff.mp e
    obtain ⟨a', ea, ha, he⟩ := z_arQ_spec e1
    cases ea
    split at e2
    · cases e2
    · rename_i hi
      split at e2
      · rename_i hx
        cases e2
        have hte : ∀ y : Option Nat, z_te G (.inl (.object C, n, .inr (.inr (.inr (.inr (va_up f i.toNatClampNeg y)))))) = .inl (z_ca G (.object C), n, .inr (.inr (.inr (.inr (va_up (fun j => (f j).map (fun k => z_B G + k)) i.toNatClampNeg (y.map (fun k => z_B G + k))))))) := fun y => by
          rw [z_upq]; rfl
        refine ⟨kk.1, fun n0 s0 p en R s m args below meth c X hn hs H locs ls hh hS hL => ?_⟩
        cases x with
        | none =>
          exact va_astqN X.1 X.2.1 (z_K0 X) hh (z_W_D G h) hS a t0 (cA := z_ca G (.object C)) (n := n) (f := fun j => (f j).map (fun k => z_B G + k)) (by rw [z_W_get ha, he]; rfl) (by rw [z_tys, List.getElem?_map, hC]; rfl) hi hd (fun H1 locs1 hP1 _ hS1 => kk.2 n0 s0 p en R s m args below meth c X hn hs H1 locs1 ls (z_hp.set ha (by rw [hte none]; exact hP1)) hS1 hL)
        | some b =>
          have hx2 : (z_ob ci h (some b)).isSome := by
            rcases hx with hx | hx
            · cases hx
            · exact hx
          obtain ⟨fs, hfs⟩ := Option.isSome_iff_exists.mp hx2
          obtain ⟨b', eb, hb, heb⟩ := z_ob_spec hfs
          cases eb
          exact va_astq X.1 X.2.1 (z_K0 X) hh (z_W_D G h) hS a t0 b ci (cA := z_ca G (.object C)) (r := (C, T, N)) (n := n) (f := fun j => (f j).map (fun k => z_B G + k)) (vs := fs.map (z_t G)) (by rw [z_W_get ha, he]; rfl) (by rw [z_tys, List.getElem?_map, hC]; rfl) (by rw [z_W_get hb, heb]; rfl) hci hi hd (fun H1 locs1 hP1 _ hS1 => kk.2 n0 s0 p en R s m args below meth c X hn hs H1 locs1 ls (z_hp.set ha (by rw [hte (some b)]; exact hP1)) hS1 hL)
      · cases e2
theorem z_alenI {q : Option Nat} {x : Int32} (e : z_lI h q = some x) (hd : decode M.2.1 pc = .ok (.arraylength, 1)) (kk : z_Run G l d M (pc + 1) L (.int x :: S) h hF r) : z_Run G l d M pc L (z_r q :: S) h hF r := by
  obtain ⟨⟨n, f⟩, e1, e2⟩ := Option.bind_eq_some_iff.mp e
  obtain ⟨a, rfl, ha, he⟩ := z_ar_spec e1
  cases e2
  exact ⟨kk.1, fun n0 s0 p e R s m args below meth c X hn hs H locs ls hh hS hL => va_alen X.1 X.2.1 (z_K0 X) hh a 0 (cA := z_ca G .int) (x := (n, .inl f)) (by rw [z_W_get ha, he]; rfl) (ty := .int) rfl rfl hd (kk.2 n0 s0 p e R s m args below meth c X hn hs H locs ls hh hS hL)⟩
theorem z_alenJ {q : Option Nat} {x : Int32} (e : z_lJ h q = some x) (hd : decode M.2.1 pc = .ok (.arraylength, 1)) (kk : z_Run G l d M (pc + 1) L (.int x :: S) h hF r) : z_Run G l d M pc L (z_r q :: S) h hF r := by
  obtain ⟨⟨n, f⟩, e1, e2⟩ := Option.bind_eq_some_iff.mp e
  obtain ⟨a, rfl, ha, he⟩ := z_arJ_spec e1
  cases e2
  exact ⟨kk.1, fun n0 s0 p e R s m args below meth c X hn hs H locs ls hh hS hL => va_alen X.1 X.2.1 (z_K0 X) hh a 1 (cA := z_ca G .long) (x := (n, .inr (.inl f))) (by rw [z_W_get ha, he]; rfl) (ty := .long) rfl rfl hd (kk.2 n0 s0 p e R s m args below meth c X hn hs H locs ls hh hS hL)⟩
/-- rows outside -/
def z_xI (p : Nat × (Nat → Int32)) (i : Int32) : Option Int32 := if i < 0 ∨ p.1 ≤ i.toNatClampNeg then none else some (p.2 i.toNatClampNeg)
theorem z_xald {k : Nat} {p0 : Nat × (Nat → Int32)} {i x : Int32} (hk : z_xa G k = some p0) (e : z_xI p0 i = some x) (hd : decode M.2.1 pc = .ok (.iaload, 1)) (kk : z_Run G l d M (pc + 1) L (.int x :: S) h hF r) : z_Run G l d M pc L (.int i :: .retAddr k :: S) h hF r := by
  unfold z_xI at e
  split at e
  · cases e
  · rename_i hi
    cases e
    refine ⟨kk.1, fun n0 s0 p e R s m args below meth c X hn hs H locs ls hh hS hL => ?_⟩
    obtain ⟨cell, c1, c2, c3, c4, c5, c6, c7⟩ := (X.2.2.2.2.2.2.2.2.1.2.1 k p0 hk).kept hS.2.1
    have hj : i.toNatClampNeg < p0.1 := Nat.not_le.mp (fun q => hi (Or.inr q))
    exact W.iald X.1 X.2.1 c1 c2 c3 (fun q => hi (q.elim Or.inl (fun q => Or.inr (Nat.le_trans c4 q)))) (c6 _ hj) rfl rfl hd (kk.2 n0 s0 p e R s m args below meth c X hn hs H locs ls hh hS hL)
theorem z_xlen {k : Nat} {p0 : Nat × (Nat → Int32)} (hk : z_xa G k = some p0) (hd : decode M.2.1 pc = .ok (.arraylength, 1)) (kk : z_Run G l d M (pc + 1) L (.int (Int32.ofNat p0.1) :: S) h hF r) : z_Run G l d M pc L (.retAddr k :: S) h hF r := by
  refine ⟨kk.1, fun n0 s0 p e R s m args below meth c X hn hs H locs ls hh hS hL => ?_⟩
  obtain ⟨cell, c1, c2, c3, c4, c5, c6, c7⟩ := (X.2.2.2.2.2.2.2.2.1.2.1 k p0 hk).kept hS.2.1
  exact W.alen X.1 X.2.1 c1 c2 c5 rfl rfl hd (kk.2 n0 s0 p e R s m args below meth c X hn hs H locs ls hh hS hL)
theorem z_gets {index : Nat} {q : Nat × String × Nat} (hq : q ∈ z_txl) (hw : Cond.fieldLink M.1.cls index "SoleReader" q.2.1 "[I" ∈ lw_tbl) (hd : decode M.2.1 pc = .ok (.getstatic index, 3)) (kk : z_Run G l d M (pc + 3) L (.retAddr q.1 :: S) h hF r) : z_Run G l d M pc L S h hF r :=
  ⟨kk.1, fun n0 s0 p e R s m args below meth c X hn hs H locs ls hh hS hL => va_gets X.1 X.2.1 (X.2.2.2.2.2.2.2.2.1.2.2.1 q hq) hS X.2.2.2.2.1 (X.2.2.2.2.2.1 _ hw rfl) (fun _ q => q) hd (kk.2 n0 s0 p e R s m args below meth c X hn hs H locs ls hh hS hL)⟩
theorem z_szW {p : Program} {l : Launch} {e : Env} {R : Room} {s : State} {m : MethodId} {args : Array Value} {below : List Frame} {meth : Method} {c : Code} {H : Heap} {locs : List Loc} {cells slots : Nat} {Q : State → Prop} {g : JFrame} (k : H.size ≤ s.heap.size + cells → W p l e R s m args below meth c H locs cells slots Q g) : W p l e R s m args below meth c H locs cells slots Q g := fun T hT X => k (by rw [← hT]; exact X.heapSize) T hT X
theorem z_szL {n0 s0 : Nat} {p : Program} {R : Room} {s : State} {m : MethodId} {args : Array Value} {meth : Method} {c : Code} {H : Heap} {locs : List Loc} (X : z_ctx G d M n0 s0 hF p R s m args meth c) (hh : z_hp G h H) (hS : va_S (z_A G) s.heap H locs) : z_B G + h.1 ≤ H.size := by
  have h1 := X.2.2.2.2.2.2.2.2.2.1
  have h2 := hS.1
  rcases Nat.eq_zero_or_pos h.1 with h0 | h0
  · omega
  · have := hh.lt (k := h.1 - 1) (by omega)
    omega
/-- the address of a new cell -/
theorem z_adr {G : z_G} {h : z_H} {x : va_E} {q : Nat} {H1 : Heap} (hP : va_P (z_D G) vwCl (z_W G h ++ [(q, x)]) H1) (hD : va_D (z_A G) (z_W G h ++ [(q, x)])) (hs : H1.size ≤ z_B G + h.1 + 1) : q = z_B G + h.1 := by
  have hl : (z_W G h ++ [(q, x)])[h.1]? = some (q, x) := by
    rw [List.getElem?_append_right (by rw [z_W_len]; exact Nat.le_refl _), z_W_len]; simp
  have h1 : q < H1.size := va_at.lt (hP h.1 _ hl)
  have h2 : z_B G ≤ q := hD.2 h.1 _ hl
  rcases Nat.lt_or_ge q (z_B G + h.1) with h3 | h3
  · exfalso
    have hk : q - z_B G < h.1 := by omega
    have hl2 : (z_W G h ++ [(q, x)])[q - z_B G]? = some (z_B G + (q - z_B G), z_te G (h.2.2 (q - z_B G))) := by
      rw [List.getElem?_append_left (by rw [z_W_len]; exact hk), z_W_get hk]
    have := hD.1 _ _ _ _ hl hl2 (by show q = z_B G + (q - z_B G); omega)
    omega
  · omega
end ZA
