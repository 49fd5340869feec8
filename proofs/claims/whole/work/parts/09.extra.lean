section ZX
variable {G : z_G} {l : Launch} {d : Nat} {M : z_M} {pc : Nat} {L : List (Nat × Value)} {S : List Value} {h hF : z_H} {r : Option Value}
def z_F : Nat := 1000000
theorem z_topI {x y : Int32} (e : some x = some y) (kk : z_Run G l d M pc L (.int y :: S) h hF r) : z_Run G l d M pc L (.int x :: S) h hF r := by
  cases e; exact kk
theorem z_topJ {x y : Int64} (e : some x = some y) (kk : z_Run G l d M pc L (.long y :: S) h hF r) : z_Run G l d M pc L (.long x :: S) h hF r := by
  cases e; exact kk
theorem z_ifs {α : Type} {c : Prop} {_i : Decidable c} {A : Option α} {b : α} (e : (if c then A else none) = some b) : c ∧ A = some b := by
  by_cases hc : c
  · rw [if_pos hc] at e; exact ⟨hc, e⟩
  · rw [if_neg hc] at e; cases e
theorem z_ifn {α : Type} {c : Prop} {_i : Decidable c} {A : Option α} {b : α} (e : (if c then none else A) = some b) : ¬ c ∧ A = some b := by
  by_cases hc : c
  · rw [if_pos hc] at e; cases e
  · rw [if_neg hc] at e; exact ⟨hc, e⟩
theorem z_newE {ci index N : Nat} {fs : List Value} {h5 : z_H} (e : some (z_new h N (.inr (ci, fs))) = some h5) (nk : z_nk M.1.cls index ci N fs) (hd : decode M.2.1 pc = .ok (.new index, 3)) (kk : z_Run G l d M (pc + 3) L (z_r (some h.1) :: S) h5 hF r) : z_Run G l d M pc L S h hF r := by
  cases e; exact z_newO nk hd kk
def z_nI (h : z_H) (n : Int32) : Option z_H := if n < 0 ∨ 536870912 < n.toNatClampNeg * componentBytes .int then none else some (z_new h n.toNatClampNeg (.inl (.int, n.toNatClampNeg, .inl (fun _ => 0))))
def z_nJ (h : z_H) (n : Int32) : Option z_H := if n < 0 ∨ 536870912 < n.toNatClampNeg * componentBytes .long then none else some (z_new h n.toNatClampNeg (.inl (.long, n.toNatClampNeg, .inr (.inl (fun _ => 0)))))
def z_nZ (h : z_H) (n : Int32) : Option z_H := if n < 0 ∨ 536870912 < n.toNatClampNeg * componentBytes .boolean then none else some (z_new h n.toNatClampNeg (.inl (.boolean, n.toNatClampNeg, .inl (fun _ => 0))))
def z_nQ (C : String) (h : z_H) (n : Int32) : Option z_H := if n < 0 ∨ 536870912 < n.toNatClampNeg * 4 then none else some (z_new h n.toNatClampNeg (.inl (.object C, n.toNatClampNeg, .inr (.inr (.inr (.inr (fun _ => none)))))))
theorem z_nwI {n : Int32} {h5 : z_H} (e : z_nI h n = some h5) (hw : Cond.arrayClass .int ∈ lw_tbl) (hd : decode M.2.1 pc = .ok (.newarray .int, 2)) (kk : z_Run G l d M (pc + 2) L (z_r (some h.1) :: S) h5 hF r) : z_Run G l d M pc L (.int n :: S) h hF r := by
  obtain ⟨hc, e⟩ := z_ifn e
  cases e
  exact z_newA (at0 := .int) (a0 := (n.toNatClampNeg, .inl (fun _ => 0))) 0 rfl rfl hw (fun _ => rfl) (fun _ => rfl) (fun q => hc (Or.inl q)) (Nat.not_lt.mp (fun q => hc (Or.inr q))) hd kk
theorem z_nwJ {n : Int32} {h5 : z_H} (e : z_nJ h n = some h5) (hw : Cond.arrayClass .long ∈ lw_tbl) (hd : decode M.2.1 pc = .ok (.newarray .long, 2)) (kk : z_Run G l d M (pc + 2) L (z_r (some h.1) :: S) h5 hF r) : z_Run G l d M pc L (.int n :: S) h hF r := by
  obtain ⟨hc, e⟩ := z_ifn e
  cases e
  exact z_newA (at0 := .long) (a0 := (n.toNatClampNeg, .inr (.inl (fun _ => 0)))) 1 rfl rfl hw (fun _ => rfl) (fun _ => rfl) (fun q => hc (Or.inl q)) (Nat.not_lt.mp (fun q => hc (Or.inr q))) hd kk
theorem z_nwZ {n : Int32} {h5 : z_H} (e : z_nZ h n = some h5) (hw : Cond.arrayClass .boolean ∈ lw_tbl) (hd : decode M.2.1 pc = .ok (.newarray .boolean, 2)) (kk : z_Run G l d M (pc + 2) L (z_r (some h.1) :: S) h5 hF r) : z_Run G l d M pc L (.int n :: S) h hF r := by
  obtain ⟨hc, e⟩ := z_ifn e
  cases e
  exact z_newA (at0 := .boolean) (a0 := (n.toNatClampNeg, .inl (fun _ => 0))) 2 rfl rfl hw (fun _ => rfl) (fun _ => rfl) (fun q => hc (Or.inl q)) (Nat.not_lt.mp (fun q => hc (Or.inr q))) hd kk
theorem z_nwQ {C : String} {index : Nat} {n : Int32} {h5 : z_H} (t0 : Nat) (ht : z_tyl[t0]? = some (.object C)) (hC : C = RX9 ∨ C = RX7) (e : z_nQ C h n = some h5) (hw : Cond.classLink M.1.cls index C ∈ lw_tbl) (hd : decode M.2.1 pc = .ok (.anewarray index, 3)) (kk : z_Run G l d M (pc + 3) L (z_r (some h.1) :: S) h5 hF r) : z_Run G l d M pc L (.int n :: S) h hF r := by
  obtain ⟨hc, e⟩ := z_ifn e
  cases e
  exact z_newQ t0 ht hC hw (fun q => hc (Or.inl q)) (Nat.not_lt.mp (fun q => hc (Or.inr q))) hd kk
end ZX
section ZMA
variable {G : z_G} {l : Launch} {d : Nat} {M : z_M} {pc : Nat} {L : List (Nat × Value)} {S : List Value} {h hF : z_H} {r : Option Value}
def z_mw (y : MethodName) (b : ByteArray) (n : Nat) : Prop := Cond.static y ∈ lw_tbl ∧ Cond.initialized "java/lang/Math" ∈ lw_tbl ∧ Cond.code y b n (some .int) ∈ lw_tbl
theorem z_mmin {index : Nat} {x y : Int32} (hlk : Cond.methodLink M.1.cls index Lib.Math.min.name ∈ lw_tbl) (hw : z_mw Lib.Math.min.name Lib.Math.min.code 2) (hd1 : 1 ≤ d) (hS0 : (S.map Value.category).sum ≤ 8) (hd : decode M.2.1 pc = .ok (.invokestatic index, 3)) (kk : z_Run G l d M (pc + 3) L (.int (if y < x then y else x) :: S) h hF r) : z_Run G l d M pc L (.int y :: .int x :: S) h hF r := by
  have m2 := kk.1
  refine ⟨kk.1, fun n0 s0 p e R s m args below meth c X hn hs H locs ls hh hS hL => ?_⟩
  have f1 := X.2.2.2.2.2.2.2.2.2.2.1
  have f2 := X.2.2.2.2.2.2.2.2.2.2.2.2.2
  have c1 := X.2.2.2.2.2.2.2.2.2.2.2.1
  have c2 := X.2.2.2.2.2.2.2.2.2.2.2.2.1
  exact va_mmin X.1 X.2.1 (X.2.2.2.1.trans hL.1.symm) X.2.2.2.2.1 (X.2.2.2.2.2.1 _ hlk rfl) (X.2.2.2.2.2.1 _ hw.1 rfl) (X.2.2.2.2.2.1 _ hw.2.1 rfl) (X.2.2.2.2.2.1 _ hw.2.2 rfl) (by omega) (by rw [z_cats]; omega) (by omega) (by omega) hd (kk.2 n0 s0 p e R s m args below meth c X hn hs H locs ls hh hS hL)
theorem z_mmax {index : Nat} {x y : Int32} (hlk : Cond.methodLink M.1.cls index Lib.Math.max.name ∈ lw_tbl) (hw : z_mw Lib.Math.max.name Lib.Math.max.code 2) (hd1 : 1 ≤ d) (hS0 : (S.map Value.category).sum ≤ 8) (hd : decode M.2.1 pc = .ok (.invokestatic index, 3)) (kk : z_Run G l d M (pc + 3) L (.int (if x < y then y else x) :: S) h hF r) : z_Run G l d M pc L (.int y :: .int x :: S) h hF r := by
  have m2 := kk.1
  refine ⟨kk.1, fun n0 s0 p e R s m args below meth c X hn hs H locs ls hh hS hL => ?_⟩
  have f1 := X.2.2.2.2.2.2.2.2.2.2.1
  have f2 := X.2.2.2.2.2.2.2.2.2.2.2.2.2
  have c1 := X.2.2.2.2.2.2.2.2.2.2.2.1
  have c2 := X.2.2.2.2.2.2.2.2.2.2.2.2.1
  exact va_mmax X.1 X.2.1 (X.2.2.2.1.trans hL.1.symm) X.2.2.2.2.1 (X.2.2.2.2.2.1 _ hlk rfl) (X.2.2.2.2.2.1 _ hw.1 rfl) (X.2.2.2.2.2.1 _ hw.2.1 rfl) (X.2.2.2.2.2.1 _ hw.2.2 rfl) (by omega) (by rw [z_cats]; omega) (by omega) (by omega) hd (kk.2 n0 s0 p e R s m args below meth c X hn hs H locs ls hh hS hL)
theorem z_mabs {index : Nat} {x : Int32} (hlk : Cond.methodLink M.1.cls index Lib.Math.abs.name ∈ lw_tbl) (hw : z_mw Lib.Math.abs.name Lib.Math.abs.code 1) (hd1 : 1 ≤ d) (hS0 : (S.map Value.category).sum ≤ 8) (hd : decode M.2.1 pc = .ok (.invokestatic index, 3)) (kk : z_Run G l d M (pc + 3) L (.int (if 0 ≤ x then x else 0 - x) :: S) h hF r) : z_Run G l d M pc L (.int x :: S) h hF r := by
  have m2 := kk.1
  refine ⟨kk.1, fun n0 s0 p e R s m args below meth c X hn hs H locs ls hh hS hL => ?_⟩
  have f1 := X.2.2.2.2.2.2.2.2.2.2.1
  have f2 := X.2.2.2.2.2.2.2.2.2.2.2.2.2
  have c1 := X.2.2.2.2.2.2.2.2.2.2.2.1
  have c2 := X.2.2.2.2.2.2.2.2.2.2.2.2.1
  exact va_mabs X.1 X.2.1 (X.2.2.2.1.trans hL.1.symm) X.2.2.2.2.1 (X.2.2.2.2.2.1 _ hlk rfl) (X.2.2.2.2.2.1 _ hw.1 rfl) (X.2.2.2.2.2.1 _ hw.2.1 rfl) (X.2.2.2.2.2.1 _ hw.2.2 rfl) (by omega) (by rw [z_cats]; omega) (by omega) (by omega) hd (kk.2 n0 s0 p e R s m args below meth c X hn hs H locs ls hh hS hL)
end ZMA
