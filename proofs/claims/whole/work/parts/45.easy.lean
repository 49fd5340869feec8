theorem iRs {α : Type} {n : Nat} {f : Nat → α} (hn : n ≤ 2147483648) : (0 < n → iR n f 0 = some (f 0)) ∧ (1 < n → iR n f 1 = some (f 1)) ∧ (2 < n → iR n f 2 = some (f 2)) ∧ (3 < n → iR n f 3 = some (f 3)) ∧ (4 < n → iR n f 4 = some (f 4)) ∧ (5 < n → iR n f 5 = some (f 5)) ∧ (6 < n → iR n f 6 = some (f 6)) ∧ (7 < n → iR n f 7 = some (f 7)) ∧ (8 < n → iR n f 8 = some (f 8)) ∧ (9 < n → iR n f 9 = some (f 9)) ∧ (10 < n → iR n f 10 = some (f 10)) ∧ (11 < n → iR n f 11 = some (f 11)) ∧ (12 < n → iR n f 12 = some (f 12)) ∧ (13 < n → iR n f 13 = some (f 13)) ∧ (14 < n → iR n f 14 = some (f 14)) ∧ (15 < n → iR n f 15 = some (f 15)) ∧ (16 < n → iR n f 16 = some (f 16)) ∧ (17 < n → iR n f 17 = some (f 17)) ∧ (18 < n → iR n f 18 = some (f 18)) ∧ (19 < n → iR n f 19 = some (f 19)) ∧ (20 < n → iR n f 20 = some (f 20)) ∧ (21 < n → iR n f 21 = some (f 21)) ∧ (22 < n → iR n f 22 = some (f 22)) ∧ (23 < n → iR n f 23 = some (f 23)) ∧ (24 < n → iR n f 24 = some (f 24)) ∧ (25 < n → iR n f 25 = some (f 25)) ∧ (26 < n → iR n f 26 = some (f 26)) ∧ (27 < n → iR n f 27 = some (f 27)) ∧ (28 < n → iR n f 28 = some (f 28)) ∧ (29 < n → iR n f 29 = some (f 29)) := ⟨fun h => iR_ofNat (k := 0) h hn, fun h => iR_ofNat (k := 1) h hn, fun h => iR_ofNat (k := 2) h hn, fun h => iR_ofNat (k := 3) h hn, fun h => iR_ofNat (k := 4) h hn, fun h => iR_ofNat (k := 5) h hn, fun h => iR_ofNat (k := 6) h hn, fun h => iR_ofNat (k := 7) h hn, fun h => iR_ofNat (k := 8) h hn, fun h => iR_ofNat (k := 9) h hn, fun h => iR_ofNat (k := 10) h hn, fun h => iR_ofNat (k := 11) h hn, fun h => iR_ofNat (k := 12) h hn, fun h => iR_ofNat (k := 13) h hn, fun h => iR_ofNat (k := 14) h hn, fun h => iR_ofNat (k := 15) h hn, fun h => iR_ofNat (k := 16) h hn, fun h => iR_ofNat (k := 17) h hn, fun h => iR_ofNat (k := 18) h hn, fun h => iR_ofNat (k := 19) h hn, fun h => iR_ofNat (k := 20) h hn, fun h => iR_ofNat (k := 21) h hn, fun h => iR_ofNat (k := 22) h hn, fun h => iR_ofNat (k := 23) h hn, fun h => iR_ofNat (k := 24) h hn, fun h => iR_ofNat (k := 25) h hn, fun h => iR_ofNat (k := 26) h hn, fun h => iR_ofNat (k := 27) h hn, fun h => iR_ofNat (k := 28) h hn, fun h => iR_ofNat (k := 29) h hn⟩
theorem iWs {α : Type} {n : Nat} {x : α} (hn : n ≤ 2147483648) : (0 < n → iW n 0 x = some x) ∧ (1 < n → iW n 1 x = some x) ∧ (2 < n → iW n 2 x = some x) ∧ (3 < n → iW n 3 x = some x) ∧ (4 < n → iW n 4 x = some x) ∧ (5 < n → iW n 5 x = some x) ∧ (6 < n → iW n 6 x = some x) ∧ (7 < n → iW n 7 x = some x) ∧ (8 < n → iW n 8 x = some x) ∧ (9 < n → iW n 9 x = some x) ∧ (10 < n → iW n 10 x = some x) ∧ (11 < n → iW n 11 x = some x) ∧ (12 < n → iW n 12 x = some x) ∧ (13 < n → iW n 13 x = some x) ∧ (14 < n → iW n 14 x = some x) ∧ (15 < n → iW n 15 x = some x) ∧ (16 < n → iW n 16 x = some x) ∧ (17 < n → iW n 17 x = some x) ∧ (18 < n → iW n 18 x = some x) ∧ (19 < n → iW n 19 x = some x) ∧ (20 < n → iW n 20 x = some x) ∧ (21 < n → iW n 21 x = some x) ∧ (22 < n → iW n 22 x = some x) ∧ (23 < n → iW n 23 x = some x) ∧ (24 < n → iW n 24 x = some x) ∧ (25 < n → iW n 25 x = some x) ∧ (26 < n → iW n 26 x = some x) ∧ (27 < n → iW n 27 x = some x) ∧ (28 < n → iW n 28 x = some x) ∧ (29 < n → iW n 29 x = some x) := ⟨fun h => iW_ofNat (k := 0) h hn, fun h => iW_ofNat (k := 1) h hn, fun h => iW_ofNat (k := 2) h hn, fun h => iW_ofNat (k := 3) h hn, fun h => iW_ofNat (k := 4) h hn, fun h => iW_ofNat (k := 5) h hn, fun h => iW_ofNat (k := 6) h hn, fun h => iW_ofNat (k := 7) h hn, fun h => iW_ofNat (k := 8) h hn, fun h => iW_ofNat (k := 9) h hn, fun h => iW_ofNat (k := 10) h hn, fun h => iW_ofNat (k := 11) h hn, fun h => iW_ofNat (k := 12) h hn, fun h => iW_ofNat (k := 13) h hn, fun h => iW_ofNat (k := 14) h hn, fun h => iW_ofNat (k := 15) h hn, fun h => iW_ofNat (k := 16) h hn, fun h => iW_ofNat (k := 17) h hn, fun h => iW_ofNat (k := 18) h hn, fun h => iW_ofNat (k := 19) h hn, fun h => iW_ofNat (k := 20) h hn, fun h => iW_ofNat (k := 21) h hn, fun h => iW_ofNat (k := 22) h hn, fun h => iW_ofNat (k := 23) h hn, fun h => iW_ofNat (k := 24) h hn, fun h => iW_ofNat (k := 25) h hn, fun h => iW_ofNat (k := 26) h hn, fun h => iW_ofNat (k := 27) h hn, fun h => iW_ofNat (k := 28) h hn, fun h => iW_ofNat (k := 29) h hn⟩
theorem tns : ((0:Int32).toNatClampNeg = 0) ∧ ((1:Int32).toNatClampNeg = 1) ∧ ((2:Int32).toNatClampNeg = 2) ∧ ((3:Int32).toNatClampNeg = 3) ∧ ((4:Int32).toNatClampNeg = 4) ∧ ((5:Int32).toNatClampNeg = 5) ∧ ((6:Int32).toNatClampNeg = 6) ∧ ((7:Int32).toNatClampNeg = 7) ∧ ((8:Int32).toNatClampNeg = 8) ∧ ((9:Int32).toNatClampNeg = 9) ∧ ((10:Int32).toNatClampNeg = 10) ∧ ((11:Int32).toNatClampNeg = 11) ∧ ((12:Int32).toNatClampNeg = 12) ∧ ((13:Int32).toNatClampNeg = 13) ∧ ((14:Int32).toNatClampNeg = 14) ∧ ((15:Int32).toNatClampNeg = 15) ∧ ((16:Int32).toNatClampNeg = 16) ∧ ((17:Int32).toNatClampNeg = 17) ∧ ((18:Int32).toNatClampNeg = 18) ∧ ((19:Int32).toNatClampNeg = 19) ∧ ((20:Int32).toNatClampNeg = 20) ∧ ((21:Int32).toNatClampNeg = 21) ∧ ((22:Int32).toNatClampNeg = 22) ∧ ((23:Int32).toNatClampNeg = 23) ∧ ((24:Int32).toNatClampNeg = 24) ∧ ((25:Int32).toNatClampNeg = 25) ∧ ((26:Int32).toNatClampNeg = 26) ∧ ((27:Int32).toNatClampNeg = 27) ∧ ((28:Int32).toNatClampNeg = 28) ∧ ((29:Int32).toNatClampNeg = 29) := by decide
theorem ob81 {h : z_H} (hs : Sh h) : (z_ob 11 h (some 81)).isSome = true := by simp [rdO_m hs]
/-- the reference's first act: thrown = 0 -/
abbrev t0 (h : z_H) : z_H := wF h 81 0 (.int 0)
theorem Sh_t0 {h : z_H} (hs : Sh h) : Sh (t0 h) := Sh_wF hs rfl 0
theorem Same_t0 {h : z_H} (hs : Sh h) : Same h (t0 h) := Same_wF hs rfl rfl rfl 0
theorem a_walls {j : Nat} {h : z_H} (H : Inv j h) : Agree Inv j h (fun h => D_X10_walls h (some 0)) (fun h => D_X11_walls h (some 81)) := by
  have hs := H.1
  have hs' := Sh_t0 hs
  refine ⟨fI h 1 9, h, t0 h, ?_, ob81 hs, ?_, Inv_same H (Same_t0 hs)⟩
  · simp only [D_X10_walls, rdQ_c hs, rdF_c hs, Option.bind_some]
  · have e : aI h 83 4 = fI h 1 9 := H.2.2.1.2.1.2.1
    simp only [D_X11_walls, wrF_m hs, Option.bind_some, rdQ_m hs', rdA_m hs', aI_wF, iRs, e, Nat.reduceLT, Nat.reduceLeDiff]
theorem a_brads {j : Nat} {h : z_H} (H : Inv j h) : Agree Inv j h (fun h => D_X10_brads h (some 0)) (fun h => D_X11_brads h (some 81)) := by
  have hs := H.1
  have hs' := Sh_t0 hs
  refine ⟨fI h 0 14, h, t0 h, ?_, ob81 hs, ?_, Inv_same H (Same_t0 hs)⟩
  · simp only [D_X10_brads, rdF_c hs, Option.bind_some]
  · have e : fI h 0 14 = fI h 81 11 := H.2.2.2.2.1.2.1
    simp [D_X11_brads, wrF_m hs, rdF_m hs', fI_wF_ne, e]
theorem a_fault {j : Nat} {h : z_H} (H : Inv j h) : Agree Inv j h (fun h => D_X10_fault h (some 0)) (fun h => D_X11_fault h (some 81)) := by
  have hs := H.1
  have hs' := Sh_t0 hs
  refine ⟨fI h 23 3, h, t0 h, ?_, ob81 hs, ?_, Inv_same H (Same_t0 hs)⟩
  · simp only [D_X10_fault, rdQ_c hs, rdF_c hs, Option.bind_some]
  · have e : fI h 23 3 = fI h 81 18 := H.2.2.2.2.1.2.2.2.2.2.2.1
    simp [D_X11_fault, wrF_m hs, rdF_m hs', fI_wF_ne, e]
theorem a_stopped {j : Nat} {h : z_H} (H : Inv j h) : Agree Inv j h (fun h => D_X10_stopped h (some 0)) (fun h => D_X11_stopped h (some 81)) := by
  have hs := H.1
  have hs' := Sh_t0 hs
  refine ⟨fI h 34 6, h, t0 h, ?_, ob81 hs, ?_, Inv_same H (Same_t0 hs)⟩
  · simp only [D_X10_stopped, rdQ_c hs, rdF_c hs, Option.bind_some]
  · have e : fI h 34 6 = fI h 81 54 := H.2.2.2.2.1.2.2.2.2.2.2.2.1
    simp [D_X11_stopped, wrF_m hs, rdF_m hs', fI_wF_ne, e]
theorem a_status {j : Nat} {h : z_H} (H : Inv j h) : Agree Inv j h (fun h => D_X10_status h (some 0)) (fun h => D_X11_status h (some 81)) := by
  have hs := H.1
  have hs' := Sh_t0 hs
  refine ⟨fI h 0 13, h, t0 h, ?_, ob81 hs, ?_, Inv_same H (Same_t0 hs)⟩
  · simp only [D_X10_status, rdF_c hs, Option.bind_some]
  · have e : fI h 0 13 = fI h 81 1 := H.2.2.2.2.1.1
    simp [D_X11_status, wrF_m hs, rdF_m hs', fI_wF_ne, e]
