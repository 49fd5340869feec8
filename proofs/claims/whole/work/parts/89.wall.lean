/-! a call that changes the yard: the class touches its cells, then the reference its own -/
def cmC (S : List Nat) : Bool := S.all (fun a => decide (a < 81) && !([10, 11, 12, 13, 14, 16, 23, 24, 34, 62] : List Nat).contains a && decide (a < 63))
def cmM (S ks : List Nat) : Bool := S.all (fun a => decide (81 ≤ a) && decide (a < 114) && !([82, 84, 85, 90, 96, 97, 98, 111, 113] : List Nat).contains a) && ks.all (fun k => !([11, 13, 18, 20, 54, 58] : List Nat).contains k)
section CM
variable {SC SM ks : List Nat} {j : Nat} {h h1 h2 : z_H}
theorem cmC_spec (e : cmC SC = true) {a : Nat} (ha : a ∈ SC) : a < 63 ∧ a ∉ [10, 11, 12, 13, 14, 16, 23, 24, 34, 62] := by
  have := List.all_eq_true.mp e a ha
  simp only [Bool.and_eq_true, decide_eq_true_eq, Bool.not_eq_true', List.contains_eq_mem, decide_eq_false_iff_not] at this
  exact ⟨this.2, this.1.2⟩
theorem cmM_spec (e : cmM SM ks = true) : (∀ a ∈ SM, 81 ≤ a ∧ a < 114 ∧ a ∉ [82, 84, 85, 90, 96, 97, 98, 111, 113]) ∧ ∀ k ∈ ks, k ∉ [11, 13, 18, 20, 54, 58] := by
  have e' := Bool.and_eq_true_iff.mp e
  refine ⟨fun a ha => ?_, fun k hk => ?_⟩
  · have := List.all_eq_true.mp e'.1 a ha
    simp only [Bool.and_eq_true, decide_eq_true_eq, Bool.not_eq_true', List.contains_eq_mem, decide_eq_false_iff_not] at this
    exact ⟨this.1.1, this.1.2, this.2⟩
  · have := List.all_eq_true.mp e'.2 k hk
    simp only [Bool.not_eq_true', List.contains_eq_mem, decide_eq_false_iff_not] at this
    exact this
theorem Inv_cm (H : Inv j h) (Tc : Tch SC h h1) (O : OnM SM ks h1 h2) (ec : cmC SC = true) (em : cmM SM ks = true) (f14 : fI h1 0 14 = fI h 0 14) (st : fI h1 0 13 = fI h2 81 1) (Y : Yrel h1 1 (aI h2 83)) (U : Ulog h2) : Inv (j + 1) h2 := by
  have C := @cmC_spec SC ec
  obtain ⟨M1, M2⟩ := cmM_spec em
  have ha : ∀ a, a ∉ SC → h1.2.2 a = h.2.2 a := fun a q => Tc.c q
  have hb : ∀ a, a ∉ SM → h2.2.2 a = h1.2.2 a := fun a q => O.2.1.c q
  have nC : ∀ a, a ∈ [10, 11, 12, 13, 14, 16, 23, 24, 34, 62] ∨ 63 ≤ a → a ∉ SC := fun a q z => by
    have := C z
    rcases q with q | q
    · exact this.2 q
    · omega
  have nM : ∀ a, a ∈ [82, 84, 85, 90, 96, 97, 98, 111, 113] ∨ a < 81 ∨ 114 ≤ a → a ∉ SM := fun a q z => by
    have := M1 a z
    rcases q with q | q | q
    · exact this.2.2 q
    · omega
    · omega
  have all : ∀ a, a ∈ [10, 11, 12, 13, 14, 16, 24, 62, 82, 84, 85, 90, 96, 97, 98, 111, 113] ∨ (63 ≤ a ∧ a < 81) ∨ 114 ≤ a → h2.2.2 a = h.2.2 a := fun a q => by
    have hl : a ∉ SC ∧ a ∉ SM := by
      rcases q with q | q | q
      · simp only [List.mem_cons, List.not_mem_nil, or_false] at q
        constructor
        · apply nC
          simp only [List.mem_cons, List.not_mem_nil, or_false]
          omega
        · apply nM
          simp only [List.mem_cons, List.not_mem_nil, or_false]
          omega
      · exact ⟨nC a (by omega), nM a (by omega)⟩
      · exact ⟨nC a (by omega), nM a (by omega)⟩
    rw [hb a hl.2, ha a hl.1]
  have f81 : ∀ k, k ∈ [11, 13, 18, 20, 54, 58] → fI h2 81 k = fI h 81 k := fun k hk => by
    rw [(O.2.2 k (fun z => M2 k z hk)).1, cell_fI (ha 81 (nC 81 (by omega)))]
  have fc : ∀ a k, a = 23 ∨ a = 34 → fI h2 a k = fI h a k := fun a k q => by
    have h1 : a ∉ SC := nC a (Or.inl (by rcases q with rfl | rfl <;> decide))
    have h2 : a ∉ SM := nM a (by omega)
    rw [cell_fI (hb a h2), cell_fI (ha a h1)]
  have f0 : ∀ k, fI h2 0 k = fI h1 0 k := fun k => cell_fI (hb 0 (nM 0 (by omega))) k
  obtain ⟨i1, ⟨i2, i3⟩, i4, i5, i6, i7, i8, i9⟩ := H
  obtain ⟨t1, t2, t3, t4, t5, t6, t7, t8, t9⟩ := i6
  refine ⟨O.1, ⟨by rw [O.2.1.1, Tc.1]; omega, by rw [O.2.1.2.1, Tc.2.1]; omega⟩, ?_, U, ?_, ?_, ?_, ?_⟩
  · refine Y.kept (fun q hq => hb _ (nM _ (by omega))) (Nat.le_of_eq O.2.1.1.symm) (fun a ha _ => hb a (nM a (by omega)))
  · refine ⟨by rw [f0]; exact st, by rw [f0, f14, f81 11 (by decide)]; exact t2, fun i hi => ?_, by rw [fc 23 2 (by decide), f81 13 (by decide)]; exact t4, by rw [fc 23 2 (by decide)]; exact t5, ?_, by rw [fc 23 3 (by decide), f81 18 (by decide)]; exact t7, by rw [fc 34 6 (by decide), f81 54 (by decide)]; exact t8, by rw [f81 20 (by decide)]; exact t9⟩
    · rw [cell_aI (all 62 (by decide)), cell_aI (all 82 (by decide))]; exact t3 i hi
    · rw [cell_aI (all 24 (by decide)), cell_aI (all 90 (by decide))]; exact t6
  · obtain ⟨m1, m2, m3⟩ := i7
    unfold Imgs
    rw [cell_aQ (all 10 (by decide)), cell_aI (all 11 (by decide)), cell_aI (all 85 (by decide)), cell_aI (all 84 (by decide))]
    refine ⟨m1, m2, fun k hk => ⟨(m3 k hk).1, ?_⟩⟩
    rcases (m3 k hk).2 with q | ⟨q1, q2⟩
    · exact Or.inl q
    · exact Or.inr ⟨q1, q2.kept (fun q hq => all _ (by omega)) (by rw [O.2.1.1, Tc.1]; exact Nat.le_refl _) (fun a ha _ => all a (by omega))⟩
  · unfold Drwn at i8 ⊢
    simp only [f81 58 (by decide), cell_fI (all 12 (by decide)), cell_aI (all 13 (by decide)), cell_aI (all 14 (by decide)), cell_aI (all 16 (by decide)), cell_aI (all 113 (by decide))]
    exact i8
  · unfold Cnst at i9 ⊢
    simp only [cell_aJ (all 96 (by decide)), cell_aJ (all 97 (by decide)), cell_aJ (all 98 (by decide)), cell_aJ (all 111 (by decide))]
    exact i9
/-- the log stands where it was: pairs, rows and snapshot are the same -/
theorem wF_on {g : z_H} (hs : Sh g) {k : Nat} (e : isF 81 k = true) (v : Int32) : OnM [81] [k] g (wF g 81 k (.int v)) := ⟨Sh_wF hs e v, Tch_wF (Tch_rfl _ g) (by decide) _ _, fun q hq => by
  have : q ≠ k := fun z => hq (by rw [z]; simp)
  rw [fI_wF_ne (by omega), fJ_wF_ne (by omega)]
  exact ⟨rfl, rfl⟩⟩
theorem a_wall (H : Inv j h) (x y : Int32) : Agree Inv j h (fun h => D_X10_wall h (some 0) x y) (fun h => D_X11_wall h (some 81) x y) := by
  have hs := H.1
  have no : ∀ {x y : Int32}, (¬ (0 ≤ x.toInt ∧ x.toInt < (25 : Nat)) ∨ ∃ c, c < 25 ∧ x = Int32.ofNat c ∧ ¬ (0 ≤ y.toInt ∧ y.toInt < (2 : Nat))) → Agree Inv j h (fun h => D_X10_wall h (some 0) x y) (fun h => D_X11_wall h (some 81) x y) := fun {x y} q => by
    have sr := Sh_rfC hs 1
    have st := Sh_t0 sr
    have r1 := (rfs hs).1
    have r2 := (tls st).1
    have w1 : D_X10_wall_16 h (some 0) = some (-1, rfC h 1) := by
      unfold D_X10_wall_16
      rw [s_ob hs (ci := 10) rfl, Option.bind_some, r1, Option.bind_some]
    have w2 : D_X11_wall_22 (t0 (rfC h 1)) (some 81) = some (-1, rfM (t0 (rfC h 1)) 1) := by
      unfold D_X11_wall_22
      rw [s_ob st (ci := 11) rfl, Option.bind_some, r2, Option.bind_some]
    refine agree_no H (k := 1) (by decide) ?_ ?_
    · show D_X10_wall h (some 0) x y = _
      unfold D_X10_wall
      rcases q with q | ⟨c, hc, rfl, q⟩
      · rw [cellC0 q, Option.bind_some]
        dsimp only
        rw [if_pos rfl, w1]
        rfl
      · rw [cellC1 hc, Option.bind_some]
        dsimp only
        rw [if_neg one_ne]
        by_cases c1 : y < 0
        · rw [if_pos c1, w1]; rfl
        · rw [if_neg c1]
          rw [lt0] at c1
          rw [if_neg (by rw [Int32.le_iff_toInt_le]; show ¬ y.toInt ≤ 1; omega), w1]
          rfl
    · show D_X11_wall (rfC h 1) (some 81) x y = _
      unfold D_X11_wall
      rw [p81 sr, Option.bind_some]
      rcases q with q | ⟨c, hc, rfl, q⟩
      · rw [cellM0 q, Option.bind_some]
        dsimp only
        rw [if_pos rfl, w2]
        rfl
      · rw [cellM1 hc, Option.bind_some]
        dsimp only
        rw [if_neg one_ne, din0 (C := 1) (N := 1) rfl q, Option.bind_some]
        dsimp only
        rw [if_pos rfl, w2]
        rfl
  rcases xc x 25 (by decide) with ⟨c, hc, rfl⟩ | nx
  · rcases xc y 2 (by decide) with ⟨s, hs2, rfl⟩ | ny
    · have W4 : aI h 83 4 = fI h 1 9 := H.Y.2.1.2.1
      have wn := H.Y.1.2.1
      have s1 : Sh (wF h 1 9 (.int ((fI h 1 9 &&& (((1 : Int32) <<< (Int32.ofNat c &&& 31)) ^^^ (-1))) ||| (Int32.ofNat s <<< (Int32.ofNat c &&& 31))))) := Sh_wF hs rfl _
      have s2 := Sh_wF s1 (a := 0) (k := 13) rfl 0
      have eA : D_X10_wall h (some 0) (Int32.ofNat c) (Int32.ofNat s) = some ((fI h 1 9 >>> (Int32.ofNat c &&& 31)) &&& 1, wF (wF h 1 9 (.int ((fI h 1 9 &&& (((1 : Int32) <<< (Int32.ofNat c &&& 31)) ^^^ (-1))) ||| (Int32.ofNat s <<< (Int32.ofNat c &&& 31))))) 0 13 (.int 0)) := by
        unfold D_X10_wall
        rw [cellC1 hc, Option.bind_some]
        dsimp only
        rw [if_neg one_ne, if_neg (not_neg (by omega)), if_pos (show Int32.ofNat s ≤ 1 from (nat_le (b := 1) (by omega) (by decide)).mpr (by omega)), s_gQ (r := 1) hs rfl rfl, Option.bind_some, s_gI hs (ci := 9) rfl rfl, Option.bind_some, Option.bind_some, Option.bind_some, Option.bind_some, s_gI hs (ci := 9) rfl rfl, Option.bind_some, s_pV hs (ci := 9) rfl (by decide), Option.bind_some, s_ob s1 (ci := 10) rfl, Option.bind_some, d_grant s1, Option.bind_some]
      have r0 : (0 : Int32) ≤ (fI h 1 9 >>> (Int32.ofNat c &&& 31)) &&& 1 := by
        rw [bit_of _ (by omega)]
        cases bt (fI h 1 9) c <;> decide
      have n9 := wall_nb wn hc hs2
      have wb := wall_bits (fI h 1 9) hc hs2
      have f9 : fI (wF h 1 9 (.int ((fI h 1 9 &&& (((1 : Int32) <<< (Int32.ofNat c &&& 31)) ^^^ (-1))) ||| (Int32.ofNat s <<< (Int32.ofNat c &&& 31))))) 1 9 = _ := fI_wF_eq hs rfl _
      have fo : ∀ k, k ≠ 9 → fI (wF h 1 9 (.int ((fI h 1 9 &&& (((1 : Int32) <<< (Int32.ofNat c &&& 31)) ^^^ (-1))) ||| (Int32.ofNat s <<< (Int32.ofNat c &&& 31))))) 1 k = fI h 1 k := fun k hk => fI_wF_ne (by omega)
      generalize (fI h 1 9 &&& (((1 : Int32) <<< (Int32.ofNat c &&& 31)) ^^^ (-1))) ||| (Int32.ofNat s <<< (Int32.ofNat c &&& 31)) = W' at *
      have Tc : Tch [0, 1] h (wF (wF h 1 9 (.int W')) 0 13 (.int 0)) := Tch_wF (Tch_wF (Tch_rfl _ h) (by decide) _ _) (by decide) _ _
      have f13 : fI (wF (wF h 1 9 (.int W')) 0 13 (.int 0)) 0 13 = 0 := fI_wF_eq s1 rfl _
      have f14 : fI (wF (wF h 1 9 (.int W')) 0 13 (.int 0)) 0 14 = fI h 0 14 := by rw [fI_wF_ne (by decide), fI_wF_ne (by decide)]
      have f9' : fI (wF (wF h 1 9 (.int W')) 0 13 (.int 0)) 1 9 = W' := by rw [fI_wF_ne (by decide)]; exact f9
      have fo' : ∀ k, k ≠ 9 → fI (wF (wF h 1 9 (.int W')) 0 13 (.int 0)) 1 k = fI h 1 k := fun k hk => by rw [fI_wF_ne (by omega)]; exact fo k hk
      have ao : ∀ a, aI (wF (wF h 1 9 (.int W')) 0 13 (.int 0)) a = aI h a := fun a => by rw [aI_wF, aI_wF]
      have Y1 : Yrel (wF (wF h 1 9 (.int W')) 0 13 (.int 0)) 1 (upd (aI h 83) 4 W') := by
        obtain ⟨⟨y1, y2, y3, y4, y5, y6, y7, y8, y9, y10⟩, ⟨q0, q4, q1, q2, q3, q5, q6, q7⟩, L⟩ := H.Y
        refine ⟨⟨by rw [fo' 8 (by decide)]; exact y1, by rw [f9']; exact n9, by rw [fo' 10 (by decide)]; exact y3, by rw [fo' 11 (by decide)]; exact y4, by rw [fo' 12 (by decide), fo' 11 (by decide)]; exact y5, by simp only [ao]; exact y6, by simp only [ao]; exact y7, by simp only [ao]; exact y8, by simp only [ao]; exact y9, by simp only [ao]; exact y10⟩, ⟨by rw [fo' 8 (by decide), upd_ne (by decide)]; exact q0, by rw [f9', upd_eq], by rw [fo' 10 (by decide), upd_ne (by decide)]; exact q1, by rw [fo' 11 (by decide), upd_ne (by decide)]; exact q2, by rw [fo' 12 (by decide), upd_ne (by decide)]; exact q3, fun i hi => ?_, fun i hi => ?_, fun i hi => ?_⟩, ?_⟩
        · rw [upd_ne (by omega), upd_ne (by omega), upd_ne (by omega), upd_ne (by omega), upd_ne (by omega)]
          simp only [ao]
          exact q5 i hi
        · rw [upd_ne (by omega)]
          simp only [ao]
          exact q6 i hi
        · rw [upd_ne (by omega)]
          simp only [ao]
          exact q7 i hi
        · obtain ⟨l1, l2⟩ := L
          have kp : ∀ {t n c : Nat} {op ar cl : Nat → Int32}, Txt h t n c op ar cl → Txt (wF (wF h 1 9 (.int W')) 0 13 (.int 0)) t n c op ar cl := fun X => X.kept (Nat.le_refl _) (fun x hx _ => Tc.c (low_spec (S := [0, 1]) (by decide) hx))
          refine ⟨fun k hk => ?_, fun k hk => ?_⟩
          · rw [aQ_wF, aQ_wF]
            rcases l1 k hk with q | ⟨t, n, c, op, ar, cl, q1, q2⟩
            · exact Or.inl q
            · exact Or.inr ⟨t, n, c, op, ar, cl, q1, kp q2⟩
          · rw [fo' 11 (by decide)] at hk
            rw [aQ_wF, aQ_wF]
            obtain ⟨t, n, c, op, ar, cl, q1, q2, q3⟩ := l2 k hk
            refine ⟨t, n, c, op, ar, cl, q1, kp q2, ?_⟩
            have : (fun i => upd (aI h 83) 4 W' (62 + 900 * k + i)) = fun i => aI h 83 (62 + 900 * k + i) := by
              funext i
              exact upd_ne (by omega)
            rw [this]
            exact q3
      generalize wF (wF h 1 9 (.int W')) 0 13 (.int 0) = h1 at *
      have st := Sh_t0 s2
      have r4 : z_aI .int (t0 h1) (some 83) 4 = some (fI h 1 9) := by
        have := m83 (i := 4) st (by decide)
        rw [aI_wF, ao, W4] at this
        exact this
      have w4 : ∀ v, z_sI (t0 h1) (some 83) 4 v = some (wA (t0 h1) 83 (upd (aI h 83) 4 v)) := fun v => by
        have := w83 (i := 4) st (by decide) v
        rw [aI_wF, ao] at this
        exact this
      have s3 : Sh (wA (t0 h1) 83 (upd (aI h 83) 4 W')) := Sh_wA st rfl _
      have eB : D_X11_wall h1 (some 81) (Int32.ofNat c) (Int32.ofNat s) = some ((fI h 1 9 >>> (Int32.ofNat c &&& 31)) &&& 1, wF (wA (t0 h1) 83 (upd (aI h 83) 4 W')) 81 1 (.int 0)) := by
        have d58 : ∀ v, fI h 1 9 ^^^ v = W' → D_X11_wall_58 (t0 h1) (some 81) ((fI h 1 9 >>> (Int32.ofNat c &&& 31)) &&& 1) (some 83) 4 (fI h 1 9) v = some ((fI h 1 9 >>> (Int32.ofNat c &&& 31)) &&& 1, wF (wA (t0 h1) 83 (upd (aI h 83) 4 W')) 81 1 (.int 0)) := fun v ev => by
          unfold D_X11_wall_58
          rw [ev, w4, Option.bind_some, s_ob s3 (ci := 11) rfl, Option.bind_some, d_tell_ok s3 r0, Option.bind_some]
        unfold D_X11_wall
        rw [p81 s2, Option.bind_some, cellM1 hc, Option.bind_some]
        dsimp only
        rw [if_neg one_ne, din1 (C := 1) (N := 1) rfl (by omega) _ (by decide), Option.bind_some]
        dsimp only
        rw [if_neg one_ne, s_gQ (r := 83) st rfl rfl, Option.bind_some, r4, Option.bind_some, Option.bind_some, Option.bind_some, r4, Option.bind_some]
        by_cases q : ((fI h 1 9 >>> (Int32.ofNat c &&& 31)) &&& 1) = Int32.ofNat s
        · rw [if_pos q] at wb ⊢
          exact d58 _ wb.symm
        · rw [if_neg q] at wb ⊢
          exact d58 _ wb.symm
      have O : OnM [81, 83] [0, 1] h1 (wF (wA (t0 h1) 83 (upd (aI h 83) 4 W')) 81 1 (.int 0)) := ((t0_on s2).mono (by decide) (by decide)).trans (OnM.trans ⟨s3, Tch_wA (Tch_rfl _ _) (by decide) _, fun _ _ => ⟨fI_wA _ _ _ _, fJ_wA _ _ _ _⟩⟩ ((wF_on s3 (k := 1) rfl 0).mono (by decide) (by decide)))
      have z83 : aI (wF (wA (t0 h1) 83 (upd (aI h 83) 4 W')) 81 1 (.int 0)) 83 = upd (aI h 83) 4 W' := by rw [aI_wF]; exact aI_wA_eq st rfl _
      refine ⟨_, _, _, eA, ob81 s2, eB, Inv_cm H Tc O (by decide) (by decide) f14 ?_ (by rw [z83]; exact Y1) ?_⟩
      · rw [f13, fI_wF_eq s3 rfl]
      · refine Ulog_R H.2.2.2.1 ?_ ?_ ?_ ?_ ?_ ?_ ?_
        · rw [(O.2.2 8 (by decide)).1, cell_fI (Tc.c (by decide))]
        · rw [cell_fI (O.2.1.c (by decide)), cell_fI (Tc.c (by decide))]
        · rw [cell_fI (O.2.1.c (by decide)), fo' 8 (by decide)]
        · rw [cell_aI (O.2.1.c (by decide)), ao]
        · rw [cell_aI (O.2.1.c (by decide)), ao]
        · rw [cell_aI (O.2.1.c (by decide)), ao]
        · intro q hq
          rw [z83, upd_ne (by omega)]
    · exact no (Or.inr ⟨c, hc, rfl, ny⟩)
  · exact no (Or.inl nx)
end CM
