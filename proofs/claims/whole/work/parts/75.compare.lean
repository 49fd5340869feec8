section CP
variable {j : Nat} {h : z_H}
theorem OnM.drop {S ks : List Nat} {g g' : z_H} (o : OnM (83 :: S) ks g g') (hs : Sh g) (e : aI g' 83 = aI g 83) : OnM S ks g g' := by
  refine ⟨o.1, ⟨o.2.1.1, o.2.1.2.1, fun a ha => ?_⟩, o.2.2⟩
  by_cases q : a = 83
  · subst q
    have c1 := hs.2 83 _ rfl
    have c2 := o.1.2 83 _ rfl
    rw [c1, c2]
    unfold canon
    dsimp only
    rw [e]
  · exact o.2.1.c (fun z => (List.mem_cons.mp z).elim q ha)
theorem upd_upd {f : Nat → Int32} {k : Nat} {x y : Int32} : upd (upd f k x) k y = upd f k y := by
  funext i
  unfold upd
  by_cases q : i = k
  · rw [if_pos q, if_pos q]
  · rw [if_neg q, if_neg q, if_neg q]
theorem upd_self {f : Nat → Int32} {k : Nat} : upd f k (f k) = f := by
  funext i
  unfold upd
  by_cases q : i = k
  · rw [if_pos q, q]
  · rw [if_neg q]
/-- writing a row of the reference -/
theorem w83 {g : z_H} (hs : Sh g) {i : Nat} (hi : i < 5462) (v : Int32) : z_sI g (some 83) (Int32.ofNat i) v = some (wA g 83 (upd (aI g 83) i v)) := by
  have tl : (Int32.ofNat i).toNatClampNeg = i := tn_of (by omega)
  rw [s_sI (n := 5462) hs rfl, iW_ofNat hi (by decide), tl]
theorem w83_on {g : z_H} (hs : Sh g) (S ks : List Nat) (f : Nat → Int32) : OnM (83 :: S) ks g (wA g 83 f) := ⟨Sh_wA hs rfl _, Tch_wA (Tch_rfl _ g) (List.mem_cons_self ..) _, fun _ _ => ⟨fI_wA _ _ _ _, fJ_wA _ _ _ _⟩⟩
theorem RowB_upd {m : Nat → Int32} (R : RowB m) {v : Int32} : RowB (upd m 3 v) := by
  obtain ⟨r1, r2, r3, r4, r5, r6⟩ := R
  refine ⟨fun p hp => ?_, fun i hi => ?_, ?_, ?_, ?_, ?_⟩
  · rw [upd_ne (by omega), upd_ne (by omega), upd_ne (by omega)]; exact r1 p hp
  · rw [upd_ne (by omega)]; exact r2 i hi
  · rw [upd_ne (by decide)]; exact r3
  · rw [upd_ne (by decide)]; exact r4
  · rw [upd_ne (by decide)]; exact r5
  · rw [upd_ne (by decide)]; exact r6
theorem LawR_upd {g : z_H} {m : Nat → Int32} {k v : Int32} {law : Option Nat} {T : LawT} (H : LawR g m k law T) {i : Nat} (hi : i < 62) : LawR g (upd m i v) k law T := by
  rcases H with q | ⟨q, t', n, c, op, ar, cl, e1, e2, e3, e4, X, R⟩
  · exact Or.inl q
  · refine Or.inr ⟨q, t', n, c, op, ar, cl, e1, e2, e3, e4, X, ?_⟩
    have e : (fun i' => upd m i v (62 + 900 * q + i')) = (fun i' => m (62 + 900 * q + i')) := by
      funext i'
      exact upd_ne (by omega)
    rw [e]; exact R
theorem hasL1 {g : z_H} (hs : Sh g) {n q : Nat} (e : fI g 1 11 = Int32.ofNat n) (hn : n < 2 ^ 31) (hq : q < n) : D_X9_hasLaw g (some 1) (Int32.ofNat q) = some (1, g) := by
  unfold D_X9_hasLaw
  rw [if_neg (not_neg (by omega)), (yR hs (Or.inl rfl)).2.2.2.2.2.2.2.2.2.1, Option.bind_some, e, if_neg (by rw [nat_le (by omega) (by omega)]; omega)]
theorem hasL0 {g : z_H} (hs : Sh g) {n : Nat} (e : fI g 1 11 = Int32.ofNat n) (hn : n < 2 ^ 31) {x : Int32} (hx : ¬ (0 ≤ x.toInt ∧ x.toInt < n)) : D_X9_hasLaw g (some 1) x = some (0, g) := by
  unfold D_X9_hasLaw
  by_cases c : x < 0
  · rw [if_pos c]
  · rw [if_neg c, (yR hs (Or.inl rfl)).2.2.2.2.2.2.2.2.2.1, Option.bind_some, e, if_pos (by rw [Int32.le_iff_toInt_le, of_int hn]; rw [lt0] at c; omega)]
theorem isL {g : z_H} (hs : Sh g) {n : Nat} (e : aI g 83 2 = Int32.ofNat n) (hn : n ≤ 6) (x : Int32) : D_X11_isLaw g (some 81) x = some (if x = -1 ∨ (0 ≤ x.toInt ∧ x.toInt < n) then 1 else 0, g) := by
  have i2 : z_aI .int g (some 83) 2 = some (aI g 83 2) := m83 (i := 2) hs (by decide)
  unfold D_X11_isLaw
  by_cases c : x = -1
  · rw [if_pos c, if_pos (Or.inl c)]
  · rw [if_neg c, s_gQ (r := 83) hs rfl rfl, Option.bind_some, i2, Option.bind_some, d_in, Option.bind_some, e]
    dsimp only
    have : ((0 : Int64).toInt ≤ x.toInt64.toInt ∧ x.toInt64.toInt ≤ ((Int32.ofNat n).toInt64 - 1).toInt) ↔ (0 ≤ x.toInt ∧ x.toInt < n) := by
      rw [sub1 ⟨n, rfl, hn⟩ (by decide), wide, of_int (by omega), l_lits.1]; omega
    by_cases c2 : 0 ≤ x.toInt ∧ x.toInt < n
    · rw [if_pos (this.mpr c2), if_pos (Or.inr c2), if_neg one_ne]
    · rw [if_neg (fun z => c2 (this.mp z)), if_pos rfl, if_neg (fun z => z.elim c c2)]
theorem a_compare (H : Inv j h) (l x y : Int32) : Agree Inv j h (fun h => D_X10_compare h (some 0) l x y) (fun h => D_X11_compare h (some 81) l x y) := by
  have hs := H.1
  have st := Sh_t0 hs
  have ha : isY 1 := Or.inl rfl
  obtain ⟨n, hn, e1, e2⟩ := H.np
  obtain ⟨nl, el, hnl⟩ := H.Y.1.2.2.2.1
  have el2 : aI h 83 2 = Int32.ofNat nl := by rw [H.Y.2.1.2.2.2.1, el]
  have e2' : aI (t0 h) 83 0 = Int32.ofNat n := by rw [aI_wF]; exact e2
  have el2' : aI (t0 h) 83 2 = Int32.ofNat nl := by rw [aI_wF]; exact el2
  have q0 : z_gQ 10 h (some 0) 0 = some (some 1) := s_gQ hs rfl rfl
  have q6 : z_gQ 10 h (some 0) 6 = some (some 29) := s_gQ hs rfl rfl
  by_cases cl : l = -1 ∨ (0 ≤ l.toInt ∧ l.toInt < nl)
  · have top : D_X10_compare h (some 0) l x y = D_X10_compare_16 h (some 0) l x y := by
      unfold D_X10_compare
      by_cases c1 : l = -1
      · rw [if_pos c1]
      · obtain ⟨q, hq, rfl⟩ : ∃ q, q < nl ∧ l = Int32.ofNat q := (xc l nl (by omega)).resolve_right (fun z => z (cl.resolve_left c1))
        rw [if_neg c1, q0, Option.bind_some, (yR hs ha).1, Option.bind_some, hasL1 hs el (by omega) hq, Option.bind_some]
        dsimp only
        rw [if_neg one_ne]
    have topM : ∀ g, Sh g → aI g 83 = aI h 83 → D_X11_isLaw (t0 g) (some 81) l = some (1, t0 g) := fun g sg eg => by
      rw [isL (Sh_t0 sg) (n := nl) (by rw [aI_wF, eg]; exact el2) hnl, if_pos cl]
    have hk : l = -1 ∨ ∃ q : Nat, l = Int32.ofNat q ∧ q < tn (fI h 1 11) := by
      rw [el, tn_of (by omega)]
      rcases cl with c | c
      · exact Or.inl c
      · obtain ⟨q, hq, e⟩ := (xc l nl (by omega)).resolve_right (fun z => z c)
        exact Or.inr ⟨q, e, hq⟩
    rcases xc x n (by omega) with ⟨p, hp, rfl⟩ | nx
    · rcases xc y 4 (by decide) with ⟨i, hi, rfl⟩ | ny
      · obtain ⟨c, w, hc, hw, m8, m14, c2, c3⟩ := H.at (p := p) (by omega)
        obtain ⟨law, T, dl, lr⟩ := c_lawAt hs ha H.Y hk
        obtain ⟨ew, bw⟩ := H.worn (p := p) (i := i) (by omega) hi
        have bw' := bw.int (by decide)
        obtain ⟨g1, s1, T1, d1⟩ := cI_wears hs ha H.Y lr (p := p) (j := i) (by omega) hi hc hw (worn := aI h 5 (4 * p + i)) (by omega)
        have c83' : aI g1 83 = aI h 83 := cell_aI (T1.c (by decide))
        have c83 : aI (t0 g1) 83 = aI h 83 := by rw [aI_wF]; exact c83'
        have st1 := Sh_t0 s1
        obtain ⟨g2, eg2⟩ : ∃ g2, g2 = wA (t0 g1) 83 (upd (aI h 83) 3 l) := ⟨_, rfl⟩
        have s2 : Sh g2 := by rw [eg2]; exact Sh_wA st1 rfl _
        have a2 : aI g2 83 = upd (aI h 83) 3 l := by rw [eg2]; exact aI_wA_eq st1 rfl _
        have o2 : OnM [83, 81, 99, 101] [0, 34, 38, 39, 40] g1 g2 := by
          rw [eg2]
          exact ((t0_on s1).mono (by decide) (by decide)).trans (w83_on st1 _ _ _)
        have ra : RA g2 law T := by
          refine ⟨s2, by rw [(o2.2.2 20 (by decide)).1, cell_fI (T1.c (by decide))]; exact H.ord, by rw [a2]; exact RowB_upd H.Y.row, ?_⟩
          rw [a2, upd_eq]
          exact LawR_upd ((lr.T T1 (by decide)).T o2.2.1 (by decide)) (by decide)
        obtain ⟨g3, o3, d3⟩ := mI_wearsNow ra (p := p) (j := i) (c := c) (y := w) (by omega) hi (by rw [a2, upd_ne (by omega)]; exact m8) (by rw [a2, upd_ne (by omega)]; exact m14)
        have s3 := o3.1
        have a3 : aI g3 83 = upd (aI h 83) 3 l := by rw [cell_aI (o3.2.1.c (by decide)), a2]
        obtain ⟨g4, eg4⟩ : ∃ g4, g4 = wA g3 83 (upd (aI g3 83) 3 (aI h 83 3)) := ⟨_, rfl⟩
        have a4 : aI g4 83 = aI h 83 := by rw [eg4, aI_wA_eq s3 rfl, a3, upd_upd, upd_self]
        have o4 : OnM [83, 81, 99, 101] [0, 34, 38, 39, 40] g1 g4 := by
          rw [eg4]
          exact (o2.trans (o3.mono (by decide) (by decide))).trans (w83_on s3 _ _ _)
        have i3 : z_aI .int (t0 g1) (some 83) 3 = some (aI h 83 3) := by rw [← c83]; exact m83 (i := 3) st1 (by decide)
        have w3 : z_sI (t0 g1) (some 83) 3 l = some g2 := by rw [eg2, ← c83]; exact w83 (i := 3) st1 (by decide) l
        have w3' : z_sI g3 (some 83) 3 (aI h 83 3) = some g4 := by rw [eg4]; exact w83 (i := 3) s3 (by decide) _
        refine agree_q H (x := wearsV T (WA (aI h 83) p (Int32.ofNat i) (aI h 5 (4 * p + i)) c w)) (h1 := g1) (h2 := g4) ?_ (Same_T T1 s1 (by decide)) ?_ (Same_M (o4.drop s1 (by rw [a4, c83'])) (by decide))
        · show D_X10_compare h (some 0) l (Int32.ofNat p) (Int32.ofNat i) = _
          rw [top]
          unfold D_X10_compare_16
          rw [q0, Option.bind_some, (yR hs ha).1, Option.bind_some, hasP1 hs ha e1 (by omega) hp, Option.bind_some]
          dsimp only
          rw [if_neg one_ne, partC1 hi, Option.bind_some]
          dsimp only
          rw [if_neg one_ne, q6, Option.bind_some, q0, Option.bind_some, Option.bind_some, (yR hs ha).1, Option.bind_some, dl, Option.bind_some]
          dsimp only
          rw [q0, Option.bind_some, (yR hs ha).1, Option.bind_some, wornC hs ha (by omega) hi, Option.bind_some]
          dsimp only
          rw [q0, Option.bind_some, (yR hs ha).1, Option.bind_some, placeC hs (by omega) c2 c3, Option.bind_some]
          dsimp only
          rw [s_ob hs (ci := 1) rfl, Option.bind_some, d1, Option.bind_some]
        · show D_X11_compare g1 (some 81) l (Int32.ofNat p) (Int32.ofNat i) = _
          have e2g : aI (t0 g1) 83 0 = Int32.ofNat n := by rw [c83]; exact e2
          unfold D_X11_compare
          rw [p81 s1, Option.bind_some, s_ob st1 (ci := 11) rfl, Option.bind_some, topM g1 s1 c83', Option.bind_some]
          dsimp only
          rw [if_neg one_ne, s_ob st1 (ci := 11) rfl, Option.bind_some, isP1 st1 e2g hn hp, Option.bind_some]
          dsimp only
          rw [if_neg one_ne, partM1 hi, Option.bind_some]
          dsimp only
          rw [if_neg one_ne, s_gQ (r := 83) st1 rfl rfl, Option.bind_some, i3, Option.bind_some, Option.bind_some, w3, Option.bind_some, s_ob s2 (ci := 11) rfl, Option.bind_some, d3, Option.bind_some]
          dsimp only
          rw [s_gQ (r := 83) s3 rfl rfl, Option.bind_some, w3', Option.bind_some, a2]
          have ww : WA (upd (aI h 83) 3 l) p (Int32.ofNat i) (upd (aI h 83) 3 l (20 + 4 * p + i)) c w = WA (aI h 83) p (Int32.ofNat i) (aI h 5 (4 * p + i)) c w := by
            unfold WA
            rw [upd_ne (by omega), upd_ne (by omega), upd_ne (by decide), upd_ne (by decide), ew]
          rw [ww]
      · refine none_q H (x := -1) ?_ ?_
        · show D_X10_compare h (some 0) l (Int32.ofNat p) y = _
          rw [top]
          unfold D_X10_compare_16
          rw [q0, Option.bind_some, (yR hs ha).1, Option.bind_some, hasP1 hs ha e1 (by omega) hp, Option.bind_some]
          dsimp only
          rw [if_neg one_ne, partC0 ny, Option.bind_some]
          dsimp only
          rw [if_pos rfl]
        · show D_X11_compare h (some 81) l (Int32.ofNat p) y = _
          unfold D_X11_compare
          rw [p81 hs, Option.bind_some, s_ob st (ci := 11) rfl, Option.bind_some, topM h hs rfl, Option.bind_some]
          dsimp only
          rw [if_neg one_ne, s_ob st (ci := 11) rfl, Option.bind_some, isP1 st e2' hn hp, Option.bind_some]
          dsimp only
          rw [if_neg one_ne, partM0 ny, Option.bind_some]
          dsimp only
          rw [if_pos rfl]
    · refine none_q H (x := -1) ?_ ?_
      · show D_X10_compare h (some 0) l x y = _
        rw [top]
        unfold D_X10_compare_16
        rw [q0, Option.bind_some, (yR hs ha).1, Option.bind_some, hasP0 hs ha e1 (by omega) nx, Option.bind_some]
        dsimp only
        rw [if_pos rfl]
      · show D_X11_compare h (some 81) l x y = _
        unfold D_X11_compare
        rw [p81 hs, Option.bind_some, s_ob st (ci := 11) rfl, Option.bind_some, topM h hs rfl, Option.bind_some]
        dsimp only
        rw [if_neg one_ne, s_ob st (ci := 11) rfl, Option.bind_some, isP0 st e2' hn nx, Option.bind_some]
        dsimp only
        rw [if_pos rfl]
  · refine none_q H (x := -1) ?_ ?_
    · show D_X10_compare h (some 0) l x y = _
      unfold D_X10_compare
      rw [if_neg (fun q => cl (Or.inl q)), q0, Option.bind_some, (yR hs ha).1, Option.bind_some, hasL0 hs el (by omega) (fun q => cl (Or.inr q)), Option.bind_some]
      dsimp only
      rw [if_pos rfl]
    · show D_X11_compare h (some 81) l x y = _
      unfold D_X11_compare
      rw [p81 hs, Option.bind_some, s_ob st (ci := 11) rfl, Option.bind_some, isL st el2' hnl, if_neg cl, Option.bind_some]
      dsimp only
      rw [if_pos rfl]
end CP
