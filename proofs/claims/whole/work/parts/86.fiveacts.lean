section FA
variable {j : Nat} {h : z_H}
theorem sub_acts : ∀ q ∈ [29, 30, 31, 33, 1 + 1, 1 + 2, 1 + 4], q ∈ [2, 3, 5, 6, 29, 30, 31, 33] := by decide
theorem day_of (H : Inv j h) : ∃ d, d ≤ 999 ∧ aI h 83 5 = Int32.ofNat d := by
  obtain ⟨d, e, hd⟩ := H.Y.row.2.2.1
  exact ⟨d, hd, e⟩
/-- an act of a pair that is there -/
theorem act_pair (H : Inv j h) {B B' : z_H → Option (Int32 × z_H)} (hB : ∀ h1, Sh h1 → B h1 = ((B' (t0 h1)).bind fun p => (z_ob 11 p.2 (some 81)).bind fun _ => (D_X11_tell p.2 (some 81) p.1).bind fun q => some (q.1, q.2))) {n : Nat} (hn : n ≤ 6) (e1 : fI h 1 8 = Int32.ofNat n) {act p q : Nat} {b : Int32} (hact : act < 4) (hp : p < n) (hb1 : act = 1 → q < 2 ∧ b = Int32.ofNat q) (hb3 : act = 3 → q < 4 ∧ b = Int32.ofNat q) (dM : ∀ g law T nu, RA g law T → aI g 83 0 = Int32.ofNat n → fI g 81 8 = Int32.ofNat nu → nu ≤ 16 → RefAct g T nu act p q (B' g)) : Agree Inv j h (fun h => D_X10_attempt h (some 0) (Int32.ofNat act) (Int32.ofNat p) b) B := by
  have hs := H.1
  have ha : isY 1 := Or.inl rfl
  obtain ⟨law, T, dl, lr⟩ := H.law
  have hp6 : p < 6 := by omega
  have q0 : aI h 83 0 = Int32.ofNat n := by rw [H.Y.2.1.1]; exact e1
  have hi := partN_lt hact (fun q => (hb1 q).1) (fun q => (hb3 q).1)
  obtain ⟨c, y, hc, hy, m8, m14, -⟩ := H.Y.at hp6
  obtain ⟨-, w, hw, ew⟩ := H.Y.worn hp6 hi
  obtain ⟨d, hd, e5⟩ := day_of H
  obtain ⟨C1, C2⟩ := c_carry hs ha H.Y dl lr e1 hn hact hp hb1 hb3
  cases e : actN T (aI h 83) act p q with
  | none =>
    obtain ⟨g1, s1, T1, d1⟩ := C1 e
    refine attempt_no H hB lr (k := 3) (by decide) (by decide) s1 T1 d1 (fun g nu ra c83 f8 hu => ?_)
    exact (dM g law T nu ra (by rw [c83]; exact q0) f8 hu).1 (by rw [c83]; exact e)
  | some rm =>
    obtain ⟨r, m'⟩ := rm
    obtain ⟨g1, s1, T1, Y1, rk, hr, d1⟩ := C2 r m' e
    have K : recOK (tn (fI h 1 8)) (aI g1 33) (fun i => aI h 83 (5 + i)) (fun i => m' (5 + i)) (Int32.ofNat act) := by
      have tnp : tn (fI h 1 8) = n := by rw [e1]; exact tn_of (by omega)
      have ex : ∃ v cc yy, m' = setPF (aI h 83) p (partN act q) v cc yy := by
        have : act = 0 ∨ act = 1 ∨ act = 2 ∨ act = 3 := by omega
        unfold actN at e
        rcases this with rfl | rfl | rfl | rfl
        · rw [if_pos rfl] at e
          split at e
          · cases e
          · cases e
            exact ⟨_, _, _, rfl⟩
        · rw [if_neg (by decide), if_pos rfl] at e
          cases e
          exact ⟨_, _, _, rfl⟩
        · rw [if_neg (by decide), if_neg (by decide), if_pos rfl] at e
          cases e
          exact ⟨_, _, _, rfl⟩
        · rw [if_neg (by decide), if_neg (by decide), if_neg (by decide)] at e
          split at e
          · cases e
          · cases e
            exact ⟨_, _, _, rfl⟩
      obtain ⟨v, cc, yy, rfl⟩ := ex
      rw [tnp]
      exact recOK_act (by omega) hp hn hi rk m8 hc m14 hy ew hw e5 hd
    obtain ⟨z, ez, hz⟩ := hr
    refine attempt_ok H hB lr ⟨z, ez, by omega⟩ s1 (T1.mono sub_acts) Y1 K d1 (fun g nu ra c83 f8 hu => ?_)
    exact (dM g law T nu ra (by rw [c83]; exact q0) f8 hu).2 r m' (by rw [c83]; exact e)
theorem carry_nop {g : z_H} {a n : Nat} (hs : Sh g) (ha : isY a) (e1 : fI g a 8 = Int32.ofNat n) (hn : n ≤ 6) {act : Nat} {x b : Int32} (hact : act < 4) (hb1 : act = 1 → 0 ≤ b.toInt ∧ b.toInt < (2 : Nat)) (hb3 : act = 3 → 0 ≤ b.toInt ∧ b.toInt < (4 : Nat)) (nx : ¬ (0 ≤ x.toInt ∧ x.toInt < n)) : D_X0_carryOut g (some 32) (some a) (Int32.ofNat act) x b = some (-2, g) := by
  have d31 : D_X0_carryOut_31 g (some 32) (some a) (Int32.ofNat act) x b = some (-2, g) := by
    unfold D_X0_carryOut_31
    rw [if_neg (fun z => by have := (eq_lit (a := act) (b := 4) (by omega) (by decide)).mp z; omega), (yR hs ha).1, Option.bind_some, hasP0 hs ha e1 (by omega) nx, Option.bind_some]
    dsimp only
    rw [if_pos rfl]
  have d16 : D_X0_carryOut_16 g (some 32) (some a) (Int32.ofNat act) x b = some (-2, g) := by
    unfold D_X0_carryOut_16
    by_cases c : act = 3
    · have := hb3 c
      obtain ⟨k, rfl, ek, -⟩ := nat_of this.1
      subst c
      rw [if_pos (by decide), partC1 (by omega), Option.bind_some]
      dsimp only
      rw [if_neg one_ne]
      exact d31
    · rw [if_neg (show ¬ Int32.ofNat act = 3 from act_ne hact (k := 3) (by decide) c)]
      exact d31
  unfold D_X0_carryOut
  by_cases c : act = 1
  · have := hb1 c
    obtain ⟨k, rfl, ek, -⟩ := nat_of this.1
    subst c
    rw [if_pos (by decide), if_neg (not_neg (by omega)), if_neg (fun z => by have := (nat_lt (a := 1) (b := k) (by decide) (by omega)).mp z; omega)]
    exact d16
  · rw [if_neg (show ¬ Int32.ofNat act = 1 from act_ne hact (k := 1) (by decide) c)]
    exact d16
theorem bad_side {b : Int32} (nb1 : ¬ (0 ≤ b.toInt ∧ b.toInt < (2 : Nat))) (g : z_H) (A : Option Nat) (l : Option Nat) (x : Int32) : D_X0_carryOut g A l 1 x b = some (-1, g) := by
  unfold D_X0_carryOut
  rw [if_pos rfl]
  by_cases c : b < 0
  · rw [if_pos c]
  · rw [if_neg c]
    rw [lt0] at c
    rw [if_pos (by rw [Int32.lt_iff_toInt_lt]; show (1 : Int) < b.toInt; omega)]
theorem bad_part {b : Int32} (nb1 : ¬ (0 ≤ b.toInt ∧ b.toInt < (4 : Nat))) (g : z_H) (A : Option Nat) (l : Option Nat) (x : Int32) : D_X0_carryOut g A l 3 x b = some (-1, g) := by
  unfold D_X0_carryOut
  rw [if_neg (by decide)]
  unfold D_X0_carryOut_16
  rw [if_pos rfl, partC0 nb1, Option.bind_some]
  dsimp only
  rw [if_pos rfl]
theorem bindid {α β : Type} (o : Option (α × β)) : (o.bind fun p => some (p.1, p.2)) = o := by
  cases o with
  | none => rfl
  | some p => rfl
theorem ag_att {j : Nat} {h : z_H} {act x b : Int32} {A B : z_H → Option (Int32 × z_H)} (hs : Sh h) (eA : A h = D_X10_attempt h (some 0) act x b) (H : Agree Inv j h (fun h => D_X10_attempt h (some 0) act x b) B) : Agree Inv j h A B := by
  obtain ⟨r, h1, h2, e1, e2, e3, e4⟩ := H
  exact ⟨r, h1, h2, eA.trans e1, e2, e3, e4⟩
theorem bB {f : z_H → Option (Int32 × z_H)} (h1 : z_H) (s1 : Sh h1) : ((z_pV 11 h1 (some 81) 0 (.int (0:Int32))).bind fun h2 => (z_ob 11 h2 (some 81)).bind fun _ => (f h2).bind fun p => (z_ob 11 p.2 (some 81)).bind fun _ => (D_X11_tell p.2 (some 81) p.1).bind fun q => some (q.1, q.2)) = ((f (t0 h1)).bind fun p => (z_ob 11 p.2 (some 81)).bind fun _ => (D_X11_tell p.2 (some 81) p.1).bind fun q => some (q.1, q.2)) := by
  rw [p81 s1, Option.bind_some, s_ob (Sh_t0 s1) (ci := 11) rfl, Option.bind_some]
theorem a_step (H : Inv j h) (x : Int32) : Agree Inv j h (fun h => D_X10_step h (some 0) x) (fun h => D_X11_step h (some 81) x) := by
  have hs := H.1
  have hB : ∀ h1, Sh h1 → D_X11_step h1 (some 81) x = _ := fun h1 s1 => bB (f := fun g => D_X11_stepNow g (some 81) x) h1 s1
  obtain ⟨n, hn, e1, e2⟩ := H.np
  obtain ⟨law, T, dl, lr⟩ := H.law
  refine ag_att hs (act := Int32.ofNat 0) (x := x) (b := 0) (by unfold D_X10_step; rw [s_ob hs (ci := 10) rfl, Option.bind_some, bindid]; rfl) ?_
  rcases xc x n (by omega) with ⟨p, hp, rfl⟩ | nx
  · exact act_pair H hB hn e1 (act := 0) (q := 0) (by decide) hp (fun z => by cases z) (fun z => by cases z) (fun g law T nu ra q0 f8 hu => m_stepNow ra q0 hn hp f8 hu)
  · refine attempt_no H (B' := fun g => D_X11_stepNow g (some 81) x) hB lr (k := 2) (by decide) (by decide) hs (Tch_rfl _ h) (carry_nop hs (Or.inl rfl) e1 hn (by decide) (fun z => by cases z) (fun z => by cases z) nx) (fun g nu ra c83 f8 hu => ⟨g, OnM.rfl' ra.1, ?_⟩)
    unfold D_X11_stepNow
    rw [s_ob ra.1 (ci := 11) rfl, Option.bind_some, isP0 ra.1 (by rw [c83]; exact e2) hn nx, Option.bind_some]
    dsimp only
    rw [if_pos rfl]
    rfl
theorem a_pause (H : Inv j h) (x : Int32) : Agree Inv j h (fun h => D_X10_pause h (some 0) x) (fun h => D_X11_pause h (some 81) x) := by
  have hs := H.1
  have hB : ∀ h1, Sh h1 → D_X11_pause h1 (some 81) x = _ := fun h1 s1 => bB (f := fun g => D_X11_pauseNow g (some 81) x) h1 s1
  obtain ⟨n, hn, e1, e2⟩ := H.np
  obtain ⟨law, T, dl, lr⟩ := H.law
  refine ag_att hs (act := Int32.ofNat 2) (x := x) (b := 0) (by unfold D_X10_pause; rw [s_ob hs (ci := 10) rfl, Option.bind_some, bindid]; rfl) ?_
  rcases xc x n (by omega) with ⟨p, hp, rfl⟩ | nx
  · exact act_pair H hB hn e1 (act := 2) (q := 0) (by decide) hp (fun z => by cases z) (fun z => by cases z) (fun g law T nu ra q0 f8 hu => m_pauseNow ra q0 hn hp f8 hu)
  · refine attempt_no H (B' := fun g => D_X11_pauseNow g (some 81) x) hB lr (k := 2) (by decide) (by decide) hs (Tch_rfl _ h) (carry_nop hs (Or.inl rfl) e1 hn (by decide) (fun z => by cases z) (fun z => by cases z) nx) (fun g nu ra c83 f8 hu => ⟨g, OnM.rfl' ra.1, ?_⟩)
    unfold D_X11_pauseNow
    rw [s_ob ra.1 (ci := 11) rfl, Option.bind_some, isP0 ra.1 (by rw [c83]; exact e2) hn nx, Option.bind_some]
    dsimp only
    rw [if_pos rfl]
    rfl
theorem a_turn (H : Inv j h) (x y : Int32) : Agree Inv j h (fun h => D_X10_turn h (some 0) x y) (fun h => D_X11_turn h (some 81) x y) := by
  have hs := H.1
  have hB : ∀ h1, Sh h1 → D_X11_turn h1 (some 81) x y = _ := fun h1 s1 => bB (f := fun g => D_X11_turnNow g (some 81) x y) h1 s1
  obtain ⟨n, hn, e1, e2⟩ := H.np
  obtain ⟨law, T, dl, lr⟩ := H.law
  refine ag_att hs (act := Int32.ofNat 1) (x := x) (b := y) (by unfold D_X10_turn; rw [s_ob hs (ci := 10) rfl, Option.bind_some, bindid]; rfl) ?_
  rcases xc y 2 (by decide) with ⟨q, hq, rfl⟩ | ny
  · rcases xc x n (by omega) with ⟨p, hp, rfl⟩ | nx
    · exact act_pair H hB hn e1 (act := 1) (q := q) (by decide) hp (fun _ => ⟨hq, rfl⟩) (fun z => by cases z) (fun g law T nu ra q0 f8 hu => m_turnNow ra q0 hn hp hq f8 hu)
    · refine attempt_no H (B' := fun g => D_X11_turnNow g (some 81) x (Int32.ofNat q)) hB lr (k := 2) (by decide) (by decide) hs (Tch_rfl _ h) (carry_nop hs (Or.inl rfl) e1 hn (by decide) (fun _ => by rw [of_int (by omega)]; omega) (fun z => by cases z) nx) (fun g nu ra c83 f8 hu => ⟨g, OnM.rfl' ra.1, ?_⟩)
      unfold D_X11_turnNow
      rw [din1 (C := 1) (N := 1) rfl (by omega) g (by decide), Option.bind_some]
      dsimp only
      rw [if_neg one_ne, s_ob ra.1 (ci := 11) rfl, Option.bind_some, isP0 ra.1 (by rw [c83]; exact e2) hn nx, Option.bind_some]
      dsimp only
      rw [if_pos rfl]
      rfl
  · refine attempt_no H (B' := fun g => D_X11_turnNow g (some 81) x y) hB lr (k := 1) (by decide) (by decide) hs (Tch_rfl _ h) (bad_side ny _ _ _ _) (fun g nu ra c83 f8 hu => ⟨g, OnM.rfl' ra.1, ?_⟩)
    unfold D_X11_turnNow
    rw [din0 (C := 1) (N := 1) rfl ny, Option.bind_some]
    dsimp only
    rw [if_pos rfl]
    rfl
theorem a_mend (H : Inv j h) (x y : Int32) : Agree Inv j h (fun h => D_X10_mend h (some 0) x y) (fun h => D_X11_mend h (some 81) x y) := by
  have hs := H.1
  have hB : ∀ h1, Sh h1 → D_X11_mend h1 (some 81) x y = _ := fun h1 s1 => bB (f := fun g => D_X11_mendNow g (some 81) x y) h1 s1
  obtain ⟨n, hn, e1, e2⟩ := H.np
  obtain ⟨law, T, dl, lr⟩ := H.law
  refine ag_att hs (act := Int32.ofNat 3) (x := x) (b := y) (by unfold D_X10_mend; rw [s_ob hs (ci := 10) rfl, Option.bind_some, bindid]; rfl) ?_
  rcases xc y 4 (by decide) with ⟨q, hq, rfl⟩ | ny
  · rcases xc x n (by omega) with ⟨p, hp, rfl⟩ | nx
    · exact act_pair H hB hn e1 (act := 3) (q := q) (by decide) hp (fun z => by cases z) (fun _ => ⟨hq, rfl⟩) (fun g law T nu ra q0 f8 hu => m_mendNow ra q0 hn hp hq f8 hu)
    · refine attempt_no H (B' := fun g => D_X11_mendNow g (some 81) x (Int32.ofNat q)) hB lr (k := 2) (by decide) (by decide) hs (Tch_rfl _ h) (carry_nop hs (Or.inl rfl) e1 hn (by decide) (fun z => by cases z) (fun _ => by rw [of_int (by omega)]; omega) nx) (fun g nu ra c83 f8 hu => ⟨g, OnM.rfl' ra.1, ?_⟩)
      unfold D_X11_mendNow
      rw [partM1 hq, Option.bind_some]
      dsimp only
      rw [if_neg one_ne, s_ob ra.1 (ci := 11) rfl, Option.bind_some, isP0 ra.1 (by rw [c83]; exact e2) hn nx, Option.bind_some]
      dsimp only
      rw [if_pos rfl]
      rfl
  · refine attempt_no H (B' := fun g => D_X11_mendNow g (some 81) x y) hB lr (k := 1) (by decide) (by decide) hs (Tch_rfl _ h) (bad_part ny _ _ _ _) (fun g nu ra c83 f8 hu => ⟨g, OnM.rfl' ra.1, ?_⟩)
    unfold D_X11_mendNow
    rw [partM0 ny, Option.bind_some]
    dsimp only
    rw [if_pos rfl]
    rfl
theorem a_pass (H : Inv j h) : Agree Inv j h (fun h => D_X10_pass h (some 0)) (fun h => D_X11_pass h (some 81)) := by
  have hs := H.1
  have hB : ∀ h1, Sh h1 → D_X11_pass h1 (some 81) = _ := fun h1 s1 => bB (f := fun g => D_X11_passNow g (some 81)) h1 s1
  obtain ⟨law, T, dl, lr⟩ := H.law
  obtain ⟨d, hd, e5⟩ := day_of H
  refine ag_att hs (act := 4) (x := -1) (b := 0) (by unfold D_X10_pass; rw [s_ob hs (ci := 10) rfl, Option.bind_some, bindid]) ?_
  obtain ⟨P1, P2⟩ := c_passD hs (Or.inl rfl) H.Y (-1) 0
  by_cases c : aI h 83 5 = 999
  · refine attempt_no H (B' := fun g => D_X11_passNow g (some 81)) hB lr (k := 3) (by decide) (by decide) hs (Tch_rfl _ h) (P1 c) (fun g nu ra c83 f8 hu => ⟨g, OnM.rfl' ra.1, ?_⟩)
    exact (m_passNow ra f8 hu).1 (by rw [c83]; exact c)
  · obtain ⟨g1, s1, T1, Y1, r0, r1, r6, hr, dC⟩ := P2 c
    refine attempt_ok H (B' := fun g => D_X11_passNow g (some 81)) hB lr hr s1 (T1.mono (by decide)) Y1 (recOK_pass r0 r1 r6 e5 hd) dC (fun g nu ra c83 f8 hu => ?_)
    obtain ⟨g', o', a83, b8, a86, a87, dd⟩ := (m_passNow ra f8 hu).2 (by rw [c83]; exact c)
    rw [c83] at a83 dd
    exact ⟨g', o', a83, b8, a86, a87, dd⟩
end FA
