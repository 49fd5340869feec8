/-! least: the class's search from its start, and both together -/
section LZ
variable {j : Nat} {h g0 : z_H}
theorem c_leastWorn {m : Nat → Int32} {law : Option Nat} {T : LawT} (hs0 : Sh g0) (Y : Yrel g0 1 m) {k : Int32} (dl : D_X9_lawInForce g0 (some 1) = some (law, g0)) (lr : LawR g0 m k law T) {p c0 y0 c : Nat} (hp : p < 6) (hc0 : c0 < 25) (hy0 : y0 < 4) (ec : aI g0 2 p = Int32.ofNat c0) (ey : aI g0 3 p = Int32.ofNat y0) (hc : c < 25) : ∃ g' x, Sh g' ∧ Tch [29, 30, 31, 47, 51, 52] g0 g' ∧ lst (nxt (tgN T m p)) (lwN T m p) (gl c) 9 (4 * c0 + y0) x ∧ D_X4_leastWorn g0 (some 46) (some 1) (Int32.ofNat p) (Int32.ofNat c) = some (if x = FR then -1 else Int32.ofNat x, g') := by
  obtain ⟨g1, s1, T1, al, d1⟩ := c_layOut hs0 Y dl lr hp
  have ok : tgOK (tgN T m p) := fun k b hk e => tgN_lt hk e
  obtain ⟨f, hf, ef⟩ := d_fillI s1 (a := 51) (n := 100) rfl (by decide) 1000000
  have s2 : Sh (wA g1 51 f) := Sh_wA s1 rfl f
  have ini := loop_up (S := z_H) (I := fun i g => Sh g ∧ Tch [29, 30, 31, 51, 52] g1 g ∧ aI g 51 = f ∧ ∀ k, k < i → aI g 52 k = 0) (F := fun m g i => D_X4_leastWorn_18 m g (some 46) (some 1) (Int32.ofNat p) (Int32.ofNat c) (Int32.ofNat i)) (G := fun g => D_X4_leastWorn_18b (fun _ _ _ _ _ _ => none) g (some 46) (some 1) (Int32.ofNat p) (Int32.ofNat c) 100) (N := 100) (fun m g _ => ?_) (fun m g i hi I => ?_) 100 0 z_F (wA g1 51 f) (by decide) (by decide) (by show _ < 1000000; decide) ⟨s2, Tch_wA (Tch_rfl _ g1) (by decide) _, aI_wA_eq s1 rfl _, fun k hk => by omega⟩
  · obtain ⟨g2, ⟨s3, T3, a51, a52⟩, d2⟩ := ini
    have pl := placeC s3 hp (c := c0) (y := y0) (by rw [cell_aI (T3.c (by decide)), cell_aI (T1.c (by decide))]; exact ec) (by rw [cell_aI (T3.c (by decide)), cell_aI (T1.c (by decide))]; exact ey)
    have hsn : 4 * c0 + y0 < 100 := by omega
    generalize hst : 4 * c0 + y0 = st at *
    have D : DH g1 (wA g2 51 (upd (aI g2 51) st 0)) (fun x => if x = st then 0 else FC) (fun _ => false) := by
      refine ⟨Sh_wA s3 rfl _, Tch_wA T3 (by decide) _, fun k hk => ?_, fun k hk => by dsimp only; split <;> omega, fun k hk => by rw [aI_wA_ne (by decide)]; exact a52 k hk⟩
      rw [aI_wA_eq s3 rfl, a51]
      by_cases w : k = st
      · rw [w, upd_eq]; dsimp only; rw [if_pos rfl]; rfl
      · rw [upd_ne w, hf k hk]; dsimp only; rw [if_neg w]; rfl
    have J : DJ (nxt (tgN T m p)) (lwN T m p) (gl c) 9 st 0 (fun x => if x = st then 0 else FC) (fun _ => false) (fun _ _ => False) := by
      refine ⟨fun k hk => ?_, fun u x _ _ q => by simp at q, fun u a x q => q.elim, ⟨hsn, if_pos rfl⟩, fun u _ q => by simp at q⟩
      by_cases w : k = st
      · right
        dsimp only
        rw [if_pos w, w]
        exact ⟨Nat.zero_le _, fun m' c' wk => ⟨m', by rw [Nat.zero_add]; exact wk⟩⟩
      · exact Or.inl (if_neg w)
    have Y1 := Yrel_T Y T1 (fun q hq => by revert q; decide) (by decide)
    have dl1 := lawF_T hs0 (Or.inl rfl) dl s1 T1 (by decide) Y
    obtain ⟨g', x, e, l, s', T'⟩ := c_dij s1 Y1 dl1 (lr.T T1 (by decide)) hp ok al hc 100 0 z_F _ _ _ _ (by decide) (by show _ < 1000000; decide) (by decide) D J (fun _ _ q => q.elim) (fun u a _ q => by simp at q) (by decide)
    refine ⟨g', x, s', (T1.mono (by decide)).trans (T'.mono (by decide)), l, ?_⟩
    unfold D_X4_leastWorn
    rw [s_ob hs0 (ci := 4) rfl, Option.bind_some, d1, Option.bind_some, s_gQ (r := 51) s1 rfl rfl, Option.bind_some, ef, Option.bind_some]
    refine d2.trans ?_
    unfold D_X4_leastWorn_18b
    rw [if_pos (by decide), s_gQ (r := 51) s3 rfl rfl, Option.bind_some, (yR s3 (Or.inl rfl)).1, Option.bind_some, pl, Option.bind_some]
    dsimp only
    rw [aW s3 (n := 100) rfl hsn (by decide), Option.bind_some]
    exact e
  · show D_X4_leastWorn_18b _ g (some 46) (some 1) (Int32.ofNat p) (Int32.ofNat c) (Int32.ofNat 100) = _
    unfold D_X4_leastWorn_18b
    rw [if_pos (by decide), if_pos (by decide)]
  · show ∃ g', _ ∧ D_X4_leastWorn_18b (D_X4_leastWorn_18 m) g (some 46) (some 1) (Int32.ofNat p) (Int32.ofNat c) (Int32.ofNat i) = _
    obtain ⟨s3, T3, a51, a52⟩ := I
    have bw := bW s3 (a := 52) (n := 100) rfl hi (by decide) false
    rw [show b01 false = 0 from rfl] at bw
    refine ⟨wA g 52 (upd (aI g 52) i 0), ⟨Sh_wA s3 rfl _, Tch_wA T3 (by decide) _, by rw [aI_wA_ne (by decide)]; exact a51, fun k hk => ?_⟩, ?_⟩
    · rw [aI_wA_eq s3 rfl]
      by_cases q : k = i
      · rw [q, upd_eq]
      · rw [upd_ne q]; exact a52 k (by omega)
    · unfold D_X4_leastWorn_18b
      rw [if_neg (show ¬ (100 : Int32) ≤ Int32.ofNat i from fun z => by have := (nat_le (a := 100) (b := i) (by decide) (by omega)).mp z; omega), s_gQ (r := 52) s3 rfl rfl, Option.bind_some, bw, Option.bind_some, Option.bind_some, show Int32.ofNat i + 1 = Int32.ofNat (i + 1) from sc_add i 1]
theorem a_least (H : Inv j h) (x y : Int32) : Agree Inv j h (fun h => D_X10_least h (some 0) x y) (fun h => D_X11_least h (some 81) x y) := by
  have hs := H.1
  have st := Sh_t0 hs
  have ha : isY 1 := Or.inl rfl
  obtain ⟨n, hn, e1, e2⟩ := H.np
  have e2' : aI (t0 h) 83 0 = Int32.ofNat n := by rw [aI_wF]; exact e2
  have q0 : z_gQ 10 h (some 0) 0 = some (some 1) := s_gQ hs rfl rfl
  rcases xc x n (by omega) with ⟨p, hp, rfl⟩ | nx
  · rcases xc y 25 (by decide) with ⟨c, hc, rfl⟩ | ny
    · obtain ⟨c0, y0, hc0, hy0, m8, m14, a2, a3⟩ := H.at (p := p) (by omega)
      obtain ⟨law, T, dl, lr⟩ := H.law
      obtain ⟨g1, x1, s1, t1, l1, d1⟩ := c_leastWorn hs H.Y dl lr (p := p) (c := c) (by omega) hc0 hy0 a2 a3 hc
      have T1 := t1
      have st1 := Sh_t0 s1
      have c83 : aI (t0 g1) 83 = aI h 83 := by rw [aI_wF]; exact cell_aI (T1.c (by decide))
      have ra := (H.RA lr s1 T1 (by decide) (by decide)).on (t0_on s1) (by decide) (by decide) (by decide)
      obtain ⟨gs, g2, x2, o2, l2, ds, d2⟩ := m_least ra (p := p) (c := c) (by omega) hc hc0 hy0 (by rw [c83]; exact m8) (by rw [c83]; exact m14)
      rw [c83] at l2
      have := lst_one l1 l2
      subst this
      refine agree_q H (x := if x1 = FR then -1 else Int32.ofNat x1) (h1 := g1) (h2 := g2) ?_ (Same_T T1 s1 (by decide)) ?_ ((Same_t0 s1).trans (Same_M o2 (by decide)))
      · show D_X10_least h (some 0) (Int32.ofNat p) (Int32.ofNat c) = _
        unfold D_X10_least
        rw [q0, Option.bind_some, (yR hs ha).1, Option.bind_some, hasP1 hs ha e1 (by omega) hp, Option.bind_some]
        dsimp only
        rw [if_neg one_ne, cellC1 hc, Option.bind_some]
        dsimp only
        rw [if_neg one_ne, s_gQ (r := 46) hs rfl rfl, Option.bind_some, q0, Option.bind_some, s_ob hs (ci := 4) rfl, Option.bind_some, d1, Option.bind_some]
      · show D_X11_least g1 (some 81) (Int32.ofNat p) (Int32.ofNat c) = _
        unfold D_X11_least
        rw [p81 s1, Option.bind_some, s_ob st1 (ci := 11) rfl, Option.bind_some, isP1 st1 (by rw [c83]; exact e2) hn hp, Option.bind_some]
        dsimp only
        rw [if_neg one_ne, cellM1 hc, Option.bind_some]
        dsimp only
        rw [if_neg one_ne, s_ob st1 (ci := 11) rfl, Option.bind_some, ds, Option.bind_some]
        exact d2
    · refine none_q H (x := -1) ?_ ?_
      · show D_X10_least h (some 0) (Int32.ofNat p) y = _
        unfold D_X10_least
        rw [q0, Option.bind_some, (yR hs ha).1, Option.bind_some, hasP1 hs ha e1 (by omega) hp, Option.bind_some]
        dsimp only
        rw [if_neg one_ne, cellC0 ny, Option.bind_some]
        dsimp only
        rw [if_pos rfl]
      · show D_X11_least h (some 81) (Int32.ofNat p) y = _
        unfold D_X11_least
        rw [p81 hs, Option.bind_some, s_ob st (ci := 11) rfl, Option.bind_some, isP1 st e2' hn hp, Option.bind_some]
        dsimp only
        rw [if_neg one_ne, cellM0 ny, Option.bind_some]
        dsimp only
        rw [if_pos rfl]
  · refine none_q H (x := -1) ?_ ?_
    · show D_X10_least h (some 0) x y = _
      unfold D_X10_least
      rw [q0, Option.bind_some, (yR hs ha).1, Option.bind_some, hasP0 hs ha e1 (by omega) nx, Option.bind_some]
      dsimp only
      rw [if_pos rfl]
    · show D_X11_least h (some 81) x y = _
      unfold D_X11_least
      rw [p81 hs, Option.bind_some, s_ob st (ci := 11) rfl, Option.bind_some, isP0 st e2' hn nx, Option.bind_some]
      dsimp only
      rw [if_pos rfl]
end LZ
