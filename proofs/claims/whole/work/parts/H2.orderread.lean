/-! both readers: a TEXT of ORDERS -/
section H2
variable {tp : Nat → Nat} {L : Nat} {g0 g h0 h : z_H} {p n nM w q k : Nat}
/-- the reading, from a clause's first token on -/
theorem order_text : ∀ (δ k p n nM w f1 f2 : Nat) (g h : z_H), L - p = δ → δ < f1 → δ < f2 → k ≤ 12 → OSt tp L g0 h0 g h k p n nM w → ∃ (b : Bool) (gC hM hE : z_H), D_X5_read_33 f1 g (some 23) (Int32.ofNat k) = some (b01 b, gC) ∧ ((D_X11_readOrder h (some 81)).bind fun x => D_X11_orders_19 f2 x (some 81)) = D_X11_orders_46 hM (some 81) ∧ Sh hM ∧ D_X11_endText hM (some 81) = some hE ∧ OnM LMc LMf2 h0 hE ∧ fI hE 81 13 = 0 ∧ fI hE 81 20 = 0 ∧ ((b = false ∧ ∃ q, CX L g0 gC q ∧ fI hE 81 19 = 1 ∧ fI hE 81 18 = Int32.ofNat q) ∨ (b = true ∧ ∃ (k' p' n' nM' w' : Nat) (op ar K Ka : Nat → Int32) (f : Nat → Nat), fI hE 81 19 = 0 ∧ fI hE 81 18 = -1 ∧ fI hE 81 21 = Int32.ofNat k' ∧ fI hE 81 23 = Int32.ofNat nM' ∧ aI hE 92 = K ∧ aI hE 93 = Ka ∧ k' ≤ 12 ∧ nM' ≤ 400 ∧ Sh gC ∧ Tch LC g0 gC ∧ fI gC 23 3 = -1 ∧ fI gC 25 3 = Int32.ofNat n' ∧ fI gC 25 4 = Int32.ofNat k' ∧ aI gC 26 = op ∧ aI gC 27 = ar ∧ n' ≤ nM' ∧ f 0 = 0 ∧ f n' = nM' ∧ sg true op ar K Ka f 0 n' ∧ ∀ j, j < k' → OLR op ar (aI gC 28) (aI hE 112) f n' j)) := by
  intro δ
  induction δ using Nat.strongRecOn with
  | _ δ ih =>
  intro k p n nM w f1 f2 g h hδ hf1 hf2 hk S
  obtain ⟨f1, rfl⟩ : ∃ f', f1 = f' + 1 := ⟨f1 - 1, by omega⟩
  by_cases k12 : k < 12
  · obtain ⟨b, g1, h1, d1, r1, X⟩ := order_clause S k12
    have hC := S.choose_spec.choose_spec.choose_spec.choose_spec.choose_spec.1.1
    show ∃ (b : Bool) (gC hM hE : z_H), D_X5_read_33b (D_X5_read_33 f1) g (some 23) (Int32.ofNat k) = some (b01 b, gC) ∧ _
    unfold D_X5_read_33b
    rw [if_neg (show ¬ (12 : Int32) ≤ Int32.ofNat k from fun z => by have := (nat_le (a := 12) (by decide) (by omega)).mp z; omega), o23 hC.1, Option.bind_some, d1, Option.bind_some, r1, Option.bind_some]
    dsimp only
    obtain ⟨f2, rfl⟩ : ∃ f', f2 = f' + 1 := ⟨f2 - 1, by omega⟩
    rcases X with ⟨rfl, q, cx, mx⟩ | ⟨rfl, p1, n1, nM1, w1, pp, S1⟩
    · obtain ⟨hE, dE, oE, E1, E2, E3, E4⟩ := m_endX mx
      rw [if_pos (show b01 false = 0 from rfl)]
      refine ⟨false, g1, h1, hE, rfl, ?_, mx.1.1, dE, oE, E1, E2, Or.inl ⟨rfl, q, cx, E3, E4⟩⟩
      show D_X11_orders_19b (D_X11_orders_19 f2) h1 (some 81) = _
      unfold D_X11_orders_19b
      rw [mx.bad, Option.bind_some, if_neg one_ne]
    · obtain ⟨op, ar, K, Ka, f, ⟨C, M, T, O, e3, e18, e21, le, f0, fn, S0⟩, cls⟩ := S1
      have hL := C.2.2.1.1
      have hp1 := C.2.2.2.1.1
      have s59 : D_X11_isSign h1 (some 81) 59 = some (b01 (isSg tp L p1 59), h1) := m_isSg (c := 59) (by decide) M.1 M.2.2.1 M.2.2.2.1
      rw [if_neg (show ¬ b01 true = 0 by decide), q25 C.1, Option.bind_some, show Int32.ofNat k + 1 = Int32.ofNat (k + 1) from sc_add k 1, s_pV C.1 (ci := 7) rfl (by decide), Option.bind_some]
      have sA : Sh (wF g1 25 4 (.int (Int32.ofNat (k + 1)))) := Sh_wF C.1 rfl _
      have TA : Tch [25] g1 (wF g1 25 4 (.int (Int32.ofNat (k + 1)))) := Tch_wF (Tch_rfl _ _) (by decide) _ _
      have cA : ∀ a, aI (wF g1 25 4 (.int (Int32.ofNat (k + 1)))) a = aI g1 a := fun a => aI_wF _ _ _ _
      have c23 : ∀ j, fI (wF g1 25 4 (.int (Int32.ofNat (k + 1)))) 23 j = fI g1 23 j := fun j => fI_wF_ne (by omega)
      have CA : CSt tp L true (wF g1 25 4 (.int (Int32.ofNat (k + 1)))) (wF g1 25 4 (.int (Int32.ofNat (k + 1)))) p1 n1 op ar w1 := ⟨sA, Tch_rfl _ _, C.2.2.1.T TA (by decide) (by decide), C.2.2.2.1.T TA (by decide), by rw [fI_wF_ne (by decide)]; exact C.2.2.2.2.1, by rw [cA]; exact C.2.2.2.2.2.1, by rw [cA]; exact C.2.2.2.2.2.2.1, by rw [c23]; exact C.2.2.2.2.2.2.2.1, by rw [c23]; exact C.2.2.2.2.2.2.2.2.1, rfl, rfl, C.2.2.2.2.2.2.2.2.2.2.2⟩
      have f54 : fI (wF g1 25 4 (.int (Int32.ofNat (k + 1)))) 25 4 = Int32.ofNat (k + 1) := fI_wF_eq C.1 rfl _
      generalize wF g1 25 4 (.int (Int32.ofNat (k + 1))) = g2 at *
      have T2 : Tch LC g0 g2 := T.trans (TA.mono (by decide))
      rw [CA.kd, Option.bind_some]
      by_cases te : tkK tp L p1 = 3
      · -- the end
        have ns : isSg tp L p1 59 = false := by unfold isSg; rw [te]; rfl
        obtain ⟨hE, dE, oE, E1, E2, E3, E4⟩ := m_end_19 O
        rw [if_pos (show Int32.ofNat (tkK tp L p1) = 3 by rw [te]; rfl)]
        refine ⟨true, g2, h1, hE, rfl, ?_, M.1, ?_, oE, E1, E2, Or.inr ⟨rfl, k + 1, p1, n1, nM1, w1, op, ar, K, Ka, f, by rw [E3 19 (by decide) (by decide)]; exact M.2.2.2.2.2.2.2.2.1, by rw [E3 18 (by decide) (by decide)]; exact e18, by rw [E3 21 (by decide) (by decide)]; exact e21, by rw [E3 23 (by decide) (by decide)]; exact M.2.2.2.2.1, by rw [E4]; exact M.2.2.2.2.2.1, by rw [E4]; exact M.2.2.2.2.2.2.1, by omega, by have := M.2.2.2.2.2.2.2.2.2.2.2.2.2; omega, sA, T2, by rw [c23]; exact e3, CA.2.2.2.2.1, f54, CA.2.2.2.2.2.1, CA.2.2.2.2.2.2.1, le, f0, fn, S0, by rw [E4, cA]; exact cls⟩⟩
        · show D_X11_orders_19b (D_X11_orders_19 f2) h1 (some 81) = _
          unfold D_X11_orders_19b
          rw [M.bad, Option.bind_some, if_pos rfl, o81 M.1, Option.bind_some, s59, ns, Option.bind_some]
          dsimp only
          rw [if_pos (show b01 false = 0 from rfl)]
        · unfold D_X11_endText
          rw [M.bad, Option.bind_some, if_pos rfl, s_gI M.1 (ci := 11) rfl rfl, Option.bind_some, M.2.2.2.1.2.2.2.1, te, if_pos (by decide)]
          exact dE
      · rw [if_neg (show ¬ Int32.ofNat (tkK tp L p1) = 3 from fun z => te ((kd_eq (c := 3) (by decide)).mp z)), o23 CA.1, Option.bind_some]
        rcases CA.skip (c := 59) (by decide) with ⟨es, g3, d3, C3⟩ | ⟨es, g3, d3, F3⟩
        · -- ';'
          obtain ⟨pl, pn, pL⟩ := isSg_lt es hp1
          obtain ⟨h3, r3, M30⟩ := M.next
          obtain ⟨Cb, clb, Tb, qb, q4⟩ := C3.st
          obtain ⟨Mb, _, mcb, Ob, w18, w21⟩ := M30.st
          have SB : OSt tp L g0 h0 g3 h3 (k + 1) (tkN tp L p1) n1 nM1 w1 := ⟨op, ar, K, Ka, f, ⟨Cb, Mb, T2.trans Tb, O.trans Ob, by rw [qb, c23]; exact e3, by rw [w18]; exact e18, by rw [w21]; exact e21, le, f0, fn, S0⟩, by rw [clb, mcb, cA]; exact cls⟩
          obtain ⟨b, gC, hM, hE, X1, X2, X3⟩ := ih (L - tkN tp L p1) (by omega) (k + 1) (tkN tp L p1) n1 nM1 w1 f1 f2 g3 h3 rfl (by omega) (by omega) (by omega) SB
          rw [show D_X5_skipSign g2 (some 23) 59 = some (1, g3) from d3, Option.bind_some]
          dsimp only
          rw [if_neg one_ne, Option.bind_some]
          refine ⟨b, gC, hM, hE, X1, ?_, X3⟩
          rw [← X2]
          show D_X11_orders_19b (D_X11_orders_19 f2) h1 (some 81) = _
          unfold D_X11_orders_19b
          rw [M.bad, Option.bind_some, if_pos rfl, o81 M.1, Option.bind_some, s59, es, Option.bind_some]
          dsimp only
          rw [if_neg (show ¬ b01 true = 0 by decide), o81 M.1, Option.bind_some, r3, Option.bind_some, o81 M30.1, Option.bind_some]
        · -- neither
          rw [show D_X5_skipSign g2 (some 23) 59 = some (0, g3) from d3, Option.bind_some]
          dsimp only
          rw [if_pos rfl]
          obtain ⟨h3, r3, o3, a19, a18⟩ := M.must0
          have O3 : OnM LMc LMf h0 h3 := O.trans (o3.mono (by decide) (by decide))
          obtain ⟨hE, dE, oE, E1, E2, E3, E4⟩ := m_end_19 O3
          refine ⟨false, g3, h1, hE, rfl, ?_, M.1, ?_, oE, E1, E2, Or.inl ⟨rfl, p1, F3.cx T2, by rw [E3 19 (by decide) (by decide)]; exact a19, by rw [E3 18 (by decide) (by decide)]; exact a18⟩⟩
          · show D_X11_orders_19b (D_X11_orders_19 f2) h1 (some 81) = _
            unfold D_X11_orders_19b
            rw [M.bad, Option.bind_some, if_pos rfl, o81 M.1, Option.bind_some, s59, es, Option.bind_some]
            dsimp only
            rw [if_pos (show b01 false = 0 from rfl)]
          · have kb := tkK_b (tp := tp) (L := L) (p := p1)
            unfold D_X11_endText
            rw [M.bad, Option.bind_some, if_pos rfl, s_gI M.1 (ci := 11) rfl rfl, Option.bind_some, M.2.2.2.1.2.2.2.1, if_neg (show ¬ Int32.ofNat (srtN (tkK tp L p1)) = 0 from fun z => te (by have := (srt_eq (c := 0) kb (by decide)).mp z; unfold srtN at this; split at this <;> omega)), o81 M.1, Option.bind_some, r3, Option.bind_some]
            exact dE
  · have : k = 12 := by omega
    subst this
    obtain ⟨op, ar, K, Ka, f, ⟨C, M, T, O, e3, e18, e21, le, f0, fn, S0⟩, cls⟩ := S
    obtain ⟨f2, rfl⟩ : ∃ f', f2 = f' + 1 := ⟨f2 - 1, by omega⟩
    obtain ⟨g1, d1, F1⟩ := C.fail
    obtain ⟨h1, r1, X0⟩ := m_ro_fail M e21 (by omega) (Or.inr rfl)
    have mx : MX h0 h1 p := ⟨O.trans X0.1, X0.2⟩
    obtain ⟨hE, dE, oE, E1, E2, E3, E4⟩ := m_endX mx
    refine ⟨false, g1, h1, hE, ?_, ?_, mx.1.1, dE, oE, E1, E2, Or.inl ⟨rfl, p, F1.cx T, E3, E4⟩⟩
    · show D_X5_read_33b (D_X5_read_33 f1) g (some 23) (Int32.ofNat 12) = _
      unfold D_X5_read_33b
      rw [if_pos (by decide), o23 C.1, Option.bind_some, d1, Option.bind_some]
      rfl
    · rw [r1, Option.bind_some]
      show D_X11_orders_19b (D_X11_orders_19 f2) h1 (some 81) = _
      unfold D_X11_orders_19b
      rw [mx.bad, Option.bind_some, if_neg one_ne]
/-- what a text of orders' reading leaves, where it is one -/
def OGood (g gC hE : z_H) : Prop := ∃ (k n nM : Nat) (f : Nat → Nat), fI hE 81 19 = 0 ∧ fI hE 81 18 = -1 ∧ fI hE 81 21 = Int32.ofNat k ∧ fI hE 81 23 = Int32.ofNat nM ∧ k ≤ 12 ∧ nM ≤ 400 ∧ fI gC 23 3 = -1 ∧ fI gC 25 3 = Int32.ofNat n ∧ fI gC 25 4 = Int32.ofNat k ∧ n ≤ nM ∧ f 0 = 0 ∧ f n = nM ∧ sg true (aI gC 26) (aI gC 27) (aI hE 92) (aI hE 93) f 0 n ∧ ∀ j, j < k → OLR (aI gC 26) (aI gC 27) (aI gC 28) (aI hE 112) f n j
theorem orders_run (hs : Sh g) (t : TpC tp L g) {hr : z_H} (hr1 : Sh hr) (tr : TpM tp L hr) (cr : Cnst hr) : ∃ (b : Bool) (gC hM hE : z_H), D_X5_read g (some 23) 1 = some (b01 b, gC) ∧ Sh gC ∧ Tch LC g gC ∧ ((D_X11_beginText hr (some 81) 1).bind fun x => (z_ob 11 x (some 81)).bind fun _ => (D_X11_readOrder x (some 81)).bind fun y => D_X11_orders_19 z_F y (some 81)) = D_X11_orders_46 hM (some 81) ∧ Sh hM ∧ D_X11_endText hM (some 81) = some hE ∧ OnM LMc LMf2 hr hE ∧ fI hE 81 13 = 0 ∧ fI hE 81 20 = 0 ∧ ((b = false ∧ fI hE 81 19 = 1 ∧ fI gC 23 3 = fI hE 81 18) ∨ (b = true ∧ OGood g gC hE)) := by
  obtain ⟨g1, op, ar, C, T, e3, e4, d1⟩ := c_begin (ord := true) hs t
  obtain ⟨h1, K, Ka, M, O, e18, e21, r1⟩ := m_begin (ord := true) hr1 tr cr
  have hL := t.1
  have S : OSt tp L g1 h1 g1 h1 0 (tkF tp L 0) 0 0 0 := ⟨op, ar, K, Ka, fun _ => 0, ⟨C, M, Tch_rfl _ _, OnM.rfl' M.1, e3, e18, e21, Nat.le_refl _, rfl, rfl, fun i _ h => by omega⟩, fun i h => by omega⟩
  obtain ⟨b, gC, hM, hE, x1, x2, x3, x4, x5, x6, x7, X⟩ := order_text _ 0 (tkF tp L 0) 0 0 0 z_F z_F g1 h1 rfl (by show _ < 1000000; omega) (by show _ < 1000000; omega) (by decide) S
  have r0 : ((D_X11_beginText hr (some 81) 1).bind fun x => (z_ob 11 x (some 81)).bind fun _ => (D_X11_readOrder x (some 81)).bind fun y => D_X11_orders_19 z_F y (some 81)) = D_X11_orders_46 hM (some 81) := by
    rw [show D_X11_beginText hr (some 81) 1 = some h1 from r1, Option.bind_some, o81 M.1, Option.bind_some]
    exact x2
  have OE : OnM LMc LMf2 hr hE := (O.mono (by decide) (by decide)).trans x5
  have dC : D_X5_read g (some 23) 1 = some (b01 b, gC) := by
    rw [show D_X5_read g (some 23) 1 = D_X5_read_33 z_F g1 (some 23) 0 from d1]; exact x1
  rcases X with ⟨rfl, q, cx, y1, y2⟩ | ⟨rfl, k', p', n', nM', w', op', ar', K', Ka', f, y1, y2, y3, y4, y5, y6, y7, y8, y9, z1, z2, z3, z4, z5, z6, z7, z8, z9, z10, z11⟩
  · exact ⟨false, gC, hM, hE, dC, cx.1, T.trans cx.2.1, r0, x3, x4, OE, x6, x7, Or.inl ⟨rfl, y1, by rw [y2]; exact cx.2.2.1⟩⟩
  · refine ⟨true, gC, hM, hE, dC, y9, T.trans z1, r0, x3, x4, OE, x6, x7, Or.inr ⟨rfl, k', n', nM', f, y1, y2, y3, y4, y7, y8, z2, z3, z4, z7, z8, z9, ?_, ?_⟩⟩
    · rw [z5, z6, y5, y6]; exact z10
    · rw [z5, z6]; exact z11
end H2
