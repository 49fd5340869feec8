/-! both readers: a LAW's TEXT -/
section F7
variable {tp : Nat → Nat} {L : Nat} {g0 g h0 h : z_H} {p n nM w q k : Nat}
def CLR (op ar cl mc : Nat → Int32) (f : Nat → Nat) (n j : Nat) : Prop := ∃ v s0 s1 s2 : Nat, v < 3 ∧ cl (6 * j) = Int32.ofNat (5 + v) ∧ cl (6 * j + 2) = Int32.ofNat s0 ∧ cl (6 * j + 3) = Int32.ofNat s1 ∧ cl (6 * j + 4) = Int32.ofNat s1 ∧ cl (6 * j + 5) = Int32.ofNat s2 ∧ s0 ≤ s1 ∧ s1 ≤ s2 ∧ s2 ≤ n ∧ mc (8 * j) = Int32.ofNat v ∧ mc (8 * j + 3) = Int32.ofNat (f s0) ∧ mc (8 * j + 4) = Int32.ofNat (f s1) ∧ mc (8 * j + 5) = Int32.ofNat (f s1) ∧ mc (8 * j + 6) = Int32.ofNat (f s2) ∧ (v = 2 → s1 = s0) ∧ (v ≠ 2 → segOK op ar s0 s1) ∧ (s1 = s2 ∨ segT op ar s1 s2)
theorem CLR.ext {op ar cl mc op' ar' cl' mc' : Nat → Int32} {f f' : Nat → Nat} {n n' j : Nat} (H : CLR op ar cl mc f n j) (hn : n ≤ n') (e1 : ∀ i, i < n → op' i = op i ∧ ar' i = ar i) (ef : ∀ i, i ≤ n → f' i = f i) (ec : ∀ i, i < 6 * (j + 1) → cl' i = cl i) (em : ∀ i, i < 8 * (j + 1) → mc' i = mc i) : CLR op' ar' cl' mc' f' n' j := by
  obtain ⟨v, s0, s1, s2, a1, a2, a3, a4, a5, a6, b1, b2, b3, c1, c2, c3, c4, c5, d1, d2, d3⟩ := H
  refine ⟨v, s0, s1, s2, a1, by rw [ec _ (by omega)]; exact a2, by rw [ec _ (by omega)]; exact a3, by rw [ec _ (by omega)]; exact a4, by rw [ec _ (by omega)]; exact a5, by rw [ec _ (by omega)]; exact a6, b1, b2, by omega, by rw [em _ (by omega)]; exact c1, by rw [em _ (by omega), ef _ (by omega)]; exact c2, by rw [em _ (by omega), ef _ (by omega)]; exact c3, by rw [em _ (by omega), ef _ (by omega)]; exact c4, by rw [em _ (by omega), ef _ (by omega)]; exact c5, d1, fun z => segOK_cg (d2 z) (fun i _ h => e1 i (by omega)), d3.imp id (fun z => segT_cg z (fun i _ h => e1 i (by omega)))⟩
def LSt (tp : Nat → Nat) (L : Nat) (g0 h0 g h : z_H) (k p n nM w : Nat) : Prop := ∃ (op ar K Ka : Nat → Int32) (f : Nat → Nat), CSt tp L false g g p n op ar w ∧ MS0 tp L false h h p nM K Ka w ∧ Tch LC g0 g ∧ OnM LMc LMf h0 h ∧ fI g 23 3 = -1 ∧ fI h 81 18 = -1 ∧ fI h 81 21 = Int32.ofNat k ∧ n ≤ nM ∧ f 0 = 0 ∧ f n = nM ∧ sg false op ar K Ka f 0 n ∧ ∀ j, j < k → CLR op ar (aI g 28) (aI h 91) f n j
theorem law_clause (S : LSt tp L g0 h0 g h k p n nM w) (hk : k < 12) : ∃ (b : Bool) (gC hM : z_H), D_X5_readClause g (some 23) (Int32.ofNat k) = some (b01 b, gC) ∧ D_X11_readLaw h (some 81) = some hM ∧ ((b = false ∧ ∃ q, CX L g0 gC q ∧ MX h0 hM q) ∨ (b = true ∧ ∃ p' n' nM' w', p < p' ∧ LSt tp L g0 h0 gC hM (k + 1) p' n' nM' w')) := by
  obtain ⟨op, ar, K, Ka, f, C, M, T, O, e3, e18, e21, le, f0, fn, S0, cls⟩ := S
  have hp := C.2.2.2.1.1
  cases e : wsIdx tp L p wdLV with
  | none =>
    obtain ⟨gC, dC, F⟩ := c_rc_fail C e (Int32.ofNat k)
    obtain ⟨hM, dM, X⟩ := m_rl_fail M e21 (by omega) (Or.inl e)
    exact ⟨false, gC, hM, dC, dM, Or.inl ⟨rfl, p, F.cx T, O.trans X.1, X.2⟩⟩
  | some v =>
    have hv : v < 3 := (wsIdx_lt e).1
    have pl : p < L := tk_lt (tp := tp) (by rw [(wsIdx_lt e).2]; decide)
    have nb := tkN_b (tp := tp) hp
    obtain ⟨g1, C1, T1, q1, _, cl1, d1⟩ := c_rc_39 C hk (v := v + 5) (by omega)
    obtain ⟨h1, M1, O1, x18, x21, y0, y3, yk, r1⟩ := m_rl_ok M e21 hk e
    have hC : D_X5_readClause g (some 23) (Int32.ofNat k) = D_X5_readClause_39 g (some 23) (Int32.ofNat k) (Int32.ofNat (v + 5)) := by
      unfold D_X5_readClause D_X5_readClause_15
      rw [s_gI C.1 (ci := 5) rfl rfl, Option.bind_some, C.2.2.2.2.2.2.2.2.1, if_pos (show b01 false = 0 from rfl), o23 C.1, Option.bind_some, C.lv, e, Option.bind_some]
      dsimp only
      rw [if_neg (show ¬ enc (some v) = -1 from of_nm1 (by omega)), s_gI C.1 (ci := 5) rfl rfl, Option.bind_some, C.2.2.2.2.2.2.2.2.1, if_pos (show b01 false = 0 from rfl), Option.bind_some, show enc (some v) + 5 = Int32.ofNat (v + 5) from sc_add v 5]
    have xv : ([1, 2, 1, 2, 0, 1, 1, 0].getD (v + 5) 0 ≤ (0 : Int32)) ↔ v = 2 := by
      rcases (show v = 0 ∨ v = 1 ∨ v = 2 by omega) with r | r | r <;> subst r <;> decide
    -- from behind the SUM on
    have rest : ∀ (ga ha : z_H) (pa na nMa wa : Nat) (opa ara Ka' Kaa : Nat → Int32) (fa : Nat → Nat), CSt tp L false ga ga pa na opa ara wa → MS0 tp L false ha ha pa nMa Ka' Kaa wa → tkN tp L p ≤ pa → Tch LC g0 ga → OnM LMc LMf h0 ha → fI ga 23 3 = -1 → fI ha 81 18 = -1 → fI ha 81 21 = Int32.ofNat (k + 1) → na ≤ nMa → n ≤ na → fa 0 = 0 → fa na = nMa → sg false opa ara Ka' Kaa fa 0 na → (∀ i, i ≤ n → fa i = f i) → (∀ i, i < n → opa i = op i ∧ ara i = ar i) → aI ga 28 = aI g1 28 → aI ha 91 = aI h1 91 → (v = 2 → na = n) → (v ≠ 2 → segOK opa ara n na) → ∃ (b : Bool) (gC hM : z_H), D_X5_readClause_97 ga (some 23) (Int32.ofNat k) (Int32.ofNat (v + 5)) = some (b01 b, gC) ∧ D_X11_readLaw_135 ha (some 81) (Int32.ofNat (8 * k)) = some hM ∧ ((b = false ∧ ∃ q, CX L g0 gC q ∧ MX h0 hM q) ∨ (b = true ∧ ∃ p' n' nM' w', p < p' ∧ LSt tp L g0 h0 gC hM (k + 1) p' n' nM' w')) := by
      intro ga ha pa na nMa wa opa ara Ka' Kaa fa Ca Ma hpa Ta Oa ea3 ea18 ea21 lea nna fa0 fan Sa fak opk cla mca v2 vs
      obtain ⟨g2, C2, T2, q2, _, cl2, d2⟩ := c_rc_97 Ca hk hv
      obtain ⟨h2, M2, O2, z18, z21, mc2, r2⟩ := m_rl_135 Ma hk
      -- the clause's end
      have fin : ∀ (gb hb : z_H) (pb nb nMb wb : Nat) (opb arb Kb Kab : Nat → Int32) (fb : Nat → Nat), CSt tp L false gb gb pb nb opb arb wb → MS0 tp L false hb hb pb nMb Kb Kab wb → tkN tp L p ≤ pb → Tch LC g0 gb → OnM LMc LMf h0 hb → fI gb 23 3 = -1 → fI hb 81 18 = -1 → fI hb 81 21 = Int32.ofNat (k + 1) → nb ≤ nMb → na ≤ nb → fb 0 = 0 → fb nb = nMb → sg false opb arb Kb Kab fb 0 nb → (∀ i, i ≤ na → fb i = fa i) → (∀ i, i < na → opb i = opa i ∧ arb i = ara i) → aI gb 28 = aI g2 28 → aI hb 91 = aI h2 91 → (na = nb ∨ segT opb arb na nb) → ∃ (b : Bool) (gC hM : z_H), D_X5_readClause_216 gb (some 23) (Int32.ofNat k) = some (b01 b, gC) ∧ D_X11_readLaw_185 hb (some 81) (Int32.ofNat (8 * k)) = some hM ∧ ((b = false ∧ ∃ q, CX L g0 gC q ∧ MX h0 hM q) ∨ (b = true ∧ ∃ p' n' nM' w', p < p' ∧ LSt tp L g0 h0 gC hM (k + 1) p' n' nM' w')) := by
        intro gb hb pb nb' nMb wb opb arb Kb Kab fb Cb Mb hpb Tb Ob eb3 eb18 eb21 leb nnb fb0 fbn Sb fbk opbk clb mcb tst
        obtain ⟨g3, C3, T3, q3, _, cl3, d3⟩ := c_rc_216 Cb hk
        have M3 := Mb.wA (a := 91) rfl (by decide) (by decide) (by decide) (upd (aI hb 91) (8 * k + 6) (fI hb 81 23))
        have O3 := onA Mb.1 (a := 91) (S := LMc) (ks := LMf) rfl (by decide) (upd (aI hb 91) (8 * k + 6) (fI hb 81 23))
        have mc3 : aI (wA hb 91 (upd (aI hb 91) (8 * k + 6) (fI hb 81 23))) 91 = upd (aI hb 91) (8 * k + 6) (Int32.ofNat nMb) := by rw [aI_wA_eq Mb.1 rfl, Mb.2.2.2.2.1]
        refine ⟨true, g3, _, d3, m_rl_185 Mb.1 hk, Or.inr ⟨rfl, pb, nb', nMb, wb, by omega, opb, arb, Kb, Kab, fb, C3, M3, Tb.trans T3, Ob.trans O3, by rw [q3]; exact eb3, by rw [fI_wA]; exact eb18, by rw [fI_wA]; exact eb21, leb, fb0, fbn, Sb, fun j hj => ?_⟩⟩
        have clA : ∀ i, i < 6 * k → aI g3 28 i = aI g 28 i := fun i hi => by
          rw [cl3, upd_ne (by omega), clb, cl2, upd_ne (by omega), upd_ne (by omega), cla, cl1, upd_ne (by omega), upd_ne (by omega), upd_ne (by omega)]
        have mcA : ∀ i, i < 8 * k → aI (wA hb 91 (upd (aI hb 91) (8 * k + 6) (fI hb 81 23))) 91 i = aI h 91 i := fun i hi => by
          rw [mc3, upd_ne (by omega), mcb, mc2, upd_ne (by omega), upd_ne (by omega), mca]; exact yk i hi
        by_cases q : j < k
        · exact (cls j q).ext (by omega) (fun i hi => ⟨(opbk i (by omega)).1.trans (opk i hi).1, (opbk i (by omega)).2.trans (opk i hi).2⟩) (fun i hi => (fbk i (by omega)).trans (fak i hi)) (fun i hi => clA i (by omega)) (fun i hi => mcA i (by omega))
        · have jk : j = k := by omega
          subst jk
          have fn1 : fb n = nM := by rw [fbk n (by omega), fak n (Nat.le_refl _), fn]
          have fn2 : fb na = nMa := by rw [fbk na (Nat.le_refl _), fan]
          refine ⟨v, n, na, nb', hv, ?_, ?_, ?_, ?_, ?_, nna, nnb, Nat.le_refl _, ?_, ?_, ?_, ?_, ?_, v2, fun z => segOK_cg (vs z) (fun i _ hi => opbk i hi), tst⟩
          · rw [cl3, upd_ne (by omega), clb, cl2, upd_ne (by omega), upd_ne (by omega), cla, cl1, upd_ne (by omega), upd_ne (by omega), upd_eq, Nat.add_comm]
          · rw [cl3, upd_ne (by omega), clb, cl2, upd_ne (by omega), upd_ne (by omega), cla, cl1, upd_eq]
          · rw [cl3, upd_ne (by omega), clb, cl2, upd_ne (by omega), upd_eq]
          · rw [cl3, upd_ne (by omega), clb, cl2, upd_eq]
          · rw [cl3, upd_eq]
          · rw [mc3, upd_ne (by omega), mcb, mc2, upd_ne (by omega), upd_ne (by omega), mca]; exact y0
          · rw [mc3, upd_ne (by omega), mcb, mc2, upd_ne (by omega), upd_ne (by omega), mca, y3, fn1]
          · rw [mc3, upd_ne (by omega), mcb, mc2, upd_ne (by omega), upd_eq, fn2]
          · rw [mc3, upd_ne (by omega), mcb, mc2, upd_eq, fn2]
          · rw [mc3, upd_eq, fbn]
      rw [d2, r2]
      unfold D_X5_readClause_193
      rw [o23 C2.1, Option.bind_some, C2.wIf, Option.bind_some]
      dsimp only
      rw [b01_if]
      have s18 : fI h2 81 18 = -1 := by rw [z18]; exact ea18
      have s21 : fI h2 81 21 = Int32.ofNat (k + 1) := by rw [z21]; exact ea21
      cases ei : isW tp L pa wdIf with
      | false =>
        rw [if_neg (by decide), if_neg (by decide)]
        exact fin g2 h2 pa na nMa wa opa ara Ka' Kaa fa C2 M2 hpa (Ta.trans T2) (Oa.trans O2) (q2.trans ea3) s18 s21 lea (Nat.le_refl _) fa0 fan Sa (fun _ _ => rfl) (fun _ _ => ⟨rfl, rfl⟩) rfl rfl (Or.inl rfl)
      | true =>
        obtain ⟨_, pn, _⟩ := isW_lt ei Ca.2.2.2.1.1
        obtain ⟨g3, d3, C30⟩ := C2.next
        obtain ⟨C3, cl3, T3, q3, _⟩ := C30.st
        obtain ⟨h3, r3, M30⟩ := M2.next
        obtain ⟨M3, mc3, _, O3, u18, u21⟩ := M30.st
        obtain ⟨b, g4, h4, d4, r4, X⟩ := both_test C3 M3 lea
        rw [if_pos rfl, if_pos rfl, o23 C2.1, Option.bind_some, d3, Option.bind_some, o23 C3.1, Option.bind_some, d4, Option.bind_some, r3, Option.bind_some, o81 M3.1, Option.bind_some, r4, Option.bind_some]
        dsimp only
        rcases X with ⟨rfl, q, cf, mf⟩ | ⟨rfl, pb, nb', opb, arb, ws, nMb, Kb, Kab, hpb, Cb0, Mb0, Rb, j1, j2⟩
        · obtain ⟨h5, r5, X5⟩ := m_rl_185F (mf.mx (hA := h0) (Oa.trans (O2.trans O3))) hk
          exact ⟨false, g4, h5, by rw [if_pos (show b01 false = 0 from rfl)]; rfl, r5, Or.inl ⟨rfl, q, cf.cx (Ta.trans (T2.trans T3)), X5⟩⟩
        · obtain ⟨Cb, clb, Tb, qb, _⟩ := Cb0.st
          obtain ⟨Mb, mcb, _, Ob, w18, w21⟩ := Mb0.st
          obtain ⟨fb, fb0, fbn, Sb, fbk⟩ := sg_ext Sa fa0 fan Rb.1 j1 j2
          have Rle := Rb.1.le
          have Rlo := Rb.1.1
          have w50 := Cb.2.2.2.2.2.2.2.2.2.2.2.2
          rw [if_neg (show ¬ b01 true = 0 by decide)]
          exact fin g4 h4 pb nb' nMb _ opb arb Kb Kab fb Cb Mb (by omega) (Ta.trans (T2.trans (T3.trans Tb))) (Oa.trans (O2.trans (O3.trans Ob))) (by rw [qb, q3, q2]; exact ea3) (by rw [w18, u18]; exact s18) (by rw [w21, u21]; exact s21) (by omega) Rlo fb0 fbn Sb fbk j1 (by rw [clb, cl3]) (by rw [mcb, mc3]) (Or.inr (Rb.seg (by omega)))
    rw [hC, d1, r1]
    have b18 : fI h1 81 18 = -1 := by rw [x18]; exact e18
    by_cases z : v = 2
    · rw [if_pos (xv.mpr z), if_pos z]
      exact rest g1 h1 (tkN tp L p) n nM w op ar K Ka f C1 M1 (Nat.le_refl _) (T.trans T1) (O.trans O1) (by rw [q1]; exact e3) b18 x21 le (Nat.le_refl _) f0 fn S0 (fun _ _ => rfl) (fun _ _ => ⟨rfl, rfl⟩) rfl rfl (fun _ => rfl) (fun y => absurd z y)
    · rw [if_neg (fun y => z (xv.mp y)), if_neg z]
      obtain ⟨b, g2, h2, d2, r2, X⟩ := both_sum C1 M1 le
      rw [d2, Option.bind_some, r2, Option.bind_some]
      dsimp only
      rcases X with ⟨rfl, q, cf, mf⟩ | ⟨rfl, pb, nb', opb, arb, ws, nMb, Kb, Kab, hpb, Cb0, Mb0, Rb, j1, j2⟩
      · obtain ⟨h3, r3, X3⟩ := m_rl_135F (mf.mx (hA := h0) (O.trans O1)) hk
        exact ⟨false, g2, h3, by rw [if_pos (show b01 false = 0 from rfl)]; rfl, r3, Or.inl ⟨rfl, q, cf.cx (T.trans T1), X3⟩⟩
      · obtain ⟨Cb, clb, Tb, qb, _⟩ := Cb0.st
        obtain ⟨Mb, mcb, _, Ob, w18, w21⟩ := Mb0.st
        obtain ⟨fb, fb0, fbn, Sb, fbk⟩ := sg_ext S0 f0 fn Rb.1 j1 j2
        have Rle := Rb.1.le
        have Rlo := Rb.1.1
        have w50 := Cb.2.2.2.2.2.2.2.2.2.2.2.2
        rw [if_neg (show ¬ b01 true = 0 by decide)]
        exact rest g2 h2 pb nb' nMb _ opb arb Kb Kab fb Cb Mb hpb (T.trans (T1.trans Tb)) (O.trans (O1.trans Ob)) (by rw [qb, q1]; exact e3) (by rw [w18]; exact b18) (by rw [w21]; exact x21) (by omega) Rlo fb0 fbn Sb fbk j1 clb mcb (fun y => absurd y z) (fun _ => Rb.2.1.deep (by omega))
/-- the text's end, in the reference -/
def LMf2 : List Nat := [13, 14, 15, 16, 17, 18, 19, 20, 21, 23, 26, 29, 30]
theorem m_end_19 {hB : z_H} (o : OnM LMc LMf h0 hB) : ∃ hE, D_X11_endText_19 hB (some 81) = some hE ∧ OnM LMc LMf2 h0 hE ∧ fI hE 81 13 = 0 ∧ fI hE 81 20 = 0 ∧ (∀ j, j ≠ 13 → j ≠ 20 → fI hE 81 j = fI hB 81 j) ∧ (∀ a, aI hE a = aI hB a) := by
  have o1 := onMF o.1 (k := 20) rfl (S := LMc) (ks := LMf2) (by decide) (by decide) 0
  have o2 := onMF o1.1 (k := 13) rfl (S := LMc) (ks := LMf2) (by decide) (by decide) 0
  refine ⟨_, ?_, (o.mono (by decide) (by decide)).trans (o1.trans o2), fI_wF_eq o1.1 rfl _, by rw [fI_wF_ne (by decide)]; exact fI_wF_eq o.1 rfl _, fun j h1 h2 => by rw [fI_wF_ne (by omega), fI_wF_ne (by omega)], fun a => by rw [aI_wF, aI_wF]⟩
  unfold D_X11_endText_19
  rw [s_pV o.1 (ci := 11) rfl (by decide), Option.bind_some, s_pV o1.1 (ci := 11) rfl (by decide), Option.bind_some]
theorem m_endX (M : MX h0 h q) : ∃ hE, D_X11_endText h (some 81) = some hE ∧ OnM LMc LMf2 h0 hE ∧ fI hE 81 13 = 0 ∧ fI hE 81 20 = 0 ∧ fI hE 81 19 = 1 ∧ fI hE 81 18 = Int32.ofNat q := by
  obtain ⟨hE, d, o, a, b, c, _⟩ := m_end_19 M.1
  refine ⟨hE, ?_, o, a, b, by rw [c 19 (by decide) (by decide)]; exact M.2.1, by rw [c 18 (by decide) (by decide)]; exact M.2.2⟩
  unfold D_X11_endText
  rw [M.bad, Option.bind_some, if_neg one_ne]
  exact d
/-- the reading, from a clause's first token on -/
theorem law_text : ∀ (δ k p n nM w f1 f2 : Nat) (g h : z_H), L - p = δ → δ < f1 → δ < f2 → k ≤ 12 → LSt tp L g0 h0 g h k p n nM w → ∃ (b : Bool) (gC hM hE : z_H), D_X5_read_33 f1 g (some 23) (Int32.ofNat k) = some (b01 b, gC) ∧ ((D_X11_readLaw h (some 81)).bind fun x => D_X11_law_37 f2 x (some 81)) = D_X11_law_64 hM (some 81) ∧ Sh hM ∧ D_X11_endText hM (some 81) = some hE ∧ OnM LMc LMf2 h0 hE ∧ fI hE 81 13 = 0 ∧ fI hE 81 20 = 0 ∧ ((b = false ∧ ∃ q, CX L g0 gC q ∧ fI hE 81 19 = 1 ∧ fI hE 81 18 = Int32.ofNat q) ∨ (b = true ∧ ∃ (k' p' n' nM' w' : Nat) (op ar K Ka : Nat → Int32) (f : Nat → Nat), fI hE 81 19 = 0 ∧ fI hE 81 18 = -1 ∧ fI hE 81 21 = Int32.ofNat k' ∧ fI hE 81 23 = Int32.ofNat nM' ∧ aI hE 92 = K ∧ aI hE 93 = Ka ∧ k' ≤ 12 ∧ nM' ≤ 400 ∧ Sh gC ∧ Tch LC g0 gC ∧ fI gC 23 3 = -1 ∧ fI gC 25 3 = Int32.ofNat n' ∧ fI gC 25 4 = Int32.ofNat k' ∧ aI gC 26 = op ∧ aI gC 27 = ar ∧ n' ≤ nM' ∧ f 0 = 0 ∧ f n' = nM' ∧ sg false op ar K Ka f 0 n' ∧ ∀ j, j < k' → CLR op ar (aI gC 28) (aI hE 91) f n' j)) := by
  intro δ
  induction δ using Nat.strongRecOn with
  | _ δ ih =>
  intro k p n nM w f1 f2 g h hδ hf1 hf2 hk S
  obtain ⟨f1, rfl⟩ : ∃ f', f1 = f' + 1 := ⟨f1 - 1, by omega⟩
  by_cases k12 : k < 12
  · obtain ⟨b, g1, h1, d1, r1, X⟩ := law_clause S k12
    have hC := S.choose_spec.choose_spec.choose_spec.choose_spec.choose_spec.1
    show ∃ (b : Bool) (gC hM hE : z_H), D_X5_read_33b (D_X5_read_33 f1) g (some 23) (Int32.ofNat k) = some (b01 b, gC) ∧ _
    unfold D_X5_read_33b
    rw [if_neg (show ¬ (12 : Int32) ≤ Int32.ofNat k from fun z => by have := (nat_le (a := 12) (by decide) (by omega)).mp z; omega), o23 hC.1, Option.bind_some, d1, Option.bind_some, r1, Option.bind_some]
    dsimp only
    obtain ⟨f2, rfl⟩ : ∃ f', f2 = f' + 1 := ⟨f2 - 1, by omega⟩
    rcases X with ⟨rfl, q, cx, mx⟩ | ⟨rfl, p1, n1, nM1, w1, pp, S1⟩
    · obtain ⟨hE, dE, oE, E1, E2, E3, E4⟩ := m_endX mx
      rw [if_pos (show b01 false = 0 from rfl)]
      refine ⟨false, g1, h1, hE, rfl, ?_, mx.1.1, dE, oE, E1, E2, Or.inl ⟨rfl, q, cx, E3, E4⟩⟩
      show D_X11_law_37b (D_X11_law_37 f2) h1 (some 81) = _
      unfold D_X11_law_37b
      rw [mx.bad, Option.bind_some, if_neg one_ne]
    · obtain ⟨op, ar, K, Ka, f, C, M, T, O, e3, e18, e21, le, f0, fn, S0, cls⟩ := S1
      have hL := C.2.2.1.1
      have hp1 := C.2.2.2.1.1
      have s59 : D_X11_isSign h1 (some 81) 59 = some (b01 (isSg tp L p1 59), h1) := m_isSg (c := 59) (by decide) M.1 M.2.2.1 M.2.2.2.1
      rw [if_neg (show ¬ b01 true = 0 by decide), q25 C.1, Option.bind_some, show Int32.ofNat k + 1 = Int32.ofNat (k + 1) from sc_add k 1, s_pV C.1 (ci := 7) rfl (by decide), Option.bind_some]
      have sA : Sh (wF g1 25 4 (.int (Int32.ofNat (k + 1)))) := Sh_wF C.1 rfl _
      have TA : Tch [25] g1 (wF g1 25 4 (.int (Int32.ofNat (k + 1)))) := Tch_wF (Tch_rfl _ _) (by decide) _ _
      have cA : ∀ a, aI (wF g1 25 4 (.int (Int32.ofNat (k + 1)))) a = aI g1 a := fun a => aI_wF _ _ _ _
      have c23 : ∀ j, fI (wF g1 25 4 (.int (Int32.ofNat (k + 1)))) 23 j = fI g1 23 j := fun j => fI_wF_ne (by omega)
      have CA : CSt tp L false (wF g1 25 4 (.int (Int32.ofNat (k + 1)))) (wF g1 25 4 (.int (Int32.ofNat (k + 1)))) p1 n1 op ar w1 := ⟨sA, Tch_rfl _ _, C.2.2.1.T TA (by decide) (by decide), C.2.2.2.1.T TA (by decide), by rw [fI_wF_ne (by decide)]; exact C.2.2.2.2.1, by rw [cA]; exact C.2.2.2.2.2.1, by rw [cA]; exact C.2.2.2.2.2.2.1, by rw [c23]; exact C.2.2.2.2.2.2.2.1, by rw [c23]; exact C.2.2.2.2.2.2.2.2.1, rfl, rfl, C.2.2.2.2.2.2.2.2.2.2.2⟩
      have f54 : fI (wF g1 25 4 (.int (Int32.ofNat (k + 1)))) 25 4 = Int32.ofNat (k + 1) := fI_wF_eq C.1 rfl _
      generalize wF g1 25 4 (.int (Int32.ofNat (k + 1))) = g2 at *
      have T2 : Tch LC g0 g2 := T.trans (TA.mono (by decide))
      rw [CA.kd, Option.bind_some]
      by_cases te : tkK tp L p1 = 3
      · -- the end
        have ns : isSg tp L p1 59 = false := by unfold isSg; rw [te]; rfl
        obtain ⟨hE, dE, oE, E1, E2, E3, E4⟩ := m_end_19 O
        rw [if_pos (show Int32.ofNat (tkK tp L p1) = 3 by rw [te]; rfl)]
        refine ⟨true, g2, h1, hE, rfl, ?_, M.1, ?_, oE, E1, E2, Or.inr ⟨rfl, k + 1, p1, n1, nM1, w1, op, ar, K, Ka, f, by rw [E3 19 (by decide) (by decide)]; exact M.2.2.2.2.2.2.2.2.1, by rw [E3 18 (by decide) (by decide)]; exact e18, by rw [E3 21 (by decide) (by decide)]; exact e21, by rw [E3 23 (by decide) (by decide)]; exact M.2.2.2.2.1, by rw [E4]; exact M.2.2.2.2.2.1, by rw [E4]; exact M.2.2.2.2.2.2.1, by omega, by have := M.2.2.2.2.2.2.2.2.2.2.2.2.2; omega, sA, T2, by rw [c23]; exact e3, CA.2.2.2.2.1, f54, CA.2.2.2.2.2.1, CA.2.2.2.2.2.2.1, le, f0, fn, S0, by rw [E4, cA]; exact cls⟩⟩
        · show D_X11_law_37b (D_X11_law_37 f2) h1 (some 81) = _
          unfold D_X11_law_37b
          rw [M.bad, Option.bind_some, if_pos rfl, o81 M.1, Option.bind_some, s59, ns, Option.bind_some]
          dsimp only
          rw [if_pos (show b01 false = 0 from rfl)]
        · unfold D_X11_endText
          rw [M.bad, Option.bind_some, if_pos rfl, s_gI M.1 (ci := 11) rfl rfl, Option.bind_some, M.2.2.2.1.2.2.2.1, te, if_pos (by decide)]
          exact dE
      · rw [if_neg (show ¬ Int32.ofNat (tkK tp L p1) = 3 from fun z => te ((kd_eq (c := 3) (by decide)).mp z)), o23 CA.1, Option.bind_some]
        rcases CA.skip (c := 59) (by decide) with ⟨es, g3, d3, C3⟩ | ⟨es, g3, d3, F3⟩
        · -- ';'
          obtain ⟨pl, pn, pL⟩ := isSg_lt es hp1
          obtain ⟨h3, r3, M30⟩ := M.next
          obtain ⟨Cb, clb, Tb, qb, q4⟩ := C3.st
          obtain ⟨Mb, mcb, _, Ob, w18, w21⟩ := M30.st
          have SB : LSt tp L g0 h0 g3 h3 (k + 1) (tkN tp L p1) n1 nM1 w1 := ⟨op, ar, K, Ka, f, Cb, Mb, T2.trans Tb, O.trans Ob, by rw [qb, c23]; exact e3, by rw [w18]; exact e18, by rw [w21]; exact e21, le, f0, fn, S0, by rw [clb, mcb, cA]; exact cls⟩
          obtain ⟨b, gC, hM, hE, X1, X2, X3⟩ := ih (L - tkN tp L p1) (by omega) (k + 1) (tkN tp L p1) n1 nM1 w1 f1 f2 g3 h3 rfl (by omega) (by omega) (by omega) SB
          rw [show D_X5_skipSign g2 (some 23) 59 = some (1, g3) from d3, Option.bind_some]
          dsimp only
          rw [if_neg one_ne, Option.bind_some]
          refine ⟨b, gC, hM, hE, X1, ?_, X3⟩
          rw [← X2]
          show D_X11_law_37b (D_X11_law_37 f2) h1 (some 81) = _
          unfold D_X11_law_37b
          rw [M.bad, Option.bind_some, if_pos rfl, o81 M.1, Option.bind_some, s59, es, Option.bind_some]
          dsimp only
          rw [if_neg (show ¬ b01 true = 0 by decide), o81 M.1, Option.bind_some, r3, Option.bind_some, o81 M30.1, Option.bind_some]
        · -- neither
          rw [show D_X5_skipSign g2 (some 23) 59 = some (0, g3) from d3, Option.bind_some]
          dsimp only
          rw [if_pos rfl]
          obtain ⟨h3, r3, o3, a19, a18⟩ := M.must0
          have O3 : OnM LMc LMf h0 h3 := O.trans (o3.mono (by decide) (by decide))
          obtain ⟨hE, dE, oE, E1, E2, E3, E4⟩ := m_end_19 O3
          refine ⟨false, g3, h1, hE, rfl, ?_, M.1, ?_, oE, E1, E2, Or.inl ⟨rfl, p1, F3.cx T2, by rw [E3 19 (by decide) (by decide)]; exact a19, by rw [E3 18 (by decide) (by decide)]; exact a18⟩⟩
          · show D_X11_law_37b (D_X11_law_37 f2) h1 (some 81) = _
            unfold D_X11_law_37b
            rw [M.bad, Option.bind_some, if_pos rfl, o81 M.1, Option.bind_some, s59, es, Option.bind_some]
            dsimp only
            rw [if_pos (show b01 false = 0 from rfl)]
          · have kb := tkK_b (tp := tp) (L := L) (p := p1)
            unfold D_X11_endText
            rw [M.bad, Option.bind_some, if_pos rfl, s_gI M.1 (ci := 11) rfl rfl, Option.bind_some, M.2.2.2.1.2.2.2.1, if_neg (show ¬ Int32.ofNat (srtN (tkK tp L p1)) = 0 from fun z => te (by have := (srt_eq (c := 0) kb (by decide)).mp z; unfold srtN at this; split at this <;> omega)), o81 M.1, Option.bind_some, r3, Option.bind_some]
            exact dE
  · have : k = 12 := by omega
    subst this
    obtain ⟨op, ar, K, Ka, f, C, M, T, O, e3, e18, e21, le, f0, fn, S0, cls⟩ := S
    obtain ⟨f2, rfl⟩ : ∃ f', f2 = f' + 1 := ⟨f2 - 1, by omega⟩
    obtain ⟨g1, d1, F1⟩ := C.fail
    obtain ⟨h1, r1, X0⟩ := m_rl_fail M e21 (by omega) (Or.inr rfl)
    have mx : MX h0 h1 p := ⟨O.trans X0.1, X0.2⟩
    obtain ⟨hE, dE, oE, E1, E2, E3, E4⟩ := m_endX mx
    refine ⟨false, g1, h1, hE, ?_, ?_, mx.1.1, dE, oE, E1, E2, Or.inl ⟨rfl, p, F1.cx T, E3, E4⟩⟩
    · show D_X5_read_33b (D_X5_read_33 f1) g (some 23) (Int32.ofNat 12) = _
      unfold D_X5_read_33b
      rw [if_pos (by decide), o23 C.1, Option.bind_some, d1, Option.bind_some]
      rfl
    · rw [r1, Option.bind_some]
      show D_X11_law_37b (D_X11_law_37 f2) h1 (some 81) = _
      unfold D_X11_law_37b
      rw [mx.bad, Option.bind_some, if_neg one_ne]
end F7
