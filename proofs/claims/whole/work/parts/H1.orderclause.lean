/-! both readers: an ORDER -/
section H1
variable {tp : Nat → Nat} {L : Nat} {g0 g h0 h : z_H} {p n nM w q k : Nat} {op ar K Ka : Nat → Int32} {f : Nat → Nat}
def OA (tp : Nat → Nat) (L : Nat) (g0 h0 g h : z_H) (k p n nM w : Nat) (op ar K Ka : Nat → Int32) (f : Nat → Nat) : Prop := CSt tp L true g g p n op ar w ∧ MS0 tp L true h h p nM K Ka w ∧ Tch LC g0 g ∧ OnM LMc LMf h0 h ∧ fI g 23 3 = -1 ∧ fI h 81 18 = -1 ∧ fI h 81 21 = Int32.ofNat k ∧ n ≤ nM ∧ f 0 = 0 ∧ f n = nM ∧ sg true op ar K Ka f 0 n
def EXT (n : Nat) (op ar : Nat → Int32) (f : Nat → Nat) (n' : Nat) (op' ar' : Nat → Int32) (f' : Nat → Nat) : Prop := n ≤ n' ∧ (∀ i, i < n → op' i = op i ∧ ar' i = ar i) ∧ ∀ i, i ≤ n → f' i = f i
theorem EXT.rfl' : EXT n op ar f n op ar f := ⟨Nat.le_refl _, fun _ _ => ⟨rfl, rfl⟩, fun _ _ => rfl⟩
theorem EXT.trans {n' n2 : Nat} {op' ar' op2 ar2 : Nat → Int32} {f' f2 : Nat → Nat} (a : EXT n op ar f n' op' ar' f') (b : EXT n' op' ar' f' n2 op2 ar2 f2) : EXT n op ar f n2 op2 ar2 f2 :=
  ⟨Nat.le_trans a.1 b.1, fun i hi => ⟨(b.2.1 i (by have := a.1; omega)).1.trans (a.2.1 i hi).1, (b.2.1 i (by have := a.1; omega)).2.trans (a.2.1 i hi).2⟩, fun i hi => (b.2.2 i (by have := a.1; omega)).trans (a.2.2 i hi)⟩
theorem EXT.seg {n' lo : Nat} {op' ar' : Nat → Int32} {f' : Nat → Nat} (a : EXT n op ar f n' op' ar' f') {hi : Nat} (hh : hi ≤ n) (s : segOK op ar lo hi) : segOK op' ar' lo hi := segOK_cg s (fun i _ h => a.2.1 i (by omega))
theorem EXT.segt {n' lo : Nat} {op' ar' : Nat → Int32} {f' : Nat → Nat} (a : EXT n op ar f n' op' ar' f') {hi : Nat} (hh : hi ≤ n) (s : segT op ar lo hi) : segT op' ar' lo hi := segT_cg s (fun i _ h => a.2.1 i (by omega))
theorem OA.sum (A : OA tp L g0 h0 g h k p n nM w op ar K Ka f) : ∃ (b : Bool) (gC hM : z_H), D_X5_readSum 12 g (some 23) 0 = some (b01 b, gC) ∧ D_X11_readExpression h (some 81) 0 = some hM ∧ ((b = false ∧ ∃ q, CX L g0 gC q ∧ MX h0 hM q) ∨ (b = true ∧ ∃ (p' n' nM' w' : Nat) (op' ar' K' Ka' : Nat → Int32) (f' : Nat → Nat), p ≤ p' ∧ OA tp L g0 h0 gC hM k p' n' nM' w' op' ar' K' Ka' f' ∧ EXT n op ar f n' op' ar' f' ∧ segOK op' ar' n n' ∧ aI gC 28 = aI g 28 ∧ aI hM 112 = aI h 112)) := by
  obtain ⟨C, M, T, O, e3, e18, e21, le, f0, fn, S⟩ := A
  obtain ⟨b, gC, hM, d, r, X⟩ := both_sum C M le
  refine ⟨b, gC, hM, d, r, ?_⟩
  rcases X with ⟨rfl, q, cf, mf⟩ | ⟨rfl, pb, nb, opb, arb, ws, nMb, Kb, Kab, hpb, Cb0, Mb0, Rb, j1, j2⟩
  · exact Or.inl ⟨rfl, q, cf.cx T, mf.mx O⟩
  · obtain ⟨Cb, clb, Tb, qb, _⟩ := Cb0.st
    obtain ⟨Mb, _, mcb, Ob, w18, w21⟩ := Mb0.st
    obtain ⟨fb, fb0, fbn, Sb, fbk⟩ := sg_ext S f0 fn Rb.1 j1 j2
    have Rle := Rb.1.le
    have Rlo := Rb.1.1
    have w50 := Cb.2.2.2.2.2.2.2.2.2.2.2.2
    exact Or.inr ⟨rfl, pb, nb, nMb, _, opb, arb, Kb, Kab, fb, hpb, ⟨Cb, Mb, T.trans Tb, O.trans Ob, by rw [qb]; exact e3, by rw [w18]; exact e18, by rw [w21]; exact e21, by omega, fb0, fbn, Sb⟩, ⟨Rlo, j1, fbk⟩, Rb.2.1.deep (by omega), clb, mcb⟩
theorem OA.test (A : OA tp L g0 h0 g h k p n nM w op ar K Ka f) : ∃ (b : Bool) (gC hM : z_H), D_X5_readTest 12 g (some 23) 0 = some (b01 b, gC) ∧ D_X11_readExpression h (some 81) 1 = some hM ∧ ((b = false ∧ ∃ q, CX L g0 gC q ∧ MX h0 hM q) ∨ (b = true ∧ ∃ (p' n' nM' w' : Nat) (op' ar' K' Ka' : Nat → Int32) (f' : Nat → Nat), p ≤ p' ∧ OA tp L g0 h0 gC hM k p' n' nM' w' op' ar' K' Ka' f' ∧ EXT n op ar f n' op' ar' f' ∧ segT op' ar' n n' ∧ aI gC 28 = aI g 28 ∧ aI hM 112 = aI h 112)) := by
  obtain ⟨C, M, T, O, e3, e18, e21, le, f0, fn, S⟩ := A
  obtain ⟨b, gC, hM, d, r, X⟩ := both_test C M le
  refine ⟨b, gC, hM, d, r, ?_⟩
  rcases X with ⟨rfl, q, cf, mf⟩ | ⟨rfl, pb, nb, opb, arb, ws, nMb, Kb, Kab, hpb, Cb0, Mb0, Rb, j1, j2⟩
  · exact Or.inl ⟨rfl, q, cf.cx T, mf.mx O⟩
  · obtain ⟨Cb, clb, Tb, qb, _⟩ := Cb0.st
    obtain ⟨Mb, _, mcb, Ob, w18, w21⟩ := Mb0.st
    obtain ⟨fb, fb0, fbn, Sb, fbk⟩ := sg_ext S f0 fn Rb.1 j1 j2
    have Rle := Rb.1.le
    have Rlo := Rb.1.1
    have w50 := Cb.2.2.2.2.2.2.2.2.2.2.2.2
    exact Or.inr ⟨rfl, pb, nb, nMb, _, opb, arb, Kb, Kab, fb, hpb, ⟨Cb, Mb, T.trans Tb, O.trans Ob, by rw [qb]; exact e3, by rw [w18]; exact e18, by rw [w21]; exact e21, by omega, fb0, fbn, Sb⟩, ⟨Rlo, j1, fbk⟩, Rb.seg (by omega), clb, mcb⟩
theorem OA.next (A : OA tp L g0 h0 g h k p n nM w op ar K Ka f) : ∃ (gC hM : z_H), D_X5_advance g (some 23) = some gC ∧ D_X11_next h (some 81) = some hM ∧ D_X11_must h (some 81) 1 = some hM ∧ OA tp L g0 h0 gC hM k (tkN tp L p) n nM w op ar K Ka f ∧ aI gC 28 = aI g 28 ∧ aI hM 112 = aI h 112 := by
  obtain ⟨C, M, T, O, e3, e18, e21, le, f0, fn, S⟩ := A
  obtain ⟨gC, d, C1⟩ := C.next
  obtain ⟨hM, r, M1⟩ := M.next
  have m1 : D_X11_must h (some 81) 1 = some hM := by
    unfold D_X11_must D_X11_must_24
    rw [M.bad, Option.bind_some, if_pos rfl, if_neg one_ne, Option.bind_some, if_pos rfl, o81 M.1, Option.bind_some, r, Option.bind_some]
  obtain ⟨Cb, clb, Tb, qb, _⟩ := C1.st
  obtain ⟨Mb, _, mcb, Ob, w18, w21⟩ := M1.st
  exact ⟨gC, hM, d, r, m1, ⟨Cb, Mb, T.trans Tb, O.trans Ob, by rw [qb]; exact e3, by rw [w18]; exact e18, by rw [w21]; exact e21, le, f0, fn, S⟩, clb, mcb⟩
theorem OA.w28 (A : OA tp L g0 h0 g h k p n nM w op ar K Ka f) {c j : Nat} (hc : c < 12) (hj : j < 6) (x : Int32) : ∃ g1, D_X7_set g (some 25) (Int32.ofNat c) (Int32.ofNat j) x = some g1 ∧ OA tp L g0 h0 g1 h k p n nM w op ar K Ka f ∧ aI g1 28 = upd (aI g 28) (6 * c + j) x := by
  obtain ⟨C, M, T, O, e3, rest⟩ := A
  exact ⟨_, d_set C.1 (by omega) x, ⟨C.w28 _, M, Tch_wA T (by decide) _, O, by rw [fI_wA]; exact e3, rest⟩, aI_wA_eq C.1 rfl _⟩
theorem OA.w112 (A : OA tp L g0 h0 g h k p n nM w op ar K Ka f) {i : Nat} (hi : i < 96) (x : Int32) : ∃ h1, z_gQ 11 h (some 81) 51 = some (some 112) ∧ z_sI h (some 112) (Int32.ofNat i) x = some h1 ∧ OA tp L g0 h0 g h1 k p n nM w op ar K Ka f ∧ aI h1 112 = upd (aI h 112) i x := by
  obtain ⟨C, M, T, O, e3, e18, e21, rest⟩ := A
  obtain ⟨h1, M1, o1, a18, a21, a112, q1, q2⟩ := M.w112 hi x
  exact ⟨h1, q1, q2, ⟨C, M1, T, O.trans o1, e3, a18.trans e18, a21.trans e21, rest⟩, a112⟩
def OLR (op ar cl mo : Nat → Int32) (f : Nat → Nat) (n j : Nat) : Prop := ∃ v tm s0 s1 s2 s3 : Nat, v < 5 ∧ 1 ≤ tm ∧ tm ≤ 20 ∧ cl (6 * j) = Int32.ofNat v ∧ cl (6 * j + 1) = Int32.ofNat tm ∧ cl (6 * j + 2) = Int32.ofNat s0 ∧ cl (6 * j + 3) = Int32.ofNat s1 ∧ cl (6 * j + 4) = Int32.ofNat s2 ∧ cl (6 * j + 5) = Int32.ofNat s3 ∧ s0 ≤ s1 ∧ s1 ≤ s2 ∧ s2 ≤ s3 ∧ s3 ≤ n ∧ mo (8 * j) = Int32.ofNat v ∧ mo (8 * j + 7) = Int32.ofNat tm ∧ mo (8 * j + 5) = Int32.ofNat (f s2) ∧ mo (8 * j + 6) = Int32.ofNat (f s3) ∧ (v = 4 → s1 = s0 ∧ mo (8 * j + 1) = mo (8 * j + 2)) ∧ (v ≠ 4 → segOK op ar s0 s1 ∧ mo (8 * j + 1) = Int32.ofNat (f s0) ∧ mo (8 * j + 2) = Int32.ofNat (f s1)) ∧ (v = 1 ∨ v = 3 → segOK op ar s1 s2 ∧ mo (8 * j + 3) = Int32.ofNat (f s1) ∧ mo (8 * j + 4) = Int32.ofNat (f s2)) ∧ (¬ (v = 1 ∨ v = 3) → s2 = s1 ∧ mo (8 * j + 3) = mo (8 * j + 4)) ∧ (s2 = s3 ∨ segT op ar s2 s3)
theorem OLR.ext {cl mo op' ar' cl' mo' : Nat → Int32} {f' : Nat → Nat} {n' j : Nat} (H : OLR op ar cl mo f n j) (E : EXT n op ar f n' op' ar' f') (ec : ∀ i, i < 6 * (j + 1) → cl' i = cl i) (em : ∀ i, i < 8 * (j + 1) → mo' i = mo i) : OLR op' ar' cl' mo' f' n' j := by
  obtain ⟨v, tm, s0, s1, s2, s3, a0, a1, a2, b0, b1, b2, b3, b4, b5, c1, c2, c3, c4, d0, d1, d2, d3, e1, e2, e3, e4, e5⟩ := H
  have E1 := E.1
  have E3 := E.2.2
  refine ⟨v, tm, s0, s1, s2, s3, a0, a1, a2, by rw [ec _ (by omega)]; exact b0, by rw [ec _ (by omega)]; exact b1, by rw [ec _ (by omega)]; exact b2, by rw [ec _ (by omega)]; exact b3, by rw [ec _ (by omega)]; exact b4, by rw [ec _ (by omega)]; exact b5, c1, c2, c3, by omega, by rw [em _ (by omega)]; exact d0, by rw [em _ (by omega)]; exact d1, by rw [em _ (by omega), E3 _ (by omega)]; exact d2, by rw [em _ (by omega), E3 _ (by omega)]; exact d3, fun z => ⟨(e1 z).1, by rw [em _ (by omega), em _ (by omega)]; exact (e1 z).2⟩, fun z => ⟨E.seg (by omega) (e2 z).1, by rw [em _ (by omega), E3 _ (by omega)]; exact (e2 z).2.1, by rw [em _ (by omega), E3 _ (by omega)]; exact (e2 z).2.2⟩, fun z => ⟨E.seg (by omega) (e3 z).1, by rw [em _ (by omega), E3 _ (by omega)]; exact (e3 z).2.1, by rw [em _ (by omega), E3 _ (by omega)]; exact (e3 z).2.2⟩, fun z => ⟨(e4 z).1, by rw [em _ (by omega), em _ (by omega)]; exact (e4 z).2⟩, e5.imp id (fun z => E.segt (by omega) z)⟩
def OSt (tp : Nat → Nat) (L : Nat) (g0 h0 g h : z_H) (k p n nM w : Nat) : Prop := ∃ (op ar K Ka : Nat → Int32) (f : Nat → Nat), OA tp L g0 h0 g h k p n nM w op ar K Ka f ∧ ∀ j, j < k → OLR op ar (aI g 28) (aI h 112) f n j
/-- what both come to -/
def OEnd (tp : Nat → Nat) (L : Nat) (g0 h0 : z_H) (k p : Nat) (A : Option (Int32 × z_H)) (B : Option z_H) : Prop := ∃ (b : Bool) (gC hM : z_H), A = some (b01 b, gC) ∧ B = some hM ∧ ((b = false ∧ ∃ q, CX L g0 gC q ∧ MX h0 hM q) ∨ (b = true ∧ ∃ p' n' nM' w', p < p' ∧ OSt tp L g0 h0 gC hM (k + 1) p' n' nM' w'))
theorem order_clause (S : OSt tp L g0 h0 g h k p n nM w) (hk : k < 12) : OEnd tp L g0 h0 k p (D_X5_readClause g (some 23) (Int32.ofNat k)) (D_X11_readOrder h (some 81)) := by
  obtain ⟨op, ar, K, Ka, f, A0, cls⟩ := S
  have C := A0.1
  have M := A0.2.1
  have hp := C.2.2.2.1.1
  cases e : wsIdx tp L p wdOV with
  | none =>
    obtain ⟨gC, dC, F⟩ := o_rc_fail C e (Int32.ofNat k)
    obtain ⟨hM, dM, X⟩ := m_ro_fail M A0.2.2.2.2.2.2.1 (by omega) (Or.inl e)
    exact ⟨false, gC, hM, dC, dM, Or.inl ⟨rfl, p, F.cx A0.2.2.1, A0.2.2.2.1.trans X.1, X.2⟩⟩
  | some v =>
    have hv : v < 5 := (wsIdx_lt e).1
    have pl : p < L := tk_lt (tp := tp) (by rw [(wsIdx_lt e).2]; decide)
    have nb := tkN_b (tp := tp) hp
    obtain ⟨g1, C1, T1, q1, _, cl1, d1⟩ := c_rc_39 C hk (v := v) (by omega)
    obtain ⟨h1, M1, O1, x18, x21, y0, yz, yk, r1⟩ := m_ro_ok M A0.2.2.2.2.2.2.1 hk e
    have A1 : OA tp L g0 h0 g1 h1 (k + 1) (tkN tp L p) n nM w op ar K Ka f := ⟨C1, M1, A0.2.2.1.trans T1, A0.2.2.2.1.trans O1, by rw [q1]; exact A0.2.2.2.2.1, by rw [x18]; exact A0.2.2.2.2.2.1, x21, A0.2.2.2.2.2.2.2⟩
    rw [o_rc_ok C hv e, d1, r1]
    have clk : ∀ i, i < 6 * k → aI g1 28 i = aI g 28 i := fun i hi => by rw [cl1, upd_ne (by omega), upd_ne (by omega), upd_ne (by omega)]
    -- D: the test and the end
    have stD : ∀ (ga ha : z_H) (pa na nMa wa : Nat) (opa ara KA KaA : Nat → Int32) (fa : Nat → Nat) (s1 s2 tm : Nat), OA tp L g0 h0 ga ha (k + 1) pa na nMa wa opa ara KA KaA fa → tkN tp L p ≤ pa → EXT n op ar f na opa ara fa → n ≤ s1 → s1 ≤ s2 → s2 = na → 1 ≤ tm → tm ≤ 20 → (∀ i, i < 6 * k → aI ga 28 i = aI g 28 i) → aI ga 28 (6 * k) = Int32.ofNat v → aI ga 28 (6 * k + 1) = Int32.ofNat tm → aI ga 28 (6 * k + 2) = Int32.ofNat n → aI ga 28 (6 * k + 3) = Int32.ofNat s1 → aI ga 28 (6 * k + 4) = Int32.ofNat s2 → (∀ i, i < 8 * k → aI ha 112 i = aI h 112 i) → aI ha 112 (8 * k) = Int32.ofNat v → aI ha 112 (8 * k + 7) = Int32.ofNat tm → (v = 4 → s1 = n ∧ aI ha 112 (8 * k + 1) = aI ha 112 (8 * k + 2)) → (v ≠ 4 → segOK opa ara n s1 ∧ aI ha 112 (8 * k + 1) = Int32.ofNat (fa n) ∧ aI ha 112 (8 * k + 2) = Int32.ofNat (fa s1)) → (v = 1 ∨ v = 3 → segOK opa ara s1 s2 ∧ aI ha 112 (8 * k + 3) = Int32.ofNat (fa s1) ∧ aI ha 112 (8 * k + 4) = Int32.ofNat (fa s2)) → (¬ (v = 1 ∨ v = 3) → s2 = s1 ∧ aI ha 112 (8 * k + 3) = aI ha 112 (8 * k + 4)) → OEnd tp L g0 h0 k p (D_X5_readClause_193 ga (some 23) (Int32.ofNat k)) (D_X11_readOrder_219 ha (some 81) (Int32.ofNat (8 * k))) := by
      intro ga ha pa na nMa wa opa ara KA KaA fa s1 s2 tm Aa hpa Ea u1 u2 u3 u4 u5 c0 c1 c2 c3 c4 c5 m0 m1 m2 e1 e2 e3 e4
      subst u3
      obtain ⟨h2, w1, w2, A2, mo2⟩ := Aa.w112 (i := 8 * k + 5) (by omega) (Int32.ofNat nMa)
      have fna : fa s2 = nMa := Aa.2.2.2.2.2.2.2.2.2.1
      have r219 : D_X11_readOrder_219 ha (some 81) (Int32.ofNat (8 * k)) = (if isW tp L pa wdIf = true then (D_X11_next h2 (some 81)).bind fun x => (z_ob 11 x (some 81)).bind fun _ => (D_X11_readExpression x (some 81) 1).bind fun y => D_X11_readOrder_257 y (some 81) (Int32.ofNat (8 * k)) else D_X11_readOrder_257 h2 (some 81) (Int32.ofNat (8 * k))) := by
        have wi := A2.2.1.wd (v := wdIf) (x := 294) (by decide) (by decide) rfl
        unfold D_X11_readOrder_219
        rw [w1, Option.bind_some, Aa.2.1.sz, Option.bind_some, show Int32.ofNat (8 * k) + 5 = Int32.ofNat (8 * k + 5) from sc_add _ 5, w2, Option.bind_some, A2.2.1.bad, Option.bind_some, if_pos rfl, o81 A2.2.1.1, Option.bind_some, wi, Option.bind_some]
        dsimp only
        rw [b01_if]
        by_cases c : isW tp L pa wdIf = true
        · rw [if_pos c, if_pos c, o81 A2.2.1.1, Option.bind_some]
        · rw [if_neg c, if_neg c]
      -- the last two writes
      have fin : ∀ (gb hb : z_H) (pb nb' nMb wb : Nat) (opb arb Kb Kab : Nat → Int32) (fb : Nat → Nat), OA tp L g0 h0 gb hb (k + 1) pb nb' nMb wb opb arb Kb Kab fb → tkN tp L p ≤ pb → EXT s2 opa ara fa nb' opb arb fb → aI gb 28 = aI ga 28 → aI hb 112 = aI h2 112 → (s2 = nb' ∨ segT opb arb s2 nb') → OEnd tp L g0 h0 k p (D_X5_readClause_216 gb (some 23) (Int32.ofNat k)) (D_X11_readOrder_257 hb (some 81) (Int32.ofNat (8 * k))) := by
        intro gb hb pb nb' nMb wb opb arb Kb Kab fb Ab hpb Eb cb mb tst
        obtain ⟨g3, d3, A3, cl3⟩ := Ab.w28 hk (j := 5) (by decide) (Int32.ofNat nb')
        obtain ⟨h3, v1, v2, A4, mo3⟩ := A3.w112 (i := 8 * k + 6) (by omega) (Int32.ofNat nMb)
        have fnb : fb nb' = nMb := Ab.2.2.2.2.2.2.2.2.2.1
        have E2 := Ea.trans Eb
        have Eb1 := Eb.1
        have Eb3 := Eb.2.2
        have mq : ∀ i, i ≠ 5 → i ≠ 6 → i < 8 → aI h3 112 (8 * k + i) = aI ha 112 (8 * k + i) := fun i a b c => by rw [mo3, upd_ne (by omega), mb, mo2, upd_ne (by omega)]
        have cq : ∀ i, i < 5 → aI g3 28 (6 * k + i) = aI ga 28 (6 * k + i) := fun i a => by rw [cl3, upd_ne (by omega), cb]
        refine ⟨true, g3, h3, ?_, ?_, Or.inr ⟨rfl, pb, nb', nMb, wb, by omega, opb, arb, Kb, Kab, fb, A4, fun j hj => ?_⟩⟩
        · unfold D_X5_readClause_216
          rw [q25 Ab.1.1, Option.bind_some, Option.bind_some, Ab.1.size, Option.bind_some, o25 Ab.1.1, Option.bind_some, show D_X7_set gb (some 25) (Int32.ofNat k) 5 (Int32.ofNat nb') = some g3 from d3, Option.bind_some]
          rfl
        · unfold D_X11_readOrder_257
          rw [v1, Option.bind_some, Ab.2.1.sz, Option.bind_some, show Int32.ofNat (8 * k) + 6 = Int32.ofNat (8 * k + 6) from sc_add _ 6, v2, Option.bind_some]
        · by_cases z : j < k
          · exact (cls j z).ext E2 (fun i hi => by rw [cl3, upd_ne (by omega), cb]; exact c0 i (by omega)) (fun i hi => by rw [mo3, upd_ne (by omega), mb, mo2, upd_ne (by omega)]; exact m0 i (by omega))
          · have jk : j = k := by omega
            subst jk
            refine ⟨v, tm, n, s1, s2, nb', hv, u4, u5, by rw [show 6 * j = 6 * j + 0 from rfl, cq 0 (by decide)]; exact c1, by rw [cq 1 (by decide)]; exact c2, by rw [cq 2 (by decide)]; exact c3, by rw [cq 3 (by decide)]; exact c4, by rw [cq 4 (by decide)]; exact c5, by rw [cl3, upd_eq], u1, u2, Eb1, Nat.le_refl _, by rw [show 8 * j = 8 * j + 0 from rfl, mq 0 (by decide) (by decide) (by decide)]; exact m1, by rw [mq 7 (by decide) (by decide) (by decide)]; exact m2, by rw [mo3, upd_ne (by omega), mb, mo2, upd_eq, Eb3 _ (Nat.le_refl _), fna], by rw [mo3, upd_eq, fnb], fun y => ⟨(e1 y).1, by rw [mq 1 (by decide) (by decide) (by decide), mq 2 (by decide) (by decide) (by decide)]; exact (e1 y).2⟩, fun y => ⟨Eb.seg (by omega) (e2 y).1, by rw [mq 1 (by decide) (by decide) (by decide), Eb3 _ (by omega)]; exact (e2 y).2.1, by rw [mq 2 (by decide) (by decide) (by decide), Eb3 _ (by omega)]; exact (e2 y).2.2⟩, fun y => ⟨Eb.seg (Nat.le_refl _) (e3 y).1, by rw [mq 3 (by decide) (by decide) (by decide), Eb3 _ (by omega)]; exact (e3 y).2.1, by rw [mq 4 (by decide) (by decide) (by decide), Eb3 _ (by omega)]; exact (e3 y).2.2⟩, fun y => ⟨(e4 y).1, by rw [mq 3 (by decide) (by decide) (by decide), mq 4 (by decide) (by decide) (by decide)]; exact (e4 y).2⟩, tst⟩
      rw [r219]
      unfold D_X5_readClause_193
      rw [o23 Aa.1.1, Option.bind_some, Aa.1.wIf, Option.bind_some]
      dsimp only
      rw [b01_if]
      cases ei : isW tp L pa wdIf with
      | false =>
        rw [if_neg (by decide), if_neg (by decide)]
        exact fin ga h2 pa s2 nMa wa opa ara KA KaA fa A2 hpa EXT.rfl' rfl rfl (Or.inl rfl)
      | true =>
        obtain ⟨_, pn, _⟩ := isW_lt ei Aa.1.2.2.2.1.1
        obtain ⟨g3, h3, d3, r3, _, A3, cl3, mo3⟩ := A2.next
        obtain ⟨b, g4, h4, d4, r4, X⟩ := A3.test
        rw [if_pos rfl, if_pos rfl, o23 Aa.1.1, Option.bind_some, d3, Option.bind_some, o23 A3.1.1, Option.bind_some, d4, Option.bind_some, r3, Option.bind_some, o81 A3.2.1.1, Option.bind_some, r4, Option.bind_some]
        dsimp only
        rcases X with ⟨rfl, q, cx, mx⟩ | ⟨rfl, pb, nb', nMb, wb, opb, arb, Kb, Kab, fb, hpb, Ab, Eb, sb, cb, mb⟩
        · obtain ⟨h5, X5, r5⟩ := m_257F mx hk
          exact ⟨false, g4, h5, by rw [if_pos (show b01 false = 0 from rfl)]; rfl, r5, Or.inl ⟨rfl, q, cx, X5⟩⟩
        · rw [if_neg (show ¬ b01 true = 0 by decide)]
          exact fin g4 h4 pb nb' nMb wb opb arb Kb Kab fb Ab (by omega) Eb (by rw [cb, cl3]) (by rw [mb, mo3]) (Or.inr sb)
    -- C: the times
    have stC : ∀ (ga ha : z_H) (pa na nMa wa : Nat) (opa ara KA KaA : Nat → Int32) (fa : Nat → Nat) (s1 : Nat), OA tp L g0 h0 ga ha (k + 1) pa na nMa wa opa ara KA KaA fa → tkN tp L p ≤ pa → EXT n op ar f na opa ara fa → n ≤ s1 → s1 ≤ na → (∀ i, i < 6 * k → aI ga 28 i = aI g 28 i) → aI ga 28 (6 * k) = Int32.ofNat v → aI ga 28 (6 * k + 1) = Int32.ofNat 1 → aI ga 28 (6 * k + 2) = Int32.ofNat n → aI ga 28 (6 * k + 3) = Int32.ofNat s1 → (∀ i, i < 8 * k → aI ha 112 i = aI h 112 i) → aI ha 112 (8 * k) = Int32.ofNat v → (v = 4 → s1 = n ∧ aI ha 112 (8 * k + 1) = aI ha 112 (8 * k + 2)) → (v ≠ 4 → segOK opa ara n s1 ∧ aI ha 112 (8 * k + 1) = Int32.ofNat (fa n) ∧ aI ha 112 (8 * k + 2) = Int32.ofNat (fa s1)) → (v = 1 ∨ v = 3 → segOK opa ara s1 na ∧ aI ha 112 (8 * k + 3) = Int32.ofNat (fa s1) ∧ aI ha 112 (8 * k + 4) = Int32.ofNat (fa na)) → (¬ (v = 1 ∨ v = 3) → na = s1 ∧ aI ha 112 (8 * k + 3) = aI ha 112 (8 * k + 4)) → OEnd tp L g0 h0 k p (D_X5_readClause_151 ga (some 23) (Int32.ofNat k)) (D_X11_readOrder_171 ha (some 81) (Int32.ofNat (8 * k))) := by
      intro ga ha pa na nMa wa opa ara KA KaA fa s1 Aa hpa Ea u1 u2 c0 c1 c2 c3 c4 m0 m1 e1 e2 e3 e4
      obtain ⟨g2, d2, A2, cl2⟩ := Aa.w28 hk (j := 4) (by decide) (Int32.ofNat na)
      obtain ⟨h2, w1, w2, A3, mo2⟩ := A2.w112 (i := 8 * k + 7) (by omega) 1
      have pc : D_X5_readClause_151 ga (some 23) (Int32.ofNat k) = (if isW tp L pa wdTimes = true then (D_X5_readTimes g2 (some 23) (Int32.ofNat k)).bind fun x => if x.1 = 0 then some (0, x.2) else D_X5_readClause_193 x.2 (some 23) (Int32.ofNat k) else D_X5_readClause_193 g2 (some 23) (Int32.ofNat k)) := by
        unfold D_X5_readClause_151
        rw [q25 Aa.1.1, Option.bind_some, Option.bind_some, Aa.1.size, Option.bind_some, o25 Aa.1.1, Option.bind_some, show D_X7_set ga (some 25) (Int32.ofNat k) 4 (Int32.ofNat na) = some g2 from d2, Option.bind_some, s_gI A2.1.1 (ci := 5) rfl rfl, Option.bind_some, A2.1.2.2.2.2.2.2.2.2.1, if_neg (show ¬ b01 true = 0 by decide), o23 A2.1.1, Option.bind_some, A2.1.wTimes, Option.bind_some]
        dsimp only
        rw [b01_if]
        by_cases c : isW tp L pa wdTimes = true
        · rw [if_pos c, if_pos c, o23 A2.1.1, Option.bind_some]
        · rw [if_neg c, if_neg c]
      have pm : D_X11_readOrder_171 ha (some 81) (Int32.ofNat (8 * k)) = (if isW tp L pa wdTimes = true then (D_X11_next h2 (some 81)).bind fun x => (z_gQ 11 x (some 81) 51).bind fun y => (z_ob 11 x (some 81)).bind fun _ => (D_X11_number x (some 81) 1 20).bind fun z => (z_sI z.2 y (Int32.ofNat (8 * k + 7)) z.1).bind fun u => D_X11_readOrder_219 u (some 81) (Int32.ofNat (8 * k)) else D_X11_readOrder_219 h2 (some 81) (Int32.ofNat (8 * k))) := by
        have wi := A3.2.1.wd (v := wdTimes) (x := 21279923) (by decide) (by decide) rfl
        unfold D_X11_readOrder_171
        rw [w1, Option.bind_some, show Int32.ofNat (8 * k) + 7 = Int32.ofNat (8 * k + 7) from sc_add _ 7, w2, Option.bind_some, A3.2.1.bad, Option.bind_some, if_pos rfl, o81 A3.2.1.1, Option.bind_some, wi, Option.bind_some]
        dsimp only
        rw [b01_if]
        by_cases c : isW tp L pa wdTimes = true
        · rw [if_pos c, if_pos c, o81 A3.2.1.1, Option.bind_some]
        · rw [if_neg c, if_neg c]
      rw [pc, pm]
      have cq : ∀ i, i ≠ 4 → i < 6 → aI g2 28 (6 * k + i) = aI ga 28 (6 * k + i) := fun i a b => by rw [cl2, upd_ne (by omega)]
      have mq : ∀ i, i < 7 → aI h2 112 (8 * k + i) = aI ha 112 (8 * k + i) := fun i a => by rw [mo2, upd_ne (by omega)]
      cases et : isW tp L pa wdTimes with
      | false =>
        rw [if_neg (by decide), if_neg (by decide)]
        refine stD g2 h2 pa na nMa wa opa ara KA KaA fa s1 na 1 A3 hpa Ea u1 u2 rfl (by decide) (by decide) (fun i hi => by rw [cl2, upd_ne (by omega)]; exact c0 i hi) (by rw [show 6 * k = 6 * k + 0 from rfl, cq 0 (by decide) (by decide)]; exact c1) (by rw [cq 1 (by decide) (by decide)]; exact c2) (by rw [cq 2 (by decide) (by decide)]; exact c3) (by rw [cq 3 (by decide) (by decide)]; exact c4) (by rw [cl2, upd_eq]) (fun i hi => by rw [mo2, upd_ne (by omega)]; exact m0 i hi) (by rw [show 8 * k = 8 * k + 0 from rfl, mq 0 (by decide)]; exact m1) (by rw [mo2, upd_eq]; rfl) (fun y => ⟨(e1 y).1, by rw [mq 1 (by decide), mq 2 (by decide)]; exact (e1 y).2⟩) (fun y => ⟨(e2 y).1, by rw [mq 1 (by decide)]; exact (e2 y).2.1, by rw [mq 2 (by decide)]; exact (e2 y).2.2⟩) (fun y => ⟨(e3 y).1, by rw [mq 3 (by decide)]; exact (e3 y).2.1, by rw [mq 4 (by decide)]; exact (e3 y).2.2⟩) (fun y => ⟨(e4 y).1, by rw [mq 3 (by decide), mq 4 (by decide)]; exact (e4 y).2⟩)
      | true =>
        obtain ⟨_, pn, pL⟩ := isW_lt et Aa.1.2.2.2.1.1
        obtain ⟨g3, h3, d3, r3, _, A4, cl3, mo3⟩ := A3.next
        rw [if_pos rfl, if_pos rfl, r3, Option.bind_some, s_gQ (r := 112) A4.2.1.1 rfl rfl, Option.bind_some, o81 A4.2.1.1, Option.bind_some]
        unfold D_X5_readTimes
        rw [o23 A2.1.1, Option.bind_some, d3, Option.bind_some, A4.1.kd, Option.bind_some]
        have kb := tkK_b (tp := tp) (L := L) (p := tkN tp L pa)
        -- the reference's number
        obtain ⟨h4, r4, o4, a19, a18⟩ := A4.2.1.must0
        by_cases ok : tkK tp L (tkN tp L pa) = 1 ∧ 1 ≤ numM tp L (tkN tp L pa) ∧ numM tp L (tkN tp L pa) ≤ 20
        · have ns := num_same (tp := tp) (L := L) (p := tkN tp L pa) ok.1
          have ec : numC tp L (tkN tp L pa) = numM tp L (tkN tp L pa) := by omega
          obtain ⟨g5, d5, A5, cl5⟩ := A4.w28 hk (j := 1) (by decide) (Int32.ofNat (numM tp L (tkN tp L pa)))
          obtain ⟨g6, h6, d6, _, r6, A6, cl6, mo6⟩ := A5.next
          obtain ⟨h7, v1, v2, A7, mo7⟩ := A6.w112 (i := 8 * k + 7) (by omega) (Int32.ofNat (numM tp L (tkN tp L pa)))
          have wj : z_gJ 11 h3 (some 81) 17 = some (Int64.ofNat (numM tp L (tkN tp L pa))) := by
            rw [s_gJ A4.2.1.1 (ci := 11) rfl rfl, A4.2.1.2.2.2.1.2.2.2.2]
            unfold wrt
            rw [if_neg (by omega), if_pos ok.1]
          have sj : z_gI 11 h3 (some 81) 16 = some (Int32.ofNat (srtN (tkK tp L (tkN tp L pa)))) := by rw [s_gI A4.2.1.1 (ci := 11) rfl rfl, A4.2.1.2.2.2.1.2.2.2.1]
          have dn : D_X11_number h3 (some 81) 1 20 = some (Int32.ofNat (numM tp L (tkN tp L pa)), h6) := by
            unfold D_X11_number D_X11_number_33
            rw [wj, Option.bind_some, Option.bind_some, sj, Option.bind_some, if_pos (show Int32.ofNat (srtN (tkK tp L (tkN tp L pa))) = 2 by rw [ok.1]; rfl), Option.bind_some, d_in_yes (by rw [J_int (by omega)]; exact ⟨by show (1 : Int) ≤ _; omega, by show _ ≤ (20 : Int); omega⟩), Option.bind_some]
            dsimp only
            rw [if_neg one_ne, o81 A4.2.1.1, Option.bind_some, r6, Option.bind_some, J_to32 (by omega)]
          rw [if_pos (show Int32.ofNat (tkK tp L (tkN tp L pa)) = 1 by rw [ok.1]; rfl), A4.1.nu ok.1, Option.bind_some, ec, if_neg (show ¬ Int32.ofNat (numM tp L (tkN tp L pa)) < 1 from fun z => by have := (nat_lt (b := 1) (by omega) (by decide)).mp z; omega), Option.bind_some, if_pos (show Int32.ofNat (numM tp L (tkN tp L pa)) ≤ 20 from (nat_le (b := 20) (by omega) (by decide)).mpr ok.2.2), q25 A4.1.1, Option.bind_some, Option.bind_some, o25 A4.1.1, Option.bind_some, show D_X7_set g3 (some 25) (Int32.ofNat k) 1 (Int32.ofNat (numM tp L (tkN tp L pa))) = some g5 from d5, Option.bind_some, o23 A5.1.1, Option.bind_some, d6, Option.bind_some, Option.bind_some, dn, Option.bind_some]
          dsimp only
          rw [if_neg one_ne, v2, Option.bind_some]
          have nb2 := tkN_b (tp := tp) A4.1.2.2.2.1.1
          have cz : ∀ i, aI g6 28 i = if i = 6 * k + 1 then Int32.ofNat (numM tp L (tkN tp L pa)) else aI g2 28 i := fun i => by
            rw [cl6, cl5]
            by_cases z : i = 6 * k + 1
            · rw [if_pos z, z, upd_eq]
            · rw [if_neg z, upd_ne z, cl3]
          have mz : ∀ i, i < 8 * k + 7 → aI h7 112 i = aI h2 112 i := fun i hi => by rw [mo7, upd_ne (by omega), mo6, mo3]
          refine stD g6 h7 _ na nMa wa opa ara KA KaA fa s1 na (numM tp L (tkN tp L pa)) A7 (by omega) Ea u1 u2 rfl ok.2.1 ok.2.2 (fun i hi => by rw [cz, if_neg (by omega), cl2, upd_ne (by omega)]; exact c0 i hi) (by rw [cz, if_neg (by omega), show 6 * k = 6 * k + 0 from rfl, cq 0 (by decide) (by decide)]; exact c1) (by rw [cz, if_pos rfl]) (by rw [cz, if_neg (by omega), cq 2 (by decide) (by decide)]; exact c3) (by rw [cz, if_neg (by omega), cq 3 (by decide) (by decide)]; exact c4) (by rw [cz, if_neg (by omega), cl2, upd_eq]) (fun i hi => by rw [mz i (by omega), mo2, upd_ne (by omega)]; exact m0 i hi) (by rw [mz _ (by omega), show 8 * k = 8 * k + 0 from rfl, mq 0 (by decide)]; exact m1) (by rw [mo7, upd_eq]) (fun y => ⟨(e1 y).1, by rw [mz _ (by omega), mz _ (by omega), mq 1 (by decide), mq 2 (by decide)]; exact (e1 y).2⟩) (fun y => ⟨(e2 y).1, by rw [mz _ (by omega), mq 1 (by decide)]; exact (e2 y).2.1, by rw [mz _ (by omega), mq 2 (by decide)]; exact (e2 y).2.2⟩) (fun y => ⟨(e3 y).1, by rw [mz _ (by omega), mq 3 (by decide)]; exact (e3 y).2.1, by rw [mz _ (by omega), mq 4 (by decide)]; exact (e3 y).2.2⟩) (fun y => ⟨(e4 y).1, by rw [mz _ (by omega), mz _ (by omega), mq 3 (by decide), mq 4 (by decide)]; exact (e4 y).2⟩)
        · -- it is none
          obtain ⟨g5, d5, F5⟩ := A4.1.fail
          have X4 : MX h0 h4 (tkN tp L pa) := ⟨A4.2.2.2.1.trans (o4.mono (by decide) (by decide)), a19, a18⟩
          have dn : ∃ vv, D_X11_number h3 (some 81) 1 20 = some (vv, h4) := by
            have n0 : ∀ v, D_X11_number_32 h3 v (some 81) = some (v, h4) := fun v => by
              unfold D_X11_number_32 D_X11_number_33
              rw [o81 A4.2.1.1, Option.bind_some, r4, Option.bind_some]
            have sj : z_gI 11 h3 (some 81) 16 = some (Int32.ofNat (srtN (tkK tp L (tkN tp L pa)))) := by rw [s_gI A4.2.1.1 (ci := 11) rfl rfl, A4.2.1.2.2.2.1.2.2.2.1]
            refine ⟨Int64.toInt32 (fJ h3 81 17), ?_⟩
            unfold D_X11_number
            rw [s_gJ A4.2.1.1 (ci := 11) rfl rfl, Option.bind_some, Option.bind_some, sj, Option.bind_some]
            by_cases k1 : tkK tp L (tkN tp L pa) = 1
            · have nl := numM_le A4.1.2.2.2.1.1 k1
              have wj : fJ h3 81 17 = Int64.ofNat (numM tp L (tkN tp L pa)) := by
                rw [A4.2.1.2.2.2.1.2.2.2.2]
                unfold wrt
                rw [if_neg (by omega), if_pos k1]
              rw [if_pos (show Int32.ofNat (srtN (tkK tp L (tkN tp L pa))) = 2 by rw [k1]; rfl), Option.bind_some, d_in_no (by
                rw [wj, J_int (by omega)]
                intro z
                have z1 : (1 : Int) ≤ _ := z.1
                have z2 : _ ≤ (20 : Int) := z.2
                exact ok ⟨k1, by omega, by omega⟩), Option.bind_some]
              dsimp only
              rw [if_pos rfl]
              exact n0 _
            · rw [if_neg (show ¬ Int32.ofNat (srtN (tkK tp L (tkN tp L pa))) = 2 from fun z => k1 (by have := (srt_eq (c := 2) kb (by decide)).mp z; unfold srtN at this; split at this <;> omega))]
              exact n0 _
          obtain ⟨vv, dn⟩ := dn
          obtain ⟨h5, X5, _, z5⟩ := X4.w112 (i := 8 * k + 7) (by omega) vv
          obtain ⟨h6, X6, r6⟩ := m_219F X5 hk
          have cf : (if Int32.ofNat (tkK tp L (tkN tp L pa)) = 1 then (z_gI 5 g3 (some 23) 8).bind fun x2741 => if x2741 < (1:Int32) then D_X5_readTimes_29 g3 (some 23) else (z_gI 5 g3 (some 23) 8).bind fun x2743 => if x2743 ≤ (20:Int32) then (z_gQ 5 g3 (some 23) 1).bind fun x2745 => (z_gI 5 g3 (some 23) 8).bind fun x2746 => (z_ob 7 g3 x2745).bind fun _ => (D_X7_set g3 x2745 (Int32.ofNat k) (1:Int32) x2746).bind fun p2747 => (z_ob 5 p2747 (some 23)).bind fun _ => (D_X5_advance p2747 (some 23)).bind fun p2749 => some ((1:Int32), p2749) else D_X5_readTimes_29 g3 (some 23) else D_X5_readTimes_29 g3 (some 23)) = some (0, g5) := by
            have t29 : D_X5_readTimes_29 g3 (some 23) = some (0, g5) := by
              unfold D_X5_readTimes_29
              rw [o23 A4.1.1, Option.bind_some, d5, Option.bind_some]
              rfl
            by_cases k1 : tkK tp L (tkN tp L pa) = 1
            · have ns := num_same (tp := tp) (L := L) (p := tkN tp L pa) k1
              rw [if_pos (show Int32.ofNat (tkK tp L (tkN tp L pa)) = 1 by rw [k1]; rfl), A4.1.nu k1, Option.bind_some, Option.bind_some]
              by_cases z : numC tp L (tkN tp L pa) < 1
              · rw [if_pos (show Int32.ofNat (numC tp L (tkN tp L pa)) < 1 from (nat_lt (b := 1) (by omega) (by decide)).mpr z)]; exact t29
              · rw [if_neg (show ¬ Int32.ofNat (numC tp L (tkN tp L pa)) < 1 from fun y => z ((nat_lt (b := 1) (by omega) (by decide)).mp y)), if_neg (show ¬ Int32.ofNat (numC tp L (tkN tp L pa)) ≤ 20 from fun y => by
                  have := (nat_le (b := 20) (by omega) (by decide)).mp y
                  exact ok ⟨k1, by omega, by omega⟩)]
                exact t29
            · rw [if_neg (show ¬ Int32.ofNat (tkK tp L (tkN tp L pa)) = 1 from fun z => k1 ((kd_eq (c := 1) (by decide)).mp z))]
              exact t29
          rw [cf, Option.bind_some, dn, Option.bind_some]
          dsimp only
          rw [if_pos rfl, z5, Option.bind_some]
          exact ⟨false, g5, h6, rfl, r6, Or.inl ⟨rfl, tkN tp L pa, F5.cx A4.2.2.1, X6⟩⟩
    -- B: from behind the first SUM on
    have stB : ∀ (ga ha : z_H) (pa na nMa wa : Nat) (opa ara KA KaA : Nat → Int32) (fa : Nat → Nat), OA tp L g0 h0 ga ha (k + 1) pa na nMa wa opa ara KA KaA fa → tkN tp L p ≤ pa → EXT n op ar f na opa ara fa → aI ga 28 = aI g1 28 → (∀ i, i < 8 * k → aI ha 112 i = aI h 112 i) → aI ha 112 (8 * k) = Int32.ofNat v → (∀ i, 3 ≤ i → i < 8 → aI ha 112 (8 * k + i) = 0) → (v = 4 → na = n ∧ aI ha 112 (8 * k + 1) = aI ha 112 (8 * k + 2)) → (v ≠ 4 → segOK opa ara n na ∧ aI ha 112 (8 * k + 1) = Int32.ofNat (fa n) ∧ aI ha 112 (8 * k + 2) = Int32.ofNat (fa na)) → OEnd tp L g0 h0 k p (D_X5_readClause_97 ga (some 23) (Int32.ofNat k) (Int32.ofNat v)) (D_X11_readOrder_125 ha (some 81) (Int32.ofNat v) (Int32.ofNat (8 * k))) := by
      intro ga ha pa na nMa wa opa ara KA KaA fa Aa hpa Ea cga m0 m1 mz e1 e2
      obtain ⟨g2, d2, A2, cl2⟩ := Aa.w28 hk (j := 3) (by decide) (Int32.ofNat na)
      have cq : ∀ i, i < 6 * k + 3 → aI g2 28 i = aI g1 28 i := fun i hi => by rw [cl2, upd_ne (by omega), cga]
      have c1 : aI g2 28 (6 * k) = Int32.ofNat v := by rw [cq _ (by omega), cl1, upd_ne (by omega), upd_ne (by omega), upd_eq]
      have c2 : aI g2 28 (6 * k + 1) = Int32.ofNat 1 := by rw [cq _ (by omega), cl1, upd_ne (by omega), upd_eq]; rfl
      have c3 : aI g2 28 (6 * k + 2) = Int32.ofNat n := by rw [cq _ (by omega), cl1, upd_eq]
      have c4 : aI g2 28 (6 * k + 3) = Int32.ofNat na := by rw [cl2, upd_eq]
      have ck : ∀ i, i < 6 * k → aI g2 28 i = aI g 28 i := fun i hi => by rw [cq i (by omega)]; exact clk i hi
      have pc : D_X5_readClause_97 ga (some 23) (Int32.ofNat k) (Int32.ofNat v) = (if [1, 2, 1, 2, 0, 1, 1, 0].getD v 0 ≤ (1 : Int32) then D_X5_readClause_151 g2 (some 23) (Int32.ofNat k) else if Int32.ofNat v = 1 then D_X5_readClause_135 g2 (some 23) (Int32.ofNat k) (some 23) 8 else D_X5_readClause_135 g2 (some 23) (Int32.ofNat k) (some 23) 9) := by
        unfold D_X5_readClause_97
        rw [q25 Aa.1.1, Option.bind_some, Option.bind_some, Aa.1.size, Option.bind_some, o25 Aa.1.1, Option.bind_some, show D_X7_set ga (some 25) (Int32.ofNat k) 3 (Int32.ofNat na) = some g2 from d2, Option.bind_some, xs3 (by omega), Option.bind_some]
      rw [pc]
      by_cases v13 : v = 1 ∨ v = 3
      · -- two SUMS
        have nx : ¬ [1, 2, 1, 2, 0, 1, 1, 0].getD v 0 ≤ (1 : Int32) := by rcases v13 with r | r <;> subst r <;> decide
        have two : ∀ (wd : List Nat) (xi : Nat) (xc : Int64), D_X5_isWord g2 (some 23) xi = some (b01 (isW tp L pa wd), g2) → D_X11_isWord ha (some 81) xc = some (b01 (isW tp L pa wd), ha) → OEnd tp L g0 h0 k p (D_X5_readClause_135 g2 (some 23) (Int32.ofNat k) (some 23) xi) (D_X11_readOrder_158 ha (some 81) (Int32.ofNat (8 * k)) (some 81) (some 81) xc) := by
          intro wd xi xc wc wm
          unfold D_X5_readClause_135 D_X5_skipWord D_X11_readOrder_158
          rw [o23 A2.1.1, Option.bind_some, Option.bind_some, wc, Option.bind_some, o81 Aa.2.1.1, Option.bind_some, wm, Option.bind_some]
          dsimp only
          cases ew : isW tp L pa wd with
          | false =>
            obtain ⟨g3, d3, F3⟩ := A2.1.fail
            obtain ⟨h3, r3, o3, a19, a18⟩ := Aa.2.1.must0
            have X3 : MX h0 h3 pa := ⟨Aa.2.2.2.1.trans (o3.mono (by decide) (by decide)), a19, a18⟩
            obtain ⟨h4, X4, r4⟩ := m_164F X3 hk
            rw [if_pos (show b01 false = 0 from rfl), o23 A2.1.1, Option.bind_some, d3, Option.bind_some, if_pos (Or.inl rfl), Option.bind_some]
            dsimp only
            rw [if_pos rfl, o81 Aa.2.1.1, Option.bind_some, show b01 false = 0 from rfl, r3, Option.bind_some]
            exact ⟨false, g3, h4, rfl, r4, Or.inl ⟨rfl, pa, F3.cx A2.2.2.1, X4⟩⟩
          | true =>
            obtain ⟨_, pn, _⟩ := isW_lt ew Aa.1.2.2.2.1.1
            obtain ⟨g3, h3, d3, _, r3, A3, cl3, mo3⟩ := A2.next
            rw [if_neg (show ¬ b01 true = 0 by decide), o23 A2.1.1, Option.bind_some, d3, Option.bind_some, Option.bind_some]
            dsimp only
            rw [if_neg one_ne, o23 A3.1.1, Option.bind_some, o81 Aa.2.1.1, Option.bind_some, show b01 true = 1 from rfl, r3, Option.bind_some]
            unfold D_X11_readOrder_164
            obtain ⟨h4, M4, o4, a18, a21, mo4, r4⟩ := m_rs A3.2.1 (i := 8 * k + 3) (by omega)
            have A4 : OA tp L g0 h0 g3 h4 (k + 1) (tkN tp L pa) na nMa wa opa ara KA KaA fa := ⟨A3.1, M4, A3.2.2.1, A3.2.2.2.1.trans o4, A3.2.2.2.2.1, a18.trans A3.2.2.2.2.2.1, a21.trans A3.2.2.2.2.2.2.1, A3.2.2.2.2.2.2.2⟩
            obtain ⟨b, g5, h5, d5, r5, X⟩ := A4.sum
            rw [d5, Option.bind_some, o81 A3.2.1.1, Option.bind_some, show Int32.ofNat (8 * k) + 3 = Int32.ofNat (8 * k + 3) from sc_add _ 3, r4, r5, Option.bind_some]
            dsimp only
            rcases X with ⟨rfl, q, cx, mx⟩ | ⟨rfl, pb, nb', nMb, wb, opb, arb, Kb, Kab, fb, hpb, Ab, Eb, sb, cb, mb⟩
            · obtain ⟨h6, X6, r6⟩ := m_rs_22F mx (i := 8 * k + 3) (by omega)
              obtain ⟨h7, X7, r7⟩ := m_171F X6 hk
              rw [if_pos (show b01 false = 0 from rfl), r6, Option.bind_some]
              exact ⟨false, g5, h7, rfl, r7, Or.inl ⟨rfl, q, cx, X7⟩⟩
            · obtain ⟨h6, M6, o6, b18, b21, mo6, r6⟩ := m_rs_22 Ab.2.1 (i := 8 * k + 3) (by omega)
              have A6 : OA tp L g0 h0 g5 h6 (k + 1) pb nb' nMb wb opb arb Kb Kab fb := ⟨Ab.1, M6, Ab.2.2.1, Ab.2.2.2.1.trans o6, Ab.2.2.2.2.1, b18.trans Ab.2.2.2.2.2.1, b21.trans Ab.2.2.2.2.2.2.1, Ab.2.2.2.2.2.2.2⟩
              rw [if_neg (show ¬ b01 true = 0 by decide), r6, Option.bind_some]
              have mm : ∀ i, i < 8 * k + 3 → aI h6 112 i = aI ha 112 i := fun i hi => by rw [mo6, upd_ne (by omega), mb, mo4, upd_ne (by omega), mo3]
              have cc : aI g5 28 = aI g2 28 := by rw [cb, cl3]
              have fbn : fb nb' = nMb := Ab.2.2.2.2.2.2.2.2.2.1
              have fan : fa na = nMa := Aa.2.2.2.2.2.2.2.2.2.1
              have Ea1 := Ea.1
              have Eb1 := Eb.1
              refine stC g5 h6 pb nb' nMb wb opb arb Kb Kab fb na A6 (by omega) (Ea.trans Eb) Ea1 Eb1 (fun i hi => by rw [cc]; exact ck i hi) (by rw [cc]; exact c1) (by rw [cc]; exact c2) (by rw [cc]; exact c3) (by rw [cc]; exact c4) (fun i hi => by rw [mm i (by omega)]; exact m0 i hi) (by rw [mm _ (by omega)]; exact m1) (fun y => by omega) (fun y => ⟨Eb.seg (Nat.le_refl _) (e2 y).1, by rw [mm _ (by omega), Eb.2.2 _ (by omega)]; exact (e2 y).2.1, by rw [mm _ (by omega), Eb.2.2 _ (by omega)]; exact (e2 y).2.2⟩) (fun _ => ⟨sb, by rw [mo6, upd_ne (by omega), mb, mo4, upd_eq, Eb.2.2 _ (Nat.le_refl _), fan], by rw [mo6, upd_eq, fbn]⟩) (fun y => absurd v13 y)
        rw [if_neg nx]
        unfold D_X11_readOrder_125 D_X11_readOrder_135
        rcases v13 with r | r
        · rw [if_pos (show Int32.ofNat v = 1 by rw [r]; rfl), if_pos (show Int32.ofNat v = 1 by rw [r]; rfl), Aa.2.1.bad, Option.bind_some, if_pos rfl, if_pos (show Int32.ofNat v = 1 by rw [r]; rfl)]
          exact two wdTo 8 655 A2.1.wTo (Aa.2.1.wd (v := wdTo) (by decide) (by decide) rfl)
        · rw [if_neg (show ¬ Int32.ofNat v = 1 by rw [r]; decide), if_neg (show ¬ Int32.ofNat v = 1 by rw [r]; decide), if_pos (show Int32.ofNat v = 3 by rw [r]; rfl), Aa.2.1.bad, Option.bind_some, if_pos rfl, if_neg (show ¬ Int32.ofNat v = 1 by rw [r]; decide)]
          exact two wdAt 9 52 A2.1.wAt (Aa.2.1.wd (v := wdAt) (by decide) (by decide) rfl)
      · have yx : [1, 2, 1, 2, 0, 1, 1, 0].getD v 0 ≤ (1 : Int32) := by
          rcases (show v = 0 ∨ v = 2 ∨ v = 4 by omega) with r | r | r <;> subst r <;> decide
        rw [if_pos yx]
        unfold D_X11_readOrder_125
        rw [if_neg (show ¬ Int32.ofNat v = 1 from fun z => v13 (Or.inl ((eq_lit (b := 1) (by omega) (by decide)).mp z))), if_neg (show ¬ Int32.ofNat v = 3 from fun z => v13 (Or.inr ((eq_lit (b := 3) (by omega) (by decide)).mp z)))]
        exact stC g2 ha pa na nMa wa opa ara KA KaA fa na A2 hpa Ea Ea.1 (Nat.le_refl _) ck c1 c2 c3 c4 m0 m1 e1 e2 (fun y => absurd y v13) (fun _ => ⟨rfl, by rw [mz 3 (by decide) (by decide), mz 4 (by decide) (by decide)]⟩)
    -- A: the first SUM
    have xv : ([1, 2, 1, 2, 0, 1, 1, 0].getD v 0 ≤ (0 : Int32)) ↔ v = 4 := by
      rcases (show v = 0 ∨ v = 1 ∨ v = 2 ∨ v = 3 ∨ v = 4 by omega) with r | r | r | r | r <;> subst r <;> decide
    by_cases z : v = 4
    · rw [if_pos (xv.mpr z), if_pos z]
      exact stB g1 h1 (tkN tp L p) n nM w op ar K Ka f A1 (Nat.le_refl _) EXT.rfl' rfl yk y0 (fun i a b => yz i (by omega) b) (fun _ => ⟨rfl, by rw [yz 1 (by decide) (by decide), yz 2 (by decide) (by decide)]⟩) (fun y => absurd z y)
    · rw [if_neg (fun y => z (xv.mp y)), if_neg z]
      obtain ⟨h2, M2, o2, a18, a21, mo2, r2⟩ := m_rs A1.2.1 (i := 8 * k + 1) (by omega)
      have A2 : OA tp L g0 h0 g1 h2 (k + 1) (tkN tp L p) n nM w op ar K Ka f := ⟨A1.1, M2, A1.2.2.1, A1.2.2.2.1.trans o2, A1.2.2.2.2.1, a18.trans A1.2.2.2.2.2.1, a21.trans A1.2.2.2.2.2.2.1, A1.2.2.2.2.2.2.2⟩
      obtain ⟨b, g3, h3, d3, r3, X⟩ := A2.sum
      rw [d3, Option.bind_some, r2, r3, Option.bind_some]
      dsimp only
      rcases X with ⟨rfl, q, cx, mx⟩ | ⟨rfl, pb, nb', nMb, wb, opb, arb, Kb, Kab, fb, hpb, Ab, Eb, sb, cb, mb⟩
      · obtain ⟨h4, X4, r4⟩ := m_rs_22F mx (i := 8 * k + 1) (by omega)
        obtain ⟨h5, X5, r5⟩ := m_125F X4 hk (Int32.ofNat v)
        rw [if_pos (show b01 false = 0 from rfl), r4, Option.bind_some]
        exact ⟨false, g3, h5, rfl, r5, Or.inl ⟨rfl, q, cx, X5⟩⟩
      · obtain ⟨h4, M4, o4, b18, b21, mo4, r4⟩ := m_rs_22 Ab.2.1 (i := 8 * k + 1) (by omega)
        have A4 : OA tp L g0 h0 g3 h4 (k + 1) pb nb' nMb wb opb arb Kb Kab fb := ⟨Ab.1, M4, Ab.2.2.1, Ab.2.2.2.1.trans o4, Ab.2.2.2.2.1, b18.trans Ab.2.2.2.2.2.1, b21.trans Ab.2.2.2.2.2.2.1, Ab.2.2.2.2.2.2.2⟩
        rw [if_neg (show ¬ b01 true = 0 by decide), r4, Option.bind_some]
        have fbn : fb nb' = nMb := Ab.2.2.2.2.2.2.2.2.2.1
        have fan : f n = nM := A0.2.2.2.2.2.2.2.2.2.1
        have mm : ∀ i, (i < 8 * k + 1 ∨ 8 * k + 3 ≤ i) → aI h4 112 i = aI h1 112 i := fun i hi => by rw [mo4, upd_ne (by omega), mb, mo2, upd_ne (by omega)]
        exact stB g3 h4 pb nb' nMb wb opb arb Kb Kab fb A4 hpb Eb cb (fun i hi => by rw [mm i (by omega)]; exact yk i hi) (by rw [mm _ (by omega)]; exact y0) (fun i u t => by rw [mm _ (by omega)]; exact yz i (by omega) t) (fun y => absurd y z) (fun _ => ⟨sb, by rw [mo4, upd_ne (by omega), mb, mo2, upd_eq, Eb.2.2 _ (Nat.le_refl _), fan], by rw [mo4, upd_eq, fbn]⟩)
end H1
