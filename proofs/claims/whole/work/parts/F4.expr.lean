/-! both readers: a whole SUM, a whole TEST -/
section F4
variable {tp : Nat → Nat} {L : Nat} {ord : Bool} {g0 g h0 h : z_H} {p n nM w od q d : Nat} {op ar K Ka : Nat → Int32} {P : List (Nat × Nat)}
/-- the reference between two stretches -/
def MS0 (tp : Nat → Nat) (L : Nat) (ord : Bool) (h0 h : z_H) (p n : Nat) (K Ka : Nat → Int32) (w : Nat) : Prop := Sh h ∧ OnM KMc KMf h0 h ∧ TpM tp L h ∧ TokM tp L h p ∧ fI h 81 23 = Int32.ofNat n ∧ aI h 92 = K ∧ aI h 93 = Ka ∧ fI h 81 26 = Int32.ofNat w ∧ fI h 81 19 = 0 ∧ fI h 81 20 = b01 ord ∧ Cnst h0 ∧ fI h 81 18 = fI h0 81 18 ∧ w ≤ 50 ∧ n ≤ p
theorem CSt.re (C : CSt tp L ord g0 g p n op ar w) : CSt tp L ord g g p n op ar w := ⟨C.1, Tch_rfl _ g, C.2.2.1, C.2.2.2.1, C.2.2.2.2.1, C.2.2.2.2.2.1, C.2.2.2.2.2.2.1, C.2.2.2.2.2.2.2.1, C.2.2.2.2.2.2.2.2.1, rfl, rfl, C.2.2.2.2.2.2.2.2.2.2.2⟩
theorem Cnst.on {h' : z_H} (c : Cnst h) (T : Tch KMc h h') : Cnst h' := by
  obtain ⟨c1, c2, c3, c4⟩ := c
  unfold Cnst
  rw [cell_aJ (T.c (show 96 ∉ KMc by decide)), cell_aJ (T.c (show 97 ∉ KMc by decide)), cell_aJ (T.c (show 98 ∉ KMc by decide)), cell_aJ (T.c (show 111 ∉ KMc by decide))]
  exact ⟨c1, c2, c3, c4⟩
theorem MS0.re (M : MS0 tp L ord h0 h p n K Ka w) : MS0 tp L ord h h p n K Ka w := by
  obtain ⟨a, b, c, d, e, f, i, j, k, l, m, n, o⟩ := M
  exact ⟨a, OnM.rfl' a, c, d, e, f, i, j, k, l, m.on b.2.1, rfl, o⟩
theorem MSt.ms0 (M : MSt tp L ord h0 h p n K Ka [] w od) (B : Bu n [] p) : MS0 tp L ord h0 h p n K Ka w := ⟨M.sh, M.2.1, M.2.2.1, M.2.2.2.1, M.1.2.1, M.1.2.2.1, M.1.2.2.2.1, M.2.2.2.2.1, M.2.2.2.2.2.2.1, M.2.2.2.2.2.2.2.1, M.2.2.2.2.2.2.2.2.1, M.2.2.2.2.2.2.2.2.2.1, M.2.2.2.2.2.2.2.2.2.2.1, B.1⟩
/-- readExpression begins -/
theorem ex_begin (M : MS0 tp L ord h0 h p n K Ka w) : ∃ h1, MSt tp L ord h0 h1 p n K Ka [] w 0 ∧ Bu n [] p ∧ ∀ l1, D_X11_readExpression h (some 81) l1 = if l1 = 0 then D_X11_readExpression_20 z_F h1 (some 81) l1 1 else D_X11_readExpression_20 z_F h1 (some 81) l1 0 := by
  obtain ⟨hs, oo, t, k, e23, e92, e93, e26, e19, e20, c, e18, hw, np⟩ := M
  have o1 := onMF hs (k := 29) rfl (S := KMc) (ks := [29, 30]) (by decide) (by decide) 0
  have o2 := onMF o1.1 (k := 30) rfl (S := KMc) (ks := [29, 30]) (by decide) (by decide) 0
  have oA := o1.trans o2
  have f29 : fI (wF (wF h 81 29 (.int 0)) 81 30 (.int 0)) 81 29 = 0 := by rw [fI_wF_ne (by decide)]; exact fI_wF_eq hs rfl _
  have g30 : fI (wF (wF h 81 29 (.int 0)) 81 30 (.int 0)) 81 30 = 0 := fI_wF_eq o1.1 rfl _
  have hL := t.1
  have hp := k.1
  refine ⟨wF (wF h 81 29 (.int 0)) 81 30 (.int 0), ⟨⟨oA.1, (oA.2.2 23 (by decide)).1.trans e23, by rw [aI_wF, aI_wF]; exact e92, by rw [aI_wF, aI_wF]; exact e93, f29, trivial, trivial, by show n + 0 ≤ 400; omega, by decide⟩, oo.trans (oA.mono (by decide) (by decide)), t.on oA (by decide) (by decide), k.on oA (by decide), (oA.2.2 26 (by decide)).1.trans e26, g30, (oA.2.2 19 (by decide)).1.trans e19, (oA.2.2 20 (by decide)).1.trans e20, c, (oA.2.2 18 (by decide)).1.trans e18, hw, by decide⟩, ⟨np, Nat.zero_le _⟩, fun l1 => ?_⟩
  unfold D_X11_readExpression D_X11_readExpression_19
  rw [s_pV hs (ci := 11) rfl (by decide), Option.bind_some, s_pV o1.1 (ci := 11) rfl (by decide), Option.bind_some]
theorem ex_end (M : MSt tp L ord h0 h p n K Ka P w od) (B : Bu n P p) {n' : Nat} {K' Ka' : Nat → Int32} (f : flu 1 P n K Ka = ([], n', K', Ka')) (l1 : Int32) (k : Nat) : ∃ h', D_X11_readExpression_20 (k + 1) h (some 81) l1 4 = some h' ∧ MS0 tp L ord h0 h' p n' K' Ka' w := by
  obtain ⟨h', d, M'⟩ := M.settle (lv := 1) (by decide) (by decide) f
  have fb := flu_bud (lv := 1) P n K Ka (by decide)
  rw [f] at fb
  dsimp only at fb
  have b1 := B.1
  have b2 := B.2
  have p0 : pend [] = 0 := rfl
  refine ⟨h', ?_, M'.ms0 ⟨by omega, Nat.zero_le _⟩⟩
  show D_X11_readExpression_20b _ h (some 81) l1 4 = _
  unfold D_X11_readExpression_20b D_X11_readExpression_76
  rw [M.bad, Option.bind_some, if_pos rfl, if_pos rfl, o81 M.sh, Option.bind_some, show D_X11_settle h (some 81) (1 : Int32) = some h' from d, Option.bind_some]
theorem ex_endF (M : MFl h0 h q) (l1 t : Int32) (k : Nat) : ∃ h', D_X11_readExpression_20 (k + 1) h (some 81) l1 t = some h' ∧ MFl h0 h' q := by
  obtain ⟨oo, ⟨n, K, Ka, P, S⟩, e19, e18⟩ := M
  obtain ⟨h', o', d, S'⟩ := m_settle (lv := 1) (by decide) (by decide) S
  refine ⟨h', ?_, oo.trans (o'.mono (by decide) (by decide)), ⟨_, _, _, _, S'⟩, (o'.2.2 19 (by decide)).1.trans e19, (o'.2.2 18 (by decide)).1.trans e18⟩
  show D_X11_readExpression_20b _ h (some 81) l1 t = _
  unfold D_X11_readExpression_20b D_X11_readExpression_76
  rw [s_gI S.1 (ci := 11) rfl rfl, Option.bind_some, e19, if_neg one_ne, o81 S.1, Option.bind_some, show D_X11_settle h (some 81) (1 : Int32) = some h' from d, Option.bind_some]
def ENDX (tp : Nat → Nat) (L : Nat) (ord : Bool) (g0 h0 : z_H) (R : z_R) (p n w nM : Nat) (op ar K Ka : Nat → Int32) (b : Bool) (gC hM : z_H) : Prop := (b = false ∧ ∃ q, CFl L g0 gC q ∧ MFl h0 hM q) ∨ (b = true ∧ ∃ (p' n' : Nat) (op' ar' : Nat → Int32) (ws nM' : Nat) (K' Ka' : Nat → Int32), p ≤ p' ∧ CSt tp L ord g0 gC p' n' op' ar' (w + ws) ∧ MS0 tp L ord h0 hM p' nM' K' Ka' (w + ws) ∧ R op' ar' K' Ka' n n' nM nM' ws ∧ (∀ i, i < n → op' i = op i ∧ ar' i = ar i) ∧ (∀ i, i < nM → K' i = K i ∧ Ka' i = Ka i))
theorem both_sum (C : CSt tp L ord g0 g p n op ar w) (M : MS0 tp L ord h0 h p nM K Ka w) (le : n ≤ nM) : ∃ (b : Bool) (gC hM : z_H), D_X5_readSum 12 g (some 23) 0 = some (b01 b, gC) ∧ D_X11_readExpression h (some 81) 0 = some hM ∧ ENDX tp L ord g0 h0 (SUMR ord) p n w nM op ar K Ka b gC hM := by
  obtain ⟨h1, M1, B1, e⟩ := ex_begin M
  have hL := M1.2.2.1.1
  have hp := M1.2.2.2.1.1
  obtain ⟨b, gC, d, s, hM, t', r, X⟩ := sim_sums (tp := tp) (L := L) (ord := ord) (l1 := 0) 12 0 (by decide) (by decide) g0 g h0 h1 p n w nM op ar K Ka [] C M1 B1 le trivial
  rcases X with ⟨rfl, hs, q, cf, mf⟩ | ⟨rfl, rfl, p2, n2, op2, ar2, ws2, nQ, KQ, KaQ, Q, nM2, K2, Ka2, hs, C2, M2, B2, fl, R2, j1, j2, nt⟩
  · obtain ⟨h2, d2, F2⟩ := ex_endF mf 0 t' (z_F - s - 1)
    refine ⟨false, gC, h2, d, ?_, Or.inl ⟨rfl, q, cf, F2⟩⟩
    have zs : z_F = (z_F - s - 1 + 1) + s := by show 1000000 = 1000000 - s - 1 + 1 + s; omega
    rw [e, if_pos rfl, zs, r]
    exact d2
  · have hp2 := M2.2.2.2.1.1
    have iQ : inr Q = none := by rw [← flu_inr (lv := 5) (by decide) Q nQ KQ KaQ, fl]; rfl
    have r2 := r.trans (ex_sum M2 (m_bs_over M2 nt iQ))
    have fl1 : flu 1 Q nQ KQ KaQ = ([], nM2, K2, Ka2) := by rw [flu_then (lv' := 1) (by decide) fl]; rfl
    obtain ⟨h3, d3, M3⟩ := ex_end M2 B2 fl1 0 (z_F - (s + 1) - 1)
    refine ⟨true, gC, h3, d, ?_, Or.inr ⟨rfl, p2, n2, op2, ar2, ws2, nM2, K2, Ka2, by omega, C2, M3, R2, j1, j2⟩⟩
    have zs : z_F = (z_F - (s + 1) - 1 + 1) + (s + 1) := by show 1000000 = 1000000 - (s + 1) - 1 + 1 + (s + 1); omega
    rw [e, if_pos rfl, zs, r2]
    exact d3
theorem both_test (C : CSt tp L ord g0 g p n op ar w) (M : MS0 tp L ord h0 h p nM K Ka w) (le : n ≤ nM) : ∃ (b : Bool) (gC hM : z_H), D_X5_readTest 12 g (some 23) 0 = some (b01 b, gC) ∧ D_X11_readExpression h (some 81) 1 = some hM ∧ ENDX tp L ord g0 h0 (TSTR ord) p n w nM op ar K Ka b gC hM := by
  obtain ⟨h1, M1, B1, e⟩ := ex_begin M
  have hL := M1.2.2.1.1
  have hp := M1.2.2.2.1.1
  obtain ⟨b, gC, d, s, hM, t', r, X⟩ := sim_tests (tp := tp) (L := L) (ord := ord) 12 0 (by decide) (by decide) g0 g h0 h1 p n w nM op ar K Ka [] C M1 B1 le ⟨trivial, fun z => by cases z⟩
  rcases X with ⟨rfl, hs, q, cf, mf⟩ | ⟨rfl, rfl, p2, n2, op2, ar2, ws2, nQ, KQ, KaQ, Q, nM2, K2, Ka2, hs, C2, M2, B2, fl, R2, j1, j2, nt⟩
  · obtain ⟨h2, d2, F2⟩ := ex_endF mf 1 t' (z_F - s - 1)
    refine ⟨false, gC, h2, d, ?_, Or.inl ⟨rfl, q, cf, F2⟩⟩
    have zs : z_F = (z_F - s - 1 + 1) + s := by show 1000000 = 1000000 - s - 1 + 1 + s; omega
    rw [e, if_neg one_ne, zs, r]
    exact d2
  · have hp2 := M2.2.2.2.1.1
    have iQ : inr Q = none := by rw [← flu_inr (lv := 1) (by decide) Q nQ KQ KaQ, fl]; rfl
    have r2 := r.trans (ex_test (l1 := 1) M2 (m_bt_over M2 nt.1 nt.2 iQ))
    obtain ⟨h3, d3, M3⟩ := ex_end M2 B2 fl 1 (z_F - (s + 1) - 1)
    refine ⟨true, gC, h3, d, ?_, Or.inr ⟨rfl, p2, n2, op2, ar2, ws2, nM2, K2, Ka2, by omega, C2, M3, R2, j1, j2⟩⟩
    have zs : z_F = (z_F - (s + 1) - 1 + 1) + (s + 1) := by show 1000000 = 1000000 - (s + 1) - 1 + 1 + (s + 1); omega
    rw [e, if_neg one_ne, zs, r2]
    exact d3
end F4
