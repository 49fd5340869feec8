/-! both readers: a PLAIN of a TEST -/
section F2
variable {tp : Nat → Nat} {L : Nat} {ord : Bool} {g0 g h0 h : z_H} {p n nM w od q d : Nat} {op ar K Ka : Nat → Int32} {P : List (Nat × Nat)} {kr : z_H → Option Nat → Int32 → Option (Int32 × z_H)}
def nots : Nat → List (Nat × Nat) → List (Nat × Nat)
  | 0, P => P
  | k + 1, P => (28, 0) :: nots k P
def notK (x : Int32) : Nat → Nat → (Nat → Int32) → Nat → Int32
  | 0, _, K => K
  | k + 1, n, K => notK x k (n + 1) (upd K n x)
theorem notK_lo {x : Int32} : ∀ (k n : Nat) (K : Nat → Int32) (i : Nat), i < n → notK x k n K i = K i := by
  intro k
  induction k with
  | zero => intro n K i _; rfl
  | succ k ih =>
    intro n K i h
    show notK x k (n + 1) (upd K n x) i = _
    rw [ih _ _ _ (by omega), upd_ne (by omega)]
theorem notK_in {x : Int32} : ∀ (k n : Nat) (K : Nat → Int32) (i : Nat), n ≤ i → i < n + k → notK x k n K i = x := by
  intro k
  induction k with
  | zero => intro n K i h1 h2; omega
  | succ k ih =>
    intro n K i h1 h2
    show notK x k (n + 1) (upd K n x) i = _
    by_cases c : i = n
    · rw [c, notK_lo _ _ _ _ (by omega), upd_eq]
    · exact ih _ _ _ (by omega) (by omega)
theorem flu_nots : ∀ (k n : Nat) (K Ka : Nat → Int32), topLt 3 P → flu 3 (nots k P) n K Ka = (P, n + k, notK 28 k n K, notK 0 k n Ka) := by
  intro k
  induction k with
  | zero => intro n K Ka t; exact flu_id t
  | succ k ih =>
    intro n K Ka t
    show flu 3 ((28, 0) :: nots k P) n K Ka = _
    rw [flu_em (by decide) (by decide), ih _ _ _ t, show n + 1 + k = n + (k + 1) by omega]
    rfl
theorem nots_top5 (t : topLt 3 P) : ∀ k, topLt 5 (nots k P) := fun k => by
  cases k with
  | zero => exact topLt_mono t (by decide)
  | succ k => show bnd 28 < 5; decide
theorem nots_inr : ∀ k, inr (nots k P) = inr P := fun k => by
  induction k with
  | zero => rfl
  | succ k ih => exact ih
theorem nots_cmpd (t : topLt 3 P) : ∀ k, cmpd (nots k P) = false := fun k => by
  cases k with
  | zero =>
    cases P with
    | nil => rfl
    | cons x r =>
      obtain ⟨o, a⟩ := x
      have h1 : bnd o < 3 := t
      have h2 : 29 ≤ o := by
        unfold bnd at h1
        split at h1
        · omega
        · split at h1
          · omega
          · split at h1
            · omega
            · split at h1
              · omega
              · split at h1
                · omega
                · split at h1 <;> omega
      show (if 20 ≤ o ∧ o ≤ 24 then cmpd r else decide (25 ≤ o ∧ o ≤ 27)) = false
      rw [if_neg (by omega), decide_eq_false (by omega)]
  | succ k => rfl
theorem flu_cmpd : ∀ (Q : List (Nat × Nat)) (n : Nat) (K Ka : Nat → Int32) (m : Nat), pOK m Q → cmpd (flu 5 Q n K Ka).1 = cmpd Q := by
  intro Q
  induction Q with
  | nil => intro n K Ka m _; rfl
  | cons x r ih =>
    intro n K Ka m ok
    obtain ⟨o, a⟩ := x
    by_cases c : bnd o < 5
    · rw [flu_id (P := (o, a) :: r) c]
    · have o2 := ok.1.1
      have o24 : o ≤ 24 := by
        rcases (show o ≤ 24 ∨ 25 ≤ o by omega) with z | z
        · exact z
        · exfalso
          apply c
          unfold bnd
          by_cases a1 : 31 ≤ o
          · rw [if_pos a1]; omega
          · rw [if_neg a1]
            by_cases a2 : o = 30
            · rw [if_pos a2]; omega
            · rw [if_neg a2]
              by_cases a3 : o = 29
              · rw [if_pos a3]; omega
              · rw [if_neg a3]
                by_cases a4 : o = 28
                · rw [if_pos a4]; omega
                · rw [if_neg a4, if_pos z]; omega
      rw [flu_em c (by omega), ih _ _ _ m ok.2]
      show _ = (if 20 ≤ o ∧ o ≤ 24 then cmpd r else _)
      rw [if_pos ⟨o2, o24⟩]
theorem TSTR.pairs {lo hi b m ww : Nat} : ∀ j, TSTR ord op ar K Ka lo hi b m ww → (∀ u, u < 2 * j → K (m + u) = 28) → TSTR ord op ar K Ka lo hi b (m + 2 * j) ww := by
  intro j
  induction j with
  | zero => intro H _; exact H
  | succ j ih =>
    intro H k
    have := (ih H (fun u hu => k u (by omega))).pair (by rw [k (2 * j) (by omega)]) (by rw [show m + 2 * j + 1 = m + (2 * j + 1) by omega, k (2 * j + 1) (by omega)])
    rw [show m + 2 * (j + 1) = m + 2 * j + 2 by omega]
    exact this
/-- the NOTS of a PLAIN are put down -/
theorem fin_nots {gC : z_H} {p' n' W nQ nM' ws k : Nat} {op' ar' KQ KaQ K' Ka' : Nat → Int32} {Q : List (Nat × Nat)} (C : CSt tp L ord g0 gC p' n' op' ar' W) (B : Bu nQ Q p') (hp : p' ≤ 400) (le : n ≤ nM) (tl : topLt 3 P) (fl : flu 3 Q nQ KQ KaQ = flu 3 (nots k P) nM' K' Ka') (R : TSTR ord op' ar' K' Ka' n n' nM nM' ws) (hk : k ≤ 400) : ∃ (g' : z_H) (n2 : Nat) (op2 ar2 : Nat → Int32), D_X5_readPlain_166 kr gC (some 23) (Int32.ofNat k) 1 = some (1, g') ∧ CSt tp L ord g0 g' p' n2 op2 ar2 W ∧ flu 3 Q nQ KQ KaQ = (P, nM' + k, notK 28 k nM' K', notK 0 k nM' Ka') ∧ TSTR ord op2 ar2 (notK 28 k nM' K') (notK 0 k nM' Ka') n n2 nM (nM' + k) ws ∧ (∀ i, i < n' → op2 i = op' i ∧ ar2 i = ar' i) := by
  have fl2 : flu 3 Q nQ KQ KaQ = (P, nM' + k, notK 28 k nM' K', notK 0 k nM' Ka') := by rw [fl, flu_nots k _ _ _ tl]
  have fb := flu_bud (lv := 3) Q nQ KQ KaQ (by decide)
  rw [fl2] at fb
  dsimp only at fb
  have bb := B.1
  have Rle := R.1.le
  have Rlo := R.1.1
  have em : (Int32.ofNat k - Int32.ofNat k / 2 * 2 = 1) ↔ k % 2 = 1 := by
    rw [show Int32.ofNat k / 2 = Int32.ofNat (k / 2) from sc_div (b := 2) (by omega) (by decide) (by decide), show Int32.ofNat (k / 2) * 2 = Int32.ofNat (k / 2 * 2) from (Int32.ofNat_mul (k / 2) 2).symm, sc_sub (by omega)]
    have := eq_lit (a := k - k / 2 * 2) (b := 1) (by omega) (by decide)
    rw [show (1 : Int32) = Int32.ofNat 1 from rfl, this]
    omega
  by_cases c : k % 2 = 1
  · obtain ⟨g1, d1, C1⟩ := C.emit (by omega) 2 0
    refine ⟨g1, n' + 1, _, _, ?_, C1, fl2, ?_, fun i hi => ⟨upd_ne (by omega), upd_ne (by omega)⟩⟩
    · unfold D_X5_readPlain_166
      rw [if_pos (em.mpr c), q25 C.1, Option.bind_some, o25 C.1, Option.bind_some, d1, Option.bind_some, if_pos (Or.inr rfl)]
    · have RA : TSTR ord (upd op' n' 2) (upd ar' n' 0) (notK 28 k nM' K') (notK 0 k nM' Ka') n n' nM nM' ws := R.cg (fun i a b => ⟨upd_ne (by omega), upd_ne (by omega)⟩) (fun i a b => ⟨notK_lo _ _ _ _ b, notK_lo _ _ _ _ b⟩)
      have RB := RA.neg upd_eq (notK_in _ _ _ _ (Nat.le_refl _) (by omega))
      have RC := RB.pairs ((k - 1) / 2) (fun u hu => notK_in _ _ _ _ (by omega) (by omega))
      rw [show nM' + 1 + 2 * ((k - 1) / 2) = nM' + k by omega] at RC
      exact RC
  · refine ⟨gC, n', op', ar', ?_, C, fl2, ?_, fun i hi => ⟨rfl, rfl⟩⟩
    · unfold D_X5_readPlain_166
      rw [if_neg (fun z => c (em.mp z)), if_pos (Or.inr rfl)]
    · have RA : TSTR ord op' ar' (notK 28 k nM' K') (notK 0 k nM' Ka') n n' nM nM' ws := R.cg (fun i a b => ⟨rfl, rfl⟩) (fun i a b => ⟨notK_lo _ _ _ _ b, notK_lo _ _ _ _ b⟩)
      have RC := RA.pairs (k / 2) (fun u hu => notK_in _ _ _ _ (by omega) (by omega))
      rw [show nM' + 2 * (k / 2) = nM' + k by omega] at RC
      exact RC
theorem fin_fail {gC : z_H} {k : Nat} (C : CFl L g0 gC q) : ∃ g', D_X5_readPlain_166 kr gC (some 23) (Int32.ofNat k) 0 = some (0, g') ∧ CFl L g0 g' q := by
  unfold D_X5_readPlain_166
  by_cases c : Int32.ofNat k - Int32.ofNat k / 2 * 2 = 1
  · obtain ⟨g1, d1, C1⟩ := C.emit 2 0
    exact ⟨g1, by rw [if_pos c, q25 C.1, Option.bind_some, o25 C.1, Option.bind_some, d1, Option.bind_some, if_pos (Or.inl rfl)], C1⟩
  · exact ⟨gC, by rw [if_neg c, if_pos (Or.inl rfl)], C⟩
def NTo (tp : Nat → Nat) (L : Nat) (p : Nat) : Prop := isW tp L p wdAnd = false ∧ isW tp L p wdOr = false
def preT (lv : Nat) (P : List (Nat × Nat)) : Prop := topLt lv P ∧ ¬ inr P = some 32
/-- no NOT, no bracket: a SUM begins -/
theorem ex_same (H : MSt tp L ord h0 h p n K Ka P w od) (e1 : isW tp L p wdNot = false) (e2 : isSg tp L p 40 = false) (l1 : Int32) (k : Nat) : D_X11_readExpression_20 k h (some 81) l1 0 = D_X11_readExpression_20 k h (some 81) l1 1 := by
  cases k with
  | zero => rfl
  | succ k =>
    show D_X11_readExpression_20b (D_X11_readExpression_20 k) h (some 81) l1 0 = D_X11_readExpression_20b (D_X11_readExpression_20 k) h (some 81) l1 1
    unfold D_X11_readExpression_20b D_X11_readExpression_72 D_X11_readPlain
    rw [H.bad, Option.bind_some, Option.bind_some, if_pos rfl, if_pos rfl, if_neg (by decide), if_pos rfl, if_neg (by decide), if_neg one_ne, if_pos rfl, o81 H.sh, Option.bind_some, Option.bind_some, H.wNot, e1, Option.bind_some]
    dsimp only
    simp only [show D_X11_isSign h (some 81) 40 = some (b01 false, h) by rw [show (40 : Int32) = Int32.ofNat 40 from rfl, H.sg (by decide), e2], o81 H.sh, Option.bind_some, b01_if]
    rw [if_neg (by decide), if_neg (by decide)]
    cases D_X11_readPart h (some 81) <;> rfl
theorem sim_p28 {k : Nat} (hd : d ≤ 8) (hk : k ≤ 400) (IH : d < 8 → SimD tp L ord 1 kr (TSTR ord) 1 2 (NTo tp L) 0 (preT 1) (d + 1)) (C : CSt tp L ord g0 g p n op ar w) (M : MSt tp L ord h0 h p nM K Ka (nots k P) w d) (B : Bu nM (nots k P) p) (le : n ≤ nM) (pr : preT 3 P) (e1 : isW tp L p wdNot = false) : ∃ (b : Bool) (gC : z_H), D_X5_readPlain_28 kr g (some 23) (Int32.ofNat d) (Int32.ofNat k) = some (b01 b, gC) ∧ POST tp L ord g0 h0 1 (TSTR ord) 3 2 (fun _ => True) p n w nM op ar K Ka P d h 0 b gC := by
  have hL := M.2.2.1.1
  have hp := M.2.2.2.1.1
  have s40 : D_X5_isSign g (some 23) 40 = some (b01 (isSg tp L p 40), g) := C.sg (c := 40) (by decide)
  unfold D_X5_readPlain_28
  rw [o23 C.1, Option.bind_some, s40, Option.bind_some]
  dsimp only
  cases br : isSg tp L p 40 with
  | true =>
    rw [if_neg (show ¬ b01 true = 0 by decide)]
    obtain ⟨pl, pn, pL⟩ := isSg_lt br hp
    have rp : ∀ x, D_X11_openBracket h (some 81) 31 = some x → D_X11_readPlain h (some 81) = some (0, x) := fun x hx => by
      unfold D_X11_readPlain
      rw [o81 M.sh, Option.bind_some, M.wNot, e1, Option.bind_some]
      dsimp only
      rw [if_pos (show b01 false = 0 from rfl), o81 M.sh, Option.bind_some, show (40 : Int32) = Int32.ofNat 40 from rfl, M.sg (by decide), br, Option.bind_some]
      dsimp only
      rw [if_neg (show ¬ b01 true = 0 by decide), o81 M.sh, Option.bind_some, hx, Option.bind_some]
    by_cases d8 : d < 8
    · obtain ⟨g1, dg, C1⟩ := C.next
      obtain ⟨h1, dh, M1, B1⟩ := M.open1 d8 pl B (o := 31) (Or.inl rfl)
      obtain ⟨b, gC, dk, s, hM, t', r, X⟩ := IH d8 g0 g1 h0 h1 (tkN tp L p) n w nM op ar K Ka ((31, 0) :: nots k P) C1 M1 B1 le ⟨show bnd 31 < 1 by decide, show ¬ some 31 = some 32 by decide⟩
      have r1 : RCH 1 1 h 0 h1 0 := ex_plain M (rp h1 dh)
      rw [if_pos (show Int32.ofNat d < 8 from (nat_lt (b := 8) (by omega) (by decide)).mpr d8), o23 C.1, Option.bind_some, dg, Option.bind_some, o23 C1.1, Option.bind_some, show Int32.ofNat d + 1 = Int32.ofNat (d + 1) from sc_add d 1, dk, Option.bind_some]
      dsimp only
      unfold D_X5_readPlain_75 D_X5_readPlain_76
      rcases X with ⟨rfl, hs, q, cf, mf⟩ | ⟨rfl, rfl, p', n', op', ar', ws, nQ, KQ, KaQ, Q, nM', K', Ka', hs, C2, M2, B2, f2, R2, k1, k2, nt⟩
      · obtain ⟨g2, d2, cf2⟩ := fin_fail (kr := kr) (k := k) cf
        rw [if_pos (show b01 false = 0 from rfl), d2]
        exact ⟨false, g2, rfl, post_fail (r1.trans r) (by omega) cf2 mf⟩
      · rw [if_neg (show ¬ b01 true = 0 by decide), o23 C2.1, Option.bind_some]
        have mc := m_bt_close M2 B2 nt.1 nt.2 f2 (by omega)
        have pp' := M2.2.2.2.1.1
        rcases C2.skip (c := 41) (by decide) with ⟨e, g3, d3, C3⟩ | ⟨e, g3, d3, F3⟩
        · rw [show (41 : Int32) = Int32.ofNat 41 from rfl, d3, Option.bind_some]
          dsimp only
          rw [if_neg one_ne]
          rcases mc with ⟨_, h3, d4, M3, B3⟩ | ⟨e', _⟩
          · obtain ⟨q1, q2, q3⟩ := isSg_lt e pp'
            obtain ⟨g4, n4, op4, ar4, d5, C4, f4, R4, j4⟩ := fin_nots (kr := kr) (P := P) (k := k) C3 B3 (by omega) le pr.1 (KQ := K') (KaQ := Ka') rfl R2 hk
            rw [d5]
            have Rlo := R2.1.1
            refine ⟨true, g4, rfl, 1 + s + 1, h3, 2, (r1.trans r).trans (ex_test M2 d4), Or.inr ⟨rfl, rfl, tkN tp L p', n4, op4, ar4, ws, nM', K', Ka', nots k P, nM' + k, _, _, by omega, C4, by rw [show d + 1 - 1 = d by omega] at M3; exact M3, B3, f4, R4, fun i hi => ⟨(j4 i (by omega)).1.trans (k1 i hi).1, (j4 i (by omega)).2.trans (k1 i hi).2⟩, fun i hi => ?_, trivial⟩⟩
            have Rle := R2.1.le
            exact ⟨(notK_lo _ _ _ _ (by omega)).trans (k2 i hi).1, (notK_lo _ _ _ _ (by omega)).trans (k2 i hi).2⟩
          · rw [e] at e'; cases e'
        · rw [show (41 : Int32) = Int32.ofNat 41 from rfl, d3, Option.bind_some]
          dsimp only
          rw [if_pos rfl]
          rcases mc with ⟨e', _⟩ | ⟨_, h3, d4, F4⟩
          · rw [e] at e'; cases e'
          · obtain ⟨g2, d2, cf2⟩ := fin_fail (kr := kr) (k := k) F3
            rw [d2]
            exact ⟨false, g2, rfl, post_fail ((r1.trans r).trans (ex_test M2 d4)) (by omega) cf2 F4⟩
    · have : d = 8 := by omega
      subst this
      obtain ⟨g1, dg, F1⟩ := C.fail
      obtain ⟨h1, dh, F2⟩ := M.open0 31
      rw [if_neg (by decide), o23 C.1, Option.bind_some, dg, Option.bind_some]
      exact ⟨false, g1, rfl, post_fail (ex_plain M (rp h1 dh)) (by omega) F1 F2⟩
  | false =>
    rw [if_pos (show b01 false = 0 from rfl), o23 C.1, Option.bind_some]
    have SS := sim_sums (tp := tp) (L := L) (ord := ord) (l1 := 1) 12 d hd (by omega)
    obtain ⟨b, g1, d1, s, hM, t', r0, X⟩ := SS g0 g h0 h p n w nM op ar K Ka (nots k P) C M B le (nots_top5 pr.1 k)
    have r : RCH 1 s h 0 hM t' := fun j => (ex_same M e1 br 1 (j + s)).trans (r0 j)
    rw [d1, Option.bind_some]
    dsimp only
    rcases X with ⟨rfl, hs, q, cf, mf⟩ | ⟨rfl, rfl, p1, n1, op1, ar1, ws1, nQ, KQ, KaQ, Q, nM1, K1, Ka1, hs, C1, M1, B1, f1, R1, k1, k2, nt⟩
    · rw [if_pos (show b01 false = 0 from rfl)]
      exact ⟨false, g1, rfl, post_fail r (by omega) cf mf⟩
    · have hp1 := M1.2.2.2.1.1
      have iQ : ¬ inr Q = some 32 := by
        rw [← flu_inr (lv := 5) (by decide) Q nQ KQ KaQ, f1]
        show ¬ inr (nots k P) = some 32
        rw [nots_inr]; exact pr.2
      have cQ : cmpd Q = false := by
        rw [← flu_cmpd Q nQ KQ KaQ nQ M1.1.2.2.2.2.2.2.1, f1]
        exact nots_cmpd pr.1 k
      have t1 : D_X5_isSign g1 (some 23) 60 = some (b01 (isSg tp L p1 60), g1) := C1.sg (c := 60) (by decide)
      have t2 : D_X5_isSign g1 (some 23) 62 = some (b01 (isSg tp L p1 62), g1) := C1.sg (c := 62) (by decide)
      have t3 : D_X5_isSign g1 (some 23) 61 = some (b01 (isSg tp L p1 61), g1) := C1.sg (c := 61) (by decide)
      rw [if_neg (show ¬ b01 true = 0 by decide)]
      simp only [o23 C1.1, t1, t2, t3, Option.bind_some, b01_if]
      rcases m_bs_cmp M1 B1 nt iQ cQ f1 with ⟨o, eo, ho, ⟨pl, pn, pL⟩, h2, d2, M2, B2⟩ | ⟨eo, h2, d2, F2⟩
      · have cl : (if isSg tp L p1 60 = true then D_X5_readPlain_133 kr g1 (some 23) (Int32.ofNat d) (Int32.ofNat k) 10 else if isSg tp L p1 62 = true then D_X5_readPlain_133 kr g1 (some 23) (Int32.ofNat d) (Int32.ofNat k) 11 else if isSg tp L p1 61 = true then D_X5_readPlain_133 kr g1 (some 23) (Int32.ofNat d) (Int32.ofNat k) 12 else D_X5_readPlain_133 kr g1 (some 23) (Int32.ofNat d) (Int32.ofNat k) (-1)) = D_X5_readPlain_133 kr g1 (some 23) (Int32.ofNat d) (Int32.ofNat k) (Int32.ofNat (o - 15)) := by
          unfold cmO at eo
          by_cases c1 : isSg tp L p1 60 = true
          · rw [if_pos c1] at eo ⊢; cases eo; rfl
          · rw [if_neg c1] at eo ⊢
            by_cases c2 : isSg tp L p1 62 = true
            · rw [if_pos c2] at eo ⊢; cases eo; rfl
            · rw [if_neg c2] at eo ⊢
              by_cases c3 : isSg tp L p1 61 = true
              · rw [if_pos c3] at eo ⊢; cases eo; rfl
              · rw [if_neg c3] at eo; cases eo
        rw [cl]
        unfold D_X5_readPlain_133
        obtain ⟨g2, dg2, C2⟩ := C1.next
        have Rle1 := R1.1.le
        have Rlo1 := R1.1.1
        obtain ⟨b, g3, d3, s2, hM2, t2', r2, X⟩ := SS g0 g2 h0 h2 (tkN tp L p1) n1 (w + ws1) nM1 op1 ar1 K1 Ka1 ((o, 0) :: nots k P) C2 M2 B2 (by omega) (show bnd o < 5 by
          rcases (show o = 25 ∨ o = 26 ∨ o = 27 by omega) with z | z | z <;> rw [z] <;> decide)
        rw [if_neg (show ¬ Int32.ofNat (o - 15) = -1 from of_nm1 (by omega)), o23 C1.1, Option.bind_some, dg2, Option.bind_some, o23 C2.1, Option.bind_some, d3, Option.bind_some]
        dsimp only
        have rr := r.trans (ex_sum M1 d2)
        rcases X with ⟨rfl, hs2, q, cf, mf⟩ | ⟨rfl, rfl, p2, n2, op2, ar2, ws2, nQ2, KQ2, KaQ2, Q2, nM2, K2, Ka2, hs2, C3, M3, B3, f3, R3, j1, j2, nt2⟩
        · obtain ⟨g4, d4, cf4⟩ := cf.emit (Int32.ofNat (o - 15)) 0
          obtain ⟨g5, d5, cf5⟩ := fin_fail (kr := kr) (k := k) cf4
          rw [q25 cf.1, Option.bind_some, o25 cf.1, Option.bind_some, d4, Option.bind_some]
          exact ⟨false, g5, d5, post_fail (rr.trans r2) (by omega) cf5 mf⟩
        · have hp2 := M3.2.2.2.1.1
          have Rle3 := R3.1.le
          have Rlo3 := R3.1.1
          have bb := B3.1
          have fb := flu_bud (lv := 5) Q2 nQ2 KQ2 KaQ2 (by decide)
          rw [f3] at fb
          dsimp only at fb
          have pd : pend ((o, 0) :: nots k P) = 1 + pend (nots k P) := by
            show (if 29 ≤ o then 0 else 1) + pend (nots k P) = _
            rw [if_neg (by omega)]
          have bo : bnd o = 4 := by
            rcases (show o = 25 ∨ o = 26 ∨ o = 27 by omega) with z | z | z <;> rw [z] <;> rfl
          obtain ⟨g4, d4, C4⟩ := C3.emit (by omega) (Int32.ofNat (o - 15)) 0
          have iQ2 : ¬ inr Q2 = some 32 := by
            rw [← flu_inr (lv := 5) (by decide) Q2 nQ2 KQ2 KaQ2, f3]
            show ¬ (if 31 ≤ o then some o else inr (nots k P)) = some 32
            rw [if_neg (by omega), nots_inr]; exact pr.2
          have cQ2 : cmpd Q2 = true := by
            rw [← flu_cmpd Q2 nQ2 KQ2 KaQ2 nQ2 M3.1.2.2.2.2.2.2.1, f3]
            show (if 20 ≤ o ∧ o ≤ 24 then cmpd (nots k P) else decide (25 ≤ o ∧ o ≤ 27)) = true
            rw [if_neg (by omega), decide_eq_true ho]
          have r3 : RCH 1 1 hM2 3 hM2 2 := ex_sum M3 (m_bs_told M3 nt2 iQ2 cQ2)
          have RA : SUMR ord (upd op2 n2 (Int32.ofNat (o - 15))) (upd ar2 n2 0) (upd K2 nM2 (Int32.ofNat o)) (upd Ka2 nM2 0) n n1 nM nM1 ws1 := R1.cg (fun i a c => ⟨by rw [upd_ne (by omega)]; exact (j1 i c).1, by rw [upd_ne (by omega)]; exact (j1 i c).2⟩) (fun i a c => ⟨by rw [upd_ne (by omega)]; exact (j2 i c).1, by rw [upd_ne (by omega)]; exact (j2 i c).2⟩)
          have RB : SUMR ord (upd op2 n2 (Int32.ofNat (o - 15))) (upd ar2 n2 0) (upd K2 nM2 (Int32.ofNat o)) (upd Ka2 nM2 0) n1 n2 nM1 nM2 ws2 := R3.cg (fun i a c => ⟨upd_ne (by omega), upd_ne (by omega)⟩) (fun i a c => ⟨upd_ne (by omega), upd_ne (by omega)⟩)
          have RC := TSTR.cmp RA RB (o := o - 15) (by omega) (by omega) upd_eq (by rw [upd_eq, show o - 15 + 15 = o by omega])
          have f5 : flu 3 Q2 nQ2 KQ2 KaQ2 = flu 3 (nots k P) (nM2 + 1) (upd K2 nM2 (Int32.ofNat o)) (upd Ka2 nM2 0) := by
            rw [flu_then (lv' := 3) (by decide) f3, flu_em (by rw [bo]; decide) (by omega)]
          obtain ⟨g5, n5, op5, ar5, d5, C5, f6, R5, j5⟩ := fin_nots (kr := kr) (P := P) (k := k) C4 B3 (by omega) le pr.1 f5 RC hk
          rw [q25 C3.1, Option.bind_some, o25 C3.1, Option.bind_some, d4, Option.bind_some]
          refine ⟨true, g5, d5, s + 1 + s2 + 1, hM2, 2, (rr.trans r2).trans r3, Or.inr ⟨rfl, rfl, p2, n5, op5, ar5, ws1 + ws2, nQ2, KQ2, KaQ2, Q2, nM2 + 1 + k, _, _, by omega, by rw [← Nat.add_assoc]; exact C5, by rw [← Nat.add_assoc]; exact M3, B3, f6, R5, fun i hi => ?_, fun i hi => ?_, trivial⟩⟩
          · obtain ⟨x1, x2⟩ := j5 i (by omega)
            rw [upd_ne (by omega)] at x1 x2
            exact ⟨x1.trans ((j1 i (by omega)).1.trans (k1 i hi).1), x2.trans ((j1 i (by omega)).2.trans (k1 i hi).2)⟩
          · rw [notK_lo _ _ _ _ (by omega), notK_lo _ _ _ _ (by omega), upd_ne (by omega), upd_ne (by omega)]
            exact ⟨(j2 i (by omega)).1.trans (k2 i hi).1, (j2 i (by omega)).2.trans (k2 i hi).2⟩
      · have cl : (if isSg tp L p1 60 = true then D_X5_readPlain_133 kr g1 (some 23) (Int32.ofNat d) (Int32.ofNat k) 10 else if isSg tp L p1 62 = true then D_X5_readPlain_133 kr g1 (some 23) (Int32.ofNat d) (Int32.ofNat k) 11 else if isSg tp L p1 61 = true then D_X5_readPlain_133 kr g1 (some 23) (Int32.ofNat d) (Int32.ofNat k) 12 else D_X5_readPlain_133 kr g1 (some 23) (Int32.ofNat d) (Int32.ofNat k) (-1)) = D_X5_readPlain_133 kr g1 (some 23) (Int32.ofNat d) (Int32.ofNat k) (-1) := by
          unfold cmO at eo
          by_cases c1 : isSg tp L p1 60 = true
          · rw [if_pos c1] at eo; cases eo
          · rw [if_neg c1] at eo ⊢
            by_cases c2 : isSg tp L p1 62 = true
            · rw [if_pos c2] at eo; cases eo
            · rw [if_neg c2] at eo ⊢
              by_cases c3 : isSg tp L p1 61 = true
              · rw [if_pos c3] at eo; cases eo
              · rw [if_neg c3]
        rw [cl]
        unfold D_X5_readPlain_133
        obtain ⟨g2, dg, F1⟩ := C1.fail
        rw [if_pos rfl, o23 C1.1, Option.bind_some, dg, Option.bind_some]
        exact ⟨false, g2, rfl, post_fail (r.trans (ex_sum M1 d2)) (by omega) F1 F2⟩
theorem sim_p2 (hd : d ≤ 8) (IH : d < 8 → SimD tp L ord 1 kr (TSTR ord) 1 2 (NTo tp L) 0 (preT 1) (d + 1)) (le : n ≤ nM) (pr : preT 3 P) : ∀ (δ f k p : Nat) (g h : z_H), L - p = δ → δ < f → k ≤ p → CSt tp L ord g0 g p n op ar w → MSt tp L ord h0 h p nM K Ka (nots k P) w d → Bu nM (nots k P) p → ∃ (b : Bool) (gC : z_H), D_X5_readPlain_2 kr f g (some 23) (Int32.ofNat d) (Int32.ofNat k) = some (b01 b, gC) ∧ POST tp L ord g0 h0 1 (TSTR ord) 3 2 (fun _ => True) p n w nM op ar K Ka P d h 0 b gC := by
  intro δ
  induction δ using Nat.strongRecOn with
  | _ δ ih =>
  intro f k p g h hδ hf hk C M B
  obtain ⟨f, rfl⟩ : ∃ f', f = f' + 1 := ⟨f - 1, by omega⟩
  have hL := M.2.2.1.1
  have hp := M.2.2.2.1.1
  show ∃ (b : Bool) (gC : z_H), D_X5_readPlain_2b kr (D_X5_readPlain_2 kr f) g (some 23) (Int32.ofNat d) (Int32.ofNat k) = some (b01 b, gC) ∧ _
  unfold D_X5_readPlain_2b
  cases e : isW tp L p wdNot with
  | false =>
    have S := sim_p28 (k := k) hd (by omega) IH C M B le pr e
    by_cases z : (400 : Int32) ≤ Int32.ofNat k
    · rw [if_pos z]; exact S
    · rw [if_neg z, o23 C.1, Option.bind_some, C.wNot, e, Option.bind_some]
      dsimp only
      rw [if_pos (show b01 false = 0 from rfl)]
      exact S
  | true =>
    obtain ⟨pl, pn, pL⟩ := isW_lt e hp
    obtain ⟨g1, dg, C1⟩ := C.next
    have b1 := B.1
    have b2 := B.2
    have pd : pend ((28, 0) :: nots k P) = 1 + pend (nots k P) := rfl
    have ln : ((28, 0) :: nots k P).length = (nots k P).length + 1 := rfl
    obtain ⟨h1, dh, M1⟩ := M.push (o := 28) (a := 0) (by decide) (by omega) (by omega) (by omega)
    obtain ⟨h2, dh2, M2⟩ := M1.next
    have r1 : RCH 1 1 h 0 h2 0 := ex_plain M (by
      unfold D_X11_readPlain
      rw [o81 M.sh, Option.bind_some, M.wNot, e, Option.bind_some]
      dsimp only
      rw [if_neg (show ¬ b01 true = 0 by decide), o81 M.sh, Option.bind_some, show D_X11_push h (some 81) 28 0 = some h1 from dh, Option.bind_some, o81 M1.sh, Option.bind_some, dh2, Option.bind_some])
    rw [if_neg (show ¬ (400 : Int32) ≤ Int32.ofNat k from fun z => by have := (nat_le (a := 400) (by decide) (by omega)).mp z; omega), o23 C.1, Option.bind_some, C.wNot, e, Option.bind_some]
    dsimp only
    rw [if_neg (show ¬ b01 true = 0 by decide), o23 C.1, Option.bind_some, dg, Option.bind_some, Option.bind_some, show Int32.ofNat k + 1 = Int32.ofNat (k + 1) from sc_add k 1]
    obtain ⟨b, gC, d2, P2⟩ := ih (L - tkN tp L p) (by omega) f (k + 1) (tkN tp L p) g1 h2 rfl (by omega) (by omega) C1 M2 ⟨by show nM + pend ((28, 0) :: nots k P) ≤ _; omega, by show ((28, 0) :: nots k P).length ≤ _; omega⟩
    exact ⟨b, gC, d2, post_app r1 (by omega) P2⟩
theorem sim_plain (hd : d ≤ 8) (IH : d < 8 → SimD tp L ord 1 kr (TSTR ord) 1 2 (NTo tp L) 0 (preT 1) (d + 1)) : SimD tp L ord 1 (D_X5_readPlain kr) (TSTR ord) 3 2 (fun _ => True) 0 (preT 3) d := by
  intro g0 g h0 h p n w nM op ar K Ka P C M B le pr
  have hL := M.2.2.1.1
  exact sim_p2 hd IH le pr _ z_F 0 p g h rfl (by show _ < 1000000; omega) (by omega) C M B
end F2
