/-! both readers, side by side: a PART -/
section F0
variable {tp : Nat → Nat} {L : Nat} {ord : Bool} {g0 g h0 h : z_H} {p n nM w od q : Nat} {op ar K Ka : Nat → Int32} {P : List (Nat × Nat)}
def RCH (l1 : Int32) (s : Nat) (h : z_H) (t : Int32) (h' : z_H) (t' : Int32) : Prop := ∀ k, D_X11_readExpression_20 (k + s) h (some 81) l1 t = D_X11_readExpression_20 k h' (some 81) l1 t'
theorem RCH.zero (l1 : Int32) (h : z_H) (t : Int32) : RCH l1 0 h t h t := fun _ => rfl
theorem RCH.trans {l1 : Int32} {s1 s2 : Nat} {h1 h2 h3 : z_H} {t1 t2 t3 : Int32} (a : RCH l1 s1 h1 t1 h2 t2) (b : RCH l1 s2 h2 t2 h3 t3) : RCH l1 (s1 + s2) h1 t1 h3 t3 := fun k => by
  rw [show k + (s1 + s2) = (k + s2) + s1 by omega, a (k + s2), b k]
theorem ex_part (H : MSt tp L ord h0 h p n K Ka P w od) {l1 t' : Int32} {h' : z_H} (d : D_X11_readPart h (some 81) = some (t', h')) : RCH l1 1 h 1 h' t' := fun k => by
  show D_X11_readExpression_20b (D_X11_readExpression_20 k) h (some 81) l1 1 = _
  unfold D_X11_readExpression_20b D_X11_readExpression_72
  rw [H.bad, Option.bind_some, if_pos rfl, if_neg (by decide), if_neg one_ne, if_pos rfl, o81 H.sh, Option.bind_some, d, Option.bind_some]
theorem ex_plain (H : MSt tp L ord h0 h p n K Ka P w od) {l1 t' : Int32} {h' : z_H} (d : D_X11_readPlain h (some 81) = some (t', h')) : RCH l1 1 h 0 h' t' := fun k => by
  show D_X11_readExpression_20b (D_X11_readExpression_20 k) h (some 81) l1 0 = _
  unfold D_X11_readExpression_20b D_X11_readExpression_72
  rw [H.bad, Option.bind_some, if_pos rfl, if_neg (by decide), if_pos rfl, o81 H.sh, Option.bind_some, d, Option.bind_some]
theorem ex_sum (H : MSt tp L ord h0 h p n K Ka P w od) {l1 t' : Int32} {h' : z_H} (d : D_X11_behindSum h (some 81) l1 = some (t', h')) : RCH l1 1 h 3 h' t' := fun k => by
  show D_X11_readExpression_20b (D_X11_readExpression_20 k) h (some 81) l1 3 = _
  unfold D_X11_readExpression_20b D_X11_readExpression_72
  rw [H.bad, Option.bind_some, if_pos rfl, if_neg (by decide), if_neg (by decide), if_neg (by decide), if_pos rfl, o81 H.sh, Option.bind_some, d, Option.bind_some]
theorem ex_test (H : MSt tp L ord h0 h p n K Ka P w od) {l1 t' : Int32} {h' : z_H} (d : D_X11_behindTest h (some 81) = some (t', h')) : RCH l1 1 h 2 h' t' := fun k => by
  show D_X11_readExpression_20b (D_X11_readExpression_20 k) h (some 81) l1 2 = _
  unfold D_X11_readExpression_20b D_X11_readExpression_72
  rw [H.bad, Option.bind_some, if_pos rfl, if_neg (by decide), if_neg (by decide), if_neg (by decide), if_neg (by decide), o81 H.sh, Option.bind_some, d, Option.bind_some]
abbrev z_R : Type := (Nat → Int32) → (Nat → Int32) → (Nat → Int32) → (Nat → Int32) → Nat → Nat → Nat → Nat → Nat → Prop
/-- how a stretch ends that both have read -/
def POST (tp : Nat → Nat) (L : Nat) (ord : Bool) (g0 h0 : z_H) (l1 : Int32) (R : z_R) (lv : Nat) (tt : Int32) (NT : Nat → Prop) (p n w nM : Nat) (op ar K Ka : Nat → Int32) (P : List (Nat × Nat)) (od : Nat) (h : z_H) (t : Int32) (b : Bool) (gC : z_H) : Prop :=
  ∃ (s : Nat) (hM : z_H) (t' : Int32), RCH l1 s h t hM t' ∧ ((b = false ∧ s + 2 * p ≤ 2 * L + 2 ∧ ∃ q, CFl L g0 gC q ∧ MFl h0 hM q) ∨ (b = true ∧ t' = tt ∧ ∃ (p' n' : Nat) (op' ar' : Nat → Int32) (ws nQ : Nat) (KQ KaQ : Nat → Int32) (Q : List (Nat × Nat)) (nM' : Nat) (K' Ka' : Nat → Int32), s + 2 * p ≤ 2 * p' ∧ CSt tp L ord g0 gC p' n' op' ar' (w + ws) ∧ MSt tp L ord h0 hM p' nQ KQ KaQ Q (w + ws) od ∧ Bu nQ Q p' ∧ flu lv Q nQ KQ KaQ = (P, nM', K', Ka') ∧ R op' ar' K' Ka' n n' nM nM' ws ∧ (∀ i, i < n → op' i = op i ∧ ar' i = ar i) ∧ (∀ i, i < nM → K' i = K i ∧ Ka' i = Ka i) ∧ NT p'))
def SimD (tp : Nat → Nat) (L : Nat) (ord : Bool) (l1 : Int32) (D : z_H → Option Nat → Int32 → Option (Int32 × z_H)) (R : z_R) (lv : Nat) (tt : Int32) (NT : Nat → Prop) (t0 : Int32) (pre : List (Nat × Nat) → Prop) (d : Nat) : Prop := ∀ (g0 g h0 h : z_H) (p n w nM : Nat) (op ar K Ka : Nat → Int32) (P : List (Nat × Nat)), CSt tp L ord g0 g p n op ar w → MSt tp L ord h0 h p nM K Ka P w d → Bu nM P p → n ≤ nM → pre P → ∃ (b : Bool) (gC : z_H), D g (some 23) (Int32.ofNat d) = some (b01 b, gC) ∧ POST tp L ord g0 h0 l1 R lv tt NT p n w nM op ar K Ka P d h t0 b gC
def NTs (tp : Nat → Nat) (L : Nat) (p : Nat) : Prop := arO tp L p = none
theorem CSt.count (H : CSt tp L ord g0 g p n op ar w) (hw : w < 50) : ∃ g', z_gI 5 g (some 23) 9 = some (Int32.ofNat w) ∧ z_pV 5 g (some 23) 9 (.int (Int32.ofNat w + 1)) = some g' ∧ CSt tp L ord g0 g' p n op ar (w + 1) := by
  obtain ⟨hs, T, t, k, e3, e26, e27, e9, e4, e54, e33, hn, _⟩ := H
  have o := onC hs (k := 9) rfl (ks := [9]) (by decide) (Int32.ofNat (w + 1))
  refine ⟨wF g 23 9 (.int (Int32.ofNat (w + 1))), by rw [s_gI hs (ci := 5) rfl rfl, e9], by rw [show Int32.ofNat w + 1 = Int32.ofNat (w + 1) from sc_add w 1]; exact s_pV hs (ci := 5) rfl (by decide) _, o.1, T.trans (o.2.1.mono (by decide)), t.on o (by decide), k.on o (by decide), by rw [fI_wF_ne (by decide)]; exact e3, by rw [aI_wF]; exact e26, by rw [aI_wF]; exact e27, fI_wF_eq hs rfl _, (o.2.2 4 (by decide)).trans e4, by rw [fI_wF_ne (by decide)]; exact e54, (o.2.2 3 (by decide)).trans e33, hn, by omega⟩
theorem CSt.kd (H : CSt tp L ord g0 g p n op ar w) : z_gI 5 g (some 23) 7 = some (Int32.ofNat (tkK tp L p)) := by rw [s_gI H.1 (ci := 5) rfl rfl, H.2.2.2.1.2.2.2.1]
theorem CSt.nu (H : CSt tp L ord g0 g p n op ar w) (k : tkK tp L p = 1) : z_gI 5 g (some 23) 8 = some (Int32.ofNat (numC tp L p)) := by rw [s_gI H.1 (ci := 5) rfl rfl, H.2.2.2.1.2.2.2.2 k]
theorem kd_eq {c : Nat} (hc : c < 4) : (Int32.ofNat (tkK tp L p) = Int32.ofNat c) ↔ tkK tp L p = c := by
  have := tkK_b (tp := tp) (L := L) (p := p)
  exact eq_lit (by omega) (by omega)
/-- failing, seen from the class: its answer and the reference's state -/
theorem post_fail {l1 tt t t' : Int32} {R : z_R} {lv : Nat} {NT : Nat → Prop} {hM gC : z_H} {s : Nat} (r : RCH l1 s h t hM t') (hs : s + 2 * p ≤ 2 * L + 2) (c : CFl L g0 gC q) (m : MFl h0 hM q) : POST tp L ord g0 h0 l1 R lv tt NT p n w nM op ar K Ka P od h t false gC := ⟨s, hM, t', r, Or.inl ⟨rfl, hs, q, c, m⟩⟩
theorem ret01 {b : Bool} {gC : z_H} : (if b01 b = 0 ∨ b01 b = 1 then some (b01 b, gC) else none) = some (b01 b, gC) := by
  cases b <;> rfl
/-- a leaf: both have put it down -/
theorem post_leaf {l1 : Int32} {hM gC : z_H} {p' : Nat} {o a k ka : Int32} {od : Nat} (r : RCH l1 1 h 1 hM 3) (pp : p < p') (C : CSt tp L ord g0 gC p' (n + 1) (upd op n o) (upd ar n a) (w + 1)) (M : MSt tp L ord h0 hM p' (nM + 1) (upd K nM k) (upd Ka nM ka) P (w + 1) od) (B : Bu (nM + 1) P p') (ho : o = 0 ∨ o = 1) (pr : posRel ord (upd op n o) (upd ar n a) (upd K nM k) (upd Ka nM ka) (n + 1) (fun i => nM + (i - n)) n) : POST tp L ord g0 h0 l1 (SUMR ord) 7 3 (fun _ => True) p n w nM op ar K Ka P od h 1 true gC := by
  refine ⟨1, hM, 3, r, Or.inr ⟨rfl, rfl, p', n + 1, _, _, 1, nM + 1, _, _, P, nM + 1, _, _, by omega, C, M, B, flu_id ?_, SUMR.put (by rw [upd_eq]; exact ho) pr, fun i hi => ⟨upd_ne (by omega), upd_ne (by omega)⟩, fun i hi => ⟨upd_ne (by omega), upd_ne (by omega)⟩, trivial⟩⟩
  cases P with
  | nil => trivial
  | cons x r =>
    obtain ⟨o, a⟩ := x
    exact Nat.lt_of_le_of_lt (bnd_le o) (by decide)
theorem sim_part {l1 : Int32} {kr : z_H → Option Nat → Int32 → Option (Int32 × z_H)} {d : Nat} (hd : d ≤ 8) (IH : d < 8 → SimD tp L ord l1 kr (SUMR ord) 5 3 (NTs tp L) 1 (topLt 5) (d + 1)) : SimD tp L ord l1 (D_X5_readPart kr) (SUMR ord) 7 3 (fun _ => True) 1 (fun _ => True) d := by
  intro g0 g h0 h p n w nM op ar K Ka P C M B le _
  have hp := M.2.2.2.1.1
  have hL := M.2.2.1.1
  have b1 := B.1
  have s91 : D_X5_isSign g (some 23) 91 = some (b01 (isSg tp L p 91), g) := C.sg (c := 91) (by decide)
  cases br : isSg tp L p 91 with
  | true =>
    obtain ⟨pl, pn, pL⟩ := isSg_lt br hp
    have pre : D_X5_readPart kr g (some 23) (Int32.ofNat d) = (if Int32.ofNat d < 8 then (z_ob 5 g (some 23)).bind fun _ => (D_X5_advance g (some 23)).bind fun p2658 => (z_ob 5 p2658 (some 23)).bind fun _ => (kr p2658 (some 23) (Int32.ofNat d + 1)).bind fun p2660 => if p2660.1 = 0 then some (0, p2660.2) else (z_ob 5 p2660.2 (some 23)).bind fun _ => (D_X5_skipSign p2660.2 (some 23) 93).bind fun p2663 => if p2663.1 = 0 then some (0, p2663.2) else some (1, p2663.2) else (z_ob 5 g (some 23)).bind fun _ => (D_X5_failHere g (some 23)).bind fun p2666 => if p2666.1 = 0 ∨ p2666.1 = 1 then some (p2666.1, p2666.2) else none) := by
      unfold D_X5_readPart
      rw [o23 C.1, Option.bind_some, s91, br, Option.bind_some]
      dsimp only
      rw [if_neg (show ¬ b01 true = 0 by decide), ← o23 C.1]
    have rp : ∀ x, D_X11_openBracket h (some 81) 32 = some x → D_X11_readPart h (some 81) = some (1, x) := fun x hx => by
      unfold D_X11_readPart
      rw [o81 M.sh, Option.bind_some, show (91 : Int32) = Int32.ofNat 91 from rfl, M.sg (by decide), br, Option.bind_some]
      dsimp only
      rw [if_neg (show ¬ b01 true = 0 by decide), o81 M.sh, Option.bind_some, hx, Option.bind_some]
    rw [pre]
    by_cases d8 : d < 8
    · obtain ⟨g1, dg, C1⟩ := C.next
      obtain ⟨h1, dh, M1, B1⟩ := M.open1 d8 pl B (o := 32) (Or.inr rfl)
      obtain ⟨b, gC, dk, s, hM, t', r, X⟩ := IH d8 g0 g1 h0 h1 (tkN tp L p) n w nM op ar K Ka ((32, 0) :: P) C1 M1 B1 le (show bnd 32 < 5 by decide)
      have r1 : RCH l1 1 h 1 h1 1 := ex_part M (rp h1 dh)
      rw [if_pos (show Int32.ofNat d < 8 from (nat_lt (b := 8) (by omega) (by decide)).mpr d8), o23 C.1, Option.bind_some, dg, Option.bind_some, o23 C1.1, Option.bind_some, show Int32.ofNat d + 1 = Int32.ofNat (d + 1) from sc_add d 1, dk, Option.bind_some]
      dsimp only
      rcases X with ⟨rfl, hs, q, cf, mf⟩ | ⟨rfl, rfl, p', n', op', ar', ws, nQ, KQ, KaQ, Q, nM', K', Ka', hs, C2, M2, B2, f2, R2, k1, k2, nt⟩
      · rw [if_pos (show b01 false = 0 from rfl)]
        exact ⟨false, gC, rfl, post_fail (r1.trans r) (by omega) cf mf⟩
      · rw [if_neg (show ¬ b01 true = 0 by decide), o23 C2.1, Option.bind_some]
        have mc := m_bs_close M2 B2 l1 nt f2 (by omega)
        have pp' := M2.2.2.2.1.1
        rcases C2.skip (c := 93) (by decide) with ⟨e, g3, d3, C3⟩ | ⟨e, g3, d3, F3⟩
        · rw [show (93 : Int32) = Int32.ofNat 93 from rfl, d3, Option.bind_some]
          dsimp only
          rw [if_neg one_ne]
          rcases mc with ⟨_, h3, d4, M3, B3⟩ | ⟨e', _⟩
          · obtain ⟨q1, q2, q3⟩ := isSg_lt e pp'
            refine ⟨true, g3, rfl, 1 + s + 1, h3, 3, (r1.trans r).trans (ex_sum M2 d4), Or.inr ⟨rfl, rfl, tkN tp L p', n', op', ar', ws, nM', K', Ka', P, nM', K', Ka', by omega, C3, by rw [show d + 1 - 1 = d by omega] at M3; exact M3, B3, flu_id ?_, R2, k1, k2, trivial⟩⟩
            cases P with
            | nil => trivial
            | cons x r =>
              obtain ⟨o, a⟩ := x
              exact Nat.lt_of_le_of_lt (bnd_le o) (by decide)
          · rw [e] at e'; cases e'
        · rw [show (93 : Int32) = Int32.ofNat 93 from rfl, d3, Option.bind_some]
          dsimp only
          rw [if_pos rfl]
          rcases mc with ⟨e', _⟩ | ⟨_, h3, d4, F4⟩
          · rw [e] at e'; cases e'
          · exact ⟨false, g3, rfl, post_fail ((r1.trans r).trans (ex_sum M2 d4)) (by omega) F3 F4⟩
    · have : d = 8 := by omega
      subst this
      obtain ⟨g1, dg, F1⟩ := C.fail
      obtain ⟨h1, dh, F2⟩ := M.open0 32
      rw [if_neg (by decide), o23 C.1, Option.bind_some, dg, Option.bind_some]
      exact ⟨false, g1, rfl, post_fail (ex_part M (rp h1 dh)) (by omega) F1 F2⟩
  | false =>
    have kb := tkK_b (tp := tp) (L := L) (p := p)
    unfold D_X5_readPart
    rw [o23 C.1, Option.bind_some, s91, br, Option.bind_some]
    dsimp only
    rw [if_pos (show b01 false = 0 from rfl), s_gI C.1 (ci := 5) rfl rfl, Option.bind_some, C.2.2.2.2.2.2.2.1]
    have w50 := C.2.2.2.2.2.2.2.2.2.2.2.2
    by_cases cw : w < 50
    · obtain ⟨g1, z1, z2, C1⟩ := C.count cw
      rw [if_pos (show Int32.ofNat w < 50 from (nat_lt (b := 50) (by omega) (by decide)).mpr cw), Option.bind_some, z2, Option.bind_some, C1.kd, Option.bind_some]
      have sum_fail : ¬ (tkK tp L p = 1 ∧ numM tp L p ≤ 1000) → wsIdx tp L p (wdW ord) = none → ∃ (b : Bool) (gC : z_H), D_X5_readPart_109 kr g1 (some 23) = some (b01 b, gC) ∧ POST tp L ord g0 h0 l1 (SUMR ord) 7 3 (fun _ => True) p n w nM op ar K Ka P d h 1 b gC := by
        intro nn wi
        obtain ⟨g2, dg, F1⟩ := C1.fail
        obtain ⟨h2, dh, F2⟩ := m_rp_fail M br (Or.inr ⟨wi, nn⟩)
        refine ⟨false, g2, ?_, post_fail (ex_part M dh) (by omega) F1 F2⟩
        unfold D_X5_readPart_109 D_X5_readNamed
        rw [o23 C1.1, Option.bind_some, s_gI C1.1 (ci := 5) rfl rfl, Option.bind_some, C1.2.2.2.2.2.2.2.2.1]
        unfold wdW at wi
        have nd : ∀ x, D_X5_among g1 (some 23) x = some (-1, g1) → D_X5_readNamed_15 g1 (some 23) (some 23) x = some (0, g2) := fun x hx => by
          unfold D_X5_readNamed_15
          rw [o23 C1.1, Option.bind_some, hx, Option.bind_some]
          dsimp only
          rw [if_pos rfl, o23 C1.1, Option.bind_some, dg, Option.bind_some]
          rfl
        cases ord with
        | false =>
          rw [if_neg (by decide)] at wi
          rw [if_pos (show b01 false = 0 from rfl), nd 7 (by rw [C1.lw, wi]; rfl), Option.bind_some]
          rfl
        | true =>
          rw [if_pos rfl] at wi
          rw [if_neg (show ¬ b01 true = 0 by decide), nd 6 (by rw [C1.ow, wi]; rfl), Option.bind_some]
          rfl
      by_cases k1 : tkK tp L p = 1
      · have ns := num_same (tp := tp) (L := L) (p := p) k1
        rw [if_pos (show Int32.ofNat (tkK tp L p) = 1 by rw [k1]; rfl), C1.nu k1, Option.bind_some]
        have pl : p < L := tk_lt (tp := tp) (by omega)
        have nb := tkN_b (tp := tp) hp
        by_cases c : numM tp L p ≤ 1000
        · have ec : numC tp L p = numM tp L p := by omega
          rw [ec, if_neg (show ¬ (1000 : Int32) < Int32.ofNat (numM tp L p) from fun z => by have := (nat_lt (a := 1000) (by decide) (by omega)).mp z; omega), q25 C1.1, Option.bind_some, Option.bind_some, o25 C1.1, Option.bind_some]
          obtain ⟨g2, d2, C2⟩ := C1.emit (by omega) 0 (Int32.ofNat (numM tp L p))
          obtain ⟨g3, d3, C3⟩ := C2.next
          obtain ⟨h2, dh, M2, B2⟩ := m_rp_num M br k1 c cw B
          rw [d2, Option.bind_some, o23 C2.1, Option.bind_some, d3, Option.bind_some]
          refine ⟨true, g3, rfl, post_leaf (ex_part M dh) (by omega) C3 M2 B2 (Or.inl rfl) ?_⟩
          unfold posRel
          refine Or.inl ?_
          dsimp only
          rw [show nM + (n - n) = nM by omega, upd_eq, upd_eq, upd_eq, upd_eq]
          exact ⟨rfl, rfl, rfl, numM tp L p, rfl, c⟩
        · rw [if_pos (show (1000 : Int32) < Int32.ofNat (numC tp L p) from (nat_lt (a := 1000) (by decide) (by omega)).mpr (by omega))]
          exact sum_fail (fun z => c z.2) (by unfold wsIdx; rw [if_neg (by omega)])
      · rw [if_neg (show ¬ Int32.ofNat (tkK tp L p) = 1 from fun z => k1 ((kd_eq (c := 1) (by decide)).mp z))]
        cases wi : wsIdx tp L p (wdW ord) with
        | none => exact sum_fail (fun z => k1 z.1) wi
        | some k =>
          have hk := wsIdx_lt wi
          have pl : p < L := tk_lt (tp := tp) (by omega)
          have nb := tkN_b (tp := tp) hp
          obtain ⟨g2, d2, C2⟩ := C1.next
          have tail : ∀ (gx : z_H) (px v : Nat), CSt tp L ord g0 gx px n op ar (w + 1) → ∃ g3, D_X5_readNamed_85 gx (some 23) (Int32.ofNat v) = some (1, g3) ∧ CSt tp L ord g0 g3 px (n + 1) (upd op n 1) (upd ar n (Int32.ofNat v)) (w + 1) := by
            intro gx px v Cx
            obtain ⟨g3, d3, C3⟩ := Cx.emit (by omega) 1 (Int32.ofNat v)
            refine ⟨g3, ?_, C3⟩
            unfold D_X5_readNamed_85
            rw [q25 Cx.1, Option.bind_some, o25 Cx.1, Option.bind_some, d3, Option.bind_some]
          unfold D_X5_readPart_109 D_X5_readNamed
          rw [o23 C1.1, Option.bind_some, s_gI C1.1 (ci := 5) rfl rfl, Option.bind_some, C1.2.2.2.2.2.2.2.2.1]
          cases ord with
          | false =>
            have hk9 : k < 9 := hk.1
            rw [if_pos (show b01 false = 0 from rfl)]
            unfold D_X5_readNamed_15
            rw [o23 C1.1, Option.bind_some, C1.lw, show wsIdx tp L p wdLW = some k from wi, Option.bind_some]
            dsimp only
            rw [if_neg (show ¬ enc (some k) = -1 from of_nm1 (by omega)), o23 C1.1, Option.bind_some, d2, Option.bind_some, s_gI C2.1 (ci := 5) rfl rfl, Option.bind_some, C2.2.2.2.2.2.2.2.2.1, if_pos (show b01 false = 0 from rfl)]
            obtain ⟨g3, d3, C3⟩ := tail g2 _ k C2
            obtain ⟨h2, dh, M2, B2⟩ := m_rp_word M br wi (Or.inl ⟨rfl, hk9⟩) cw B
            rw [show enc (some k) = Int32.ofNat k from rfl, d3, Option.bind_some]
            refine ⟨true, g3, rfl, post_leaf (ex_part M dh) (by omega) C3 M2 B2 (Or.inr rfl) ?_⟩
            unfold posRel
            refine Or.inr (Or.inl ?_)
            dsimp only
            rw [show nM + (n - n) = nM by omega, upd_eq, upd_eq, upd_eq]
            exact ⟨rfl, rfl, k, hk9, rfl, rfl⟩
          | true =>
            have hk8 : k < 8 := hk.1
            rw [if_neg (show ¬ b01 true = 0 by decide)]
            unfold D_X5_readNamed_15
            rw [o23 C1.1, Option.bind_some, C1.ow, show wsIdx tp L p wdOW = some k from wi, Option.bind_some]
            dsimp only
            rw [if_neg (show ¬ enc (some k) = -1 from of_nm1 (by omega)), o23 C1.1, Option.bind_some, d2, Option.bind_some, s_gI C2.1 (ci := 5) rfl rfl, Option.bind_some, C2.2.2.2.2.2.2.2.2.1, if_neg (show ¬ b01 true = 0 by decide), show enc (some k) = Int32.ofNat k from rfl]
            by_cases k5 : k < 5
            · obtain ⟨g3, d3, C3⟩ := tail g2 _ k C2
              obtain ⟨h2, dh, M2, B2⟩ := m_rp_word M br wi (Or.inr k5) cw B
              rw [if_pos (show Int32.ofNat k < 5 from (nat_lt (b := 5) (by omega) (by decide)).mpr k5), d3, Option.bind_some]
              refine ⟨true, g3, rfl, post_leaf (ex_part M dh) (by omega) C3 M2 B2 (Or.inr rfl) ?_⟩
              unfold posRel
              refine Or.inr (Or.inr (Or.inl ?_))
              dsimp only
              rw [show nM + (n - n) = nM by omega, upd_eq, upd_eq, upd_eq]
              exact ⟨rfl, rfl, k, k5, rfl, rfl⟩
            · rw [if_neg (show ¬ Int32.ofNat k < 5 from fun z => k5 ((nat_lt (b := 5) (by omega) (by decide)).mp z)), C2.kd, Option.bind_some]
              have nb2 := tkN_b (tp := tp) (L := L) (p := tkN tp L p) nb.2.1
              have f62 : ∃ g3, D_X5_readNamed_62 g2 (some 23) = some (0, g3) ∧ CFl L g0 g3 (tkN tp L p) := by
                obtain ⟨g3, d3, F3⟩ := C2.fail
                refine ⟨g3, ?_, F3⟩
                unfold D_X5_readNamed_62
                rw [o23 C2.1, Option.bind_some, d3, Option.bind_some]
                rfl
              rcases m_rp_wordP M br wi (by omega) hk8 cw B with ⟨⟨a, b⟩, h2, dh, M2, B2⟩ | ⟨a, h2, dh, F2⟩
              · have ns := num_same (tp := tp) (L := L) (p := tkN tp L p) a
                have ec : numC tp L (tkN tp L p) = numM tp L (tkN tp L p) := by omega
                have pl2 : tkN tp L p < L := tk_lt (tp := tp) (by omega)
                obtain ⟨g3, d3, C3⟩ := C2.next
                obtain ⟨g4, d4, C4⟩ := tail g3 _ (5 + 6 * (k - 5) + numM tp L (tkN tp L p)) C3
                have ev : (5 : Int32) + (Int32.ofNat k - 5) * 6 + Int32.ofNat (numM tp L (tkN tp L p)) = Int32.ofNat (5 + 6 * (k - 5) + numM tp L (tkN tp L p)) := by
                  rw [show Int32.ofNat k - 5 = Int32.ofNat (k - 5) from sc_sub (k := 5) (by omega), show Int32.ofNat (k - 5) * 6 = Int32.ofNat ((k - 5) * 6) from (Int32.ofNat_mul (k - 5) 6).symm, show (5 : Int32) + Int32.ofNat ((k - 5) * 6) = Int32.ofNat (5 + (k - 5) * 6) from sc_add 5 _, sc_add, Nat.mul_comm (k - 5) 6]
                rw [if_pos (show Int32.ofNat (tkK tp L (tkN tp L p)) = 1 by rw [a]; rfl), C2.nu a, Option.bind_some, ec, if_pos (show Int32.ofNat (numM tp L (tkN tp L p)) < 6 from (nat_lt (b := 6) (by omega) (by decide)).mpr (by omega)), Option.bind_some, Option.bind_some, ev, o23 C2.1, Option.bind_some, d3, Option.bind_some, d4, Option.bind_some]
                refine ⟨true, g4, rfl, post_leaf (ex_part M dh) (by omega) C4 M2 B2 (Or.inr rfl) ?_⟩
                unfold posRel
                refine Or.inr (Or.inr (Or.inr (Or.inl ?_)))
                dsimp only
                rw [show nM + (n - n) = nM by omega, upd_eq, upd_eq, upd_eq, upd_eq]
                exact ⟨rfl, rfl, k - 5, numM tp L (tkN tp L p), by omega, by omega, rfl, by rw [show 6 + (k - 5) = k + 1 by omega], rfl⟩
              · obtain ⟨g3, d3, F3⟩ := f62
                have cl : (if Int32.ofNat (tkK tp L (tkN tp L p)) = 1 then (z_gI 5 g2 (some 23) 8).bind fun x2623 => if x2623 < 6 then (z_gI 5 g2 (some 23) 8).bind fun x2625 => (some (((5:Int32) + ((Int32.ofNat k - (5:Int32)) * (6:Int32))) + x2625)).bind fun x2626 => (z_ob 5 g2 (some 23)).bind fun _ => (D_X5_advance g2 (some 23)).bind fun p2627 => D_X5_readNamed_85 p2627 (some 23) x2626 else D_X5_readNamed_62 g2 (some 23) else D_X5_readNamed_62 g2 (some 23)) = some (0, g3) := by
                  by_cases q1 : tkK tp L (tkN tp L p) = 1
                  · have ns := num_same (tp := tp) (L := L) (p := tkN tp L p) q1
                    rw [if_pos (show Int32.ofNat (tkK tp L (tkN tp L p)) = 1 by rw [q1]; rfl), C2.nu q1, Option.bind_some, if_neg (show ¬ Int32.ofNat (numC tp L (tkN tp L p)) < 6 from fun z => a ⟨q1, by have := (nat_lt (b := 6) (by omega) (by decide)).mp z; omega⟩)]
                    exact d3
                  · rw [if_neg (show ¬ Int32.ofNat (tkK tp L (tkN tp L p)) = 1 from fun z => q1 ((kd_eq (c := 1) (by decide)).mp z))]
                    exact d3
                rw [cl, Option.bind_some]
                exact ⟨false, g3, rfl, post_fail (ex_part M dh) (by omega) F3 F2⟩
    · have e50 : w = 50 := by omega
      obtain ⟨g1, dg, F1⟩ := C.fail
      obtain ⟨h1, dh, F2⟩ := m_rp_fail M br (Or.inl e50)
      rw [if_neg (show ¬ Int32.ofNat w < 50 from fun z => cw ((nat_lt (b := 50) (by omega) (by decide)).mp z)), o23 C.1, Option.bind_some, dg, Option.bind_some]
      exact ⟨false, g1, rfl, post_fail (ex_part M dh) (by omega) F1 F2⟩
end F0
