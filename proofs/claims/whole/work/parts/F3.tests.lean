/-! both readers: "and", "or" -/
section F3
variable {tp : Nat → Nat} {L : Nat} {ord : Bool} {g0 g h0 h : z_H} {p n nM w od q d : Nat} {op ar K Ka : Nat → Int32} {P : List (Nat × Nat)} {kr : z_H → Option Nat → Int32 → Option (Int32 × z_H)}
def NTa (tp : Nat → Nat) (L : Nat) (p : Nat) : Prop := isW tp L p wdAnd = false
theorem both_loop (SP : SimD tp L ord 1 (D_X5_readPlain kr) (TSTR ord) 3 2 (fun _ => True) 0 (preT 3) d) (le : n ≤ nM) (pr : preT 2 P) : ∀ (δ f i : Nat) (gC hM : z_H) (p' n' : Nat) (op' ar' : Nat → Int32) (ws nQ : Nat) (KQ KaQ : Nat → Int32) (Q : List (Nat × Nat)) (nM' : Nat) (K' Ka' : Nat → Int32), L - p' = δ → δ < f → i ≤ p' → CSt tp L ord g0 gC p' n' op' ar' (w + ws) → MSt tp L ord h0 hM p' nQ KQ KaQ Q (w + ws) d → Bu nQ Q p' → flu 2 Q nQ KQ KaQ = (P, nM', K', Ka') → TSTR ord op' ar' K' Ka' n n' nM nM' ws → (∀ i, i < n → op' i = op i ∧ ar' i = ar i) → (∀ i, i < nM → K' i = K i ∧ Ka' i = Ka i) → (fun _ => True) p' → ∃ (b : Bool) (g2 : z_H), D_X5_readBoth_8 kr f gC (some 23) (Int32.ofNat d) 1 (Int32.ofNat i) = some (b01 b, g2) ∧ POST tp L ord g0 h0 1 (TSTR ord) 2 2 (NTa tp L) p' n w nM op ar K Ka P d hM 2 b g2 := by
  intro δ
  induction δ using Nat.strongRecOn with
  | _ δ ih =>
  intro f i gC hM p' n' op' ar' ws nQ KQ KaQ Q nM' K' Ka' hδ hf hi C M B fl R k1 k2 nti
  obtain ⟨f, rfl⟩ : ∃ f', f = f' + 1 := ⟨f - 1, by omega⟩
  have hL := M.2.2.1.1
  have hp := M.2.2.2.1.1
  have stop : (NTa tp L p') → D_X5_readBoth_8b kr (D_X5_readBoth_8 kr f) gC (some 23) (Int32.ofNat d) 1 (Int32.ofNat i) = some (1, gC) → ∃ (b : Bool) (g2 : z_H), D_X5_readBoth_8 kr (f + 1) gC (some 23) (Int32.ofNat d) 1 (Int32.ofNat i) = some (b01 b, g2) ∧ POST tp L ord g0 h0 1 (TSTR ord) 2 2 (NTa tp L) p' n w nM op ar K Ka P d hM 2 b g2 := fun nt e => ⟨true, gC, e, 0, hM, 2, RCH.zero _ _ _, Or.inr ⟨rfl, rfl, p', n', op', ar', ws, nQ, KQ, KaQ, Q, nM', K', Ka', by omega, C, M, B, fl, R, k1, k2, nt⟩⟩
  cases ew : isW tp L p' wdAnd with
  | false =>
    refine stop ew ?_
    unfold D_X5_readBoth_8b
    by_cases z : (400 : Int32) ≤ Int32.ofNat i
    · rw [if_pos z, if_pos (Or.inr rfl)]
    · rw [if_neg z, if_neg one_ne, o23 C.1, Option.bind_some, C.wAnd, ew, Option.bind_some]
      dsimp only
      rw [if_pos (show b01 false = 0 from rfl), if_pos (Or.inr rfl)]
  | true =>
    obtain ⟨pl, pn, pL⟩ := isW_lt ew hp
    obtain ⟨h1, dh, M1, B1⟩ := m_bt_jump M B true (by rw [if_pos rfl]; exact ew) (P' := P) (n' := nM') (K' := K') (Ka' := Ka') (by rw [if_pos rfl]; exact fl)
    simp only [if_true] at M1 B1
    have r1 : RCH 1 1 hM 2 h1 0 := ex_test M dh
    have Rle := R.1.le
    have Rlo := R.1.1
    have bu1 := B1.1
    obtain ⟨g1, dg, C1⟩ := C.emit (by omega) 3 0
    obtain ⟨g2, dg2, C2⟩ := C1.next
    obtain ⟨b, g3, d3, s, hM2, t', r2, X⟩ := SP g0 g2 h0 h1 (tkN tp L p') (n' + 1) (w + ws) (nM' + 1) (upd op' n' 3) (upd ar' n' 0) (upd K' nM' 29) (upd Ka' nM' 0) ((29, nM') :: P) C2 M1 B1 (by omega) ⟨show bnd 29 < 3 by decide, pr.2⟩
    have pre : ∀ gy, D_X7_landHere g3 (some 25) (Int32.ofNat n') = some gy → Sh g3 → D_X5_readBoth_8 kr (f + 1) gC (some 23) (Int32.ofNat d) 1 (Int32.ofNat i) = D_X5_readBoth_8 kr f gy (some 23) (Int32.ofNat d) (b01 b) (Int32.ofNat (i + 1)) := by
      intro gy dy sx
      show D_X5_readBoth_8b kr (D_X5_readBoth_8 kr f) gC (some 23) (Int32.ofNat d) 1 (Int32.ofNat i) = _
      unfold D_X5_readBoth_8b
      rw [if_neg (show ¬ (400 : Int32) ≤ Int32.ofNat i from fun z => by have := (nat_le (a := 400) (b := i) (by decide) (by omega)).mp z; omega), if_neg one_ne, o23 C.1, Option.bind_some, C.wAnd, ew, Option.bind_some]
      dsimp only
      rw [if_neg (show ¬ b01 true = 0 by decide), q25 C.1, Option.bind_some, C.size, Option.bind_some, Option.bind_some, o25 C.1, Option.bind_some, dg, Option.bind_some, o23 C1.1, Option.bind_some, dg2, Option.bind_some, o23 C2.1, Option.bind_some, d3, Option.bind_some]
      dsimp only
      rw [q25 sx, Option.bind_some, o25 sx, Option.bind_some, dy, Option.bind_some, Option.bind_some, show Int32.ofNat i + 1 = Int32.ofNat (i + 1) from sc_add i 1]
    rcases X with ⟨rfl, hs, q, cf, mf⟩ | ⟨rfl, rfl, p2, n2, op2, ar2, ws2, nQ2, KQ2, KaQ2, Q2, nM2, K2, Ka2, hs, C3, M3, B3, fl3, R3, j1, j2, nt2⟩
    · obtain ⟨g4, d4, cf4⟩ := cf.land (j := n') (by omega)
      refine ⟨false, g4, ?_, post_fail (r1.trans r2) (by omega) cf4 mf⟩
      rw [pre g4 d4 cf.1]
      obtain ⟨f, rfl⟩ : ∃ f', f = f' + 1 := ⟨f - 1, by omega⟩
      show D_X5_readBoth_8b kr (D_X5_readBoth_8 kr f) g4 (some 23) (Int32.ofNat d) 0 (Int32.ofNat (i + 1)) = some (0, g4)
      unfold D_X5_readBoth_8b
      by_cases z : (400 : Int32) ≤ Int32.ofNat (i + 1)
      · rw [if_pos z, if_pos (Or.inl rfl)]
      · rw [if_neg z, if_pos rfl, if_pos (Or.inl rfl)]
    · have hp2 := M3.2.2.2.1.1
      have Rle3 := R3.1.le
      have Rlo3 := R3.2.1.1
      have n400 := C3.2.2.2.2.2.2.2.2.2.2.2.1
      obtain ⟨g4, d4, C4⟩ := C3.land (j := n') (by omega)
      have fl4 : flu 2 Q2 nQ2 KQ2 KaQ2 = (P, nM2, K2, upd Ka2 nM' (Int32.ofNat nM2)) := by
        rw [flu_then (lv' := 2) (by decide) fl3, flu_ld (by decide) (by decide), flu_id pr.1]
      obtain ⟨y1, y2⟩ := j1 n' (by omega)
      obtain ⟨y3, y4⟩ := j2 nM' (by omega)
      rw [upd_eq] at y1 y3
      have RA : TSTR ord op2 (upd ar2 n' (Int32.ofNat n2)) K2 (upd Ka2 nM' (Int32.ofNat nM2)) n n' nM nM' ws := R.cg (fun i a c => by
          obtain ⟨u1, u2⟩ := j1 i (by omega)
          rw [upd_ne (by omega)] at u1 u2
          exact ⟨u1, by rw [upd_ne (by omega)]; exact u2⟩) (fun i a c => by
          obtain ⟨u1, u2⟩ := j2 i (by omega)
          rw [upd_ne (by omega)] at u1 u2
          exact ⟨u1, by rw [upd_ne (by omega)]; exact u2⟩)
      have RB : TSTR ord op2 (upd ar2 n' (Int32.ofNat n2)) K2 (upd Ka2 nM' (Int32.ofNat nM2)) (n' + 1) n2 (nM' + 1) nM2 ws2 := R3.cg (fun i a c => ⟨rfl, upd_ne (by omega)⟩) (fun i a c => ⟨rfl, upd_ne (by omega)⟩)
      have RC := RA.jump RB (Or.inl ⟨y1, y3⟩) upd_eq upd_eq (by omega)
      obtain ⟨b, g5, d5, P5⟩ := ih (L - p2) (by omega) f (i + 1) g4 hM2 p2 n2 op2 _ (ws + ws2) nQ2 KQ2 KaQ2 Q2 nM2 K2 _ rfl (by omega) (by omega) (by rw [← Nat.add_assoc]; exact C4) (by rw [← Nat.add_assoc]; exact M3) B3 fl4 RC (fun i a => by
          obtain ⟨u1, u2⟩ := j1 i (by omega)
          rw [upd_ne (by omega)] at u1 u2
          exact ⟨u1.trans (k1 i a).1, by rw [upd_ne (by omega)]; exact u2.trans (k1 i a).2⟩) (fun i a => by
          obtain ⟨u1, u2⟩ := j2 i (by omega)
          rw [upd_ne (by omega)] at u1 u2
          exact ⟨u1.trans (k2 i a).1, by rw [upd_ne (by omega)]; exact u2.trans (k2 i a).2⟩) nt2
      exact ⟨b, g5, by rw [pre g4 d4 C3.1]; exact d5, post_app (r1.trans r2) (by omega) P5⟩
theorem sim_both (SP : SimD tp L ord 1 (D_X5_readPlain kr) (TSTR ord) 3 2 (fun _ => True) 0 (preT 3) d) : SimD tp L ord 1 (D_X5_readBoth kr) (TSTR ord) 2 2 (NTa tp L) 0 (preT 2) d := by
  intro g0 g h0 h p n w nM op ar K Ka P C M B le pr
  have hL := M.2.2.1.1
  have hp := M.2.2.2.1.1
  obtain ⟨b, g1, d1, s, hM, t', r, X⟩ := SP g0 g h0 h p n w nM op ar K Ka P C M B le ⟨topLt_mono pr.1 (by decide), pr.2⟩
  unfold D_X5_readBoth
  rw [o23 C.1, Option.bind_some, d1, Option.bind_some]
  dsimp only
  rcases X with ⟨rfl, hs, q, cf, mf⟩ | ⟨rfl, rfl, p2, n2, op2, ar2, ws2, nQ2, KQ2, KaQ2, Q2, nM2, K2, Ka2, hs, C2, M2, B2, fl2, R2, j1, j2, nt2⟩
  · refine ⟨false, g1, ?_, post_fail r (by omega) cf mf⟩
    show D_X5_readBoth_8b kr (D_X5_readBoth_8 kr 999999) g1 (some 23) (Int32.ofNat d) 0 (Int32.ofNat 0) = some (0, g1)
    unfold D_X5_readBoth_8b
    rw [if_neg (by decide), if_pos rfl, if_pos (Or.inl rfl)]
  · have fl3 : flu 2 Q2 nQ2 KQ2 KaQ2 = (P, nM2, K2, Ka2) := by
      rw [flu_then (lv' := 2) (by decide) fl2, flu_id pr.1]
    obtain ⟨b, g4, d4, P4⟩ := both_loop (kr := kr) (g0 := g0) (h0 := h0) (op := op) (ar := ar) (K := K) (Ka := Ka) (w := w) SP le pr _ z_F 0 g1 hM p2 n2 op2 ar2 ws2 nQ2 KQ2 KaQ2 Q2 nM2 K2 Ka2 rfl (by show _ < 1000000; omega) (by omega) C2 M2 B2 fl3 R2 j1 j2 nt2
    exact ⟨b, g4, d4, post_app r hs P4⟩
theorem testB_loop (SP : SimD tp L ord 1 (D_X5_readBoth kr) (TSTR ord) 2 2 (NTa tp L) 0 (preT 2) d) (le : n ≤ nM) (pr : preT 1 P) : ∀ (δ f i : Nat) (gC hM : z_H) (p' n' : Nat) (op' ar' : Nat → Int32) (ws nQ : Nat) (KQ KaQ : Nat → Int32) (Q : List (Nat × Nat)) (nM' : Nat) (K' Ka' : Nat → Int32), L - p' = δ → δ < f → i ≤ p' → CSt tp L ord g0 gC p' n' op' ar' (w + ws) → MSt tp L ord h0 hM p' nQ KQ KaQ Q (w + ws) d → Bu nQ Q p' → flu 1 Q nQ KQ KaQ = (P, nM', K', Ka') → TSTR ord op' ar' K' Ka' n n' nM nM' ws → (∀ i, i < n → op' i = op i ∧ ar' i = ar i) → (∀ i, i < nM → K' i = K i ∧ Ka' i = Ka i) → (NTa tp L) p' → ∃ (b : Bool) (g2 : z_H), D_X5_readTestB_8 kr f gC (some 23) (Int32.ofNat d) 1 (Int32.ofNat i) = some (b01 b, g2) ∧ POST tp L ord g0 h0 1 (TSTR ord) 1 2 (NTo tp L) p' n w nM op ar K Ka P d hM 2 b g2 := by
  intro δ
  induction δ using Nat.strongRecOn with
  | _ δ ih =>
  intro f i gC hM p' n' op' ar' ws nQ KQ KaQ Q nM' K' Ka' hδ hf hi C M B fl R k1 k2 nti
  obtain ⟨f, rfl⟩ : ∃ f', f = f' + 1 := ⟨f - 1, by omega⟩
  have hL := M.2.2.1.1
  have hp := M.2.2.2.1.1
  have stop : (NTo tp L p') → D_X5_readTestB_8b kr (D_X5_readTestB_8 kr f) gC (some 23) (Int32.ofNat d) 1 (Int32.ofNat i) = some (1, gC) → ∃ (b : Bool) (g2 : z_H), D_X5_readTestB_8 kr (f + 1) gC (some 23) (Int32.ofNat d) 1 (Int32.ofNat i) = some (b01 b, g2) ∧ POST tp L ord g0 h0 1 (TSTR ord) 1 2 (NTo tp L) p' n w nM op ar K Ka P d hM 2 b g2 := fun nt e => ⟨true, gC, e, 0, hM, 2, RCH.zero _ _ _, Or.inr ⟨rfl, rfl, p', n', op', ar', ws, nQ, KQ, KaQ, Q, nM', K', Ka', by omega, C, M, B, fl, R, k1, k2, nt⟩⟩
  cases ew : isW tp L p' wdOr with
  | false =>
    refine stop ⟨nti, ew⟩ ?_
    unfold D_X5_readTestB_8b
    by_cases z : (400 : Int32) ≤ Int32.ofNat i
    · rw [if_pos z, if_pos (Or.inr rfl)]
    · rw [if_neg z, if_neg one_ne, o23 C.1, Option.bind_some, C.wOr, ew, Option.bind_some]
      dsimp only
      rw [if_pos (show b01 false = 0 from rfl), if_pos (Or.inr rfl)]
  | true =>
    obtain ⟨pl, pn, pL⟩ := isW_lt ew hp
    obtain ⟨h1, dh, M1, B1⟩ := m_bt_jump M B false (by rw [if_neg (by decide)]; exact ⟨nti, ew⟩) (P' := P) (n' := nM') (K' := K') (Ka' := Ka') (by rw [if_neg (by decide)]; exact fl)
    simp only [Bool.false_eq_true, if_false] at M1 B1
    have r1 : RCH 1 1 hM 2 h1 0 := ex_test M dh
    have Rle := R.1.le
    have Rlo := R.1.1
    have bu1 := B1.1
    obtain ⟨g1, dg, C1⟩ := C.emit (by omega) 4 0
    obtain ⟨g2, dg2, C2⟩ := C1.next
    obtain ⟨b, g3, d3, s, hM2, t', r2, X⟩ := SP g0 g2 h0 h1 (tkN tp L p') (n' + 1) (w + ws) (nM' + 1) (upd op' n' 4) (upd ar' n' 0) (upd K' nM' 30) (upd Ka' nM' 0) ((30, nM') :: P) C2 M1 B1 (by omega) ⟨show bnd 30 < 2 by decide, pr.2⟩
    have pre : ∀ gy, D_X7_landHere g3 (some 25) (Int32.ofNat n') = some gy → Sh g3 → D_X5_readTestB_8 kr (f + 1) gC (some 23) (Int32.ofNat d) 1 (Int32.ofNat i) = D_X5_readTestB_8 kr f gy (some 23) (Int32.ofNat d) (b01 b) (Int32.ofNat (i + 1)) := by
      intro gy dy sx
      show D_X5_readTestB_8b kr (D_X5_readTestB_8 kr f) gC (some 23) (Int32.ofNat d) 1 (Int32.ofNat i) = _
      unfold D_X5_readTestB_8b
      rw [if_neg (show ¬ (400 : Int32) ≤ Int32.ofNat i from fun z => by have := (nat_le (a := 400) (b := i) (by decide) (by omega)).mp z; omega), if_neg one_ne, o23 C.1, Option.bind_some, C.wOr, ew, Option.bind_some]
      dsimp only
      rw [if_neg (show ¬ b01 true = 0 by decide), q25 C.1, Option.bind_some, C.size, Option.bind_some, Option.bind_some, o25 C.1, Option.bind_some, dg, Option.bind_some, o23 C1.1, Option.bind_some, dg2, Option.bind_some, o23 C2.1, Option.bind_some, d3, Option.bind_some]
      dsimp only
      rw [q25 sx, Option.bind_some, o25 sx, Option.bind_some, dy, Option.bind_some, Option.bind_some, show Int32.ofNat i + 1 = Int32.ofNat (i + 1) from sc_add i 1]
    rcases X with ⟨rfl, hs, q, cf, mf⟩ | ⟨rfl, rfl, p2, n2, op2, ar2, ws2, nQ2, KQ2, KaQ2, Q2, nM2, K2, Ka2, hs, C3, M3, B3, fl3, R3, j1, j2, nt2⟩
    · obtain ⟨g4, d4, cf4⟩ := cf.land (j := n') (by omega)
      refine ⟨false, g4, ?_, post_fail (r1.trans r2) (by omega) cf4 mf⟩
      rw [pre g4 d4 cf.1]
      obtain ⟨f, rfl⟩ : ∃ f', f = f' + 1 := ⟨f - 1, by omega⟩
      show D_X5_readTestB_8b kr (D_X5_readTestB_8 kr f) g4 (some 23) (Int32.ofNat d) 0 (Int32.ofNat (i + 1)) = some (0, g4)
      unfold D_X5_readTestB_8b
      by_cases z : (400 : Int32) ≤ Int32.ofNat (i + 1)
      · rw [if_pos z, if_pos (Or.inl rfl)]
      · rw [if_neg z, if_pos rfl, if_pos (Or.inl rfl)]
    · have hp2 := M3.2.2.2.1.1
      have Rle3 := R3.1.le
      have Rlo3 := R3.2.1.1
      have n400 := C3.2.2.2.2.2.2.2.2.2.2.2.1
      obtain ⟨g4, d4, C4⟩ := C3.land (j := n') (by omega)
      have fl4 : flu 1 Q2 nQ2 KQ2 KaQ2 = (P, nM2, K2, upd Ka2 nM' (Int32.ofNat nM2)) := by
        rw [flu_then (lv' := 1) (by decide) fl3, flu_ld (by decide) (by decide), flu_id pr.1]
      obtain ⟨y1, y2⟩ := j1 n' (by omega)
      obtain ⟨y3, y4⟩ := j2 nM' (by omega)
      rw [upd_eq] at y1 y3
      have RA : TSTR ord op2 (upd ar2 n' (Int32.ofNat n2)) K2 (upd Ka2 nM' (Int32.ofNat nM2)) n n' nM nM' ws := R.cg (fun i a c => by
          obtain ⟨u1, u2⟩ := j1 i (by omega)
          rw [upd_ne (by omega)] at u1 u2
          exact ⟨u1, by rw [upd_ne (by omega)]; exact u2⟩) (fun i a c => by
          obtain ⟨u1, u2⟩ := j2 i (by omega)
          rw [upd_ne (by omega)] at u1 u2
          exact ⟨u1, by rw [upd_ne (by omega)]; exact u2⟩)
      have RB : TSTR ord op2 (upd ar2 n' (Int32.ofNat n2)) K2 (upd Ka2 nM' (Int32.ofNat nM2)) (n' + 1) n2 (nM' + 1) nM2 ws2 := R3.cg (fun i a c => ⟨rfl, upd_ne (by omega)⟩) (fun i a c => ⟨rfl, upd_ne (by omega)⟩)
      have RC := RA.jump RB (Or.inr ⟨y1, y3⟩) upd_eq upd_eq (by omega)
      obtain ⟨b, g5, d5, P5⟩ := ih (L - p2) (by omega) f (i + 1) g4 hM2 p2 n2 op2 _ (ws + ws2) nQ2 KQ2 KaQ2 Q2 nM2 K2 _ rfl (by omega) (by omega) (by rw [← Nat.add_assoc]; exact C4) (by rw [← Nat.add_assoc]; exact M3) B3 fl4 RC (fun i a => by
          obtain ⟨u1, u2⟩ := j1 i (by omega)
          rw [upd_ne (by omega)] at u1 u2
          exact ⟨u1.trans (k1 i a).1, by rw [upd_ne (by omega)]; exact u2.trans (k1 i a).2⟩) (fun i a => by
          obtain ⟨u1, u2⟩ := j2 i (by omega)
          rw [upd_ne (by omega)] at u1 u2
          exact ⟨u1.trans (k2 i a).1, by rw [upd_ne (by omega)]; exact u2.trans (k2 i a).2⟩) nt2
      exact ⟨b, g5, by rw [pre g4 d4 C3.1]; exact d5, post_app (r1.trans r2) (by omega) P5⟩
theorem sim_testB (SP : SimD tp L ord 1 (D_X5_readBoth kr) (TSTR ord) 2 2 (NTa tp L) 0 (preT 2) d) : SimD tp L ord 1 (D_X5_readTestB kr) (TSTR ord) 1 2 (NTo tp L) 0 (preT 1) d := by
  intro g0 g h0 h p n w nM op ar K Ka P C M B le pr
  have hL := M.2.2.1.1
  have hp := M.2.2.2.1.1
  obtain ⟨b, g1, d1, s, hM, t', r, X⟩ := SP g0 g h0 h p n w nM op ar K Ka P C M B le ⟨topLt_mono pr.1 (by decide), pr.2⟩
  unfold D_X5_readTestB
  rw [o23 C.1, Option.bind_some, d1, Option.bind_some]
  dsimp only
  rcases X with ⟨rfl, hs, q, cf, mf⟩ | ⟨rfl, rfl, p2, n2, op2, ar2, ws2, nQ2, KQ2, KaQ2, Q2, nM2, K2, Ka2, hs, C2, M2, B2, fl2, R2, j1, j2, nt2⟩
  · refine ⟨false, g1, ?_, post_fail r (by omega) cf mf⟩
    show D_X5_readTestB_8b kr (D_X5_readTestB_8 kr 999999) g1 (some 23) (Int32.ofNat d) 0 (Int32.ofNat 0) = some (0, g1)
    unfold D_X5_readTestB_8b
    rw [if_neg (by decide), if_pos rfl, if_pos (Or.inl rfl)]
  · have fl3 : flu 1 Q2 nQ2 KQ2 KaQ2 = (P, nM2, K2, Ka2) := by
      rw [flu_then (lv' := 1) (by decide) fl2, flu_id pr.1]
    obtain ⟨b, g4, d4, P4⟩ := testB_loop (kr := kr) (g0 := g0) (h0 := h0) (op := op) (ar := ar) (K := K) (Ka := Ka) (w := w) SP le pr _ z_F 0 g1 hM p2 n2 op2 ar2 ws2 nQ2 KQ2 KaQ2 Q2 nM2 K2 Ka2 rfl (by show _ < 1000000; omega) (by omega) C2 M2 B2 fl3 R2 j1 j2 nt2
    exact ⟨b, g4, d4, post_app r hs P4⟩
theorem sim_tests : ∀ (m d : Nat), d ≤ 8 → 9 ≤ m + d → SimD tp L ord 1 (D_X5_readTest m) (TSTR ord) 1 2 (NTo tp L) 0 (preT 1) d := by
  intro m
  induction m with
  | zero => intro d h1 h2; omega
  | succ m ih =>
    intro d h1 h2
    exact sim_testB (kr := D_X5_readTest m) (sim_both (sim_plain h1 (fun h8 => ih (d + 1) (by omega) (by omega))))
end F3
