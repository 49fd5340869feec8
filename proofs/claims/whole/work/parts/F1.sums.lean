/-! both readers: TERMS and SUMS -/
section F1
variable {tp : Nat → Nat} {L : Nat} {ord : Bool} {g0 g h0 h : z_H} {p n nM w od q d : Nat} {op ar K Ka : Nat → Int32} {P : List (Nat × Nat)} {l1 : Int32} {kr : z_H → Option Nat → Int32 → Option (Int32 × z_H)}
theorem isSg_one {a b : Nat} (h : isSg tp L p a = true) (ne : a ≠ b) : isSg tp L p b = false := by
  unfold isSg at h ⊢
  rw [Bool.and_eq_true] at h
  have h2 := of_decide_eq_true h.2
  rw [decide_eq_false (show ¬ tp p = b by omega), Bool.and_false]
theorem arO_cases : (arO tp L p = none ∧ isSg tp L p 43 = false ∧ isSg tp L p 45 = false ∧ isSg tp L p 42 = false ∧ isSg tp L p 47 = false ∧ isSg tp L p 37 = false) ∨ (arO tp L p = some 20 ∧ isSg tp L p 43 = true ∧ isSg tp L p 45 = false ∧ isSg tp L p 42 = false ∧ isSg tp L p 47 = false ∧ isSg tp L p 37 = false) ∨ (arO tp L p = some 21 ∧ isSg tp L p 43 = false ∧ isSg tp L p 45 = true ∧ isSg tp L p 42 = false ∧ isSg tp L p 47 = false ∧ isSg tp L p 37 = false) ∨ (arO tp L p = some 22 ∧ isSg tp L p 43 = false ∧ isSg tp L p 45 = false ∧ isSg tp L p 42 = true ∧ isSg tp L p 47 = false ∧ isSg tp L p 37 = false) ∨ (arO tp L p = some 23 ∧ isSg tp L p 43 = false ∧ isSg tp L p 45 = false ∧ isSg tp L p 42 = false ∧ isSg tp L p 47 = true ∧ isSg tp L p 37 = false) ∨ (arO tp L p = some 24 ∧ isSg tp L p 43 = false ∧ isSg tp L p 45 = false ∧ isSg tp L p 42 = false ∧ isSg tp L p 47 = false ∧ isSg tp L p 37 = true) := by
  unfold arO
  cases c1 : isSg tp L p 43 with
  | true => rw [isSg_one c1 (b := 45) (by decide), isSg_one c1 (b := 42) (by decide), isSg_one c1 (b := 47) (by decide), isSg_one c1 (b := 37) (by decide)]; decide
  | false =>
    cases c2 : isSg tp L p 45 with
    | true => rw [isSg_one c2 (b := 42) (by decide), isSg_one c2 (b := 47) (by decide), isSg_one c2 (b := 37) (by decide)]; decide
    | false =>
      cases c3 : isSg tp L p 42 with
      | true => rw [isSg_one c3 (b := 47) (by decide), isSg_one c3 (b := 37) (by decide)]; decide
      | false =>
        cases c4 : isSg tp L p 47 with
        | true => rw [isSg_one c4 (b := 37) (by decide)]; decide
        | false => cases isSg tp L p 37 <;> decide
def NTt (tp : Nat → Nat) (L : Nat) (p : Nat) : Prop := ∀ o, arO tp L p = some o → o < 22
theorem post_app {R : z_R} {lv : Nat} {tt t t1 : Int32} {NT : Nat → Prop} {p1 s1 : Nat} {h1 gC : z_H} {b : Bool} (r : RCH l1 s1 h t h1 t1) (hs : s1 + 2 * p ≤ 2 * p1) (H : POST tp L ord g0 h0 l1 R lv tt NT p1 n w nM op ar K Ka P od h1 t1 b gC) : POST tp L ord g0 h0 l1 R lv tt NT p n w nM op ar K Ka P od h t b gC := by
  obtain ⟨s, hM, t', r', X⟩ := H
  refine ⟨s1 + s, hM, t', r.trans r', ?_⟩
  rcases X with ⟨hb, h2, rest⟩ | ⟨hb, ht, p', n', op', ar', ws, nQ, KQ, KaQ, Q, nM', K', Ka', h2, rest⟩
  · exact Or.inl ⟨hb, by omega, rest⟩
  · exact Or.inr ⟨hb, ht, p', n', op', ar', ws, nQ, KQ, KaQ, Q, nM', K', Ka', by omega, rest⟩
theorem term_tests (C : CSt tp L ord g0 g p n op ar w) {i : Nat} (hi : i < 400) (k8 : z_H → Option Nat → Int32 → Int32 → Int32 → Option (Int32 × z_H)) (l1 : Int32) : (NTt tp L p ∧ D_X5_readTerm_8b kr k8 g (some 23) l1 1 (Int32.ofNat i) = some (1, g)) ∨ (∃ o, arO tp L p = some o ∧ 22 ≤ o ∧ o ≤ 24 ∧ D_X5_readTerm_8b kr k8 g (some 23) l1 1 (Int32.ofNat i) = D_X5_readTerm_76 kr k8 g (some 23) l1 (Int32.ofNat i) (Int32.ofNat (o - 15))) := by
  have s3 : D_X5_isSign g (some 23) 42 = some (b01 (isSg tp L p 42), g) := C.sg (c := 42) (by decide)
  have s4 : D_X5_isSign g (some 23) 47 = some (b01 (isSg tp L p 47), g) := C.sg (c := 47) (by decide)
  have s5 : D_X5_isSign g (some 23) 37 = some (b01 (isSg tp L p 37), g) := C.sg (c := 37) (by decide)
  have e : D_X5_readTerm_8b kr k8 g (some 23) l1 1 (Int32.ofNat i) = (if isSg tp L p 42 = true then D_X5_readTerm_76 kr k8 g (some 23) l1 (Int32.ofNat i) 7 else if isSg tp L p 47 = true then D_X5_readTerm_76 kr k8 g (some 23) l1 (Int32.ofNat i) 8 else if isSg tp L p 37 = true then D_X5_readTerm_76 kr k8 g (some 23) l1 (Int32.ofNat i) 9 else some (1, g)) := by
    unfold D_X5_readTerm_8b D_X5_readTerm_46
    rw [if_neg (show ¬ (400 : Int32) ≤ Int32.ofNat i from fun z => by have := (nat_le (a := 400) (b := i) (by decide) (by omega)).mp z; omega), if_neg one_ne]
    simp only [o23 C.1, s3, s4, s5, Option.bind_some, b01_if]
    cases isSg tp L p 42 <;> cases isSg tp L p 47 <;> cases isSg tp L p 37 <;> simp
  rw [e]
  rcases arO_cases (tp := tp) (L := L) (p := p) with ⟨a, b1, b2, b3, b4, b5⟩ | ⟨a, b1, b2, b3, b4, b5⟩ | ⟨a, b1, b2, b3, b4, b5⟩ | ⟨a, b1, b2, b3, b4, b5⟩ | ⟨a, b1, b2, b3, b4, b5⟩ | ⟨a, b1, b2, b3, b4, b5⟩ <;> rw [b3, b4, b5]
  · exact Or.inl ⟨fun o z => (by rw [a] at z; cases z), rfl⟩
  · exact Or.inl ⟨fun o z => (by rw [a] at z; cases z; decide), rfl⟩
  · exact Or.inl ⟨fun o z => (by rw [a] at z; cases z; decide), rfl⟩
  · exact Or.inr ⟨22, a, by decide, by decide, rfl⟩
  · exact Or.inr ⟨23, a, by decide, by decide, rfl⟩
  · exact Or.inr ⟨24, a, by decide, by decide, rfl⟩
theorem sum_tests (C : CSt tp L ord g0 g p n op ar w) (nt : NTt tp L p) {i : Nat} (hi : i < 400) (k8 : z_H → Option Nat → Int32 → Int32 → Int32 → Option (Int32 × z_H)) (l1 : Int32) : (NTs tp L p ∧ D_X5_readSumB_8b kr k8 g (some 23) l1 1 (Int32.ofNat i) = some (1, g)) ∨ (∃ o, arO tp L p = some o ∧ 20 ≤ o ∧ o ≤ 21 ∧ D_X5_readSumB_8b kr k8 g (some 23) l1 1 (Int32.ofNat i) = D_X5_readSumB_52 kr k8 g (some 23) l1 (Int32.ofNat i) (Int32.ofNat (o - 15))) := by
  have s1 : D_X5_isSign g (some 23) 43 = some (b01 (isSg tp L p 43), g) := C.sg (c := 43) (by decide)
  have s2 : D_X5_isSign g (some 23) 45 = some (b01 (isSg tp L p 45), g) := C.sg (c := 45) (by decide)
  have e : D_X5_readSumB_8b kr k8 g (some 23) l1 1 (Int32.ofNat i) = (if isSg tp L p 43 = true then D_X5_readSumB_52 kr k8 g (some 23) l1 (Int32.ofNat i) 5 else if isSg tp L p 45 = true then D_X5_readSumB_52 kr k8 g (some 23) l1 (Int32.ofNat i) 6 else some (1, g)) := by
    unfold D_X5_readSumB_8b D_X5_readSumB_37
    rw [if_neg (show ¬ (400 : Int32) ≤ Int32.ofNat i from fun z => by have := (nat_le (a := 400) (b := i) (by decide) (by omega)).mp z; omega), if_neg one_ne]
    simp only [o23 C.1, s1, s2, Option.bind_some, b01_if]
    cases isSg tp L p 43 <;> cases isSg tp L p 45 <;> simp
  rw [e]
  rcases arO_cases (tp := tp) (L := L) (p := p) with ⟨a, b1, b2, b3, b4, b5⟩ | ⟨a, b1, b2, b3, b4, b5⟩ | ⟨a, b1, b2, b3, b4, b5⟩ | ⟨a, b1, b2, b3, b4, b5⟩ | ⟨a, b1, b2, b3, b4, b5⟩ | ⟨a, b1, b2, b3, b4, b5⟩ <;> rw [b1, b2]
  · exact Or.inl ⟨a, rfl⟩
  · exact Or.inr ⟨20, a, by decide, by decide, rfl⟩
  · exact Or.inr ⟨21, a, by decide, by decide, rfl⟩
  · exact absurd (nt 22 a) (by decide)
  · exact absurd (nt 23 a) (by decide)
  · exact absurd (nt 24 a) (by decide)
theorem term_loop (SP : SimD tp L ord l1 (D_X5_readPart kr) (SUMR ord) 7 3 (fun _ => True) 1 (fun _ => True) d) (le : n ≤ nM) (tl : topLt 6 P) : ∀ (δ f i : Nat) (gC hM : z_H) (p' n' : Nat) (op' ar' : Nat → Int32) (ws nQ : Nat) (KQ KaQ : Nat → Int32) (Q : List (Nat × Nat)) (nM' : Nat) (K' Ka' : Nat → Int32), L - p' = δ → δ < f → i ≤ p' → CSt tp L ord g0 gC p' n' op' ar' (w + ws) → MSt tp L ord h0 hM p' nQ KQ KaQ Q (w + ws) d → Bu nQ Q p' → flu 6 Q nQ KQ KaQ = (P, nM', K', Ka') → SUMR ord op' ar' K' Ka' n n' nM nM' ws → (∀ i, i < n → op' i = op i ∧ ar' i = ar i) → (∀ i, i < nM → K' i = K i ∧ Ka' i = Ka i) → (fun _ => True) p' → ∃ (b : Bool) (g2 : z_H), D_X5_readTerm_8 kr f gC (some 23) (Int32.ofNat d) 1 (Int32.ofNat i) = some (b01 b, g2) ∧ POST tp L ord g0 h0 l1 (SUMR ord) 6 3 (NTt tp L) p' n w nM op ar K Ka P d hM 3 b g2 := by
  intro δ
  induction δ using Nat.strongRecOn with
  | _ δ ih =>
  intro f i gC hM p' n' op' ar' ws nQ KQ KaQ Q nM' K' Ka' hδ hf hi C M B fl R k1 k2 nti
  obtain ⟨f, rfl⟩ : ∃ f', f = f' + 1 := ⟨f - 1, by omega⟩
  have hL := M.2.2.1.1
  have hp := M.2.2.2.1.1
  have stop : (NTt tp L p') → D_X5_readTerm_8b kr (D_X5_readTerm_8 kr f) gC (some 23) (Int32.ofNat d) 1 (Int32.ofNat i) = some (1, gC) → ∃ (b : Bool) (g2 : z_H), D_X5_readTerm_8 kr (f + 1) gC (some 23) (Int32.ofNat d) 1 (Int32.ofNat i) = some (b01 b, g2) ∧ POST tp L ord g0 h0 l1 (SUMR ord) 6 3 (NTt tp L) p' n w nM op ar K Ka P d hM 3 b g2 := fun nt e => ⟨true, gC, e, 0, hM, 3, RCH.zero _ _ _, Or.inr ⟨rfl, rfl, p', n', op', ar', ws, nQ, KQ, KaQ, Q, nM', K', Ka', by omega, C, M, B, fl, R, k1, k2, nt⟩⟩
  by_cases i4 : i < 400
  · rcases term_tests (kr := kr) C  i4 (D_X5_readTerm_8 kr f) (Int32.ofNat d) with ⟨nt, e⟩ | ⟨o, ao, o1, o2, e⟩
    · exact stop nt e
    · obtain ⟨_, _, pl, pn, pL⟩ := arO_b ao hp
      have bo : bnd o = 6 := by
        rcases (show o = 22 ∨ o = 23 ∨ o = 24 by omega) with r | r | r <;> rw [r] <;> rfl
      obtain ⟨h1, dh, M1, B1⟩ := m_bs_op M B l1 ao (show flu (bnd o) Q nQ KQ KaQ = (P, nM', K', Ka') by rw [bo]; exact fl)
      obtain ⟨g1, dg, C1⟩ := C.next
      have Rle := R.1.le
      have Rlo := R.1.1
      obtain ⟨b, g2, d2, s, hM2, t', r2, X⟩ := SP g0 g1 h0 h1 (tkN tp L p') n' (w + ws) nM' op' ar' K' Ka' ((o, 0) :: P) C1 M1 B1 (by omega) (trivial)
      have r1 : RCH l1 1 hM 3 h1 1 := ex_sum M dh
      have pre : ∀ gx bx, D_X5_readPart kr g1 (some 23) (Int32.ofNat d) = some (bx, gx) → ∀ gy, D_X7_emit gx (some 25) (Int32.ofNat (o - 15)) 0 = some gy → Sh gx → D_X5_readTerm_8 kr (f + 1) gC (some 23) (Int32.ofNat d) 1 (Int32.ofNat i) = D_X5_readTerm_8 kr f gy (some 23) (Int32.ofNat d) bx (Int32.ofNat (i + 1)) := by
        intro gx bx dx gy dy sx
        show D_X5_readTerm_8b kr (D_X5_readTerm_8 kr f) gC (some 23) (Int32.ofNat d) 1 (Int32.ofNat i) = _
        rw [e]
        unfold D_X5_readTerm_76
        rw [o23 C.1, Option.bind_some, dg, Option.bind_some, o23 C1.1, Option.bind_some, dx, Option.bind_some]
        dsimp only
        rw [q25 sx, Option.bind_some, o25 sx, Option.bind_some, dy, Option.bind_some, Option.bind_some, show Int32.ofNat i + 1 = Int32.ofNat (i + 1) from sc_add i 1]
      rcases X with ⟨rfl, hs, q, cf, mf⟩ | ⟨rfl, rfl, p2, n2, op2, ar2, ws2, nQ2, KQ2, KaQ2, Q2, nM2, K2, Ka2, hs, C2, M2, B2, fl2, R2, j1, j2, nt2⟩
      · obtain ⟨g3, d3, cf3⟩ := cf.emit (Int32.ofNat (o - 15)) 0
        refine ⟨false, g3, ?_, post_fail (r1.trans r2) (by omega) cf3 mf⟩
        rw [pre g2 _ d2 g3 d3 cf.1]
        obtain ⟨f, rfl⟩ : ∃ f', f = f' + 1 := ⟨f - 1, by omega⟩
        show D_X5_readTerm_8b kr (D_X5_readTerm_8 kr f) g3 (some 23) (Int32.ofNat d) 0 (Int32.ofNat (i + 1)) = some (0, g3)
        unfold D_X5_readTerm_8b
        by_cases z : (400 : Int32) ≤ Int32.ofNat (i + 1)
        · rw [if_pos z, if_pos (Or.inl rfl)]
        · rw [if_neg z, if_pos rfl, if_pos (Or.inl rfl)]
      · have fb := flu_bud (lv := 7) Q2 nQ2 KQ2 KaQ2 (by decide)
        rw [fl2] at fb
        dsimp only at fb
        have pd : pend ((o, 0) :: P) = 1 + pend P := by
          show (if 29 ≤ o then 0 else 1) + pend P = _
          rw [if_neg (by omega)]
        have bb := B2.1
        have hp2 := M2.2.2.2.1.1
        have Rle2 := R2.1.le
        have Rlo2 := R2.1.1
        obtain ⟨g3, d3, C3⟩ := C2.emit (by omega) (Int32.ofNat (o - 15)) 0
        have fl3 : flu 6 Q2 nQ2 KQ2 KaQ2 = (P, nM2 + 1, upd K2 nM2 (Int32.ofNat o), upd Ka2 nM2 0) := by
          rw [flu_then (lv' := 6) (by decide) fl2, flu_em (by rw [bo]; omega) (by omega), flu_id tl]
        have RA : SUMR ord (upd op2 n2 (Int32.ofNat (o - 15))) (upd ar2 n2 0) (upd K2 nM2 (Int32.ofNat o)) (upd Ka2 nM2 0) n n' nM nM' ws := R.cg (fun i a c => ⟨by rw [upd_ne (by omega)]; exact (j1 i c).1, by rw [upd_ne (by omega)]; exact (j1 i c).2⟩) (fun i a c => ⟨by rw [upd_ne (by omega)]; exact (j2 i c).1, by rw [upd_ne (by omega)]; exact (j2 i c).2⟩)
        have RB : SUMR ord (upd op2 n2 (Int32.ofNat (o - 15))) (upd ar2 n2 0) (upd K2 nM2 (Int32.ofNat o)) (upd Ka2 nM2 0) n' n2 nM' nM2 ws2 := R2.cg (fun i a c => ⟨upd_ne (by omega), upd_ne (by omega)⟩) (fun i a c => ⟨upd_ne (by omega), upd_ne (by omega)⟩)
        have RC := RA.bin RB (o := o - 15) (by omega) (by omega) upd_eq (by rw [upd_eq, show o - 15 + 15 = o by omega])
        obtain ⟨b, g4, d4, P4⟩ := ih (L - p2) (by omega) f (i + 1) g3 hM2 p2 (n2 + 1) _ _ (ws + ws2) nQ2 KQ2 KaQ2 Q2 (nM2 + 1) _ _ rfl (by omega) (by omega) (by rw [← Nat.add_assoc]; exact C3) (by rw [← Nat.add_assoc]; exact M2) B2 fl3 RC (fun i a => ⟨by rw [upd_ne (by omega), (j1 i (by omega)).1]; exact (k1 i a).1, by rw [upd_ne (by omega), (j1 i (by omega)).2]; exact (k1 i a).2⟩) (fun i a => ⟨by rw [upd_ne (by omega), (j2 i (by omega)).1]; exact (k2 i a).1, by rw [upd_ne (by omega), (j2 i (by omega)).2]; exact (k2 i a).2⟩) nt2
        exact ⟨b, g4, by rw [pre g2 _ d2 g3 d3 C2.1]; exact d4, post_app (r1.trans r2) (by omega) P4⟩
  · refine stop ?_ ?_
    · have pe : tkK tp L p' = 3 := by unfold tkK; rw [if_neg (by omega)]
      have no : ∀ c, isSg tp L p' c = false := fun c => by unfold isSg; rw [pe]; rfl
      have an : arO tp L p' = none := by unfold arO; rw [no, no, no, no, no]; rfl
      intro o z; rw [an] at z; cases z
    · unfold D_X5_readTerm_8b
      rw [if_pos (show (400 : Int32) ≤ Int32.ofNat i from (nat_le (a := 400) (b := i) (by decide) (by omega)).mpr (by omega)), if_pos (Or.inr rfl)]
theorem sim_term (hd : d ≤ 8) (SP : SimD tp L ord l1 (D_X5_readPart kr) (SUMR ord) 7 3 (fun _ => True) 1 (fun _ => True) d) : SimD tp L ord l1 (D_X5_readTerm kr) (SUMR ord) 6 3 (NTt tp L) 1 (topLt 6) d := by
  intro g0 g h0 h p n w nM op ar K Ka P C M B le tl
  have hL := M.2.2.1.1
  have hp := M.2.2.2.1.1
  obtain ⟨b, g1, d1, s, hM, t', r, X⟩ := SP g0 g h0 h p n w nM op ar K Ka P C M B le trivial
  unfold D_X5_readTerm
  rw [o23 C.1, Option.bind_some, d1, Option.bind_some]
  dsimp only
  rcases X with ⟨rfl, hs, q, cf, mf⟩ | ⟨rfl, rfl, p2, n2, op2, ar2, ws2, nQ2, KQ2, KaQ2, Q2, nM2, K2, Ka2, hs, C2, M2, B2, fl2, R2, j1, j2, nt2⟩
  · refine ⟨false, g1, ?_, post_fail r (by omega) cf mf⟩
    show D_X5_readTerm_8b kr (D_X5_readTerm_8 kr 999999) g1 (some 23) (Int32.ofNat d) 0 (Int32.ofNat 0) = some (0, g1)
    unfold D_X5_readTerm_8b
    rw [if_neg (by decide), if_pos rfl, if_pos (Or.inl rfl)]
  · have fl3 : flu 6 Q2 nQ2 KQ2 KaQ2 = (P, nM2, K2, Ka2) := by
      rw [flu_then (lv' := 6) (by decide) fl2, flu_id tl]
    obtain ⟨b, g4, d4, P4⟩ := term_loop (kr := kr) (g0 := g0) (h0 := h0) (op := op) (ar := ar) (K := K) (Ka := Ka) (w := w) SP le tl _ z_F 0 g1 hM p2 n2 op2 ar2 ws2 nQ2 KQ2 KaQ2 Q2 nM2 K2 Ka2 rfl (by show _ < 1000000; omega) (by omega) C2 M2 B2 fl3 R2 j1 j2 nt2
    exact ⟨b, g4, d4, post_app r hs P4⟩
theorem sum_loop (SP : SimD tp L ord l1 (D_X5_readTerm kr) (SUMR ord) 6 3 (NTt tp L) 1 (topLt 6) d) (le : n ≤ nM) (tl : topLt 5 P) : ∀ (δ f i : Nat) (gC hM : z_H) (p' n' : Nat) (op' ar' : Nat → Int32) (ws nQ : Nat) (KQ KaQ : Nat → Int32) (Q : List (Nat × Nat)) (nM' : Nat) (K' Ka' : Nat → Int32), L - p' = δ → δ < f → i ≤ p' → CSt tp L ord g0 gC p' n' op' ar' (w + ws) → MSt tp L ord h0 hM p' nQ KQ KaQ Q (w + ws) d → Bu nQ Q p' → flu 5 Q nQ KQ KaQ = (P, nM', K', Ka') → SUMR ord op' ar' K' Ka' n n' nM nM' ws → (∀ i, i < n → op' i = op i ∧ ar' i = ar i) → (∀ i, i < nM → K' i = K i ∧ Ka' i = Ka i) → (NTt tp L) p' → ∃ (b : Bool) (g2 : z_H), D_X5_readSumB_8 kr f gC (some 23) (Int32.ofNat d) 1 (Int32.ofNat i) = some (b01 b, g2) ∧ POST tp L ord g0 h0 l1 (SUMR ord) 5 3 (NTs tp L) p' n w nM op ar K Ka P d hM 3 b g2 := by
  intro δ
  induction δ using Nat.strongRecOn with
  | _ δ ih =>
  intro f i gC hM p' n' op' ar' ws nQ KQ KaQ Q nM' K' Ka' hδ hf hi C M B fl R k1 k2 nti
  obtain ⟨f, rfl⟩ : ∃ f', f = f' + 1 := ⟨f - 1, by omega⟩
  have hL := M.2.2.1.1
  have hp := M.2.2.2.1.1
  have stop : (NTs tp L p') → D_X5_readSumB_8b kr (D_X5_readSumB_8 kr f) gC (some 23) (Int32.ofNat d) 1 (Int32.ofNat i) = some (1, gC) → ∃ (b : Bool) (g2 : z_H), D_X5_readSumB_8 kr (f + 1) gC (some 23) (Int32.ofNat d) 1 (Int32.ofNat i) = some (b01 b, g2) ∧ POST tp L ord g0 h0 l1 (SUMR ord) 5 3 (NTs tp L) p' n w nM op ar K Ka P d hM 3 b g2 := fun nt e => ⟨true, gC, e, 0, hM, 3, RCH.zero _ _ _, Or.inr ⟨rfl, rfl, p', n', op', ar', ws, nQ, KQ, KaQ, Q, nM', K', Ka', by omega, C, M, B, fl, R, k1, k2, nt⟩⟩
  by_cases i4 : i < 400
  · rcases sum_tests (kr := kr) C nti i4 (D_X5_readSumB_8 kr f) (Int32.ofNat d) with ⟨nt, e⟩ | ⟨o, ao, o1, o2, e⟩
    · exact stop nt e
    · obtain ⟨_, _, pl, pn, pL⟩ := arO_b ao hp
      have bo : bnd o = 5 := by
        rcases (show o = 20 ∨ o = 21 by omega) with r | r <;> rw [r] <;> rfl
      obtain ⟨h1, dh, M1, B1⟩ := m_bs_op M B l1 ao (show flu (bnd o) Q nQ KQ KaQ = (P, nM', K', Ka') by rw [bo]; exact fl)
      obtain ⟨g1, dg, C1⟩ := C.next
      have Rle := R.1.le
      have Rlo := R.1.1
      obtain ⟨b, g2, d2, s, hM2, t', r2, X⟩ := SP g0 g1 h0 h1 (tkN tp L p') n' (w + ws) nM' op' ar' K' Ka' ((o, 0) :: P) C1 M1 B1 (by omega) (show bnd o < 6 by rw [bo]; decide)
      have r1 : RCH l1 1 hM 3 h1 1 := ex_sum M dh
      have pre : ∀ gx bx, D_X5_readTerm kr g1 (some 23) (Int32.ofNat d) = some (bx, gx) → ∀ gy, D_X7_emit gx (some 25) (Int32.ofNat (o - 15)) 0 = some gy → Sh gx → D_X5_readSumB_8 kr (f + 1) gC (some 23) (Int32.ofNat d) 1 (Int32.ofNat i) = D_X5_readSumB_8 kr f gy (some 23) (Int32.ofNat d) bx (Int32.ofNat (i + 1)) := by
        intro gx bx dx gy dy sx
        show D_X5_readSumB_8b kr (D_X5_readSumB_8 kr f) gC (some 23) (Int32.ofNat d) 1 (Int32.ofNat i) = _
        rw [e]
        unfold D_X5_readSumB_52
        rw [o23 C.1, Option.bind_some, dg, Option.bind_some, o23 C1.1, Option.bind_some, dx, Option.bind_some]
        dsimp only
        rw [q25 sx, Option.bind_some, o25 sx, Option.bind_some, dy, Option.bind_some, Option.bind_some, show Int32.ofNat i + 1 = Int32.ofNat (i + 1) from sc_add i 1]
      rcases X with ⟨rfl, hs, q, cf, mf⟩ | ⟨rfl, rfl, p2, n2, op2, ar2, ws2, nQ2, KQ2, KaQ2, Q2, nM2, K2, Ka2, hs, C2, M2, B2, fl2, R2, j1, j2, nt2⟩
      · obtain ⟨g3, d3, cf3⟩ := cf.emit (Int32.ofNat (o - 15)) 0
        refine ⟨false, g3, ?_, post_fail (r1.trans r2) (by omega) cf3 mf⟩
        rw [pre g2 _ d2 g3 d3 cf.1]
        obtain ⟨f, rfl⟩ : ∃ f', f = f' + 1 := ⟨f - 1, by omega⟩
        show D_X5_readSumB_8b kr (D_X5_readSumB_8 kr f) g3 (some 23) (Int32.ofNat d) 0 (Int32.ofNat (i + 1)) = some (0, g3)
        unfold D_X5_readSumB_8b
        by_cases z : (400 : Int32) ≤ Int32.ofNat (i + 1)
        · rw [if_pos z, if_pos (Or.inl rfl)]
        · rw [if_neg z, if_pos rfl, if_pos (Or.inl rfl)]
      · have fb := flu_bud (lv := 6) Q2 nQ2 KQ2 KaQ2 (by decide)
        rw [fl2] at fb
        dsimp only at fb
        have pd : pend ((o, 0) :: P) = 1 + pend P := by
          show (if 29 ≤ o then 0 else 1) + pend P = _
          rw [if_neg (by omega)]
        have bb := B2.1
        have hp2 := M2.2.2.2.1.1
        have Rle2 := R2.1.le
        have Rlo2 := R2.1.1
        obtain ⟨g3, d3, C3⟩ := C2.emit (by omega) (Int32.ofNat (o - 15)) 0
        have fl3 : flu 5 Q2 nQ2 KQ2 KaQ2 = (P, nM2 + 1, upd K2 nM2 (Int32.ofNat o), upd Ka2 nM2 0) := by
          rw [flu_then (lv' := 5) (by decide) fl2, flu_em (by rw [bo]; omega) (by omega), flu_id tl]
        have RA : SUMR ord (upd op2 n2 (Int32.ofNat (o - 15))) (upd ar2 n2 0) (upd K2 nM2 (Int32.ofNat o)) (upd Ka2 nM2 0) n n' nM nM' ws := R.cg (fun i a c => ⟨by rw [upd_ne (by omega)]; exact (j1 i c).1, by rw [upd_ne (by omega)]; exact (j1 i c).2⟩) (fun i a c => ⟨by rw [upd_ne (by omega)]; exact (j2 i c).1, by rw [upd_ne (by omega)]; exact (j2 i c).2⟩)
        have RB : SUMR ord (upd op2 n2 (Int32.ofNat (o - 15))) (upd ar2 n2 0) (upd K2 nM2 (Int32.ofNat o)) (upd Ka2 nM2 0) n' n2 nM' nM2 ws2 := R2.cg (fun i a c => ⟨upd_ne (by omega), upd_ne (by omega)⟩) (fun i a c => ⟨upd_ne (by omega), upd_ne (by omega)⟩)
        have RC := RA.bin RB (o := o - 15) (by omega) (by omega) upd_eq (by rw [upd_eq, show o - 15 + 15 = o by omega])
        obtain ⟨b, g4, d4, P4⟩ := ih (L - p2) (by omega) f (i + 1) g3 hM2 p2 (n2 + 1) _ _ (ws + ws2) nQ2 KQ2 KaQ2 Q2 (nM2 + 1) _ _ rfl (by omega) (by omega) (by rw [← Nat.add_assoc]; exact C3) (by rw [← Nat.add_assoc]; exact M2) B2 fl3 RC (fun i a => ⟨by rw [upd_ne (by omega), (j1 i (by omega)).1]; exact (k1 i a).1, by rw [upd_ne (by omega), (j1 i (by omega)).2]; exact (k1 i a).2⟩) (fun i a => ⟨by rw [upd_ne (by omega), (j2 i (by omega)).1]; exact (k2 i a).1, by rw [upd_ne (by omega), (j2 i (by omega)).2]; exact (k2 i a).2⟩) nt2
        exact ⟨b, g4, by rw [pre g2 _ d2 g3 d3 C2.1]; exact d4, post_app (r1.trans r2) (by omega) P4⟩
  · refine stop ?_ ?_
    · have pe : tkK tp L p' = 3 := by unfold tkK; rw [if_neg (by omega)]
      have no : ∀ c, isSg tp L p' c = false := fun c => by unfold isSg; rw [pe]; rfl
      have an : arO tp L p' = none := by unfold arO; rw [no, no, no, no, no]; rfl
      exact an
    · unfold D_X5_readSumB_8b
      rw [if_pos (show (400 : Int32) ≤ Int32.ofNat i from (nat_le (a := 400) (b := i) (by decide) (by omega)).mpr (by omega)), if_pos (Or.inr rfl)]
theorem sim_sum (hd : d ≤ 8) (SP : SimD tp L ord l1 (D_X5_readTerm kr) (SUMR ord) 6 3 (NTt tp L) 1 (topLt 6) d) : SimD tp L ord l1 (D_X5_readSumB kr) (SUMR ord) 5 3 (NTs tp L) 1 (topLt 5) d := by
  intro g0 g h0 h p n w nM op ar K Ka P C M B le tl
  have hL := M.2.2.1.1
  have hp := M.2.2.2.1.1
  obtain ⟨b, g1, d1, s, hM, t', r, X⟩ := SP g0 g h0 h p n w nM op ar K Ka P C M B le (topLt_mono tl (by decide))
  unfold D_X5_readSumB
  rw [o23 C.1, Option.bind_some, d1, Option.bind_some]
  dsimp only
  rcases X with ⟨rfl, hs, q, cf, mf⟩ | ⟨rfl, rfl, p2, n2, op2, ar2, ws2, nQ2, KQ2, KaQ2, Q2, nM2, K2, Ka2, hs, C2, M2, B2, fl2, R2, j1, j2, nt2⟩
  · refine ⟨false, g1, ?_, post_fail r (by omega) cf mf⟩
    show D_X5_readSumB_8b kr (D_X5_readSumB_8 kr 999999) g1 (some 23) (Int32.ofNat d) 0 (Int32.ofNat 0) = some (0, g1)
    unfold D_X5_readSumB_8b
    rw [if_neg (by decide), if_pos rfl, if_pos (Or.inl rfl)]
  · have fl3 : flu 5 Q2 nQ2 KQ2 KaQ2 = (P, nM2, K2, Ka2) := by
      rw [flu_then (lv' := 5) (by decide) fl2, flu_id tl]
    obtain ⟨b, g4, d4, P4⟩ := sum_loop (kr := kr) (g0 := g0) (h0 := h0) (op := op) (ar := ar) (K := K) (Ka := Ka) (w := w) SP le tl _ z_F 0 g1 hM p2 n2 op2 ar2 ws2 nQ2 KQ2 KaQ2 Q2 nM2 K2 Ka2 rfl (by show _ < 1000000; omega) (by omega) C2 M2 B2 fl3 R2 j1 j2 nt2
    exact ⟨b, g4, d4, post_app r hs P4⟩
theorem sim_sums : ∀ (m d : Nat), d ≤ 8 → 9 ≤ m + d → SimD tp L ord l1 (D_X5_readSum m) (SUMR ord) 5 3 (NTs tp L) 1 (topLt 5) d := by
  intro m
  induction m with
  | zero => intro d h1 h2; omega
  | succ m ih =>
    intro d h1 h2
    exact sim_sum (kr := D_X5_readSum m) h1 (sim_term h1 (sim_part h1 (fun h8 => ih (d + 1) (by omega) (by omega))))
end F1
