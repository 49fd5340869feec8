/-! both readers: what an ORDER is made of -/
section H0
variable {tp : Nat → Nat} {L : Nat} {g0 g h0 h : z_H} {p n nM w q k : Nat} {op ar K Ka : Nat → Int32}
theorem o_rc_fail (C : CSt tp L true g g p n op ar w) (e : wsIdx tp L p wdOV = none) (x : Int32) : ∃ gC, D_X5_readClause g (some 23) x = some (0, gC) ∧ CFl L g gC p := by
  obtain ⟨g1, d1, F1⟩ := C.fail
  refine ⟨g1, ?_, F1⟩
  unfold D_X5_readClause D_X5_readClause_15
  rw [s_gI C.1 (ci := 5) rfl rfl, Option.bind_some, C.2.2.2.2.2.2.2.2.1, if_neg (show ¬ b01 true = 0 by decide), o23 C.1, Option.bind_some, C.ov, e, Option.bind_some]
  dsimp only
  rw [if_pos (show enc none = -1 from rfl), o23 C.1, Option.bind_some, d1, Option.bind_some]
  rfl
theorem o_rc_ok (C : CSt tp L true g g p n op ar w) {v : Nat} (hv : v < 5) (e : wsIdx tp L p wdOV = some v) (x : Int32) : D_X5_readClause g (some 23) x = D_X5_readClause_39 g (some 23) x (Int32.ofNat v) := by
  unfold D_X5_readClause D_X5_readClause_15
  rw [s_gI C.1 (ci := 5) rfl rfl, Option.bind_some, C.2.2.2.2.2.2.2.2.1, if_neg (show ¬ b01 true = 0 by decide), o23 C.1, Option.bind_some, C.ov, e, Option.bind_some]
  dsimp only
  rw [if_neg (show ¬ enc (some v) = -1 from of_nm1 (by omega)), s_gI C.1 (ci := 5) rfl rfl, Option.bind_some, C.2.2.2.2.2.2.2.2.1, if_neg (show ¬ b01 true = 0 by decide)]
  rfl
theorem m_acts (M : MS0 tp L true h h p nM K Ka w) : D_X11_readOrder h (some 81) = D_X11_readOrder_4b (fun _ _ _ _ => none) h (some 81) (enc (wsIdx tp L p wdOV)) 5 := by
  have hs := M.1
  have cn := M.2.2.2.2.2.2.2.2.2.2.1.2.2.2
  have lp := loop_up (S := Int32) (I := fun i x => x = enc (soFar (wsIdx tp L p wdOV) i)) (F := fun m x i => D_X11_readOrder_4 m h (some 81) x (Int32.ofNat i)) (G := fun x => D_X11_readOrder_4b (fun _ _ _ _ => none) h (some 81) x 5) (N := 5) (fun m x _ => ?_) (fun m x i hi I => ?_) 5 0 z_F (-1) (by decide) (by decide) (by show _ < 1000000; decide) (by cases wsIdx tp L p wdOV <;> rfl)
  · obtain ⟨x, I, e⟩ := lp
    refine e.trans ?_
    rw [I, show soFar (wsIdx tp L p wdOV) 5 = wsIdx tp L p wdOV from soFar_all (ws := wdOV)]
  · show D_X11_readOrder_4b _ h (some 81) x (Int32.ofNat 5) = _
    unfold D_X11_readOrder_4b
    rw [if_pos (show (5 : Int32) ≤ Int32.ofNat 5 by decide), if_pos (show (5 : Int32) ≤ 5 by decide)]
  · show ∃ x', _ ∧ D_X11_readOrder_4b (D_X11_readOrder_4 m) h (some 81) x (Int32.ofNat i) = _
    have wd : D_X11_isWord h (some 81) (aJ h 111 i) = some (b01 (isW tp L p (wdOV.getD i [])), h) := by
      rw [cn i hi]
      rcases (show i = 0 ∨ i = 1 ∨ i = 2 ∨ i = 3 ∨ i = 4 by omega) with r | r | r | r | r <;> subst r <;> exact m_isW (by decide) (by decide) rfl hs M.2.2.2.1
    have ss := soFar_step (tp := tp) (L := L) (p := p) (ws := wdOV) M.2.2.2.1.1 (by decide) hi
    unfold D_X11_readOrder_4b D_X11_readOrder_27
    rw [if_neg (show ¬ (5 : Int32) ≤ Int32.ofNat i from fun z => by have := (nat_le (a := 5) (b := i) (by decide) (by omega)).mp z; omega), s_gQ (r := 111) hs rfl rfl, Option.bind_some, jR hs (n := 5) rfl hi (by decide), Option.bind_some, o81 hs, Option.bind_some, wd, Option.bind_some]
    dsimp only
    rw [show Int32.ofNat i + 1 = Int32.ofNat (i + 1) from sc_add i 1]
    cases e : isW tp L p (wdOV.getD i []) with
    | false =>
      rw [e, if_neg (by decide)] at ss
      rw [if_pos (show b01 false = 0 from rfl), Option.bind_some]
      exact ⟨x, by rw [ss]; exact I, rfl⟩
    | true =>
      rw [e, if_pos rfl] at ss
      rw [if_neg (show ¬ b01 true = 0 by decide), Option.bind_some]
      exact ⟨_, by rw [ss]; rfl, rfl⟩
theorem m_ro_fail (M : MS0 tp L true h h p nM K Ka w) (e21 : fI h 81 21 = Int32.ofNat k) (hk : k ≤ 12) (c : wsIdx tp L p wdOV = none ∨ k = 12) : ∃ hM, D_X11_readOrder h (some 81) = some hM ∧ MX h hM p := by
  obtain ⟨h1, d1, o1, a1, b1⟩ := M.must0
  have t : ∀ x, D_X11_readOrder_53 h (some 81) x (some 81) = some h1 := fun x => by
    unfold D_X11_readOrder_53 D_X11_readOrder_54
    rw [o81 M.1, Option.bind_some, d1, Option.bind_some, s_gI o1.1 (ci := 11) rfl rfl, Option.bind_some, a1, if_neg one_ne]
  refine ⟨h1, ?_, o1.mono (by decide) (by decide), a1, b1⟩
  rw [m_acts M]
  unfold D_X11_readOrder_4b
  rw [if_pos (by decide)]
  cases e : wsIdx tp L p wdOV with
  | none => rw [if_pos (show enc none = -1 from rfl)]; exact t _
  | some v =>
    have hv := (wsIdx_lt e).1
    have k12 : k = 12 := by rcases c with z | z; rw [e] at z; cases z; exact z
    rw [if_neg (show ¬ enc (some v) = -1 from of_nm1 (by have : wdOV.length = 5 := rfl; omega)), s_gI M.1 (ci := 11) rfl rfl, Option.bind_some, e21, k12, if_pos (by decide)]
    exact t _
/-- a write into the orders' rows -/
theorem MS0.w112 (M : MS0 tp L true h h p nM K Ka w) {i : Nat} (hi : i < 96) (x : Int32) : ∃ h1, MS0 tp L true h1 h1 p nM K Ka w ∧ OnM LMc LMf h h1 ∧ fI h1 81 18 = fI h 81 18 ∧ fI h1 81 21 = fI h 81 21 ∧ aI h1 112 = upd (aI h 112) i x ∧ z_gQ 11 h (some 81) 51 = some (some 112) ∧ z_sI h (some 112) (Int32.ofNat i) x = some h1 :=
  ⟨_, M.wA (a := 112) rfl (by decide) (by decide) (by decide) _, onA M.1 rfl (by decide) _, fI_wA _ _ _ _, fI_wA _ _ _ _, aI_wA_eq M.1 rfl _, s_gQ M.1 rfl rfl, aW M.1 (n := 96) rfl hi (by decide) x⟩
theorem MX.w112 (M : MX h0 h q) {i : Nat} (hi : i < 96) (x : Int32) : ∃ h1, MX h0 h1 q ∧ z_gQ 11 h (some 81) 51 = some (some 112) ∧ z_sI h (some 112) (Int32.ofNat i) x = some h1 :=
  ⟨_, M.wr (a := 112) rfl (by decide) _, s_gQ M.1.1 rfl rfl, aW M.1.1 (n := 96) rfl hi (by decide) x⟩
theorem MS0.sz (M : MS0 tp L true h h p nM K Ka w) : z_gI 11 h (some 81) 23 = some (Int32.ofNat nM) := by rw [s_gI M.1 (ci := 11) rfl rfl, M.2.2.2.2.1]
theorem MX.sz (M : MX h0 h q) : z_gI 11 h (some 81) 23 = some (fI h 81 23) := s_gI M.1.1 (ci := 11) rfl rfl
theorem m_ro_ok (M : MS0 tp L true h h p nM K Ka w) (e21 : fI h 81 21 = Int32.ofNat k) (hk : k < 12) {v : Nat} (e : wsIdx tp L p wdOV = some v) : ∃ h1, MS0 tp L true h1 h1 (tkN tp L p) nM K Ka w ∧ OnM LMc LMf h h1 ∧ fI h1 81 18 = fI h 81 18 ∧ fI h1 81 21 = Int32.ofNat (k + 1) ∧ aI h1 112 (8 * k) = Int32.ofNat v ∧ (∀ i, 1 ≤ i → i < 8 → aI h1 112 (8 * k + i) = 0) ∧ (∀ i, i < 8 * k → aI h1 112 i = aI h 112 i) ∧ D_X11_readOrder h (some 81) = if v = 4 then D_X11_readOrder_125 h1 (some 81) (Int32.ofNat v) (Int32.ofNat (8 * k)) else (D_X11_readSum h1 (some 81) (Int32.ofNat (8 * k + 1))).bind fun x => D_X11_readOrder_125 x (some 81) (Int32.ofNat v) (Int32.ofNat (8 * k)) := by
  have hv : v < 5 := (wsIdx_lt e).1
  obtain ⟨ha, da, Ma0⟩ := M.must1
  obtain ⟨Ma, _, a112, oa, a18, a21⟩ := Ma0.st
  have Mb := Ma.w21 (Int32.ofNat (k + 1))
  have ob := onMF Ma.1 (k := 21) rfl (S := LMc) (ks := LMf) (by decide) (by decide) (Int32.ofNat (k + 1))
  have b21 : fI (wF ha 81 21 (.int (Int32.ofNat (k + 1)))) 81 21 = Int32.ofNat (k + 1) := fI_wF_eq Ma.1 rfl _
  have b18 : fI (wF ha 81 21 (.int (Int32.ofNat (k + 1)))) 81 18 = fI ha 81 18 := fI_wF_ne (by decide)
  have b112 : aI (wF ha 81 21 (.int (Int32.ofNat (k + 1)))) 112 = aI ha 112 := aI_wF _ _ _ _
  have wb := s_pV Ma.1 (a := 81) (ci := 11) (k := 21) rfl (by decide) (.int (Int32.ofNat (k + 1)))
  generalize wF ha 81 21 (.int (Int32.ofNat (k + 1))) = hb at *
  have lp := loop_up (S := z_H) (I := fun i x => MS0 tp L true x x (tkN tp L p) nM K Ka w ∧ OnM LMc LMf hb x ∧ fI x 81 18 = fI hb 81 18 ∧ fI x 81 21 = fI hb 81 21 ∧ (∀ j, j < i → aI x 112 (8 * k + j) = 0) ∧ ∀ j, j < 8 * k → aI x 112 j = aI hb 112 j) (F := fun m x i => D_X11_readOrder_85 m x (some 81) (Int32.ofNat v) (Int32.ofNat (8 * k)) (Int32.ofNat i)) (G := fun x => D_X11_readOrder_85b (fun _ _ _ _ _ => none) x (some 81) (Int32.ofNat v) (Int32.ofNat (8 * k)) 8) (N := 8) (fun m x _ => ?_) (fun m x i hi I => ?_) 8 0 z_F hb (by decide) (by decide) (by show _ < 1000000; decide) ⟨Mb, OnM.rfl' Mb.1, rfl, rfl, fun j hj => by omega, fun _ _ => rfl⟩
  · obtain ⟨hc, ⟨Mc, oc, c18, c21, c0, c112⟩, ec⟩ := lp
    obtain ⟨hd, Md, od, d18, d21, d112, q1, q2⟩ := Mc.w112 (i := 8 * k) (by omega) (Int32.ofNat v)
    refine ⟨hd, Md, oa.trans (ob.trans (oc.trans od)), by rw [d18, c18, b18, a18], by rw [d21, c21]; exact b21, by rw [d112, upd_eq], fun i u z => by rw [d112, upd_ne (by omega)]; exact c0 i z, fun i hi => by rw [d112, upd_ne (by omega), c112 i hi, b112, a112], ?_⟩
    rw [m_acts M, e]
    unfold D_X11_readOrder_4b D_X11_readOrder_54
    rw [if_pos (by decide), if_neg (show ¬ enc (some v) = -1 from of_nm1 (by omega)), s_gI M.1 (ci := 11) rfl rfl, Option.bind_some, e21, if_neg (show ¬ (12 : Int32) ≤ Int32.ofNat k from fun z => by have := (nat_le (a := 12) (by decide) (by omega)).mp z; omega), o81 M.1, Option.bind_some, da, Option.bind_some, Ma.bad, Option.bind_some, if_pos rfl, s_gI Ma.1 (ci := 11) rfl rfl, Option.bind_some, a21, e21, Option.bind_some, Option.bind_some, show (8 : Int32) * Int32.ofNat k = Int32.ofNat (8 * k) from (Int32.ofNat_mul 8 k).symm, show Int32.ofNat k + 1 = Int32.ofNat (k + 1) from sc_add k 1, wb, Option.bind_some]
    refine ec.trans ?_
    unfold D_X11_readOrder_85b
    rw [if_pos (by decide), q1, Option.bind_some, q2, Option.bind_some]
    by_cases z : v = 4
    · rw [if_pos (show Int32.ofNat v = 4 by rw [z]; rfl), if_pos z]
    · rw [if_neg (show ¬ Int32.ofNat v = 4 from fun y => z ((eq_lit (b := 4) (by omega) (by decide)).mp y)), if_neg z, o81 Md.1, Option.bind_some, show Int32.ofNat (8 * k) + 1 = Int32.ofNat (8 * k + 1) from sc_add _ 1]
  · show D_X11_readOrder_85b _ x (some 81) (Int32.ofNat v) (Int32.ofNat (8 * k)) (Int32.ofNat 8) = _
    unfold D_X11_readOrder_85b
    rw [if_pos (show (8 : Int32) ≤ Int32.ofNat 8 by decide), if_pos (show (8 : Int32) ≤ 8 by decide)]
  · show ∃ x', _ ∧ D_X11_readOrder_85b (D_X11_readOrder_85 m) x (some 81) (Int32.ofNat v) (Int32.ofNat (8 * k)) (Int32.ofNat i) = _
    obtain ⟨Mx, ox, x18, x21, x0, x112⟩ := I
    obtain ⟨hy, My, oy, y18, y21, y112, q1, q2⟩ := Mx.w112 (i := 8 * k + i) (by omega) 0
    refine ⟨hy, ⟨My, ox.trans oy, y18.trans x18, y21.trans x21, fun j hj => ?_, fun j hj => by rw [y112, upd_ne (by omega)]; exact x112 j hj⟩, ?_⟩
    · rw [y112]
      by_cases z : j = i
      · rw [z, upd_eq]
      · rw [upd_ne (by omega)]; exact x0 j (by omega)
    unfold D_X11_readOrder_85b
    rw [if_neg (show ¬ (8 : Int32) ≤ Int32.ofNat i from fun z => by have := (nat_le (a := 8) (by decide) (by omega)).mp z; omega), q1, Option.bind_some, sc_add, q2, Option.bind_some, Option.bind_some, show Int32.ofNat i + 1 = Int32.ofNat (i + 1) from sc_add i 1]
/-! readSum of the reference -/
theorem m_rs (M : MS0 tp L true h h p nM K Ka w) {i : Nat} (hi : i + 1 < 96) : ∃ h1, MS0 tp L true h1 h1 p nM K Ka w ∧ OnM LMc LMf h h1 ∧ fI h1 81 18 = fI h 81 18 ∧ fI h1 81 21 = fI h 81 21 ∧ aI h1 112 = upd (aI h 112) i (Int32.ofNat nM) ∧ D_X11_readSum h (some 81) (Int32.ofNat i) = (D_X11_readExpression h1 (some 81) 0).bind fun x => D_X11_readSum_22 x (some 81) (Int32.ofNat i) := by
  obtain ⟨h1, M1, o1, a18, a21, a112, q1, q2⟩ := M.w112 (i := i) (by omega) (Int32.ofNat nM)
  refine ⟨h1, M1, o1, a18, a21, a112, ?_⟩
  unfold D_X11_readSum
  rw [q1, Option.bind_some, M.sz, Option.bind_some, q2, Option.bind_some, M1.bad, Option.bind_some, if_pos rfl, o81 M1.1, Option.bind_some]
theorem m_rs_22 (M : MS0 tp L true h h p nM K Ka w) {i : Nat} (hi : i + 1 < 96) : ∃ h1, MS0 tp L true h1 h1 p nM K Ka w ∧ OnM LMc LMf h h1 ∧ fI h1 81 18 = fI h 81 18 ∧ fI h1 81 21 = fI h 81 21 ∧ aI h1 112 = upd (aI h 112) (i + 1) (Int32.ofNat nM) ∧ D_X11_readSum_22 h (some 81) (Int32.ofNat i) = some h1 := by
  obtain ⟨h1, M1, o1, a18, a21, a112, q1, q2⟩ := M.w112 (i := i + 1) hi (Int32.ofNat nM)
  refine ⟨h1, M1, o1, a18, a21, a112, ?_⟩
  unfold D_X11_readSum_22
  rw [q1, Option.bind_some, M.sz, Option.bind_some, show Int32.ofNat i + 1 = Int32.ofNat (i + 1) from sc_add i 1, q2, Option.bind_some]
theorem m_rs_22F (M : MX h0 h q) {i : Nat} (hi : i + 1 < 96) : ∃ h1, MX h0 h1 q ∧ D_X11_readSum_22 h (some 81) (Int32.ofNat i) = some h1 := by
  obtain ⟨h1, M1, q1, q2⟩ := M.w112 (i := i + 1) hi (fI h 81 23)
  refine ⟨h1, M1, ?_⟩
  unfold D_X11_readSum_22
  rw [q1, Option.bind_some, M.sz, Option.bind_some, show Int32.ofNat i + 1 = Int32.ofNat (i + 1) from sc_add i 1, q2, Option.bind_some]
theorem m_rsF (M : MX h0 h q) {i : Nat} (hi : i + 1 < 96) : ∃ h1, MX h0 h1 q ∧ D_X11_readSum h (some 81) (Int32.ofNat i) = some h1 := by
  obtain ⟨h1, M1, q1, q2⟩ := M.w112 (i := i) (by omega) (fI h 81 23)
  obtain ⟨h2, M2, d2⟩ := m_rs_22F M1 hi
  refine ⟨h2, M2, ?_⟩
  unfold D_X11_readSum
  rw [q1, Option.bind_some, M.sz, Option.bind_some, q2, Option.bind_some, M1.bad, Option.bind_some, if_neg one_ne]
  exact d2
/-! the order's end, where it has failed -/
theorem m_257F (M : MX h0 h q) (hk : k < 12) : ∃ h1, MX h0 h1 q ∧ D_X11_readOrder_257 h (some 81) (Int32.ofNat (8 * k)) = some h1 := by
  obtain ⟨h1, M1, q1, q2⟩ := M.w112 (i := 8 * k + 6) (by omega) (fI h 81 23)
  refine ⟨h1, M1, ?_⟩
  unfold D_X11_readOrder_257
  rw [q1, Option.bind_some, M.sz, Option.bind_some, show Int32.ofNat (8 * k) + 6 = Int32.ofNat (8 * k + 6) from sc_add _ 6, q2, Option.bind_some]
theorem m_219F (M : MX h0 h q) (hk : k < 12) : ∃ h1, MX h0 h1 q ∧ D_X11_readOrder_219 h (some 81) (Int32.ofNat (8 * k)) = some h1 := by
  obtain ⟨h1, M1, q1, q2⟩ := M.w112 (i := 8 * k + 5) (by omega) (fI h 81 23)
  obtain ⟨h2, M2, d2⟩ := m_257F M1 hk
  refine ⟨h2, M2, ?_⟩
  unfold D_X11_readOrder_219
  rw [q1, Option.bind_some, M.sz, Option.bind_some, show Int32.ofNat (8 * k) + 5 = Int32.ofNat (8 * k + 5) from sc_add _ 5, q2, Option.bind_some, M1.bad, Option.bind_some, if_neg one_ne]
  exact d2
theorem m_171F (M : MX h0 h q) (hk : k < 12) : ∃ h1, MX h0 h1 q ∧ D_X11_readOrder_171 h (some 81) (Int32.ofNat (8 * k)) = some h1 := by
  obtain ⟨h1, M1, q1, q2⟩ := M.w112 (i := 8 * k + 7) (by omega) 1
  obtain ⟨h2, M2, d2⟩ := m_219F M1 hk
  refine ⟨h2, M2, ?_⟩
  unfold D_X11_readOrder_171
  rw [q1, Option.bind_some, show Int32.ofNat (8 * k) + 7 = Int32.ofNat (8 * k + 7) from sc_add _ 7, q2, Option.bind_some, M1.bad, Option.bind_some, if_neg one_ne]
  exact d2
theorem m_164F (M : MX h0 h q) (hk : k < 12) : ∃ h1, MX h0 h1 q ∧ D_X11_readOrder_164 h (some 81) (Int32.ofNat (8 * k)) = some h1 := by
  obtain ⟨h1, M1, d1⟩ := m_rsF M (i := 8 * k + 3) (by omega)
  obtain ⟨h2, M2, d2⟩ := m_171F M1 hk
  refine ⟨h2, M2, ?_⟩
  unfold D_X11_readOrder_164
  rw [o81 M.1.1, Option.bind_some, show Int32.ofNat (8 * k) + 3 = Int32.ofNat (8 * k + 3) from sc_add _ 3, d1, Option.bind_some]
  exact d2
theorem m_125F (M : MX h0 h q) (hk : k < 12) (v : Int32) : ∃ h1, MX h0 h1 q ∧ D_X11_readOrder_125 h (some 81) v (Int32.ofNat (8 * k)) = some h1 := by
  obtain ⟨h2, M2, d2⟩ := m_164F M hk
  obtain ⟨h3, M3, d3⟩ := m_171F M hk
  have t : D_X11_readOrder_135 h (some 81) v (Int32.ofNat (8 * k)) = some h2 := by
    unfold D_X11_readOrder_135
    rw [M.bad, Option.bind_some, if_neg one_ne]; exact d2
  unfold D_X11_readOrder_125
  by_cases c1 : v = 1
  · exact ⟨h2, M2, by rw [if_pos c1]; exact t⟩
  · by_cases c2 : v = 3
    · exact ⟨h2, M2, by rw [if_neg c1, if_pos c2]; exact t⟩
    · exact ⟨h3, M3, by rw [if_neg c1, if_neg c2]; exact d3⟩
end H0
