/-! both readers: a CLAUSE of a LAW -/
section F6
variable {tp : Nat → Nat} {L : Nat} {ord : Bool} {g0 g h0 h : z_H} {p n nM w q k : Nat} {op ar K Ka : Nat → Int32}
theorem c_rc_fail (C : CSt tp L false g g p n op ar w) (e : wsIdx tp L p wdLV = none) (x : Int32) : ∃ gC, D_X5_readClause g (some 23) x = some (0, gC) ∧ CFl L g gC p := by
  obtain ⟨g1, d1, F1⟩ := C.fail
  refine ⟨g1, ?_, F1⟩
  unfold D_X5_readClause D_X5_readClause_15
  rw [s_gI C.1 (ci := 5) rfl rfl, Option.bind_some, C.2.2.2.2.2.2.2.2.1, if_pos (show b01 false = 0 from rfl), o23 C.1, Option.bind_some, C.lv, e, Option.bind_some]
  dsimp only
  rw [if_pos (show enc none = -1 from rfl), o23 C.1, Option.bind_some, d1, Option.bind_some]
  rfl
theorem xs3 {v : Nat} (hv : v < 8) : z_xI (z_xs 3) (Int32.ofNat v) = some ([1, 2, 1, 2, 0, 1, 1, 0].getD v 0) := by
  rcases (show v = 0 ∨ v = 1 ∨ v = 2 ∨ v = 3 ∨ v = 4 ∨ v = 5 ∨ v = 6 ∨ v = 7 by omega) with r | r | r | r | r | r | r | r <;> subst r <;> rfl
/-- verb, times and start are set -/
theorem c_rc_39 (C : CSt tp L ord g g p n op ar w) (hk : k < 12) {v : Nat} (hv : v < 8) : ∃ g1, CSt tp L ord g1 g1 (tkN tp L p) n op ar w ∧ Tch LC g g1 ∧ fI g1 23 3 = fI g 23 3 ∧ fI g1 25 4 = fI g 25 4 ∧ aI g1 28 = upd (upd (upd (aI g 28) (6 * k) (Int32.ofNat v)) (6 * k + 1) 1) (6 * k + 2) (Int32.ofNat n) ∧ D_X5_readClause_39 g (some 23) (Int32.ofNat k) (Int32.ofNat v) = if [1, 2, 1, 2, 0, 1, 1, 0].getD v 0 ≤ (0 : Int32) then D_X5_readClause_97 g1 (some 23) (Int32.ofNat k) (Int32.ofNat v) else (D_X5_readSum 12 g1 (some 23) 0).bind fun x => if x.1 = 0 then some (0, x.2) else D_X5_readClause_97 x.2 (some 23) (Int32.ofNat k) (Int32.ofNat v) := by
  obtain ⟨ga, da, Ca0⟩ := C.next
  obtain ⟨Ca, a28, Ta, e3a, e4a⟩ := Ca0.st
  have C1 := Ca.w28 (upd (aI ga 28) (6 * k) (Int32.ofNat v))
  have e1 : aI (wA ga 28 (upd (aI ga 28) (6 * k) (Int32.ofNat v))) 28 = upd (aI ga 28) (6 * k) (Int32.ofNat v) := aI_wA_eq Ca.1 rfl _
  have d1 := d_set Ca.1 (c := k) (k := 0) (by omega) (Int32.ofNat v)
  have T1 : Tch LC ga (wA ga 28 (upd (aI ga 28) (6 * k) (Int32.ofNat v))) := Tch_wA (Tch_rfl _ _) (by decide) _
  have q1 : fI (wA ga 28 (upd (aI ga 28) (6 * k) (Int32.ofNat v))) 23 3 = fI ga 23 3 := fI_wA _ _ _ _
  have q1' : fI (wA ga 28 (upd (aI ga 28) (6 * k) (Int32.ofNat v))) 25 4 = fI ga 25 4 := fI_wA _ _ _ _
  rw [Nat.add_zero] at d1
  generalize wA ga 28 (upd (aI ga 28) (6 * k) (Int32.ofNat v)) = gb at *
  have C2 := C1.w28 (upd (aI gb 28) (6 * k + 1) 1)
  have e2 : aI (wA gb 28 (upd (aI gb 28) (6 * k + 1) 1)) 28 = upd (aI gb 28) (6 * k + 1) 1 := aI_wA_eq C1.1 rfl _
  have d2 := d_set C1.1 (c := k) (k := 1) (by omega) 1
  have T2 : Tch LC gb (wA gb 28 (upd (aI gb 28) (6 * k + 1) 1)) := Tch_wA (Tch_rfl _ _) (by decide) _
  have q2 : fI (wA gb 28 (upd (aI gb 28) (6 * k + 1) 1)) 23 3 = fI gb 23 3 := fI_wA _ _ _ _
  have q2' : fI (wA gb 28 (upd (aI gb 28) (6 * k + 1) 1)) 25 4 = fI gb 25 4 := fI_wA _ _ _ _
  generalize wA gb 28 (upd (aI gb 28) (6 * k + 1) 1) = gc at *
  have C3 := C2.w28 (upd (aI gc 28) (6 * k + 2) (Int32.ofNat n))
  have e3 : aI (wA gc 28 (upd (aI gc 28) (6 * k + 2) (Int32.ofNat n))) 28 = upd (aI gc 28) (6 * k + 2) (Int32.ofNat n) := aI_wA_eq C2.1 rfl _
  have d3 := d_set C2.1 (c := k) (k := 2) (by omega) (Int32.ofNat n)
  have T3 : Tch LC gc (wA gc 28 (upd (aI gc 28) (6 * k + 2) (Int32.ofNat n))) := Tch_wA (Tch_rfl _ _) (by decide) _
  have q3 : fI (wA gc 28 (upd (aI gc 28) (6 * k + 2) (Int32.ofNat n))) 23 3 = fI gc 23 3 := fI_wA _ _ _ _
  have q3' : fI (wA gc 28 (upd (aI gc 28) (6 * k + 2) (Int32.ofNat n))) 25 4 = fI gc 25 4 := fI_wA _ _ _ _
  generalize wA gc 28 (upd (aI gc 28) (6 * k + 2) (Int32.ofNat n)) = gd at *
  refine ⟨gd, C3, Ta.trans (T1.trans (T2.trans T3)), by rw [q3, q2, q1]; exact e3a, by rw [q3', q2', q1']; exact e4a, by rw [e3, e2, e1, a28], ?_⟩
  unfold D_X5_readClause_39
  rw [o23 C.1, Option.bind_some, da, Option.bind_some, q25 Ca.1, Option.bind_some, o25 Ca.1, Option.bind_some, show D_X7_set ga (some 25) (Int32.ofNat k) 0 (Int32.ofNat v) = some gb from d1, Option.bind_some, q25 C1.1, Option.bind_some, o25 C1.1, Option.bind_some, show D_X7_set gb (some 25) (Int32.ofNat k) 1 1 = some gc from d2, Option.bind_some, q25 C2.1, Option.bind_some, Option.bind_some, C2.size, Option.bind_some, o25 C2.1, Option.bind_some, show D_X7_set gc (some 25) (Int32.ofNat k) 2 (Int32.ofNat n) = some gd from d3, Option.bind_some, xs3 hv, Option.bind_some]
  by_cases c : [1, 2, 1, 2, 0, 1, 1, 0].getD v 0 ≤ (0 : Int32)
  · rw [if_pos c, if_pos c]
  · rw [if_neg c, if_neg c, o23 C3.1, Option.bind_some]
/-- an end is set -/
theorem c_rc_w (C : CSt tp L ord g g p n op ar w) (hk : k < 12) {j : Nat} (hj : j < 6) : ∃ g1, CSt tp L ord g1 g1 p n op ar w ∧ Tch LC g g1 ∧ fI g1 23 3 = fI g 23 3 ∧ fI g1 25 4 = fI g 25 4 ∧ aI g1 28 = upd (aI g 28) (6 * k + j) (Int32.ofNat n) ∧ D_X7_set g (some 25) (Int32.ofNat k) (Int32.ofNat j) (Int32.ofNat n) = some g1 :=
  ⟨_, C.w28 _, Tch_wA (Tch_rfl _ _) (by decide) _, fI_wA _ _ _ _, fI_wA _ _ _ _, aI_wA_eq C.1 rfl _, d_set C.1 (by omega) _⟩
theorem c_rc_216 (C : CSt tp L ord g g p n op ar w) (hk : k < 12) : ∃ g1, CSt tp L ord g1 g1 p n op ar w ∧ Tch LC g g1 ∧ fI g1 23 3 = fI g 23 3 ∧ fI g1 25 4 = fI g 25 4 ∧ aI g1 28 = upd (aI g 28) (6 * k + 5) (Int32.ofNat n) ∧ D_X5_readClause_216 g (some 23) (Int32.ofNat k) = some (1, g1) := by
  obtain ⟨g1, C1, T1, a, b, c, d⟩ := c_rc_w C hk (j := 5) (by decide)
  refine ⟨g1, C1, T1, a, b, c, ?_⟩
  unfold D_X5_readClause_216
  rw [q25 C.1, Option.bind_some, Option.bind_some, C.size, Option.bind_some, o25 C.1, Option.bind_some, show D_X7_set g (some 25) (Int32.ofNat k) 5 (Int32.ofNat n) = some g1 from d, Option.bind_some]
/-- of a law: behind its SUM -/
theorem c_rc_97 (C : CSt tp L false g g p n op ar w) (hk : k < 12) {v : Nat} (hv : v < 3) : ∃ g1, CSt tp L false g1 g1 p n op ar w ∧ Tch LC g g1 ∧ fI g1 23 3 = fI g 23 3 ∧ fI g1 25 4 = fI g 25 4 ∧ aI g1 28 = upd (upd (aI g 28) (6 * k + 3) (Int32.ofNat n)) (6 * k + 4) (Int32.ofNat n) ∧ D_X5_readClause_97 g (some 23) (Int32.ofNat k) (Int32.ofNat (v + 5)) = D_X5_readClause_193 g1 (some 23) (Int32.ofNat k) := by
  obtain ⟨g1, C1, T1, a1, b1, c1, d1⟩ := c_rc_w C hk (j := 3) (by decide)
  obtain ⟨g2, C2, T2, a2, b2, c2, d2⟩ := c_rc_w C1 hk (j := 4) (by decide)
  refine ⟨g2, C2, T1.trans T2, a2.trans a1, b2.trans b1, by rw [c2, c1], ?_⟩
  have x3 : [1, 2, 1, 2, 0, 1, 1, 0].getD (v + 5) 0 ≤ (1 : Int32) := by
    rcases (show v = 0 ∨ v = 1 ∨ v = 2 by omega) with r | r | r <;> subst r <;> decide
  unfold D_X5_readClause_97 D_X5_readClause_151
  rw [q25 C.1, Option.bind_some, Option.bind_some, C.size, Option.bind_some, o25 C.1, Option.bind_some, show D_X7_set g (some 25) (Int32.ofNat k) 3 (Int32.ofNat n) = some g1 from d1, Option.bind_some, xs3 (by omega), Option.bind_some, if_pos x3, q25 C1.1, Option.bind_some, Option.bind_some, C1.size, Option.bind_some, o25 C1.1, Option.bind_some, show D_X7_set g1 (some 25) (Int32.ofNat k) 4 (Int32.ofNat n) = some g2 from d2, Option.bind_some, s_gI C2.1 (ci := 5) rfl rfl, Option.bind_some, C2.2.2.2.2.2.2.2.2.1, if_pos (show b01 false = 0 from rfl)]
/-! the reference -/
theorem m_heads (M : MS0 tp L ord h h p nM K Ka w) : D_X11_readLaw h (some 81) = D_X11_readLaw_4b (fun _ _ _ _ => none) h (some 81) (enc (wsIdx tp L p wdLV)) 3 := by
  have hs := M.1
  have cn := M.2.2.2.2.2.2.2.2.2.2.1.2.2.1
  have lp := loop_up (S := Int32) (I := fun i x => x = enc (soFar (wsIdx tp L p wdLV) i)) (F := fun m x i => D_X11_readLaw_4 m h (some 81) x (Int32.ofNat i)) (G := fun x => D_X11_readLaw_4b (fun _ _ _ _ => none) h (some 81) x 3) (N := 3) (fun m x _ => ?_) (fun m x i hi I => ?_) 3 0 z_F (-1) (by decide) (by decide) (by show _ < 1000000; decide) (by cases wsIdx tp L p wdLV <;> rfl)
  · obtain ⟨x, I, e⟩ := lp
    refine e.trans ?_
    rw [I, show soFar (wsIdx tp L p wdLV) 3 = wsIdx tp L p wdLV from soFar_all (ws := wdLV)]
  · show D_X11_readLaw_4b _ h (some 81) x (Int32.ofNat 3) = _
    unfold D_X11_readLaw_4b
    rw [if_pos (show (3 : Int32) ≤ Int32.ofNat 3 by decide), if_pos (show (3 : Int32) ≤ 3 by decide)]
  · show ∃ x', _ ∧ D_X11_readLaw_4b (D_X11_readLaw_4 m) h (some 81) x (Int32.ofNat i) = _
    have wd : D_X11_isWord h (some 81) (aJ h 98 i) = some (b01 (isW tp L p (wdLV.getD i [])), h) := by
      rw [cn i hi]
      rcases (show i = 0 ∨ i = 1 ∨ i = 2 by omega) with r | r | r <;> subst r <;> exact m_isW (by decide) (by decide) rfl hs M.2.2.2.1
    have ss := soFar_step (tp := tp) (L := L) (p := p) (ws := wdLV) M.2.2.2.1.1 (by decide) hi
    unfold D_X11_readLaw_4b D_X11_readLaw_27
    rw [if_neg (show ¬ (3 : Int32) ≤ Int32.ofNat i from fun z => by have := (nat_le (a := 3) (b := i) (by decide) (by omega)).mp z; omega), s_gQ (r := 98) hs rfl rfl, Option.bind_some, jR hs (n := 3) rfl hi (by decide), Option.bind_some, o81 hs, Option.bind_some, wd, Option.bind_some]
    dsimp only
    rw [show Int32.ofNat i + 1 = Int32.ofNat (i + 1) from sc_add i 1]
    cases e : isW tp L p (wdLV.getD i []) with
    | false =>
      rw [e, if_neg (by decide)] at ss
      rw [if_pos (show b01 false = 0 from rfl), Option.bind_some]
      exact ⟨x, by rw [ss]; exact I, rfl⟩
    | true =>
      rw [e, if_pos rfl] at ss
      rw [if_neg (show ¬ b01 true = 0 by decide), Option.bind_some]
      exact ⟨_, by rw [ss]; rfl, rfl⟩
theorem m_rl_fail (M : MS0 tp L ord h h p nM K Ka w) (e21 : fI h 81 21 = Int32.ofNat k) (hk : k ≤ 12) (c : wsIdx tp L p wdLV = none ∨ k = 12) : ∃ hM, D_X11_readLaw h (some 81) = some hM ∧ MX h hM p := by
  obtain ⟨h1, d1, o1, a1, b1⟩ := M.must0
  have t : ∀ x, D_X11_readLaw_53 h (some 81) x (some 81) = some h1 := fun x => by
    unfold D_X11_readLaw_53 D_X11_readLaw_54
    rw [o81 M.1, Option.bind_some, d1, Option.bind_some, s_gI o1.1 (ci := 11) rfl rfl, Option.bind_some, a1, if_neg one_ne]
  refine ⟨h1, ?_, o1.mono (by decide) (by decide), a1, b1⟩
  rw [m_heads M]
  unfold D_X11_readLaw_4b
  rw [if_pos (by decide)]
  cases e : wsIdx tp L p wdLV with
  | none => rw [if_pos (show enc none = -1 from rfl)]; exact t _
  | some v =>
    have hv := (wsIdx_lt e).1
    have k12 : k = 12 := by rcases c with z | z; rw [e] at z; cases z; exact z
    rw [if_neg (show ¬ enc (some v) = -1 from of_nm1 (by have : wdLV.length = 3 := rfl; omega)), s_gI M.1 (ci := 11) rfl rfl, Option.bind_some, e21, k12, if_pos (by decide)]
    exact t _
/-- the reference's row of a clause is made -/
theorem m_rl_ok (M : MS0 tp L ord h h p nM K Ka w) (e21 : fI h 81 21 = Int32.ofNat k) (hk : k < 12) {v : Nat} (e : wsIdx tp L p wdLV = some v) : ∃ h1, MS0 tp L ord h1 h1 (tkN tp L p) nM K Ka w ∧ OnM LMc LMf h h1 ∧ fI h1 81 18 = fI h 81 18 ∧ fI h1 81 21 = Int32.ofNat (k + 1) ∧ aI h1 91 (8 * k) = Int32.ofNat v ∧ aI h1 91 (8 * k + 3) = Int32.ofNat nM ∧ (∀ i, i < 8 * k → aI h1 91 i = aI h 91 i) ∧ D_X11_readLaw h (some 81) = if v = 2 then D_X11_readLaw_135 h1 (some 81) (Int32.ofNat (8 * k)) else (D_X11_readExpression h1 (some 81) 0).bind fun x => D_X11_readLaw_135 x (some 81) (Int32.ofNat (8 * k)) := by
  have hv : v < 3 := (wsIdx_lt e).1
  obtain ⟨ha, da, Ma0⟩ := M.must1
  obtain ⟨Ma, a91, a112, oa, a18, a21⟩ := Ma0.st
  have lp := loop_up (S := z_H) (I := fun i x => MS0 tp L ord x x (tkN tp L p) nM K Ka w ∧ OnM LMc LMf ha x ∧ fI x 81 18 = fI ha 81 18 ∧ fI x 81 21 = fI ha 81 21 ∧ ∀ j, j < 8 * k → aI x 91 j = aI ha 91 j) (F := fun m x i => D_X11_readLaw_75 m x (some 81) (Int32.ofNat v) (Int32.ofNat (8 * k)) (Int32.ofNat i)) (G := fun x => D_X11_readLaw_75b (fun _ _ _ _ _ => none) x (some 81) (Int32.ofNat v) (Int32.ofNat (8 * k)) 8) (N := 8) (fun m x _ => ?_) (fun m x i hi I => ?_) 8 0 z_F ha (by decide) (by decide) (by show _ < 1000000; decide) ⟨Ma, OnM.rfl' Ma.1, rfl, rfl, fun _ _ => rfl⟩
  · obtain ⟨hb, ⟨Mb, ob, b18, b21, b91⟩, eb⟩ := lp
    have Mc := Mb.wA (a := 91) rfl (by decide) (by decide) (by decide) (upd (aI hb 91) (8 * k) (Int32.ofNat v))
    have oc := onA Mb.1 (a := 91) (S := LMc) (ks := LMf) rfl (by decide) (upd (aI hb 91) (8 * k) (Int32.ofNat v))
    have c91 : aI (wA hb 91 (upd (aI hb 91) (8 * k) (Int32.ofNat v))) 91 = upd (aI hb 91) (8 * k) (Int32.ofNat v) := aI_wA_eq Mb.1 rfl _
    have c18 : fI (wA hb 91 (upd (aI hb 91) (8 * k) (Int32.ofNat v))) 81 18 = fI hb 81 18 := fI_wA _ _ _ _
    have c21 : fI (wA hb 91 (upd (aI hb 91) (8 * k) (Int32.ofNat v))) 81 21 = Int32.ofNat k := by rw [fI_wA, b21, a21, e21]
    have wc := aW Mb.1 (a := 91) (n := 96) rfl (show 8 * k < 96 by omega) (by decide) (Int32.ofNat v)
    generalize wA hb 91 (upd (aI hb 91) (8 * k) (Int32.ofNat v)) = hc at *
    have Md := Mc.w21 (Int32.ofNat (k + 1))
    have od := onMF Mc.1 (k := 21) rfl (S := LMc) (ks := LMf) (by decide) (by decide) (Int32.ofNat (k + 1))
    have d21 : fI (wF hc 81 21 (.int (Int32.ofNat (k + 1)))) 81 21 = Int32.ofNat (k + 1) := fI_wF_eq Mc.1 rfl _
    have d18 : fI (wF hc 81 21 (.int (Int32.ofNat (k + 1)))) 81 18 = fI hc 81 18 := fI_wF_ne (by decide)
    have d91 : aI (wF hc 81 21 (.int (Int32.ofNat (k + 1)))) 91 = aI hc 91 := aI_wF _ _ _ _
    have wdd := s_pV Mc.1 (a := 81) (ci := 11) (k := 21) rfl (by decide) (.int (Int32.ofNat (k + 1)))
    generalize wF hc 81 21 (.int (Int32.ofNat (k + 1))) = hd at *
    have Me := Md.wA (a := 91) rfl (by decide) (by decide) (by decide) (upd (aI hd 91) (8 * k + 3) (Int32.ofNat nM))
    have oe := onA Md.1 (a := 91) (S := LMc) (ks := LMf) rfl (by decide) (upd (aI hd 91) (8 * k + 3) (Int32.ofNat nM))
    have ee91 : aI (wA hd 91 (upd (aI hd 91) (8 * k + 3) (Int32.ofNat nM))) 91 = upd (aI hd 91) (8 * k + 3) (Int32.ofNat nM) := aI_wA_eq Md.1 rfl _
    have we := aW Md.1 (a := 91) (n := 96) rfl (show 8 * k + 3 < 96 by omega) (by decide) (Int32.ofNat nM)
    refine ⟨_, Me, oa.trans (ob.trans (oc.trans (od.trans oe))), by rw [fI_wA, d18, c18, b18, a18], by rw [fI_wA]; exact d21, by rw [ee91, upd_ne (by omega), d91, c91, upd_eq], by rw [ee91, upd_eq], fun i hi => by rw [ee91, upd_ne (by omega), d91, c91, upd_ne (by omega), b91 i hi, a91], ?_⟩
    rw [m_heads M, e]
    unfold D_X11_readLaw_4b D_X11_readLaw_54
    rw [if_pos (by decide), if_neg (show ¬ enc (some v) = -1 from of_nm1 (by omega)), s_gI M.1 (ci := 11) rfl rfl, Option.bind_some, e21, if_neg (show ¬ (12 : Int32) ≤ Int32.ofNat k from fun z => by have := (nat_le (a := 12) (by decide) (by omega)).mp z; omega), o81 M.1, Option.bind_some, da, Option.bind_some, Ma.bad, Option.bind_some, if_pos rfl, s_gI Ma.1 (ci := 11) rfl rfl, Option.bind_some, a21, e21, Option.bind_some, show (8 : Int32) * Int32.ofNat k = Int32.ofNat (8 * k) from (Int32.ofNat_mul 8 k).symm]
    refine eb.trans ?_
    unfold D_X11_readLaw_75b
    rw [if_pos (by decide), s_gQ (r := 91) Mb.1 rfl rfl, Option.bind_some, wc, Option.bind_some, s_gI Mc.1 (ci := 11) rfl rfl, Option.bind_some, c21, show Int32.ofNat k + 1 = Int32.ofNat (k + 1) from sc_add k 1, wdd, Option.bind_some, s_gQ (r := 91) Md.1 rfl rfl, Option.bind_some, s_gI Md.1 (ci := 11) rfl rfl, Option.bind_some, Md.2.2.2.2.1, show Int32.ofNat (8 * k) + 3 = Int32.ofNat (8 * k + 3) from sc_add _ 3, we, Option.bind_some]
    by_cases z : v = 2
    · rw [if_pos (show Int32.ofNat v = 2 by rw [z]; rfl), if_pos z]
    · rw [if_neg (show ¬ Int32.ofNat v = 2 from fun y => z ((eq_lit (b := 2) (by omega) (by decide)).mp y)), if_neg z, o81 Me.1, Option.bind_some]
  · show D_X11_readLaw_75b _ x (some 81) (Int32.ofNat v) (Int32.ofNat (8 * k)) (Int32.ofNat 8) = _
    unfold D_X11_readLaw_75b
    rw [if_pos (show (8 : Int32) ≤ Int32.ofNat 8 by decide), if_pos (show (8 : Int32) ≤ 8 by decide)]
  · show ∃ x', _ ∧ D_X11_readLaw_75b (D_X11_readLaw_75 m) x (some 81) (Int32.ofNat v) (Int32.ofNat (8 * k)) (Int32.ofNat i) = _
    obtain ⟨Mx, ox, x18, x21, x91⟩ := I
    refine ⟨wA x 91 (upd (aI x 91) (8 * k + i) 0), ⟨Mx.wA rfl (by decide) (by decide) (by decide) _, ox.trans (onA Mx.1 rfl (by decide) _), by rw [fI_wA]; exact x18, by rw [fI_wA]; exact x21, fun j hj => by rw [aI_wA_eq Mx.1 rfl, upd_ne (by omega)]; exact x91 j hj⟩, ?_⟩
    unfold D_X11_readLaw_75b
    rw [if_neg (show ¬ (8 : Int32) ≤ Int32.ofNat i from fun z => by have := (nat_le (a := 8) (by decide) (by omega)).mp z; omega), s_gQ (r := 91) Mx.1 rfl rfl, Option.bind_some, sc_add, aW Mx.1 (n := 96) rfl (by omega) (by decide), Option.bind_some, Option.bind_some, show Int32.ofNat i + 1 = Int32.ofNat (i + 1) from sc_add i 1]
theorem m_rl_135 (M : MS0 tp L ord h h p nM K Ka w) (hk : k < 12) : ∃ h1, MS0 tp L ord h1 h1 p nM K Ka w ∧ OnM LMc LMf h h1 ∧ fI h1 81 18 = fI h 81 18 ∧ fI h1 81 21 = fI h 81 21 ∧ aI h1 91 = upd (upd (aI h 91) (8 * k + 4) (Int32.ofNat nM)) (8 * k + 5) (Int32.ofNat nM) ∧ D_X11_readLaw_135 h (some 81) (Int32.ofNat (8 * k)) = if isW tp L p wdIf = true then (D_X11_next h1 (some 81)).bind fun x => (z_ob 11 x (some 81)).bind fun _ => (D_X11_readExpression x (some 81) 1).bind fun y => D_X11_readLaw_185 y (some 81) (Int32.ofNat (8 * k)) else D_X11_readLaw_185 h1 (some 81) (Int32.ofNat (8 * k)) := by
  have Ma := M.wA (a := 91) rfl (by decide) (by decide) (by decide) (upd (aI h 91) (8 * k + 4) (Int32.ofNat nM))
  have oa := onA M.1 (a := 91) (S := LMc) (ks := LMf) rfl (by decide) (upd (aI h 91) (8 * k + 4) (Int32.ofNat nM))
  have a91 : aI (wA h 91 (upd (aI h 91) (8 * k + 4) (Int32.ofNat nM))) 91 = upd (aI h 91) (8 * k + 4) (Int32.ofNat nM) := aI_wA_eq M.1 rfl _
  have af : ∀ j, fI (wA h 91 (upd (aI h 91) (8 * k + 4) (Int32.ofNat nM))) 81 j = fI h 81 j := fun j => fI_wA _ _ _ _
  have wa := aW M.1 (a := 91) (n := 96) rfl (show 8 * k + 4 < 96 by omega) (by decide) (Int32.ofNat nM)
  generalize wA h 91 (upd (aI h 91) (8 * k + 4) (Int32.ofNat nM)) = ha at *
  have Mb := Ma.wA (a := 91) rfl (by decide) (by decide) (by decide) (upd (aI ha 91) (8 * k + 5) (Int32.ofNat nM))
  have ob := onA Ma.1 (a := 91) (S := LMc) (ks := LMf) rfl (by decide) (upd (aI ha 91) (8 * k + 5) (Int32.ofNat nM))
  have b91 : aI (wA ha 91 (upd (aI ha 91) (8 * k + 5) (Int32.ofNat nM))) 91 = upd (aI ha 91) (8 * k + 5) (Int32.ofNat nM) := aI_wA_eq Ma.1 rfl _
  have wb := aW Ma.1 (a := 91) (n := 96) rfl (show 8 * k + 5 < 96 by omega) (by decide) (Int32.ofNat nM)
  have wi := Mb.wd (v := wdIf) (x := 294) (by decide) (by decide) rfl
  refine ⟨_, Mb, oa.trans ob, by rw [fI_wA, af], by rw [fI_wA, af], by rw [b91, a91], ?_⟩
  unfold D_X11_readLaw_135
  rw [s_gQ (r := 91) M.1 rfl rfl, Option.bind_some, s_gI M.1 (ci := 11) rfl rfl, Option.bind_some, M.2.2.2.2.1, show Int32.ofNat (8 * k) + 4 = Int32.ofNat (8 * k + 4) from sc_add _ 4, wa, Option.bind_some, s_gQ (r := 91) Ma.1 rfl rfl, Option.bind_some, s_gI Ma.1 (ci := 11) rfl rfl, Option.bind_some, Ma.2.2.2.2.1, show Int32.ofNat (8 * k) + 5 = Int32.ofNat (8 * k + 5) from sc_add _ 5, wb, Option.bind_some, Mb.bad, Option.bind_some, if_pos rfl, o81 Mb.1, Option.bind_some, wi, Option.bind_some]
  dsimp only
  rw [b01_if]
  by_cases c : isW tp L p wdIf = true
  · rw [if_pos c, if_pos c, o81 Mb.1, Option.bind_some]
  · rw [if_neg c, if_neg c]
theorem m_rl_185 (hs : Sh h) (hk : k < 12) : D_X11_readLaw_185 h (some 81) (Int32.ofNat (8 * k)) = some (wA h 91 (upd (aI h 91) (8 * k + 6) (fI h 81 23))) := by
  unfold D_X11_readLaw_185
  rw [s_gQ (r := 91) hs rfl rfl, Option.bind_some, s_gI hs (ci := 11) rfl rfl, Option.bind_some, show Int32.ofNat (8 * k) + 6 = Int32.ofNat (8 * k + 6) from sc_add _ 6, aW hs (n := 96) rfl (by omega) (by decide), Option.bind_some]
theorem m_rl_185F (M : MX h0 h q) (hk : k < 12) : ∃ h', D_X11_readLaw_185 h (some 81) (Int32.ofNat (8 * k)) = some h' ∧ MX h0 h' q := ⟨_, m_rl_185 M.1.1 hk, M.wr rfl (by decide) _⟩
theorem m_rl_135F (M : MX h0 h q) (hk : k < 12) : ∃ h', D_X11_readLaw_135 h (some 81) (Int32.ofNat (8 * k)) = some h' ∧ MX h0 h' q := by
  have Ma := M.wr (a := 91) rfl (by decide) (upd (aI h 91) (8 * k + 4) (fI h 81 23))
  have wa := aW M.1.1 (a := 91) (n := 96) rfl (show 8 * k + 4 < 96 by omega) (by decide) (fI h 81 23)
  generalize wA h 91 (upd (aI h 91) (8 * k + 4) (fI h 81 23)) = ha at *
  have Mb := Ma.wr (a := 91) rfl (by decide) (upd (aI ha 91) (8 * k + 5) (fI ha 81 23))
  have wb := aW Ma.1.1 (a := 91) (n := 96) rfl (show 8 * k + 5 < 96 by omega) (by decide) (fI ha 81 23)
  generalize wA ha 91 (upd (aI ha 91) (8 * k + 5) (fI ha 81 23)) = hb at *
  obtain ⟨h', d, Mc⟩ := m_rl_185F Mb hk
  refine ⟨h', ?_, Mc⟩
  unfold D_X11_readLaw_135
  rw [s_gQ (r := 91) M.1.1 rfl rfl, Option.bind_some, s_gI M.1.1 (ci := 11) rfl rfl, Option.bind_some, show Int32.ofNat (8 * k) + 4 = Int32.ofNat (8 * k + 4) from sc_add _ 4, wa, Option.bind_some, s_gQ (r := 91) Ma.1.1 rfl rfl, Option.bind_some, s_gI Ma.1.1 (ci := 11) rfl rfl, Option.bind_some, show Int32.ofNat (8 * k) + 5 = Int32.ofNat (8 * k + 5) from sc_add _ 5, wb, Option.bind_some, Mb.bad, Option.bind_some, if_neg one_ne]
  exact d
end F6
