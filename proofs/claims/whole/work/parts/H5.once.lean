/-! orders: one order, once, in two heaps -/
section H5
variable {g h : z_H} {m op ar cl K Ka mo : Nat → Int32} {n cc k dn nu : Nat} {la : Int32} {f : Nat → Nat}
def RSt (h : z_H) (m K Ka mo : Nat → Int32) (dn nu : Nat) (la : Int32) : Prop := Sh h ∧ aI h 83 = m ∧ fI h 81 20 = 0 ∧ fI h 81 52 = Int32.ofNat dn ∧ fI h 81 53 = la ∧ fI h 81 8 = Int32.ofNat nu ∧ (∀ k, k < 400 → aI h 92 k = K k ∧ aI h 93 k = Ka k) ∧ ∀ i, i < 96 → aI h 112 i = mo i
theorem onMJa {S ks : List Nat} (hs : Sh h) {a : Nat} (e : isAJ a = true) (ha : a ∈ S) (x : Nat → Int64) : OnM S ks h (wJ h a x) := onJ hs e ha x
theorem m_now (R : RSt h m K Ka mo dn nu la) (row : RowB m) (w4 : nb (m 4) 33554431) (hk : k < 12) : ∃ h1, RSt h1 m K Ka mo dn nu la ∧ OnM [81, 100] [55] h h1 ∧ fI h1 81 55 = 0 ∧ (∀ i, i < 5 → aJ h1 100 (i + 1) = (oW m dn la i).toInt64) ∧ D_X11_run h (some 81) (Int32.ofNat (8 * k)) = if mo (8 * k + 6) ≤ mo (8 * k + 5) then D_X11_run_105 h1 (some 81) (Int32.ofNat (8 * k)) else (D_X11_sumOf h1 (some 81) (Int32.ofNat (8 * k + 5))).bind fun p => (z_gI 11 p.2 (some 81) 55).bind fun x => if x = 0 then (if p.1 = 0 then some (0, p.2) else D_X11_run_105 p.2 (some 81) (Int32.ofNat (8 * k))) else some (0, p.2) := by
  obtain ⟨hs, e83, e20, e52, e53, e8, ec, eo⟩ := R
  obtain ⟨W, eW, hW⟩ := w4
  have S : ∀ x, Sh (wJ h 100 x) := fun x => Sh_wJ hs rfl x
  have r100 : ∀ x, aJ (wJ h 100 x) 100 = x := fun x => aJ_wJ_eq hs rfl x
  have rf : ∀ x a q, fI (wJ h 100 x) a q = fI h a q := fun x a q => fI_wJ _ _ _ _
  have ra : ∀ x a, aI (wJ h 100 x) a = aI h a := fun x a => aI_wJ _ _ _
  have wr : ∀ x i v, i < 13 → z_sJ (wJ h 100 x) (some 100) (Int32.ofNat i) v = some (wJ h 100 (vp_updL x i v)) := fun x i v z => by rw [jW (S x) (n := 13) rfl z (by decide), r100, wJ_wJ]
  have q36 : ∀ x, z_gQ 11 (wJ h 100 x) (some 81) 36 = some (some 100) := fun x => s_gQ (S x) rfl rfl
  have q3 : ∀ x, z_gQ 11 (wJ h 100 x) (some 81) 3 = some (some 83) := fun x => s_gQ (S x) rfl rfl
  have tn4 : tn (m 4) = W := by rw [eW]; exact tn_of (by omega)
  generalize hx : vp_updL (vp_updL (vp_updL (vp_updL (vp_updL (aJ h 100) 1 (m 5).toInt64) 2 (Int32.ofNat dn).toInt64) 3 la.toInt64) 4 (m 0).toInt64) 5 (Int32.ofNat (popN W)).toInt64 = X
  have oF := onMF (S X) (k := 55) rfl (S := [81, 100]) (ks := [55]) (by decide) (by decide) 0
  have o1 : OnM [81, 100] [55] h (wF (wJ h 100 X) 81 55 (.int 0)) := (onJ hs rfl (by decide) X).trans oF
  have fF : ∀ q, q ≠ 55 → fI (wF (wJ h 100 X) 81 55 (.int 0)) 81 q = fI h 81 q := fun q hq => (o1.2.2 q (by simpa using hq)).1
  have aF : ∀ a, aI (wF (wJ h 100 X) 81 55 (.int 0)) a = aI h a := fun a => by rw [aI_wF, ra]
  have r112 : ∀ i, i < 96 → z_aI .int (wF (wJ h 100 X) 81 55 (.int 0)) (some 112) (Int32.ofNat i) = some (mo i) := fun i hi => by rw [aR oF.1 (n := 96) rfl hi (by decide), aF, eo i hi]
  refine ⟨wF (wJ h 100 X) 81 55 (.int 0), ⟨oF.1, by rw [aF]; exact e83, by rw [fF 20 (by decide)]; exact e20, by rw [fF 52 (by decide)]; exact e52, by rw [fF 53 (by decide)]; exact e53, by rw [fF 8 (by decide)]; exact e8, fun i hi => by rw [aF, aF]; exact ec i hi, fun i hi => by rw [aF]; exact eo i hi⟩, o1, fI_wF_eq (S X) rfl _, fun i hi => ?_, ?_⟩
  · rw [aJ_wF, r100, ← hx]
    rcases (show i = 0 ∨ i = 1 ∨ i = 2 ∨ i = 3 ∨ i = 4 by omega) with r | r | r | r | r <;> subst r
    · rw [updL_ne (by decide), updL_ne (by decide), updL_ne (by decide), updL_ne (by decide), updL_eq]; rfl
    · rw [updL_ne (by decide), updL_ne (by decide), updL_ne (by decide), updL_eq]; rfl
    · rw [updL_ne (by decide), updL_ne (by decide), updL_eq]; rfl
    · rw [updL_ne (by decide), updL_eq]; rfl
    · rw [updL_eq]
      show _ = (Int32.ofNat (popN (tn (m 4)))).toInt64
      rw [tn4]
  · unfold D_X11_run
    rw [s_gQ (r := 100) hs rfl rfl, Option.bind_some, s_gQ (r := 83) hs rfl rfl, Option.bind_some, show (5 : Int32) = Int32.ofNat 5 from rfl, aR hs (n := 5462) rfl (by decide) (by decide), e83, Option.bind_some, show (1 : Int32) = Int32.ofNat 1 from rfl, jW hs (n := 13) rfl (by decide) (by decide), Option.bind_some, q36, Option.bind_some, s_gI (S _) (ci := 11) rfl rfl, Option.bind_some, rf, e52, show (2 : Int32) = Int32.ofNat 2 from rfl, wr _ 2 _ (by decide), Option.bind_some, q36, Option.bind_some, s_gI (S _) (ci := 11) rfl rfl, Option.bind_some, rf, e53, show (3 : Int32) = Int32.ofNat 3 from rfl, wr _ 3 _ (by decide), Option.bind_some, q36, Option.bind_some, q3, Option.bind_some, show z_aI .int (wJ h 100 (vp_updL (vp_updL (vp_updL (aJ h 100) 1 (m 5).toInt64) 2 (Int32.ofNat dn).toInt64) 3 la.toInt64)) (some 83) 0 = some (m 0) by rw [show (0 : Int32) = Int32.ofNat 0 from rfl, aR (S _) (n := 5462) rfl (by decide) (by decide), ra, e83], Option.bind_some, show (4 : Int32) = Int32.ofNat 4 from rfl, wr _ 4 _ (by decide), Option.bind_some, q36, Option.bind_some, o81 (S _), Option.bind_some, m_walls (S _) (w := W) (by omega) (by rw [ra, e83]; exact eW), Option.bind_some]
    dsimp only
    rw [wr _ 5 _ (by decide), Option.bind_some, hx, s_pV (S X) (ci := 11) rfl (by decide), Option.bind_some, s_gQ (r := 112) oF.1 rfl rfl, Option.bind_some, sc_add, r112 _ (by omega), Option.bind_some, Option.bind_some, show Int32.ofNat (8 * k) + 6 = Int32.ofNat (8 * k + 6) from sc_add _ 6, r112 _ (by omega), Option.bind_some]
    by_cases c : mo (8 * k + 6) ≤ mo (8 * k + 5)
    · rw [if_pos c, if_pos c]
    · rw [if_neg c, if_neg c, o81 oF.1, Option.bind_some]
/-- a stretch of an order's code, told by the reference -/
theorem m_sumOf (R : RSt h m K Ka mo dn nu la) (row : RowB m) (C : codeRel true op ar K Ka n f) (hw : ∀ i, i < 5 → aJ h 100 (i + 1) = (oW m dn la i).toInt64) (e55 : fI h 81 55 = 0) {at' lo hi : Nat} (ha : at' + 1 < 96) (m1 : mo at' = Int32.ofNat (f lo)) (m2 : mo (at' + 1) = Int32.ofNat (f hi)) (S : segOK op ar lo hi) (hn : hi ≤ n) (lt : lo < hi) :
    (evC op ar (oW m dn la) lo hi = none → ∃ h' x, RSt h' m K Ka mo dn nu la ∧ OnM [81, 100, 101] [20, 38, 39, 55] h h' ∧ fI h' 81 55 = 1 ∧ D_X11_sumOf h (some 81) (Int32.ofNat at') = some (x, h')) ∧
    ∀ s', evC op ar (oW m dn la) lo hi = some s' → ∃ v, s' = [v] ∧ ∃ h', RSt h' m K Ka mo dn nu la ∧ OnM [81, 100, 101] [20, 38, 39, 55] h h' ∧ fI h' 81 55 = 0 ∧ (∀ i, i < 5 → aJ h' 100 (i + 1) = (oW m dn la i).toInt64) ∧ D_X11_sumOf h (some 81) (Int32.ofNat at') = some (v.toInt32, h') := by
  obtain ⟨hs, e83, e20, e52, e53, e8, ec, eo⟩ := R
  have f1 := f_le C (Nat.le_of_lt lt) hn
  have f2 := f_le C hn (Nat.le_refl n)
  have f4 := C.2.1
  have oA := onMF hs (k := 20) rfl (S := [81, 100, 101]) (ks := [20, 38, 39, 55]) (by decide) (by decide) 1
  have rd : RdM (wF h 81 20 (.int 1)) true K Ka := ⟨by rw [fI_wF_eq hs rfl]; rfl, by rw [aI_wF, e83]; exact row.2.2.2.2.1, (fun z => by cases z), fun _ i hi => by rw [aI_wF, aI_wF]; exact ec i hi⟩
  have lf : ∀ i, lo ≤ i → i < hi → op i = 1 → (oW m dn la (tn (ar i))).toInt64 = LfM (wF h 81 20 (.int 1)) true (K (f i)) (Ka (f i)) := fun i _ z1 z2 => lf_ord C (by rw [aI_wF]; exact e83) (fun q hq => by rw [aJ_wF]; exact hw q hq) (by omega) z2
  obtain ⟨X1, X2⟩ := rk_ref C S hn oA.1 rd lf
  have rh : ∀ i, i < 96 → z_aI .int h (some 112) (Int32.ofNat i) = some (mo i) := fun i hi => by rw [aR hs (n := 96) rfl hi (by decide), eo i hi]
  have rA : ∀ i, i < 96 → z_aI .int (wF h 81 20 (.int 1)) (some 112) (Int32.ofNat i) = some (mo i) := fun i hi => by rw [aR oA.1 (n := 96) rfl hi (by decide), aI_wF, eo i hi]
  have pre : ∀ hr, D_X11_reckonAll (wF h 81 20 (.int 1)) (some 81) (Int32.ofNat (f lo)) (Int32.ofNat (f hi)) = some hr → OnM [81, 101] [38, 39] (wF h 81 20 (.int 1)) hr → (fI hr 81 38 = 0 ∨ fI hr 81 38 = 1) → ∃ h', RSt h' m K Ka mo dn nu la ∧ OnM [81, 100, 101] [20, 38, 39, 55] h h' ∧ fI h' 81 55 = fI hr 81 38 ∧ (∀ i, i < 5 → aJ h' 100 (i + 1) = (oW m dn la i).toInt64) ∧ D_X11_sumOf h (some 81) (Int32.ofNat at') = some ((fJ hr 81 39).toInt32, h') := by
    intro hr dr oR b38
    have oR' := oR.mono (S' := [81, 100, 101]) (ks' := [20, 38, 39, 55]) (by decide) (by decide)
    have oB := onMF oR.1 (k := 20) rfl (S := [81, 100, 101]) (ks := [20, 38, 39, 55]) (by decide) (by decide) 0
    have b20 : fI (wF hr 81 20 (.int 0)) 81 20 = 0 := fI_wF_eq oR.1 rfl _
    have x38 : fI (wF hr 81 20 (.int 0)) 81 38 = fI hr 81 38 := fI_wF_ne (by decide)
    have x39 : fJ (wF hr 81 20 (.int 0)) 81 39 = fJ hr 81 39 := fJ_wF_ne (by decide)
    have oC := onMF oB.1 (k := 55) rfl (S := [81, 100, 101]) (ks := [20, 38, 39, 55]) (by decide) (by decide) (fI hr 81 38)
    have oo := oA.trans (oR'.trans (oB.trans oC))
    have c20 : fI (wF (wF hr 81 20 (.int 0)) 81 55 (.int (fI hr 81 38))) 81 20 = 0 := by rw [fI_wF_ne (by decide)]; exact b20
    have c55 : fI (wF (wF hr 81 20 (.int 0)) 81 55 (.int (fI hr 81 38))) 81 55 = fI hr 81 38 := fI_wF_eq oB.1 rfl _
    have aa : ∀ a, a ∉ [81, 100, 101] → aI (wF (wF hr 81 20 (.int 0)) 81 55 (.int (fI hr 81 38))) a = aI h a := fun a z => cell_aI (oo.2.1.c z)
    refine ⟨_, ⟨oC.1, by rw [aa 83 (by decide)]; exact e83, c20, (oo.2.2 52 (by decide)).1.trans e52, (oo.2.2 53 (by decide)).1.trans e53, (oo.2.2 8 (by decide)).1.trans e8, fun i hi => by rw [aa 92 (by decide), aa 93 (by decide)]; exact ec i hi, fun i hi => by rw [aa 112 (by decide)]; exact eo i hi⟩, oo, c55, fun i hi => ?_, ?_⟩
    · rw [aJ_wF, aJ_wF, cell_aJ (oR.2.1.c (by decide)), aJ_wF]; exact hw i hi
    · unfold D_X11_sumOf
      rw [s_gI hs (ci := 11) rfl rfl, Option.bind_some, e55, if_pos rfl, s_gQ (r := 112) hs rfl rfl, Option.bind_some, rh at' (by omega), Option.bind_some, Option.bind_some, show Int32.ofNat at' + 1 = Int32.ofNat (at' + 1) from sc_add _ 1, rh _ ha, Option.bind_some, m1, m2, if_neg (fun z => by have := (eq_lit (by omega) (by omega)).mp z; omega), s_pV hs (ci := 11) rfl (by decide), Option.bind_some, s_gQ (r := 112) oA.1 rfl rfl, Option.bind_some, rA at' (by omega), Option.bind_some, Option.bind_some, rA _ ha, Option.bind_some, o81 oA.1, Option.bind_some, m1, m2, dr, Option.bind_some, s_pV oR.1 (ci := 11) rfl (by decide), Option.bind_some, s_gI oB.1 (ci := 11) rfl rfl, Option.bind_some, x38, if_pos b38, s_pV oB.1 (ci := 11) rfl (by decide), Option.bind_some, s_gJ oC.1 (ci := 11) rfl rfl, Option.bind_some, fJ_wF_ne (by decide), x39]
  refine ⟨fun q => ?_, fun s' q => ?_⟩
  · obtain ⟨hr, o, b, d⟩ := X1 q
    obtain ⟨h', R', o', c, _, d'⟩ := pre hr d o (Or.inr b)
    exact ⟨h', _, R', o', by rw [c]; exact b, d'⟩
  · obtain ⟨v, es, hr, o, b, vj, d⟩ := X2 s' q
    obtain ⟨h', R', o', c, w', d'⟩ := pre hr d o (Or.inl b)
    rw [vj] at d'
    exact ⟨v, es, h', R', o', by rw [c]; exact b, w', d'⟩
/-- none: -1 -/
theorem m_sumNo (R : RSt h m K Ka mo dn nu la) (e55 : fI h 81 55 = 0) {at' : Nat} (ha : at' + 1 < 96) (e : mo at' = mo (at' + 1)) : D_X11_sumOf h (some 81) (Int32.ofNat at') = some (-1, h) := by
  have hs := R.1
  have rh : ∀ i, i < 96 → z_aI .int h (some 112) (Int32.ofNat i) = some (mo i) := fun i hi => by rw [aR hs (n := 96) rfl hi (by decide), R.2.2.2.2.2.2.2 i hi]
  unfold D_X11_sumOf
  rw [s_gI hs (ci := 11) rfl rfl, Option.bind_some, e55, if_pos rfl, s_gQ (r := 112) hs rfl rfl, Option.bind_some, rh at' (by omega), Option.bind_some, Option.bind_some, show Int32.ofNat at' + 1 = Int32.ofNat (at' + 1) from sc_add _ 1, rh _ ha, Option.bind_some, if_pos e]
theorem m_sumOff (hs : Sh h) (e55 : fI h 81 55 = 1) (x : Int32) : D_X11_sumOf h (some 81) x = some (-1, h) := by
  unfold D_X11_sumOf
  rw [s_gI hs (ci := 11) rfl rfl, Option.bind_some, e55, if_neg one_ne]
end H5
