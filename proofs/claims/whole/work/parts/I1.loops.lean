/-! orders: one after another, each as often as it says: a step, and where one fails -/
section I1
variable {g0 h0 g h : z_H} {m0 m op ar cl K Ka mo : Nat → Int32} {n cc k dn nu : Nat} {la : Int32} {f : Nat → Nat}
def WC : List Nat := [2, 3, 5, 6, 21, 22, 29, 30, 31, 33, 34]
def WMc : List Nat := 83 :: 86 :: 87 :: MK
def WMf : List Nat := 8 :: 52 :: 53 :: MKf
/-- the log, in two heaps -/
def LG2 (np : Nat) (g h : z_H) (nu : Nat) (m : Nat → Int32) : Prop := ∃ s t, LogC nu (aI g 22) s t np ∧ LogM nu (aI h 86) (aI h 87) s t ∧ s nu = fun i => m (5 + i)
theorem LG2.push {np : Nat} {g' h' : z_H} {rec m' : Nat → Int32} {a : Int32} (U : LG2 np g h nu m) (hn : nu ≤ 16) (R : recOK np rec (fun i => m (5 + i)) (fun i => m' (5 + i)) a) (a22 : aI g' 22 = nxR nu (aI g 22) rec) (a86 : aI h' 86 = nxU nu (aI h 86) (fun i => m (5 + i))) (a87 : aI h' 87 = nxM nu (aI h 87) a) : LG2 np g' h' (nxN nu) m' := by
  obtain ⟨s, t, C, M, sn⟩ := U
  have C' := LogC_push C (by rw [sn]; exact R)
  have M' := LogM_push (c := fun i => m' (5 + i)) (a := a) hn M
  rw [sn] at M'
  exact ⟨_, _, by rw [a22]; exact C', by rw [a86, a87]; exact M', nxS_last nu hn s _⟩
theorem LG2.cg {np : Nat} {g' h' : z_H} (U : LG2 np g h nu m) (a : aI g' 22 = aI g 22) (b : aI h' 86 = aI h 86) (c : aI h' 87 = aI h 87) : LG2 np g' h' nu m := by
  unfold LG2
  rw [a, b, c]; exact U
def RJ (g0 h0 : z_H) (m0 K Ka mo : Nat → Int32) (g h : z_H) (m : Nat → Int32) (dn nu : Nat) (la : Int32) : Prop := Sh g ∧ Yrel g 1 m ∧ fI g 34 4 = Int32.ofNat dn ∧ fI g 34 5 = la ∧ fI g 34 6 = fI g0 34 6 ∧ fI g 21 1 = Int32.ofNat nu ∧ nu ≤ 16 ∧ Tch WC g0 g ∧ RSt h m K Ka mo dn nu la ∧ OnM WMc WMf h0 h ∧ (∀ i, i < 39 → aI h 86 (663 + i) = m0 (5 + i)) ∧ (∀ i, i < 5 ∨ 44 ≤ i → m i = m0 i) ∧ LG2 (tn (m0 0)) g h nu m
theorem TxC_W (tx : TxC g0 25 26 27 28 400 n 72 cc op ar cl) (T : Tch WC g0 g) : TxC g 25 26 27 28 400 n 72 cc op ar cl := by
  obtain ⟨⟨h1, h2, h3, h4⟩, e1, e2, e3, e4, r⟩ := tx
  rw [← T.1] at h1 h2 h3 h4
  exact ⟨⟨h1, h2, h3, h4⟩, (T.c (by decide)).trans e1, (T.c (by decide)).trans e2, (T.c (by decide)).trans e3, (T.c (by decide)).trans e4, r⟩
def FA (g0 h0 : z_H) (m0 : Nat → Int32) (had : Int32) (A B : Option (Int32 × z_H)) : Prop := ∃ (g1 h1 : z_H) (k : Nat), A = some (-3, g1) ∧ B = some (-3, rfM h1 3) ∧ (Sh g1 ∧ Yrel g1 1 m0 ∧ fI g1 21 1 = fI g0 44 1 ∧ (∀ i, i < 112 → aI g1 22 i = aI g0 45 i) ∧ fI g1 34 6 = Int32.ofNat k ∧ Tch ([1, 4, 7, 8, 9] ++ WC) g0 g1) ∧ OnM WMc (54 :: WMf) h0 h1 ∧ aI h1 83 = m0 ∧ fI h1 81 8 = had ∧ (∀ i, i < 624 → aI h1 86 i = aI h0 88 i) ∧ (∀ i, i < 16 → aI h1 87 i = aI h0 89 i) ∧ fI h1 81 54 = Int32.ofNat k ∧ fI h1 81 20 = 0
theorem c_fail (s : Sh g) (T : Tch WC g0 g) (Y35 : Yrel g0 35 m0) : ∃ g1, ((z_gQ 2 g (some 34) 2).bind fun x3032 => (z_ob 9 g (some 1)).bind fun _ => (D_X9_become g (some 1) x3032).bind fun p3033 => (z_gQ 2 p3033 (some 34) 3).bind fun x3035 => (z_ob 8 p3033 (some 21)).bind fun _ => (D_X8_become p3033 (some 21) x3035).bind fun p3036 => (z_pV 2 p3036 (some 34) 6 (.int (Int32.ofNat k))).bind fun h3038 => some ((-3:Int32), h3038)) = some (-3, g1) ∧ Sh g1 ∧ Yrel g1 1 m0 ∧ fI g1 21 1 = fI g0 44 1 ∧ (∀ i, i < 112 → aI g1 22 i = aI g0 45 i) ∧ fI g1 34 6 = Int32.ofNat k ∧ Tch ([1, 4, 7, 8, 9] ++ WC) g0 g1 := by
  have Y' : Yrel g 35 m0 := Yrel_T Y35 T (fun q hq z => by simp only [WC, List.mem_cons, List.not_mem_nil, or_false] at z; omega) (by decide)
  obtain ⟨ga, sa, ⟨t1, u1, c1⟩, Cp, dB⟩ := c_become s (a := 1) (b := 35) (Or.inl rfl) (Or.inr (Or.inr (Or.inl rfl))) (by decide) Y'.2.2.obs
  have Ya : Yrel ga 1 m0 := Yrel_copy Y' Cp (by omega) (fun a ha _ => c1 a (by omega))
  have Ta : Tch ([1, 4, 7, 8, 9] ++ WC) g ga := ⟨t1, u1, fun c hc => c1 c (by simp only [WC, List.cons_append, List.nil_append, List.mem_cons, List.not_mem_nil, or_false, not_or] at hc; omega)⟩
  obtain ⟨gb, sb, Tb, a22, f21, dL⟩ := c_log2 sa
  have sF : Sh (wF gb 34 6 (.int (Int32.ofNat k))) := Sh_wF sb rfl _
  have TF : Tch [21, 22, 34] ga (wF gb 34 6 (.int (Int32.ofNat k))) := Tch_wF (Tb.mono (by decide)) (by decide) _ _
  have k44 : ga.2.2 44 = g0.2.2 44 := (c1 44 (by decide)).trans (T.c (by decide))
  have k45 : ga.2.2 45 = g0.2.2 45 := (c1 45 (by decide)).trans (T.c (by decide))
  refine ⟨wF gb 34 6 (.int (Int32.ofNat k)), ?_, sF, Yrel_T Ya TF (isY_S (Or.inl rfl) (by decide)) (by decide), ?_, fun i hi => ?_, fI_wF_eq sb rfl _, ?_⟩
  · rw [s_gQ (r := 35) s rfl rfl, Option.bind_some, s_ob s (ci := 9) rfl, Option.bind_some, dB, Option.bind_some, s_gQ (r := 44) sa rfl rfl, Option.bind_some, s_ob sa (ci := 8) rfl, Option.bind_some, dL, Option.bind_some, s_pV sb (ci := 2) rfl (by decide), Option.bind_some]
  · rw [fI_wF_ne (by decide), f21, cell_fI k44]
  · rw [aI_wF, a22, cpy_lt hi, cell_aI k45]
  · exact (T.mono (by decide)).trans (Ta.trans (TF.mono (by decide)))
theorem m_fail (O : OnM WMc WMf h0 h) (e663 : ∀ i, i < 39 → aI h 86 (663 + i) = m0 (5 + i)) (em : ∀ i, i < 5 ∨ 44 ≤ i → aI h 83 i = m0 i) (e20 : fI h 81 20 = 0) (had : Int32) : ∃ h1, ((z_ob 11 h (some 81)).bind fun _ => (D_X11_giveBack h (some 81) had).bind fun p3646 => (z_pV 11 p3646 (some 81) 54 (.int (Int32.ofNat k))).bind fun h3648 => (z_ob 11 h3648 (some 81)).bind fun _ => (D_X11_tell h3648 (some 81) (-3:Int32)).bind fun p3649 => some (p3649.1, p3649.2)) = some (-3, rfM h1 3) ∧ OnM WMc (54 :: WMf) h0 h1 ∧ aI h1 83 = m0 ∧ fI h1 81 8 = had ∧ (∀ i, i < 624 → aI h1 86 i = aI h0 88 i) ∧ (∀ i, i < 16 → aI h1 87 i = aI h0 89 i) ∧ fI h1 81 54 = Int32.ofNat k ∧ fI h1 81 20 = 0 := by
  have s := O.1
  obtain ⟨ha, oa, f8, a83, a86, a87, dg⟩ := m_giveBack s had
  have sF : Sh (wF ha 81 54 (.int (Int32.ofNat k))) := Sh_wF oa.1 rfl _
  have oF := onMF oa.1 (k := 54) rfl (S := WMc) (ks := 54 :: WMf) (by decide) (by decide) (Int32.ofNat k)
  refine ⟨wF ha 81 54 (.int (Int32.ofNat k)), ?_, (O.mono (by decide) (by decide)).trans ((oa.mono (by decide) (by decide)).trans oF), ?_, ?_, fun i hi => ?_, fun i hi => ?_, fI_wF_eq oa.1 rfl _, ?_⟩
  · rw [o81 s, Option.bind_some, dg, Option.bind_some, s_pV oa.1 (ci := 11) rfl (by decide), Option.bind_some, o81 sF, Option.bind_some, (tls sF).2.2.1, Option.bind_some]
  · rw [aI_wF, a83]
    funext i
    unfold va_cpy
    by_cases c : 5 ≤ i ∧ i < 5 + 39
    · rw [if_pos c, e663 (i - 5) (by omega), show 5 + (i - 5) = i by omega]
    · rw [if_neg c]; exact em i (by omega)
  · rw [fI_wF_ne (by decide)]; exact f8
  · rw [aI_wF, a86, cpy_lt hi, cell_aI (O.2.1.c (by decide))]
  · rw [aI_wF, a87, cpy_lt hi, cell_aI (O.2.1.c (by decide))]
  · rw [fI_wF_ne (by decide), (oa.2.2 20 (by decide)).1]; exact e20
theorem RSt_O {h' : z_H} (R : RSt h m K Ka mo dn nu la) (O : OnM MK MKf h h') (e : fI h' 81 20 = 0) : RSt h' m K Ka mo dn nu la := by
  obtain ⟨rs, r83, r20, r52, r53, r8, rc, ro⟩ := R
  exact ⟨O.1, by rw [cell_aI (O.2.1.c (by decide))]; exact r83, e, by rw [(O.2.2 52 (by decide)).1]; exact r52, by rw [(O.2.2 53 (by decide)).1]; exact r53, by rw [(O.2.2 8 (by decide)).1]; exact r8, fun i hi => by rw [cell_aI (O.2.1.c (by decide)), cell_aI (O.2.1.c (by decide))]; exact rc i hi, fun i hi => by rw [cell_aI (O.2.1.c (by decide))]; exact ro i hi⟩
theorem nxU_far {U b : Nat → Int32} (i : Nat) (hn : nu ≤ 16) : nxU nu U b (663 + i) = U (663 + i) := by
  unfold nxU
  by_cases c : nu < 16
  · rw [if_pos c, if_neg (by omega)]
  · rw [if_neg c, if_neg (by omega), if_neg (by omega)]
theorem nxN_le16 (hn : nu ≤ 16) : nxN nu ≤ 16 := by
  unfold nxN
  by_cases c : nu < 16
  · rw [if_pos c]; omega
  · rw [if_neg c]; omega
theorem loop_one (tx : TxC g0 25 26 27 28 400 n 72 cc op ar cl) (C : codeRel true op ar K Ka n f) (HT : ∃ S, low S = true ∧ Tch S g0 h0) (hk : k < cc) (O : OLR op ar cl mo f n k) (J : RJ g0 h0 m0 K Ka mo g h m dn nu la) :
    (∃ (g' h' : z_H) (m' : Nat → Int32) (dn' nu' : Nat) (la' : Int32), D_X2_obey g (some 34) (some 25) (Int32.ofNat k) (some 1) (some 21) = some (1, g') ∧ D_X11_run h (some 81) (Int32.ofNat (8 * k)) = some (0, h') ∧ RJ g0 h0 m0 K Ka mo g' h' m' dn' nu' la' ∧ dn' ≤ dn + 1) ∨
    ∃ g' h', D_X2_obey g (some 34) (some 25) (Int32.ofNat k) (some 1) (some 21) = some (0, g') ∧ D_X11_run h (some 81) (Int32.ofNat (8 * k)) = some (-3, h') ∧ Sh g' ∧ Tch WC g0 g' ∧ OnM WMc WMf h0 h' ∧ (∀ i, i < 39 → aI h' 86 (663 + i) = m0 (5 + i)) ∧ (∀ i, i < 5 ∨ 44 ≤ i → aI h' 83 i = m0 i) ∧ fI h' 81 20 = 0 := by
  obtain ⟨hs, Y, ed, el, e6, eu, hu, T, R, OM, e663, em, U⟩ := J
  have e83 := R.2.1
  rcases once (TxC_W tx T) hs Y ed el eu hu R C (HT_of HT T (by decide) OM (by decide)) hk O with ⟨g', h', dA, dB, s', T', O', q20⟩ | ⟨g', h', dA, dB, s', T', O', q20⟩ | ⟨g', h', m', rec, la', v, dA, dB, s', T', Y', f4, f5, f6, f21, a22, rk, O', a83, q20, q52, q53, q8, a86, a87, mk⟩
  · refine Or.inl ⟨g', h', m, dn, nu, la, dA, dB, ⟨s', Yrel_T Y T' (isY_S (Or.inl rfl) (by decide)) (by decide), by rw [cell_fI (T'.c (by decide))]; exact ed, by rw [cell_fI (T'.c (by decide))]; exact el, by rw [cell_fI (T'.c (by decide))]; exact e6, by rw [cell_fI (T'.c (by decide))]; exact eu, hu, T.trans (T'.mono (by decide)), RSt_O R O' q20, OM.trans (O'.mono (by decide) (by decide)), fun i hi => by rw [cell_aI (O'.2.1.c (by decide))]; exact e663 i hi, em, U.cg (cell_aI (T'.c (by decide))) (cell_aI (O'.2.1.c (by decide))) (cell_aI (O'.2.1.c (by decide)))⟩, by omega⟩
  · exact Or.inr ⟨g', h', dA, dB, s', T.trans (T'.mono (by decide)), OM.trans (O'.mono (by decide) (by decide)), fun i hi => by rw [cell_aI (O'.2.1.c (by decide))]; exact e663 i hi, fun i hi => by rw [cell_aI (O'.2.1.c (by decide)), e83]; exact em i hi, q20⟩
  · obtain ⟨rs, r83, r20, r52, r53, r8, rc, ro⟩ := R
    refine Or.inl ⟨g', h', m', dn + 1, nxN nu, la', dA, dB, ⟨s', Y', f4, f5, f6.trans e6, f21, nxN_le16 hu, T.trans T', ⟨O'.1, a83, q20, q52, q53, q8, fun i hi => by rw [cell_aI (O'.2.1.c (by decide)), cell_aI (O'.2.1.c (by decide))]; exact rc i hi, fun i hi => by rw [cell_aI (O'.2.1.c (by decide))]; exact ro i hi⟩, OM.trans O', fun i hi => by rw [a86, nxU_far i hu]; exact e663 i hi, fun i hi => by rw [mk i hi]; exact em i hi, U.push hu (by rw [← em 0 (Or.inl (by decide))]; exact rk) a22 a86 a87⟩, Nat.le_refl _⟩
end I1
