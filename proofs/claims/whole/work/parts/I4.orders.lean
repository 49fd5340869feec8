/-! orders: both together -/
section I4
variable {j : Nat} {h : z_H}
theorem LogC_cg {n np : Nat} {R R' : Nat → Int32} {s : Nat → Nat → Int32} {t : Nat → Int32} (H : LogC n R s t np) (e : ∀ i, i < 112 → R' i = R i) : LogC n R' s t np := by
  obtain ⟨hn, H⟩ := H
  refine ⟨hn, fun j hj => ?_⟩
  obtain ⟨a, b, c, d, u⟩ := H j hj
  refine ⟨by rw [e _ (by omega)]; exact a, b, by rw [e _ (by omega), e _ (by omega), e _ (by omega), e _ (by omega), e _ (by omega)]; exact c, by rw [e _ (by omega)]; exact d, fun i hi => ?_⟩
  rw [u i hi]
  unfold undone
  dsimp only
  simp only [e (7 * j + 6) (by omega), e (7 * j + 1) (by omega), e (7 * j + 2) (by omega), e (7 * j + 3) (by omega), e (7 * j + 4) (by omega), e (7 * j + 5) (by omega)]
def SO : List Nat := [0, 1, 2, 3, 4, 5, 6, 7, 8, 9, 21, 22, 23, 25, 26, 27, 28, 29, 30, 31, 33, 34, 35, 36, 37, 38, 39, 40, 41, 42, 43, 44, 45, 62, 81, 82, 83, 86, 87, 88, 89, 91, 92, 93, 94, 95, 99, 100, 101, 112]
def SRM : List Nat := [81, 82, 83, 86, 87, 88, 89, 91, 92, 93, 94, 95, 99, 100, 101, 112]
/-- all done -/
theorem fin_ok (H : Inv j h) {gS g0 g' hE h0 h2 : z_H} {K Ka mo m : Nat → Int32} {dn nu : Nat} {la : Int32} (TS : Tch (34 :: LC) h gS) (e2 : fI gS 23 2 = 0) (e3 : fI gS 23 3 = -1) (e6 : fI gS 34 6 = -1) (T0 : Tch WS gS g0) (e60 : fI g0 34 6 = fI gS 34 6) (J : RJ g0 h0 (aI h 83) K Ka mo g' h2 m dn nu la) (OE : OnM LMc (54 :: LMf2) (t0 (wF g' 0 13 (.int 0))) hE) (x54 : fI hE 81 54 = -1) (x13 : fI hE 81 13 = 0) (x18 : fI hE 81 18 = -1) (O0 : OnM [81, 86, 88, 89] [52, 53] hE h0) : Inv (j + 1) (wF h2 81 1 (.int 0)) := by
  obtain ⟨t1, t2, t3, t4, t5, t6, t7, t8, t9⟩ := H.2.2.2.2.1
  obtain ⟨sg, Y, q4, q5, q6, q21, hu, T, ⟨rs, r83, r20, r52, r53, r8, rc, ro⟩, OM, _, em, s, t, LCg, LMh, sn⟩ := J
  have s1 : Sh (wF g' 0 13 (.int 0)) := Sh_wF sg rfl _
  have sF : Sh (wF h2 81 1 (.int 0)) := Sh_wF rs rfl _
  have TA : Tch SO h g' := (TS.mono (by decide)).trans ((T0.mono (by decide)).trans (T.mono (by decide)))
  have TB : Tch SRM (wF g' 0 13 (.int 0)) (wF h2 81 1 (.int 0)) := Tch_wF ((Tch_wF (Tch_rfl _ _) (by decide) 0 (.int 0)).trans ((OE.2.1.mono (by decide)).trans ((O0.2.1.mono (by decide)).trans (OM.2.1.mono (by decide))))) (by decide) _ _
  have TC : Tch (0 :: SRM) g' (wF h2 81 1 (.int 0)) := (Tch_wF (Tch_rfl _ _) (by decide) _ _).trans (TB.mono (by decide))
  have TT : Tch SO h (wF h2 81 1 (.int 0)) := TA.trans (TC.mono (by decide))
  have j81 : ∀ q, q ≠ 0 → q ≠ 1 → q ∉ 54 :: LMf2 → q ∉ [52, 53] → q ∉ WMf → fI (wF h2 81 1 (.int 0)) 81 q = fI h 81 q := fun q u v w x y => by
    rw [fI_wF_ne (by omega), (OM.2.2 q y).1, (O0.2.2 q x).1, (OE.2.2 q w).1, show fI (t0 (wF g' 0 13 (.int 0))) 81 q = fI (wF g' 0 13 (.int 0)) 81 q from fI_wF_ne (by omega), fI_wF_ne (by omega), cell_fI (T.c (by decide)), cell_fI (T0.c (by decide)), cell_fI (TS.c (by decide))]
  have k81 : ∀ q, q ≠ 1 → q ∉ WMf → q ∉ [52, 53] → fI (wF h2 81 1 (.int 0)) 81 q = fI hE 81 q := fun q u v w => by
    rw [fI_wF_ne (by omega), (OM.2.2 q v).1, (O0.2.2 q w).1]
  have e83 : aI (wF h2 81 1 (.int 0)) 83 = m := by rw [aI_wF]; exact r83
  have gf : ∀ a, a ∉ 34 :: WS → a ∉ WC → g'.2.2 a = gS.2.2 a := fun a u v => (T.c v).trans (T0.c (fun z => u (List.mem_cons_of_mem _ z)))
  refine Inv_gen H sF TT (by decide) (by decide) (j81 58 (by decide) (by decide) (by decide) (by decide) (by decide)) (by rw [e83]; exact Yrel_T Y TC (isY_S (Or.inl rfl) (by decide)) (by decide)) ?_ ⟨?_, ?_, fun i hi => ?_, ?_, ?_, fun i hi => ?_, ?_, ?_, ?_⟩
  · refine Ulog.join (n := nu) (s := s) (t := t) (by rw [cell_fI (TC.c (by decide))]; exact q21) (by rw [fI_wF_ne (by decide)]; exact r8) ?_ (by rw [aI_wF, aI_wF]; exact LMh) (fun i hi => by rw [e83, sn])
    rw [cell_aI (TC.c (by decide)), cell_fI (TC.c (by decide)), ← Y.2.1.1, em 0 (Or.inl (by decide))]
    exact LCg
  · rw [cell_fI (TB.c (by decide)), fI_wF_eq sg rfl, fI_wF_eq rs rfl]
  · rw [cell_fI (TB.c (by decide)), fI_wF_ne (by decide), cell_fI (gf 0 (by decide) (by decide)), cell_fI (TS.c (by decide)), j81 11 (by decide) (by decide) (by decide) (by decide) (by decide)]; exact t2
  · have y62 : aI (wF h2 81 1 (.int 0)) 62 = aI h 62 := by rw [cell_aI (TC.c (by decide)), cell_aI (gf 62 (by decide) (by decide)), cell_aI (TS.c (by decide))]
    have y82 : aI (wF h2 81 1 (.int 0)) 82 = aI h 82 := by
      have z : aI (t0 (wF g' 0 13 (.int 0))) 82 = aI g' 82 := (aI_wF _ _ _ _).trans (aI_wF _ _ _ _)
      have z2 : aI h2 82 = aI (t0 (wF g' 0 13 (.int 0))) 82 := (cell_aI (OM.2.1.c (by decide))).trans ((cell_aI (O0.2.1.c (by decide))).trans (cell_aI (OE.2.1.c (by decide))))
      rw [show aI (wF h2 81 1 (.int 0)) 82 = aI h2 82 from aI_wF _ _ _ _, z2, z, cell_aI (gf 82 (by decide) (by decide)), cell_aI (TS.c (by decide))]
    rw [y62, y82]; exact t3 i hi
  · rw [cell_fI (TC.c (by decide)), cell_fI (gf 23 (by decide) (by decide)), e2, k81 13 (by decide) (by decide) (by decide), x13]
  · rw [cell_fI (TC.c (by decide)), cell_fI (gf 23 (by decide) (by decide)), e2]; exact ⟨0, rfl, by decide⟩
  · rw [cell_aI (TT.c (by decide)), cell_aI (TT.c (by decide))]; exact t6 i hi
  · rw [cell_fI (TC.c (by decide)), cell_fI (gf 23 (by decide) (by decide)), e3, k81 18 (by decide) (by decide) (by decide), x18]
  · rw [cell_fI (TC.c (by decide)), q6, e60, e6, k81 54 (by decide) (by decide) (by decide), x54]
  · rw [fI_wF_ne (by decide)]; exact r20
/-- one couldn't be: nothing is done -/
theorem fin_no (H : Inv j h) {gS g0 g1 hE h0 h2 : z_H} {k : Nat} (TS : Tch (34 :: LC) h gS) (e2 : fI gS 23 2 = 0) (e3 : fI gS 23 3 = -1) (T0 : Tch WS gS g0) (e44 : fI g0 44 1 = fI gS 21 1) (e45 : ∀ i, i < 112 → aI g0 45 i = aI gS 22 i) (sg : Sh g1) (Y : Yrel g1 1 (aI h 83)) (q21 : fI g1 21 1 = fI g0 44 1) (q22 : ∀ i, i < 112 → aI g1 22 i = aI g0 45 i) (q6 : fI g1 34 6 = Int32.ofNat k) (T : Tch ([1, 4, 7, 8, 9] ++ WC) g0 g1) (OE : OnM LMc (54 :: LMf2) (t0 (rfC g1 3)) hE) (x13 : fI hE 81 13 = 0) (x18 : fI hE 81 18 = -1) (O0 : OnM [81, 86, 88, 89] [52, 53] hE h0) (b88 : ∀ i, i < 624 → aI h0 88 i = aI h 86 i) (b89 : ∀ i, i < 16 → aI h0 89 i = aI h 87 i) (OM : OnM WMc (54 :: WMf) h0 h2) (r83 : aI h2 83 = aI h 83) (r8 : fI h2 81 8 = fI h 81 8) (r86 : ∀ i, i < 624 → aI h2 86 i = aI h0 88 i) (r87 : ∀ i, i < 16 → aI h2 87 i = aI h0 89 i) (r54 : fI h2 81 54 = Int32.ofNat k) (r20 : fI h2 81 20 = 0) : Inv (j + 1) (rfM h2 3) := by
  obtain ⟨t1, t2, t3, t4, t5, t6, t7, t8, t9⟩ := H.2.2.2.2.1
  obtain ⟨n, s, t, en, ee, LCg, LMh, sn⟩ := H.2.2.2.1.split
  have rs := OM.1
  have s0 : Sh (wF g1 0 13 (.int (-(Int32.ofNat 3)))) := Sh_wF sg rfl _
  have s1 := Sh_rfC sg 3
  have sF := Sh_rfM rs 3
  have n16 := LCg.1
  have c62 : aI (rfC g1 3) 62 = upd (aI g1 62) 3 (aI g1 62 3 + 1) := by
    unfold rfC
    rw [aI_wA_eq s0 rfl]
  have c013 : fI (rfC g1 3) 0 13 = -3 := by
    unfold rfC
    rw [fI_wA]; exact fI_wF_eq sg rfl _
  have TR : Tch [0, 62] g1 (rfC g1 3) := Tch_wA (Tch_wF (Tch_rfl _ _) (by decide) _ _) (by decide) _
  have c014 : fI (rfC g1 3) 0 14 = fI g1 0 14 := by
    unfold rfC
    rw [fI_wA, fI_wF_ne (by decide)]
  generalize rfC g1 3 = gR at *
  have x82 : aI (rfM h2 3) 82 = upd (aI h2 82) 3 (aI h2 82 3 + 1) := by
    unfold rfM
    rw [aI_wA_eq (Sh_wF rs rfl _) rfl]
  have x1 : fI (rfM h2 3) 81 1 = -3 := by
    unfold rfM
    rw [fI_wA]; exact fI_wF_eq rs rfl _
  have xj : ∀ q, q ≠ 1 → fI (rfM h2 3) 81 q = fI h2 81 q := fun q hq => by
    unfold rfM
    rw [fI_wA, fI_wF_ne (by omega)]
  have xa : ∀ a, a ≠ 82 → aI (rfM h2 3) a = aI h2 a := fun a ha => by
    unfold rfM
    rw [aI_wA_ne ha, aI_wF]
  have TM : Tch [81, 82] h2 (rfM h2 3) := Tch_wA (Tch_wF (Tch_rfl _ _) (by decide) _ _) (by decide) _
  generalize rfM h2 3 = hF at *
  have TA : Tch SO h g1 := (TS.mono (by decide)).trans ((T0.mono (by decide)).trans (T.mono (by decide)))
  have Tt : Tch SRM gR (t0 gR) := Tch_wF (Tch_rfl _ _) (by decide) _ _
  have TB : Tch SRM gR hF := Tt.trans ((OE.2.1.mono (by decide)).trans ((O0.2.1.mono (by decide)).trans ((OM.2.1.mono (by decide)).trans (TM.mono (by decide)))))
  have TC : Tch (0 :: 62 :: SRM) g1 hF := (TR.mono (by decide)).trans (TB.mono (by decide))
  have TT : Tch SO h hF := TA.trans (TC.mono (by decide))
  have j81 : ∀ q, q ≠ 0 → q ≠ 1 → q ∉ 54 :: LMf2 → q ∉ [52, 53] → q ∉ 54 :: WMf → fI hF 81 q = fI h 81 q := fun q u v w x y => by
    rw [xj q v, (OM.2.2 q y).1, (O0.2.2 q x).1, (OE.2.2 q w).1, show fI (t0 gR) 81 q = fI gR 81 q from fI_wF_ne (by omega), cell_fI (TR.c (by decide)), cell_fI (T.c (by decide)), cell_fI (T0.c (by decide)), cell_fI (TS.c (by decide))]
  have k81 : ∀ q, q ≠ 1 → q ∉ 54 :: WMf → q ∉ [52, 53] → fI hF 81 q = fI hE 81 q := fun q u v w => by
    rw [xj q u, (OM.2.2 q v).1, (O0.2.2 q w).1]
  have e83 : aI hF 83 = aI h 83 := by rw [xa 83 (by decide)]; exact r83
  have gf : ∀ a, a ∉ WS → a ∉ [1, 4, 7, 8, 9] ++ WC → g1.2.2 a = gS.2.2 a := fun a u v => (T.c v).trans (T0.c u)
  refine Inv_gen H sF TT (by decide) (by decide) (j81 58 (by decide) (by decide) (by decide) (by decide) (by decide)) (by rw [e83]; exact Yrel_T Y TC (isY_S (Or.inl rfl) (by decide)) (by decide)) ?_ ⟨?_, ?_, fun i hi => ?_, ?_, ?_, fun i hi => ?_, ?_, ?_, ?_⟩
  · refine Ulog.join (n := n) (s := s) (t := t) (by rw [cell_fI (TC.c (by decide)), q21, e44, cell_fI (TS.c (by decide))]; exact en) (by rw [xj 8 (by decide), r8]; exact ee) ?_ ?_ (fun i hi => by rw [e83, sn])
    · rw [cell_fI (TC.c (by decide)), ← Y.2.1.1, H.Y.2.1.1]
      exact LogC_cg LCg (fun i hi => by rw [cell_aI (TC.c (by decide)), q22 i hi, e45 i hi, cell_aI (TS.c (by decide))])
    · intro q hq
      obtain ⟨x, y⟩ := LMh q hq
      exact ⟨by rw [xa 87 (by decide), r87 q (by omega), b89 q (by omega)]; exact x, fun i hi => by rw [xa 86 (by decide), r86 _ (by omega), b88 _ (by omega)]; exact y i hi⟩
  · rw [cell_fI (TB.c (by decide)), c013, x1]
  · rw [cell_fI (TB.c (by decide)), c014, cell_fI (gf 0 (by decide) (by decide)), cell_fI (TS.c (by decide)), j81 11 (by decide) (by decide) (by decide) (by decide) (by decide)]; exact t2
  · have y62 : aI g1 62 = aI h 62 := by rw [cell_aI (gf 62 (by decide) (by decide)), cell_aI (TS.c (by decide))]
    have y82 : aI h2 82 = aI h 82 := by rw [cell_aI (OM.2.1.c (by decide)), cell_aI (O0.2.1.c (by decide)), cell_aI (OE.2.1.c (by decide)), show aI (t0 gR) 82 = aI gR 82 from aI_wF _ _ _ _, cell_aI (TR.c (by decide)), cell_aI (gf 82 (by decide) (by decide)), cell_aI (TS.c (by decide))]
    rw [cell_aI (TB.c (by decide)), c62, x82, y62, y82]
    by_cases q : i = 3
    · rw [q, upd_eq, upd_eq, t3 3 (by decide)]
    · rw [upd_ne q, upd_ne q]; exact t3 i hi
  · rw [cell_fI (TC.c (by decide)), cell_fI (gf 23 (by decide) (by decide)), e2, k81 13 (by decide) (by decide) (by decide), x13]
  · rw [cell_fI (TC.c (by decide)), cell_fI (gf 23 (by decide) (by decide)), e2]; exact ⟨0, rfl, by decide⟩
  · rw [cell_aI (TT.c (by decide)), cell_aI (TT.c (by decide))]; exact t6 i hi
  · rw [cell_fI (TC.c (by decide)), cell_fI (gf 23 (by decide) (by decide)), e3, k81 18 (by decide) (by decide) (by decide), x18]
  · rw [cell_fI (TC.c (by decide)), q6, xj 54 (by decide), r54]
  · rw [xj 20 (by decide)]; exact r20
end I4
