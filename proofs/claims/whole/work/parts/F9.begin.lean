/-! a TEXT's reading begins, in both -/
section F9
variable {tp : Nat → Nat} {L : Nat} {ord : Bool} {g h : z_H}
theorem c_begin (hs : Sh g) (t : TpC tp L g) : ∃ (g1 : z_H) (op ar : Nat → Int32), CSt tp L ord g1 g1 (tkF tp L 0) 0 op ar 0 ∧ Tch LC g g1 ∧ fI g1 23 3 = -1 ∧ fI g1 25 4 = 0 ∧ D_X5_read g (some 23) (b01 ord) = D_X5_read_33 z_F g1 (some 23) 0 := by
  have oA := onC hs (k := 4) rfl (ks := [3, 4, 6, 9]) (by decide) (b01 ord)
  have a4 : fI (wF g 23 4 (.int (b01 ord))) 23 4 = b01 ord := fI_wF_eq hs rfl _
  have wa := s_pV hs (a := 23) (ci := 5) (k := 4) rfl (by decide) (.int (b01 ord))
  generalize wF g 23 4 (.int (b01 ord)) = ga at *
  have oB := onC oA.1 (k := 3) rfl (ks := [3, 4, 6, 9]) (by decide) (-1)
  have b4 : fI (wF ga 23 3 (.int (-1))) 23 4 = b01 ord := by rw [fI_wF_ne (by decide)]; exact a4
  have b3 : fI (wF ga 23 3 (.int (-1))) 23 3 = -1 := fI_wF_eq oA.1 rfl _
  have wb := s_pV oA.1 (a := 23) (ci := 5) (k := 3) rfl (by decide) (.int (-1))
  generalize wF ga 23 3 (.int (-1)) = gb at *
  have oC := onC oB.1 (k := 6) rfl (ks := [3, 4, 6, 9]) (by decide) 0
  have c4 : fI (wF gb 23 6 (.int 0)) 23 4 = b01 ord := by rw [fI_wF_ne (by decide)]; exact b4
  have c3 : fI (wF gb 23 6 (.int 0)) 23 3 = -1 := by rw [fI_wF_ne (by decide)]; exact b3
  have c6 : fI (wF gb 23 6 (.int 0)) 23 6 = 0 := fI_wF_eq oB.1 rfl _
  have wc := s_pV oB.1 (a := 23) (ci := 5) (k := 6) rfl (by decide) (.int 0)
  generalize wF gb 23 6 (.int 0) = gc at *
  have oD := onC oC.1 (k := 9) rfl (ks := [3, 4, 6, 9]) (by decide) 0
  have d4 : fI (wF gc 23 9 (.int 0)) 23 4 = b01 ord := by rw [fI_wF_ne (by decide)]; exact c4
  have d3 : fI (wF gc 23 9 (.int 0)) 23 3 = -1 := by rw [fI_wF_ne (by decide)]; exact c3
  have d6 : fI (wF gc 23 9 (.int 0)) 23 6 = 0 := by rw [fI_wF_ne (by decide)]; exact c6
  have d9 : fI (wF gc 23 9 (.int 0)) 23 9 = 0 := fI_wF_eq oC.1 rfl _
  have wd := s_pV oC.1 (a := 23) (ci := 5) (k := 9) rfl (by decide) (.int 0)
  generalize wF gc 23 9 (.int 0) = gd at *
  have o1 : OnC [3, 4, 6, 9] g gd := oA.trans (oB.trans (oC.trans oD))
  have sd := oD.1
  have se : Sh (wF gd 25 3 (.int 0)) := Sh_wF sd rfl _
  have Te : Tch [25] gd (wF gd 25 3 (.int 0)) := Tch_wF (Tch_rfl _ _) (by decide) _ _
  have e53 : fI (wF gd 25 3 (.int 0)) 25 3 = 0 := fI_wF_eq sd rfl _
  have we := s_pV sd (a := 25) (ci := 7) (k := 3) rfl (by decide) (.int 0)
  generalize wF gd 25 3 (.int 0) = ge at *
  have sf : Sh (wF ge 25 4 (.int 0)) := Sh_wF se rfl _
  have Tf : Tch [25] ge (wF ge 25 4 (.int 0)) := Tch_wF (Tch_rfl _ _) (by decide) _ _
  have f53 : fI (wF ge 25 4 (.int 0)) 25 3 = 0 := by rw [fI_wF_ne (by decide)]; exact e53
  have f54 : fI (wF ge 25 4 (.int 0)) 25 4 = 0 := fI_wF_eq se rfl _
  have wf := s_pV se (a := 25) (ci := 7) (k := 4) rfl (by decide) (.int 0)
  generalize wF ge 25 4 (.int 0) = gf at *
  have Tef := Te.trans Tf
  have x23 : ∀ j, fI gf 23 j = fI gd 23 j := fun j => cell_fI (Tef.c (by decide)) j
  have tf : TpC tp L gf := (t.on o1 (by decide)).T Tef (by decide) (by decide)
  obtain ⟨gg, og, kg, dg⟩ := c_advance sf tf (i := 0) (Nat.zero_le _) (by rw [x23]; exact d6)
  have c25 : gg.2.2 25 = gf.2.2 25 := og.2.1.c (by decide)
  refine ⟨gg, aI gg 26, aI gg 27, ⟨og.1, Tch_rfl _ _, tf.on og (by decide), kg, by rw [cell_fI c25]; exact f53, rfl, rfl, by rw [og.2.2 9 (by decide), x23]; exact d9, by rw [og.2.2 4 (by decide), x23]; exact d4, rfl, rfl, by decide, by decide⟩, (o1.2.1.mono (by decide)).trans ((Tef.mono (by decide)).trans (og.2.1.mono (by decide))), by rw [og.2.2 3 (by decide), x23]; exact d3, by rw [cell_fI c25]; exact f54, ?_⟩
  unfold D_X5_read D_X7_clear
  have b : b01 ord = 0 ∨ b01 ord = 1 := by cases ord; left; rfl; right; rfl
  rw [if_pos b, wa, Option.bind_some, wb, Option.bind_some, wc, Option.bind_some, wd, Option.bind_some, q25 sd, Option.bind_some, o25 sd, Option.bind_some, we, Option.bind_some, wf, Option.bind_some, Option.bind_some, o23 sf, Option.bind_some, dg, Option.bind_some]
theorem m_begin (hs : Sh h) (t : TpM tp L h) (c : Cnst h) : ∃ (h1 : z_H) (K Ka : Nat → Int32), MS0 tp L ord h1 h1 (tkF tp L 0) 0 K Ka 0 ∧ OnM [81] [14, 15, 16, 17, 18, 19, 20, 21, 23, 26] h h1 ∧ fI h1 81 18 = -1 ∧ fI h1 81 21 = 0 ∧ D_X11_beginText h (some 81) (b01 ord) = some h1 := by
  have oA := onMF hs (k := 20) rfl (S := [81]) (ks := [14, 15, 16, 17, 18, 19, 20, 21, 23, 26]) (by decide) (by decide) (b01 ord)
  have a20 : fI (wF h 81 20 (.int (b01 ord))) 81 20 = b01 ord := fI_wF_eq hs rfl _
  have wa := s_pV hs (a := 81) (ci := 11) (k := 20) rfl (by decide) (.int (b01 ord))
  generalize wF h 81 20 (.int (b01 ord)) = ha at *
  have oB := onMF oA.1 (k := 15) rfl (S := [81]) (ks := [14, 15, 16, 17, 18, 19, 20, 21, 23, 26]) (by decide) (by decide) 0
  have b15 : fI (wF ha 81 15 (.int 0)) 81 15 = 0 := fI_wF_eq oA.1 rfl _
  have b20 : fI (wF ha 81 15 (.int 0)) 81 20 = b01 ord := by rw [fI_wF_ne (by decide)]; exact a20
  have wb := s_pV oA.1 (a := 81) (ci := 11) (k := 15) rfl (by decide) (.int 0)
  generalize wF ha 81 15 (.int 0) = hb at *
  have oC := onMF oB.1 (k := 19) rfl (S := [81]) (ks := [14, 15, 16, 17, 18, 19, 20, 21, 23, 26]) (by decide) (by decide) 0
  have c15 : fI (wF hb 81 19 (.int 0)) 81 15 = 0 := by rw [fI_wF_ne (by decide)]; exact b15
  have c20 : fI (wF hb 81 19 (.int 0)) 81 20 = b01 ord := by rw [fI_wF_ne (by decide)]; exact b20
  have c19 : fI (wF hb 81 19 (.int 0)) 81 19 = 0 := fI_wF_eq oB.1 rfl _
  have wc := s_pV oB.1 (a := 81) (ci := 11) (k := 19) rfl (by decide) (.int 0)
  generalize wF hb 81 19 (.int 0) = hc at *
  have oD := onMF oC.1 (k := 18) rfl (S := [81]) (ks := [14, 15, 16, 17, 18, 19, 20, 21, 23, 26]) (by decide) (by decide) (-1)
  have d15 : fI (wF hc 81 18 (.int (-1))) 81 15 = 0 := by rw [fI_wF_ne (by decide)]; exact c15
  have d20 : fI (wF hc 81 18 (.int (-1))) 81 20 = b01 ord := by rw [fI_wF_ne (by decide)]; exact c20
  have d19 : fI (wF hc 81 18 (.int (-1))) 81 19 = 0 := by rw [fI_wF_ne (by decide)]; exact c19
  have d18 : fI (wF hc 81 18 (.int (-1))) 81 18 = -1 := fI_wF_eq oC.1 rfl _
  have wd := s_pV oC.1 (a := 81) (ci := 11) (k := 18) rfl (by decide) (.int (-1))
  generalize wF hc 81 18 (.int (-1)) = hd at *
  have o1 := oA.trans (oB.trans (oC.trans oD))
  obtain ⟨he, oE, kE, dE⟩ := m_nextI oD.1 (t.on o1 (by decide) (by decide)) (i := 0) (Nat.zero_le _) d15
  have oE' := oE.mono (S' := [81]) (ks' := [14, 15, 16, 17, 18, 19, 20, 21, 23, 26]) (by decide) (by decide)
  have oF := onMF oE.1 (k := 21) rfl (S := [81]) (ks := [14, 15, 16, 17, 18, 19, 20, 21, 23, 26]) (by decide) (by decide) 0
  have f21 : fI (wF he 81 21 (.int 0)) 81 21 = 0 := fI_wF_eq oE.1 rfl _
  have ff : ∀ j, j ≠ 21 → fI (wF he 81 21 (.int 0)) 81 j = fI he 81 j := fun j hj => fI_wF_ne (by omega)
  have fj : fJ (wF he 81 21 (.int 0)) 81 17 = fJ he 81 17 := fJ_wF_ne (by decide)
  have wF' := s_pV oE.1 (a := 81) (ci := 11) (k := 21) rfl (by decide) (.int 0)
  generalize wF he 81 21 (.int 0) = hf at *
  have oG := onMF oF.1 (k := 23) rfl (S := [81]) (ks := [14, 15, 16, 17, 18, 19, 20, 21, 23, 26]) (by decide) (by decide) 0
  have g23 : fI (wF hf 81 23 (.int 0)) 81 23 = 0 := fI_wF_eq oF.1 rfl _
  have gg : ∀ j, j ≠ 23 → fI (wF hf 81 23 (.int 0)) 81 j = fI hf 81 j := fun j hj => fI_wF_ne (by omega)
  have gj : fJ (wF hf 81 23 (.int 0)) 81 17 = fJ hf 81 17 := fJ_wF_ne (by decide)
  have wG := s_pV oF.1 (a := 81) (ci := 11) (k := 23) rfl (by decide) (.int 0)
  generalize wF hf 81 23 (.int 0) = hg at *
  have oH := onMF oG.1 (k := 26) rfl (S := [81]) (ks := [14, 15, 16, 17, 18, 19, 20, 21, 23, 26]) (by decide) (by decide) 0
  have h26 : fI (wF hg 81 26 (.int 0)) 81 26 = 0 := fI_wF_eq oG.1 rfl _
  have hh : ∀ j, j ≠ 26 → fI (wF hg 81 26 (.int 0)) 81 j = fI hg 81 j := fun j hj => fI_wF_ne (by omega)
  have hj' : fJ (wF hg 81 26 (.int 0)) 81 17 = fJ hg 81 17 := fJ_wF_ne (by decide)
  have wH := s_pV oG.1 (a := 81) (ci := 11) (k := 26) rfl (by decide) (.int 0)
  generalize wF hg 81 26 (.int 0) = hz at *
  have oo := o1.trans (oE'.trans (oF.trans (oG.trans oH)))
  have fin : ∀ j, j ≠ 21 → j ≠ 23 → j ≠ 26 → fI hz 81 j = fI he 81 j := fun j a b c => by rw [hh j c, gg j b, ff j a]
  have e20 : fI hz 81 20 = b01 ord := by rw [fin 20 (by decide) (by decide) (by decide), (oE.2.2 20 (by decide)).1]; exact d20
  have e19 : fI hz 81 19 = 0 := by rw [fin 19 (by decide) (by decide) (by decide), (oE.2.2 19 (by decide)).1]; exact d19
  have e18 : fI hz 81 18 = -1 := by rw [fin 18 (by decide) (by decide) (by decide), (oE.2.2 18 (by decide)).1]; exact d18
  refine ⟨hz, aI hz 92, aI hz 93, ⟨oH.1, OnM.rfl' oH.1, t.on oo (by decide) (by decide), ⟨kE.1, by rw [fin 14 (by decide) (by decide) (by decide)]; exact kE.2.1, by rw [fin 15 (by decide) (by decide) (by decide)]; exact kE.2.2.1, by rw [fin 16 (by decide) (by decide) (by decide)]; exact kE.2.2.2.1, by rw [hj', gj, fj]; exact kE.2.2.2.2⟩, by rw [hh 23 (by decide)]; exact g23, rfl, rfl, h26, e19, e20, c.on (oo.2.1.mono (by decide)), rfl, by decide, Nat.zero_le _⟩, oo, e18, by rw [hh 21 (by decide), gg 21 (by decide)]; exact f21, ?_⟩
  unfold D_X11_beginText D_X11_begin
  have b : b01 ord = 0 ∨ b01 ord = 1 := by cases ord; left; rfl; right; rfl
  rw [if_pos b, wa, Option.bind_some, o81 oA.1, Option.bind_some, wb, Option.bind_some, wc, Option.bind_some, wd, Option.bind_some, o81 oD.1, Option.bind_some, dE, Option.bind_some, Option.bind_some, wF', Option.bind_some, wG, Option.bind_some, wH, Option.bind_some]
end F9
