theorem dX9_init_0 : decode cX9_init 0 = .ok (.aload_n 0, 1) := by decide +kernel
theorem dX9_init_1 : decode cX9_init 1 = .ok (.invokespecial 3, 3) := by decide +kernel
theorem dX9_init_4 : decode cX9_init 4 = .ok (.aload_n 0, 1) := by decide +kernel
theorem dX9_init_5 : decode cX9_init 5 = .ok (.bipush 6, 2) := by decide +kernel
theorem dX9_init_7 : decode cX9_init 7 = .ok (.newarray .int, 2) := by decide +kernel
theorem dX9_init_9 : decode cX9_init 9 = .ok (.putfield 9, 3) := by decide +kernel
theorem dX9_init_12 : decode cX9_init 12 = .ok (.aload_n 0, 1) := by decide +kernel
theorem dX9_init_13 : decode cX9_init 13 = .ok (.bipush 6, 2) := by decide +kernel
theorem dX9_init_15 : decode cX9_init 15 = .ok (.newarray .int, 2) := by decide +kernel
theorem dX9_init_17 : decode cX9_init 17 = .ok (.putfield 15, 3) := by decide +kernel
theorem dX9_init_20 : decode cX9_init 20 = .ok (.aload_n 0, 1) := by decide +kernel
theorem dX9_init_21 : decode cX9_init 21 = .ok (.bipush 6, 2) := by decide +kernel
theorem dX9_init_23 : decode cX9_init 23 = .ok (.newarray .int, 2) := by decide +kernel
theorem dX9_init_25 : decode cX9_init 25 = .ok (.putfield 18, 3) := by decide +kernel
theorem dX9_init_28 : decode cX9_init 28 = .ok (.aload_n 0, 1) := by decide +kernel
theorem dX9_init_29 : decode cX9_init 29 = .ok (.bipush 24, 2) := by decide +kernel
theorem dX9_init_31 : decode cX9_init 31 = .ok (.newarray .int, 2) := by decide +kernel
theorem dX9_init_33 : decode cX9_init 33 = .ok (.putfield 21, 3) := by decide +kernel
theorem dX9_init_36 : decode cX9_init 36 = .ok (.aload_n 0, 1) := by decide +kernel
theorem dX9_init_37 : decode cX9_init 37 = .ok (.getstatic 24, 3) := by decide +kernel
theorem dX9_init_40 : decode cX9_init 40 = .ok (.arraylength, 1) := by decide +kernel
theorem dX9_init_41 : decode cX9_init 41 = .ok (.newarray .int, 2) := by decide +kernel
theorem dX9_init_43 : decode cX9_init 43 = .ok (.putfield 27, 3) := by decide +kernel
theorem dX9_init_46 : decode cX9_init 46 = .ok (.aload_n 0, 1) := by decide +kernel
theorem dX9_init_47 : decode cX9_init 47 = .ok (.bipush 6, 2) := by decide +kernel
theorem dX9_init_49 : decode cX9_init 49 = .ok (.newarray .int, 2) := by decide +kernel
theorem dX9_init_51 : decode cX9_init 51 = .ok (.putfield 30, 3) := by decide +kernel
theorem dX9_init_54 : decode cX9_init 54 = .ok (.aload_n 0, 1) := by decide +kernel
theorem dX9_init_55 : decode cX9_init 55 = .ok (.bipush 6, 2) := by decide +kernel
theorem dX9_init_57 : decode cX9_init 57 = .ok (.newarray .int, 2) := by decide +kernel
theorem dX9_init_59 : decode cX9_init 59 = .ok (.putfield 33, 3) := by decide +kernel
theorem dX9_init_62 : decode cX9_init 62 = .ok (.aload_n 0, 1) := by decide +kernel
theorem dX9_init_63 : decode cX9_init 63 = .ok (.bipush 6, 2) := by decide +kernel
theorem dX9_init_65 : decode cX9_init 65 = .ok (.anewarray 36, 3) := by decide +kernel
theorem dX9_init_68 : decode cX9_init 68 = .ok (.putfield 38, 3) := by decide +kernel
theorem dX9_init_71 : decode cX9_init 71 = .ok (.aload_n 0, 1) := by decide +kernel
theorem dX9_init_72 : decode cX9_init 72 = .ok (.iconst 0, 1) := by decide +kernel
theorem dX9_init_73 : decode cX9_init 73 = .ok (.putfield 42, 3) := by decide +kernel
theorem dX9_init_76 : decode cX9_init 76 = .ok (.aload_n 0, 1) := by decide +kernel
theorem dX9_init_77 : decode cX9_init 77 = .ok (.iconst 0, 1) := by decide +kernel
theorem dX9_init_78 : decode cX9_init 78 = .ok (.putfield 46, 3) := by decide +kernel
theorem dX9_init_81 : decode cX9_init 81 = .ok (.aload_n 0, 1) := by decide +kernel
theorem dX9_init_82 : decode cX9_init 82 = .ok (.iconst 0, 1) := by decide +kernel
theorem dX9_init_83 : decode cX9_init 83 = .ok (.putfield 49, 3) := by decide +kernel
theorem dX9_init_86 : decode cX9_init 86 = .ok (.aload_n 0, 1) := by decide +kernel
theorem dX9_init_87 : decode cX9_init 87 = .ok (.iconst 0, 1) := by decide +kernel
theorem dX9_init_88 : decode cX9_init 88 = .ok (.putfield 52, 3) := by decide +kernel
theorem dX9_init_91 : decode cX9_init 91 = .ok (.aload_n 0, 1) := by decide +kernel
theorem dX9_init_92 : decode cX9_init 92 = .ok (.iconst (-1), 1) := by decide +kernel
theorem dX9_init_93 : decode cX9_init 93 = .ok (.putfield 55, 3) := by decide +kernel
theorem dX9_init_96 : decode cX9_init 96 = .ok (.aload_n 0, 1) := by decide +kernel
theorem dX9_init_97 : decode cX9_init 97 = .ok (.getfield 27, 3) := by decide +kernel
theorem dX9_init_100 : decode cX9_init 100 = .ok (.iconst 1, 1) := by decide +kernel
theorem dX9_init_101 : decode cX9_init 101 = .ok (.iconst 1, 1) := by decide +kernel
theorem dX9_init_102 : decode cX9_init 102 = .ok (.iastore, 1) := by decide +kernel
theorem dX9_init_103 : decode cX9_init 103 = .ok (.return_, 1) := by decide +kernel
def D_X9_init (h : z_H) (l0 : Option Nat) : Option z_H :=
  if l0 = none then none else
  (z_nI h (6:Int32)).bind fun h2 =>
  (z_pV 9 h2 l0 0 (z_r (some h.1))).bind fun h3 =>
  (z_nI h3 (6:Int32)).bind fun h4 =>
  (z_pV 9 h4 l0 1 (z_r (some h3.1))).bind fun h5 =>
  (z_nI h5 (6:Int32)).bind fun h6 =>
  (z_pV 9 h6 l0 2 (z_r (some h5.1))).bind fun h7 =>
  (z_nI h7 (24:Int32)).bind fun h8 =>
  (z_pV 9 h8 l0 3 (z_r (some h7.1))).bind fun h9 =>
  (z_nI h9 (Int32.ofNat (z_xs 1).1)).bind fun h10 =>
  (z_pV 9 h10 l0 4 (z_r (some h9.1))).bind fun h11 =>
  (z_nI h11 (6:Int32)).bind fun h12 =>
  (z_pV 9 h12 l0 5 (z_r (some h11.1))).bind fun h13 =>
  (z_nI h13 (6:Int32)).bind fun h14 =>
  (z_pV 9 h14 l0 6 (z_r (some h13.1))).bind fun h15 =>
  (z_nQ RX7 h15 (6:Int32)).bind fun h16 =>
  (z_pV 9 h16 l0 7 (z_r (some h15.1))).bind fun h17 =>
  (z_pV 9 h17 l0 8 (.int (0:Int32))).bind fun h18 =>
  (z_pV 9 h18 l0 9 (.int (0:Int32))).bind fun h19 =>
  (z_pV 9 h19 l0 10 (.int (0:Int32))).bind fun h20 =>
  (z_pV 9 h20 l0 11 (.int (0:Int32))).bind fun h21 =>
  (z_pV 9 h21 l0 12 (.int (-1:Int32))).bind fun h22 =>
  (z_gQ 9 h22 l0 4).bind fun x23 =>
  (z_sI h22 x23 (1:Int32) (1:Int32)).bind fun h24 =>
  some h24
set_option maxRecDepth 100000 in
set_option maxHeartbeats 4000000 in
theorem S_X9_init {G : z_G} {l : Launch} {h : z_H} {l0 : Option Nat} {res : z_H} (e : D_X9_init h l0 = some res) : z_Meth G l 4 M_X9_init [z_r l0] h res none := by
  refine z_Meth.of ck_X9_init.2.2.2.2 (by simp [lg_sl, z_ci, z_cj, z_cr, z_cx]) ck_X9_init.1 ?_
  rw [show lv_args 0 [z_r l0] = [(0, z_r l0)] from by simp [lv_args, z_ci, z_cj, z_cr, z_cx]]
  unfold D_X9_init at e
  refine z_aload_n 0 dX9_init_0 rfl ?_
  replace e := z_ifn e; obtain ⟨c1, e⟩ := e
  refine z_obj c1 (q := l0) ml_X9_3 (Nat.zero_le _) (by decide) dX9_init_1 ?_
  refine z_aload_n 0 dX9_init_4 rfl ?_
  refine z_bipush (v := 6) dX9_init_5 (by decide) ?_
  replace e := z_bd e; obtain ⟨h2, eh2, e⟩ := e
  refine z_nwI eh2 ac_int dX9_init_7 ?_
  replace e := z_bd e; obtain ⟨h3, eh3, e⟩ := e
  refine z_putF eh3 lk_X9_9 wk_9_0 (fun _ _ _ q => by cases q; rfl) rfl (fun G => (z_nr (Or.inr ⟨_, rfl⟩) _ G).1) (fun G => (z_nr (Or.inr ⟨_, rfl⟩) _ G).2) dX9_init_9 ?_
  refine z_aload_n 0 dX9_init_12 rfl ?_
  refine z_bipush (v := 6) dX9_init_13 (by decide) ?_
  replace e := z_bd e; obtain ⟨h4, eh4, e⟩ := e
  refine z_nwI eh4 ac_int dX9_init_15 ?_
  replace e := z_bd e; obtain ⟨h5, eh5, e⟩ := e
  refine z_putF eh5 lk_X9_15 wk_9_1 (fun _ _ _ q => by cases q; rfl) rfl (fun G => (z_nr (Or.inr ⟨_, rfl⟩) _ G).1) (fun G => (z_nr (Or.inr ⟨_, rfl⟩) _ G).2) dX9_init_17 ?_
  refine z_aload_n 0 dX9_init_20 rfl ?_
  refine z_bipush (v := 6) dX9_init_21 (by decide) ?_
  replace e := z_bd e; obtain ⟨h6, eh6, e⟩ := e
  refine z_nwI eh6 ac_int dX9_init_23 ?_
  replace e := z_bd e; obtain ⟨h7, eh7, e⟩ := e
  refine z_putF eh7 lk_X9_18 wk_9_2 (fun _ _ _ q => by cases q; rfl) rfl (fun G => (z_nr (Or.inr ⟨_, rfl⟩) _ G).1) (fun G => (z_nr (Or.inr ⟨_, rfl⟩) _ G).2) dX9_init_25 ?_
  refine z_aload_n 0 dX9_init_28 rfl ?_
  refine z_bipush (v := 24) dX9_init_29 (by decide) ?_
  replace e := z_bd e; obtain ⟨h8, eh8, e⟩ := e
  refine z_nwI eh8 ac_int dX9_init_31 ?_
  replace e := z_bd e; obtain ⟨h9, eh9, e⟩ := e
  refine z_putF eh9 lk_X9_21 wk_9_3 (fun _ _ _ q => by cases q; rfl) rfl (fun G => (z_nr (Or.inr ⟨_, rfl⟩) _ G).1) (fun G => (z_nr (Or.inr ⟨_, rfl⟩) _ G).2) dX9_init_33 ?_
  refine z_aload_n 0 dX9_init_36 rfl ?_
  refine z_getsN (q := (1, "TERM_MOST", 0)) (host := "SoleReader") (by decide) (by decide +kernel) dX9_init_37 ?_
  refine z_xlen (p0 := (z_xs 1)) rfl dX9_init_40 ?_
  replace e := z_bd e; obtain ⟨h10, eh10, e⟩ := e
  refine z_nwI eh10 ac_int dX9_init_41 ?_
  replace e := z_bd e; obtain ⟨h11, eh11, e⟩ := e
  refine z_putF eh11 lk_X9_27 wk_9_4 (fun _ _ _ q => by cases q; rfl) rfl (fun G => (z_nr (Or.inr ⟨_, rfl⟩) _ G).1) (fun G => (z_nr (Or.inr ⟨_, rfl⟩) _ G).2) dX9_init_43 ?_
  refine z_aload_n 0 dX9_init_46 rfl ?_
  refine z_bipush (v := 6) dX9_init_47 (by decide) ?_
  replace e := z_bd e; obtain ⟨h12, eh12, e⟩ := e
  refine z_nwI eh12 ac_int dX9_init_49 ?_
  replace e := z_bd e; obtain ⟨h13, eh13, e⟩ := e
  refine z_putF eh13 lk_X9_30 wk_9_5 (fun _ _ _ q => by cases q; rfl) rfl (fun G => (z_nr (Or.inr ⟨_, rfl⟩) _ G).1) (fun G => (z_nr (Or.inr ⟨_, rfl⟩) _ G).2) dX9_init_51 ?_
  refine z_aload_n 0 dX9_init_54 rfl ?_
  refine z_bipush (v := 6) dX9_init_55 (by decide) ?_
  replace e := z_bd e; obtain ⟨h14, eh14, e⟩ := e
  refine z_nwI eh14 ac_int dX9_init_57 ?_
  replace e := z_bd e; obtain ⟨h15, eh15, e⟩ := e
  refine z_putF eh15 lk_X9_33 wk_9_6 (fun _ _ _ q => by cases q; rfl) rfl (fun G => (z_nr (Or.inr ⟨_, rfl⟩) _ G).1) (fun G => (z_nr (Or.inr ⟨_, rfl⟩) _ G).2) dX9_init_59 ?_
  refine z_aload_n 0 dX9_init_62 rfl ?_
  refine z_bipush (v := 6) dX9_init_63 (by decide) ?_
  replace e := z_bd e; obtain ⟨h16, eh16, e⟩ := e
  refine z_nwQ 4 rfl (Or.inr rfl) eh16 cl_X9_36 dX9_init_65 ?_
  replace e := z_bd e; obtain ⟨h17, eh17, e⟩ := e
  refine z_putF eh17 lk_X9_38 wk_9_7 (fun _ _ _ q => by cases q; rfl) rfl (fun G => (z_nr (Or.inr ⟨_, rfl⟩) _ G).1) (fun G => (z_nr (Or.inr ⟨_, rfl⟩) _ G).2) dX9_init_68 ?_
  refine z_aload_n 0 dX9_init_71 rfl ?_
  refine z_iconst (v := 0) dX9_init_72 (by decide) ?_
  replace e := z_bd e; obtain ⟨h18, eh18, e⟩ := e
  refine z_putV eh18 lk_X9_42 wk_9_8 (fun _ => rfl) (fun _ => rfl) dX9_init_73 ?_
  refine z_aload_n 0 dX9_init_76 rfl ?_
  refine z_iconst (v := 0) dX9_init_77 (by decide) ?_
  replace e := z_bd e; obtain ⟨h19, eh19, e⟩ := e
  refine z_putV eh19 lk_X9_46 wk_9_9 (fun _ => rfl) (fun _ => rfl) dX9_init_78 ?_
  refine z_aload_n 0 dX9_init_81 rfl ?_
  refine z_iconst (v := 0) dX9_init_82 (by decide) ?_
  replace e := z_bd e; obtain ⟨h20, eh20, e⟩ := e
  refine z_putV eh20 lk_X9_49 wk_9_10 (fun _ => rfl) (fun _ => rfl) dX9_init_83 ?_
  refine z_aload_n 0 dX9_init_86 rfl ?_
  refine z_iconst (v := 0) dX9_init_87 (by decide) ?_
  replace e := z_bd e; obtain ⟨h21, eh21, e⟩ := e
  refine z_putV eh21 lk_X9_52 wk_9_11 (fun _ => rfl) (fun _ => rfl) dX9_init_88 ?_
  refine z_aload_n 0 dX9_init_91 rfl ?_
  refine z_iconst (v := -1) dX9_init_92 (by decide) ?_
  replace e := z_bd e; obtain ⟨h22, eh22, e⟩ := e
  refine z_putV eh22 lk_X9_55 wk_9_12 (fun _ => rfl) (fun _ => rfl) dX9_init_93 ?_
  refine z_aload_n 0 dX9_init_96 rfl ?_
  replace e := z_bd e; obtain ⟨x23, ex23, e⟩ := e
  refine z_getQ ex23 lk_X9_27 dX9_init_97 ?_
  refine z_iconst (v := 1) dX9_init_100 (by decide) ?_
  refine z_iconst (v := 1) dX9_init_101 (by decide) ?_
  replace e := z_bd e; obtain ⟨h24, eh24, e⟩ := e
  refine z_iast eh24 dX9_init_102 ?_
  cases e
  exact z_vret dX9_init_103 rfl
theorem dX8_init_0 : decode cX8_init 0 = .ok (.aload_n 0, 1) := by decide +kernel
theorem dX8_init_1 : decode cX8_init 1 = .ok (.invokespecial 3, 3) := by decide +kernel
theorem dX8_init_4 : decode cX8_init 4 = .ok (.aload_n 0, 1) := by decide +kernel
theorem dX8_init_5 : decode cX8_init 5 = .ok (.bipush 112, 2) := by decide +kernel
theorem dX8_init_7 : decode cX8_init 7 = .ok (.newarray .int, 2) := by decide +kernel
theorem dX8_init_9 : decode cX8_init 9 = .ok (.putfield 11, 3) := by decide +kernel
theorem dX8_init_12 : decode cX8_init 12 = .ok (.aload_n 0, 1) := by decide +kernel
theorem dX8_init_13 : decode cX8_init 13 = .ok (.iconst 0, 1) := by decide +kernel
theorem dX8_init_14 : decode cX8_init 14 = .ok (.putfield 15, 3) := by decide +kernel
theorem dX8_init_17 : decode cX8_init 17 = .ok (.return_, 1) := by decide +kernel
def D_X8_init (h : z_H) (l0 : Option Nat) : Option z_H :=
  if l0 = none then none else
  (z_nI h (112:Int32)).bind fun h26 =>
  (z_pV 8 h26 l0 0 (z_r (some h.1))).bind fun h27 =>
  (z_pV 8 h27 l0 1 (.int (0:Int32))).bind fun h28 =>
  some h28
set_option maxRecDepth 100000 in
set_option maxHeartbeats 4000000 in
theorem S_X8_init {G : z_G} {l : Launch} {h : z_H} {l0 : Option Nat} {res : z_H} (e : D_X8_init h l0 = some res) : z_Meth G l 4 M_X8_init [z_r l0] h res none := by
  refine z_Meth.of ck_X8_init.2.2.2.2 (by simp [lg_sl, z_ci, z_cj, z_cr, z_cx]) ck_X8_init.1 ?_
  rw [show lv_args 0 [z_r l0] = [(0, z_r l0)] from by simp [lv_args, z_ci, z_cj, z_cr, z_cx]]
  unfold D_X8_init at e
  refine z_aload_n 0 dX8_init_0 rfl ?_
  replace e := z_ifn e; obtain ⟨c25, e⟩ := e
  refine z_obj c25 (q := l0) ml_X8_3 (Nat.zero_le _) (by decide) dX8_init_1 ?_
  refine z_aload_n 0 dX8_init_4 rfl ?_
  refine z_bipush (v := 112) dX8_init_5 (by decide) ?_
  replace e := z_bd e; obtain ⟨h26, eh26, e⟩ := e
  refine z_nwI eh26 ac_int dX8_init_7 ?_
  replace e := z_bd e; obtain ⟨h27, eh27, e⟩ := e
  refine z_putF eh27 lk_X8_11 wk_8_0 (fun _ _ _ q => by cases q; rfl) rfl (fun G => (z_nr (Or.inr ⟨_, rfl⟩) _ G).1) (fun G => (z_nr (Or.inr ⟨_, rfl⟩) _ G).2) dX8_init_9 ?_
  refine z_aload_n 0 dX8_init_12 rfl ?_
  refine z_iconst (v := 0) dX8_init_13 (by decide) ?_
  replace e := z_bd e; obtain ⟨h28, eh28, e⟩ := e
  refine z_putV eh28 lk_X8_15 wk_8_1 (fun _ => rfl) (fun _ => rfl) dX8_init_14 ?_
  cases e
  exact z_vret dX8_init_17 rfl
theorem dX7_init_0 : decode cX7_init 0 = .ok (.aload_n 0, 1) := by decide +kernel
theorem dX7_init_1 : decode cX7_init 1 = .ok (.invokespecial 1, 3) := by decide +kernel
theorem dX7_init_4 : decode cX7_init 4 = .ok (.aload_n 0, 1) := by decide +kernel
theorem dX7_init_5 : decode cX7_init 5 = .ok (.iconst 0, 1) := by decide +kernel
theorem dX7_init_6 : decode cX7_init 6 = .ok (.putfield 7, 3) := by decide +kernel
theorem dX7_init_9 : decode cX7_init 9 = .ok (.aload_n 0, 1) := by decide +kernel
theorem dX7_init_10 : decode cX7_init 10 = .ok (.iconst 0, 1) := by decide +kernel
theorem dX7_init_11 : decode cX7_init 11 = .ok (.putfield 13, 3) := by decide +kernel
theorem dX7_init_14 : decode cX7_init 14 = .ok (.aload_n 0, 1) := by decide +kernel
theorem dX7_init_15 : decode cX7_init 15 = .ok (.iload_n 1, 1) := by decide +kernel
theorem dX7_init_16 : decode cX7_init 16 = .ok (.newarray .int, 2) := by decide +kernel
theorem dX7_init_18 : decode cX7_init 18 = .ok (.putfield 16, 3) := by decide +kernel
theorem dX7_init_21 : decode cX7_init 21 = .ok (.aload_n 0, 1) := by decide +kernel
theorem dX7_init_22 : decode cX7_init 22 = .ok (.iload_n 1, 1) := by decide +kernel
theorem dX7_init_23 : decode cX7_init 23 = .ok (.newarray .int, 2) := by decide +kernel
theorem dX7_init_25 : decode cX7_init 25 = .ok (.putfield 20, 3) := by decide +kernel
theorem dX7_init_28 : decode cX7_init 28 = .ok (.aload_n 0, 1) := by decide +kernel
theorem dX7_init_29 : decode cX7_init 29 = .ok (.iload_n 2, 1) := by decide +kernel
theorem dX7_init_30 : decode cX7_init 30 = .ok (.bipush 6, 2) := by decide +kernel
theorem dX7_init_32 : decode cX7_init 32 = .ok (.imul, 1) := by decide +kernel
theorem dX7_init_33 : decode cX7_init 33 = .ok (.newarray .int, 2) := by decide +kernel
theorem dX7_init_35 : decode cX7_init 35 = .ok (.putfield 23, 3) := by decide +kernel
theorem dX7_init_38 : decode cX7_init 38 = .ok (.return_, 1) := by decide +kernel
def D_X7_init (h : z_H) (l0 : Option Nat) (l1 : Int32) (l2 : Int32) : Option z_H :=
  if l0 = none then none else
  (z_pV 7 h l0 3 (.int (0:Int32))).bind fun h30 =>
  (z_pV 7 h30 l0 4 (.int (0:Int32))).bind fun h31 =>
  (z_nI h31 l1).bind fun h32 =>
  (z_pV 7 h32 l0 0 (z_r (some h31.1))).bind fun h33 =>
  (z_nI h33 l1).bind fun h34 =>
  (z_pV 7 h34 l0 1 (z_r (some h33.1))).bind fun h35 =>
  (z_nI h35 (l2 * (6:Int32))).bind fun h36 =>
  (z_pV 7 h36 l0 2 (z_r (some h35.1))).bind fun h37 =>
  some h37
set_option maxRecDepth 100000 in
set_option maxHeartbeats 4000000 in
theorem S_X7_init {G : z_G} {l : Launch} {h : z_H} {l0 : Option Nat} {l1 : Int32} {l2 : Int32} {res : z_H} (e : D_X7_init h l0 l1 l2 = some res) : z_Meth G l 4 M_X7_init [z_r l0, .int l1, .int l2] h res none := by
  refine z_Meth.of ck_X7_init.2.2.2.2 (by simp [lg_sl, z_ci, z_cj, z_cr, z_cx]) ck_X7_init.1 ?_
  rw [show lv_args 0 [z_r l0, .int l1, .int l2] = [(0, z_r l0), (1, .int l1), (2, .int l2)] from by simp [lv_args, z_ci, z_cj, z_cr, z_cx]]
  unfold D_X7_init at e
  refine z_aload_n 0 dX7_init_0 rfl ?_
  replace e := z_ifn e; obtain ⟨c29, e⟩ := e
  refine z_obj c29 (q := l0) ml_X7_1 (Nat.zero_le _) (by decide) dX7_init_1 ?_
  refine z_aload_n 0 dX7_init_4 rfl ?_
  refine z_iconst (v := 0) dX7_init_5 (by decide) ?_
  replace e := z_bd e; obtain ⟨h30, eh30, e⟩ := e
  refine z_putV eh30 lk_X7_7 wk_7_3 (fun _ => rfl) (fun _ => rfl) dX7_init_6 ?_
  refine z_aload_n 0 dX7_init_9 rfl ?_
  refine z_iconst (v := 0) dX7_init_10 (by decide) ?_
  replace e := z_bd e; obtain ⟨h31, eh31, e⟩ := e
  refine z_putV eh31 lk_X7_13 wk_7_4 (fun _ => rfl) (fun _ => rfl) dX7_init_11 ?_
  refine z_aload_n 0 dX7_init_14 rfl ?_
  refine z_iload_n 1 dX7_init_15 rfl ?_
  replace e := z_bd e; obtain ⟨h32, eh32, e⟩ := e
  refine z_nwI eh32 ac_int dX7_init_16 ?_
  replace e := z_bd e; obtain ⟨h33, eh33, e⟩ := e
  refine z_putF eh33 lk_X7_16 wk_7_0 (fun _ _ _ q => by cases q; rfl) rfl (fun G => (z_nr (Or.inr ⟨_, rfl⟩) _ G).1) (fun G => (z_nr (Or.inr ⟨_, rfl⟩) _ G).2) dX7_init_18 ?_
  refine z_aload_n 0 dX7_init_21 rfl ?_
  refine z_iload_n 1 dX7_init_22 rfl ?_
  replace e := z_bd e; obtain ⟨h34, eh34, e⟩ := e
  refine z_nwI eh34 ac_int dX7_init_23 ?_
  replace e := z_bd e; obtain ⟨h35, eh35, e⟩ := e
  refine z_putF eh35 lk_X7_20 wk_7_1 (fun _ _ _ q => by cases q; rfl) rfl (fun G => (z_nr (Or.inr ⟨_, rfl⟩) _ G).1) (fun G => (z_nr (Or.inr ⟨_, rfl⟩) _ G).2) dX7_init_25 ?_
  refine z_aload_n 0 dX7_init_28 rfl ?_
  refine z_iload_n 2 dX7_init_29 rfl ?_
  refine z_bipush (v := 6) dX7_init_30 (by decide) ?_
  refine z_imul dX7_init_32 ?_
  replace e := z_bd e; obtain ⟨h36, eh36, e⟩ := e
  refine z_nwI eh36 ac_int dX7_init_33 ?_
  replace e := z_bd e; obtain ⟨h37, eh37, e⟩ := e
  refine z_putF eh37 lk_X7_23 wk_7_2 (fun _ _ _ q => by cases q; rfl) rfl (fun G => (z_nr (Or.inr ⟨_, rfl⟩) _ G).1) (fun G => (z_nr (Or.inr ⟨_, rfl⟩) _ G).2) dX7_init_35 ?_
  cases e
  exact z_vret dX7_init_38 rfl
theorem dX5_init_0 : decode cX5_init 0 = .ok (.aload_n 0, 1) := by decide +kernel
theorem dX5_init_1 : decode cX5_init 1 = .ok (.invokespecial 3, 3) := by decide +kernel
theorem dX5_init_4 : decode cX5_init 4 = .ok (.aload_n 0, 1) := by decide +kernel
theorem dX5_init_5 : decode cX5_init 5 = .ok (.sipush 400, 3) := by decide +kernel
theorem dX5_init_8 : decode cX5_init 8 = .ok (.newarray .int, 2) := by decide +kernel
theorem dX5_init_10 : decode cX5_init 10 = .ok (.putfield 9, 3) := by decide +kernel
theorem dX5_init_13 : decode cX5_init 13 = .ok (.aload_n 0, 1) := by decide +kernel
theorem dX5_init_14 : decode cX5_init 14 = .ok (.new 15, 3) := by decide +kernel
theorem dX5_init_17 : decode cX5_init 17 = .ok (.dup, 1) := by decide +kernel
theorem dX5_init_18 : decode cX5_init 18 = .ok (.sipush 400, 3) := by decide +kernel
theorem dX5_init_21 : decode cX5_init 21 = .ok (.bipush 12, 2) := by decide +kernel
theorem dX5_init_23 : decode cX5_init 23 = .ok (.invokespecial 17, 3) := by decide +kernel
theorem dX5_init_26 : decode cX5_init 26 = .ok (.putfield 20, 3) := by decide +kernel
theorem dX5_init_29 : decode cX5_init 29 = .ok (.aload_n 0, 1) := by decide +kernel
theorem dX5_init_30 : decode cX5_init 30 = .ok (.iconst 0, 1) := by decide +kernel
theorem dX5_init_31 : decode cX5_init 31 = .ok (.putfield 24, 3) := by decide +kernel
theorem dX5_init_34 : decode cX5_init 34 = .ok (.aload_n 0, 1) := by decide +kernel
theorem dX5_init_35 : decode cX5_init 35 = .ok (.iconst (-1), 1) := by decide +kernel
theorem dX5_init_36 : decode cX5_init 36 = .ok (.putfield 28, 3) := by decide +kernel
theorem dX5_init_39 : decode cX5_init 39 = .ok (.aload_n 0, 1) := by decide +kernel
theorem dX5_init_40 : decode cX5_init 40 = .ok (.iconst 0, 1) := by decide +kernel
theorem dX5_init_41 : decode cX5_init 41 = .ok (.putfield 31, 3) := by decide +kernel
theorem dX5_init_44 : decode cX5_init 44 = .ok (.aload_n 0, 1) := by decide +kernel
theorem dX5_init_45 : decode cX5_init 45 = .ok (.iconst 0, 1) := by decide +kernel
theorem dX5_init_46 : decode cX5_init 46 = .ok (.putfield 35, 3) := by decide +kernel
theorem dX5_init_49 : decode cX5_init 49 = .ok (.aload_n 0, 1) := by decide +kernel
theorem dX5_init_50 : decode cX5_init 50 = .ok (.iconst 0, 1) := by decide +kernel
theorem dX5_init_51 : decode cX5_init 51 = .ok (.putfield 38, 3) := by decide +kernel
theorem dX5_init_54 : decode cX5_init 54 = .ok (.aload_n 0, 1) := by decide +kernel
theorem dX5_init_55 : decode cX5_init 55 = .ok (.iconst 3, 1) := by decide +kernel
theorem dX5_init_56 : decode cX5_init 56 = .ok (.putfield 41, 3) := by decide +kernel
theorem dX5_init_59 : decode cX5_init 59 = .ok (.aload_n 0, 1) := by decide +kernel
theorem dX5_init_60 : decode cX5_init 60 = .ok (.iconst 0, 1) := by decide +kernel
theorem dX5_init_61 : decode cX5_init 61 = .ok (.putfield 44, 3) := by decide +kernel
theorem dX5_init_64 : decode cX5_init 64 = .ok (.aload_n 0, 1) := by decide +kernel
theorem dX5_init_65 : decode cX5_init 65 = .ok (.iconst 0, 1) := by decide +kernel
theorem dX5_init_66 : decode cX5_init 66 = .ok (.putfield 47, 3) := by decide +kernel
theorem dX5_init_69 : decode cX5_init 69 = .ok (.return_, 1) := by decide +kernel
def D_X5_init (h : z_H) (l0 : Option Nat) : Option z_H :=
  if l0 = none then none else
  (z_nI h (400:Int32)).bind fun h39 =>
  (z_pV 5 h39 l0 0 (z_r (some h.1))).bind fun h40 =>
  (some (z_new h40 5 (.inr (7, [.null, .null, .null, .int 0, .int 0])))).bind fun h41 =>
  (D_X7_init  h41 (some h40.1) (400:Int32) (12:Int32)).bind fun p42 =>
  (z_pV 5 p42 l0 1 (z_r (some h40.1))).bind fun h43 =>
  (z_pV 5 h43 l0 2 (.int (0:Int32))).bind fun h44 =>
  (z_pV 5 h44 l0 3 (.int (-1:Int32))).bind fun h45 =>
  (z_pV 5 h45 l0 4 (.int (0:Int32))).bind fun h46 =>
  (z_pV 5 h46 l0 5 (.int (0:Int32))).bind fun h47 =>
  (z_pV 5 h47 l0 6 (.int (0:Int32))).bind fun h48 =>
  (z_pV 5 h48 l0 7 (.int (3:Int32))).bind fun h49 =>
  (z_pV 5 h49 l0 8 (.int (0:Int32))).bind fun h50 =>
  (z_pV 5 h50 l0 9 (.int (0:Int32))).bind fun h51 =>
  some h51
set_option maxRecDepth 100000 in
set_option maxHeartbeats 4000000 in
theorem S_X5_init {G : z_G} {l : Launch} {h : z_H} {l0 : Option Nat} {res : z_H} (e : D_X5_init h l0 = some res) : z_Meth G l 5 M_X5_init [z_r l0] h res none := by
  refine z_Meth.of ck_X5_init.2.2.2.2 (by simp [lg_sl, z_ci, z_cj, z_cr, z_cx]) ck_X5_init.1 ?_
  rw [show lv_args 0 [z_r l0] = [(0, z_r l0)] from by simp [lv_args, z_ci, z_cj, z_cr, z_cx]]
  unfold D_X5_init at e
  refine z_aload_n 0 dX5_init_0 rfl ?_
  replace e := z_ifn e; obtain ⟨c38, e⟩ := e
  refine z_obj c38 (q := l0) ml_X5_3 (Nat.zero_le _) (by decide) dX5_init_1 ?_
  refine z_aload_n 0 dX5_init_4 rfl ?_
  refine z_sipush (v := 400) dX5_init_5 (by decide) ?_
  replace e := z_bd e; obtain ⟨h39, eh39, e⟩ := e
  refine z_nwI eh39 ac_int dX5_init_8 ?_
  replace e := z_bd e; obtain ⟨h40, eh40, e⟩ := e
  refine z_putF eh40 lk_X5_9 wk_5_0 (fun _ _ _ q => by cases q; rfl) rfl (fun G => (z_nr (Or.inr ⟨_, rfl⟩) _ G).1) (fun G => (z_nr (Or.inr ⟨_, rfl⟩) _ G).2) dX5_init_10 ?_
  refine z_aload_n 0 dX5_init_13 rfl ?_
  replace e := z_bd e; obtain ⟨h41, eh41, e⟩ := e
  refine z_newE eh41 nk_X5_15 dX5_init_14 ?_
  refine z_dup dX5_init_17 (z_cr _) ?_
  refine z_sipush (v := 400) dX5_init_18 (by decide) ?_
  refine z_bipush (v := 12) dX5_init_21 (by decide) ?_
  replace e := z_bd e; obtain ⟨p42, ep42, e⟩ := e
  refine z_cI' [.int (400:Int32), .int (12:Int32)] (S_X7_init  ep42) rfl ml_X5_17 ck_X7_init im_X7_init rfl dX5_init_23 (by decide) rfl (by simp [z_ci, z_cj, z_cr, z_cx]) rfl ?_
  replace e := z_bd e; obtain ⟨h43, eh43, e⟩ := e
  refine z_putF eh43 lk_X5_20 wk_5_1 (fun _ _ _ q => by cases q; rfl) rfl (fun G => (z_nr (Or.inl ⟨_, rfl⟩) _ G).1) (fun G => (z_nr (Or.inl ⟨_, rfl⟩) _ G).2) dX5_init_26 ?_
  refine z_aload_n 0 dX5_init_29 rfl ?_
  refine z_iconst (v := 0) dX5_init_30 (by decide) ?_
  replace e := z_bd e; obtain ⟨h44, eh44, e⟩ := e
  refine z_putV eh44 lk_X5_24 wk_5_2 (fun _ => rfl) (fun _ => rfl) dX5_init_31 ?_
  refine z_aload_n 0 dX5_init_34 rfl ?_
  refine z_iconst (v := -1) dX5_init_35 (by decide) ?_
  replace e := z_bd e; obtain ⟨h45, eh45, e⟩ := e
  refine z_putV eh45 lk_X5_28 wk_5_3 (fun _ => rfl) (fun _ => rfl) dX5_init_36 ?_
  refine z_aload_n 0 dX5_init_39 rfl ?_
  refine z_iconst (v := 0) dX5_init_40 (by decide) ?_
  replace e := z_bd e; obtain ⟨h46, eh46, e⟩ := e
  refine z_putV eh46 lk_X5_31 wk_5_4 (fun _ => (z_nz (Or.inl rfl)).1) (fun _ => (z_nz (Or.inl rfl)).2) dX5_init_41 ?_
  refine z_aload_n 0 dX5_init_44 rfl ?_
  refine z_iconst (v := 0) dX5_init_45 (by decide) ?_
  replace e := z_bd e; obtain ⟨h47, eh47, e⟩ := e
  refine z_putV eh47 lk_X5_35 wk_5_5 (fun _ => rfl) (fun _ => rfl) dX5_init_46 ?_
  refine z_aload_n 0 dX5_init_49 rfl ?_
  refine z_iconst (v := 0) dX5_init_50 (by decide) ?_
  replace e := z_bd e; obtain ⟨h48, eh48, e⟩ := e
  refine z_putV eh48 lk_X5_38 wk_5_6 (fun _ => rfl) (fun _ => rfl) dX5_init_51 ?_
  refine z_aload_n 0 dX5_init_54 rfl ?_
  refine z_iconst (v := 3) dX5_init_55 (by decide) ?_
  replace e := z_bd e; obtain ⟨h49, eh49, e⟩ := e
  refine z_putV eh49 lk_X5_41 wk_5_7 (fun _ => rfl) (fun _ => rfl) dX5_init_56 ?_
  refine z_aload_n 0 dX5_init_59 rfl ?_
  refine z_iconst (v := 0) dX5_init_60 (by decide) ?_
  replace e := z_bd e; obtain ⟨h50, eh50, e⟩ := e
  refine z_putV eh50 lk_X5_44 wk_5_8 (fun _ => rfl) (fun _ => rfl) dX5_init_61 ?_
  refine z_aload_n 0 dX5_init_64 rfl ?_
  refine z_iconst (v := 0) dX5_init_65 (by decide) ?_
  replace e := z_bd e; obtain ⟨h51, eh51, e⟩ := e
  refine z_putV eh51 lk_X5_47 wk_5_9 (fun _ => rfl) (fun _ => rfl) dX5_init_66 ?_
  cases e
  exact z_vret dX5_init_69 rfl
theorem dX1_init_0 : decode cX1_init 0 = .ok (.aload_n 0, 1) := by decide +kernel
theorem dX1_init_1 : decode cX1_init 1 = .ok (.invokespecial 3, 3) := by decide +kernel
theorem dX1_init_4 : decode cX1_init 4 = .ok (.aload_n 0, 1) := by decide +kernel
theorem dX1_init_5 : decode cX1_init 5 = .ok (.bipush 23, 2) := by decide +kernel
theorem dX1_init_7 : decode cX1_init 7 = .ok (.newarray .int, 2) := by decide +kernel
theorem dX1_init_9 : decode cX1_init 9 = .ok (.putfield 9, 3) := by decide +kernel
theorem dX1_init_12 : decode cX1_init 12 = .ok (.aload_n 0, 1) := by decide +kernel
theorem dX1_init_13 : decode cX1_init 13 = .ok (.bipush 51, 2) := by decide +kernel
theorem dX1_init_15 : decode cX1_init 15 = .ok (.newarray .long, 2) := by decide +kernel
theorem dX1_init_17 : decode cX1_init 17 = .ok (.putfield 15, 3) := by decide +kernel
theorem dX1_init_20 : decode cX1_init 20 = .ok (.aload_n 0, 1) := by decide +kernel
theorem dX1_init_21 : decode cX1_init 21 = .ok (.iconst 0, 1) := by decide +kernel
theorem dX1_init_22 : decode cX1_init 22 = .ok (.putfield 19, 3) := by decide +kernel
theorem dX1_init_25 : decode cX1_init 25 = .ok (.return_, 1) := by decide +kernel
def D_X1_init (h : z_H) (l0 : Option Nat) : Option z_H :=
  if l0 = none then none else
  (z_nI h (23:Int32)).bind fun h53 =>
  (z_pV 1 h53 l0 0 (z_r (some h.1))).bind fun h54 =>
  (z_nJ h54 (51:Int32)).bind fun h55 =>
  (z_pV 1 h55 l0 1 (z_r (some h54.1))).bind fun h56 =>
  (z_pV 1 h56 l0 2 (.int (0:Int32))).bind fun h57 =>
  some h57
set_option maxRecDepth 100000 in
set_option maxHeartbeats 4000000 in
theorem S_X1_init {G : z_G} {l : Launch} {h : z_H} {l0 : Option Nat} {res : z_H} (e : D_X1_init h l0 = some res) : z_Meth G l 4 M_X1_init [z_r l0] h res none := by
  refine z_Meth.of ck_X1_init.2.2.2.2 (by simp [lg_sl, z_ci, z_cj, z_cr, z_cx]) ck_X1_init.1 ?_
  rw [show lv_args 0 [z_r l0] = [(0, z_r l0)] from by simp [lv_args, z_ci, z_cj, z_cr, z_cx]]
  unfold D_X1_init at e
  refine z_aload_n 0 dX1_init_0 rfl ?_
  replace e := z_ifn e; obtain ⟨c52, e⟩ := e
  refine z_obj c52 (q := l0) ml_X1_3 (Nat.zero_le _) (by decide) dX1_init_1 ?_
  refine z_aload_n 0 dX1_init_4 rfl ?_
  refine z_bipush (v := 23) dX1_init_5 (by decide) ?_
  replace e := z_bd e; obtain ⟨h53, eh53, e⟩ := e
  refine z_nwI eh53 ac_int dX1_init_7 ?_
  replace e := z_bd e; obtain ⟨h54, eh54, e⟩ := e
  refine z_putF eh54 lk_X1_9 wk_1_0 (fun _ _ _ q => by cases q; rfl) rfl (fun G => (z_nr (Or.inr ⟨_, rfl⟩) _ G).1) (fun G => (z_nr (Or.inr ⟨_, rfl⟩) _ G).2) dX1_init_9 ?_
  refine z_aload_n 0 dX1_init_12 rfl ?_
  refine z_bipush (v := 51) dX1_init_13 (by decide) ?_
  replace e := z_bd e; obtain ⟨h55, eh55, e⟩ := e
  refine z_nwJ eh55 ac_long dX1_init_15 ?_
  replace e := z_bd e; obtain ⟨h56, eh56, e⟩ := e
  refine z_putF eh56 lk_X1_15 wk_1_1 (fun _ _ _ q => by cases q; rfl) rfl (fun G => (z_nr (Or.inr ⟨_, rfl⟩) _ G).1) (fun G => (z_nr (Or.inr ⟨_, rfl⟩) _ G).2) dX1_init_17 ?_
  refine z_aload_n 0 dX1_init_20 rfl ?_
  refine z_iconst (v := 0) dX1_init_21 (by decide) ?_
  replace e := z_bd e; obtain ⟨h57, eh57, e⟩ := e
  refine z_putV eh57 lk_X1_19 wk_1_2 (fun _ => rfl) (fun _ => rfl) dX1_init_22 ?_
  cases e
  exact z_vret dX1_init_25 rfl
theorem dX0_init_0 : decode cX0_init 0 = .ok (.aload_n 0, 1) := by decide +kernel
theorem dX0_init_1 : decode cX0_init 1 = .ok (.invokespecial 3, 3) := by decide +kernel
theorem dX0_init_4 : decode cX0_init 4 = .ok (.aload_n 0, 1) := by decide +kernel
theorem dX0_init_5 : decode cX0_init 5 = .ok (.bipush 7, 2) := by decide +kernel
theorem dX0_init_7 : decode cX0_init 7 = .ok (.newarray .int, 2) := by decide +kernel
theorem dX0_init_9 : decode cX0_init 9 = .ok (.putfield 11, 3) := by decide +kernel
theorem dX0_init_12 : decode cX0_init 12 = .ok (.aload_n 0, 1) := by decide +kernel
theorem dX0_init_13 : decode cX0_init 13 = .ok (.aload_n 1, 1) := by decide +kernel
theorem dX0_init_14 : decode cX0_init 14 = .ok (.putfield 17, 3) := by decide +kernel
theorem dX0_init_17 : decode cX0_init 17 = .ok (.return_, 1) := by decide +kernel
def D_X0_init (h : z_H) (l0 : Option Nat) (l1 : Option Nat) : Option z_H :=
  if l0 = none then none else
  (z_nI h (7:Int32)).bind fun h59 =>
  (z_pV 0 h59 l0 1 (z_r (some h.1))).bind fun h60 =>
  (z_pV 0 h60 l0 0 (z_r l1)).bind fun h61 =>
  some h61
set_option maxRecDepth 100000 in
set_option maxHeartbeats 4000000 in
theorem S_X0_init {G : z_G} {l : Launch} {h : z_H} {l0 : Option Nat} {l1 : Option Nat} {res : z_H} (e : D_X0_init h l0 l1 = some res) : z_Meth G l 4 M_X0_init [z_r l0, z_r l1] h res none := by
  refine z_Meth.of ck_X0_init.2.2.2.2 (by simp [lg_sl, z_ci, z_cj, z_cr, z_cx]) ck_X0_init.1 ?_
  rw [show lv_args 0 [z_r l0, z_r l1] = [(0, z_r l0), (1, z_r l1)] from by simp [lv_args, z_ci, z_cj, z_cr, z_cx]]
  unfold D_X0_init at e
  refine z_aload_n 0 dX0_init_0 rfl ?_
  replace e := z_ifn e; obtain ⟨c58, e⟩ := e
  refine z_obj c58 (q := l0) ml_X0_3 (Nat.zero_le _) (by decide) dX0_init_1 ?_
  refine z_aload_n 0 dX0_init_4 rfl ?_
  refine z_bipush (v := 7) dX0_init_5 (by decide) ?_
  replace e := z_bd e; obtain ⟨h59, eh59, e⟩ := e
  refine z_nwI eh59 ac_int dX0_init_7 ?_
  replace e := z_bd e; obtain ⟨h60, eh60, e⟩ := e
  refine z_putF eh60 lk_X0_11 wk_0_1 (fun _ _ _ q => by cases q; rfl) rfl (fun G => (z_nr (Or.inr ⟨_, rfl⟩) _ G).1) (fun G => (z_nr (Or.inr ⟨_, rfl⟩) _ G).2) dX0_init_9 ?_
  refine z_aload_n 0 dX0_init_12 rfl ?_
  refine z_aload_n 1 dX0_init_13 rfl ?_
  replace e := z_bd e; obtain ⟨h61, eh61, e⟩ := e
  refine z_putF eh61 lk_X0_17 wk_0_0 (fun _ _ _ q => by cases q; rfl) rfl (fun G => (z_nr (Or.inl ⟨_, rfl⟩) _ G).1) (fun G => (z_nr (Or.inl ⟨_, rfl⟩) _ G).2) dX0_init_14 ?_
  cases e
  exact z_vret dX0_init_17 rfl
theorem dX2_init_0 : decode cX2_init 0 = .ok (.aload_n 0, 1) := by decide +kernel
theorem dX2_init_1 : decode cX2_init 1 = .ok (.invokespecial 3, 3) := by decide +kernel
theorem dX2_init_4 : decode cX2_init 4 = .ok (.aload_n 0, 1) := by decide +kernel
theorem dX2_init_5 : decode cX2_init 5 = .ok (.new 9, 3) := by decide +kernel
theorem dX2_init_8 : decode cX2_init 8 = .ok (.dup, 1) := by decide +kernel
theorem dX2_init_9 : decode cX2_init 9 = .ok (.invokespecial 11, 3) := by decide +kernel
theorem dX2_init_12 : decode cX2_init 12 = .ok (.putfield 12, 3) := by decide +kernel
theorem dX2_init_15 : decode cX2_init 15 = .ok (.aload_n 0, 1) := by decide +kernel
theorem dX2_init_16 : decode cX2_init 16 = .ok (.new 18, 3) := by decide +kernel
theorem dX2_init_19 : decode cX2_init 19 = .ok (.dup, 1) := by decide +kernel
theorem dX2_init_20 : decode cX2_init 20 = .ok (.invokespecial 20, 3) := by decide +kernel
theorem dX2_init_23 : decode cX2_init 23 = .ok (.putfield 21, 3) := by decide +kernel
theorem dX2_init_26 : decode cX2_init 26 = .ok (.aload_n 0, 1) := by decide +kernel
theorem dX2_init_27 : decode cX2_init 27 = .ok (.iconst 0, 1) := by decide +kernel
theorem dX2_init_28 : decode cX2_init 28 = .ok (.putfield 25, 3) := by decide +kernel
theorem dX2_init_31 : decode cX2_init 31 = .ok (.aload_n 0, 1) := by decide +kernel
theorem dX2_init_32 : decode cX2_init 32 = .ok (.iconst (-1), 1) := by decide +kernel
theorem dX2_init_33 : decode cX2_init 33 = .ok (.putfield 29, 3) := by decide +kernel
theorem dX2_init_36 : decode cX2_init 36 = .ok (.aload_n 0, 1) := by decide +kernel
theorem dX2_init_37 : decode cX2_init 37 = .ok (.iconst (-1), 1) := by decide +kernel
theorem dX2_init_38 : decode cX2_init 38 = .ok (.putfield 32, 3) := by decide +kernel
theorem dX2_init_41 : decode cX2_init 41 = .ok (.aload_n 0, 1) := by decide +kernel
theorem dX2_init_42 : decode cX2_init 42 = .ok (.aload_n 1, 1) := by decide +kernel
theorem dX2_init_43 : decode cX2_init 43 = .ok (.putfield 35, 3) := by decide +kernel
theorem dX2_init_46 : decode cX2_init 46 = .ok (.aload_n 0, 1) := by decide +kernel
theorem dX2_init_47 : decode cX2_init 47 = .ok (.aload_n 2, 1) := by decide +kernel
theorem dX2_init_48 : decode cX2_init 48 = .ok (.putfield 39, 3) := by decide +kernel
theorem dX2_init_51 : decode cX2_init 51 = .ok (.return_, 1) := by decide +kernel
def D_X2_init (h : z_H) (l0 : Option Nat) (l1 : Option Nat) (l2 : Option Nat) : Option z_H :=
  if l0 = none then none else
  (some (z_new h 13 (.inr (9, [.null, .null, .null, .null, .null, .null, .null, .null, .int 0, .int 0, .int 0, .int 0, .int 0])))).bind fun h63 =>
  (D_X9_init  h63 (some h.1)).bind fun p64 =>
  (z_pV 2 p64 l0 2 (z_r (some h.1))).bind fun h65 =>
  (some (z_new h65 2 (.inr (8, [.null, .int 0])))).bind fun h66 =>
  (D_X8_init  h66 (some h65.1)).bind fun p67 =>
  (z_pV 2 p67 l0 3 (z_r (some h65.1))).bind fun h68 =>
  (z_pV 2 h68 l0 4 (.int (0:Int32))).bind fun h69 =>
  (z_pV 2 h69 l0 5 (.int (-1:Int32))).bind fun h70 =>
  (z_pV 2 h70 l0 6 (.int (-1:Int32))).bind fun h71 =>
  (z_pV 2 h71 l0 0 (z_r l1)).bind fun h72 =>
  (z_pV 2 h72 l0 1 (z_r l2)).bind fun h73 =>
  some h73
set_option maxRecDepth 100000 in
set_option maxHeartbeats 4000000 in
theorem S_X2_init {G : z_G} {l : Launch} {h : z_H} {l0 : Option Nat} {l1 : Option Nat} {l2 : Option Nat} {res : z_H} (e : D_X2_init h l0 l1 l2 = some res) : z_Meth G l 5 M_X2_init [z_r l0, z_r l1, z_r l2] h res none := by
  refine z_Meth.of ck_X2_init.2.2.2.2 (by simp [lg_sl, z_ci, z_cj, z_cr, z_cx]) ck_X2_init.1 ?_
  rw [show lv_args 0 [z_r l0, z_r l1, z_r l2] = [(0, z_r l0), (1, z_r l1), (2, z_r l2)] from by simp [lv_args, z_ci, z_cj, z_cr, z_cx]]
  unfold D_X2_init at e
  refine z_aload_n 0 dX2_init_0 rfl ?_
  replace e := z_ifn e; obtain ⟨c62, e⟩ := e
  refine z_obj c62 (q := l0) ml_X2_3 (Nat.zero_le _) (by decide) dX2_init_1 ?_
  refine z_aload_n 0 dX2_init_4 rfl ?_
  replace e := z_bd e; obtain ⟨h63, eh63, e⟩ := e
  refine z_newE eh63 nk_X2_9 dX2_init_5 ?_
  refine z_dup dX2_init_8 (z_cr _) ?_
  replace e := z_bd e; obtain ⟨p64, ep64, e⟩ := e
  refine z_cI' [] (S_X9_init  ep64) rfl ml_X2_11 ck_X9_init im_X9_init rfl dX2_init_9 (by decide) rfl (by simp [z_ci, z_cj, z_cr, z_cx]) rfl ?_
  replace e := z_bd e; obtain ⟨h65, eh65, e⟩ := e
  refine z_putF eh65 lk_X2_12 wk_2_2 (fun _ _ _ q => by cases q; rfl) rfl (fun G => (z_nr (Or.inl ⟨_, rfl⟩) _ G).1) (fun G => (z_nr (Or.inl ⟨_, rfl⟩) _ G).2) dX2_init_12 ?_
  refine z_aload_n 0 dX2_init_15 rfl ?_
  replace e := z_bd e; obtain ⟨h66, eh66, e⟩ := e
  refine z_newE eh66 nk_X2_18 dX2_init_16 ?_
  refine z_dup dX2_init_19 (z_cr _) ?_
  replace e := z_bd e; obtain ⟨p67, ep67, e⟩ := e
  refine z_cIN (host := "SoleReader") [] (S_X8_init  ep67) rfl (by decide +kernel) ck_X8_init im_X8_init rfl dX2_init_20 (by decide) rfl (by simp [z_ci, z_cj, z_cr, z_cx]) rfl ?_
  replace e := z_bd e; obtain ⟨h68, eh68, e⟩ := e
  refine z_putF eh68 lk_X2_21 wk_2_3 (fun _ _ _ q => by cases q; rfl) rfl (fun G => (z_nr (Or.inl ⟨_, rfl⟩) _ G).1) (fun G => (z_nr (Or.inl ⟨_, rfl⟩) _ G).2) dX2_init_23 ?_
  refine z_aload_n 0 dX2_init_26 rfl ?_
  refine z_iconst (v := 0) dX2_init_27 (by decide) ?_
  replace e := z_bd e; obtain ⟨h69, eh69, e⟩ := e
  refine z_putV eh69 lk_X2_25 wk_2_4 (fun _ => rfl) (fun _ => rfl) dX2_init_28 ?_
  refine z_aload_n 0 dX2_init_31 rfl ?_
  refine z_iconst (v := -1) dX2_init_32 (by decide) ?_
  replace e := z_bd e; obtain ⟨h70, eh70, e⟩ := e
  refine z_putV eh70 lk_X2_29 wk_2_5 (fun _ => rfl) (fun _ => rfl) dX2_init_33 ?_
  refine z_aload_n 0 dX2_init_36 rfl ?_
  refine z_iconst (v := -1) dX2_init_37 (by decide) ?_
  replace e := z_bd e; obtain ⟨h71, eh71, e⟩ := e
  refine z_putV eh71 lk_X2_32 wk_2_6 (fun _ => rfl) (fun _ => rfl) dX2_init_38 ?_
  refine z_aload_n 0 dX2_init_41 rfl ?_
  refine z_aload_n 1 dX2_init_42 rfl ?_
  replace e := z_bd e; obtain ⟨h72, eh72, e⟩ := e
  refine z_putF eh72 lk_X2_35 wk_2_0 (fun _ _ _ q => by cases q; rfl) rfl (fun G => (z_nr (Or.inl ⟨_, rfl⟩) _ G).1) (fun G => (z_nr (Or.inl ⟨_, rfl⟩) _ G).2) dX2_init_43 ?_
  refine z_aload_n 0 dX2_init_46 rfl ?_
  refine z_aload_n 2 dX2_init_47 rfl ?_
  replace e := z_bd e; obtain ⟨h73, eh73, e⟩ := e
  refine z_putF eh73 lk_X2_39 wk_2_1 (fun _ _ _ q => by cases q; rfl) rfl (fun G => (z_nr (Or.inl ⟨_, rfl⟩) _ G).1) (fun G => (z_nr (Or.inl ⟨_, rfl⟩) _ G).2) dX2_init_48 ?_
  cases e
  exact z_vret dX2_init_51 rfl
theorem dX4_init_0 : decode cX4_init 0 = .ok (.aload_n 0, 1) := by decide +kernel
theorem dX4_init_1 : decode cX4_init 1 = .ok (.invokespecial 3, 3) := by decide +kernel
theorem dX4_init_4 : decode cX4_init 4 = .ok (.aload_n 0, 1) := by decide +kernel
theorem dX4_init_5 : decode cX4_init 5 = .ok (.bipush 100, 2) := by decide +kernel
theorem dX4_init_7 : decode cX4_init 7 = .ok (.newarray .int, 2) := by decide +kernel
theorem dX4_init_9 : decode cX4_init 9 = .ok (.putfield 9, 3) := by decide +kernel
theorem dX4_init_12 : decode cX4_init 12 = .ok (.aload_n 0, 1) := by decide +kernel
theorem dX4_init_13 : decode cX4_init 13 = .ok (.bipush 100, 2) := by decide +kernel
theorem dX4_init_15 : decode cX4_init 15 = .ok (.newarray .int, 2) := by decide +kernel
theorem dX4_init_17 : decode cX4_init 17 = .ok (.putfield 15, 3) := by decide +kernel
theorem dX4_init_20 : decode cX4_init 20 = .ok (.aload_n 0, 1) := by decide +kernel
theorem dX4_init_21 : decode cX4_init 21 = .ok (.bipush 100, 2) := by decide +kernel
theorem dX4_init_23 : decode cX4_init 23 = .ok (.newarray .int, 2) := by decide +kernel
theorem dX4_init_25 : decode cX4_init 25 = .ok (.putfield 18, 3) := by decide +kernel
theorem dX4_init_28 : decode cX4_init 28 = .ok (.aload_n 0, 1) := by decide +kernel
theorem dX4_init_29 : decode cX4_init 29 = .ok (.bipush 100, 2) := by decide +kernel
theorem dX4_init_31 : decode cX4_init 31 = .ok (.newarray .int, 2) := by decide +kernel
theorem dX4_init_33 : decode cX4_init 33 = .ok (.putfield 21, 3) := by decide +kernel
theorem dX4_init_36 : decode cX4_init 36 = .ok (.aload_n 0, 1) := by decide +kernel
theorem dX4_init_37 : decode cX4_init 37 = .ok (.bipush 100, 2) := by decide +kernel
theorem dX4_init_39 : decode cX4_init 39 = .ok (.newarray .int, 2) := by decide +kernel
theorem dX4_init_41 : decode cX4_init 41 = .ok (.putfield 24, 3) := by decide +kernel
theorem dX4_init_44 : decode cX4_init 44 = .ok (.aload_n 0, 1) := by decide +kernel
theorem dX4_init_45 : decode cX4_init 45 = .ok (.bipush 100, 2) := by decide +kernel
theorem dX4_init_47 : decode cX4_init 47 = .ok (.newarray .boolean, 2) := by decide +kernel
theorem dX4_init_49 : decode cX4_init 49 = .ok (.putfield 27, 3) := by decide +kernel
theorem dX4_init_52 : decode cX4_init 52 = .ok (.aload_n 0, 1) := by decide +kernel
theorem dX4_init_53 : decode cX4_init 53 = .ok (.iconst 0, 1) := by decide +kernel
theorem dX4_init_54 : decode cX4_init 54 = .ok (.putfield 31, 3) := by decide +kernel
theorem dX4_init_57 : decode cX4_init 57 = .ok (.aload_n 0, 1) := by decide +kernel
theorem dX4_init_58 : decode cX4_init 58 = .ok (.iconst (-1), 1) := by decide +kernel
theorem dX4_init_59 : decode cX4_init 59 = .ok (.putfield 35, 3) := by decide +kernel
theorem dX4_init_62 : decode cX4_init 62 = .ok (.aload_n 0, 1) := by decide +kernel
theorem dX4_init_63 : decode cX4_init 63 = .ok (.aload_n 1, 1) := by decide +kernel
theorem dX4_init_64 : decode cX4_init 64 = .ok (.putfield 38, 3) := by decide +kernel
theorem dX4_init_67 : decode cX4_init 67 = .ok (.return_, 1) := by decide +kernel
def D_X4_init (h : z_H) (l0 : Option Nat) (l1 : Option Nat) : Option z_H :=
  if l0 = none then none else
  (z_nI h (100:Int32)).bind fun h75 =>
  (z_pV 4 h75 l0 1 (z_r (some h.1))).bind fun h76 =>
  (z_nI h76 (100:Int32)).bind fun h77 =>
  (z_pV 4 h77 l0 2 (z_r (some h76.1))).bind fun h78 =>
  (z_nI h78 (100:Int32)).bind fun h79 =>
  (z_pV 4 h79 l0 3 (z_r (some h78.1))).bind fun h80 =>
  (z_nI h80 (100:Int32)).bind fun h81 =>
  (z_pV 4 h81 l0 4 (z_r (some h80.1))).bind fun h82 =>
  (z_nI h82 (100:Int32)).bind fun h83 =>
  (z_pV 4 h83 l0 5 (z_r (some h82.1))).bind fun h84 =>
  (z_nZ h84 (100:Int32)).bind fun h85 =>
  (z_pV 4 h85 l0 6 (z_r (some h84.1))).bind fun h86 =>
  (z_pV 4 h86 l0 7 (.int (0:Int32))).bind fun h87 =>
  (z_pV 4 h87 l0 8 (.int (-1:Int32))).bind fun h88 =>
  (z_pV 4 h88 l0 0 (z_r l1)).bind fun h89 =>
  some h89
set_option maxRecDepth 100000 in
set_option maxHeartbeats 4000000 in
theorem S_X4_init {G : z_G} {l : Launch} {h : z_H} {l0 : Option Nat} {l1 : Option Nat} {res : z_H} (e : D_X4_init h l0 l1 = some res) : z_Meth G l 4 M_X4_init [z_r l0, z_r l1] h res none := by
  refine z_Meth.of ck_X4_init.2.2.2.2 (by simp [lg_sl, z_ci, z_cj, z_cr, z_cx]) ck_X4_init.1 ?_
  rw [show lv_args 0 [z_r l0, z_r l1] = [(0, z_r l0), (1, z_r l1)] from by simp [lv_args, z_ci, z_cj, z_cr, z_cx]]
  unfold D_X4_init at e
  refine z_aload_n 0 dX4_init_0 rfl ?_
  replace e := z_ifn e; obtain ⟨c74, e⟩ := e
  refine z_obj c74 (q := l0) ml_X4_3 (Nat.zero_le _) (by decide) dX4_init_1 ?_
  refine z_aload_n 0 dX4_init_4 rfl ?_
  refine z_bipush (v := 100) dX4_init_5 (by decide) ?_
  replace e := z_bd e; obtain ⟨h75, eh75, e⟩ := e
  refine z_nwI eh75 ac_int dX4_init_7 ?_
  replace e := z_bd e; obtain ⟨h76, eh76, e⟩ := e
  refine z_putF eh76 lk_X4_9 wk_4_1 (fun _ _ _ q => by cases q; rfl) rfl (fun G => (z_nr (Or.inr ⟨_, rfl⟩) _ G).1) (fun G => (z_nr (Or.inr ⟨_, rfl⟩) _ G).2) dX4_init_9 ?_
  refine z_aload_n 0 dX4_init_12 rfl ?_
  refine z_bipush (v := 100) dX4_init_13 (by decide) ?_
  replace e := z_bd e; obtain ⟨h77, eh77, e⟩ := e
  refine z_nwI eh77 ac_int dX4_init_15 ?_
  replace e := z_bd e; obtain ⟨h78, eh78, e⟩ := e
  refine z_putF eh78 lk_X4_15 wk_4_2 (fun _ _ _ q => by cases q; rfl) rfl (fun G => (z_nr (Or.inr ⟨_, rfl⟩) _ G).1) (fun G => (z_nr (Or.inr ⟨_, rfl⟩) _ G).2) dX4_init_17 ?_
  refine z_aload_n 0 dX4_init_20 rfl ?_
  refine z_bipush (v := 100) dX4_init_21 (by decide) ?_
  replace e := z_bd e; obtain ⟨h79, eh79, e⟩ := e
  refine z_nwI eh79 ac_int dX4_init_23 ?_
  replace e := z_bd e; obtain ⟨h80, eh80, e⟩ := e
  refine z_putF eh80 lk_X4_18 wk_4_3 (fun _ _ _ q => by cases q; rfl) rfl (fun G => (z_nr (Or.inr ⟨_, rfl⟩) _ G).1) (fun G => (z_nr (Or.inr ⟨_, rfl⟩) _ G).2) dX4_init_25 ?_
  refine z_aload_n 0 dX4_init_28 rfl ?_
  refine z_bipush (v := 100) dX4_init_29 (by decide) ?_
  replace e := z_bd e; obtain ⟨h81, eh81, e⟩ := e
  refine z_nwI eh81 ac_int dX4_init_31 ?_
  replace e := z_bd e; obtain ⟨h82, eh82, e⟩ := e
  refine z_putF eh82 lk_X4_21 wk_4_4 (fun _ _ _ q => by cases q; rfl) rfl (fun G => (z_nr (Or.inr ⟨_, rfl⟩) _ G).1) (fun G => (z_nr (Or.inr ⟨_, rfl⟩) _ G).2) dX4_init_33 ?_
  refine z_aload_n 0 dX4_init_36 rfl ?_
  refine z_bipush (v := 100) dX4_init_37 (by decide) ?_
  replace e := z_bd e; obtain ⟨h83, eh83, e⟩ := e
  refine z_nwI eh83 ac_int dX4_init_39 ?_
  replace e := z_bd e; obtain ⟨h84, eh84, e⟩ := e
  refine z_putF eh84 lk_X4_24 wk_4_5 (fun _ _ _ q => by cases q; rfl) rfl (fun G => (z_nr (Or.inr ⟨_, rfl⟩) _ G).1) (fun G => (z_nr (Or.inr ⟨_, rfl⟩) _ G).2) dX4_init_41 ?_
  refine z_aload_n 0 dX4_init_44 rfl ?_
  refine z_bipush (v := 100) dX4_init_45 (by decide) ?_
  replace e := z_bd e; obtain ⟨h85, eh85, e⟩ := e
  refine z_nwZ eh85 ac_boolean dX4_init_47 ?_
  replace e := z_bd e; obtain ⟨h86, eh86, e⟩ := e
  refine z_putF eh86 lk_X4_27 wk_4_6 (fun _ _ _ q => by cases q; rfl) rfl (fun G => (z_nr (Or.inr ⟨_, rfl⟩) _ G).1) (fun G => (z_nr (Or.inr ⟨_, rfl⟩) _ G).2) dX4_init_49 ?_
  refine z_aload_n 0 dX4_init_52 rfl ?_
  refine z_iconst (v := 0) dX4_init_53 (by decide) ?_
  replace e := z_bd e; obtain ⟨h87, eh87, e⟩ := e
  refine z_putV eh87 lk_X4_31 wk_4_7 (fun _ => rfl) (fun _ => rfl) dX4_init_54 ?_
  refine z_aload_n 0 dX4_init_57 rfl ?_
  refine z_iconst (v := -1) dX4_init_58 (by decide) ?_
  replace e := z_bd e; obtain ⟨h88, eh88, e⟩ := e
  refine z_putV eh88 lk_X4_35 wk_4_8 (fun _ => rfl) (fun _ => rfl) dX4_init_59 ?_
  refine z_aload_n 0 dX4_init_62 rfl ?_
  refine z_aload_n 1 dX4_init_63 rfl ?_
  replace e := z_bd e; obtain ⟨h89, eh89, e⟩ := e
  refine z_putF eh89 lk_X4_38 wk_4_0 (fun _ _ _ q => by cases q; rfl) rfl (fun G => (z_nr (Or.inl ⟨_, rfl⟩) _ G).1) (fun G => (z_nr (Or.inl ⟨_, rfl⟩) _ G).2) dX4_init_64 ?_
  cases e
  exact z_vret dX4_init_67 rfl
theorem dX6_init_0 : decode cX6_init 0 = .ok (.aload_n 0, 1) := by decide +kernel
theorem dX6_init_1 : decode cX6_init 1 = .ok (.invokespecial 3, 3) := by decide +kernel
theorem dX6_init_4 : decode cX6_init 4 = .ok (.aload_n 0, 1) := by decide +kernel
theorem dX6_init_5 : decode cX6_init 5 = .ok (.sipush 1225, 3) := by decide +kernel
theorem dX6_init_8 : decode cX6_init 8 = .ok (.newarray .long, 2) := by decide +kernel
theorem dX6_init_10 : decode cX6_init 10 = .ok (.putfield 11, 3) := by decide +kernel
theorem dX6_init_13 : decode cX6_init 13 = .ok (.aload_n 0, 1) := by decide +kernel
theorem dX6_init_14 : decode cX6_init 14 = .ok (.bipush 25, 2) := by decide +kernel
theorem dX6_init_16 : decode cX6_init 16 = .ok (.newarray .long, 2) := by decide +kernel
theorem dX6_init_18 : decode cX6_init 18 = .ok (.putfield 15, 3) := by decide +kernel
theorem dX6_init_21 : decode cX6_init 21 = .ok (.aload_n 0, 1) := by decide +kernel
theorem dX6_init_22 : decode cX6_init 22 = .ok (.bipush 100, 2) := by decide +kernel
theorem dX6_init_24 : decode cX6_init 24 = .ok (.newarray .long, 2) := by decide +kernel
theorem dX6_init_26 : decode cX6_init 26 = .ok (.putfield 18, 3) := by decide +kernel
theorem dX6_init_29 : decode cX6_init 29 = .ok (.aload_n 0, 1) := by decide +kernel
theorem dX6_init_30 : decode cX6_init 30 = .ok (.bipush 100, 2) := by decide +kernel
theorem dX6_init_32 : decode cX6_init 32 = .ok (.newarray .long, 2) := by decide +kernel
theorem dX6_init_34 : decode cX6_init 34 = .ok (.putfield 21, 3) := by decide +kernel
theorem dX6_init_37 : decode cX6_init 37 = .ok (.aload_n 0, 1) := by decide +kernel
theorem dX6_init_38 : decode cX6_init 38 = .ok (.bipush 20, 2) := by decide +kernel
theorem dX6_init_40 : decode cX6_init 40 = .ok (.newarray .long, 2) := by decide +kernel
theorem dX6_init_42 : decode cX6_init 42 = .ok (.putfield 24, 3) := by decide +kernel
theorem dX6_init_45 : decode cX6_init 45 = .ok (.aload_n 0, 1) := by decide +kernel
theorem dX6_init_46 : decode cX6_init 46 = .ok (.aload_n 1, 1) := by decide +kernel
theorem dX6_init_47 : decode cX6_init 47 = .ok (.putfield 27, 3) := by decide +kernel
theorem dX6_init_50 : decode cX6_init 50 = .ok (.return_, 1) := by decide +kernel
def D_X6_init (h : z_H) (l0 : Option Nat) (l1 : Option Nat) : Option z_H :=
  if l0 = none then none else
  (z_nJ h (1225:Int32)).bind fun h91 =>
  (z_pV 6 h91 l0 1 (z_r (some h.1))).bind fun h92 =>
  (z_nJ h92 (25:Int32)).bind fun h93 =>
  (z_pV 6 h93 l0 2 (z_r (some h92.1))).bind fun h94 =>
  (z_nJ h94 (100:Int32)).bind fun h95 =>
  (z_pV 6 h95 l0 3 (z_r (some h94.1))).bind fun h96 =>
  (z_nJ h96 (100:Int32)).bind fun h97 =>
  (z_pV 6 h97 l0 4 (z_r (some h96.1))).bind fun h98 =>
  (z_nJ h98 (20:Int32)).bind fun h99 =>
  (z_pV 6 h99 l0 5 (z_r (some h98.1))).bind fun h100 =>
  (z_pV 6 h100 l0 0 (z_r l1)).bind fun h101 =>
  some h101
set_option maxRecDepth 100000 in
set_option maxHeartbeats 4000000 in
theorem S_X6_init {G : z_G} {l : Launch} {h : z_H} {l0 : Option Nat} {l1 : Option Nat} {res : z_H} (e : D_X6_init h l0 l1 = some res) : z_Meth G l 4 M_X6_init [z_r l0, z_r l1] h res none := by
  refine z_Meth.of ck_X6_init.2.2.2.2 (by simp [lg_sl, z_ci, z_cj, z_cr, z_cx]) ck_X6_init.1 ?_
  rw [show lv_args 0 [z_r l0, z_r l1] = [(0, z_r l0), (1, z_r l1)] from by simp [lv_args, z_ci, z_cj, z_cr, z_cx]]
  unfold D_X6_init at e
  refine z_aload_n 0 dX6_init_0 rfl ?_
  replace e := z_ifn e; obtain ⟨c90, e⟩ := e
  refine z_obj c90 (q := l0) ml_X6_3 (Nat.zero_le _) (by decide) dX6_init_1 ?_
  refine z_aload_n 0 dX6_init_4 rfl ?_
  refine z_sipush (v := 1225) dX6_init_5 (by decide) ?_
  replace e := z_bd e; obtain ⟨h91, eh91, e⟩ := e
  refine z_nwJ eh91 ac_long dX6_init_8 ?_
  replace e := z_bd e; obtain ⟨h92, eh92, e⟩ := e
  refine z_putF eh92 lk_X6_11 wk_6_1 (fun _ _ _ q => by cases q; rfl) rfl (fun G => (z_nr (Or.inr ⟨_, rfl⟩) _ G).1) (fun G => (z_nr (Or.inr ⟨_, rfl⟩) _ G).2) dX6_init_10 ?_
  refine z_aload_n 0 dX6_init_13 rfl ?_
  refine z_bipush (v := 25) dX6_init_14 (by decide) ?_
  replace e := z_bd e; obtain ⟨h93, eh93, e⟩ := e
  refine z_nwJ eh93 ac_long dX6_init_16 ?_
  replace e := z_bd e; obtain ⟨h94, eh94, e⟩ := e
  refine z_putF eh94 lk_X6_15 wk_6_2 (fun _ _ _ q => by cases q; rfl) rfl (fun G => (z_nr (Or.inr ⟨_, rfl⟩) _ G).1) (fun G => (z_nr (Or.inr ⟨_, rfl⟩) _ G).2) dX6_init_18 ?_
  refine z_aload_n 0 dX6_init_21 rfl ?_
  refine z_bipush (v := 100) dX6_init_22 (by decide) ?_
  replace e := z_bd e; obtain ⟨h95, eh95, e⟩ := e
  refine z_nwJ eh95 ac_long dX6_init_24 ?_
  replace e := z_bd e; obtain ⟨h96, eh96, e⟩ := e
  refine z_putF eh96 lk_X6_18 wk_6_3 (fun _ _ _ q => by cases q; rfl) rfl (fun G => (z_nr (Or.inr ⟨_, rfl⟩) _ G).1) (fun G => (z_nr (Or.inr ⟨_, rfl⟩) _ G).2) dX6_init_26 ?_
  refine z_aload_n 0 dX6_init_29 rfl ?_
  refine z_bipush (v := 100) dX6_init_30 (by decide) ?_
  replace e := z_bd e; obtain ⟨h97, eh97, e⟩ := e
  refine z_nwJ eh97 ac_long dX6_init_32 ?_
  replace e := z_bd e; obtain ⟨h98, eh98, e⟩ := e
  refine z_putF eh98 lk_X6_21 wk_6_4 (fun _ _ _ q => by cases q; rfl) rfl (fun G => (z_nr (Or.inr ⟨_, rfl⟩) _ G).1) (fun G => (z_nr (Or.inr ⟨_, rfl⟩) _ G).2) dX6_init_34 ?_
  refine z_aload_n 0 dX6_init_37 rfl ?_
  refine z_bipush (v := 20) dX6_init_38 (by decide) ?_
  replace e := z_bd e; obtain ⟨h99, eh99, e⟩ := e
  refine z_nwJ eh99 ac_long dX6_init_40 ?_
  replace e := z_bd e; obtain ⟨h100, eh100, e⟩ := e
  refine z_putF eh100 lk_X6_24 wk_6_5 (fun _ _ _ q => by cases q; rfl) rfl (fun G => (z_nr (Or.inr ⟨_, rfl⟩) _ G).1) (fun G => (z_nr (Or.inr ⟨_, rfl⟩) _ G).2) dX6_init_42 ?_
  refine z_aload_n 0 dX6_init_45 rfl ?_
  refine z_aload_n 1 dX6_init_46 rfl ?_
  replace e := z_bd e; obtain ⟨h101, eh101, e⟩ := e
  refine z_putF eh101 lk_X6_27 wk_6_0 (fun _ _ _ q => by cases q; rfl) rfl (fun G => (z_nr (Or.inl ⟨_, rfl⟩) _ G).1) (fun G => (z_nr (Or.inl ⟨_, rfl⟩) _ G).2) dX6_init_47 ?_
  cases e
  exact z_vret dX6_init_50 rfl
theorem dX3_init_0 : decode cX3_init 0 = .ok (.aload_n 0, 1) := by decide +kernel
theorem dX3_init_1 : decode cX3_init 1 = .ok (.invokespecial 3, 3) := by decide +kernel
theorem dX3_init_4 : decode cX3_init 4 = .ok (.aload_n 0, 1) := by decide +kernel
theorem dX3_init_5 : decode cX3_init 5 = .ok (.bipush 6, 2) := by decide +kernel
theorem dX3_init_7 : decode cX3_init 7 = .ok (.newarray .int, 2) := by decide +kernel
theorem dX3_init_9 : decode cX3_init 9 = .ok (.putfield 9, 3) := by decide +kernel
theorem dX3_init_12 : decode cX3_init 12 = .ok (.aload_n 0, 1) := by decide +kernel
theorem dX3_init_13 : decode cX3_init 13 = .ok (.bipush 6, 2) := by decide +kernel
theorem dX3_init_15 : decode cX3_init 15 = .ok (.newarray .int, 2) := by decide +kernel
theorem dX3_init_17 : decode cX3_init 17 = .ok (.putfield 15, 3) := by decide +kernel
theorem dX3_init_20 : decode cX3_init 20 = .ok (.aload_n 0, 1) := by decide +kernel
theorem dX3_init_21 : decode cX3_init 21 = .ok (.iconst 0, 1) := by decide +kernel
theorem dX3_init_22 : decode cX3_init 22 = .ok (.putfield 18, 3) := by decide +kernel
theorem dX3_init_25 : decode cX3_init 25 = .ok (.aload_n 0, 1) := by decide +kernel
theorem dX3_init_26 : decode cX3_init 26 = .ok (.iconst 0, 1) := by decide +kernel
theorem dX3_init_27 : decode cX3_init 27 = .ok (.putfield 22, 3) := by decide +kernel
theorem dX3_init_30 : decode cX3_init 30 = .ok (.aload_n 0, 1) := by decide +kernel
theorem dX3_init_31 : decode cX3_init 31 = .ok (.iconst (-1), 1) := by decide +kernel
theorem dX3_init_32 : decode cX3_init 32 = .ok (.putfield 26, 3) := by decide +kernel
theorem dX3_init_35 : decode cX3_init 35 = .ok (.aload_n 0, 1) := by decide +kernel
theorem dX3_init_36 : decode cX3_init 36 = .ok (.iconst 0, 1) := by decide +kernel
theorem dX3_init_37 : decode cX3_init 37 = .ok (.putfield 29, 3) := by decide +kernel
theorem dX3_init_40 : decode cX3_init 40 = .ok (.return_, 1) := by decide +kernel
def D_X3_init (h : z_H) (l0 : Option Nat) : Option z_H :=
  if l0 = none then none else
  (z_nI h (6:Int32)).bind fun h103 =>
  (z_pV 3 h103 l0 0 (z_r (some h.1))).bind fun h104 =>
  (z_nI h104 (6:Int32)).bind fun h105 =>
  (z_pV 3 h105 l0 1 (z_r (some h104.1))).bind fun h106 =>
  (z_pV 3 h106 l0 2 (.int (0:Int32))).bind fun h107 =>
  (z_pV 3 h107 l0 3 (.int (0:Int32))).bind fun h108 =>
  (z_pV 3 h108 l0 4 (.int (-1:Int32))).bind fun h109 =>
  (z_pV 3 h109 l0 5 (.int (0:Int32))).bind fun h110 =>
  some h110
set_option maxRecDepth 100000 in
set_option maxHeartbeats 4000000 in
theorem S_X3_init {G : z_G} {l : Launch} {h : z_H} {l0 : Option Nat} {res : z_H} (e : D_X3_init h l0 = some res) : z_Meth G l 4 M_X3_init [z_r l0] h res none := by
  refine z_Meth.of ck_X3_init.2.2.2.2 (by simp [lg_sl, z_ci, z_cj, z_cr, z_cx]) ck_X3_init.1 ?_
  rw [show lv_args 0 [z_r l0] = [(0, z_r l0)] from by simp [lv_args, z_ci, z_cj, z_cr, z_cx]]
  unfold D_X3_init at e
  refine z_aload_n 0 dX3_init_0 rfl ?_
  replace e := z_ifn e; obtain ⟨c102, e⟩ := e
  refine z_obj c102 (q := l0) ml_X3_3 (Nat.zero_le _) (by decide) dX3_init_1 ?_
  refine z_aload_n 0 dX3_init_4 rfl ?_
  refine z_bipush (v := 6) dX3_init_5 (by decide) ?_
  replace e := z_bd e; obtain ⟨h103, eh103, e⟩ := e
  refine z_nwI eh103 ac_int dX3_init_7 ?_
  replace e := z_bd e; obtain ⟨h104, eh104, e⟩ := e
  refine z_putF eh104 lk_X3_9 wk_3_0 (fun _ _ _ q => by cases q; rfl) rfl (fun G => (z_nr (Or.inr ⟨_, rfl⟩) _ G).1) (fun G => (z_nr (Or.inr ⟨_, rfl⟩) _ G).2) dX3_init_9 ?_
  refine z_aload_n 0 dX3_init_12 rfl ?_
  refine z_bipush (v := 6) dX3_init_13 (by decide) ?_
  replace e := z_bd e; obtain ⟨h105, eh105, e⟩ := e
  refine z_nwI eh105 ac_int dX3_init_15 ?_
  replace e := z_bd e; obtain ⟨h106, eh106, e⟩ := e
  refine z_putF eh106 lk_X3_15 wk_3_1 (fun _ _ _ q => by cases q; rfl) rfl (fun G => (z_nr (Or.inr ⟨_, rfl⟩) _ G).1) (fun G => (z_nr (Or.inr ⟨_, rfl⟩) _ G).2) dX3_init_17 ?_
  refine z_aload_n 0 dX3_init_20 rfl ?_
  refine z_iconst (v := 0) dX3_init_21 (by decide) ?_
  replace e := z_bd e; obtain ⟨h107, eh107, e⟩ := e
  refine z_putV eh107 lk_X3_18 wk_3_2 (fun _ => rfl) (fun _ => rfl) dX3_init_22 ?_
  refine z_aload_n 0 dX3_init_25 rfl ?_
  refine z_iconst (v := 0) dX3_init_26 (by decide) ?_
  replace e := z_bd e; obtain ⟨h108, eh108, e⟩ := e
  refine z_putV eh108 lk_X3_22 wk_3_3 (fun _ => (z_nz (Or.inl rfl)).1) (fun _ => (z_nz (Or.inl rfl)).2) dX3_init_27 ?_
  refine z_aload_n 0 dX3_init_30 rfl ?_
  refine z_iconst (v := -1) dX3_init_31 (by decide) ?_
  replace e := z_bd e; obtain ⟨h109, eh109, e⟩ := e
  refine z_putV eh109 lk_X3_26 wk_3_4 (fun _ => rfl) (fun _ => rfl) dX3_init_32 ?_
  refine z_aload_n 0 dX3_init_35 rfl ?_
  refine z_iconst (v := 0) dX3_init_36 (by decide) ?_
  replace e := z_bd e; obtain ⟨h110, eh110, e⟩ := e
  refine z_putV eh110 lk_X3_29 wk_3_5 (fun _ => rfl) (fun _ => rfl) dX3_init_37 ?_
  cases e
  exact z_vret dX3_init_40 rfl
theorem dX10_init_0 : decode cX10_init 0 = .ok (.aload_n 0, 1) := by decide +kernel
theorem dX10_init_1 : decode cX10_init 1 = .ok (.invokespecial 3, 3) := by decide +kernel
theorem dX10_init_4 : decode cX10_init 4 = .ok (.aload_n 0, 1) := by decide +kernel
theorem dX10_init_5 : decode cX10_init 5 = .ok (.new 9, 3) := by decide +kernel
theorem dX10_init_8 : decode cX10_init 8 = .ok (.dup, 1) := by decide +kernel
theorem dX10_init_9 : decode cX10_init 9 = .ok (.invokespecial 11, 3) := by decide +kernel
theorem dX10_init_12 : decode cX10_init 12 = .ok (.putfield 12, 3) := by decide +kernel
theorem dX10_init_15 : decode cX10_init 15 = .ok (.aload_n 0, 1) := by decide +kernel
theorem dX10_init_16 : decode cX10_init 16 = .ok (.iconst 2, 1) := by decide +kernel
theorem dX10_init_17 : decode cX10_init 17 = .ok (.anewarray 9, 3) := by decide +kernel
theorem dX10_init_20 : decode cX10_init 20 = .ok (.putfield 16, 3) := by decide +kernel
theorem dX10_init_23 : decode cX10_init 23 = .ok (.aload_n 0, 1) := by decide +kernel
theorem dX10_init_24 : decode cX10_init 24 = .ok (.iconst 2, 1) := by decide +kernel
theorem dX10_init_25 : decode cX10_init 25 = .ok (.newarray .boolean, 2) := by decide +kernel
theorem dX10_init_27 : decode cX10_init 27 = .ok (.putfield 20, 3) := by decide +kernel
theorem dX10_init_30 : decode cX10_init 30 = .ok (.aload_n 0, 1) := by decide +kernel
theorem dX10_init_31 : decode cX10_init 31 = .ok (.new 9, 3) := by decide +kernel
theorem dX10_init_34 : decode cX10_init 34 = .ok (.dup, 1) := by decide +kernel
theorem dX10_init_35 : decode cX10_init 35 = .ok (.invokespecial 11, 3) := by decide +kernel
theorem dX10_init_38 : decode cX10_init 38 = .ok (.putfield 24, 3) := by decide +kernel
theorem dX10_init_41 : decode cX10_init 41 = .ok (.aload_n 0, 1) := by decide +kernel
theorem dX10_init_42 : decode cX10_init 42 = .ok (.new 27, 3) := by decide +kernel
theorem dX10_init_45 : decode cX10_init 45 = .ok (.dup, 1) := by decide +kernel
theorem dX10_init_46 : decode cX10_init 46 = .ok (.invokespecial 29, 3) := by decide +kernel
theorem dX10_init_49 : decode cX10_init 49 = .ok (.putfield 30, 3) := by decide +kernel
theorem dX10_init_52 : decode cX10_init 52 = .ok (.aload_n 0, 1) := by decide +kernel
theorem dX10_init_53 : decode cX10_init 53 = .ok (.new 34, 3) := by decide +kernel
theorem dX10_init_56 : decode cX10_init 56 = .ok (.dup, 1) := by decide +kernel
theorem dX10_init_57 : decode cX10_init 57 = .ok (.invokespecial 36, 3) := by decide +kernel
theorem dX10_init_60 : decode cX10_init 60 = .ok (.putfield 37, 3) := by decide +kernel
theorem dX10_init_63 : decode cX10_init 63 = .ok (.aload_n 0, 1) := by decide +kernel
theorem dX10_init_64 : decode cX10_init 64 = .ok (.new 41, 3) := by decide +kernel
theorem dX10_init_67 : decode cX10_init 67 = .ok (.dup, 1) := by decide +kernel
theorem dX10_init_68 : decode cX10_init 68 = .ok (.invokespecial 43, 3) := by decide +kernel
theorem dX10_init_71 : decode cX10_init 71 = .ok (.putfield 44, 3) := by decide +kernel
theorem dX10_init_74 : decode cX10_init 74 = .ok (.aload_n 0, 1) := by decide +kernel
theorem dX10_init_75 : decode cX10_init 75 = .ok (.new 48, 3) := by decide +kernel
theorem dX10_init_78 : decode cX10_init 78 = .ok (.dup, 1) := by decide +kernel
theorem dX10_init_79 : decode cX10_init 79 = .ok (.aload_n 0, 1) := by decide +kernel
theorem dX10_init_80 : decode cX10_init 80 = .ok (.getfield 44, 3) := by decide +kernel
theorem dX10_init_83 : decode cX10_init 83 = .ok (.invokespecial 50, 3) := by decide +kernel
theorem dX10_init_86 : decode cX10_init 86 = .ok (.putfield 53, 3) := by decide +kernel
theorem dX10_init_89 : decode cX10_init 89 = .ok (.aload_n 0, 1) := by decide +kernel
theorem dX10_init_90 : decode cX10_init 90 = .ok (.new 57, 3) := by decide +kernel
theorem dX10_init_93 : decode cX10_init 93 = .ok (.dup, 1) := by decide +kernel
theorem dX10_init_94 : decode cX10_init 94 = .ok (.aload_n 0, 1) := by decide +kernel
theorem dX10_init_95 : decode cX10_init 95 = .ok (.getfield 44, 3) := by decide +kernel
theorem dX10_init_98 : decode cX10_init 98 = .ok (.aload_n 0, 1) := by decide +kernel
theorem dX10_init_99 : decode cX10_init 99 = .ok (.getfield 53, 3) := by decide +kernel
theorem dX10_init_102 : decode cX10_init 102 = .ok (.invokespecial 59, 3) := by decide +kernel
theorem dX10_init_105 : decode cX10_init 105 = .ok (.putfield 62, 3) := by decide +kernel
theorem dX10_init_108 : decode cX10_init 108 = .ok (.aload_n 0, 1) := by decide +kernel
theorem dX10_init_109 : decode cX10_init 109 = .ok (.new 66, 3) := by decide +kernel
theorem dX10_init_112 : decode cX10_init 112 = .ok (.dup, 1) := by decide +kernel
theorem dX10_init_113 : decode cX10_init 113 = .ok (.aload_n 0, 1) := by decide +kernel
theorem dX10_init_114 : decode cX10_init 114 = .ok (.getfield 44, 3) := by decide +kernel
theorem dX10_init_117 : decode cX10_init 117 = .ok (.invokespecial 68, 3) := by decide +kernel
theorem dX10_init_120 : decode cX10_init 120 = .ok (.putfield 69, 3) := by decide +kernel
theorem dX10_init_123 : decode cX10_init 123 = .ok (.aload_n 0, 1) := by decide +kernel
theorem dX10_init_124 : decode cX10_init 124 = .ok (.new 73, 3) := by decide +kernel
theorem dX10_init_127 : decode cX10_init 127 = .ok (.dup, 1) := by decide +kernel
theorem dX10_init_128 : decode cX10_init 128 = .ok (.aload_n 0, 1) := by decide +kernel
theorem dX10_init_129 : decode cX10_init 129 = .ok (.getfield 69, 3) := by decide +kernel
theorem dX10_init_132 : decode cX10_init 132 = .ok (.invokespecial 75, 3) := by decide +kernel
theorem dX10_init_135 : decode cX10_init 135 = .ok (.putfield 78, 3) := by decide +kernel
theorem dX10_init_138 : decode cX10_init 138 = .ok (.aload_n 0, 1) := by decide +kernel
theorem dX10_init_139 : decode cX10_init 139 = .ok (.new 82, 3) := by decide +kernel
theorem dX10_init_142 : decode cX10_init 142 = .ok (.dup, 1) := by decide +kernel
theorem dX10_init_143 : decode cX10_init 143 = .ok (.invokespecial 84, 3) := by decide +kernel
theorem dX10_init_146 : decode cX10_init 146 = .ok (.putfield 85, 3) := by decide +kernel
theorem dX10_init_149 : decode cX10_init 149 = .ok (.aload_n 0, 1) := by decide +kernel
theorem dX10_init_150 : decode cX10_init 150 = .ok (.bipush 7, 2) := by decide +kernel
theorem dX10_init_152 : decode cX10_init 152 = .ok (.newarray .int, 2) := by decide +kernel
theorem dX10_init_154 : decode cX10_init 154 = .ok (.putfield 89, 3) := by decide +kernel
theorem dX10_init_157 : decode cX10_init 157 = .ok (.aload_n 0, 1) := by decide +kernel
theorem dX10_init_158 : decode cX10_init 158 = .ok (.iconst 0, 1) := by decide +kernel
theorem dX10_init_159 : decode cX10_init 159 = .ok (.putfield 93, 3) := by decide +kernel
theorem dX10_init_162 : decode cX10_init 162 = .ok (.aload_n 0, 1) := by decide +kernel
theorem dX10_init_163 : decode cX10_init 163 = .ok (.iconst 0, 1) := by decide +kernel
theorem dX10_init_164 : decode cX10_init 164 = .ok (.putfield 97, 3) := by decide +kernel
theorem dX10_init_167 : decode cX10_init 167 = .ok (.iconst 0, 1) := by decide +kernel
theorem dX10_init_168 : decode cX10_init 168 = .ok (.istore_n 1, 1) := by decide +kernel
theorem dX10_init_169 : decode cX10_init 169 = .ok (.iload_n 1, 1) := by decide +kernel
theorem dX10_init_170 : decode cX10_init 170 = .ok (.iconst 2, 1) := by decide +kernel
theorem dX10_init_171 : decode cX10_init 171 = .ok (.if_icmp .ge 22, 3) := by decide +kernel
theorem dX10_init_174 : decode cX10_init 174 = .ok (.aload_n 0, 1) := by decide +kernel
theorem dX10_init_175 : decode cX10_init 175 = .ok (.getfield 16, 3) := by decide +kernel
theorem dX10_init_178 : decode cX10_init 178 = .ok (.iload_n 1, 1) := by decide +kernel
theorem dX10_init_179 : decode cX10_init 179 = .ok (.new 9, 3) := by decide +kernel
theorem dX10_init_182 : decode cX10_init 182 = .ok (.dup, 1) := by decide +kernel
theorem dX10_init_183 : decode cX10_init 183 = .ok (.invokespecial 11, 3) := by decide +kernel
theorem dX10_init_186 : decode cX10_init 186 = .ok (.aastore, 1) := by decide +kernel
theorem dX10_init_187 : decode cX10_init 187 = .ok (.iinc 1 1, 3) := by decide +kernel
theorem dX10_init_190 : decode cX10_init 190 = .ok (.goto (-21), 3) := by decide +kernel
theorem dX10_init_193 : decode cX10_init 193 = .ok (.return_, 1) := by decide +kernel
def D_X10_init_169b (k169 : z_H → Option Nat → Int32 → Option z_H) (h : z_H) (l0 : Option Nat) (l1 : Int32) : Option z_H :=
  if (2:Int32) ≤ l1 then
    some h
  else
    (z_gQ 10 h l0 1).bind fun x112 =>
    (some (z_new h 13 (.inr (9, [.null, .null, .null, .null, .null, .null, .null, .null, .int 0, .int 0, .int 0, .int 0, .int 0])))).bind fun h113 =>
    (D_X9_init  h113 (some h.1)).bind fun p114 =>
    (z_sQ RX9 9 p114 x112 l1 (some h.1)).bind fun h115 =>
    (some (l1 + (1:Int32))).bind fun x116 =>
    k169 h115 l0 x116
def D_X10_init_169 (n : Nat) : z_H → Option Nat → Int32 → Option z_H := Nat.rec (motive := fun _ => z_H → Option Nat → Int32 → Option z_H) (fun _ _ _ => none) (fun _ k => D_X10_init_169b  k) n
set_option maxRecDepth 100000 in
set_option maxHeartbeats 4000000 in
theorem S_X10_init_169 {G : z_G} {l : Launch}  (n : Nat) : ∀ {h : z_H} {l0 : Option Nat} {l1 : Int32} {res : z_H}, D_X10_init_169  n h l0 l1 = some res → z_Run G l 6 M_X10_init 169 [(0, z_r l0), (1, .int l1)] [] h res none := by
  induction n with
  | zero => intro h l0 l1 res e; cases e
  | succ n hk169 =>
    intro h l0 l1 res e
    replace e : D_X10_init_169b  (D_X10_init_169  n) h l0 l1 = some res := e
    unfold D_X10_init_169b at e
    refine z_iload_n 1 dX10_init_169 rfl ?_
    refine z_iconst (v := 2) dX10_init_170 (by decide) ?_
    refine z_icmp_ge (tgt := 193) dX10_init_171 (by decide) (fun c111 => ?_) (fun c111 => ?_)
    · rw [if_pos c111] at e
      cases e
      exact z_vret dX10_init_193 rfl
    · rw [if_neg c111] at e
      refine z_aload_n 0 dX10_init_174 rfl ?_
      replace e := z_bd e; obtain ⟨x112, ex112, e⟩ := e
      refine z_getQ ex112 lk_X10_16 dX10_init_175 ?_
      refine z_iload_n 1 dX10_init_178 rfl ?_
      replace e := z_bd e; obtain ⟨h113, eh113, e⟩ := e
      refine z_newE eh113 nk_X10_9 dX10_init_179 ?_
      refine z_dup dX10_init_182 (z_cr _) ?_
      replace e := z_bd e; obtain ⟨p114, ep114, e⟩ := e
      refine z_cI' [] (S_X9_init  ep114) rfl ml_X10_11 ck_X9_init im_X9_init rfl dX10_init_183 (by decide) rfl (by simp [z_ci, z_cj, z_cr, z_cx]) rfl ?_
      replace e := z_bd e; obtain ⟨h115, eh115, e⟩ := e
      refine z_aast 3 rfl rfl eh115 dX10_init_186 ?_
      replace e := z_bd e; obtain ⟨x116, ex116, e⟩ := e
      refine z_iinc (q := 1) (v := x116) (L' := [(1, .int x116), (0, z_r l0)]) dX10_init_187 rfl (Option.some.inj ex116) (by decide) (by simp [z_cr]) ?_
      refine z_goto (tgt := 169) dX10_init_190 (by decide) ?_
      exact z_weak [1, 0] rfl (hk169 e)
def D_X10_init (h : z_H) (l0 : Option Nat) : Option z_H :=
  if l0 = none then none else
  (some (z_new h 13 (.inr (9, [.null, .null, .null, .null, .null, .null, .null, .null, .int 0, .int 0, .int 0, .int 0, .int 0])))).bind fun h118 =>
  (D_X9_init  h118 (some h.1)).bind fun p119 =>
  (z_pV 10 p119 l0 0 (z_r (some h.1))).bind fun h120 =>
  (z_nQ RX9 h120 (2:Int32)).bind fun h121 =>
  (z_pV 10 h121 l0 1 (z_r (some h120.1))).bind fun h122 =>
  (z_nZ h122 (2:Int32)).bind fun h123 =>
  (z_pV 10 h123 l0 2 (z_r (some h122.1))).bind fun h124 =>
  (some (z_new h124 13 (.inr (9, [.null, .null, .null, .null, .null, .null, .null, .null, .int 0, .int 0, .int 0, .int 0, .int 0])))).bind fun h125 =>
  (D_X9_init  h125 (some h124.1)).bind fun p126 =>
  (z_pV 10 p126 l0 3 (z_r (some h124.1))).bind fun h127 =>
  (some (z_new h127 2 (.inr (8, [.null, .int 0])))).bind fun h128 =>
  (D_X8_init  h128 (some h127.1)).bind fun p129 =>
  (z_pV 10 p129 l0 4 (z_r (some h127.1))).bind fun h130 =>
  (some (z_new h130 10 (.inr (5, [.null, .null, .int 0, .int 0, .int 0, .int 0, .int 0, .int 0, .int 0, .int 0])))).bind fun h131 =>
  (D_X5_init  h131 (some h130.1)).bind fun p132 =>
  (z_pV 10 p132 l0 5 (z_r (some h130.1))).bind fun h133 =>
  (some (z_new h133 3 (.inr (1, [.null, .null, .int 0])))).bind fun h134 =>
  (D_X1_init  h134 (some h133.1)).bind fun p135 =>
  (z_pV 10 p135 l0 6 (z_r (some h133.1))).bind fun h136 =>
  (some (z_new h136 2 (.inr (0, [.null, .null])))).bind fun h137 =>
  (z_gQ 10 h137 l0 6).bind fun x138 =>
  (D_X0_init  h137 (some h136.1) x138).bind fun p139 =>
  (z_pV 10 p139 l0 7 (z_r (some h136.1))).bind fun h140 =>
  (some (z_new h140 7 (.inr (2, [.null, .null, .null, .null, .int 0, .int 0, .int 0])))).bind fun h141 =>
  (z_gQ 10 h141 l0 6).bind fun x142 =>
  (z_gQ 10 h141 l0 7).bind fun x143 =>
  (D_X2_init  h141 (some h140.1) x142 x143).bind fun p144 =>
  (z_pV 10 p144 l0 8 (z_r (some h140.1))).bind fun h145 =>
  (some (z_new h145 9 (.inr (4, [.null, .null, .null, .null, .null, .null, .null, .int 0, .int 0])))).bind fun h146 =>
  (z_gQ 10 h146 l0 6).bind fun x147 =>
  (D_X4_init  h146 (some h145.1) x147).bind fun p148 =>
  (z_pV 10 p148 l0 9 (z_r (some h145.1))).bind fun h149 =>
  (some (z_new h149 6 (.inr (6, [.null, .null, .null, .null, .null, .null])))).bind fun h150 =>
  (z_gQ 10 h150 l0 9).bind fun x151 =>
  (D_X6_init  h150 (some h149.1) x151).bind fun p152 =>
  (z_pV 10 p152 l0 10 (z_r (some h149.1))).bind fun h153 =>
  (some (z_new h153 6 (.inr (3, [.null, .null, .int 0, .int 0, .int 0, .int 0])))).bind fun h154 =>
  (D_X3_init  h154 (some h153.1)).bind fun p155 =>
  (z_pV 10 p155 l0 11 (z_r (some h153.1))).bind fun h156 =>
  (z_nI h156 (7:Int32)).bind fun h157 =>
  (z_pV 10 h157 l0 12 (z_r (some h156.1))).bind fun h158 =>
  (z_pV 10 h158 l0 13 (.int (0:Int32))).bind fun h159 =>
  (z_pV 10 h159 l0 14 (.int (0:Int32))).bind fun h160 =>
  D_X10_init_169   z_F h160 l0 (0:Int32)
set_option maxRecDepth 100000 in
set_option maxHeartbeats 4000000 in
theorem S_X10_init {G : z_G} {l : Launch} {h : z_H} {l0 : Option Nat} {res : z_H} (e : D_X10_init h l0 = some res) : z_Meth G l 6 M_X10_init [z_r l0] h res none := by
  refine z_Meth.of ck_X10_init.2.2.2.2 (by simp [lg_sl, z_ci, z_cj, z_cr, z_cx]) ck_X10_init.1 ?_
  rw [show lv_args 0 [z_r l0] = [(0, z_r l0)] from by simp [lv_args, z_ci, z_cj, z_cr, z_cx]]
  unfold D_X10_init at e
  refine z_aload_n 0 dX10_init_0 rfl ?_
  replace e := z_ifn e; obtain ⟨c117, e⟩ := e
  refine z_obj c117 (q := l0) ml_X10_3 (Nat.zero_le _) (by decide) dX10_init_1 ?_
  refine z_aload_n 0 dX10_init_4 rfl ?_
  replace e := z_bd e; obtain ⟨h118, eh118, e⟩ := e
  refine z_newE eh118 nk_X10_9 dX10_init_5 ?_
  refine z_dup dX10_init_8 (z_cr _) ?_
  replace e := z_bd e; obtain ⟨p119, ep119, e⟩ := e
  refine z_cI' [] (S_X9_init  ep119) rfl ml_X10_11 ck_X9_init im_X9_init rfl dX10_init_9 (by decide) rfl (by simp [z_ci, z_cj, z_cr, z_cx]) rfl ?_
  replace e := z_bd e; obtain ⟨h120, eh120, e⟩ := e
  refine z_putF eh120 lk_X10_12 wk_10_0 (fun _ _ _ q => by cases q; rfl) rfl (fun G => (z_nr (Or.inl ⟨_, rfl⟩) _ G).1) (fun G => (z_nr (Or.inl ⟨_, rfl⟩) _ G).2) dX10_init_12 ?_
  refine z_aload_n 0 dX10_init_15 rfl ?_
  refine z_iconst (v := 2) dX10_init_16 (by decide) ?_
  replace e := z_bd e; obtain ⟨h121, eh121, e⟩ := e
  refine z_nwQ 3 rfl (Or.inl rfl) eh121 cl_X10_9 dX10_init_17 ?_
  replace e := z_bd e; obtain ⟨h122, eh122, e⟩ := e
  refine z_putF eh122 lk_X10_16 wk_10_1 (fun _ _ _ q => by cases q; rfl) rfl (fun G => (z_nr (Or.inr ⟨_, rfl⟩) _ G).1) (fun G => (z_nr (Or.inr ⟨_, rfl⟩) _ G).2) dX10_init_20 ?_
  refine z_aload_n 0 dX10_init_23 rfl ?_
  refine z_iconst (v := 2) dX10_init_24 (by decide) ?_
  replace e := z_bd e; obtain ⟨h123, eh123, e⟩ := e
  refine z_nwZ eh123 ac_boolean dX10_init_25 ?_
  replace e := z_bd e; obtain ⟨h124, eh124, e⟩ := e
  refine z_putF eh124 lk_X10_20 wk_10_2 (fun _ _ _ q => by cases q; rfl) rfl (fun G => (z_nr (Or.inr ⟨_, rfl⟩) _ G).1) (fun G => (z_nr (Or.inr ⟨_, rfl⟩) _ G).2) dX10_init_27 ?_
  refine z_aload_n 0 dX10_init_30 rfl ?_
  replace e := z_bd e; obtain ⟨h125, eh125, e⟩ := e
  refine z_newE eh125 nk_X10_9 dX10_init_31 ?_
  refine z_dup dX10_init_34 (z_cr _) ?_
  replace e := z_bd e; obtain ⟨p126, ep126, e⟩ := e
  refine z_cI' [] (S_X9_init  ep126) rfl ml_X10_11 ck_X9_init im_X9_init rfl dX10_init_35 (by decide) rfl (by simp [z_ci, z_cj, z_cr, z_cx]) rfl ?_
  replace e := z_bd e; obtain ⟨h127, eh127, e⟩ := e
  refine z_putF eh127 lk_X10_24 wk_10_3 (fun _ _ _ q => by cases q; rfl) rfl (fun G => (z_nr (Or.inl ⟨_, rfl⟩) _ G).1) (fun G => (z_nr (Or.inl ⟨_, rfl⟩) _ G).2) dX10_init_38 ?_
  refine z_aload_n 0 dX10_init_41 rfl ?_
  replace e := z_bd e; obtain ⟨h128, eh128, e⟩ := e
  refine z_newE eh128 nk_X10_27 dX10_init_42 ?_
  refine z_dup dX10_init_45 (z_cr _) ?_
  replace e := z_bd e; obtain ⟨p129, ep129, e⟩ := e
  refine z_cIN (host := "SoleReader") [] (S_X8_init  ep129) rfl (by decide +kernel) ck_X8_init im_X8_init rfl dX10_init_46 (by decide) rfl (by simp [z_ci, z_cj, z_cr, z_cx]) rfl ?_
  replace e := z_bd e; obtain ⟨h130, eh130, e⟩ := e
  refine z_putF eh130 lk_X10_30 wk_10_4 (fun _ _ _ q => by cases q; rfl) rfl (fun G => (z_nr (Or.inl ⟨_, rfl⟩) _ G).1) (fun G => (z_nr (Or.inl ⟨_, rfl⟩) _ G).2) dX10_init_49 ?_
  refine z_aload_n 0 dX10_init_52 rfl ?_
  replace e := z_bd e; obtain ⟨h131, eh131, e⟩ := e
  refine z_newE eh131 nk_X10_34 dX10_init_53 ?_
  refine z_dup dX10_init_56 (z_cr _) ?_
  replace e := z_bd e; obtain ⟨p132, ep132, e⟩ := e
  refine z_cIN (host := "SoleReader") [] (S_X5_init  ep132) rfl (by decide +kernel) ck_X5_init im_X5_init rfl dX10_init_57 (by decide) rfl (by simp [z_ci, z_cj, z_cr, z_cx]) rfl ?_
  replace e := z_bd e; obtain ⟨h133, eh133, e⟩ := e
  refine z_putF eh133 lk_X10_37 wk_10_5 (fun _ _ _ q => by cases q; rfl) rfl (fun G => (z_nr (Or.inl ⟨_, rfl⟩) _ G).1) (fun G => (z_nr (Or.inl ⟨_, rfl⟩) _ G).2) dX10_init_60 ?_
  refine z_aload_n 0 dX10_init_63 rfl ?_
  replace e := z_bd e; obtain ⟨h134, eh134, e⟩ := e
  refine z_newE eh134 nk_X10_41 dX10_init_64 ?_
  refine z_dup dX10_init_67 (z_cr _) ?_
  replace e := z_bd e; obtain ⟨p135, ep135, e⟩ := e
  refine z_cIN (host := "SoleReader") [] (S_X1_init  ep135) rfl (by decide +kernel) ck_X1_init im_X1_init rfl dX10_init_68 (by decide) rfl (by simp [z_ci, z_cj, z_cr, z_cx]) rfl ?_
  replace e := z_bd e; obtain ⟨h136, eh136, e⟩ := e
  refine z_putF eh136 lk_X10_44 wk_10_6 (fun _ _ _ q => by cases q; rfl) rfl (fun G => (z_nr (Or.inl ⟨_, rfl⟩) _ G).1) (fun G => (z_nr (Or.inl ⟨_, rfl⟩) _ G).2) dX10_init_71 ?_
  refine z_aload_n 0 dX10_init_74 rfl ?_
  replace e := z_bd e; obtain ⟨h137, eh137, e⟩ := e
  refine z_newE eh137 nk_X10_48 dX10_init_75 ?_
  refine z_dup dX10_init_78 (z_cr _) ?_
  refine z_aload_n 0 dX10_init_79 rfl ?_
  replace e := z_bd e; obtain ⟨x138, ex138, e⟩ := e
  refine z_getQ ex138 lk_X10_44 dX10_init_80 ?_
  replace e := z_bd e; obtain ⟨p139, ep139, e⟩ := e
  refine z_cI' [z_r x138] (S_X0_init  ep139) rfl ml_X10_50 ck_X0_init im_X0_init rfl dX10_init_83 (by decide) rfl (by simp [z_ci, z_cj, z_cr, z_cx]) rfl ?_
  replace e := z_bd e; obtain ⟨h140, eh140, e⟩ := e
  refine z_putF eh140 lk_X10_53 wk_10_7 (fun _ _ _ q => by cases q; rfl) rfl (fun G => (z_nr (Or.inl ⟨_, rfl⟩) _ G).1) (fun G => (z_nr (Or.inl ⟨_, rfl⟩) _ G).2) dX10_init_86 ?_
  refine z_aload_n 0 dX10_init_89 rfl ?_
  replace e := z_bd e; obtain ⟨h141, eh141, e⟩ := e
  refine z_newE eh141 nk_X10_57 dX10_init_90 ?_
  refine z_dup dX10_init_93 (z_cr _) ?_
  refine z_aload_n 0 dX10_init_94 rfl ?_
  replace e := z_bd e; obtain ⟨x142, ex142, e⟩ := e
  refine z_getQ ex142 lk_X10_44 dX10_init_95 ?_
  refine z_aload_n 0 dX10_init_98 rfl ?_
  replace e := z_bd e; obtain ⟨x143, ex143, e⟩ := e
  refine z_getQ ex143 lk_X10_53 dX10_init_99 ?_
  replace e := z_bd e; obtain ⟨p144, ep144, e⟩ := e
  refine z_cI' [z_r x142, z_r x143] (S_X2_init  ep144) rfl ml_X10_59 ck_X2_init im_X2_init rfl dX10_init_102 (by decide) rfl (by simp [z_ci, z_cj, z_cr, z_cx]) rfl ?_
  replace e := z_bd e; obtain ⟨h145, eh145, e⟩ := e
  refine z_putF eh145 lk_X10_62 wk_10_8 (fun _ _ _ q => by cases q; rfl) rfl (fun G => (z_nr (Or.inl ⟨_, rfl⟩) _ G).1) (fun G => (z_nr (Or.inl ⟨_, rfl⟩) _ G).2) dX10_init_105 ?_
  refine z_aload_n 0 dX10_init_108 rfl ?_
  replace e := z_bd e; obtain ⟨h146, eh146, e⟩ := e
  refine z_newE eh146 nk_X10_66 dX10_init_109 ?_
  refine z_dup dX10_init_112 (z_cr _) ?_
  refine z_aload_n 0 dX10_init_113 rfl ?_
  replace e := z_bd e; obtain ⟨x147, ex147, e⟩ := e
  refine z_getQ ex147 lk_X10_44 dX10_init_114 ?_
  replace e := z_bd e; obtain ⟨p148, ep148, e⟩ := e
  refine z_cI' [z_r x147] (S_X4_init  ep148) rfl ml_X10_68 ck_X4_init im_X4_init rfl dX10_init_117 (by decide) rfl (by simp [z_ci, z_cj, z_cr, z_cx]) rfl ?_
  replace e := z_bd e; obtain ⟨h149, eh149, e⟩ := e
  refine z_putF eh149 lk_X10_69 wk_10_9 (fun _ _ _ q => by cases q; rfl) rfl (fun G => (z_nr (Or.inl ⟨_, rfl⟩) _ G).1) (fun G => (z_nr (Or.inl ⟨_, rfl⟩) _ G).2) dX10_init_120 ?_
  refine z_aload_n 0 dX10_init_123 rfl ?_
  replace e := z_bd e; obtain ⟨h150, eh150, e⟩ := e
  refine z_newE eh150 nk_X10_73 dX10_init_124 ?_
  refine z_dup dX10_init_127 (z_cr _) ?_
  refine z_aload_n 0 dX10_init_128 rfl ?_
  replace e := z_bd e; obtain ⟨x151, ex151, e⟩ := e
  refine z_getQ ex151 lk_X10_69 dX10_init_129 ?_
  replace e := z_bd e; obtain ⟨p152, ep152, e⟩ := e
  refine z_cI' [z_r x151] (S_X6_init  ep152) rfl ml_X10_75 ck_X6_init im_X6_init rfl dX10_init_132 (by decide) rfl (by simp [z_ci, z_cj, z_cr, z_cx]) rfl ?_
  replace e := z_bd e; obtain ⟨h153, eh153, e⟩ := e
  refine z_putF eh153 lk_X10_78 wk_10_10 (fun _ _ _ q => by cases q; rfl) rfl (fun G => (z_nr (Or.inl ⟨_, rfl⟩) _ G).1) (fun G => (z_nr (Or.inl ⟨_, rfl⟩) _ G).2) dX10_init_135 ?_
  refine z_aload_n 0 dX10_init_138 rfl ?_
  replace e := z_bd e; obtain ⟨h154, eh154, e⟩ := e
  refine z_newE eh154 nk_X10_82 dX10_init_139 ?_
  refine z_dup dX10_init_142 (z_cr _) ?_
  replace e := z_bd e; obtain ⟨p155, ep155, e⟩ := e
  refine z_cIN (host := "SoleReader") [] (S_X3_init  ep155) rfl (by decide +kernel) ck_X3_init im_X3_init rfl dX10_init_143 (by decide) rfl (by simp [z_ci, z_cj, z_cr, z_cx]) rfl ?_
  replace e := z_bd e; obtain ⟨h156, eh156, e⟩ := e
  refine z_putF eh156 lk_X10_85 wk_10_11 (fun _ _ _ q => by cases q; rfl) rfl (fun G => (z_nr (Or.inl ⟨_, rfl⟩) _ G).1) (fun G => (z_nr (Or.inl ⟨_, rfl⟩) _ G).2) dX10_init_146 ?_
  refine z_aload_n 0 dX10_init_149 rfl ?_
  refine z_bipush (v := 7) dX10_init_150 (by decide) ?_
  replace e := z_bd e; obtain ⟨h157, eh157, e⟩ := e
  refine z_nwI eh157 ac_int dX10_init_152 ?_
  replace e := z_bd e; obtain ⟨h158, eh158, e⟩ := e
  refine z_putF eh158 lk_X10_89 wk_10_12 (fun _ _ _ q => by cases q; rfl) rfl (fun G => (z_nr (Or.inr ⟨_, rfl⟩) _ G).1) (fun G => (z_nr (Or.inr ⟨_, rfl⟩) _ G).2) dX10_init_154 ?_
  refine z_aload_n 0 dX10_init_157 rfl ?_
  refine z_iconst (v := 0) dX10_init_158 (by decide) ?_
  replace e := z_bd e; obtain ⟨h159, eh159, e⟩ := e
  refine z_putV eh159 lk_X10_93 wk_10_13 (fun _ => rfl) (fun _ => rfl) dX10_init_159 ?_
  refine z_aload_n 0 dX10_init_162 rfl ?_
  refine z_iconst (v := 0) dX10_init_163 (by decide) ?_
  replace e := z_bd e; obtain ⟨h160, eh160, e⟩ := e
  refine z_putV eh160 lk_X10_97 wk_10_14 (fun _ => rfl) (fun _ => rfl) dX10_init_164 ?_
  refine z_iconst (v := 0) dX10_init_167 (by decide) ?_
  refine z_istore_n (L' := [(1, .int (0:Int32)), (0, z_r l0)]) dX10_init_168 rfl (by decide) (by simp [z_cr]) ?_
  exact z_weak [1, 0] rfl (S_X10_init_169   z_F e)
theorem dX11_init_0 : decode cX11_init 0 = .ok (.aload_n 0, 1) := by decide +kernel
theorem dX11_init_1 : decode cX11_init 1 = .ok (.invokespecial 1, 3) := by decide +kernel
theorem dX11_init_4 : decode cX11_init 4 = .ok (.aload_n 0, 1) := by decide +kernel
theorem dX11_init_5 : decode cX11_init 5 = .ok (.bipush 7, 2) := by decide +kernel
theorem dX11_init_7 : decode cX11_init 7 = .ok (.newarray .int, 2) := by decide +kernel
theorem dX11_init_9 : decode cX11_init 9 = .ok (.putfield 7, 3) := by decide +kernel
theorem dX11_init_12 : decode cX11_init 12 = .ok (.aload_n 0, 1) := by decide +kernel
theorem dX11_init_13 : decode cX11_init 13 = .ok (.sipush 5462, 3) := by decide +kernel
theorem dX11_init_16 : decode cX11_init 16 = .ok (.newarray .int, 2) := by decide +kernel
theorem dX11_init_18 : decode cX11_init 18 = .ok (.putfield 13, 3) := by decide +kernel
theorem dX11_init_21 : decode cX11_init 21 = .ok (.aload_n 0, 1) := by decide +kernel
theorem dX11_init_22 : decode cX11_init 22 = .ok (.sipush 10924, 3) := by decide +kernel
theorem dX11_init_25 : decode cX11_init 25 = .ok (.newarray .int, 2) := by decide +kernel
theorem dX11_init_27 : decode cX11_init 27 = .ok (.putfield 16, 3) := by decide +kernel
theorem dX11_init_30 : decode cX11_init 30 = .ok (.aload_n 0, 1) := by decide +kernel
theorem dX11_init_31 : decode cX11_init 31 = .ok (.iconst 2, 1) := by decide +kernel
theorem dX11_init_32 : decode cX11_init 32 = .ok (.newarray .boolean, 2) := by decide +kernel
theorem dX11_init_34 : decode cX11_init 34 = .ok (.putfield 19, 3) := by decide +kernel
theorem dX11_init_37 : decode cX11_init 37 = .ok (.aload_n 0, 1) := by decide +kernel
theorem dX11_init_38 : decode cX11_init 38 = .ok (.sipush 702, 3) := by decide +kernel
theorem dX11_init_41 : decode cX11_init 41 = .ok (.newarray .int, 2) := by decide +kernel
theorem dX11_init_43 : decode cX11_init 43 = .ok (.putfield 23, 3) := by decide +kernel
theorem dX11_init_46 : decode cX11_init 46 = .ok (.aload_n 0, 1) := by decide +kernel
theorem dX11_init_47 : decode cX11_init 47 = .ok (.bipush 16, 2) := by decide +kernel
theorem dX11_init_49 : decode cX11_init 49 = .ok (.newarray .int, 2) := by decide +kernel
theorem dX11_init_51 : decode cX11_init 51 = .ok (.putfield 26, 3) := by decide +kernel
theorem dX11_init_54 : decode cX11_init 54 = .ok (.aload_n 0, 1) := by decide +kernel
theorem dX11_init_55 : decode cX11_init 55 = .ok (.sipush 624, 3) := by decide +kernel
theorem dX11_init_58 : decode cX11_init 58 = .ok (.newarray .int, 2) := by decide +kernel
theorem dX11_init_60 : decode cX11_init 60 = .ok (.putfield 29, 3) := by decide +kernel
theorem dX11_init_63 : decode cX11_init 63 = .ok (.aload_n 0, 1) := by decide +kernel
theorem dX11_init_64 : decode cX11_init 64 = .ok (.bipush 16, 2) := by decide +kernel
theorem dX11_init_66 : decode cX11_init 66 = .ok (.newarray .int, 2) := by decide +kernel
theorem dX11_init_68 : decode cX11_init 68 = .ok (.putfield 32, 3) := by decide +kernel
theorem dX11_init_71 : decode cX11_init 71 = .ok (.aload_n 0, 1) := by decide +kernel
theorem dX11_init_72 : decode cX11_init 72 = .ok (.sipush 400, 3) := by decide +kernel
theorem dX11_init_75 : decode cX11_init 75 = .ok (.newarray .int, 2) := by decide +kernel
theorem dX11_init_77 : decode cX11_init 77 = .ok (.putfield 35, 3) := by decide +kernel
theorem dX11_init_80 : decode cX11_init 80 = .ok (.aload_n 0, 1) := by decide +kernel
theorem dX11_init_81 : decode cX11_init 81 = .ok (.iconst (-1), 1) := by decide +kernel
theorem dX11_init_82 : decode cX11_init 82 = .ok (.putfield 38, 3) := by decide +kernel
theorem dX11_init_85 : decode cX11_init 85 = .ok (.aload_n 0, 1) := by decide +kernel
theorem dX11_init_86 : decode cX11_init 86 = .ok (.bipush 96, 2) := by decide +kernel
theorem dX11_init_88 : decode cX11_init 88 = .ok (.newarray .int, 2) := by decide +kernel
theorem dX11_init_90 : decode cX11_init 90 = .ok (.putfield 42, 3) := by decide +kernel
theorem dX11_init_93 : decode cX11_init 93 = .ok (.aload_n 0, 1) := by decide +kernel
theorem dX11_init_94 : decode cX11_init 94 = .ok (.sipush 400, 3) := by decide +kernel
theorem dX11_init_97 : decode cX11_init 97 = .ok (.newarray .int, 2) := by decide +kernel
theorem dX11_init_99 : decode cX11_init 99 = .ok (.putfield 45, 3) := by decide +kernel
theorem dX11_init_102 : decode cX11_init 102 = .ok (.aload_n 0, 1) := by decide +kernel
theorem dX11_init_103 : decode cX11_init 103 = .ok (.sipush 400, 3) := by decide +kernel
theorem dX11_init_106 : decode cX11_init 106 = .ok (.newarray .int, 2) := by decide +kernel
theorem dX11_init_108 : decode cX11_init 108 = .ok (.putfield 48, 3) := by decide +kernel
theorem dX11_init_111 : decode cX11_init 111 = .ok (.aload_n 0, 1) := by decide +kernel
theorem dX11_init_112 : decode cX11_init 112 = .ok (.sipush 400, 3) := by decide +kernel
theorem dX11_init_115 : decode cX11_init 115 = .ok (.newarray .int, 2) := by decide +kernel
theorem dX11_init_117 : decode cX11_init 117 = .ok (.putfield 51, 3) := by decide +kernel
theorem dX11_init_120 : decode cX11_init 120 = .ok (.aload_n 0, 1) := by decide +kernel
theorem dX11_init_121 : decode cX11_init 121 = .ok (.sipush 400, 3) := by decide +kernel
theorem dX11_init_124 : decode cX11_init 124 = .ok (.newarray .int, 2) := by decide +kernel
theorem dX11_init_126 : decode cX11_init 126 = .ok (.putfield 54, 3) := by decide +kernel
theorem dX11_init_129 : decode cX11_init 129 = .ok (.aload_n 0, 1) := by decide +kernel
theorem dX11_init_130 : decode cX11_init 130 = .ok (.bipush 9, 2) := by decide +kernel
theorem dX11_init_132 : decode cX11_init 132 = .ok (.newarray .long, 2) := by decide +kernel
theorem dX11_init_134 : decode cX11_init 134 = .ok (.dup, 1) := by decide +kernel
theorem dX11_init_135 : decode cX11_init 135 = .ok (.iconst 0, 1) := by decide +kernel
theorem dX11_init_136 : decode cX11_init 136 = .ok (.ldc2_w 57, 3) := by decide +kernel
theorem dX11_init_139 : decode cX11_init 139 = .ok (.lastore, 1) := by decide +kernel
theorem dX11_init_140 : decode cX11_init 140 = .ok (.dup, 1) := by decide +kernel
theorem dX11_init_141 : decode cX11_init 141 = .ok (.iconst 1, 1) := by decide +kernel
theorem dX11_init_142 : decode cX11_init 142 = .ok (.ldc2_w 59, 3) := by decide +kernel
theorem dX11_init_145 : decode cX11_init 145 = .ok (.lastore, 1) := by decide +kernel
theorem dX11_init_146 : decode cX11_init 146 = .ok (.dup, 1) := by decide +kernel
theorem dX11_init_147 : decode cX11_init 147 = .ok (.iconst 2, 1) := by decide +kernel
theorem dX11_init_148 : decode cX11_init 148 = .ok (.ldc2_w 61, 3) := by decide +kernel
theorem dX11_init_151 : decode cX11_init 151 = .ok (.lastore, 1) := by decide +kernel
theorem dX11_init_152 : decode cX11_init 152 = .ok (.dup, 1) := by decide +kernel
theorem dX11_init_153 : decode cX11_init 153 = .ok (.iconst 3, 1) := by decide +kernel
theorem dX11_init_154 : decode cX11_init 154 = .ok (.ldc2_w 63, 3) := by decide +kernel
theorem dX11_init_157 : decode cX11_init 157 = .ok (.lastore, 1) := by decide +kernel
theorem dX11_init_158 : decode cX11_init 158 = .ok (.dup, 1) := by decide +kernel
theorem dX11_init_159 : decode cX11_init 159 = .ok (.iconst 4, 1) := by decide +kernel
theorem dX11_init_160 : decode cX11_init 160 = .ok (.ldc2_w 65, 3) := by decide +kernel
theorem dX11_init_163 : decode cX11_init 163 = .ok (.lastore, 1) := by decide +kernel
theorem dX11_init_164 : decode cX11_init 164 = .ok (.dup, 1) := by decide +kernel
theorem dX11_init_165 : decode cX11_init 165 = .ok (.iconst 5, 1) := by decide +kernel
theorem dX11_init_166 : decode cX11_init 166 = .ok (.ldc2_w 67, 3) := by decide +kernel
theorem dX11_init_169 : decode cX11_init 169 = .ok (.lastore, 1) := by decide +kernel
theorem dX11_init_170 : decode cX11_init 170 = .ok (.dup, 1) := by decide +kernel
theorem dX11_init_171 : decode cX11_init 171 = .ok (.bipush 6, 2) := by decide +kernel
theorem dX11_init_173 : decode cX11_init 173 = .ok (.ldc2_w 69, 3) := by decide +kernel
theorem dX11_init_176 : decode cX11_init 176 = .ok (.lastore, 1) := by decide +kernel
theorem dX11_init_177 : decode cX11_init 177 = .ok (.dup, 1) := by decide +kernel
theorem dX11_init_178 : decode cX11_init 178 = .ok (.bipush 7, 2) := by decide +kernel
theorem dX11_init_180 : decode cX11_init 180 = .ok (.ldc2_w 71, 3) := by decide +kernel
theorem dX11_init_183 : decode cX11_init 183 = .ok (.lastore, 1) := by decide +kernel
theorem dX11_init_184 : decode cX11_init 184 = .ok (.dup, 1) := by decide +kernel
theorem dX11_init_185 : decode cX11_init 185 = .ok (.bipush 8, 2) := by decide +kernel
theorem dX11_init_187 : decode cX11_init 187 = .ok (.ldc2_w 73, 3) := by decide +kernel
theorem dX11_init_190 : decode cX11_init 190 = .ok (.lastore, 1) := by decide +kernel
theorem dX11_init_191 : decode cX11_init 191 = .ok (.putfield 75, 3) := by decide +kernel
theorem dX11_init_194 : decode cX11_init 194 = .ok (.aload_n 0, 1) := by decide +kernel
theorem dX11_init_195 : decode cX11_init 195 = .ok (.bipush 8, 2) := by decide +kernel
theorem dX11_init_197 : decode cX11_init 197 = .ok (.newarray .long, 2) := by decide +kernel
theorem dX11_init_199 : decode cX11_init 199 = .ok (.dup, 1) := by decide +kernel
theorem dX11_init_200 : decode cX11_init 200 = .ok (.iconst 0, 1) := by decide +kernel
theorem dX11_init_201 : decode cX11_init 201 = .ok (.ldc2_w 71, 3) := by decide +kernel
theorem dX11_init_204 : decode cX11_init 204 = .ok (.lastore, 1) := by decide +kernel
theorem dX11_init_205 : decode cX11_init 205 = .ok (.dup, 1) := by decide +kernel
theorem dX11_init_206 : decode cX11_init 206 = .ok (.iconst 1, 1) := by decide +kernel
theorem dX11_init_207 : decode cX11_init 207 = .ok (.ldc2_w 79, 3) := by decide +kernel
theorem dX11_init_210 : decode cX11_init 210 = .ok (.lastore, 1) := by decide +kernel
theorem dX11_init_211 : decode cX11_init 211 = .ok (.dup, 1) := by decide +kernel
theorem dX11_init_212 : decode cX11_init 212 = .ok (.iconst 2, 1) := by decide +kernel
theorem dX11_init_213 : decode cX11_init 213 = .ok (.ldc2_w 81, 3) := by decide +kernel
theorem dX11_init_216 : decode cX11_init 216 = .ok (.lastore, 1) := by decide +kernel
theorem dX11_init_217 : decode cX11_init 217 = .ok (.dup, 1) := by decide +kernel
theorem dX11_init_218 : decode cX11_init 218 = .ok (.iconst 3, 1) := by decide +kernel
theorem dX11_init_219 : decode cX11_init 219 = .ok (.ldc2_w 83, 3) := by decide +kernel
theorem dX11_init_222 : decode cX11_init 222 = .ok (.lastore, 1) := by decide +kernel
theorem dX11_init_223 : decode cX11_init 223 = .ok (.dup, 1) := by decide +kernel
theorem dX11_init_224 : decode cX11_init 224 = .ok (.iconst 4, 1) := by decide +kernel
theorem dX11_init_225 : decode cX11_init 225 = .ok (.ldc2_w 85, 3) := by decide +kernel
theorem dX11_init_228 : decode cX11_init 228 = .ok (.lastore, 1) := by decide +kernel
theorem dX11_init_229 : decode cX11_init 229 = .ok (.dup, 1) := by decide +kernel
theorem dX11_init_230 : decode cX11_init 230 = .ok (.iconst 5, 1) := by decide +kernel
theorem dX11_init_231 : decode cX11_init 231 = .ok (.ldc2_w 87, 3) := by decide +kernel
theorem dX11_init_234 : decode cX11_init 234 = .ok (.lastore, 1) := by decide +kernel
theorem dX11_init_235 : decode cX11_init 235 = .ok (.dup, 1) := by decide +kernel
theorem dX11_init_236 : decode cX11_init 236 = .ok (.bipush 6, 2) := by decide +kernel
theorem dX11_init_238 : decode cX11_init 238 = .ok (.ldc2_w 89, 3) := by decide +kernel
theorem dX11_init_241 : decode cX11_init 241 = .ok (.lastore, 1) := by decide +kernel
theorem dX11_init_242 : decode cX11_init 242 = .ok (.dup, 1) := by decide +kernel
theorem dX11_init_243 : decode cX11_init 243 = .ok (.bipush 7, 2) := by decide +kernel
theorem dX11_init_245 : decode cX11_init 245 = .ok (.ldc2_w 91, 3) := by decide +kernel
theorem dX11_init_248 : decode cX11_init 248 = .ok (.lastore, 1) := by decide +kernel
theorem dX11_init_249 : decode cX11_init 249 = .ok (.putfield 93, 3) := by decide +kernel
theorem dX11_init_252 : decode cX11_init 252 = .ok (.aload_n 0, 1) := by decide +kernel
theorem dX11_init_253 : decode cX11_init 253 = .ok (.iconst 3, 1) := by decide +kernel
theorem dX11_init_254 : decode cX11_init 254 = .ok (.newarray .long, 2) := by decide +kernel
theorem dX11_init_256 : decode cX11_init 256 = .ok (.dup, 1) := by decide +kernel
theorem dX11_init_257 : decode cX11_init 257 = .ok (.iconst 0, 1) := by decide +kernel
theorem dX11_init_258 : decode cX11_init 258 = .ok (.ldc2_w 96, 3) := by decide +kernel
theorem dX11_init_261 : decode cX11_init 261 = .ok (.lastore, 1) := by decide +kernel
theorem dX11_init_262 : decode cX11_init 262 = .ok (.dup, 1) := by decide +kernel
theorem dX11_init_263 : decode cX11_init 263 = .ok (.iconst 1, 1) := by decide +kernel
theorem dX11_init_264 : decode cX11_init 264 = .ok (.ldc2_w 98, 3) := by decide +kernel
theorem dX11_init_267 : decode cX11_init 267 = .ok (.lastore, 1) := by decide +kernel
theorem dX11_init_268 : decode cX11_init 268 = .ok (.dup, 1) := by decide +kernel
theorem dX11_init_269 : decode cX11_init 269 = .ok (.iconst 2, 1) := by decide +kernel
theorem dX11_init_270 : decode cX11_init 270 = .ok (.ldc2_w 100, 3) := by decide +kernel
theorem dX11_init_273 : decode cX11_init 273 = .ok (.lastore, 1) := by decide +kernel
theorem dX11_init_274 : decode cX11_init 274 = .ok (.putfield 102, 3) := by decide +kernel
theorem dX11_init_277 : decode cX11_init 277 = .ok (.aload_n 0, 1) := by decide +kernel
theorem dX11_init_278 : decode cX11_init 278 = .ok (.bipush 13, 2) := by decide +kernel
theorem dX11_init_280 : decode cX11_init 280 = .ok (.newarray .long, 2) := by decide +kernel
theorem dX11_init_282 : decode cX11_init 282 = .ok (.putfield 105, 3) := by decide +kernel
theorem dX11_init_285 : decode cX11_init 285 = .ok (.aload_n 0, 1) := by decide +kernel
theorem dX11_init_286 : decode cX11_init 286 = .ok (.bipush 13, 2) := by decide +kernel
theorem dX11_init_288 : decode cX11_init 288 = .ok (.newarray .long, 2) := by decide +kernel
theorem dX11_init_290 : decode cX11_init 290 = .ok (.putfield 108, 3) := by decide +kernel
theorem dX11_init_293 : decode cX11_init 293 = .ok (.aload_n 0, 1) := by decide +kernel
theorem dX11_init_294 : decode cX11_init 294 = .ok (.sipush 400, 3) := by decide +kernel
theorem dX11_init_297 : decode cX11_init 297 = .ok (.newarray .long, 2) := by decide +kernel
theorem dX11_init_299 : decode cX11_init 299 = .ok (.putfield 111, 3) := by decide +kernel
theorem dX11_init_302 : decode cX11_init 302 = .ok (.aload_n 0, 1) := by decide +kernel
theorem dX11_init_303 : decode cX11_init 303 = .ok (.bipush 100, 2) := by decide +kernel
theorem dX11_init_305 : decode cX11_init 305 = .ok (.newarray .int, 2) := by decide +kernel
theorem dX11_init_307 : decode cX11_init 307 = .ok (.putfield 114, 3) := by decide +kernel
theorem dX11_init_310 : decode cX11_init 310 = .ok (.aload_n 0, 1) := by decide +kernel
theorem dX11_init_311 : decode cX11_init 311 = .ok (.sipush 8575, 3) := by decide +kernel
theorem dX11_init_314 : decode cX11_init 314 = .ok (.newarray .long, 2) := by decide +kernel
theorem dX11_init_316 : decode cX11_init 316 = .ok (.putfield 117, 3) := by decide +kernel
theorem dX11_init_319 : decode cX11_init 319 = .ok (.aload_n 0, 1) := by decide +kernel
theorem dX11_init_320 : decode cX11_init 320 = .ok (.bipush 100, 2) := by decide +kernel
theorem dX11_init_322 : decode cX11_init 322 = .ok (.newarray .int, 2) := by decide +kernel
theorem dX11_init_324 : decode cX11_init 324 = .ok (.putfield 120, 3) := by decide +kernel
theorem dX11_init_327 : decode cX11_init 327 = .ok (.aload_n 0, 1) := by decide +kernel
theorem dX11_init_328 : decode cX11_init 328 = .ok (.bipush 100, 2) := by decide +kernel
theorem dX11_init_330 : decode cX11_init 330 = .ok (.newarray .int, 2) := by decide +kernel
theorem dX11_init_332 : decode cX11_init 332 = .ok (.putfield 123, 3) := by decide +kernel
theorem dX11_init_335 : decode cX11_init 335 = .ok (.aload_n 0, 1) := by decide +kernel
theorem dX11_init_336 : decode cX11_init 336 = .ok (.bipush 100, 2) := by decide +kernel
theorem dX11_init_338 : decode cX11_init 338 = .ok (.newarray .long, 2) := by decide +kernel
theorem dX11_init_340 : decode cX11_init 340 = .ok (.putfield 126, 3) := by decide +kernel
theorem dX11_init_343 : decode cX11_init 343 = .ok (.aload_n 0, 1) := by decide +kernel
theorem dX11_init_344 : decode cX11_init 344 = .ok (.bipush 100, 2) := by decide +kernel
theorem dX11_init_346 : decode cX11_init 346 = .ok (.newarray .long, 2) := by decide +kernel
theorem dX11_init_348 : decode cX11_init 348 = .ok (.putfield 129, 3) := by decide +kernel
theorem dX11_init_351 : decode cX11_init 351 = .ok (.aload_n 0, 1) := by decide +kernel
theorem dX11_init_352 : decode cX11_init 352 = .ok (.bipush 7, 2) := by decide +kernel
theorem dX11_init_354 : decode cX11_init 354 = .ok (.newarray .int, 2) := by decide +kernel
theorem dX11_init_356 : decode cX11_init 356 = .ok (.putfield 132, 3) := by decide +kernel
theorem dX11_init_359 : decode cX11_init 359 = .ok (.aload_n 0, 1) := by decide +kernel
theorem dX11_init_360 : decode cX11_init 360 = .ok (.bipush 6, 2) := by decide +kernel
theorem dX11_init_362 : decode cX11_init 362 = .ok (.newarray .int, 2) := by decide +kernel
theorem dX11_init_364 : decode cX11_init 364 = .ok (.putfield 135, 3) := by decide +kernel
theorem dX11_init_367 : decode cX11_init 367 = .ok (.aload_n 0, 1) := by decide +kernel
theorem dX11_init_368 : decode cX11_init 368 = .ok (.bipush 21, 2) := by decide +kernel
theorem dX11_init_370 : decode cX11_init 370 = .ok (.newarray .long, 2) := by decide +kernel
theorem dX11_init_372 : decode cX11_init 372 = .ok (.putfield 138, 3) := by decide +kernel
theorem dX11_init_375 : decode cX11_init 375 = .ok (.aload_n 0, 1) := by decide +kernel
theorem dX11_init_376 : decode cX11_init 376 = .ok (.iconst 5, 1) := by decide +kernel
theorem dX11_init_377 : decode cX11_init 377 = .ok (.newarray .long, 2) := by decide +kernel
theorem dX11_init_379 : decode cX11_init 379 = .ok (.dup, 1) := by decide +kernel
theorem dX11_init_380 : decode cX11_init 380 = .ok (.iconst 0, 1) := by decide +kernel
theorem dX11_init_381 : decode cX11_init 381 = .ok (.ldc2_w 141, 3) := by decide +kernel
theorem dX11_init_384 : decode cX11_init 384 = .ok (.lastore, 1) := by decide +kernel
theorem dX11_init_385 : decode cX11_init 385 = .ok (.dup, 1) := by decide +kernel
theorem dX11_init_386 : decode cX11_init 386 = .ok (.iconst 1, 1) := by decide +kernel
theorem dX11_init_387 : decode cX11_init 387 = .ok (.ldc2_w 143, 3) := by decide +kernel
theorem dX11_init_390 : decode cX11_init 390 = .ok (.lastore, 1) := by decide +kernel
theorem dX11_init_391 : decode cX11_init 391 = .ok (.dup, 1) := by decide +kernel
theorem dX11_init_392 : decode cX11_init 392 = .ok (.iconst 2, 1) := by decide +kernel
theorem dX11_init_393 : decode cX11_init 393 = .ok (.ldc2_w 145, 3) := by decide +kernel
theorem dX11_init_396 : decode cX11_init 396 = .ok (.lastore, 1) := by decide +kernel
theorem dX11_init_397 : decode cX11_init 397 = .ok (.dup, 1) := by decide +kernel
theorem dX11_init_398 : decode cX11_init 398 = .ok (.iconst 3, 1) := by decide +kernel
theorem dX11_init_399 : decode cX11_init 399 = .ok (.ldc2_w 147, 3) := by decide +kernel
theorem dX11_init_402 : decode cX11_init 402 = .ok (.lastore, 1) := by decide +kernel
theorem dX11_init_403 : decode cX11_init 403 = .ok (.dup, 1) := by decide +kernel
theorem dX11_init_404 : decode cX11_init 404 = .ok (.iconst 4, 1) := by decide +kernel
theorem dX11_init_405 : decode cX11_init 405 = .ok (.ldc2_w 149, 3) := by decide +kernel
theorem dX11_init_408 : decode cX11_init 408 = .ok (.lastore, 1) := by decide +kernel
theorem dX11_init_409 : decode cX11_init 409 = .ok (.putfield 151, 3) := by decide +kernel
theorem dX11_init_412 : decode cX11_init 412 = .ok (.aload_n 0, 1) := by decide +kernel
theorem dX11_init_413 : decode cX11_init 413 = .ok (.bipush 96, 2) := by decide +kernel
theorem dX11_init_415 : decode cX11_init 415 = .ok (.newarray .int, 2) := by decide +kernel
theorem dX11_init_417 : decode cX11_init 417 = .ok (.putfield 154, 3) := by decide +kernel
theorem dX11_init_420 : decode cX11_init 420 = .ok (.aload_n 0, 1) := by decide +kernel
theorem dX11_init_421 : decode cX11_init 421 = .ok (.iconst (-1), 1) := by decide +kernel
theorem dX11_init_422 : decode cX11_init 422 = .ok (.putfield 157, 3) := by decide +kernel
theorem dX11_init_425 : decode cX11_init 425 = .ok (.aload_n 0, 1) := by decide +kernel
theorem dX11_init_426 : decode cX11_init 426 = .ok (.bipush 39, 2) := by decide +kernel
theorem dX11_init_428 : decode cX11_init 428 = .ok (.newarray .int, 2) := by decide +kernel
theorem dX11_init_430 : decode cX11_init 430 = .ok (.putfield 160, 3) := by decide +kernel
theorem dX11_init_433 : decode cX11_init 433 = .ok (.aload_n 0, 1) := by decide +kernel
theorem dX11_init_434 : decode cX11_init 434 = .ok (.iconst (-1), 1) := by decide +kernel
theorem dX11_init_435 : decode cX11_init 435 = .ok (.putfield 163, 3) := by decide +kernel
theorem dX11_init_438 : decode cX11_init 438 = .ok (.aload_n 0, 1) := by decide +kernel
theorem dX11_init_439 : decode cX11_init 439 = .ok (.getfield 13, 3) := by decide +kernel
theorem dX11_init_442 : decode cX11_init 442 = .ok (.iconst 3, 1) := by decide +kernel
theorem dX11_init_443 : decode cX11_init 443 = .ok (.iconst (-1), 1) := by decide +kernel
theorem dX11_init_444 : decode cX11_init 444 = .ok (.iastore, 1) := by decide +kernel
theorem dX11_init_445 : decode cX11_init 445 = .ok (.aload_n 0, 1) := by decide +kernel
theorem dX11_init_446 : decode cX11_init 446 = .ok (.getfield 13, 3) := by decide +kernel
theorem dX11_init_449 : decode cX11_init 449 = .ok (.bipush 6, 2) := by decide +kernel
theorem dX11_init_451 : decode cX11_init 451 = .ok (.iconst 1, 1) := by decide +kernel
theorem dX11_init_452 : decode cX11_init 452 = .ok (.iastore, 1) := by decide +kernel
theorem dX11_init_453 : decode cX11_init 453 = .ok (.return_, 1) := by decide +kernel
def D_X11_init (h : z_H) (l0 : Option Nat) : Option z_H :=
  if l0 = none then none else
  (z_nI h (7:Int32)).bind fun h162 =>
  (z_pV 11 h162 l0 2 (z_r (some h.1))).bind fun h163 =>
  (z_nI h163 (5462:Int32)).bind fun h164 =>
  (z_pV 11 h164 l0 3 (z_r (some h163.1))).bind fun h165 =>
  (z_nI h165 (10924:Int32)).bind fun h166 =>
  (z_pV 11 h166 l0 4 (z_r (some h165.1))).bind fun h167 =>
  (z_nZ h167 (2:Int32)).bind fun h168 =>
  (z_pV 11 h168 l0 5 (z_r (some h167.1))).bind fun h169 =>
  (z_nI h169 (702:Int32)).bind fun h170 =>
  (z_pV 11 h170 l0 6 (z_r (some h169.1))).bind fun h171 =>
  (z_nI h171 (16:Int32)).bind fun h172 =>
  (z_pV 11 h172 l0 7 (z_r (some h171.1))).bind fun h173 =>
  (z_nI h173 (624:Int32)).bind fun h174 =>
  (z_pV 11 h174 l0 9 (z_r (some h173.1))).bind fun h175 =>
  (z_nI h175 (16:Int32)).bind fun h176 =>
  (z_pV 11 h176 l0 10 (z_r (some h175.1))).bind fun h177 =>
  (z_nI h177 (400:Int32)).bind fun h178 =>
  (z_pV 11 h178 l0 12 (z_r (some h177.1))).bind fun h179 =>
  (z_pV 11 h179 l0 18 (.int (-1:Int32))).bind fun h180 =>
  (z_nI h180 (96:Int32)).bind fun h181 =>
  (z_pV 11 h181 l0 22 (z_r (some h180.1))).bind fun h182 =>
  (z_nI h182 (400:Int32)).bind fun h183 =>
  (z_pV 11 h183 l0 24 (z_r (some h182.1))).bind fun h184 =>
  (z_nI h184 (400:Int32)).bind fun h185 =>
  (z_pV 11 h185 l0 25 (z_r (some h184.1))).bind fun h186 =>
  (z_nI h186 (400:Int32)).bind fun h187 =>
  (z_pV 11 h187 l0 27 (z_r (some h186.1))).bind fun h188 =>
  (z_nI h188 (400:Int32)).bind fun h189 =>
  (z_pV 11 h189 l0 28 (z_r (some h188.1))).bind fun h190 =>
  (z_nJ h190 (9:Int32)).bind fun h191 =>
  (z_sJ h191 (some h190.1) (0:Int32) (525618:Int64)).bind fun h192 =>
  (z_sJ h192 (some h190.1) (1:Int32) (408612:Int64)).bind fun h193 =>
  (z_sJ h193 (some h190.1) (2:Int32) (525908:Int64)).bind fun h194 =>
  (z_sJ h194 (some h190.1) (3:Int32) (769614:Int64)).bind fun h195 =>
  (z_sJ h195 (some h190.1) (4:Int32) (24:Int64)).bind fun h196 =>
  (z_sJ h196 (some h190.1) (5:Int32) (25:Int64)).bind fun h197 =>
  (z_sJ h197 (some h190.1) (6:Int32) (23609:Int64)).bind fun h198 =>
  (z_sJ h198 (some h190.1) (7:Int32) (4153:Int64)).bind fun h199 =>
  (z_sJ h199 (some h190.1) (8:Int32) (441828:Int64)).bind fun h200 =>
  (z_pV 11 h200 l0 31 (z_r (some h190.1))).bind fun h201 =>
  (z_nJ h201 (8:Int32)).bind fun h202 =>
  (z_sJ h202 (some h201.1) (0:Int32) (4153:Int64)).bind fun h203 =>
  (z_sJ h203 (some h201.1) (1:Int32) (146885:Int64)).bind fun h204 =>
  (z_sJ h204 (some h201.1) (2:Int32) (404362868:Int64)).bind fun h205 =>
  (z_sJ h205 (some h201.1) (3:Int32) (16819795:Int64)).bind fun h206 =>
  (z_sJ h206 (some h201.1) (4:Int32) (24162707:Int64)).bind fun h207 =>
  (z_sJ h207 (some h201.1) (5:Int32) (103820:Int64)).bind fun h208 =>
  (z_sJ h208 (some h201.1) (6:Int32) (20965:Int64)).bind fun h209 =>
  (z_sJ h209 (some h201.1) (7:Int32) (267436:Int64)).bind fun h210 =>
  (z_pV 11 h210 l0 32 (z_r (some h201.1))).bind fun h211 =>
  (z_nJ h211 (3:Int32)).bind fun h212 =>
  (z_sJ h212 (some h211.1) (0:Int32) (24282707:Int64)).bind fun h213 =>
  (z_sJ h213 (some h211.1) (1:Int32) (407951539:Int64)).bind fun h214 =>
  (z_sJ h214 (some h211.1) (2:Int32) (67155:Int64)).bind fun h215 =>
  (z_pV 11 h215 l0 33 (z_r (some h211.1))).bind fun h216 =>
  (z_nJ h216 (13:Int32)).bind fun h217 =>
  (z_pV 11 h217 l0 35 (z_r (some h216.1))).bind fun h218 =>
  (z_nJ h218 (13:Int32)).bind fun h219 =>
  (z_pV 11 h219 l0 36 (z_r (some h218.1))).bind fun h220 =>
  (z_nJ h220 (400:Int32)).bind fun h221 =>
  (z_pV 11 h221 l0 37 (z_r (some h220.1))).bind fun h222 =>
  (z_nI h222 (100:Int32)).bind fun h223 =>
  (z_pV 11 h223 l0 41 (z_r (some h222.1))).bind fun h224 =>
  (z_nJ h224 (8575:Int32)).bind fun h225 =>
  (z_pV 11 h225 l0 42 (z_r (some h224.1))).bind fun h226 =>
  (z_nI h226 (100:Int32)).bind fun h227 =>
  (z_pV 11 h227 l0 43 (z_r (some h226.1))).bind fun h228 =>
  (z_nI h228 (100:Int32)).bind fun h229 =>
  (z_pV 11 h229 l0 44 (z_r (some h228.1))).bind fun h230 =>
  (z_nJ h230 (100:Int32)).bind fun h231 =>
  (z_pV 11 h231 l0 45 (z_r (some h230.1))).bind fun h232 =>
  (z_nJ h232 (100:Int32)).bind fun h233 =>
  (z_pV 11 h233 l0 46 (z_r (some h232.1))).bind fun h234 =>
  (z_nI h234 (7:Int32)).bind fun h235 =>
  (z_pV 11 h235 l0 47 (z_r (some h234.1))).bind fun h236 =>
  (z_nI h236 (6:Int32)).bind fun h237 =>
  (z_pV 11 h237 l0 48 (z_r (some h236.1))).bind fun h238 =>
  (z_nJ h238 (21:Int32)).bind fun h239 =>
  (z_pV 11 h239 l0 49 (z_r (some h238.1))).bind fun h240 =>
  (z_nJ h240 (5:Int32)).bind fun h241 =>
  (z_sJ h241 (some h240.1) (0:Int32) (643248:Int64)).bind fun h242 =>
  (z_sJ h242 (some h240.1) (1:Int32) (677454:Int64)).bind fun h243 =>
  (z_sJ h243 (some h240.1) (2:Int32) (16832101:Int64)).bind fun h244 =>
  (z_sJ h244 (some h240.1) (3:Int32) (431556:Int64)).bind fun h245 =>
  (z_sJ h245 (some h240.1) (4:Int32) (525939:Int64)).bind fun h246 =>
  (z_pV 11 h246 l0 50 (z_r (some h240.1))).bind fun h247 =>
  (z_nI h247 (96:Int32)).bind fun h248 =>
  (z_pV 11 h248 l0 51 (z_r (some h247.1))).bind fun h249 =>
  (z_pV 11 h249 l0 54 (.int (-1:Int32))).bind fun h250 =>
  (z_nI h250 (39:Int32)).bind fun h251 =>
  (z_pV 11 h251 l0 57 (z_r (some h250.1))).bind fun h252 =>
  (z_pV 11 h252 l0 58 (.int (-1:Int32))).bind fun h253 =>
  (z_gQ 11 h253 l0 3).bind fun x254 =>
  (z_sI h253 x254 (3:Int32) (-1:Int32)).bind fun h255 =>
  (z_gQ 11 h255 l0 3).bind fun x256 =>
  (z_sI h255 x256 (6:Int32) (1:Int32)).bind fun h257 =>
  some h257
set_option maxRecDepth 100000 in
set_option maxHeartbeats 4000000 in
theorem S_X11_init {G : z_G} {l : Launch} {h : z_H} {l0 : Option Nat} {res : z_H} (e : D_X11_init h l0 = some res) : z_Meth G l 4 M_X11_init [z_r l0] h res none := by
  refine z_Meth.of ck_X11_init.2.2.2.2 (by simp [lg_sl, z_ci, z_cj, z_cr, z_cx]) ck_X11_init.1 ?_
  rw [show lv_args 0 [z_r l0] = [(0, z_r l0)] from by simp [lv_args, z_ci, z_cj, z_cr, z_cx]]
  unfold D_X11_init at e
  refine z_aload_n 0 dX11_init_0 rfl ?_
  replace e := z_ifn e; obtain ⟨c161, e⟩ := e
  refine z_obj c161 (q := l0) ml_X11_1 (Nat.zero_le _) (by decide) dX11_init_1 ?_
  refine z_aload_n 0 dX11_init_4 rfl ?_
  refine z_bipush (v := 7) dX11_init_5 (by decide) ?_
  replace e := z_bd e; obtain ⟨h162, eh162, e⟩ := e
  refine z_nwI eh162 ac_int dX11_init_7 ?_
  replace e := z_bd e; obtain ⟨h163, eh163, e⟩ := e
  refine z_putF eh163 lk_X11_7 wk_11_2 (fun _ _ _ q => by cases q; rfl) rfl (fun G => (z_nr (Or.inr ⟨_, rfl⟩) _ G).1) (fun G => (z_nr (Or.inr ⟨_, rfl⟩) _ G).2) dX11_init_9 ?_
  refine z_aload_n 0 dX11_init_12 rfl ?_
  refine z_sipush (v := 5462) dX11_init_13 (by decide) ?_
  replace e := z_bd e; obtain ⟨h164, eh164, e⟩ := e
  refine z_nwI eh164 ac_int dX11_init_16 ?_
  replace e := z_bd e; obtain ⟨h165, eh165, e⟩ := e
  refine z_putF eh165 lk_X11_13 wk_11_3 (fun _ _ _ q => by cases q; rfl) rfl (fun G => (z_nr (Or.inr ⟨_, rfl⟩) _ G).1) (fun G => (z_nr (Or.inr ⟨_, rfl⟩) _ G).2) dX11_init_18 ?_
  refine z_aload_n 0 dX11_init_21 rfl ?_
  refine z_sipush (v := 10924) dX11_init_22 (by decide) ?_
  replace e := z_bd e; obtain ⟨h166, eh166, e⟩ := e
  refine z_nwI eh166 ac_int dX11_init_25 ?_
  replace e := z_bd e; obtain ⟨h167, eh167, e⟩ := e
  refine z_putF eh167 lk_X11_16 wk_11_4 (fun _ _ _ q => by cases q; rfl) rfl (fun G => (z_nr (Or.inr ⟨_, rfl⟩) _ G).1) (fun G => (z_nr (Or.inr ⟨_, rfl⟩) _ G).2) dX11_init_27 ?_
  refine z_aload_n 0 dX11_init_30 rfl ?_
  refine z_iconst (v := 2) dX11_init_31 (by decide) ?_
  replace e := z_bd e; obtain ⟨h168, eh168, e⟩ := e
  refine z_nwZ eh168 ac_boolean dX11_init_32 ?_
  replace e := z_bd e; obtain ⟨h169, eh169, e⟩ := e
  refine z_putF eh169 lk_X11_19 wk_11_5 (fun _ _ _ q => by cases q; rfl) rfl (fun G => (z_nr (Or.inr ⟨_, rfl⟩) _ G).1) (fun G => (z_nr (Or.inr ⟨_, rfl⟩) _ G).2) dX11_init_34 ?_
  refine z_aload_n 0 dX11_init_37 rfl ?_
  refine z_sipush (v := 702) dX11_init_38 (by decide) ?_
  replace e := z_bd e; obtain ⟨h170, eh170, e⟩ := e
  refine z_nwI eh170 ac_int dX11_init_41 ?_
  replace e := z_bd e; obtain ⟨h171, eh171, e⟩ := e
  refine z_putF eh171 lk_X11_23 wk_11_6 (fun _ _ _ q => by cases q; rfl) rfl (fun G => (z_nr (Or.inr ⟨_, rfl⟩) _ G).1) (fun G => (z_nr (Or.inr ⟨_, rfl⟩) _ G).2) dX11_init_43 ?_
  refine z_aload_n 0 dX11_init_46 rfl ?_
  refine z_bipush (v := 16) dX11_init_47 (by decide) ?_
  replace e := z_bd e; obtain ⟨h172, eh172, e⟩ := e
  refine z_nwI eh172 ac_int dX11_init_49 ?_
  replace e := z_bd e; obtain ⟨h173, eh173, e⟩ := e
  refine z_putF eh173 lk_X11_26 wk_11_7 (fun _ _ _ q => by cases q; rfl) rfl (fun G => (z_nr (Or.inr ⟨_, rfl⟩) _ G).1) (fun G => (z_nr (Or.inr ⟨_, rfl⟩) _ G).2) dX11_init_51 ?_
  refine z_aload_n 0 dX11_init_54 rfl ?_
  refine z_sipush (v := 624) dX11_init_55 (by decide) ?_
  replace e := z_bd e; obtain ⟨h174, eh174, e⟩ := e
  refine z_nwI eh174 ac_int dX11_init_58 ?_
  replace e := z_bd e; obtain ⟨h175, eh175, e⟩ := e
  refine z_putF eh175 lk_X11_29 wk_11_9 (fun _ _ _ q => by cases q; rfl) rfl (fun G => (z_nr (Or.inr ⟨_, rfl⟩) _ G).1) (fun G => (z_nr (Or.inr ⟨_, rfl⟩) _ G).2) dX11_init_60 ?_
  refine z_aload_n 0 dX11_init_63 rfl ?_
  refine z_bipush (v := 16) dX11_init_64 (by decide) ?_
  replace e := z_bd e; obtain ⟨h176, eh176, e⟩ := e
  refine z_nwI eh176 ac_int dX11_init_66 ?_
  replace e := z_bd e; obtain ⟨h177, eh177, e⟩ := e
  refine z_putF eh177 lk_X11_32 wk_11_10 (fun _ _ _ q => by cases q; rfl) rfl (fun G => (z_nr (Or.inr ⟨_, rfl⟩) _ G).1) (fun G => (z_nr (Or.inr ⟨_, rfl⟩) _ G).2) dX11_init_68 ?_
  refine z_aload_n 0 dX11_init_71 rfl ?_
  refine z_sipush (v := 400) dX11_init_72 (by decide) ?_
  replace e := z_bd e; obtain ⟨h178, eh178, e⟩ := e
  refine z_nwI eh178 ac_int dX11_init_75 ?_
  replace e := z_bd e; obtain ⟨h179, eh179, e⟩ := e
  refine z_putF eh179 lk_X11_35 wk_11_12 (fun _ _ _ q => by cases q; rfl) rfl (fun G => (z_nr (Or.inr ⟨_, rfl⟩) _ G).1) (fun G => (z_nr (Or.inr ⟨_, rfl⟩) _ G).2) dX11_init_77 ?_
  refine z_aload_n 0 dX11_init_80 rfl ?_
  refine z_iconst (v := -1) dX11_init_81 (by decide) ?_
  replace e := z_bd e; obtain ⟨h180, eh180, e⟩ := e
  refine z_putV eh180 lk_X11_38 wk_11_18 (fun _ => rfl) (fun _ => rfl) dX11_init_82 ?_
  refine z_aload_n 0 dX11_init_85 rfl ?_
  refine z_bipush (v := 96) dX11_init_86 (by decide) ?_
  replace e := z_bd e; obtain ⟨h181, eh181, e⟩ := e
  refine z_nwI eh181 ac_int dX11_init_88 ?_
  replace e := z_bd e; obtain ⟨h182, eh182, e⟩ := e
  refine z_putF eh182 lk_X11_42 wk_11_22 (fun _ _ _ q => by cases q; rfl) rfl (fun G => (z_nr (Or.inr ⟨_, rfl⟩) _ G).1) (fun G => (z_nr (Or.inr ⟨_, rfl⟩) _ G).2) dX11_init_90 ?_
  refine z_aload_n 0 dX11_init_93 rfl ?_
  refine z_sipush (v := 400) dX11_init_94 (by decide) ?_
  replace e := z_bd e; obtain ⟨h183, eh183, e⟩ := e
  refine z_nwI eh183 ac_int dX11_init_97 ?_
  replace e := z_bd e; obtain ⟨h184, eh184, e⟩ := e
  refine z_putF eh184 lk_X11_45 wk_11_24 (fun _ _ _ q => by cases q; rfl) rfl (fun G => (z_nr (Or.inr ⟨_, rfl⟩) _ G).1) (fun G => (z_nr (Or.inr ⟨_, rfl⟩) _ G).2) dX11_init_99 ?_
  refine z_aload_n 0 dX11_init_102 rfl ?_
  refine z_sipush (v := 400) dX11_init_103 (by decide) ?_
  replace e := z_bd e; obtain ⟨h185, eh185, e⟩ := e
  refine z_nwI eh185 ac_int dX11_init_106 ?_
  replace e := z_bd e; obtain ⟨h186, eh186, e⟩ := e
  refine z_putF eh186 lk_X11_48 wk_11_25 (fun _ _ _ q => by cases q; rfl) rfl (fun G => (z_nr (Or.inr ⟨_, rfl⟩) _ G).1) (fun G => (z_nr (Or.inr ⟨_, rfl⟩) _ G).2) dX11_init_108 ?_
  refine z_aload_n 0 dX11_init_111 rfl ?_
  refine z_sipush (v := 400) dX11_init_112 (by decide) ?_
  replace e := z_bd e; obtain ⟨h187, eh187, e⟩ := e
  refine z_nwI eh187 ac_int dX11_init_115 ?_
  replace e := z_bd e; obtain ⟨h188, eh188, e⟩ := e
  refine z_putF eh188 lk_X11_51 wk_11_27 (fun _ _ _ q => by cases q; rfl) rfl (fun G => (z_nr (Or.inr ⟨_, rfl⟩) _ G).1) (fun G => (z_nr (Or.inr ⟨_, rfl⟩) _ G).2) dX11_init_117 ?_
  refine z_aload_n 0 dX11_init_120 rfl ?_
  refine z_sipush (v := 400) dX11_init_121 (by decide) ?_
  replace e := z_bd e; obtain ⟨h189, eh189, e⟩ := e
  refine z_nwI eh189 ac_int dX11_init_124 ?_
  replace e := z_bd e; obtain ⟨h190, eh190, e⟩ := e
  refine z_putF eh190 lk_X11_54 wk_11_28 (fun _ _ _ q => by cases q; rfl) rfl (fun G => (z_nr (Or.inr ⟨_, rfl⟩) _ G).1) (fun G => (z_nr (Or.inr ⟨_, rfl⟩) _ G).2) dX11_init_126 ?_
  refine z_aload_n 0 dX11_init_129 rfl ?_
  refine z_bipush (v := 9) dX11_init_130 (by decide) ?_
  replace e := z_bd e; obtain ⟨h191, eh191, e⟩ := e
  refine z_nwJ eh191 ac_long dX11_init_132 ?_
  refine z_dup dX11_init_134 (z_cr _) ?_
  refine z_iconst (v := 0) dX11_init_135 (by decide) ?_
  refine z_ldc2 dX11_init_136 kj_X11_57 ?_
  replace e := z_bd e; obtain ⟨h192, eh192, e⟩ := e
  refine z_last eh192 dX11_init_139 ?_
  refine z_dup dX11_init_140 (z_cr _) ?_
  refine z_iconst (v := 1) dX11_init_141 (by decide) ?_
  refine z_ldc2 dX11_init_142 kj_X11_59 ?_
  replace e := z_bd e; obtain ⟨h193, eh193, e⟩ := e
  refine z_last eh193 dX11_init_145 ?_
  refine z_dup dX11_init_146 (z_cr _) ?_
  refine z_iconst (v := 2) dX11_init_147 (by decide) ?_
  refine z_ldc2 dX11_init_148 kj_X11_61 ?_
  replace e := z_bd e; obtain ⟨h194, eh194, e⟩ := e
  refine z_last eh194 dX11_init_151 ?_
  refine z_dup dX11_init_152 (z_cr _) ?_
  refine z_iconst (v := 3) dX11_init_153 (by decide) ?_
  refine z_ldc2 dX11_init_154 kj_X11_63 ?_
  replace e := z_bd e; obtain ⟨h195, eh195, e⟩ := e
  refine z_last eh195 dX11_init_157 ?_
  refine z_dup dX11_init_158 (z_cr _) ?_
  refine z_iconst (v := 4) dX11_init_159 (by decide) ?_
  refine z_ldc2 dX11_init_160 kj_X11_65 ?_
  replace e := z_bd e; obtain ⟨h196, eh196, e⟩ := e
  refine z_last eh196 dX11_init_163 ?_
  refine z_dup dX11_init_164 (z_cr _) ?_
  refine z_iconst (v := 5) dX11_init_165 (by decide) ?_
  refine z_ldc2 dX11_init_166 kj_X11_67 ?_
  replace e := z_bd e; obtain ⟨h197, eh197, e⟩ := e
  refine z_last eh197 dX11_init_169 ?_
  refine z_dup dX11_init_170 (z_cr _) ?_
  refine z_bipush (v := 6) dX11_init_171 (by decide) ?_
  refine z_ldc2 dX11_init_173 kj_X11_69 ?_
  replace e := z_bd e; obtain ⟨h198, eh198, e⟩ := e
  refine z_last eh198 dX11_init_176 ?_
  refine z_dup dX11_init_177 (z_cr _) ?_
  refine z_bipush (v := 7) dX11_init_178 (by decide) ?_
  refine z_ldc2 dX11_init_180 kj_X11_71 ?_
  replace e := z_bd e; obtain ⟨h199, eh199, e⟩ := e
  refine z_last eh199 dX11_init_183 ?_
  refine z_dup dX11_init_184 (z_cr _) ?_
  refine z_bipush (v := 8) dX11_init_185 (by decide) ?_
  refine z_ldc2 dX11_init_187 kj_X11_73 ?_
  replace e := z_bd e; obtain ⟨h200, eh200, e⟩ := e
  refine z_last eh200 dX11_init_190 ?_
  replace e := z_bd e; obtain ⟨h201, eh201, e⟩ := e
  refine z_putF eh201 lk_X11_75 wk_11_31 (fun _ _ _ q => by cases q; rfl) rfl (fun G => (z_nr (Or.inr ⟨_, rfl⟩) _ G).1) (fun G => (z_nr (Or.inr ⟨_, rfl⟩) _ G).2) dX11_init_191 ?_
  refine z_aload_n 0 dX11_init_194 rfl ?_
  refine z_bipush (v := 8) dX11_init_195 (by decide) ?_
  replace e := z_bd e; obtain ⟨h202, eh202, e⟩ := e
  refine z_nwJ eh202 ac_long dX11_init_197 ?_
  refine z_dup dX11_init_199 (z_cr _) ?_
  refine z_iconst (v := 0) dX11_init_200 (by decide) ?_
  refine z_ldc2 dX11_init_201 kj_X11_71 ?_
  replace e := z_bd e; obtain ⟨h203, eh203, e⟩ := e
  refine z_last eh203 dX11_init_204 ?_
  refine z_dup dX11_init_205 (z_cr _) ?_
  refine z_iconst (v := 1) dX11_init_206 (by decide) ?_
  refine z_ldc2 dX11_init_207 kj_X11_79 ?_
  replace e := z_bd e; obtain ⟨h204, eh204, e⟩ := e
  refine z_last eh204 dX11_init_210 ?_
  refine z_dup dX11_init_211 (z_cr _) ?_
  refine z_iconst (v := 2) dX11_init_212 (by decide) ?_
  refine z_ldc2 dX11_init_213 kj_X11_81 ?_
  replace e := z_bd e; obtain ⟨h205, eh205, e⟩ := e
  refine z_last eh205 dX11_init_216 ?_
  refine z_dup dX11_init_217 (z_cr _) ?_
  refine z_iconst (v := 3) dX11_init_218 (by decide) ?_
  refine z_ldc2 dX11_init_219 kj_X11_83 ?_
  replace e := z_bd e; obtain ⟨h206, eh206, e⟩ := e
  refine z_last eh206 dX11_init_222 ?_
  refine z_dup dX11_init_223 (z_cr _) ?_
  refine z_iconst (v := 4) dX11_init_224 (by decide) ?_
  refine z_ldc2 dX11_init_225 kj_X11_85 ?_
  replace e := z_bd e; obtain ⟨h207, eh207, e⟩ := e
  refine z_last eh207 dX11_init_228 ?_
  refine z_dup dX11_init_229 (z_cr _) ?_
  refine z_iconst (v := 5) dX11_init_230 (by decide) ?_
  refine z_ldc2 dX11_init_231 kj_X11_87 ?_
  replace e := z_bd e; obtain ⟨h208, eh208, e⟩ := e
  refine z_last eh208 dX11_init_234 ?_
  refine z_dup dX11_init_235 (z_cr _) ?_
  refine z_bipush (v := 6) dX11_init_236 (by decide) ?_
  refine z_ldc2 dX11_init_238 kj_X11_89 ?_
  replace e := z_bd e; obtain ⟨h209, eh209, e⟩ := e
  refine z_last eh209 dX11_init_241 ?_
  refine z_dup dX11_init_242 (z_cr _) ?_
  refine z_bipush (v := 7) dX11_init_243 (by decide) ?_
  refine z_ldc2 dX11_init_245 kj_X11_91 ?_
  replace e := z_bd e; obtain ⟨h210, eh210, e⟩ := e
  refine z_last eh210 dX11_init_248 ?_
  replace e := z_bd e; obtain ⟨h211, eh211, e⟩ := e
  refine z_putF eh211 lk_X11_93 wk_11_32 (fun _ _ _ q => by cases q; rfl) rfl (fun G => (z_nr (Or.inr ⟨_, rfl⟩) _ G).1) (fun G => (z_nr (Or.inr ⟨_, rfl⟩) _ G).2) dX11_init_249 ?_
  refine z_aload_n 0 dX11_init_252 rfl ?_
  refine z_iconst (v := 3) dX11_init_253 (by decide) ?_
  replace e := z_bd e; obtain ⟨h212, eh212, e⟩ := e
  refine z_nwJ eh212 ac_long dX11_init_254 ?_
  refine z_dup dX11_init_256 (z_cr _) ?_
  refine z_iconst (v := 0) dX11_init_257 (by decide) ?_
  refine z_ldc2 dX11_init_258 kj_X11_96 ?_
  replace e := z_bd e; obtain ⟨h213, eh213, e⟩ := e
  refine z_last eh213 dX11_init_261 ?_
  refine z_dup dX11_init_262 (z_cr _) ?_
  refine z_iconst (v := 1) dX11_init_263 (by decide) ?_
  refine z_ldc2 dX11_init_264 kj_X11_98 ?_
  replace e := z_bd e; obtain ⟨h214, eh214, e⟩ := e
  refine z_last eh214 dX11_init_267 ?_
  refine z_dup dX11_init_268 (z_cr _) ?_
  refine z_iconst (v := 2) dX11_init_269 (by decide) ?_
  refine z_ldc2 dX11_init_270 kj_X11_100 ?_
  replace e := z_bd e; obtain ⟨h215, eh215, e⟩ := e
  refine z_last eh215 dX11_init_273 ?_
  replace e := z_bd e; obtain ⟨h216, eh216, e⟩ := e
  refine z_putF eh216 lk_X11_102 wk_11_33 (fun _ _ _ q => by cases q; rfl) rfl (fun G => (z_nr (Or.inr ⟨_, rfl⟩) _ G).1) (fun G => (z_nr (Or.inr ⟨_, rfl⟩) _ G).2) dX11_init_274 ?_
  refine z_aload_n 0 dX11_init_277 rfl ?_
  refine z_bipush (v := 13) dX11_init_278 (by decide) ?_
  replace e := z_bd e; obtain ⟨h217, eh217, e⟩ := e
  refine z_nwJ eh217 ac_long dX11_init_280 ?_
  replace e := z_bd e; obtain ⟨h218, eh218, e⟩ := e
  refine z_putF eh218 lk_X11_105 wk_11_35 (fun _ _ _ q => by cases q; rfl) rfl (fun G => (z_nr (Or.inr ⟨_, rfl⟩) _ G).1) (fun G => (z_nr (Or.inr ⟨_, rfl⟩) _ G).2) dX11_init_282 ?_
  refine z_aload_n 0 dX11_init_285 rfl ?_
  refine z_bipush (v := 13) dX11_init_286 (by decide) ?_
  replace e := z_bd e; obtain ⟨h219, eh219, e⟩ := e
  refine z_nwJ eh219 ac_long dX11_init_288 ?_
  replace e := z_bd e; obtain ⟨h220, eh220, e⟩ := e
  refine z_putF eh220 lk_X11_108 wk_11_36 (fun _ _ _ q => by cases q; rfl) rfl (fun G => (z_nr (Or.inr ⟨_, rfl⟩) _ G).1) (fun G => (z_nr (Or.inr ⟨_, rfl⟩) _ G).2) dX11_init_290 ?_
  refine z_aload_n 0 dX11_init_293 rfl ?_
  refine z_sipush (v := 400) dX11_init_294 (by decide) ?_
  replace e := z_bd e; obtain ⟨h221, eh221, e⟩ := e
  refine z_nwJ eh221 ac_long dX11_init_297 ?_
  replace e := z_bd e; obtain ⟨h222, eh222, e⟩ := e
  refine z_putF eh222 lk_X11_111 wk_11_37 (fun _ _ _ q => by cases q; rfl) rfl (fun G => (z_nr (Or.inr ⟨_, rfl⟩) _ G).1) (fun G => (z_nr (Or.inr ⟨_, rfl⟩) _ G).2) dX11_init_299 ?_
  refine z_aload_n 0 dX11_init_302 rfl ?_
  refine z_bipush (v := 100) dX11_init_303 (by decide) ?_
  replace e := z_bd e; obtain ⟨h223, eh223, e⟩ := e
  refine z_nwI eh223 ac_int dX11_init_305 ?_
  replace e := z_bd e; obtain ⟨h224, eh224, e⟩ := e
  refine z_putF eh224 lk_X11_114 wk_11_41 (fun _ _ _ q => by cases q; rfl) rfl (fun G => (z_nr (Or.inr ⟨_, rfl⟩) _ G).1) (fun G => (z_nr (Or.inr ⟨_, rfl⟩) _ G).2) dX11_init_307 ?_
  refine z_aload_n 0 dX11_init_310 rfl ?_
  refine z_sipush (v := 8575) dX11_init_311 (by decide) ?_
  replace e := z_bd e; obtain ⟨h225, eh225, e⟩ := e
  refine z_nwJ eh225 ac_long dX11_init_314 ?_
  replace e := z_bd e; obtain ⟨h226, eh226, e⟩ := e
  refine z_putF eh226 lk_X11_117 wk_11_42 (fun _ _ _ q => by cases q; rfl) rfl (fun G => (z_nr (Or.inr ⟨_, rfl⟩) _ G).1) (fun G => (z_nr (Or.inr ⟨_, rfl⟩) _ G).2) dX11_init_316 ?_
  refine z_aload_n 0 dX11_init_319 rfl ?_
  refine z_bipush (v := 100) dX11_init_320 (by decide) ?_
  replace e := z_bd e; obtain ⟨h227, eh227, e⟩ := e
  refine z_nwI eh227 ac_int dX11_init_322 ?_
  replace e := z_bd e; obtain ⟨h228, eh228, e⟩ := e
  refine z_putF eh228 lk_X11_120 wk_11_43 (fun _ _ _ q => by cases q; rfl) rfl (fun G => (z_nr (Or.inr ⟨_, rfl⟩) _ G).1) (fun G => (z_nr (Or.inr ⟨_, rfl⟩) _ G).2) dX11_init_324 ?_
  refine z_aload_n 0 dX11_init_327 rfl ?_
  refine z_bipush (v := 100) dX11_init_328 (by decide) ?_
  replace e := z_bd e; obtain ⟨h229, eh229, e⟩ := e
  refine z_nwI eh229 ac_int dX11_init_330 ?_
  replace e := z_bd e; obtain ⟨h230, eh230, e⟩ := e
  refine z_putF eh230 lk_X11_123 wk_11_44 (fun _ _ _ q => by cases q; rfl) rfl (fun G => (z_nr (Or.inr ⟨_, rfl⟩) _ G).1) (fun G => (z_nr (Or.inr ⟨_, rfl⟩) _ G).2) dX11_init_332 ?_
  refine z_aload_n 0 dX11_init_335 rfl ?_
  refine z_bipush (v := 100) dX11_init_336 (by decide) ?_
  replace e := z_bd e; obtain ⟨h231, eh231, e⟩ := e
  refine z_nwJ eh231 ac_long dX11_init_338 ?_
  replace e := z_bd e; obtain ⟨h232, eh232, e⟩ := e
  refine z_putF eh232 lk_X11_126 wk_11_45 (fun _ _ _ q => by cases q; rfl) rfl (fun G => (z_nr (Or.inr ⟨_, rfl⟩) _ G).1) (fun G => (z_nr (Or.inr ⟨_, rfl⟩) _ G).2) dX11_init_340 ?_
  refine z_aload_n 0 dX11_init_343 rfl ?_
  refine z_bipush (v := 100) dX11_init_344 (by decide) ?_
  replace e := z_bd e; obtain ⟨h233, eh233, e⟩ := e
  refine z_nwJ eh233 ac_long dX11_init_346 ?_
  replace e := z_bd e; obtain ⟨h234, eh234, e⟩ := e
  refine z_putF eh234 lk_X11_129 wk_11_46 (fun _ _ _ q => by cases q; rfl) rfl (fun G => (z_nr (Or.inr ⟨_, rfl⟩) _ G).1) (fun G => (z_nr (Or.inr ⟨_, rfl⟩) _ G).2) dX11_init_348 ?_
  refine z_aload_n 0 dX11_init_351 rfl ?_
  refine z_bipush (v := 7) dX11_init_352 (by decide) ?_
  replace e := z_bd e; obtain ⟨h235, eh235, e⟩ := e
  refine z_nwI eh235 ac_int dX11_init_354 ?_
  replace e := z_bd e; obtain ⟨h236, eh236, e⟩ := e
  refine z_putF eh236 lk_X11_132 wk_11_47 (fun _ _ _ q => by cases q; rfl) rfl (fun G => (z_nr (Or.inr ⟨_, rfl⟩) _ G).1) (fun G => (z_nr (Or.inr ⟨_, rfl⟩) _ G).2) dX11_init_356 ?_
  refine z_aload_n 0 dX11_init_359 rfl ?_
  refine z_bipush (v := 6) dX11_init_360 (by decide) ?_
  replace e := z_bd e; obtain ⟨h237, eh237, e⟩ := e
  refine z_nwI eh237 ac_int dX11_init_362 ?_
  replace e := z_bd e; obtain ⟨h238, eh238, e⟩ := e
  refine z_putF eh238 lk_X11_135 wk_11_48 (fun _ _ _ q => by cases q; rfl) rfl (fun G => (z_nr (Or.inr ⟨_, rfl⟩) _ G).1) (fun G => (z_nr (Or.inr ⟨_, rfl⟩) _ G).2) dX11_init_364 ?_
  refine z_aload_n 0 dX11_init_367 rfl ?_
  refine z_bipush (v := 21) dX11_init_368 (by decide) ?_
  replace e := z_bd e; obtain ⟨h239, eh239, e⟩ := e
  refine z_nwJ eh239 ac_long dX11_init_370 ?_
  replace e := z_bd e; obtain ⟨h240, eh240, e⟩ := e
  refine z_putF eh240 lk_X11_138 wk_11_49 (fun _ _ _ q => by cases q; rfl) rfl (fun G => (z_nr (Or.inr ⟨_, rfl⟩) _ G).1) (fun G => (z_nr (Or.inr ⟨_, rfl⟩) _ G).2) dX11_init_372 ?_
  refine z_aload_n 0 dX11_init_375 rfl ?_
  refine z_iconst (v := 5) dX11_init_376 (by decide) ?_
  replace e := z_bd e; obtain ⟨h241, eh241, e⟩ := e
  refine z_nwJ eh241 ac_long dX11_init_377 ?_
  refine z_dup dX11_init_379 (z_cr _) ?_
  refine z_iconst (v := 0) dX11_init_380 (by decide) ?_
  refine z_ldc2 dX11_init_381 kj_X11_141 ?_
  replace e := z_bd e; obtain ⟨h242, eh242, e⟩ := e
  refine z_last eh242 dX11_init_384 ?_
  refine z_dup dX11_init_385 (z_cr _) ?_
  refine z_iconst (v := 1) dX11_init_386 (by decide) ?_
  refine z_ldc2 dX11_init_387 kj_X11_143 ?_
  replace e := z_bd e; obtain ⟨h243, eh243, e⟩ := e
  refine z_last eh243 dX11_init_390 ?_
  refine z_dup dX11_init_391 (z_cr _) ?_
  refine z_iconst (v := 2) dX11_init_392 (by decide) ?_
  refine z_ldc2 dX11_init_393 kj_X11_145 ?_
  replace e := z_bd e; obtain ⟨h244, eh244, e⟩ := e
  refine z_last eh244 dX11_init_396 ?_
  refine z_dup dX11_init_397 (z_cr _) ?_
  refine z_iconst (v := 3) dX11_init_398 (by decide) ?_
  refine z_ldc2 dX11_init_399 kj_X11_147 ?_
  replace e := z_bd e; obtain ⟨h245, eh245, e⟩ := e
  refine z_last eh245 dX11_init_402 ?_
  refine z_dup dX11_init_403 (z_cr _) ?_
  refine z_iconst (v := 4) dX11_init_404 (by decide) ?_
  refine z_ldc2 dX11_init_405 kj_X11_149 ?_
  replace e := z_bd e; obtain ⟨h246, eh246, e⟩ := e
  refine z_last eh246 dX11_init_408 ?_
  replace e := z_bd e; obtain ⟨h247, eh247, e⟩ := e
  refine z_putF eh247 lk_X11_151 wk_11_50 (fun _ _ _ q => by cases q; rfl) rfl (fun G => (z_nr (Or.inr ⟨_, rfl⟩) _ G).1) (fun G => (z_nr (Or.inr ⟨_, rfl⟩) _ G).2) dX11_init_409 ?_
  refine z_aload_n 0 dX11_init_412 rfl ?_
  refine z_bipush (v := 96) dX11_init_413 (by decide) ?_
  replace e := z_bd e; obtain ⟨h248, eh248, e⟩ := e
  refine z_nwI eh248 ac_int dX11_init_415 ?_
  replace e := z_bd e; obtain ⟨h249, eh249, e⟩ := e
  refine z_putF eh249 lk_X11_154 wk_11_51 (fun _ _ _ q => by cases q; rfl) rfl (fun G => (z_nr (Or.inr ⟨_, rfl⟩) _ G).1) (fun G => (z_nr (Or.inr ⟨_, rfl⟩) _ G).2) dX11_init_417 ?_
  refine z_aload_n 0 dX11_init_420 rfl ?_
  refine z_iconst (v := -1) dX11_init_421 (by decide) ?_
  replace e := z_bd e; obtain ⟨h250, eh250, e⟩ := e
  refine z_putV eh250 lk_X11_157 wk_11_54 (fun _ => rfl) (fun _ => rfl) dX11_init_422 ?_
  refine z_aload_n 0 dX11_init_425 rfl ?_
  refine z_bipush (v := 39) dX11_init_426 (by decide) ?_
  replace e := z_bd e; obtain ⟨h251, eh251, e⟩ := e
  refine z_nwI eh251 ac_int dX11_init_428 ?_
  replace e := z_bd e; obtain ⟨h252, eh252, e⟩ := e
  refine z_putF eh252 lk_X11_160 wk_11_57 (fun _ _ _ q => by cases q; rfl) rfl (fun G => (z_nr (Or.inr ⟨_, rfl⟩) _ G).1) (fun G => (z_nr (Or.inr ⟨_, rfl⟩) _ G).2) dX11_init_430 ?_
  refine z_aload_n 0 dX11_init_433 rfl ?_
  refine z_iconst (v := -1) dX11_init_434 (by decide) ?_
  replace e := z_bd e; obtain ⟨h253, eh253, e⟩ := e
  refine z_putV eh253 lk_X11_163 wk_11_58 (fun _ => rfl) (fun _ => rfl) dX11_init_435 ?_
  refine z_aload_n 0 dX11_init_438 rfl ?_
  replace e := z_bd e; obtain ⟨x254, ex254, e⟩ := e
  refine z_getQ ex254 lk_X11_13 dX11_init_439 ?_
  refine z_iconst (v := 3) dX11_init_442 (by decide) ?_
  refine z_iconst (v := -1) dX11_init_443 (by decide) ?_
  replace e := z_bd e; obtain ⟨h255, eh255, e⟩ := e
  refine z_iast eh255 dX11_init_444 ?_
  refine z_aload_n 0 dX11_init_445 rfl ?_
  replace e := z_bd e; obtain ⟨x256, ex256, e⟩ := e
  refine z_getQ ex256 lk_X11_13 dX11_init_446 ?_
  refine z_bipush (v := 6) dX11_init_449 (by decide) ?_
  refine z_iconst (v := 1) dX11_init_451 (by decide) ?_
  replace e := z_bd e; obtain ⟨h257, eh257, e⟩ := e
  refine z_iast eh257 dX11_init_452 ?_
  cases e
  exact z_vret dX11_init_453 rfl
theorem dX10_status_0 : decode cX10_status 0 = .ok (.aload_n 0, 1) := by decide +kernel
theorem dX10_status_1 : decode cX10_status 1 = .ok (.getfield 93, 3) := by decide +kernel
theorem dX10_status_4 : decode cX10_status 4 = .ok (.ireturn, 1) := by decide +kernel
def D_X10_status (h : z_H) (l0 : Option Nat) : Option (Int32 × z_H) :=
  (z_gI 10 h l0 13).bind fun x258 =>
  some (x258, h)
set_option maxRecDepth 100000 in
set_option maxHeartbeats 4000000 in
theorem S_X10_status {G : z_G} {l : Launch} {h : z_H} {l0 : Option Nat} {res : (Int32 × z_H)} (e : D_X10_status h l0 = some res) : z_Meth G l 4 M_X10_status [z_r l0] h res.2 (some (.int res.1)) := by
  refine z_Meth.of ck_X10_status.2.2.2.2 (by simp [lg_sl, z_ci, z_cj, z_cr, z_cx]) ck_X10_status.1 ?_
  rw [show lv_args 0 [z_r l0] = [(0, z_r l0)] from by simp [lv_args, z_ci, z_cj, z_cr, z_cx]]
  unfold D_X10_status at e
  refine z_aload_n 0 dX10_status_0 rfl ?_
  replace e := z_bd e; obtain ⟨x258, ex258, e⟩ := e
  refine z_getI ex258 lk_X10_93 dX10_status_1 ?_
  cases e
  exact z_iret dX10_status_4 rfl
theorem dX11_status_0 : decode cX11_status 0 = .ok (.aload_n 0, 1) := by decide +kernel
theorem dX11_status_1 : decode cX11_status 1 = .ok (.iconst 0, 1) := by decide +kernel
theorem dX11_status_2 : decode cX11_status 2 = .ok (.putfield 166, 3) := by decide +kernel
theorem dX11_status_5 : decode cX11_status 5 = .ok (.aload_n 0, 1) := by decide +kernel
theorem dX11_status_6 : decode cX11_status 6 = .ok (.getfield 169, 3) := by decide +kernel
theorem dX11_status_9 : decode cX11_status 9 = .ok (.ireturn, 1) := by decide +kernel
def D_X11_status (h : z_H) (l0 : Option Nat) : Option (Int32 × z_H) :=
  (z_pV 11 h l0 0 (.int (0:Int32))).bind fun h259 =>
  (z_gI 11 h259 l0 1).bind fun x260 =>
  some (x260, h259)
set_option maxRecDepth 100000 in
set_option maxHeartbeats 4000000 in
theorem S_X11_status {G : z_G} {l : Launch} {h : z_H} {l0 : Option Nat} {res : (Int32 × z_H)} (e : D_X11_status h l0 = some res) : z_Meth G l 4 M_X11_status [z_r l0] h res.2 (some (.int res.1)) := by
  refine z_Meth.of ck_X11_status.2.2.2.2 (by simp [lg_sl, z_ci, z_cj, z_cr, z_cx]) ck_X11_status.1 ?_
  rw [show lv_args 0 [z_r l0] = [(0, z_r l0)] from by simp [lv_args, z_ci, z_cj, z_cr, z_cx]]
  unfold D_X11_status at e
  refine z_aload_n 0 dX11_status_0 rfl ?_
  refine z_iconst (v := 0) dX11_status_1 (by decide) ?_
  replace e := z_bd e; obtain ⟨h259, eh259, e⟩ := e
  refine z_putV eh259 lk_X11_166 wk_11_0 (fun _ => rfl) (fun _ => rfl) dX11_status_2 ?_
  refine z_aload_n 0 dX11_status_5 rfl ?_
  replace e := z_bd e; obtain ⟨x260, ex260, e⟩ := e
  refine z_getI ex260 lk_X11_169 dX11_status_6 ?_
  cases e
  exact z_iret dX11_status_9 rfl
theorem dJ6_bitCount_0f7a4_0 : decode cJ6_bitCount_0f7a4 0 = .ok (.iload_n 0, 1) := by decide +kernel
theorem dJ6_bitCount_0f7a4_1 : decode cJ6_bitCount_0f7a4 1 = .ok (.iload_n 0, 1) := by decide +kernel
theorem dJ6_bitCount_0f7a4_2 : decode cJ6_bitCount_0f7a4 2 = .ok (.iconst 1, 1) := by decide +kernel
theorem dJ6_bitCount_0f7a4_3 : decode cJ6_bitCount_0f7a4 3 = .ok (.iushr, 1) := by decide +kernel
theorem dJ6_bitCount_0f7a4_4 : decode cJ6_bitCount_0f7a4 4 = .ok (.ldc_w 265, 3) := by decide +kernel
theorem dJ6_bitCount_0f7a4_7 : decode cJ6_bitCount_0f7a4 7 = .ok (.iand, 1) := by decide +kernel
theorem dJ6_bitCount_0f7a4_8 : decode cJ6_bitCount_0f7a4 8 = .ok (.isub, 1) := by decide +kernel
theorem dJ6_bitCount_0f7a4_9 : decode cJ6_bitCount_0f7a4 9 = .ok (.istore_n 0, 1) := by decide +kernel
theorem dJ6_bitCount_0f7a4_10 : decode cJ6_bitCount_0f7a4 10 = .ok (.iload_n 0, 1) := by decide +kernel
theorem dJ6_bitCount_0f7a4_11 : decode cJ6_bitCount_0f7a4 11 = .ok (.ldc_w 266, 3) := by decide +kernel
theorem dJ6_bitCount_0f7a4_14 : decode cJ6_bitCount_0f7a4 14 = .ok (.iand, 1) := by decide +kernel
theorem dJ6_bitCount_0f7a4_15 : decode cJ6_bitCount_0f7a4 15 = .ok (.iload_n 0, 1) := by decide +kernel
theorem dJ6_bitCount_0f7a4_16 : decode cJ6_bitCount_0f7a4 16 = .ok (.iconst 2, 1) := by decide +kernel
theorem dJ6_bitCount_0f7a4_17 : decode cJ6_bitCount_0f7a4 17 = .ok (.iushr, 1) := by decide +kernel
theorem dJ6_bitCount_0f7a4_18 : decode cJ6_bitCount_0f7a4 18 = .ok (.ldc_w 266, 3) := by decide +kernel
theorem dJ6_bitCount_0f7a4_21 : decode cJ6_bitCount_0f7a4 21 = .ok (.iand, 1) := by decide +kernel
theorem dJ6_bitCount_0f7a4_22 : decode cJ6_bitCount_0f7a4 22 = .ok (.iadd, 1) := by decide +kernel
theorem dJ6_bitCount_0f7a4_23 : decode cJ6_bitCount_0f7a4 23 = .ok (.istore_n 0, 1) := by decide +kernel
theorem dJ6_bitCount_0f7a4_24 : decode cJ6_bitCount_0f7a4 24 = .ok (.iload_n 0, 1) := by decide +kernel
theorem dJ6_bitCount_0f7a4_25 : decode cJ6_bitCount_0f7a4 25 = .ok (.iload_n 0, 1) := by decide +kernel
theorem dJ6_bitCount_0f7a4_26 : decode cJ6_bitCount_0f7a4 26 = .ok (.iconst 4, 1) := by decide +kernel
theorem dJ6_bitCount_0f7a4_27 : decode cJ6_bitCount_0f7a4 27 = .ok (.iushr, 1) := by decide +kernel
theorem dJ6_bitCount_0f7a4_28 : decode cJ6_bitCount_0f7a4 28 = .ok (.iadd, 1) := by decide +kernel
theorem dJ6_bitCount_0f7a4_29 : decode cJ6_bitCount_0f7a4 29 = .ok (.ldc_w 267, 3) := by decide +kernel
theorem dJ6_bitCount_0f7a4_32 : decode cJ6_bitCount_0f7a4 32 = .ok (.iand, 1) := by decide +kernel
theorem dJ6_bitCount_0f7a4_33 : decode cJ6_bitCount_0f7a4 33 = .ok (.istore_n 0, 1) := by decide +kernel
theorem dJ6_bitCount_0f7a4_34 : decode cJ6_bitCount_0f7a4 34 = .ok (.iload_n 0, 1) := by decide +kernel
theorem dJ6_bitCount_0f7a4_35 : decode cJ6_bitCount_0f7a4 35 = .ok (.iload_n 0, 1) := by decide +kernel
theorem dJ6_bitCount_0f7a4_36 : decode cJ6_bitCount_0f7a4 36 = .ok (.bipush 8, 2) := by decide +kernel
theorem dJ6_bitCount_0f7a4_38 : decode cJ6_bitCount_0f7a4 38 = .ok (.iushr, 1) := by decide +kernel
theorem dJ6_bitCount_0f7a4_39 : decode cJ6_bitCount_0f7a4 39 = .ok (.iadd, 1) := by decide +kernel
theorem dJ6_bitCount_0f7a4_40 : decode cJ6_bitCount_0f7a4 40 = .ok (.istore_n 0, 1) := by decide +kernel
theorem dJ6_bitCount_0f7a4_41 : decode cJ6_bitCount_0f7a4 41 = .ok (.iload_n 0, 1) := by decide +kernel
theorem dJ6_bitCount_0f7a4_42 : decode cJ6_bitCount_0f7a4 42 = .ok (.iload_n 0, 1) := by decide +kernel
theorem dJ6_bitCount_0f7a4_43 : decode cJ6_bitCount_0f7a4 43 = .ok (.bipush 16, 2) := by decide +kernel
theorem dJ6_bitCount_0f7a4_45 : decode cJ6_bitCount_0f7a4 45 = .ok (.iushr, 1) := by decide +kernel
theorem dJ6_bitCount_0f7a4_46 : decode cJ6_bitCount_0f7a4 46 = .ok (.iadd, 1) := by decide +kernel
theorem dJ6_bitCount_0f7a4_47 : decode cJ6_bitCount_0f7a4 47 = .ok (.istore_n 0, 1) := by decide +kernel
theorem dJ6_bitCount_0f7a4_48 : decode cJ6_bitCount_0f7a4 48 = .ok (.iload_n 0, 1) := by decide +kernel
theorem dJ6_bitCount_0f7a4_49 : decode cJ6_bitCount_0f7a4 49 = .ok (.bipush 63, 2) := by decide +kernel
theorem dJ6_bitCount_0f7a4_51 : decode cJ6_bitCount_0f7a4 51 = .ok (.iand, 1) := by decide +kernel
theorem dJ6_bitCount_0f7a4_52 : decode cJ6_bitCount_0f7a4 52 = .ok (.ireturn, 1) := by decide +kernel
def D_J6_bitCount_0f7a4 (h : z_H) (l0 : Int32) : Option (Int32 × z_H) :=
  (some (l0 - ((((l0).toUInt32 >>> (((1:Int32)).toUInt32 &&& Int32.toUInt32 31)).toInt32) &&& (1431655765:Int32)))).bind fun x261 =>
  (some ((x261 &&& (858993459:Int32)) + ((((x261).toUInt32 >>> (((2:Int32)).toUInt32 &&& Int32.toUInt32 31)).toInt32) &&& (858993459:Int32)))).bind fun x262 =>
  (some ((x262 + (((x262).toUInt32 >>> (((4:Int32)).toUInt32 &&& Int32.toUInt32 31)).toInt32)) &&& (252645135:Int32))).bind fun x263 =>
  (some (x263 + (((x263).toUInt32 >>> (((8:Int32)).toUInt32 &&& Int32.toUInt32 31)).toInt32))).bind fun x264 =>
  (some (x264 + (((x264).toUInt32 >>> (((16:Int32)).toUInt32 &&& Int32.toUInt32 31)).toInt32))).bind fun x265 =>
  some ((x265 &&& (63:Int32)), h)
set_option maxRecDepth 100000 in
set_option maxHeartbeats 4000000 in
theorem S_J6_bitCount_0f7a4 {G : z_G} {l : Launch} {h : z_H} {l0 : Int32} {res : (Int32 × z_H)} (e : D_J6_bitCount_0f7a4 h l0 = some res) : z_Meth G l 4 M_J6_bitCount_0f7a4 [.int l0] h res.2 (some (.int res.1)) := by
  refine z_Meth.of ck_J6_bitCount_0f7a4.2.2.2.2 (by simp [lg_sl, z_ci, z_cj, z_cr, z_cx]) ck_J6_bitCount_0f7a4.1 ?_
  rw [show lv_args 0 [.int l0] = [(0, .int l0)] from rfl]
  unfold D_J6_bitCount_0f7a4 at e
  refine z_iload_n 0 dJ6_bitCount_0f7a4_0 rfl ?_
  refine z_iload_n 0 dJ6_bitCount_0f7a4_1 rfl ?_
  refine z_iconst (v := 1) dJ6_bitCount_0f7a4_2 (by decide) ?_
  refine z_iushr dJ6_bitCount_0f7a4_3 ?_
  refine z_ldcw dJ6_bitCount_0f7a4_4 kc_J6_265 ?_
  refine z_iand dJ6_bitCount_0f7a4_7 ?_
  refine z_isub dJ6_bitCount_0f7a4_8 ?_
  replace e := z_bd e; obtain ⟨x261, ex261, e⟩ := e
  refine z_topI ex261 ?_
  refine z_istore_n (L' := [(0, .int x261)]) dJ6_bitCount_0f7a4_9 rfl (by decide) rfl ?_
  refine z_iload_n 0 dJ6_bitCount_0f7a4_10 rfl ?_
  refine z_ldcw dJ6_bitCount_0f7a4_11 kc_J6_266 ?_
  refine z_iand dJ6_bitCount_0f7a4_14 ?_
  refine z_iload_n 0 dJ6_bitCount_0f7a4_15 rfl ?_
  refine z_iconst (v := 2) dJ6_bitCount_0f7a4_16 (by decide) ?_
  refine z_iushr dJ6_bitCount_0f7a4_17 ?_
  refine z_ldcw dJ6_bitCount_0f7a4_18 kc_J6_266 ?_
  refine z_iand dJ6_bitCount_0f7a4_21 ?_
  refine z_iadd dJ6_bitCount_0f7a4_22 ?_
  replace e := z_bd e; obtain ⟨x262, ex262, e⟩ := e
  refine z_topI ex262 ?_
  refine z_istore_n (L' := [(0, .int x262)]) dJ6_bitCount_0f7a4_23 rfl (by decide) rfl ?_
  refine z_iload_n 0 dJ6_bitCount_0f7a4_24 rfl ?_
  refine z_iload_n 0 dJ6_bitCount_0f7a4_25 rfl ?_
  refine z_iconst (v := 4) dJ6_bitCount_0f7a4_26 (by decide) ?_
  refine z_iushr dJ6_bitCount_0f7a4_27 ?_
  refine z_iadd dJ6_bitCount_0f7a4_28 ?_
  refine z_ldcw dJ6_bitCount_0f7a4_29 kc_J6_267 ?_
  refine z_iand dJ6_bitCount_0f7a4_32 ?_
  replace e := z_bd e; obtain ⟨x263, ex263, e⟩ := e
  refine z_topI ex263 ?_
  refine z_istore_n (L' := [(0, .int x263)]) dJ6_bitCount_0f7a4_33 rfl (by decide) rfl ?_
  refine z_iload_n 0 dJ6_bitCount_0f7a4_34 rfl ?_
  refine z_iload_n 0 dJ6_bitCount_0f7a4_35 rfl ?_
  refine z_bipush (v := 8) dJ6_bitCount_0f7a4_36 (by decide) ?_
  refine z_iushr dJ6_bitCount_0f7a4_38 ?_
  refine z_iadd dJ6_bitCount_0f7a4_39 ?_
  replace e := z_bd e; obtain ⟨x264, ex264, e⟩ := e
  refine z_topI ex264 ?_
  refine z_istore_n (L' := [(0, .int x264)]) dJ6_bitCount_0f7a4_40 rfl (by decide) rfl ?_
  refine z_iload_n 0 dJ6_bitCount_0f7a4_41 rfl ?_
  refine z_iload_n 0 dJ6_bitCount_0f7a4_42 rfl ?_
  refine z_bipush (v := 16) dJ6_bitCount_0f7a4_43 (by decide) ?_
  refine z_iushr dJ6_bitCount_0f7a4_45 ?_
  refine z_iadd dJ6_bitCount_0f7a4_46 ?_
  replace e := z_bd e; obtain ⟨x265, ex265, e⟩ := e
  refine z_topI ex265 ?_
  refine z_istore_n (L' := [(0, .int x265)]) dJ6_bitCount_0f7a4_47 rfl (by decide) rfl ?_
  refine z_iload_n 0 dJ6_bitCount_0f7a4_48 rfl ?_
  refine z_bipush (v := 63) dJ6_bitCount_0f7a4_49 (by decide) ?_
  refine z_iand dJ6_bitCount_0f7a4_51 ?_
  cases e
  exact z_iret dJ6_bitCount_0f7a4_52 rfl
