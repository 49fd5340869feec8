theorem dX11_seen_0 : decode cX11_seen 0 = .ok (.aload_n 0, 1) := by decide +kernel
theorem dX11_seen_1 : decode cX11_seen 1 = .ok (.iconst 0, 1) := by decide +kernel
theorem dX11_seen_2 : decode cX11_seen 2 = .ok (.putfield 166, 3) := by decide +kernel
theorem dX11_seen_5 : decode cX11_seen 5 = .ok (.iload_n 1, 1) := by decide +kernel
theorem dX11_seen_6 : decode cX11_seen 6 = .ok (.invokestatic 223, 3) := by decide +kernel
theorem dX11_seen_9 : decode cX11_seen 9 = .ok (.ifCond .eq 15, 3) := by decide +kernel
theorem dX11_seen_12 : decode cX11_seen 12 = .ok (.iload_n 2, 1) := by decide +kernel
theorem dX11_seen_13 : decode cX11_seen 13 = .ok (.i2l, 1) := by decide +kernel
theorem dX11_seen_14 : decode cX11_seen 14 = .ok (.lconst 0, 1) := by decide +kernel
theorem dX11_seen_15 : decode cX11_seen 15 = .ok (.ldc2_w 514, 3) := by decide +kernel
theorem dX11_seen_18 : decode cX11_seen 18 = .ok (.invokestatic 186, 3) := by decide +kernel
theorem dX11_seen_21 : decode cX11_seen 21 = .ok (.ifCond .ne 9, 3) := by decide +kernel
theorem dX11_seen_24 : decode cX11_seen 24 = .ok (.aload_n 0, 1) := by decide +kernel
theorem dX11_seen_25 : decode cX11_seen 25 = .ok (.iconst (-1), 1) := by decide +kernel
theorem dX11_seen_26 : decode cX11_seen 26 = .ok (.invokevirtual 175, 3) := by decide +kernel
theorem dX11_seen_29 : decode cX11_seen 29 = .ok (.ireturn, 1) := by decide +kernel
theorem dX11_seen_30 : decode cX11_seen 30 = .ok (.aload_n 0, 1) := by decide +kernel
theorem dX11_seen_31 : decode cX11_seen 31 = .ok (.getfield 13, 3) := by decide +kernel
theorem dX11_seen_34 : decode cX11_seen 34 = .ok (.iconst 1, 1) := by decide +kernel
theorem dX11_seen_35 : decode cX11_seen 35 = .ok (.iaload, 1) := by decide +kernel
theorem dX11_seen_36 : decode cX11_seen 36 = .ok (.istore_n 3, 1) := by decide +kernel
theorem dX11_seen_37 : decode cX11_seen 37 = .ok (.iload_n 3, 1) := by decide +kernel
theorem dX11_seen_38 : decode cX11_seen 38 = .ok (.bipush 6, 2) := by decide +kernel
theorem dX11_seen_40 : decode cX11_seen 40 = .ok (.if_icmp .ne 10, 3) := by decide +kernel
theorem dX11_seen_43 : decode cX11_seen 43 = .ok (.aload_n 0, 1) := by decide +kernel
theorem dX11_seen_44 : decode cX11_seen 44 = .ok (.bipush (-5), 2) := by decide +kernel
theorem dX11_seen_46 : decode cX11_seen 46 = .ok (.invokevirtual 175, 3) := by decide +kernel
theorem dX11_seen_49 : decode cX11_seen 49 = .ok (.ireturn, 1) := by decide +kernel
theorem dX11_seen_50 : decode cX11_seen 50 = .ok (.aload_n 0, 1) := by decide +kernel
theorem dX11_seen_51 : decode cX11_seen 51 = .ok (.getfield 13, 3) := by decide +kernel
theorem dX11_seen_54 : decode cX11_seen 54 = .ok (.bipush 50, 2) := by decide +kernel
theorem dX11_seen_56 : decode cX11_seen 56 = .ok (.iconst 2, 1) := by decide +kernel
theorem dX11_seen_57 : decode cX11_seen 57 = .ok (.iload_n 3, 1) := by decide +kernel
theorem dX11_seen_58 : decode cX11_seen 58 = .ok (.imul, 1) := by decide +kernel
theorem dX11_seen_59 : decode cX11_seen 59 = .ok (.iadd, 1) := by decide +kernel
theorem dX11_seen_60 : decode cX11_seen 60 = .ok (.iload_n 1, 1) := by decide +kernel
theorem dX11_seen_61 : decode cX11_seen 61 = .ok (.iastore, 1) := by decide +kernel
theorem dX11_seen_62 : decode cX11_seen 62 = .ok (.aload_n 0, 1) := by decide +kernel
theorem dX11_seen_63 : decode cX11_seen 63 = .ok (.getfield 13, 3) := by decide +kernel
theorem dX11_seen_66 : decode cX11_seen 66 = .ok (.bipush 50, 2) := by decide +kernel
theorem dX11_seen_68 : decode cX11_seen 68 = .ok (.iconst 2, 1) := by decide +kernel
theorem dX11_seen_69 : decode cX11_seen 69 = .ok (.iload_n 3, 1) := by decide +kernel
theorem dX11_seen_70 : decode cX11_seen 70 = .ok (.imul, 1) := by decide +kernel
theorem dX11_seen_71 : decode cX11_seen 71 = .ok (.iadd, 1) := by decide +kernel
theorem dX11_seen_72 : decode cX11_seen 72 = .ok (.iconst 1, 1) := by decide +kernel
theorem dX11_seen_73 : decode cX11_seen 73 = .ok (.iadd, 1) := by decide +kernel
theorem dX11_seen_74 : decode cX11_seen 74 = .ok (.iload_n 2, 1) := by decide +kernel
theorem dX11_seen_75 : decode cX11_seen 75 = .ok (.iastore, 1) := by decide +kernel
theorem dX11_seen_76 : decode cX11_seen 76 = .ok (.aload_n 0, 1) := by decide +kernel
theorem dX11_seen_77 : decode cX11_seen 77 = .ok (.getfield 13, 3) := by decide +kernel
theorem dX11_seen_80 : decode cX11_seen 80 = .ok (.iconst 1, 1) := by decide +kernel
theorem dX11_seen_81 : decode cX11_seen 81 = .ok (.dup2, 1) := by decide +kernel
theorem dX11_seen_82 : decode cX11_seen 82 = .ok (.iaload, 1) := by decide +kernel
theorem dX11_seen_83 : decode cX11_seen 83 = .ok (.iconst 1, 1) := by decide +kernel
theorem dX11_seen_84 : decode cX11_seen 84 = .ok (.iadd, 1) := by decide +kernel
theorem dX11_seen_85 : decode cX11_seen 85 = .ok (.iastore, 1) := by decide +kernel
theorem dX11_seen_86 : decode cX11_seen 86 = .ok (.aload_n 0, 1) := by decide +kernel
theorem dX11_seen_87 : decode cX11_seen 87 = .ok (.iload_n 3, 1) := by decide +kernel
theorem dX11_seen_88 : decode cX11_seen 88 = .ok (.iconst 1, 1) := by decide +kernel
theorem dX11_seen_89 : decode cX11_seen 89 = .ok (.iadd, 1) := by decide +kernel
theorem dX11_seen_90 : decode cX11_seen 90 = .ok (.invokevirtual 175, 3) := by decide +kernel
theorem dX11_seen_93 : decode cX11_seen 93 = .ok (.ireturn, 1) := by decide +kernel
def D_X11_seen_24 (h : z_H) (l0 : Option Nat) : Option (Int32 × z_H) :=
  (z_ob 11 h l0).bind fun _ =>
  (D_X11_tell  h l0 (-1:Int32)).bind fun p1427 =>
  some (p1427.1, p1427.2)
set_option maxRecDepth 100000 in
set_option maxHeartbeats 4000000 in
theorem S_X11_seen_24 {G : z_G} {l : Launch}  {h : z_H} {l0 : Option Nat} {res : (Int32 × z_H)} (e : D_X11_seen_24  h l0 = some res) : z_Run G l 6 M_X11_seen 24 [(0, z_r l0)] [] h res.2 (some (.int res.1)) := by
  unfold D_X11_seen_24 at e
  refine z_aload_n 0 dX11_seen_24 rfl ?_
  refine z_iconst (v := -1) dX11_seen_25 (by decide) ?_
  replace e := z_bd e; obtain ⟨o1428, eo1428, e⟩ := e
  replace e := z_bd e; obtain ⟨p1427, ep1427, e⟩ := e
  refine z_cV [.int (-1:Int32)] (S_X11_tell  ep1427) eo1428 rfl ml_X11_175 ck_X11_tell vk_X11_tell dX11_seen_26 (by decide) rfl (Nat.zero_le _) rfl ?_
  cases e
  exact z_iret dX11_seen_29 rfl
def D_X11_seen (h : z_H) (l0 : Option Nat) (l1 : Int32) (l2 : Int32) : Option (Int32 × z_H) :=
  (z_pV 11 h l0 0 (.int (0:Int32))).bind fun h1429 =>
  (D_X11_isPart  h1429 l1).bind fun p1430 =>
  if p1430.1 = 0 then
    D_X11_seen_24   p1430.2 l0
  else
    (D_X11_in  p1430.2 (Int32.toInt64 l2) (0:Int64) (99:Int64)).bind fun p1432 =>
    if p1432.1 = 0 then
      D_X11_seen_24   p1432.2 l0
    else
      (z_gQ 11 p1432.2 l0 3).bind fun x1434 =>
      (z_aI .int p1432.2 x1434 (1:Int32)).bind fun x1435 =>
      if x1435 = (6:Int32) then
        (z_ob 11 p1432.2 l0).bind fun _ =>
        (D_X11_tell  p1432.2 l0 (-5:Int32)).bind fun p1446 =>
        some (p1446.1, p1446.2)
      else
        (z_gQ 11 p1432.2 l0 3).bind fun x1437 =>
        (z_sI p1432.2 x1437 ((50:Int32) + ((2:Int32) * x1435)) l1).bind fun h1438 =>
        (z_gQ 11 h1438 l0 3).bind fun x1439 =>
        (z_sI h1438 x1439 (((50:Int32) + ((2:Int32) * x1435)) + (1:Int32)) l2).bind fun h1440 =>
        (z_gQ 11 h1440 l0 3).bind fun x1441 =>
        (z_aI .int h1440 x1441 (1:Int32)).bind fun x1442 =>
        (z_sI h1440 x1441 (1:Int32) (x1442 + (1:Int32))).bind fun h1443 =>
        (z_ob 11 h1443 l0).bind fun _ =>
        (D_X11_tell  h1443 l0 (x1435 + (1:Int32))).bind fun p1444 =>
        some (p1444.1, p1444.2)
set_option maxRecDepth 100000 in
set_option maxHeartbeats 4000000 in
theorem S_X11_seen {G : z_G} {l : Launch} {h : z_H} {l0 : Option Nat} {l1 : Int32} {l2 : Int32} {res : (Int32 × z_H)} (e : D_X11_seen h l0 l1 l2 = some res) : z_Meth G l 6 M_X11_seen [z_r l0, .int l1, .int l2] h res.2 (some (.int res.1)) := by
  refine z_Meth.of ck_X11_seen.2.2.2.2 (by simp [lg_sl, z_ci, z_cj, z_cr, z_cx]) ck_X11_seen.1 ?_
  rw [show lv_args 0 [z_r l0, .int l1, .int l2] = [(0, z_r l0), (1, .int l1), (2, .int l2)] from by simp [lv_args, z_ci, z_cj, z_cr, z_cx]]
  unfold D_X11_seen at e
  refine z_aload_n 0 dX11_seen_0 rfl ?_
  refine z_iconst (v := 0) dX11_seen_1 (by decide) ?_
  replace e := z_bd e; obtain ⟨h1429, eh1429, e⟩ := e
  refine z_putV eh1429 lk_X11_166 wk_11_0 (fun _ => rfl) (fun _ => rfl) dX11_seen_2 ?_
  refine z_iload_n 1 dX11_seen_5 rfl ?_
  replace e := z_bd e; obtain ⟨p1430, ep1430, e⟩ := e
  refine z_cS [.int l1] (S_X11_isPart  ep1430) ml_X11_223 ck_X11_isPart st_X11_isPart dX11_seen_6 (by decide) rfl (Nat.zero_le _) rfl ?_
  refine z_if_eq (tgt := 24) dX11_seen_9 (by decide) (fun c1431 => ?_) (fun c1431 => ?_)
  · rw [if_pos c1431] at e
    exact z_weak [0] rfl (S_X11_seen_24   e)
  · rw [if_neg c1431] at e
    refine z_iload_n 2 dX11_seen_12 rfl ?_
    refine z_i2l dX11_seen_13 ?_
    refine z_lconst (v := 0) dX11_seen_14 (by decide) ?_
    refine z_ldc2 dX11_seen_15 kj_X11_514 ?_
    replace e := z_bd e; obtain ⟨p1432, ep1432, e⟩ := e
    refine z_cS [.long (Int32.toInt64 l2), .long (0:Int64), .long (99:Int64)] (S_X11_in  ep1432) ml_X11_186 ck_X11_in st_X11_in dX11_seen_18 (by decide) rfl (Nat.zero_le _) rfl ?_
    refine z_if_ne (tgt := 30) dX11_seen_21 (by decide) (fun c1433 => ?_) (fun c1433 => ?_)
    · rw [if_neg c1433] at e
      refine z_aload_n 0 dX11_seen_30 rfl ?_
      replace e := z_bd e; obtain ⟨x1434, ex1434, e⟩ := e
      refine z_getQ ex1434 lk_X11_13 dX11_seen_31 ?_
      refine z_iconst (v := 1) dX11_seen_34 (by decide) ?_
      replace e := z_bd e; obtain ⟨x1435, ex1435, e⟩ := e
      refine z_iald ex1435 dX11_seen_35 ?_
      refine z_istore_n (L' := [(3, .int x1435), (0, z_r l0), (1, .int l1), (2, .int l2)]) dX11_seen_36 rfl (by decide) rfl ?_
      refine z_iload_n 0 dX11_seen_37 rfl ?_
      refine z_bipush (v := 6) dX11_seen_38 (by decide) ?_
      refine z_icmp_ne (tgt := 50) dX11_seen_40 (by decide) (fun c1436 => ?_) (fun c1436 => ?_)
      · rw [if_neg c1436] at e
        refine z_aload_n 1 dX11_seen_50 rfl ?_
        replace e := z_bd e; obtain ⟨x1437, ex1437, e⟩ := e
        refine z_getQ ex1437 lk_X11_13 dX11_seen_51 ?_
        refine z_bipush (v := 50) dX11_seen_54 (by decide) ?_
        refine z_iconst (v := 2) dX11_seen_56 (by decide) ?_
        refine z_iload_n 0 dX11_seen_57 rfl ?_
        refine z_imul dX11_seen_58 ?_
        refine z_iadd dX11_seen_59 ?_
        refine z_iload_n 2 dX11_seen_60 rfl ?_
        replace e := z_bd e; obtain ⟨h1438, eh1438, e⟩ := e
        refine z_iast eh1438 dX11_seen_61 ?_
        refine z_aload_n 1 dX11_seen_62 rfl ?_
        replace e := z_bd e; obtain ⟨x1439, ex1439, e⟩ := e
        refine z_getQ ex1439 lk_X11_13 dX11_seen_63 ?_
        refine z_bipush (v := 50) dX11_seen_66 (by decide) ?_
        refine z_iconst (v := 2) dX11_seen_68 (by decide) ?_
        refine z_iload_n 0 dX11_seen_69 rfl ?_
        refine z_imul dX11_seen_70 ?_
        refine z_iadd dX11_seen_71 ?_
        refine z_iconst (v := 1) dX11_seen_72 (by decide) ?_
        refine z_iadd dX11_seen_73 ?_
        refine z_iload_n 3 dX11_seen_74 rfl ?_
        replace e := z_bd e; obtain ⟨h1440, eh1440, e⟩ := e
        refine z_iast eh1440 dX11_seen_75 ?_
        refine z_aload_n 1 dX11_seen_76 rfl ?_
        replace e := z_bd e; obtain ⟨x1441, ex1441, e⟩ := e
        refine z_getQ ex1441 lk_X11_13 dX11_seen_77 ?_
        refine z_iconst (v := 1) dX11_seen_80 (by decide) ?_
        refine z_dup2 dX11_seen_81 rfl (z_cr _) ?_
        replace e := z_bd e; obtain ⟨x1442, ex1442, e⟩ := e
        refine z_iald ex1442 dX11_seen_82 ?_
        refine z_iconst (v := 1) dX11_seen_83 (by decide) ?_
        refine z_iadd dX11_seen_84 ?_
        replace e := z_bd e; obtain ⟨h1443, eh1443, e⟩ := e
        refine z_iast eh1443 dX11_seen_85 ?_
        refine z_aload_n 1 dX11_seen_86 rfl ?_
        refine z_iload_n 0 dX11_seen_87 rfl ?_
        refine z_iconst (v := 1) dX11_seen_88 (by decide) ?_
        refine z_iadd dX11_seen_89 ?_
        replace e := z_bd e; obtain ⟨o1445, eo1445, e⟩ := e
        replace e := z_bd e; obtain ⟨p1444, ep1444, e⟩ := e
        refine z_cV [.int (x1435 + (1:Int32))] (S_X11_tell  ep1444) eo1445 rfl ml_X11_175 ck_X11_tell vk_X11_tell dX11_seen_90 (by decide) rfl (Nat.zero_le _) rfl ?_
        cases e
        exact z_iret dX11_seen_93 rfl
      · rw [if_pos c1436] at e
        refine z_aload_n 1 dX11_seen_43 rfl ?_
        refine z_bipush (v := -5) dX11_seen_44 (by decide) ?_
        replace e := z_bd e; obtain ⟨o1447, eo1447, e⟩ := e
        replace e := z_bd e; obtain ⟨p1446, ep1446, e⟩ := e
        refine z_cV [.int (-5:Int32)] (S_X11_tell  ep1446) eo1447 rfl ml_X11_175 ck_X11_tell vk_X11_tell dX11_seen_46 (by decide) rfl (Nat.zero_le _) rfl ?_
        cases e
        exact z_iret dX11_seen_49 rfl
    · rw [if_pos c1433] at e
      exact z_weak [0] rfl (S_X11_seen_24   e)
theorem dX10_lasts_0 : decode cX10_lasts 0 = .ok (.aload_n 0, 1) := by decide +kernel
theorem dX10_lasts_1 : decode cX10_lasts 1 = .ok (.getfield 12, 3) := by decide +kernel
theorem dX10_lasts_4 : decode cX10_lasts 4 = .ok (.iload_n 1, 1) := by decide +kernel
theorem dX10_lasts_5 : decode cX10_lasts 5 = .ok (.invokevirtual 121, 3) := by decide +kernel
theorem dX10_lasts_8 : decode cX10_lasts 8 = .ok (.ifCond .eq 10, 3) := by decide +kernel
theorem dX10_lasts_11 : decode cX10_lasts 11 = .ok (.iload_n 2, 1) := by decide +kernel
theorem dX10_lasts_12 : decode cX10_lasts 12 = .ok (.invokestatic 151, 3) := by decide +kernel
theorem dX10_lasts_15 : decode cX10_lasts 15 = .ok (.ifCond .ne 5, 3) := by decide +kernel
theorem dX10_lasts_18 : decode cX10_lasts 18 = .ok (.iconst (-1), 1) := by decide +kernel
theorem dX10_lasts_19 : decode cX10_lasts 19 = .ok (.ireturn, 1) := by decide +kernel
theorem dX10_lasts_20 : decode cX10_lasts 20 = .ok (.aload_n 0, 1) := by decide +kernel
theorem dX10_lasts_21 : decode cX10_lasts 21 = .ok (.getfield 12, 3) := by decide +kernel
theorem dX10_lasts_24 : decode cX10_lasts 24 = .ok (.iload_n 1, 1) := by decide +kernel
theorem dX10_lasts_25 : decode cX10_lasts 25 = .ok (.iload_n 2, 1) := by decide +kernel
theorem dX10_lasts_26 : decode cX10_lasts 26 = .ok (.invokevirtual 125, 3) := by decide +kernel
theorem dX10_lasts_29 : decode cX10_lasts 29 = .ok (.istore_n 3, 1) := by decide +kernel
theorem dX10_lasts_30 : decode cX10_lasts 30 = .ok (.iconst 0, 1) := by decide +kernel
theorem dX10_lasts_31 : decode cX10_lasts 31 = .ok (.istore 4, 2) := by decide +kernel
theorem dX10_lasts_33 : decode cX10_lasts 33 = .ok (.iload 4, 2) := by decide +kernel
theorem dX10_lasts_35 : decode cX10_lasts 35 = .ok (.sipush 200, 3) := by decide +kernel
theorem dX10_lasts_38 : decode cX10_lasts 38 = .ok (.if_icmp .ge 47, 3) := by decide +kernel
theorem dX10_lasts_41 : decode cX10_lasts 41 = .ok (.iload_n 3, 1) := by decide +kernel
theorem dX10_lasts_42 : decode cX10_lasts 42 = .ok (.bipush 99, 2) := by decide +kernel
theorem dX10_lasts_44 : decode cX10_lasts 44 = .ok (.if_icmp .ge 41, 3) := by decide +kernel
theorem dX10_lasts_47 : decode cX10_lasts 47 = .ok (.iload_n 3, 1) := by decide +kernel
theorem dX10_lasts_48 : decode cX10_lasts 48 = .ok (.aload_n 0, 1) := by decide +kernel
theorem dX10_lasts_49 : decode cX10_lasts 49 = .ok (.getfield 44, 3) := by decide +kernel
theorem dX10_lasts_52 : decode cX10_lasts 52 = .ok (.aload_n 0, 1) := by decide +kernel
theorem dX10_lasts_53 : decode cX10_lasts 53 = .ok (.getfield 12, 3) := by decide +kernel
theorem dX10_lasts_56 : decode cX10_lasts 56 = .ok (.aload_n 0, 1) := by decide +kernel
theorem dX10_lasts_57 : decode cX10_lasts 57 = .ok (.getfield 12, 3) := by decide +kernel
theorem dX10_lasts_60 : decode cX10_lasts 60 = .ok (.invokevirtual 154, 3) := by decide +kernel
theorem dX10_lasts_63 : decode cX10_lasts 63 = .ok (.iload_n 1, 1) := by decide +kernel
theorem dX10_lasts_64 : decode cX10_lasts 64 = .ok (.iload_n 2, 1) := by decide +kernel
theorem dX10_lasts_65 : decode cX10_lasts 65 = .ok (.iload_n 3, 1) := by decide +kernel
theorem dX10_lasts_66 : decode cX10_lasts 66 = .ok (.aload_n 0, 1) := by decide +kernel
theorem dX10_lasts_67 : decode cX10_lasts 67 = .ok (.getfield 12, 3) := by decide +kernel
theorem dX10_lasts_70 : decode cX10_lasts 70 = .ok (.iload_n 1, 1) := by decide +kernel
theorem dX10_lasts_71 : decode cX10_lasts 71 = .ok (.invokevirtual 138, 3) := by decide +kernel
theorem dX10_lasts_74 : decode cX10_lasts 74 = .ok (.invokevirtual 158, 3) := by decide +kernel
theorem dX10_lasts_77 : decode cX10_lasts 77 = .ok (.iadd, 1) := by decide +kernel
theorem dX10_lasts_78 : decode cX10_lasts 78 = .ok (.istore_n 3, 1) := by decide +kernel
theorem dX10_lasts_79 : decode cX10_lasts 79 = .ok (.iinc 4 1, 3) := by decide +kernel
theorem dX10_lasts_82 : decode cX10_lasts 82 = .ok (.goto (-49), 3) := by decide +kernel
theorem dX10_lasts_85 : decode cX10_lasts 85 = .ok (.iload_n 3, 1) := by decide +kernel
theorem dX10_lasts_86 : decode cX10_lasts 86 = .ok (.bipush 99, 2) := by decide +kernel
theorem dX10_lasts_88 : decode cX10_lasts 88 = .ok (.if_icmp .ge 7, 3) := by decide +kernel
theorem dX10_lasts_91 : decode cX10_lasts 91 = .ok (.iconst (-1), 1) := by decide +kernel
theorem dX10_lasts_92 : decode cX10_lasts 92 = .ok (.goto 5, 3) := by decide +kernel
theorem dX10_lasts_95 : decode cX10_lasts 95 = .ok (.iload 4, 2) := by decide +kernel
theorem dX10_lasts_97 : decode cX10_lasts 97 = .ok (.ireturn, 1) := by decide +kernel
def D_X10_lasts_85 (h : z_H) (l3 : Int32) (l4 : Int32) : Option (Int32 × z_H) :=
  if (99:Int32) ≤ l3 then
    some (l4, h)
  else
    some ((-1:Int32), h)
set_option maxRecDepth 100000 in
set_option maxHeartbeats 4000000 in
theorem S_X10_lasts_85 {G : z_G} {l : Launch}  {h : z_H} {l3 : Int32} {l4 : Int32} {res : (Int32 × z_H)} (e : D_X10_lasts_85  h l3 l4 = some res) : z_Run G l 8 M_X10_lasts 85 [(3, .int l3), (4, .int l4)] [] h res.2 (some (.int res.1)) := by
  unfold D_X10_lasts_85 at e
  refine z_iload_n 0 dX10_lasts_85 rfl ?_
  refine z_bipush (v := 99) dX10_lasts_86 (by decide) ?_
  refine z_icmp_ge (tgt := 95) dX10_lasts_88 (by decide) (fun c1448 => ?_) (fun c1448 => ?_)
  · rw [if_pos c1448] at e
    refine z_iload 1 dX10_lasts_95 rfl ?_
    cases e
    exact z_iret dX10_lasts_97 rfl
  · rw [if_neg c1448] at e
    refine z_iconst (v := -1) dX10_lasts_91 (by decide) ?_
    refine z_goto (tgt := 97) dX10_lasts_92 (by decide) ?_
    cases e
    exact z_iret dX10_lasts_97 rfl
def D_X10_lasts_33b (k33 : z_H → Option Nat → Int32 → Int32 → Int32 → Int32 → Option (Int32 × z_H)) (h : z_H) (l0 : Option Nat) (l1 : Int32) (l2 : Int32) (l3 : Int32) (l4 : Int32) : Option (Int32 × z_H) :=
  if (200:Int32) ≤ l4 then
    D_X10_lasts_85   h l3 l4
  else
    if (99:Int32) ≤ l3 then
      D_X10_lasts_85   h l3 l4
    else
      (z_gQ 10 h l0 6).bind fun x1451 =>
      (z_gQ 10 h l0 0).bind fun x1452 =>
      (z_gQ 10 h l0 0).bind fun x1453 =>
      (z_ob 9 h x1453).bind fun _ =>
      (D_X9_lawInForce  h x1453).bind fun p1454 =>
      (z_gQ 10 p1454.2 l0 0).bind fun x1456 =>
      (z_ob 9 p1454.2 x1456).bind fun _ =>
      (D_X9_placeOf  p1454.2 x1456 l1).bind fun p1457 =>
      (z_ob 1 p1457.2 x1451).bind fun _ =>
      (D_X1_wears  p1457.2 x1451 x1452 p1454.1 l1 l2 l3 p1457.1).bind fun p1459 =>
      (some (l3 + p1459.1)).bind fun x1461 =>
      (some (l4 + (1:Int32))).bind fun x1462 =>
      k33 p1459.2 l0 l1 l2 x1461 x1462
def D_X10_lasts_33 (n : Nat) : z_H → Option Nat → Int32 → Int32 → Int32 → Int32 → Option (Int32 × z_H) := Nat.rec (motive := fun _ => z_H → Option Nat → Int32 → Int32 → Int32 → Int32 → Option (Int32 × z_H)) (fun _ _ _ _ _ _ => none) (fun _ k => D_X10_lasts_33b  k) n
set_option maxRecDepth 100000 in
set_option maxHeartbeats 4000000 in
theorem S_X10_lasts_33 {G : z_G} {l : Launch}  (n : Nat) : ∀ {h : z_H} {l0 : Option Nat} {l1 : Int32} {l2 : Int32} {l3 : Int32} {l4 : Int32} {res : (Int32 × z_H)}, D_X10_lasts_33  n h l0 l1 l2 l3 l4 = some res → z_Run G l 8 M_X10_lasts 33 [(0, z_r l0), (1, .int l1), (2, .int l2), (3, .int l3), (4, .int l4)] [] h res.2 (some (.int res.1)) := by
  induction n with
  | zero => intro h l0 l1 l2 l3 l4 res e; cases e
  | succ n hk33 =>
    intro h l0 l1 l2 l3 l4 res e
    replace e : D_X10_lasts_33b  (D_X10_lasts_33  n) h l0 l1 l2 l3 l4 = some res := e
    unfold D_X10_lasts_33b at e
    refine z_iload 4 dX10_lasts_33 rfl ?_
    refine z_sipush (v := 200) dX10_lasts_35 (by decide) ?_
    refine z_icmp_ge (tgt := 85) dX10_lasts_38 (by decide) (fun c1449 => ?_) (fun c1449 => ?_)
    · rw [if_pos c1449] at e
      exact z_weak [3, 4] rfl (S_X10_lasts_85   e)
    · rw [if_neg c1449] at e
      refine z_iload_n 3 dX10_lasts_41 rfl ?_
      refine z_bipush (v := 99) dX10_lasts_42 (by decide) ?_
      refine z_icmp_ge (tgt := 85) dX10_lasts_44 (by decide) (fun c1450 => ?_) (fun c1450 => ?_)
      · rw [if_pos c1450] at e
        exact z_weak [3, 4] rfl (S_X10_lasts_85   e)
      · rw [if_neg c1450] at e
        refine z_iload_n 3 dX10_lasts_47 rfl ?_
        refine z_aload_n 0 dX10_lasts_48 rfl ?_
        replace e := z_bd e; obtain ⟨x1451, ex1451, e⟩ := e
        refine z_getQ ex1451 lk_X10_44 dX10_lasts_49 ?_
        refine z_aload_n 0 dX10_lasts_52 rfl ?_
        replace e := z_bd e; obtain ⟨x1452, ex1452, e⟩ := e
        refine z_getQ ex1452 lk_X10_12 dX10_lasts_53 ?_
        refine z_aload_n 0 dX10_lasts_56 rfl ?_
        replace e := z_bd e; obtain ⟨x1453, ex1453, e⟩ := e
        refine z_getQ ex1453 lk_X10_12 dX10_lasts_57 ?_
        replace e := z_bd e; obtain ⟨o1455, eo1455, e⟩ := e
        replace e := z_bd e; obtain ⟨p1454, ep1454, e⟩ := e
        refine z_cV [] (S_X9_lawInForce  ep1454) eo1455 rfl ml_X10_154 ck_X9_lawInForce vk_X9_lawInForce dX10_lasts_60 (by decide) rfl (by simp [z_ci, z_cj, z_cr, z_cx]) rfl ?_
        refine z_iload_n 1 dX10_lasts_63 rfl ?_
        refine z_iload_n 2 dX10_lasts_64 rfl ?_
        refine z_iload_n 3 dX10_lasts_65 rfl ?_
        refine z_aload_n 0 dX10_lasts_66 rfl ?_
        replace e := z_bd e; obtain ⟨x1456, ex1456, e⟩ := e
        refine z_getQ ex1456 lk_X10_12 dX10_lasts_67 ?_
        refine z_iload_n 1 dX10_lasts_70 rfl ?_
        replace e := z_bd e; obtain ⟨o1458, eo1458, e⟩ := e
        replace e := z_bd e; obtain ⟨p1457, ep1457, e⟩ := e
        refine z_cV [.int l1] (S_X9_placeOf  ep1457) eo1458 rfl ml_X10_138 ck_X9_placeOf vk_X9_placeOf dX10_lasts_71 (by decide) rfl (by simp [z_ci, z_cj, z_cr, z_cx]) rfl ?_
        replace e := z_bd e; obtain ⟨o1460, eo1460, e⟩ := e
        replace e := z_bd e; obtain ⟨p1459, ep1459, e⟩ := e
        refine z_cV [z_r x1452, z_r p1454.1, .int l1, .int l2, .int l3, .int p1457.1] (S_X1_wears  ep1459) eo1460 rfl ml_X10_158 ck_X1_wears vk_X1_wears dX10_lasts_74 (by decide) rfl (by simp [z_ci, z_cj, z_cr, z_cx]) rfl ?_
        refine z_iadd dX10_lasts_77 ?_
        replace e := z_bd e; obtain ⟨x1461, ex1461, e⟩ := e
        refine z_topI ex1461 ?_
        refine z_istore_n (L' := [(3, .int x1461), (0, z_r l0), (1, .int l1), (2, .int l2), (4, .int l4)]) dX10_lasts_78 rfl (by decide) rfl ?_
        replace e := z_bd e; obtain ⟨x1462, ex1462, e⟩ := e
        refine z_iinc (q := 4) (v := x1462) (L' := [(4, .int x1462), (3, .int x1461), (0, z_r l0), (1, .int l1), (2, .int l2)]) dX10_lasts_79 rfl (Option.some.inj ex1462) (by decide) rfl ?_
        refine z_goto (tgt := 33) dX10_lasts_82 (by decide) ?_
        exact z_weak [2, 3, 4, 1, 0] rfl (hk33 e)
def D_X10_lasts (h : z_H) (l0 : Option Nat) (l1 : Int32) (l2 : Int32) : Option (Int32 × z_H) :=
  (z_gQ 10 h l0 0).bind fun x1463 =>
  (z_ob 9 h x1463).bind fun _ =>
  (D_X9_hasPair  h x1463 l1).bind fun p1464 =>
  if p1464.1 = 0 then
    some ((-1:Int32), p1464.2)
  else
    (D_X10_isPart  p1464.2 l2).bind fun p1467 =>
    if p1467.1 = 0 then
      some ((-1:Int32), p1467.2)
    else
      (z_gQ 10 p1467.2 l0 0).bind fun x1469 =>
      (z_ob 9 p1467.2 x1469).bind fun _ =>
      (D_X9_wornAt  p1467.2 x1469 l1 l2).bind fun p1470 =>
      D_X10_lasts_33   z_F p1470.2 l0 l1 l2 p1470.1 (0:Int32)
set_option maxRecDepth 100000 in
set_option maxHeartbeats 4000000 in
theorem S_X10_lasts {G : z_G} {l : Launch} {h : z_H} {l0 : Option Nat} {l1 : Int32} {l2 : Int32} {res : (Int32 × z_H)} (e : D_X10_lasts h l0 l1 l2 = some res) : z_Meth G l 8 M_X10_lasts [z_r l0, .int l1, .int l2] h res.2 (some (.int res.1)) := by
  refine z_Meth.of ck_X10_lasts.2.2.2.2 (by simp [lg_sl, z_ci, z_cj, z_cr, z_cx]) ck_X10_lasts.1 ?_
  rw [show lv_args 0 [z_r l0, .int l1, .int l2] = [(0, z_r l0), (1, .int l1), (2, .int l2)] from by simp [lv_args, z_ci, z_cj, z_cr, z_cx]]
  unfold D_X10_lasts at e
  refine z_aload_n 0 dX10_lasts_0 rfl ?_
  replace e := z_bd e; obtain ⟨x1463, ex1463, e⟩ := e
  refine z_getQ ex1463 lk_X10_12 dX10_lasts_1 ?_
  refine z_iload_n 1 dX10_lasts_4 rfl ?_
  replace e := z_bd e; obtain ⟨o1465, eo1465, e⟩ := e
  replace e := z_bd e; obtain ⟨p1464, ep1464, e⟩ := e
  refine z_cV [.int l1] (S_X9_hasPair  ep1464) eo1465 rfl ml_X10_121 ck_X9_hasPair vk_X9_hasPair dX10_lasts_5 (by decide) rfl (Nat.zero_le _) rfl ?_
  refine z_if_eq (tgt := 18) dX10_lasts_8 (by decide) (fun c1466 => ?_) (fun c1466 => ?_)
  · rw [if_pos c1466] at e
    refine z_iconst (v := -1) dX10_lasts_18 (by decide) ?_
    cases e
    exact z_iret dX10_lasts_19 rfl
  · rw [if_neg c1466] at e
    refine z_iload_n 2 dX10_lasts_11 rfl ?_
    replace e := z_bd e; obtain ⟨p1467, ep1467, e⟩ := e
    refine z_cS [.int l2] (S_X10_isPart  ep1467) ml_X10_151 ck_X10_isPart st_X10_isPart dX10_lasts_12 (by decide) rfl (Nat.zero_le _) rfl ?_
    refine z_if_ne (tgt := 20) dX10_lasts_15 (by decide) (fun c1468 => ?_) (fun c1468 => ?_)
    · rw [if_neg c1468] at e
      refine z_aload_n 0 dX10_lasts_20 rfl ?_
      replace e := z_bd e; obtain ⟨x1469, ex1469, e⟩ := e
      refine z_getQ ex1469 lk_X10_12 dX10_lasts_21 ?_
      refine z_iload_n 1 dX10_lasts_24 rfl ?_
      refine z_iload_n 2 dX10_lasts_25 rfl ?_
      replace e := z_bd e; obtain ⟨o1471, eo1471, e⟩ := e
      replace e := z_bd e; obtain ⟨p1470, ep1470, e⟩ := e
      refine z_cV [.int l1, .int l2] (S_X9_wornAt  ep1470) eo1471 rfl ml_X10_125 ck_X9_wornAt vk_X9_wornAt dX10_lasts_26 (by decide) rfl (Nat.zero_le _) rfl ?_
      refine z_istore_n (L' := [(3, .int p1470.1), (0, z_r l0), (1, .int l1), (2, .int l2)]) dX10_lasts_29 rfl (by decide) rfl ?_
      refine z_iconst (v := 0) dX10_lasts_30 (by decide) ?_
      refine z_istore (L' := [(4, .int (0:Int32)), (3, .int p1470.1), (0, z_r l0), (1, .int l1), (2, .int l2)]) dX10_lasts_31 (by decide) rfl ?_
      exact z_weak [2, 3, 4, 1, 0] rfl (S_X10_lasts_33   z_F e)
    · rw [if_pos c1468] at e
      refine z_iconst (v := -1) dX10_lasts_18 (by decide) ?_
      cases e
      exact z_iret dX10_lasts_19 rfl
theorem dX11_lasts_0 : decode cX11_lasts 0 = .ok (.aload_n 0, 1) := by decide +kernel
theorem dX11_lasts_1 : decode cX11_lasts 1 = .ok (.iconst 0, 1) := by decide +kernel
theorem dX11_lasts_2 : decode cX11_lasts 2 = .ok (.putfield 166, 3) := by decide +kernel
theorem dX11_lasts_5 : decode cX11_lasts 5 = .ok (.aload_n 0, 1) := by decide +kernel
theorem dX11_lasts_6 : decode cX11_lasts 6 = .ok (.iload_n 1, 1) := by decide +kernel
theorem dX11_lasts_7 : decode cX11_lasts 7 = .ok (.invokevirtual 211, 3) := by decide +kernel
theorem dX11_lasts_10 : decode cX11_lasts 10 = .ok (.ifCond .eq 10, 3) := by decide +kernel
theorem dX11_lasts_13 : decode cX11_lasts 13 = .ok (.iload_n 2, 1) := by decide +kernel
theorem dX11_lasts_14 : decode cX11_lasts 14 = .ok (.invokestatic 223, 3) := by decide +kernel
theorem dX11_lasts_17 : decode cX11_lasts 17 = .ok (.ifCond .ne 5, 3) := by decide +kernel
theorem dX11_lasts_20 : decode cX11_lasts 20 = .ok (.iconst (-1), 1) := by decide +kernel
theorem dX11_lasts_21 : decode cX11_lasts 21 = .ok (.ireturn, 1) := by decide +kernel
theorem dX11_lasts_22 : decode cX11_lasts 22 = .ok (.aload_n 0, 1) := by decide +kernel
theorem dX11_lasts_23 : decode cX11_lasts 23 = .ok (.iload_n 1, 1) := by decide +kernel
theorem dX11_lasts_24 : decode cX11_lasts 24 = .ok (.iload_n 2, 1) := by decide +kernel
theorem dX11_lasts_25 : decode cX11_lasts 25 = .ok (.invokevirtual 219, 3) := by decide +kernel
theorem dX11_lasts_28 : decode cX11_lasts 28 = .ok (.istore_n 3, 1) := by decide +kernel
theorem dX11_lasts_29 : decode cX11_lasts 29 = .ok (.iconst 0, 1) := by decide +kernel
theorem dX11_lasts_30 : decode cX11_lasts 30 = .ok (.istore 4, 2) := by decide +kernel
theorem dX11_lasts_32 : decode cX11_lasts 32 = .ok (.iload 4, 2) := by decide +kernel
theorem dX11_lasts_34 : decode cX11_lasts 34 = .ok (.sipush 200, 3) := by decide +kernel
theorem dX11_lasts_37 : decode cX11_lasts 37 = .ok (.if_icmp .gt 32, 3) := by decide +kernel
theorem dX11_lasts_40 : decode cX11_lasts 40 = .ok (.aload_n 0, 1) := by decide +kernel
theorem dX11_lasts_41 : decode cX11_lasts 41 = .ok (.iload_n 1, 1) := by decide +kernel
theorem dX11_lasts_42 : decode cX11_lasts 42 = .ok (.iload_n 2, 1) := by decide +kernel
theorem dX11_lasts_43 : decode cX11_lasts 43 = .ok (.invokevirtual 219, 3) := by decide +kernel
theorem dX11_lasts_46 : decode cX11_lasts 46 = .ok (.bipush 99, 2) := by decide +kernel
theorem dX11_lasts_48 : decode cX11_lasts 48 = .ok (.if_icmp .ge 21, 3) := by decide +kernel
theorem dX11_lasts_51 : decode cX11_lasts 51 = .ok (.aload_n 0, 1) := by decide +kernel
theorem dX11_lasts_52 : decode cX11_lasts 52 = .ok (.iload_n 1, 1) := by decide +kernel
theorem dX11_lasts_53 : decode cX11_lasts 53 = .ok (.iload_n 2, 1) := by decide +kernel
theorem dX11_lasts_54 : decode cX11_lasts 54 = .ok (.aload_n 0, 1) := by decide +kernel
theorem dX11_lasts_55 : decode cX11_lasts 55 = .ok (.iload_n 1, 1) := by decide +kernel
theorem dX11_lasts_56 : decode cX11_lasts 56 = .ok (.iload_n 2, 1) := by decide +kernel
theorem dX11_lasts_57 : decode cX11_lasts 57 = .ok (.invokevirtual 226, 3) := by decide +kernel
theorem dX11_lasts_60 : decode cX11_lasts 60 = .ok (.invokevirtual 442, 3) := by decide +kernel
theorem dX11_lasts_63 : decode cX11_lasts 63 = .ok (.iinc 4 1, 3) := by decide +kernel
theorem dX11_lasts_66 : decode cX11_lasts 66 = .ok (.goto (-34), 3) := by decide +kernel
theorem dX11_lasts_69 : decode cX11_lasts 69 = .ok (.aload_n 0, 1) := by decide +kernel
theorem dX11_lasts_70 : decode cX11_lasts 70 = .ok (.getfield 13, 3) := by decide +kernel
theorem dX11_lasts_73 : decode cX11_lasts 73 = .ok (.bipush 20, 2) := by decide +kernel
theorem dX11_lasts_75 : decode cX11_lasts 75 = .ok (.iconst 4, 1) := by decide +kernel
theorem dX11_lasts_76 : decode cX11_lasts 76 = .ok (.iload_n 1, 1) := by decide +kernel
theorem dX11_lasts_77 : decode cX11_lasts 77 = .ok (.imul, 1) := by decide +kernel
theorem dX11_lasts_78 : decode cX11_lasts 78 = .ok (.iadd, 1) := by decide +kernel
theorem dX11_lasts_79 : decode cX11_lasts 79 = .ok (.iload_n 2, 1) := by decide +kernel
theorem dX11_lasts_80 : decode cX11_lasts 80 = .ok (.iadd, 1) := by decide +kernel
theorem dX11_lasts_81 : decode cX11_lasts 81 = .ok (.iload_n 3, 1) := by decide +kernel
theorem dX11_lasts_82 : decode cX11_lasts 82 = .ok (.iastore, 1) := by decide +kernel
theorem dX11_lasts_83 : decode cX11_lasts 83 = .ok (.iload 4, 2) := by decide +kernel
theorem dX11_lasts_85 : decode cX11_lasts 85 = .ok (.sipush 200, 3) := by decide +kernel
theorem dX11_lasts_88 : decode cX11_lasts 88 = .ok (.if_icmp .le 7, 3) := by decide +kernel
theorem dX11_lasts_91 : decode cX11_lasts 91 = .ok (.iconst (-1), 1) := by decide +kernel
theorem dX11_lasts_92 : decode cX11_lasts 92 = .ok (.goto 5, 3) := by decide +kernel
theorem dX11_lasts_95 : decode cX11_lasts 95 = .ok (.iload 4, 2) := by decide +kernel
theorem dX11_lasts_97 : decode cX11_lasts 97 = .ok (.ireturn, 1) := by decide +kernel
def D_X11_lasts_69 (h : z_H) (l0 : Option Nat) (l1 : Int32) (l2 : Int32) (l3 : Int32) (l4 : Int32) : Option (Int32 × z_H) :=
  (z_gQ 11 h l0 3).bind fun x1472 =>
  (z_sI h x1472 (((20:Int32) + ((4:Int32) * l1)) + l2) l3).bind fun h1473 =>
  if l4 ≤ (200:Int32) then
    some (l4, h1473)
  else
    some ((-1:Int32), h1473)
set_option maxRecDepth 100000 in
set_option maxHeartbeats 4000000 in
theorem S_X11_lasts_69 {G : z_G} {l : Launch}  {h : z_H} {l0 : Option Nat} {l1 : Int32} {l2 : Int32} {l3 : Int32} {l4 : Int32} {res : (Int32 × z_H)} (e : D_X11_lasts_69  h l0 l1 l2 l3 l4 = some res) : z_Run G l 11 M_X11_lasts 69 [(0, z_r l0), (1, .int l1), (2, .int l2), (3, .int l3), (4, .int l4)] [] h res.2 (some (.int res.1)) := by
  unfold D_X11_lasts_69 at e
  refine z_aload_n 0 dX11_lasts_69 rfl ?_
  replace e := z_bd e; obtain ⟨x1472, ex1472, e⟩ := e
  refine z_getQ ex1472 lk_X11_13 dX11_lasts_70 ?_
  refine z_bipush (v := 20) dX11_lasts_73 (by decide) ?_
  refine z_iconst (v := 4) dX11_lasts_75 (by decide) ?_
  refine z_iload_n 1 dX11_lasts_76 rfl ?_
  refine z_imul dX11_lasts_77 ?_
  refine z_iadd dX11_lasts_78 ?_
  refine z_iload_n 2 dX11_lasts_79 rfl ?_
  refine z_iadd dX11_lasts_80 ?_
  refine z_iload_n 3 dX11_lasts_81 rfl ?_
  replace e := z_bd e; obtain ⟨h1473, eh1473, e⟩ := e
  refine z_iast eh1473 dX11_lasts_82 ?_
  refine z_iload 4 dX11_lasts_83 rfl ?_
  refine z_sipush (v := 200) dX11_lasts_85 (by decide) ?_
  refine z_icmp_le (tgt := 95) dX11_lasts_88 (by decide) (fun c1474 => ?_) (fun c1474 => ?_)
  · rw [if_pos c1474] at e
    refine z_iload 4 dX11_lasts_95 rfl ?_
    cases e
    exact z_iret dX11_lasts_97 rfl
  · rw [if_neg c1474] at e
    refine z_iconst (v := -1) dX11_lasts_91 (by decide) ?_
    refine z_goto (tgt := 97) dX11_lasts_92 (by decide) ?_
    cases e
    exact z_iret dX11_lasts_97 rfl
def D_X11_lasts_32b (k32 : z_H → Option Nat → Int32 → Int32 → Int32 → Int32 → Option (Int32 × z_H)) (h : z_H) (l0 : Option Nat) (l1 : Int32) (l2 : Int32) (l3 : Int32) (l4 : Int32) : Option (Int32 × z_H) :=
  if (200:Int32) < l4 then
    D_X11_lasts_69   h l0 l1 l2 l3 l4
  else
    (z_ob 11 h l0).bind fun _ =>
    (D_X11_wornOf  h l0 l1 l2).bind fun p1476 =>
    if (99:Int32) ≤ p1476.1 then
      D_X11_lasts_69   p1476.2 l0 l1 l2 l3 l4
    else
      (z_ob 11 p1476.2 l0).bind fun _ =>
      (D_X11_wearsNow  p1476.2 l0 l1 l2).bind fun p1479 =>
      (z_ob 11 p1479.2 l0).bind fun _ =>
      (D_X11_wear  p1479.2 l0 l1 l2 p1479.1).bind fun p1481 =>
      (some (l4 + (1:Int32))).bind fun x1483 =>
      k32 p1481 l0 l1 l2 l3 x1483
def D_X11_lasts_32 (n : Nat) : z_H → Option Nat → Int32 → Int32 → Int32 → Int32 → Option (Int32 × z_H) := Nat.rec (motive := fun _ => z_H → Option Nat → Int32 → Int32 → Int32 → Int32 → Option (Int32 × z_H)) (fun _ _ _ _ _ _ => none) (fun _ k => D_X11_lasts_32b  k) n
set_option maxRecDepth 100000 in
set_option maxHeartbeats 4000000 in
theorem S_X11_lasts_32 {G : z_G} {l : Launch}  (n : Nat) : ∀ {h : z_H} {l0 : Option Nat} {l1 : Int32} {l2 : Int32} {l3 : Int32} {l4 : Int32} {res : (Int32 × z_H)}, D_X11_lasts_32  n h l0 l1 l2 l3 l4 = some res → z_Run G l 11 M_X11_lasts 32 [(0, z_r l0), (1, .int l1), (2, .int l2), (3, .int l3), (4, .int l4)] [] h res.2 (some (.int res.1)) := by
  induction n with
  | zero => intro h l0 l1 l2 l3 l4 res e; cases e
  | succ n hk32 =>
    intro h l0 l1 l2 l3 l4 res e
    replace e : D_X11_lasts_32b  (D_X11_lasts_32  n) h l0 l1 l2 l3 l4 = some res := e
    unfold D_X11_lasts_32b at e
    refine z_iload 4 dX11_lasts_32 rfl ?_
    refine z_sipush (v := 200) dX11_lasts_34 (by decide) ?_
    refine z_icmp_gt (tgt := 69) dX11_lasts_37 (by decide) (fun c1475 => ?_) (fun c1475 => ?_)
    · rw [if_pos c1475] at e
      exact z_weak [0, 1, 2, 3, 4] rfl (S_X11_lasts_69   e)
    · rw [if_neg c1475] at e
      refine z_aload_n 0 dX11_lasts_40 rfl ?_
      refine z_iload_n 1 dX11_lasts_41 rfl ?_
      refine z_iload_n 2 dX11_lasts_42 rfl ?_
      replace e := z_bd e; obtain ⟨o1477, eo1477, e⟩ := e
      replace e := z_bd e; obtain ⟨p1476, ep1476, e⟩ := e
      refine z_cV [.int l1, .int l2] (S_X11_wornOf  ep1476) eo1477 rfl ml_X11_219 ck_X11_wornOf vk_X11_wornOf dX11_lasts_43 (by decide) rfl (Nat.zero_le _) rfl ?_
      refine z_bipush (v := 99) dX11_lasts_46 (by decide) ?_
      refine z_icmp_ge (tgt := 69) dX11_lasts_48 (by decide) (fun c1478 => ?_) (fun c1478 => ?_)
      · rw [if_pos c1478] at e
        exact z_weak [0, 1, 2, 3, 4] rfl (S_X11_lasts_69   e)
      · rw [if_neg c1478] at e
        refine z_aload_n 0 dX11_lasts_51 rfl ?_
        refine z_iload_n 1 dX11_lasts_52 rfl ?_
        refine z_iload_n 2 dX11_lasts_53 rfl ?_
        refine z_aload_n 0 dX11_lasts_54 rfl ?_
        refine z_iload_n 1 dX11_lasts_55 rfl ?_
        refine z_iload_n 2 dX11_lasts_56 rfl ?_
        replace e := z_bd e; obtain ⟨o1480, eo1480, e⟩ := e
        replace e := z_bd e; obtain ⟨p1479, ep1479, e⟩ := e
        refine z_cV [.int l1, .int l2] (S_X11_wearsNow  ep1479) eo1480 rfl ml_X11_226 ck_X11_wearsNow vk_X11_wearsNow dX11_lasts_57 (by decide) rfl (by simp [z_ci, z_cj, z_cr, z_cx]) rfl ?_
        replace e := z_bd e; obtain ⟨o1482, eo1482, e⟩ := e
        replace e := z_bd e; obtain ⟨p1481, ep1481, e⟩ := e
        refine z_cV [.int l1, .int l2, .int p1479.1] (S_X11_wear  ep1481) eo1482 rfl ml_X11_442 ck_X11_wear vk_X11_wear dX11_lasts_60 (by decide) rfl (Nat.zero_le _) rfl ?_
        replace e := z_bd e; obtain ⟨x1483, ex1483, e⟩ := e
        refine z_iinc (q := 4) (v := x1483) (L' := [(4, .int x1483), (0, z_r l0), (1, .int l1), (2, .int l2), (3, .int l3)]) dX11_lasts_63 rfl (Option.some.inj ex1483) (by decide) rfl ?_
        refine z_goto (tgt := 32) dX11_lasts_66 (by decide) ?_
        exact z_weak [1, 2, 3, 4, 0] rfl (hk32 e)
def D_X11_lasts (h : z_H) (l0 : Option Nat) (l1 : Int32) (l2 : Int32) : Option (Int32 × z_H) :=
  (z_pV 11 h l0 0 (.int (0:Int32))).bind fun h1484 =>
  (z_ob 11 h1484 l0).bind fun _ =>
  (D_X11_isPair  h1484 l0 l1).bind fun p1485 =>
  if p1485.1 = 0 then
    some ((-1:Int32), p1485.2)
  else
    (D_X11_isPart  p1485.2 l2).bind fun p1488 =>
    if p1488.1 = 0 then
      some ((-1:Int32), p1488.2)
    else
      (z_ob 11 p1488.2 l0).bind fun _ =>
      (D_X11_wornOf  p1488.2 l0 l1 l2).bind fun p1490 =>
      D_X11_lasts_32   z_F p1490.2 l0 l1 l2 p1490.1 (0:Int32)
set_option maxRecDepth 100000 in
set_option maxHeartbeats 4000000 in
theorem S_X11_lasts {G : z_G} {l : Launch} {h : z_H} {l0 : Option Nat} {l1 : Int32} {l2 : Int32} {res : (Int32 × z_H)} (e : D_X11_lasts h l0 l1 l2 = some res) : z_Meth G l 11 M_X11_lasts [z_r l0, .int l1, .int l2] h res.2 (some (.int res.1)) := by
  refine z_Meth.of ck_X11_lasts.2.2.2.2 (by simp [lg_sl, z_ci, z_cj, z_cr, z_cx]) ck_X11_lasts.1 ?_
  rw [show lv_args 0 [z_r l0, .int l1, .int l2] = [(0, z_r l0), (1, .int l1), (2, .int l2)] from by simp [lv_args, z_ci, z_cj, z_cr, z_cx]]
  unfold D_X11_lasts at e
  refine z_aload_n 0 dX11_lasts_0 rfl ?_
  refine z_iconst (v := 0) dX11_lasts_1 (by decide) ?_
  replace e := z_bd e; obtain ⟨h1484, eh1484, e⟩ := e
  refine z_putV eh1484 lk_X11_166 wk_11_0 (fun _ => rfl) (fun _ => rfl) dX11_lasts_2 ?_
  refine z_aload_n 0 dX11_lasts_5 rfl ?_
  refine z_iload_n 1 dX11_lasts_6 rfl ?_
  replace e := z_bd e; obtain ⟨o1486, eo1486, e⟩ := e
  replace e := z_bd e; obtain ⟨p1485, ep1485, e⟩ := e
  refine z_cV [.int l1] (S_X11_isPair  ep1485) eo1486 rfl ml_X11_211 ck_X11_isPair vk_X11_isPair dX11_lasts_7 (by decide) rfl (Nat.zero_le _) rfl ?_
  refine z_if_eq (tgt := 20) dX11_lasts_10 (by decide) (fun c1487 => ?_) (fun c1487 => ?_)
  · rw [if_pos c1487] at e
    refine z_iconst (v := -1) dX11_lasts_20 (by decide) ?_
    cases e
    exact z_iret dX11_lasts_21 rfl
  · rw [if_neg c1487] at e
    refine z_iload_n 2 dX11_lasts_13 rfl ?_
    replace e := z_bd e; obtain ⟨p1488, ep1488, e⟩ := e
    refine z_cS [.int l2] (S_X11_isPart  ep1488) ml_X11_223 ck_X11_isPart st_X11_isPart dX11_lasts_14 (by decide) rfl (Nat.zero_le _) rfl ?_
    refine z_if_ne (tgt := 22) dX11_lasts_17 (by decide) (fun c1489 => ?_) (fun c1489 => ?_)
    · rw [if_neg c1489] at e
      refine z_aload_n 0 dX11_lasts_22 rfl ?_
      refine z_iload_n 1 dX11_lasts_23 rfl ?_
      refine z_iload_n 2 dX11_lasts_24 rfl ?_
      replace e := z_bd e; obtain ⟨o1491, eo1491, e⟩ := e
      replace e := z_bd e; obtain ⟨p1490, ep1490, e⟩ := e
      refine z_cV [.int l1, .int l2] (S_X11_wornOf  ep1490) eo1491 rfl ml_X11_219 ck_X11_wornOf vk_X11_wornOf dX11_lasts_25 (by decide) rfl (Nat.zero_le _) rfl ?_
      refine z_istore_n (L' := [(3, .int p1490.1), (0, z_r l0), (1, .int l1), (2, .int l2)]) dX11_lasts_28 rfl (by decide) rfl ?_
      refine z_iconst (v := 0) dX11_lasts_29 (by decide) ?_
      refine z_istore (L' := [(4, .int (0:Int32)), (3, .int p1490.1), (0, z_r l0), (1, .int l1), (2, .int l2)]) dX11_lasts_30 (by decide) rfl ?_
      exact z_weak [2, 3, 4, 1, 0] rfl (S_X11_lasts_32   z_F e)
    · rw [if_pos c1489] at e
      refine z_iconst (v := -1) dX11_lasts_20 (by decide) ?_
      cases e
      exact z_iret dX11_lasts_21 rfl
theorem dX3_differ_0 : decode cX3_differ 0 = .ok (.iconst 0, 1) := by decide +kernel
theorem dX3_differ_1 : decode cX3_differ 1 = .ok (.istore_n 3, 1) := by decide +kernel
theorem dX3_differ_2 : decode cX3_differ 2 = .ok (.iconst 0, 1) := by decide +kernel
theorem dX3_differ_3 : decode cX3_differ 3 = .ok (.istore 4, 2) := by decide +kernel
theorem dX3_differ_5 : decode cX3_differ 5 = .ok (.iload 4, 2) := by decide +kernel
theorem dX3_differ_7 : decode cX3_differ 7 = .ok (.iconst 4, 1) := by decide +kernel
theorem dX3_differ_8 : decode cX3_differ 8 = .ok (.if_icmp .ge 30, 3) := by decide +kernel
theorem dX3_differ_11 : decode cX3_differ 11 = .ok (.iload_n 3, 1) := by decide +kernel
theorem dX3_differ_12 : decode cX3_differ 12 = .ok (.aload_n 0, 1) := by decide +kernel
theorem dX3_differ_13 : decode cX3_differ 13 = .ok (.iload_n 1, 1) := by decide +kernel
theorem dX3_differ_14 : decode cX3_differ 14 = .ok (.iload 4, 2) := by decide +kernel
theorem dX3_differ_16 : decode cX3_differ 16 = .ok (.invokevirtual 32, 3) := by decide +kernel
theorem dX3_differ_19 : decode cX3_differ 19 = .ok (.aload_n 0, 1) := by decide +kernel
theorem dX3_differ_20 : decode cX3_differ 20 = .ok (.iload_n 2, 1) := by decide +kernel
theorem dX3_differ_21 : decode cX3_differ 21 = .ok (.iload 4, 2) := by decide +kernel
theorem dX3_differ_23 : decode cX3_differ 23 = .ok (.invokevirtual 32, 3) := by decide +kernel
theorem dX3_differ_26 : decode cX3_differ 26 = .ok (.isub, 1) := by decide +kernel
theorem dX3_differ_27 : decode cX3_differ 27 = .ok (.invokestatic 38, 3) := by decide +kernel
theorem dX3_differ_30 : decode cX3_differ 30 = .ok (.iadd, 1) := by decide +kernel
theorem dX3_differ_31 : decode cX3_differ 31 = .ok (.istore_n 3, 1) := by decide +kernel
theorem dX3_differ_32 : decode cX3_differ 32 = .ok (.iinc 4 1, 3) := by decide +kernel
theorem dX3_differ_35 : decode cX3_differ 35 = .ok (.goto (-30), 3) := by decide +kernel
theorem dX3_differ_38 : decode cX3_differ 38 = .ok (.iload_n 3, 1) := by decide +kernel
theorem dX3_differ_39 : decode cX3_differ 39 = .ok (.ireturn, 1) := by decide +kernel
def D_X3_differ_5b (k5 : z_H → Option Nat → Int32 → Int32 → Int32 → Int32 → Option (Int32 × z_H)) (h : z_H) (l0 : Option Nat) (l1 : Int32) (l2 : Int32) (l3 : Int32) (l4 : Int32) : Option (Int32 × z_H) :=
  if (4:Int32) ≤ l4 then
    some (l3, h)
  else
    (z_ob 9 h l0).bind fun _ =>
    (D_X9_wornAt  h l0 l1 l4).bind fun p1493 =>
    (z_ob 9 p1493.2 l0).bind fun _ =>
    (D_X9_wornAt  p1493.2 l0 l2 l4).bind fun p1495 =>
    (some (if 0 ≤ (p1493.1 - p1495.1) then (p1493.1 - p1495.1) else 0 - (p1493.1 - p1495.1))).bind fun x1497 =>
    (some (l3 + x1497)).bind fun x1498 =>
    (some (l4 + (1:Int32))).bind fun x1499 =>
    k5 p1495.2 l0 l1 l2 x1498 x1499
def D_X3_differ_5 (n : Nat) : z_H → Option Nat → Int32 → Int32 → Int32 → Int32 → Option (Int32 × z_H) := Nat.rec (motive := fun _ => z_H → Option Nat → Int32 → Int32 → Int32 → Int32 → Option (Int32 × z_H)) (fun _ _ _ _ _ _ => none) (fun _ k => D_X3_differ_5b  k) n
set_option maxRecDepth 100000 in
set_option maxHeartbeats 4000000 in
theorem S_X3_differ_5 {G : z_G} {l : Launch}  (n : Nat) : ∀ {h : z_H} {l0 : Option Nat} {l1 : Int32} {l2 : Int32} {l3 : Int32} {l4 : Int32} {res : (Int32 × z_H)}, D_X3_differ_5  n h l0 l1 l2 l3 l4 = some res → z_Run G l 5 M_X3_differ 5 [(0, z_r l0), (1, .int l1), (2, .int l2), (3, .int l3), (4, .int l4)] [] h res.2 (some (.int res.1)) := by
  induction n with
  | zero => intro h l0 l1 l2 l3 l4 res e; cases e
  | succ n hk5 =>
    intro h l0 l1 l2 l3 l4 res e
    replace e : D_X3_differ_5b  (D_X3_differ_5  n) h l0 l1 l2 l3 l4 = some res := e
    unfold D_X3_differ_5b at e
    refine z_iload 4 dX3_differ_5 rfl ?_
    refine z_iconst (v := 4) dX3_differ_7 (by decide) ?_
    refine z_icmp_ge (tgt := 38) dX3_differ_8 (by decide) (fun c1492 => ?_) (fun c1492 => ?_)
    · rw [if_pos c1492] at e
      refine z_iload_n 3 dX3_differ_38 rfl ?_
      cases e
      exact z_iret dX3_differ_39 rfl
    · rw [if_neg c1492] at e
      refine z_iload_n 3 dX3_differ_11 rfl ?_
      refine z_aload_n 0 dX3_differ_12 rfl ?_
      refine z_iload_n 1 dX3_differ_13 rfl ?_
      refine z_iload 4 dX3_differ_14 rfl ?_
      replace e := z_bd e; obtain ⟨o1494, eo1494, e⟩ := e
      replace e := z_bd e; obtain ⟨p1493, ep1493, e⟩ := e
      refine z_cV [.int l1, .int l4] (S_X9_wornAt  ep1493) eo1494 rfl ml_X3_32 ck_X9_wornAt vk_X9_wornAt dX3_differ_16 (by decide) rfl (by simp [z_ci, z_cj, z_cr, z_cx]) rfl ?_
      refine z_aload_n 0 dX3_differ_19 rfl ?_
      refine z_iload_n 2 dX3_differ_20 rfl ?_
      refine z_iload 4 dX3_differ_21 rfl ?_
      replace e := z_bd e; obtain ⟨o1496, eo1496, e⟩ := e
      replace e := z_bd e; obtain ⟨p1495, ep1495, e⟩ := e
      refine z_cV [.int l2, .int l4] (S_X9_wornAt  ep1495) eo1496 rfl ml_X3_32 ck_X9_wornAt vk_X9_wornAt dX3_differ_23 (by decide) rfl (by simp [z_ci, z_cj, z_cr, z_cx]) rfl ?_
      refine z_isub dX3_differ_26 ?_
      refine z_mabs ml_X3_38 z_mw_abs (by decide) (by simp [z_ci, z_cj, z_cr, z_cx]) dX3_differ_27 ?_
      replace e := z_bd e; obtain ⟨x1497, ex1497, e⟩ := e
      refine z_topI ex1497 ?_
      refine z_iadd dX3_differ_30 ?_
      replace e := z_bd e; obtain ⟨x1498, ex1498, e⟩ := e
      refine z_topI ex1498 ?_
      refine z_istore_n (L' := [(3, .int x1498), (0, z_r l0), (1, .int l1), (2, .int l2), (4, .int l4)]) dX3_differ_31 rfl (by decide) rfl ?_
      replace e := z_bd e; obtain ⟨x1499, ex1499, e⟩ := e
      refine z_iinc (q := 4) (v := x1499) (L' := [(4, .int x1499), (3, .int x1498), (0, z_r l0), (1, .int l1), (2, .int l2)]) dX3_differ_32 rfl (Option.some.inj ex1499) (by decide) rfl ?_
      refine z_goto (tgt := 5) dX3_differ_35 (by decide) ?_
      exact z_weak [2, 3, 4, 1, 0] rfl (hk5 e)
def D_X3_differ (h : z_H) (l0 : Option Nat) (l1 : Int32) (l2 : Int32) : Option (Int32 × z_H) :=
  D_X3_differ_5   z_F h l0 l1 l2 (0:Int32) (0:Int32)
set_option maxRecDepth 100000 in
set_option maxHeartbeats 4000000 in
theorem S_X3_differ {G : z_G} {l : Launch} {h : z_H} {l0 : Option Nat} {l1 : Int32} {l2 : Int32} {res : (Int32 × z_H)} (e : D_X3_differ h l0 l1 l2 = some res) : z_Meth G l 5 M_X3_differ [z_r l0, .int l1, .int l2] h res.2 (some (.int res.1)) := by
  refine z_Meth.of ck_X3_differ.2.2.2.2 (by simp [lg_sl, z_ci, z_cj, z_cr, z_cx]) ck_X3_differ.1 ?_
  rw [show lv_args 0 [z_r l0, .int l1, .int l2] = [(0, z_r l0), (1, .int l1), (2, .int l2)] from by simp [lv_args, z_ci, z_cj, z_cr, z_cx]]
  unfold D_X3_differ at e
  refine z_iconst (v := 0) dX3_differ_0 (by decide) ?_
  refine z_istore_n (L' := [(3, .int (0:Int32)), (0, z_r l0), (1, .int l1), (2, .int l2)]) dX3_differ_1 rfl (by decide) rfl ?_
  refine z_iconst (v := 0) dX3_differ_2 (by decide) ?_
  refine z_istore (L' := [(4, .int (0:Int32)), (3, .int (0:Int32)), (0, z_r l0), (1, .int l1), (2, .int l2)]) dX3_differ_3 (by decide) rfl ?_
  exact z_weak [2, 3, 4, 1, 0] rfl (S_X3_differ_5   z_F e)
theorem dX3_nearestTo_0 : decode cX3_nearestTo 0 = .ok (.iconst (-1), 1) := by decide +kernel
theorem dX3_nearestTo_1 : decode cX3_nearestTo 1 = .ok (.istore_n 3, 1) := by decide +kernel
theorem dX3_nearestTo_2 : decode cX3_nearestTo 2 = .ok (.iconst 0, 1) := by decide +kernel
theorem dX3_nearestTo_3 : decode cX3_nearestTo 3 = .ok (.istore 4, 2) := by decide +kernel
theorem dX3_nearestTo_5 : decode cX3_nearestTo 5 = .ok (.iload 4, 2) := by decide +kernel
theorem dX3_nearestTo_7 : decode cX3_nearestTo 7 = .ok (.aload_n 1, 1) := by decide +kernel
theorem dX3_nearestTo_8 : decode cX3_nearestTo 8 = .ok (.getfield 44, 3) := by decide +kernel
theorem dX3_nearestTo_11 : decode cX3_nearestTo 11 = .ok (.if_icmp .ge 39, 3) := by decide +kernel
theorem dX3_nearestTo_14 : decode cX3_nearestTo 14 = .ok (.iload 4, 2) := by decide +kernel
theorem dX3_nearestTo_16 : decode cX3_nearestTo 16 = .ok (.iload_n 2, 1) := by decide +kernel
theorem dX3_nearestTo_17 : decode cX3_nearestTo 17 = .ok (.if_icmp .eq 27, 3) := by decide +kernel
theorem dX3_nearestTo_20 : decode cX3_nearestTo 20 = .ok (.iload_n 3, 1) := by decide +kernel
theorem dX3_nearestTo_21 : decode cX3_nearestTo 21 = .ok (.iconst (-1), 1) := by decide +kernel
theorem dX3_nearestTo_22 : decode cX3_nearestTo 22 = .ok (.if_icmp .eq 19, 3) := by decide +kernel
theorem dX3_nearestTo_25 : decode cX3_nearestTo 25 = .ok (.aload_n 1, 1) := by decide +kernel
theorem dX3_nearestTo_26 : decode cX3_nearestTo 26 = .ok (.iload_n 2, 1) := by decide +kernel
theorem dX3_nearestTo_27 : decode cX3_nearestTo 27 = .ok (.iload 4, 2) := by decide +kernel
theorem dX3_nearestTo_29 : decode cX3_nearestTo 29 = .ok (.invokestatic 47, 3) := by decide +kernel
theorem dX3_nearestTo_32 : decode cX3_nearestTo 32 = .ok (.aload_n 1, 1) := by decide +kernel
theorem dX3_nearestTo_33 : decode cX3_nearestTo 33 = .ok (.iload_n 2, 1) := by decide +kernel
theorem dX3_nearestTo_34 : decode cX3_nearestTo 34 = .ok (.iload_n 3, 1) := by decide +kernel
theorem dX3_nearestTo_35 : decode cX3_nearestTo 35 = .ok (.invokestatic 47, 3) := by decide +kernel
theorem dX3_nearestTo_38 : decode cX3_nearestTo 38 = .ok (.if_icmp .ge 6, 3) := by decide +kernel
theorem dX3_nearestTo_41 : decode cX3_nearestTo 41 = .ok (.iload 4, 2) := by decide +kernel
theorem dX3_nearestTo_43 : decode cX3_nearestTo 43 = .ok (.istore_n 3, 1) := by decide +kernel
theorem dX3_nearestTo_44 : decode cX3_nearestTo 44 = .ok (.iinc 4 1, 3) := by decide +kernel
theorem dX3_nearestTo_47 : decode cX3_nearestTo 47 = .ok (.goto (-42), 3) := by decide +kernel
theorem dX3_nearestTo_50 : decode cX3_nearestTo 50 = .ok (.iload_n 3, 1) := by decide +kernel
theorem dX3_nearestTo_51 : decode cX3_nearestTo 51 = .ok (.ireturn, 1) := by decide +kernel
def D_X3_nearestTo_44 (k5 : z_H → Option Nat → Int32 → Int32 → Int32 → Option (Int32 × z_H)) (h : z_H) (l1 : Option Nat) (l2 : Int32) (l3 : Int32) (l4 : Int32) : Option (Int32 × z_H) :=
  (some (l4 + (1:Int32))).bind fun x1500 =>
  k5 h l1 l2 l3 x1500
set_option maxRecDepth 100000 in
set_option maxHeartbeats 4000000 in
theorem S_X3_nearestTo_44 {G : z_G} {l : Launch} {k5 : z_H → Option Nat → Int32 → Int32 → Int32 → Option (Int32 × z_H)} (hk5 : ∀ {h : z_H} {l1 : Option Nat} {l2 : Int32} {l3 : Int32} {l4 : Int32} {res : (Int32 × z_H)}, k5 h l1 l2 l3 l4 = some res → z_Run G l 6 M_X3_nearestTo 5 [(1, z_r l1), (2, .int l2), (3, .int l3), (4, .int l4)] [] h res.2 (some (.int res.1))) {h : z_H} {l1 : Option Nat} {l2 : Int32} {l3 : Int32} {l4 : Int32} {res : (Int32 × z_H)} (e : D_X3_nearestTo_44 k5 h l1 l2 l3 l4 = some res) : z_Run G l 6 M_X3_nearestTo 44 [(1, z_r l1), (2, .int l2), (3, .int l3), (4, .int l4)] [] h res.2 (some (.int res.1)) := by
  unfold D_X3_nearestTo_44 at e
  replace e := z_bd e; obtain ⟨x1500, ex1500, e⟩ := e
  refine z_iinc (q := 3) (v := x1500) (L' := [(4, .int x1500), (1, z_r l1), (2, .int l2), (3, .int l3)]) dX3_nearestTo_44 rfl (Option.some.inj ex1500) (by decide) rfl ?_
  refine z_goto (tgt := 5) dX3_nearestTo_47 (by decide) ?_
  exact z_weak [1, 2, 3, 0] rfl (hk5 e)
def D_X3_nearestTo_41 (k5 : z_H → Option Nat → Int32 → Int32 → Int32 → Option (Int32 × z_H)) (h : z_H) (l1 : Option Nat) (l2 : Int32) (l4 : Int32) : Option (Int32 × z_H) :=
  D_X3_nearestTo_44  k5 h l1 l2 l4 l4
set_option maxRecDepth 100000 in
set_option maxHeartbeats 4000000 in
theorem S_X3_nearestTo_41 {G : z_G} {l : Launch} {k5 : z_H → Option Nat → Int32 → Int32 → Int32 → Option (Int32 × z_H)} (hk5 : ∀ {h : z_H} {l1 : Option Nat} {l2 : Int32} {l3 : Int32} {l4 : Int32} {res : (Int32 × z_H)}, k5 h l1 l2 l3 l4 = some res → z_Run G l 6 M_X3_nearestTo 5 [(1, z_r l1), (2, .int l2), (3, .int l3), (4, .int l4)] [] h res.2 (some (.int res.1))) {h : z_H} {l1 : Option Nat} {l2 : Int32} {l4 : Int32} {res : (Int32 × z_H)} (e : D_X3_nearestTo_41 k5 h l1 l2 l4 = some res) : z_Run G l 6 M_X3_nearestTo 41 [(1, z_r l1), (2, .int l2), (4, .int l4)] [] h res.2 (some (.int res.1)) := by
  unfold D_X3_nearestTo_41 at e
  refine z_iload 2 dX3_nearestTo_41 rfl ?_
  refine z_istore_n (L' := [(3, .int l4), (1, z_r l1), (2, .int l2), (4, .int l4)]) dX3_nearestTo_43 rfl (by decide) rfl ?_
  exact z_weak [1, 2, 0, 3] rfl (S_X3_nearestTo_44  @hk5 e)
def D_X3_nearestTo_5b (k5 : z_H → Option Nat → Int32 → Int32 → Int32 → Option (Int32 × z_H)) (h : z_H) (l1 : Option Nat) (l2 : Int32) (l3 : Int32) (l4 : Int32) : Option (Int32 × z_H) :=
  (z_gI 9 h l1 8).bind fun x1501 =>
  if x1501 ≤ l4 then
    some (l3, h)
  else
    if l4 = l2 then
      D_X3_nearestTo_44  k5 h l1 l2 l3 l4
    else
      if l3 = (-1:Int32) then
        D_X3_nearestTo_41  k5 h l1 l2 l4
      else
        (D_X3_differ  h l1 l2 l4).bind fun p1505 =>
        (D_X3_differ  p1505.2 l1 l2 l3).bind fun p1506 =>
        if p1506.1 ≤ p1505.1 then
          D_X3_nearestTo_44  k5 p1506.2 l1 l2 l3 l4
        else
          D_X3_nearestTo_41  k5 p1506.2 l1 l2 l4
def D_X3_nearestTo_5 (n : Nat) : z_H → Option Nat → Int32 → Int32 → Int32 → Option (Int32 × z_H) := Nat.rec (motive := fun _ => z_H → Option Nat → Int32 → Int32 → Int32 → Option (Int32 × z_H)) (fun _ _ _ _ _ => none) (fun _ k => D_X3_nearestTo_5b  k) n
set_option maxRecDepth 100000 in
set_option maxHeartbeats 4000000 in
theorem S_X3_nearestTo_5 {G : z_G} {l : Launch}  (n : Nat) : ∀ {h : z_H} {l1 : Option Nat} {l2 : Int32} {l3 : Int32} {l4 : Int32} {res : (Int32 × z_H)}, D_X3_nearestTo_5  n h l1 l2 l3 l4 = some res → z_Run G l 6 M_X3_nearestTo 5 [(1, z_r l1), (2, .int l2), (3, .int l3), (4, .int l4)] [] h res.2 (some (.int res.1)) := by
  induction n with
  | zero => intro h l1 l2 l3 l4 res e; cases e
  | succ n hk5 =>
    intro h l1 l2 l3 l4 res e
    replace e : D_X3_nearestTo_5b  (D_X3_nearestTo_5  n) h l1 l2 l3 l4 = some res := e
    unfold D_X3_nearestTo_5b at e
    refine z_iload 3 dX3_nearestTo_5 rfl ?_
    refine z_aload_n 0 dX3_nearestTo_7 rfl ?_
    replace e := z_bd e; obtain ⟨x1501, ex1501, e⟩ := e
    refine z_getI ex1501 lk_X3_44 dX3_nearestTo_8 ?_
    refine z_icmp_ge (tgt := 50) dX3_nearestTo_11 (by decide) (fun c1502 => ?_) (fun c1502 => ?_)
    · rw [if_pos c1502] at e
      refine z_iload_n 2 dX3_nearestTo_50 rfl ?_
      cases e
      exact z_iret dX3_nearestTo_51 rfl
    · rw [if_neg c1502] at e
      refine z_iload 3 dX3_nearestTo_14 rfl ?_
      refine z_iload_n 1 dX3_nearestTo_16 rfl ?_
      refine z_icmp_eq (tgt := 44) dX3_nearestTo_17 (by decide) (fun c1503 => ?_) (fun c1503 => ?_)
      · rw [if_pos c1503] at e
        exact z_weak [0, 1, 2, 3] rfl (S_X3_nearestTo_44  @hk5 e)
      · rw [if_neg c1503] at e
        refine z_iload_n 2 dX3_nearestTo_20 rfl ?_
        refine z_iconst (v := -1) dX3_nearestTo_21 (by decide) ?_
        refine z_icmp_eq (tgt := 41) dX3_nearestTo_22 (by decide) (fun c1504 => ?_) (fun c1504 => ?_)
        · rw [if_pos c1504] at e
          exact z_weak [0, 1, 3] rfl (S_X3_nearestTo_41  @hk5 e)
        · rw [if_neg c1504] at e
          refine z_aload_n 0 dX3_nearestTo_25 rfl ?_
          refine z_iload_n 1 dX3_nearestTo_26 rfl ?_
          refine z_iload 3 dX3_nearestTo_27 rfl ?_
          replace e := z_bd e; obtain ⟨p1505, ep1505, e⟩ := e
          refine z_cS [z_r l1, .int l2, .int l4] (S_X3_differ  ep1505) ml_X3_47 ck_X3_differ st_X3_differ dX3_nearestTo_29 (by decide) rfl (Nat.zero_le _) rfl ?_
          refine z_aload_n 0 dX3_nearestTo_32 rfl ?_
          refine z_iload_n 1 dX3_nearestTo_33 rfl ?_
          refine z_iload_n 2 dX3_nearestTo_34 rfl ?_
          replace e := z_bd e; obtain ⟨p1506, ep1506, e⟩ := e
          refine z_cS [z_r l1, .int l2, .int l3] (S_X3_differ  ep1506) ml_X3_47 ck_X3_differ st_X3_differ dX3_nearestTo_35 (by decide) rfl (by simp [z_ci, z_cj, z_cr, z_cx]) rfl ?_
          refine z_icmp_ge (tgt := 44) dX3_nearestTo_38 (by decide) (fun c1507 => ?_) (fun c1507 => ?_)
          · rw [if_pos c1507] at e
            exact z_weak [0, 1, 2, 3] rfl (S_X3_nearestTo_44  @hk5 e)
          · rw [if_neg c1507] at e
            exact z_weak [0, 1, 3] rfl (S_X3_nearestTo_41  @hk5 e)
def D_X3_nearestTo (h : z_H) (l0 : Option Nat) (l1 : Option Nat) (l2 : Int32) : Option (Int32 × z_H) :=
  D_X3_nearestTo_5   z_F h l1 l2 (-1:Int32) (0:Int32)
set_option maxRecDepth 100000 in
set_option maxHeartbeats 4000000 in
theorem S_X3_nearestTo {G : z_G} {l : Launch} {h : z_H} {l0 : Option Nat} {l1 : Option Nat} {l2 : Int32} {res : (Int32 × z_H)} (e : D_X3_nearestTo h l0 l1 l2 = some res) : z_Meth G l 6 M_X3_nearestTo [z_r l0, z_r l1, .int l2] h res.2 (some (.int res.1)) := by
  refine z_Meth.of ck_X3_nearestTo.2.2.2.2 (by simp [lg_sl, z_ci, z_cj, z_cr, z_cx]) ck_X3_nearestTo.1 ?_
  rw [show lv_args 0 [z_r l0, z_r l1, .int l2] = [(0, z_r l0), (1, z_r l1), (2, .int l2)] from by simp [lv_args, z_ci, z_cj, z_cr, z_cx]]
  unfold D_X3_nearestTo at e
  refine z_iconst (v := -1) dX3_nearestTo_0 (by decide) ?_
  refine z_istore_n (L' := [(3, .int (-1:Int32)), (0, z_r l0), (1, z_r l1), (2, .int l2)]) dX3_nearestTo_1 rfl (by decide) rfl ?_
  refine z_iconst (v := 0) dX3_nearestTo_2 (by decide) ?_
  refine z_istore (L' := [(4, .int (0:Int32)), (3, .int (-1:Int32)), (0, z_r l0), (1, z_r l1), (2, .int l2)]) dX3_nearestTo_3 (by decide) rfl ?_
  exact z_weak [3, 4, 1, 0] rfl (S_X3_nearestTo_5   z_F e)
theorem dX10_likest_0 : decode cX10_likest 0 = .ok (.aload_n 0, 1) := by decide +kernel
theorem dX10_likest_1 : decode cX10_likest 1 = .ok (.getfield 12, 3) := by decide +kernel
theorem dX10_likest_4 : decode cX10_likest 4 = .ok (.iload_n 1, 1) := by decide +kernel
theorem dX10_likest_5 : decode cX10_likest 5 = .ok (.invokevirtual 121, 3) := by decide +kernel
theorem dX10_likest_8 : decode cX10_likest 8 = .ok (.ifCond .eq 18, 3) := by decide +kernel
theorem dX10_likest_11 : decode cX10_likest 11 = .ok (.aload_n 0, 1) := by decide +kernel
theorem dX10_likest_12 : decode cX10_likest 12 = .ok (.getfield 85, 3) := by decide +kernel
theorem dX10_likest_15 : decode cX10_likest 15 = .ok (.aload_n 0, 1) := by decide +kernel
theorem dX10_likest_16 : decode cX10_likest 16 = .ok (.getfield 12, 3) := by decide +kernel
theorem dX10_likest_19 : decode cX10_likest 19 = .ok (.iload_n 1, 1) := by decide +kernel
theorem dX10_likest_20 : decode cX10_likest 20 = .ok (.invokevirtual 265, 3) := by decide +kernel
theorem dX10_likest_23 : decode cX10_likest 23 = .ok (.goto 4, 3) := by decide +kernel
theorem dX10_likest_26 : decode cX10_likest 26 = .ok (.iconst (-1), 1) := by decide +kernel
theorem dX10_likest_27 : decode cX10_likest 27 = .ok (.ireturn, 1) := by decide +kernel
def D_X10_likest (h : z_H) (l0 : Option Nat) (l1 : Int32) : Option (Int32 × z_H) :=
  (z_gQ 10 h l0 0).bind fun x1508 =>
  (z_ob 9 h x1508).bind fun _ =>
  (D_X9_hasPair  h x1508 l1).bind fun p1509 =>
  if p1509.1 = 0 then
    some ((-1:Int32), p1509.2)
  else
    (z_gQ 10 p1509.2 l0 11).bind fun x1512 =>
    (z_gQ 10 p1509.2 l0 0).bind fun x1513 =>
    (z_ob 3 p1509.2 x1512).bind fun _ =>
    (D_X3_nearestTo  p1509.2 x1512 x1513 l1).bind fun p1514 =>
    some (p1514.1, p1514.2)
set_option maxRecDepth 100000 in
set_option maxHeartbeats 4000000 in
theorem S_X10_likest {G : z_G} {l : Launch} {h : z_H} {l0 : Option Nat} {l1 : Int32} {res : (Int32 × z_H)} (e : D_X10_likest h l0 l1 = some res) : z_Meth G l 7 M_X10_likest [z_r l0, .int l1] h res.2 (some (.int res.1)) := by
  refine z_Meth.of ck_X10_likest.2.2.2.2 (by simp [lg_sl, z_ci, z_cj, z_cr, z_cx]) ck_X10_likest.1 ?_
  rw [show lv_args 0 [z_r l0, .int l1] = [(0, z_r l0), (1, .int l1)] from by simp [lv_args, z_ci, z_cj, z_cr, z_cx]]
  unfold D_X10_likest at e
  refine z_aload_n 0 dX10_likest_0 rfl ?_
  replace e := z_bd e; obtain ⟨x1508, ex1508, e⟩ := e
  refine z_getQ ex1508 lk_X10_12 dX10_likest_1 ?_
  refine z_iload_n 1 dX10_likest_4 rfl ?_
  replace e := z_bd e; obtain ⟨o1510, eo1510, e⟩ := e
  replace e := z_bd e; obtain ⟨p1509, ep1509, e⟩ := e
  refine z_cV [.int l1] (S_X9_hasPair  ep1509) eo1510 rfl ml_X10_121 ck_X9_hasPair vk_X9_hasPair dX10_likest_5 (by decide) rfl (Nat.zero_le _) rfl ?_
  refine z_if_eq (tgt := 26) dX10_likest_8 (by decide) (fun c1511 => ?_) (fun c1511 => ?_)
  · rw [if_pos c1511] at e
    refine z_iconst (v := -1) dX10_likest_26 (by decide) ?_
    cases e
    exact z_iret dX10_likest_27 rfl
  · rw [if_neg c1511] at e
    refine z_aload_n 0 dX10_likest_11 rfl ?_
    replace e := z_bd e; obtain ⟨x1512, ex1512, e⟩ := e
    refine z_getQ ex1512 lk_X10_85 dX10_likest_12 ?_
    refine z_aload_n 0 dX10_likest_15 rfl ?_
    replace e := z_bd e; obtain ⟨x1513, ex1513, e⟩ := e
    refine z_getQ ex1513 lk_X10_12 dX10_likest_16 ?_
    refine z_iload_n 1 dX10_likest_19 rfl ?_
    replace e := z_bd e; obtain ⟨o1515, eo1515, e⟩ := e
    replace e := z_bd e; obtain ⟨p1514, ep1514, e⟩ := e
    refine z_cV [z_r x1513, .int l1] (S_X3_nearestTo  ep1514) eo1515 rfl ml_X10_265 ck_X3_nearestTo vk_X3_nearestTo dX10_likest_20 (by decide) rfl (Nat.zero_le _) rfl ?_
    refine z_goto (tgt := 27) dX10_likest_23 (by decide) ?_
    cases e
    exact z_iret dX10_likest_27 rfl
theorem dX11_differ_0 : decode cX11_differ 0 = .ok (.iconst 0, 1) := by decide +kernel
theorem dX11_differ_1 : decode cX11_differ 1 = .ok (.istore_n 3, 1) := by decide +kernel
theorem dX11_differ_2 : decode cX11_differ 2 = .ok (.iconst 0, 1) := by decide +kernel
theorem dX11_differ_3 : decode cX11_differ 3 = .ok (.istore 4, 2) := by decide +kernel
theorem dX11_differ_5 : decode cX11_differ 5 = .ok (.iload 4, 2) := by decide +kernel
theorem dX11_differ_7 : decode cX11_differ 7 = .ok (.iconst 4, 1) := by decide +kernel
theorem dX11_differ_8 : decode cX11_differ 8 = .ok (.if_icmp .ge 42, 3) := by decide +kernel
theorem dX11_differ_11 : decode cX11_differ 11 = .ok (.aload_n 0, 1) := by decide +kernel
theorem dX11_differ_12 : decode cX11_differ 12 = .ok (.iload_n 1, 1) := by decide +kernel
theorem dX11_differ_13 : decode cX11_differ 13 = .ok (.iload 4, 2) := by decide +kernel
theorem dX11_differ_15 : decode cX11_differ 15 = .ok (.invokevirtual 219, 3) := by decide +kernel
theorem dX11_differ_18 : decode cX11_differ 18 = .ok (.aload_n 0, 1) := by decide +kernel
theorem dX11_differ_19 : decode cX11_differ 19 = .ok (.iload_n 2, 1) := by decide +kernel
theorem dX11_differ_20 : decode cX11_differ 20 = .ok (.iload 4, 2) := by decide +kernel
theorem dX11_differ_22 : decode cX11_differ 22 = .ok (.invokevirtual 219, 3) := by decide +kernel
theorem dX11_differ_25 : decode cX11_differ 25 = .ok (.isub, 1) := by decide +kernel
theorem dX11_differ_26 : decode cX11_differ 26 = .ok (.istore 5, 2) := by decide +kernel
theorem dX11_differ_28 : decode cX11_differ 28 = .ok (.iload_n 3, 1) := by decide +kernel
theorem dX11_differ_29 : decode cX11_differ 29 = .ok (.iload 5, 2) := by decide +kernel
theorem dX11_differ_31 : decode cX11_differ 31 = .ok (.ifCond .ge 9, 3) := by decide +kernel
theorem dX11_differ_34 : decode cX11_differ 34 = .ok (.iload 5, 2) := by decide +kernel
theorem dX11_differ_36 : decode cX11_differ 36 = .ok (.ineg, 1) := by decide +kernel
theorem dX11_differ_37 : decode cX11_differ 37 = .ok (.goto 5, 3) := by decide +kernel
theorem dX11_differ_40 : decode cX11_differ 40 = .ok (.iload 5, 2) := by decide +kernel
theorem dX11_differ_42 : decode cX11_differ 42 = .ok (.iadd, 1) := by decide +kernel
theorem dX11_differ_43 : decode cX11_differ 43 = .ok (.istore_n 3, 1) := by decide +kernel
theorem dX11_differ_44 : decode cX11_differ 44 = .ok (.iinc 4 1, 3) := by decide +kernel
theorem dX11_differ_47 : decode cX11_differ 47 = .ok (.goto (-42), 3) := by decide +kernel
theorem dX11_differ_50 : decode cX11_differ 50 = .ok (.iload_n 3, 1) := by decide +kernel
theorem dX11_differ_51 : decode cX11_differ 51 = .ok (.ireturn, 1) := by decide +kernel
def D_X11_differ_42 (k5 : z_H → Option Nat → Int32 → Int32 → Int32 → Int32 → Option (Int32 × z_H)) (h : z_H) (l0 : Option Nat) (l1 : Int32) (l2 : Int32) (l4 : Int32) (s0 : Int32) (s1 : Int32) : Option (Int32 × z_H) :=
  (some (s0 + s1)).bind fun x1516 =>
  (some (l4 + (1:Int32))).bind fun x1517 =>
  k5 h l0 l1 l2 x1516 x1517
set_option maxRecDepth 100000 in
set_option maxHeartbeats 4000000 in
theorem S_X11_differ_42 {G : z_G} {l : Launch} {k5 : z_H → Option Nat → Int32 → Int32 → Int32 → Int32 → Option (Int32 × z_H)} (hk5 : ∀ {h : z_H} {l0 : Option Nat} {l1 : Int32} {l2 : Int32} {l3 : Int32} {l4 : Int32} {res : (Int32 × z_H)}, k5 h l0 l1 l2 l3 l4 = some res → z_Run G l 5 M_X11_differ 5 [(0, z_r l0), (1, .int l1), (2, .int l2), (3, .int l3), (4, .int l4)] [] h res.2 (some (.int res.1))) {h : z_H} {l0 : Option Nat} {l1 : Int32} {l2 : Int32} {l4 : Int32} {s0 : Int32} {s1 : Int32} {res : (Int32 × z_H)} (e : D_X11_differ_42 k5 h l0 l1 l2 l4 s0 s1 = some res) : z_Run G l 5 M_X11_differ 42 [(0, z_r l0), (1, .int l1), (2, .int l2), (4, .int l4)] [.int s1, .int s0] h res.2 (some (.int res.1)) := by
  unfold D_X11_differ_42 at e
  refine z_iadd dX11_differ_42 ?_
  replace e := z_bd e; obtain ⟨x1516, ex1516, e⟩ := e
  refine z_topI ex1516 ?_
  refine z_istore_n (L' := [(3, .int x1516), (0, z_r l0), (1, .int l1), (2, .int l2), (4, .int l4)]) dX11_differ_43 rfl (by decide) rfl ?_
  replace e := z_bd e; obtain ⟨x1517, ex1517, e⟩ := e
  refine z_iinc (q := 4) (v := x1517) (L' := [(4, .int x1517), (3, .int x1516), (0, z_r l0), (1, .int l1), (2, .int l2)]) dX11_differ_44 rfl (Option.some.inj ex1517) (by decide) rfl ?_
  refine z_goto (tgt := 5) dX11_differ_47 (by decide) ?_
  exact z_weak [2, 3, 4, 1, 0] rfl (hk5 e)
def D_X11_differ_5b (k5 : z_H → Option Nat → Int32 → Int32 → Int32 → Int32 → Option (Int32 × z_H)) (h : z_H) (l0 : Option Nat) (l1 : Int32) (l2 : Int32) (l3 : Int32) (l4 : Int32) : Option (Int32 × z_H) :=
  if (4:Int32) ≤ l4 then
    some (l3, h)
  else
    (z_ob 11 h l0).bind fun _ =>
    (D_X11_wornOf  h l0 l1 l4).bind fun p1519 =>
    (z_ob 11 p1519.2 l0).bind fun _ =>
    (D_X11_wornOf  p1519.2 l0 l2 l4).bind fun p1521 =>
    (some (p1519.1 - p1521.1)).bind fun x1523 =>
    if 0 ≤ x1523 then
      D_X11_differ_42  k5 p1521.2 l0 l1 l2 l4 l3 x1523
    else
      D_X11_differ_42  k5 p1521.2 l0 l1 l2 l4 l3 (-x1523)
def D_X11_differ_5 (n : Nat) : z_H → Option Nat → Int32 → Int32 → Int32 → Int32 → Option (Int32 × z_H) := Nat.rec (motive := fun _ => z_H → Option Nat → Int32 → Int32 → Int32 → Int32 → Option (Int32 × z_H)) (fun _ _ _ _ _ _ => none) (fun _ k => D_X11_differ_5b  k) n
set_option maxRecDepth 100000 in
set_option maxHeartbeats 4000000 in
theorem S_X11_differ_5 {G : z_G} {l : Launch}  (n : Nat) : ∀ {h : z_H} {l0 : Option Nat} {l1 : Int32} {l2 : Int32} {l3 : Int32} {l4 : Int32} {res : (Int32 × z_H)}, D_X11_differ_5  n h l0 l1 l2 l3 l4 = some res → z_Run G l 5 M_X11_differ 5 [(0, z_r l0), (1, .int l1), (2, .int l2), (3, .int l3), (4, .int l4)] [] h res.2 (some (.int res.1)) := by
  induction n with
  | zero => intro h l0 l1 l2 l3 l4 res e; cases e
  | succ n hk5 =>
    intro h l0 l1 l2 l3 l4 res e
    replace e : D_X11_differ_5b  (D_X11_differ_5  n) h l0 l1 l2 l3 l4 = some res := e
    unfold D_X11_differ_5b at e
    refine z_iload 4 dX11_differ_5 rfl ?_
    refine z_iconst (v := 4) dX11_differ_7 (by decide) ?_
    refine z_icmp_ge (tgt := 50) dX11_differ_8 (by decide) (fun c1518 => ?_) (fun c1518 => ?_)
    · rw [if_pos c1518] at e
      refine z_iload_n 3 dX11_differ_50 rfl ?_
      cases e
      exact z_iret dX11_differ_51 rfl
    · rw [if_neg c1518] at e
      refine z_aload_n 0 dX11_differ_11 rfl ?_
      refine z_iload_n 1 dX11_differ_12 rfl ?_
      refine z_iload 4 dX11_differ_13 rfl ?_
      replace e := z_bd e; obtain ⟨o1520, eo1520, e⟩ := e
      replace e := z_bd e; obtain ⟨p1519, ep1519, e⟩ := e
      refine z_cV [.int l1, .int l4] (S_X11_wornOf  ep1519) eo1520 rfl ml_X11_219 ck_X11_wornOf vk_X11_wornOf dX11_differ_15 (by decide) rfl (Nat.zero_le _) rfl ?_
      refine z_aload_n 0 dX11_differ_18 rfl ?_
      refine z_iload_n 2 dX11_differ_19 rfl ?_
      refine z_iload 4 dX11_differ_20 rfl ?_
      replace e := z_bd e; obtain ⟨o1522, eo1522, e⟩ := e
      replace e := z_bd e; obtain ⟨p1521, ep1521, e⟩ := e
      refine z_cV [.int l2, .int l4] (S_X11_wornOf  ep1521) eo1522 rfl ml_X11_219 ck_X11_wornOf vk_X11_wornOf dX11_differ_22 (by decide) rfl (by simp [z_ci, z_cj, z_cr, z_cx]) rfl ?_
      refine z_isub dX11_differ_25 ?_
      replace e := z_bd e; obtain ⟨x1523, ex1523, e⟩ := e
      refine z_topI ex1523 ?_
      refine z_istore (L' := [(5, .int x1523), (0, z_r l0), (1, .int l1), (2, .int l2), (3, .int l3), (4, .int l4)]) dX11_differ_26 (by decide) rfl ?_
      refine z_iload_n 4 dX11_differ_28 rfl ?_
      refine z_iload 0 dX11_differ_29 rfl ?_
      refine z_if_ge (tgt := 40) dX11_differ_31 (by decide) (fun c1524 => ?_) (fun c1524 => ?_)
      · rw [if_pos c1524] at e
        refine z_iload 0 dX11_differ_40 rfl ?_
        exact z_weak [1, 2, 3, 5] rfl (S_X11_differ_42  @hk5 e)
      · rw [if_neg c1524] at e
        refine z_iload 0 dX11_differ_34 rfl ?_
        refine z_ineg dX11_differ_36 ?_
        refine z_goto (tgt := 42) dX11_differ_37 (by decide) ?_
        exact z_weak [1, 2, 3, 5] rfl (S_X11_differ_42  @hk5 e)
def D_X11_differ (h : z_H) (l0 : Option Nat) (l1 : Int32) (l2 : Int32) : Option (Int32 × z_H) :=
  D_X11_differ_5   z_F h l0 l1 l2 (0:Int32) (0:Int32)
set_option maxRecDepth 100000 in
set_option maxHeartbeats 4000000 in
theorem S_X11_differ {G : z_G} {l : Launch} {h : z_H} {l0 : Option Nat} {l1 : Int32} {l2 : Int32} {res : (Int32 × z_H)} (e : D_X11_differ h l0 l1 l2 = some res) : z_Meth G l 5 M_X11_differ [z_r l0, .int l1, .int l2] h res.2 (some (.int res.1)) := by
  refine z_Meth.of ck_X11_differ.2.2.2.2 (by simp [lg_sl, z_ci, z_cj, z_cr, z_cx]) ck_X11_differ.1 ?_
  rw [show lv_args 0 [z_r l0, .int l1, .int l2] = [(0, z_r l0), (1, .int l1), (2, .int l2)] from by simp [lv_args, z_ci, z_cj, z_cr, z_cx]]
  unfold D_X11_differ at e
  refine z_iconst (v := 0) dX11_differ_0 (by decide) ?_
  refine z_istore_n (L' := [(3, .int (0:Int32)), (0, z_r l0), (1, .int l1), (2, .int l2)]) dX11_differ_1 rfl (by decide) rfl ?_
  refine z_iconst (v := 0) dX11_differ_2 (by decide) ?_
  refine z_istore (L' := [(4, .int (0:Int32)), (3, .int (0:Int32)), (0, z_r l0), (1, .int l1), (2, .int l2)]) dX11_differ_3 (by decide) rfl ?_
  exact z_weak [2, 3, 4, 1, 0] rfl (S_X11_differ_5   z_F e)
theorem dX11_likest_0 : decode cX11_likest 0 = .ok (.aload_n 0, 1) := by decide +kernel
theorem dX11_likest_1 : decode cX11_likest 1 = .ok (.iconst 0, 1) := by decide +kernel
theorem dX11_likest_2 : decode cX11_likest 2 = .ok (.putfield 166, 3) := by decide +kernel
theorem dX11_likest_5 : decode cX11_likest 5 = .ok (.aload_n 0, 1) := by decide +kernel
theorem dX11_likest_6 : decode cX11_likest 6 = .ok (.iload_n 1, 1) := by decide +kernel
theorem dX11_likest_7 : decode cX11_likest 7 = .ok (.invokevirtual 211, 3) := by decide +kernel
theorem dX11_likest_10 : decode cX11_likest 10 = .ok (.ifCond .ne 5, 3) := by decide +kernel
theorem dX11_likest_13 : decode cX11_likest 13 = .ok (.iconst (-1), 1) := by decide +kernel
theorem dX11_likest_14 : decode cX11_likest 14 = .ok (.ireturn, 1) := by decide +kernel
theorem dX11_likest_15 : decode cX11_likest 15 = .ok (.ldc_w 489, 3) := by decide +kernel
theorem dX11_likest_18 : decode cX11_likest 18 = .ok (.istore_n 2, 1) := by decide +kernel
theorem dX11_likest_19 : decode cX11_likest 19 = .ok (.iconst (-1), 1) := by decide +kernel
theorem dX11_likest_20 : decode cX11_likest 20 = .ok (.istore_n 3, 1) := by decide +kernel
theorem dX11_likest_21 : decode cX11_likest 21 = .ok (.iconst 0, 1) := by decide +kernel
theorem dX11_likest_22 : decode cX11_likest 22 = .ok (.istore 4, 2) := by decide +kernel
theorem dX11_likest_24 : decode cX11_likest 24 = .ok (.iload 4, 2) := by decide +kernel
theorem dX11_likest_26 : decode cX11_likest 26 = .ok (.aload_n 0, 1) := by decide +kernel
theorem dX11_likest_27 : decode cX11_likest 27 = .ok (.getfield 13, 3) := by decide +kernel
theorem dX11_likest_30 : decode cX11_likest 30 = .ok (.iconst 0, 1) := by decide +kernel
theorem dX11_likest_31 : decode cX11_likest 31 = .ok (.iaload, 1) := by decide +kernel
theorem dX11_likest_32 : decode cX11_likest 32 = .ok (.if_icmp .ge 56, 3) := by decide +kernel
theorem dX11_likest_35 : decode cX11_likest 35 = .ok (.iload 4, 2) := by decide +kernel
theorem dX11_likest_37 : decode cX11_likest 37 = .ok (.iload_n 1, 1) := by decide +kernel
theorem dX11_likest_38 : decode cX11_likest 38 = .ok (.if_icmp .ne 9, 3) := by decide +kernel
theorem dX11_likest_41 : decode cX11_likest 41 = .ok (.ldc_w 489, 3) := by decide +kernel
theorem dX11_likest_44 : decode cX11_likest 44 = .ok (.goto 10, 3) := by decide +kernel
theorem dX11_likest_47 : decode cX11_likest 47 = .ok (.aload_n 0, 1) := by decide +kernel
theorem dX11_likest_48 : decode cX11_likest 48 = .ok (.iload_n 1, 1) := by decide +kernel
theorem dX11_likest_49 : decode cX11_likest 49 = .ok (.iload 4, 2) := by decide +kernel
theorem dX11_likest_51 : decode cX11_likest 51 = .ok (.invokevirtual 508, 3) := by decide +kernel
theorem dX11_likest_54 : decode cX11_likest 54 = .ok (.istore 5, 2) := by decide +kernel
theorem dX11_likest_56 : decode cX11_likest 56 = .ok (.iload 5, 2) := by decide +kernel
theorem dX11_likest_58 : decode cX11_likest 58 = .ok (.iload_n 2, 1) := by decide +kernel
theorem dX11_likest_59 : decode cX11_likest 59 = .ok (.if_icmp .ge 8, 3) := by decide +kernel
theorem dX11_likest_62 : decode cX11_likest 62 = .ok (.iload 4, 2) := by decide +kernel
theorem dX11_likest_64 : decode cX11_likest 64 = .ok (.goto 4, 3) := by decide +kernel
theorem dX11_likest_67 : decode cX11_likest 67 = .ok (.iload_n 3, 1) := by decide +kernel
theorem dX11_likest_68 : decode cX11_likest 68 = .ok (.istore_n 3, 1) := by decide +kernel
theorem dX11_likest_69 : decode cX11_likest 69 = .ok (.iload 5, 2) := by decide +kernel
theorem dX11_likest_71 : decode cX11_likest 71 = .ok (.iload_n 2, 1) := by decide +kernel
theorem dX11_likest_72 : decode cX11_likest 72 = .ok (.if_icmp .ge 8, 3) := by decide +kernel
theorem dX11_likest_75 : decode cX11_likest 75 = .ok (.iload 5, 2) := by decide +kernel
theorem dX11_likest_77 : decode cX11_likest 77 = .ok (.goto 4, 3) := by decide +kernel
theorem dX11_likest_80 : decode cX11_likest 80 = .ok (.iload_n 2, 1) := by decide +kernel
theorem dX11_likest_81 : decode cX11_likest 81 = .ok (.istore_n 2, 1) := by decide +kernel
theorem dX11_likest_82 : decode cX11_likest 82 = .ok (.iinc 4 1, 3) := by decide +kernel
theorem dX11_likest_85 : decode cX11_likest 85 = .ok (.goto (-61), 3) := by decide +kernel
theorem dX11_likest_88 : decode cX11_likest 88 = .ok (.iload_n 3, 1) := by decide +kernel
theorem dX11_likest_89 : decode cX11_likest 89 = .ok (.ireturn, 1) := by decide +kernel
def D_X11_likest_81 (k24 : z_H → Option Nat → Int32 → Int32 → Int32 → Int32 → Option (Int32 × z_H)) (h : z_H) (l0 : Option Nat) (l1 : Int32) (l3 : Int32) (l4 : Int32) (s0 : Int32) : Option (Int32 × z_H) :=
  (some (l4 + (1:Int32))).bind fun x1525 =>
  k24 h l0 l1 s0 l3 x1525
set_option maxRecDepth 100000 in
set_option maxHeartbeats 4000000 in
theorem S_X11_likest_81 {G : z_G} {l : Launch} {k24 : z_H → Option Nat → Int32 → Int32 → Int32 → Int32 → Option (Int32 × z_H)} (hk24 : ∀ {h : z_H} {l0 : Option Nat} {l1 : Int32} {l2 : Int32} {l3 : Int32} {l4 : Int32} {res : (Int32 × z_H)}, k24 h l0 l1 l2 l3 l4 = some res → z_Run G l 6 M_X11_likest 24 [(0, z_r l0), (1, .int l1), (2, .int l2), (3, .int l3), (4, .int l4)] [] h res.2 (some (.int res.1))) {h : z_H} {l0 : Option Nat} {l1 : Int32} {l3 : Int32} {l4 : Int32} {s0 : Int32} {res : (Int32 × z_H)} (e : D_X11_likest_81 k24 h l0 l1 l3 l4 s0 = some res) : z_Run G l 6 M_X11_likest 81 [(0, z_r l0), (1, .int l1), (3, .int l3), (4, .int l4)] [.int s0] h res.2 (some (.int res.1)) := by
  unfold D_X11_likest_81 at e
  refine z_istore_n (L' := [(2, .int s0), (0, z_r l0), (1, .int l1), (3, .int l3), (4, .int l4)]) dX11_likest_81 rfl (by decide) rfl ?_
  replace e := z_bd e; obtain ⟨x1525, ex1525, e⟩ := e
  refine z_iinc (q := 4) (v := x1525) (L' := [(4, .int x1525), (2, .int s0), (0, z_r l0), (1, .int l1), (3, .int l3)]) dX11_likest_82 rfl (Option.some.inj ex1525) (by decide) rfl ?_
  refine z_goto (tgt := 24) dX11_likest_85 (by decide) ?_
  exact z_weak [2, 3, 1, 4, 0] rfl (hk24 e)
def D_X11_likest_68 (k24 : z_H → Option Nat → Int32 → Int32 → Int32 → Int32 → Option (Int32 × z_H)) (h : z_H) (l0 : Option Nat) (l1 : Int32) (l2 : Int32) (l4 : Int32) (l5 : Int32) (s0 : Int32) : Option (Int32 × z_H) :=
  if l2 ≤ l5 then
    D_X11_likest_81  k24 h l0 l1 s0 l4 l2
  else
    D_X11_likest_81  k24 h l0 l1 s0 l4 l5
set_option maxRecDepth 100000 in
set_option maxHeartbeats 4000000 in
theorem S_X11_likest_68 {G : z_G} {l : Launch} {k24 : z_H → Option Nat → Int32 → Int32 → Int32 → Int32 → Option (Int32 × z_H)} (hk24 : ∀ {h : z_H} {l0 : Option Nat} {l1 : Int32} {l2 : Int32} {l3 : Int32} {l4 : Int32} {res : (Int32 × z_H)}, k24 h l0 l1 l2 l3 l4 = some res → z_Run G l 6 M_X11_likest 24 [(0, z_r l0), (1, .int l1), (2, .int l2), (3, .int l3), (4, .int l4)] [] h res.2 (some (.int res.1))) {h : z_H} {l0 : Option Nat} {l1 : Int32} {l2 : Int32} {l4 : Int32} {l5 : Int32} {s0 : Int32} {res : (Int32 × z_H)} (e : D_X11_likest_68 k24 h l0 l1 l2 l4 l5 s0 = some res) : z_Run G l 6 M_X11_likest 68 [(0, z_r l0), (1, .int l1), (2, .int l2), (4, .int l4), (5, .int l5)] [.int s0] h res.2 (some (.int res.1)) := by
  unfold D_X11_likest_68 at e
  refine z_istore_n (L' := [(3, .int s0), (0, z_r l0), (1, .int l1), (2, .int l2), (4, .int l4), (5, .int l5)]) dX11_likest_68 rfl (by decide) rfl ?_
  refine z_iload 5 dX11_likest_69 rfl ?_
  refine z_iload_n 3 dX11_likest_71 rfl ?_
  refine z_icmp_ge (tgt := 80) dX11_likest_72 (by decide) (fun c1526 => ?_) (fun c1526 => ?_)
  · rw [if_pos c1526] at e
    refine z_iload_n 3 dX11_likest_80 rfl ?_
    exact z_weak [1, 2, 0, 4] rfl (S_X11_likest_81  @hk24 e)
  · rw [if_neg c1526] at e
    refine z_iload 5 dX11_likest_75 rfl ?_
    refine z_goto (tgt := 81) dX11_likest_77 (by decide) ?_
    exact z_weak [1, 2, 0, 4] rfl (S_X11_likest_81  @hk24 e)
def D_X11_likest_54 (k24 : z_H → Option Nat → Int32 → Int32 → Int32 → Int32 → Option (Int32 × z_H)) (h : z_H) (l0 : Option Nat) (l1 : Int32) (l2 : Int32) (l3 : Int32) (l4 : Int32) (s0 : Int32) : Option (Int32 × z_H) :=
  if l2 ≤ s0 then
    D_X11_likest_68  k24 h l0 l1 l2 l4 s0 l3
  else
    D_X11_likest_68  k24 h l0 l1 l2 l4 s0 l4
set_option maxRecDepth 100000 in
set_option maxHeartbeats 4000000 in
theorem S_X11_likest_54 {G : z_G} {l : Launch} {k24 : z_H → Option Nat → Int32 → Int32 → Int32 → Int32 → Option (Int32 × z_H)} (hk24 : ∀ {h : z_H} {l0 : Option Nat} {l1 : Int32} {l2 : Int32} {l3 : Int32} {l4 : Int32} {res : (Int32 × z_H)}, k24 h l0 l1 l2 l3 l4 = some res → z_Run G l 6 M_X11_likest 24 [(0, z_r l0), (1, .int l1), (2, .int l2), (3, .int l3), (4, .int l4)] [] h res.2 (some (.int res.1))) {h : z_H} {l0 : Option Nat} {l1 : Int32} {l2 : Int32} {l3 : Int32} {l4 : Int32} {s0 : Int32} {res : (Int32 × z_H)} (e : D_X11_likest_54 k24 h l0 l1 l2 l3 l4 s0 = some res) : z_Run G l 6 M_X11_likest 54 [(0, z_r l0), (1, .int l1), (2, .int l2), (3, .int l3), (4, .int l4)] [.int s0] h res.2 (some (.int res.1)) := by
  unfold D_X11_likest_54 at e
  refine z_istore (L' := [(5, .int s0), (0, z_r l0), (1, .int l1), (2, .int l2), (3, .int l3), (4, .int l4)]) dX11_likest_54 (by decide) rfl ?_
  refine z_iload 0 dX11_likest_56 rfl ?_
  refine z_iload_n 3 dX11_likest_58 rfl ?_
  refine z_icmp_ge (tgt := 67) dX11_likest_59 (by decide) (fun c1527 => ?_) (fun c1527 => ?_)
  · rw [if_pos c1527] at e
    refine z_iload_n 4 dX11_likest_67 rfl ?_
    exact z_weak [1, 2, 3, 5, 0] rfl (S_X11_likest_68  @hk24 e)
  · rw [if_neg c1527] at e
    refine z_iload 5 dX11_likest_62 rfl ?_
    refine z_goto (tgt := 68) dX11_likest_64 (by decide) ?_
    exact z_weak [1, 2, 3, 5, 0] rfl (S_X11_likest_68  @hk24 e)
def D_X11_likest_24b (k24 : z_H → Option Nat → Int32 → Int32 → Int32 → Int32 → Option (Int32 × z_H)) (h : z_H) (l0 : Option Nat) (l1 : Int32) (l2 : Int32) (l3 : Int32) (l4 : Int32) : Option (Int32 × z_H) :=
  (z_gQ 11 h l0 3).bind fun x1528 =>
  (z_aI .int h x1528 (0:Int32)).bind fun x1529 =>
  if x1529 ≤ l4 then
    some (l3, h)
  else
    if l4 = l1 then
      D_X11_likest_54  k24 h l0 l1 l2 l3 l4 (100000000:Int32)
    else
      (z_ob 11 h l0).bind fun _ =>
      (D_X11_differ  h l0 l1 l4).bind fun p1532 =>
      D_X11_likest_54  k24 p1532.2 l0 l1 l2 l3 l4 p1532.1
def D_X11_likest_24 (n : Nat) : z_H → Option Nat → Int32 → Int32 → Int32 → Int32 → Option (Int32 × z_H) := Nat.rec (motive := fun _ => z_H → Option Nat → Int32 → Int32 → Int32 → Int32 → Option (Int32 × z_H)) (fun _ _ _ _ _ _ => none) (fun _ k => D_X11_likest_24b  k) n
set_option maxRecDepth 100000 in
set_option maxHeartbeats 4000000 in
theorem S_X11_likest_24 {G : z_G} {l : Launch}  (n : Nat) : ∀ {h : z_H} {l0 : Option Nat} {l1 : Int32} {l2 : Int32} {l3 : Int32} {l4 : Int32} {res : (Int32 × z_H)}, D_X11_likest_24  n h l0 l1 l2 l3 l4 = some res → z_Run G l 6 M_X11_likest 24 [(0, z_r l0), (1, .int l1), (2, .int l2), (3, .int l3), (4, .int l4)] [] h res.2 (some (.int res.1)) := by
  induction n with
  | zero => intro h l0 l1 l2 l3 l4 res e; cases e
  | succ n hk24 =>
    intro h l0 l1 l2 l3 l4 res e
    replace e : D_X11_likest_24b  (D_X11_likest_24  n) h l0 l1 l2 l3 l4 = some res := e
    unfold D_X11_likest_24b at e
    refine z_iload 4 dX11_likest_24 rfl ?_
    refine z_aload_n 0 dX11_likest_26 rfl ?_
    replace e := z_bd e; obtain ⟨x1528, ex1528, e⟩ := e
    refine z_getQ ex1528 lk_X11_13 dX11_likest_27 ?_
    refine z_iconst (v := 0) dX11_likest_30 (by decide) ?_
    replace e := z_bd e; obtain ⟨x1529, ex1529, e⟩ := e
    refine z_iald ex1529 dX11_likest_31 ?_
    refine z_icmp_ge (tgt := 88) dX11_likest_32 (by decide) (fun c1530 => ?_) (fun c1530 => ?_)
    · rw [if_pos c1530] at e
      refine z_iload_n 3 dX11_likest_88 rfl ?_
      cases e
      exact z_iret dX11_likest_89 rfl
    · rw [if_neg c1530] at e
      refine z_iload 4 dX11_likest_35 rfl ?_
      refine z_iload_n 1 dX11_likest_37 rfl ?_
      refine z_icmp_ne (tgt := 47) dX11_likest_38 (by decide) (fun c1531 => ?_) (fun c1531 => ?_)
      · rw [if_neg c1531] at e
        refine z_aload_n 0 dX11_likest_47 rfl ?_
        refine z_iload_n 1 dX11_likest_48 rfl ?_
        refine z_iload 4 dX11_likest_49 rfl ?_
        replace e := z_bd e; obtain ⟨o1533, eo1533, e⟩ := e
        replace e := z_bd e; obtain ⟨p1532, ep1532, e⟩ := e
        refine z_cV [.int l1, .int l4] (S_X11_differ  ep1532) eo1533 rfl ml_X11_508 ck_X11_differ vk_X11_differ dX11_likest_51 (by decide) rfl (Nat.zero_le _) rfl ?_
        exact z_weak [0, 1, 2, 3, 4] rfl (S_X11_likest_54  @hk24 e)
      · rw [if_pos c1531] at e
        refine z_ldcw dX11_likest_41 kc_X11_489 ?_
        refine z_goto (tgt := 54) dX11_likest_44 (by decide) ?_
        exact z_weak [0, 1, 2, 3, 4] rfl (S_X11_likest_54  @hk24 e)
def D_X11_likest (h : z_H) (l0 : Option Nat) (l1 : Int32) : Option (Int32 × z_H) :=
  (z_pV 11 h l0 0 (.int (0:Int32))).bind fun h1534 =>
  (z_ob 11 h1534 l0).bind fun _ =>
  (D_X11_isPair  h1534 l0 l1).bind fun p1535 =>
  if p1535.1 = 0 then
    some ((-1:Int32), p1535.2)
  else
    D_X11_likest_24   z_F p1535.2 l0 l1 (100000000:Int32) (-1:Int32) (0:Int32)
set_option maxRecDepth 100000 in
set_option maxHeartbeats 4000000 in
theorem S_X11_likest {G : z_G} {l : Launch} {h : z_H} {l0 : Option Nat} {l1 : Int32} {res : (Int32 × z_H)} (e : D_X11_likest h l0 l1 = some res) : z_Meth G l 6 M_X11_likest [z_r l0, .int l1] h res.2 (some (.int res.1)) := by
  refine z_Meth.of ck_X11_likest.2.2.2.2 (by simp [lg_sl, z_ci, z_cj, z_cr, z_cx]) ck_X11_likest.1 ?_
  rw [show lv_args 0 [z_r l0, .int l1] = [(0, z_r l0), (1, .int l1)] from by simp [lv_args, z_ci, z_cj, z_cr, z_cx]]
  unfold D_X11_likest at e
  refine z_aload_n 0 dX11_likest_0 rfl ?_
  refine z_iconst (v := 0) dX11_likest_1 (by decide) ?_
  replace e := z_bd e; obtain ⟨h1534, eh1534, e⟩ := e
  refine z_putV eh1534 lk_X11_166 wk_11_0 (fun _ => rfl) (fun _ => rfl) dX11_likest_2 ?_
  refine z_aload_n 0 dX11_likest_5 rfl ?_
  refine z_iload_n 1 dX11_likest_6 rfl ?_
  replace e := z_bd e; obtain ⟨o1536, eo1536, e⟩ := e
  replace e := z_bd e; obtain ⟨p1535, ep1535, e⟩ := e
  refine z_cV [.int l1] (S_X11_isPair  ep1535) eo1536 rfl ml_X11_211 ck_X11_isPair vk_X11_isPair dX11_likest_7 (by decide) rfl (Nat.zero_le _) rfl ?_
  refine z_if_ne (tgt := 15) dX11_likest_10 (by decide) (fun c1537 => ?_) (fun c1537 => ?_)
  · rw [if_neg c1537] at e
    refine z_ldcw dX11_likest_15 kc_X11_489 ?_
    refine z_istore_n (L' := [(2, .int (100000000:Int32)), (0, z_r l0), (1, .int l1)]) dX11_likest_18 rfl (by decide) rfl ?_
    refine z_iconst (v := -1) dX11_likest_19 (by decide) ?_
    refine z_istore_n (L' := [(3, .int (-1:Int32)), (2, .int (100000000:Int32)), (0, z_r l0), (1, .int l1)]) dX11_likest_20 rfl (by decide) rfl ?_
    refine z_iconst (v := 0) dX11_likest_21 (by decide) ?_
    refine z_istore (L' := [(4, .int (0:Int32)), (3, .int (-1:Int32)), (2, .int (100000000:Int32)), (0, z_r l0), (1, .int l1)]) dX11_likest_22 (by decide) rfl ?_
    exact z_weak [3, 4, 2, 1, 0] rfl (S_X11_likest_24   z_F e)
  · rw [if_pos c1537] at e
    refine z_iconst (v := -1) dX11_likest_13 (by decide) ?_
    cases e
    exact z_iret dX11_likest_14 rfl
theorem dJ7_fill_53178_0 : decode cJ7_fill_53178 0 = .ok (.iconst 0, 1) := by decide +kernel
theorem dJ7_fill_53178_1 : decode cJ7_fill_53178 1 = .ok (.istore_n 2, 1) := by decide +kernel
theorem dJ7_fill_53178_2 : decode cJ7_fill_53178 2 = .ok (.aload_n 0, 1) := by decide +kernel
theorem dJ7_fill_53178_3 : decode cJ7_fill_53178 3 = .ok (.arraylength, 1) := by decide +kernel
theorem dJ7_fill_53178_4 : decode cJ7_fill_53178 4 = .ok (.istore_n 3, 1) := by decide +kernel
theorem dJ7_fill_53178_5 : decode cJ7_fill_53178 5 = .ok (.iload_n 2, 1) := by decide +kernel
theorem dJ7_fill_53178_6 : decode cJ7_fill_53178 6 = .ok (.iload_n 3, 1) := by decide +kernel
theorem dJ7_fill_53178_7 : decode cJ7_fill_53178 7 = .ok (.if_icmp .ge 13, 3) := by decide +kernel
theorem dJ7_fill_53178_10 : decode cJ7_fill_53178 10 = .ok (.aload_n 0, 1) := by decide +kernel
theorem dJ7_fill_53178_11 : decode cJ7_fill_53178 11 = .ok (.iload_n 2, 1) := by decide +kernel
theorem dJ7_fill_53178_12 : decode cJ7_fill_53178 12 = .ok (.iload_n 1, 1) := by decide +kernel
theorem dJ7_fill_53178_13 : decode cJ7_fill_53178 13 = .ok (.iastore, 1) := by decide +kernel
theorem dJ7_fill_53178_14 : decode cJ7_fill_53178 14 = .ok (.iinc 2 1, 3) := by decide +kernel
theorem dJ7_fill_53178_17 : decode cJ7_fill_53178 17 = .ok (.goto (-12), 3) := by decide +kernel
theorem dJ7_fill_53178_20 : decode cJ7_fill_53178 20 = .ok (.return_, 1) := by decide +kernel
def D_J7_fill_53178_5b (k5 : z_H → Option Nat → Int32 → Int32 → Int32 → Option z_H) (h : z_H) (l0 : Option Nat) (l1 : Int32) (l2 : Int32) (l3 : Int32) : Option z_H :=
  if l3 ≤ l2 then
    some h
  else
    (z_sI h l0 l2 l1).bind fun h1539 =>
    (some (l2 + (1:Int32))).bind fun x1540 =>
    k5 h1539 l0 l1 x1540 l3
def D_J7_fill_53178_5 (n : Nat) : z_H → Option Nat → Int32 → Int32 → Int32 → Option z_H := Nat.rec (motive := fun _ => z_H → Option Nat → Int32 → Int32 → Int32 → Option z_H) (fun _ _ _ _ _ => none) (fun _ k => D_J7_fill_53178_5b  k) n
set_option maxRecDepth 100000 in
set_option maxHeartbeats 4000000 in
theorem S_J7_fill_53178_5 {G : z_G} {l : Launch}  (n : Nat) : ∀ {h : z_H} {l0 : Option Nat} {l1 : Int32} {l2 : Int32} {l3 : Int32} {res : z_H}, D_J7_fill_53178_5  n h l0 l1 l2 l3 = some res → z_Run G l 4 M_J7_fill_53178 5 [(0, z_r l0), (1, .int l1), (2, .int l2), (3, .int l3)] [] h res none := by
  induction n with
  | zero => intro h l0 l1 l2 l3 res e; cases e
  | succ n hk5 =>
    intro h l0 l1 l2 l3 res e
    replace e : D_J7_fill_53178_5b  (D_J7_fill_53178_5  n) h l0 l1 l2 l3 = some res := e
    unfold D_J7_fill_53178_5b at e
    refine z_iload_n 2 dJ7_fill_53178_5 rfl ?_
    refine z_iload_n 3 dJ7_fill_53178_6 rfl ?_
    refine z_icmp_ge (tgt := 20) dJ7_fill_53178_7 (by decide) (fun c1538 => ?_) (fun c1538 => ?_)
    · rw [if_pos c1538] at e
      cases e
      exact z_vret dJ7_fill_53178_20 rfl
    · rw [if_neg c1538] at e
      refine z_aload_n 0 dJ7_fill_53178_10 rfl ?_
      refine z_iload_n 2 dJ7_fill_53178_11 rfl ?_
      refine z_iload_n 1 dJ7_fill_53178_12 rfl ?_
      replace e := z_bd e; obtain ⟨h1539, eh1539, e⟩ := e
      refine z_iast eh1539 dJ7_fill_53178_13 ?_
      replace e := z_bd e; obtain ⟨x1540, ex1540, e⟩ := e
      refine z_iinc (q := 2) (v := x1540) (L' := [(2, .int x1540), (0, z_r l0), (1, .int l1), (3, .int l3)]) dJ7_fill_53178_14 rfl (Option.some.inj ex1540) (by decide) rfl ?_
      refine z_goto (tgt := 5) dJ7_fill_53178_17 (by decide) ?_
      exact z_weak [1, 2, 0, 3] rfl (hk5 e)
def D_J7_fill_53178 (h : z_H) (l0 : Option Nat) (l1 : Int32) : Option z_H :=
  (z_lI h l0).bind fun x1541 =>
  D_J7_fill_53178_5   z_F h l0 l1 (0:Int32) x1541
set_option maxRecDepth 100000 in
set_option maxHeartbeats 4000000 in
theorem S_J7_fill_53178 {G : z_G} {l : Launch} {h : z_H} {l0 : Option Nat} {l1 : Int32} {res : z_H} (e : D_J7_fill_53178 h l0 l1 = some res) : z_Meth G l 4 M_J7_fill_53178 [z_r l0, .int l1] h res none := by
  refine z_Meth.of ck_J7_fill_53178.2.2.2.2 (by simp [lg_sl, z_ci, z_cj, z_cr, z_cx]) ck_J7_fill_53178.1 ?_
  rw [show lv_args 0 [z_r l0, .int l1] = [(0, z_r l0), (1, .int l1)] from by simp [lv_args, z_ci, z_cj, z_cr, z_cx]]
  unfold D_J7_fill_53178 at e
  refine z_iconst (v := 0) dJ7_fill_53178_0 (by decide) ?_
  refine z_istore_n (L' := [(2, .int (0:Int32)), (0, z_r l0), (1, .int l1)]) dJ7_fill_53178_1 rfl (by decide) rfl ?_
  refine z_aload_n 1 dJ7_fill_53178_2 rfl ?_
  replace e := z_bd e; obtain ⟨x1541, ex1541, e⟩ := e
  refine z_alenI ex1541 dJ7_fill_53178_3 ?_
  refine z_istore_n (L' := [(3, .int x1541), (2, .int (0:Int32)), (0, z_r l0), (1, .int l1)]) dJ7_fill_53178_4 rfl (by decide) rfl ?_
  exact z_weak [2, 3, 1, 0] rfl (S_J7_fill_53178_5   z_F e)
theorem dX3_keepIfLess_0 : decode cX3_keepIfLess 0 = .ok (.aload_n 0, 1) := by decide +kernel
theorem dX3_keepIfLess_1 : decode cX3_keepIfLess 1 = .ok (.getfield 22, 3) := by decide +kernel
theorem dX3_keepIfLess_4 : decode cX3_keepIfLess 4 = .ok (.ifCond .eq 11, 3) := by decide +kernel
theorem dX3_keepIfLess_7 : decode cX3_keepIfLess 7 = .ok (.iload_n 1, 1) := by decide +kernel
theorem dX3_keepIfLess_8 : decode cX3_keepIfLess 8 = .ok (.aload_n 0, 1) := by decide +kernel
theorem dX3_keepIfLess_9 : decode cX3_keepIfLess 9 = .ok (.getfield 18, 3) := by decide +kernel
theorem dX3_keepIfLess_12 : decode cX3_keepIfLess 12 = .ok (.if_icmp .ge 28, 3) := by decide +kernel
theorem dX3_keepIfLess_15 : decode cX3_keepIfLess 15 = .ok (.aload_n 0, 1) := by decide +kernel
theorem dX3_keepIfLess_16 : decode cX3_keepIfLess 16 = .ok (.iconst 1, 1) := by decide +kernel
theorem dX3_keepIfLess_17 : decode cX3_keepIfLess 17 = .ok (.putfield 22, 3) := by decide +kernel
theorem dX3_keepIfLess_20 : decode cX3_keepIfLess 20 = .ok (.aload_n 0, 1) := by decide +kernel
theorem dX3_keepIfLess_21 : decode cX3_keepIfLess 21 = .ok (.iload_n 1, 1) := by decide +kernel
theorem dX3_keepIfLess_22 : decode cX3_keepIfLess 22 = .ok (.putfield 18, 3) := by decide +kernel
theorem dX3_keepIfLess_25 : decode cX3_keepIfLess 25 = .ok (.aload_n 0, 1) := by decide +kernel
theorem dX3_keepIfLess_26 : decode cX3_keepIfLess 26 = .ok (.getfield 9, 3) := by decide +kernel
theorem dX3_keepIfLess_29 : decode cX3_keepIfLess 29 = .ok (.iconst 0, 1) := by decide +kernel
theorem dX3_keepIfLess_30 : decode cX3_keepIfLess 30 = .ok (.aload_n 0, 1) := by decide +kernel
theorem dX3_keepIfLess_31 : decode cX3_keepIfLess 31 = .ok (.getfield 15, 3) := by decide +kernel
theorem dX3_keepIfLess_34 : decode cX3_keepIfLess 34 = .ok (.iconst 0, 1) := by decide +kernel
theorem dX3_keepIfLess_35 : decode cX3_keepIfLess 35 = .ok (.bipush 6, 2) := by decide +kernel
theorem dX3_keepIfLess_37 : decode cX3_keepIfLess 37 = .ok (.invokestatic 65, 3) := by decide +kernel
theorem dX3_keepIfLess_40 : decode cX3_keepIfLess 40 = .ok (.return_, 1) := by decide +kernel
def D_X3_keepIfLess_15 (h : z_H) (l0 : Option Nat) (l1 : Int32) : Option z_H :=
  (z_pV 3 h l0 3 (.int (1:Int32))).bind fun h1542 =>
  (z_pV 3 h1542 l0 2 (.int l1)).bind fun h1543 =>
  (z_gQ 3 h1543 l0 0).bind fun x1544 =>
  (z_gQ 3 h1543 l0 1).bind fun x1545 =>
  (z_cI h1543 x1544 (0:Int32) x1545 (0:Int32) (6:Int32)).bind fun h1546 =>
  some h1546
set_option maxRecDepth 100000 in
set_option maxHeartbeats 4000000 in
theorem S_X3_keepIfLess_15 {G : z_G} {l : Launch}  {h : z_H} {l0 : Option Nat} {l1 : Int32} {res : z_H} (e : D_X3_keepIfLess_15  h l0 l1 = some res) : z_Run G l 4 M_X3_keepIfLess 15 [(0, z_r l0), (1, .int l1)] [] h res none := by
  unfold D_X3_keepIfLess_15 at e
  refine z_aload_n 0 dX3_keepIfLess_15 rfl ?_
  refine z_iconst (v := 1) dX3_keepIfLess_16 (by decide) ?_
  replace e := z_bd e; obtain ⟨h1542, eh1542, e⟩ := e
  refine z_putV eh1542 lk_X3_22 wk_3_3 (fun _ => (z_nz (Or.inr rfl)).1) (fun _ => (z_nz (Or.inr rfl)).2) dX3_keepIfLess_17 ?_
  refine z_aload_n 0 dX3_keepIfLess_20 rfl ?_
  refine z_iload_n 1 dX3_keepIfLess_21 rfl ?_
  replace e := z_bd e; obtain ⟨h1543, eh1543, e⟩ := e
  refine z_putV eh1543 lk_X3_18 wk_3_2 (fun _ => rfl) (fun _ => rfl) dX3_keepIfLess_22 ?_
  refine z_aload_n 0 dX3_keepIfLess_25 rfl ?_
  replace e := z_bd e; obtain ⟨x1544, ex1544, e⟩ := e
  refine z_getQ ex1544 lk_X3_9 dX3_keepIfLess_26 ?_
  refine z_iconst (v := 0) dX3_keepIfLess_29 (by decide) ?_
  refine z_aload_n 0 dX3_keepIfLess_30 rfl ?_
  replace e := z_bd e; obtain ⟨x1545, ex1545, e⟩ := e
  refine z_getQ ex1545 lk_X3_15 dX3_keepIfLess_31 ?_
  refine z_iconst (v := 0) dX3_keepIfLess_34 (by decide) ?_
  refine z_bipush (v := 6) dX3_keepIfLess_35 (by decide) ?_
  replace e := z_bd e; obtain ⟨h1546, eh1546, e⟩ := e
  refine z_cpyI eh1546 ml_X3_65 z_acok (by decide) (Nat.zero_le _) dX3_keepIfLess_37 ?_
  cases e
  exact z_vret dX3_keepIfLess_40 rfl
def D_X3_keepIfLess (h : z_H) (l0 : Option Nat) (l1 : Int32) : Option z_H :=
  (z_gI 3 h l0 3).bind fun x1547 =>
  if x1547 = 0 then
    D_X3_keepIfLess_15   h l0 l1
  else
    (z_gI 3 h l0 2).bind fun x1549 =>
    if x1549 ≤ l1 then
      some h
    else
      D_X3_keepIfLess_15   h l0 l1
set_option maxRecDepth 100000 in
set_option maxHeartbeats 4000000 in
theorem S_X3_keepIfLess {G : z_G} {l : Launch} {h : z_H} {l0 : Option Nat} {l1 : Int32} {res : z_H} (e : D_X3_keepIfLess h l0 l1 = some res) : z_Meth G l 4 M_X3_keepIfLess [z_r l0, .int l1] h res none := by
  refine z_Meth.of ck_X3_keepIfLess.2.2.2.2 (by simp [lg_sl, z_ci, z_cj, z_cr, z_cx]) ck_X3_keepIfLess.1 ?_
  rw [show lv_args 0 [z_r l0, .int l1] = [(0, z_r l0), (1, .int l1)] from by simp [lv_args, z_ci, z_cj, z_cr, z_cx]]
  unfold D_X3_keepIfLess at e
  refine z_aload_n 0 dX3_keepIfLess_0 rfl ?_
  replace e := z_bd e; obtain ⟨x1547, ex1547, e⟩ := e
  refine z_getI ex1547 lk_X3_22 dX3_keepIfLess_1 ?_
  refine z_if_eq (tgt := 15) dX3_keepIfLess_4 (by decide) (fun c1548 => ?_) (fun c1548 => ?_)
  · rw [if_pos c1548] at e
    exact z_weak [0, 1] rfl (S_X3_keepIfLess_15   e)
  · rw [if_neg c1548] at e
    refine z_iload_n 1 dX3_keepIfLess_7 rfl ?_
    refine z_aload_n 0 dX3_keepIfLess_8 rfl ?_
    replace e := z_bd e; obtain ⟨x1549, ex1549, e⟩ := e
    refine z_getI ex1549 lk_X3_18 dX3_keepIfLess_9 ?_
    refine z_icmp_ge (tgt := 40) dX3_keepIfLess_12 (by decide) (fun c1550 => ?_) (fun c1550 => ?_)
    · rw [if_pos c1550] at e
      cases e
      exact z_vret dX3_keepIfLess_40 rfl
    · rw [if_neg c1550] at e
      exact z_weak [0, 1] rfl (S_X3_keepIfLess_15   e)
theorem dX3_partFrom_0 : decode cX3_partFrom 0 = .ok (.iload_n 2, 1) := by decide +kernel
theorem dX3_partFrom_1 : decode cX3_partFrom 1 = .ok (.aload_n 1, 1) := by decide +kernel
theorem dX3_partFrom_2 : decode cX3_partFrom 2 = .ok (.getfield 44, 3) := by decide +kernel
theorem dX3_partFrom_5 : decode cX3_partFrom 5 = .ok (.if_icmp .ge 9, 3) := by decide +kernel
theorem dX3_partFrom_8 : decode cX3_partFrom 8 = .ok (.iload_n 2, 1) := by decide +kernel
theorem dX3_partFrom_9 : decode cX3_partFrom 9 = .ok (.bipush 6, 2) := by decide +kernel
theorem dX3_partFrom_11 : decode cX3_partFrom 11 = .ok (.if_icmp .lt 10, 3) := by decide +kernel
theorem dX3_partFrom_14 : decode cX3_partFrom 14 = .ok (.aload_n 0, 1) := by decide +kernel
theorem dX3_partFrom_15 : decode cX3_partFrom 15 = .ok (.iload 4, 2) := by decide +kernel
theorem dX3_partFrom_17 : decode cX3_partFrom 17 = .ok (.invokevirtual 61, 3) := by decide +kernel
theorem dX3_partFrom_20 : decode cX3_partFrom 20 = .ok (.return_, 1) := by decide +kernel
theorem dX3_partFrom_21 : decode cX3_partFrom 21 = .ok (.aload_n 0, 1) := by decide +kernel
theorem dX3_partFrom_22 : decode cX3_partFrom 22 = .ok (.getfield 9, 3) := by decide +kernel
theorem dX3_partFrom_25 : decode cX3_partFrom 25 = .ok (.iload_n 2, 1) := by decide +kernel
theorem dX3_partFrom_26 : decode cX3_partFrom 26 = .ok (.iaload, 1) := by decide +kernel
theorem dX3_partFrom_27 : decode cX3_partFrom 27 = .ok (.iconst (-1), 1) := by decide +kernel
theorem dX3_partFrom_28 : decode cX3_partFrom 28 = .ok (.if_icmp .eq 15, 3) := by decide +kernel
theorem dX3_partFrom_31 : decode cX3_partFrom 31 = .ok (.aload_n 0, 1) := by decide +kernel
theorem dX3_partFrom_32 : decode cX3_partFrom 32 = .ok (.aload_n 1, 1) := by decide +kernel
theorem dX3_partFrom_33 : decode cX3_partFrom 33 = .ok (.iload_n 2, 1) := by decide +kernel
theorem dX3_partFrom_34 : decode cX3_partFrom 34 = .ok (.iconst 1, 1) := by decide +kernel
theorem dX3_partFrom_35 : decode cX3_partFrom 35 = .ok (.iadd, 1) := by decide +kernel
theorem dX3_partFrom_36 : decode cX3_partFrom 36 = .ok (.iload_n 3, 1) := by decide +kernel
theorem dX3_partFrom_37 : decode cX3_partFrom 37 = .ok (.iload 4, 2) := by decide +kernel
theorem dX3_partFrom_39 : decode cX3_partFrom 39 = .ok (.invokevirtual 57, 3) := by decide +kernel
theorem dX3_partFrom_42 : decode cX3_partFrom 42 = .ok (.return_, 1) := by decide +kernel
theorem dX3_partFrom_43 : decode cX3_partFrom 43 = .ok (.iload_n 3, 1) := by decide +kernel
theorem dX3_partFrom_44 : decode cX3_partFrom 44 = .ok (.ifCond .eq 21, 3) := by decide +kernel
theorem dX3_partFrom_47 : decode cX3_partFrom 47 = .ok (.aload_n 0, 1) := by decide +kernel
theorem dX3_partFrom_48 : decode cX3_partFrom 48 = .ok (.getfield 9, 3) := by decide +kernel
theorem dX3_partFrom_51 : decode cX3_partFrom 51 = .ok (.iload_n 2, 1) := by decide +kernel
theorem dX3_partFrom_52 : decode cX3_partFrom 52 = .ok (.iload_n 2, 1) := by decide +kernel
theorem dX3_partFrom_53 : decode cX3_partFrom 53 = .ok (.iastore, 1) := by decide +kernel
theorem dX3_partFrom_54 : decode cX3_partFrom 54 = .ok (.aload_n 0, 1) := by decide +kernel
theorem dX3_partFrom_55 : decode cX3_partFrom 55 = .ok (.aload_n 1, 1) := by decide +kernel
theorem dX3_partFrom_56 : decode cX3_partFrom 56 = .ok (.iload_n 2, 1) := by decide +kernel
theorem dX3_partFrom_57 : decode cX3_partFrom 57 = .ok (.iconst 1, 1) := by decide +kernel
theorem dX3_partFrom_58 : decode cX3_partFrom 58 = .ok (.iadd, 1) := by decide +kernel
theorem dX3_partFrom_59 : decode cX3_partFrom 59 = .ok (.iconst 0, 1) := by decide +kernel
theorem dX3_partFrom_60 : decode cX3_partFrom 60 = .ok (.iload 4, 2) := by decide +kernel
theorem dX3_partFrom_62 : decode cX3_partFrom 62 = .ok (.invokevirtual 57, 3) := by decide +kernel
theorem dX3_partFrom_65 : decode cX3_partFrom 65 = .ok (.iload_n 2, 1) := by decide +kernel
theorem dX3_partFrom_66 : decode cX3_partFrom 66 = .ok (.iconst 1, 1) := by decide +kernel
theorem dX3_partFrom_67 : decode cX3_partFrom 67 = .ok (.iadd, 1) := by decide +kernel
theorem dX3_partFrom_68 : decode cX3_partFrom 68 = .ok (.istore 5, 2) := by decide +kernel
theorem dX3_partFrom_70 : decode cX3_partFrom 70 = .ok (.iload 5, 2) := by decide +kernel
theorem dX3_partFrom_72 : decode cX3_partFrom 72 = .ok (.aload_n 1, 1) := by decide +kernel
theorem dX3_partFrom_73 : decode cX3_partFrom 73 = .ok (.getfield 44, 3) := by decide +kernel
theorem dX3_partFrom_76 : decode cX3_partFrom 76 = .ok (.if_icmp .ge 63, 3) := by decide +kernel
theorem dX3_partFrom_79 : decode cX3_partFrom 79 = .ok (.aload_n 0, 1) := by decide +kernel
theorem dX3_partFrom_80 : decode cX3_partFrom 80 = .ok (.getfield 9, 3) := by decide +kernel
theorem dX3_partFrom_83 : decode cX3_partFrom 83 = .ok (.iload 5, 2) := by decide +kernel
theorem dX3_partFrom_85 : decode cX3_partFrom 85 = .ok (.iaload, 1) := by decide +kernel
theorem dX3_partFrom_86 : decode cX3_partFrom 86 = .ok (.iconst (-1), 1) := by decide +kernel
theorem dX3_partFrom_87 : decode cX3_partFrom 87 = .ok (.if_icmp .ne 46, 3) := by decide +kernel
theorem dX3_partFrom_90 : decode cX3_partFrom 90 = .ok (.aload_n 0, 1) := by decide +kernel
theorem dX3_partFrom_91 : decode cX3_partFrom 91 = .ok (.getfield 9, 3) := by decide +kernel
theorem dX3_partFrom_94 : decode cX3_partFrom 94 = .ok (.iload_n 2, 1) := by decide +kernel
theorem dX3_partFrom_95 : decode cX3_partFrom 95 = .ok (.iload 5, 2) := by decide +kernel
theorem dX3_partFrom_97 : decode cX3_partFrom 97 = .ok (.iastore, 1) := by decide +kernel
theorem dX3_partFrom_98 : decode cX3_partFrom 98 = .ok (.aload_n 0, 1) := by decide +kernel
theorem dX3_partFrom_99 : decode cX3_partFrom 99 = .ok (.getfield 9, 3) := by decide +kernel
theorem dX3_partFrom_102 : decode cX3_partFrom 102 = .ok (.iload 5, 2) := by decide +kernel
theorem dX3_partFrom_104 : decode cX3_partFrom 104 = .ok (.iload_n 2, 1) := by decide +kernel
theorem dX3_partFrom_105 : decode cX3_partFrom 105 = .ok (.iastore, 1) := by decide +kernel
theorem dX3_partFrom_106 : decode cX3_partFrom 106 = .ok (.aload_n 0, 1) := by decide +kernel
theorem dX3_partFrom_107 : decode cX3_partFrom 107 = .ok (.aload_n 1, 1) := by decide +kernel
theorem dX3_partFrom_108 : decode cX3_partFrom 108 = .ok (.iload_n 2, 1) := by decide +kernel
theorem dX3_partFrom_109 : decode cX3_partFrom 109 = .ok (.iconst 1, 1) := by decide +kernel
theorem dX3_partFrom_110 : decode cX3_partFrom 110 = .ok (.iadd, 1) := by decide +kernel
theorem dX3_partFrom_111 : decode cX3_partFrom 111 = .ok (.iload_n 3, 1) := by decide +kernel
theorem dX3_partFrom_112 : decode cX3_partFrom 112 = .ok (.iload 4, 2) := by decide +kernel
theorem dX3_partFrom_114 : decode cX3_partFrom 114 = .ok (.aload_n 1, 1) := by decide +kernel
theorem dX3_partFrom_115 : decode cX3_partFrom 115 = .ok (.iload_n 2, 1) := by decide +kernel
theorem dX3_partFrom_116 : decode cX3_partFrom 116 = .ok (.iload 5, 2) := by decide +kernel
theorem dX3_partFrom_118 : decode cX3_partFrom 118 = .ok (.invokestatic 47, 3) := by decide +kernel
theorem dX3_partFrom_121 : decode cX3_partFrom 121 = .ok (.iadd, 1) := by decide +kernel
theorem dX3_partFrom_122 : decode cX3_partFrom 122 = .ok (.invokevirtual 57, 3) := by decide +kernel
theorem dX3_partFrom_125 : decode cX3_partFrom 125 = .ok (.aload_n 0, 1) := by decide +kernel
theorem dX3_partFrom_126 : decode cX3_partFrom 126 = .ok (.getfield 9, 3) := by decide +kernel
theorem dX3_partFrom_129 : decode cX3_partFrom 129 = .ok (.iload 5, 2) := by decide +kernel
theorem dX3_partFrom_131 : decode cX3_partFrom 131 = .ok (.iconst (-1), 1) := by decide +kernel
theorem dX3_partFrom_132 : decode cX3_partFrom 132 = .ok (.iastore, 1) := by decide +kernel
theorem dX3_partFrom_133 : decode cX3_partFrom 133 = .ok (.iinc 5 1, 3) := by decide +kernel
theorem dX3_partFrom_136 : decode cX3_partFrom 136 = .ok (.goto (-66), 3) := by decide +kernel
theorem dX3_partFrom_139 : decode cX3_partFrom 139 = .ok (.aload_n 0, 1) := by decide +kernel
theorem dX3_partFrom_140 : decode cX3_partFrom 140 = .ok (.getfield 9, 3) := by decide +kernel
theorem dX3_partFrom_143 : decode cX3_partFrom 143 = .ok (.iload_n 2, 1) := by decide +kernel
theorem dX3_partFrom_144 : decode cX3_partFrom 144 = .ok (.iconst (-1), 1) := by decide +kernel
theorem dX3_partFrom_145 : decode cX3_partFrom 145 = .ok (.iastore, 1) := by decide +kernel
theorem dX3_partFrom_146 : decode cX3_partFrom 146 = .ok (.return_, 1) := by decide +kernel
def D_X3_partFromB_14 (kr : z_H → Option Nat → Option Nat → Int32 → Int32 → Int32 → Option z_H) (h : z_H) (l0 : Option Nat) (l4 : Int32) : Option z_H :=
  (z_ob 3 h l0).bind fun _ =>
  (D_X3_keepIfLess  h l0 l4).bind fun p1551 =>
  some p1551
set_option maxRecDepth 100000 in
set_option maxHeartbeats 4000000 in
theorem S_X3_partFromB_14 {G : z_G} {l : Launch} {kr : z_H → Option Nat → Option Nat → Int32 → Int32 → Int32 → Option z_H} {dk : Nat} (hkr : ∀ {h : z_H} {l0 : Option Nat} {l1 : Option Nat} {l2 : Int32} {l3 : Int32} {l4 : Int32} {res : z_H}, kr h l0 l1 l2 l3 l4 = some res → z_Meth G l dk M_X3_partFrom [z_r l0, z_r l1, .int l2, .int l3, .int l4] h res none) (hdk : 20 ≤ dk)  {h : z_H} {l0 : Option Nat} {l4 : Int32} {res : z_H} (e : D_X3_partFromB_14 kr  h l0 l4 = some res) : z_Run G l (dk + 1) M_X3_partFrom 14 [(0, z_r l0), (4, .int l4)] [] h res none := by
  unfold D_X3_partFromB_14 at e
  refine z_aload_n 0 dX3_partFrom_14 rfl ?_
  refine z_iload 1 dX3_partFrom_15 rfl ?_
  replace e := z_bd e; obtain ⟨o1552, eo1552, e⟩ := e
  replace e := z_bd e; obtain ⟨p1551, ep1551, e⟩ := e
  refine z_cV [.int l4] (S_X3_keepIfLess  ep1551) eo1552 rfl ml_X3_61 ck_X3_keepIfLess vk_X3_keepIfLess dX3_partFrom_17 (by omega) rfl (Nat.zero_le _) rfl ?_
  cases e
  exact z_vret dX3_partFrom_20 rfl
def D_X3_partFromB_133 (kr : z_H → Option Nat → Option Nat → Int32 → Int32 → Int32 → Option z_H) (k70 : z_H → Option Nat → Option Nat → Int32 → Int32 → Int32 → Int32 → Option z_H) (h : z_H) (l0 : Option Nat) (l1 : Option Nat) (l2 : Int32) (l3 : Int32) (l4 : Int32) (l5 : Int32) : Option z_H :=
  (some (l5 + (1:Int32))).bind fun x1553 =>
  k70 h l0 l1 l2 l3 l4 x1553
set_option maxRecDepth 100000 in
set_option maxHeartbeats 4000000 in
theorem S_X3_partFromB_133 {G : z_G} {l : Launch} {kr : z_H → Option Nat → Option Nat → Int32 → Int32 → Int32 → Option z_H} {dk : Nat} (hkr : ∀ {h : z_H} {l0 : Option Nat} {l1 : Option Nat} {l2 : Int32} {l3 : Int32} {l4 : Int32} {res : z_H}, kr h l0 l1 l2 l3 l4 = some res → z_Meth G l dk M_X3_partFrom [z_r l0, z_r l1, .int l2, .int l3, .int l4] h res none) (hdk : 20 ≤ dk) {k70 : z_H → Option Nat → Option Nat → Int32 → Int32 → Int32 → Int32 → Option z_H} (hk70 : ∀ {h : z_H} {l0 : Option Nat} {l1 : Option Nat} {l2 : Int32} {l3 : Int32} {l4 : Int32} {l5 : Int32} {res : z_H}, k70 h l0 l1 l2 l3 l4 l5 = some res → z_Run G l (dk + 1) M_X3_partFrom 70 [(0, z_r l0), (1, z_r l1), (2, .int l2), (3, .int l3), (4, .int l4), (5, .int l5)] [] h res none) {h : z_H} {l0 : Option Nat} {l1 : Option Nat} {l2 : Int32} {l3 : Int32} {l4 : Int32} {l5 : Int32} {res : z_H} (e : D_X3_partFromB_133 kr k70 h l0 l1 l2 l3 l4 l5 = some res) : z_Run G l (dk + 1) M_X3_partFrom 133 [(0, z_r l0), (1, z_r l1), (2, .int l2), (3, .int l3), (4, .int l4), (5, .int l5)] [] h res none := by
  unfold D_X3_partFromB_133 at e
  replace e := z_bd e; obtain ⟨x1553, ex1553, e⟩ := e
  refine z_iinc (q := 5) (v := x1553) (L' := [(5, .int x1553), (0, z_r l0), (1, z_r l1), (2, .int l2), (3, .int l3), (4, .int l4)]) dX3_partFrom_133 rfl (Option.some.inj ex1553) (by decide) rfl ?_
  refine z_goto (tgt := 70) dX3_partFrom_136 (by decide) ?_
  exact z_weak [1, 2, 3, 4, 5, 0] rfl (hk70 e)
def D_X3_partFromB_70b (kr : z_H → Option Nat → Option Nat → Int32 → Int32 → Int32 → Option z_H) (k70 : z_H → Option Nat → Option Nat → Int32 → Int32 → Int32 → Int32 → Option z_H) (h : z_H) (l0 : Option Nat) (l1 : Option Nat) (l2 : Int32) (l3 : Int32) (l4 : Int32) (l5 : Int32) : Option z_H :=
  (z_gI 9 h l1 8).bind fun x1554 =>
  if x1554 ≤ l5 then
    (z_gQ 3 h l0 0).bind fun x1556 =>
    (z_sI h x1556 l2 (-1:Int32)).bind fun h1557 =>
    some h1557
  else
    (z_gQ 3 h l0 0).bind fun x1558 =>
    (z_aI .int h x1558 l5).bind fun x1559 =>
    if x1559 = (-1:Int32) then
      (z_gQ 3 h l0 0).bind fun x1561 =>
      (z_sI h x1561 l2 l5).bind fun h1562 =>
      (z_gQ 3 h1562 l0 0).bind fun x1563 =>
      (z_sI h1562 x1563 l5 l2).bind fun h1564 =>
      (D_X3_differ  h1564 l1 l2 l5).bind fun p1565 =>
      (z_ob 3 p1565.2 l0).bind fun _ =>
      (kr p1565.2 l0 l1 (l2 + (1:Int32)) l3 (l4 + p1565.1)).bind fun p1566 =>
      (z_gQ 3 p1566 l0 0).bind fun x1568 =>
      (z_sI p1566 x1568 l5 (-1:Int32)).bind fun h1569 =>
      D_X3_partFromB_133 kr k70 h1569 l0 l1 l2 l3 l4 l5
    else
      D_X3_partFromB_133 kr k70 h l0 l1 l2 l3 l4 l5
def D_X3_partFromB_70 (kr : z_H → Option Nat → Option Nat → Int32 → Int32 → Int32 → Option z_H) (n : Nat) : z_H → Option Nat → Option Nat → Int32 → Int32 → Int32 → Int32 → Option z_H := Nat.rec (motive := fun _ => z_H → Option Nat → Option Nat → Int32 → Int32 → Int32 → Int32 → Option z_H) (fun _ _ _ _ _ _ _ => none) (fun _ k => D_X3_partFromB_70b kr  k) n
set_option maxRecDepth 100000 in
set_option maxHeartbeats 4000000 in
theorem S_X3_partFromB_70 {G : z_G} {l : Launch} {kr : z_H → Option Nat → Option Nat → Int32 → Int32 → Int32 → Option z_H} {dk : Nat} (hkr : ∀ {h : z_H} {l0 : Option Nat} {l1 : Option Nat} {l2 : Int32} {l3 : Int32} {l4 : Int32} {res : z_H}, kr h l0 l1 l2 l3 l4 = some res → z_Meth G l dk M_X3_partFrom [z_r l0, z_r l1, .int l2, .int l3, .int l4] h res none) (hdk : 20 ≤ dk)  (n : Nat) : ∀ {h : z_H} {l0 : Option Nat} {l1 : Option Nat} {l2 : Int32} {l3 : Int32} {l4 : Int32} {l5 : Int32} {res : z_H}, D_X3_partFromB_70 kr  n h l0 l1 l2 l3 l4 l5 = some res → z_Run G l (dk + 1) M_X3_partFrom 70 [(0, z_r l0), (1, z_r l1), (2, .int l2), (3, .int l3), (4, .int l4), (5, .int l5)] [] h res none := by
  induction n with
  | zero => intro h l0 l1 l2 l3 l4 l5 res e; cases e
  | succ n hk70 =>
    intro h l0 l1 l2 l3 l4 l5 res e
    replace e : D_X3_partFromB_70b kr  (D_X3_partFromB_70 kr  n) h l0 l1 l2 l3 l4 l5 = some res := e
    unfold D_X3_partFromB_70b at e
    refine z_iload 5 dX3_partFrom_70 rfl ?_
    refine z_aload_n 1 dX3_partFrom_72 rfl ?_
    replace e := z_bd e; obtain ⟨x1554, ex1554, e⟩ := e
    refine z_getI ex1554 lk_X3_44 dX3_partFrom_73 ?_
    refine z_icmp_ge (tgt := 139) dX3_partFrom_76 (by decide) (fun c1555 => ?_) (fun c1555 => ?_)
    · rw [if_pos c1555] at e
      refine z_aload_n 0 dX3_partFrom_139 rfl ?_
      replace e := z_bd e; obtain ⟨x1556, ex1556, e⟩ := e
      refine z_getQ ex1556 lk_X3_9 dX3_partFrom_140 ?_
      refine z_iload_n 2 dX3_partFrom_143 rfl ?_
      refine z_iconst (v := -1) dX3_partFrom_144 (by decide) ?_
      replace e := z_bd e; obtain ⟨h1557, eh1557, e⟩ := e
      refine z_iast eh1557 dX3_partFrom_145 ?_
      cases e
      exact z_vret dX3_partFrom_146 rfl
    · rw [if_neg c1555] at e
      refine z_aload_n 0 dX3_partFrom_79 rfl ?_
      replace e := z_bd e; obtain ⟨x1558, ex1558, e⟩ := e
      refine z_getQ ex1558 lk_X3_9 dX3_partFrom_80 ?_
      refine z_iload 5 dX3_partFrom_83 rfl ?_
      replace e := z_bd e; obtain ⟨x1559, ex1559, e⟩ := e
      refine z_iald ex1559 dX3_partFrom_85 ?_
      refine z_iconst (v := -1) dX3_partFrom_86 (by decide) ?_
      refine z_icmp_ne (tgt := 133) dX3_partFrom_87 (by decide) (fun c1560 => ?_) (fun c1560 => ?_)
      · rw [if_neg c1560] at e
        exact z_weak [0, 1, 2, 3, 4, 5] rfl (S_X3_partFromB_133 @hkr hdk @hk70 e)
      · rw [if_pos c1560] at e
        refine z_aload_n 0 dX3_partFrom_90 rfl ?_
        replace e := z_bd e; obtain ⟨x1561, ex1561, e⟩ := e
        refine z_getQ ex1561 lk_X3_9 dX3_partFrom_91 ?_
        refine z_iload_n 2 dX3_partFrom_94 rfl ?_
        refine z_iload 5 dX3_partFrom_95 rfl ?_
        replace e := z_bd e; obtain ⟨h1562, eh1562, e⟩ := e
        refine z_iast eh1562 dX3_partFrom_97 ?_
        refine z_aload_n 0 dX3_partFrom_98 rfl ?_
        replace e := z_bd e; obtain ⟨x1563, ex1563, e⟩ := e
        refine z_getQ ex1563 lk_X3_9 dX3_partFrom_99 ?_
        refine z_iload 5 dX3_partFrom_102 rfl ?_
        refine z_iload_n 2 dX3_partFrom_104 rfl ?_
        replace e := z_bd e; obtain ⟨h1564, eh1564, e⟩ := e
        refine z_iast eh1564 dX3_partFrom_105 ?_
        refine z_aload_n 0 dX3_partFrom_106 rfl ?_
        refine z_aload_n 1 dX3_partFrom_107 rfl ?_
        refine z_iload_n 2 dX3_partFrom_108 rfl ?_
        refine z_iconst (v := 1) dX3_partFrom_109 (by decide) ?_
        refine z_iadd dX3_partFrom_110 ?_
        refine z_iload_n 3 dX3_partFrom_111 rfl ?_
        refine z_iload 4 dX3_partFrom_112 rfl ?_
        refine z_aload_n 1 dX3_partFrom_114 rfl ?_
        refine z_iload_n 2 dX3_partFrom_115 rfl ?_
        refine z_iload 5 dX3_partFrom_116 rfl ?_
        replace e := z_bd e; obtain ⟨p1565, ep1565, e⟩ := e
        refine z_cS [z_r l1, .int l2, .int l5] (S_X3_differ  ep1565) ml_X3_47 ck_X3_differ st_X3_differ dX3_partFrom_118 (by omega) rfl (by simp [z_ci, z_cj, z_cr, z_cx]) rfl ?_
        refine z_iadd dX3_partFrom_121 ?_
        replace e := z_bd e; obtain ⟨o1567, eo1567, e⟩ := e
        replace e := z_bd e; obtain ⟨p1566, ep1566, e⟩ := e
        refine z_cV [z_r l1, .int (l2 + (1:Int32)), .int l3, .int (l4 + p1565.1)] (hkr ep1566) eo1567 rfl ml_X3_57 ck_X3_partFrom vk_X3_partFrom dX3_partFrom_122 (by omega) rfl (Nat.zero_le _) rfl ?_
        refine z_aload_n 0 dX3_partFrom_125 rfl ?_
        replace e := z_bd e; obtain ⟨x1568, ex1568, e⟩ := e
        refine z_getQ ex1568 lk_X3_9 dX3_partFrom_126 ?_
        refine z_iload 5 dX3_partFrom_129 rfl ?_
        refine z_iconst (v := -1) dX3_partFrom_131 (by decide) ?_
        replace e := z_bd e; obtain ⟨h1569, eh1569, e⟩ := e
        refine z_iast eh1569 dX3_partFrom_132 ?_
        exact z_weak [0, 1, 2, 3, 4, 5] rfl (S_X3_partFromB_133 @hkr hdk @hk70 e)
def D_X3_partFromB_65 (kr : z_H → Option Nat → Option Nat → Int32 → Int32 → Int32 → Option z_H) (h : z_H) (l0 : Option Nat) (l1 : Option Nat) (l2 : Int32) (l3 : Int32) (l4 : Int32) : Option z_H :=
  (some (l2 + (1:Int32))).bind fun x1570 =>
  D_X3_partFromB_70 kr  z_F h l0 l1 l2 l3 l4 x1570
set_option maxRecDepth 100000 in
set_option maxHeartbeats 4000000 in
theorem S_X3_partFromB_65 {G : z_G} {l : Launch} {kr : z_H → Option Nat → Option Nat → Int32 → Int32 → Int32 → Option z_H} {dk : Nat} (hkr : ∀ {h : z_H} {l0 : Option Nat} {l1 : Option Nat} {l2 : Int32} {l3 : Int32} {l4 : Int32} {res : z_H}, kr h l0 l1 l2 l3 l4 = some res → z_Meth G l dk M_X3_partFrom [z_r l0, z_r l1, .int l2, .int l3, .int l4] h res none) (hdk : 20 ≤ dk)  {h : z_H} {l0 : Option Nat} {l1 : Option Nat} {l2 : Int32} {l3 : Int32} {l4 : Int32} {res : z_H} (e : D_X3_partFromB_65 kr  h l0 l1 l2 l3 l4 = some res) : z_Run G l (dk + 1) M_X3_partFrom 65 [(0, z_r l0), (1, z_r l1), (2, .int l2), (3, .int l3), (4, .int l4)] [] h res none := by
  unfold D_X3_partFromB_65 at e
  refine z_iload_n 2 dX3_partFrom_65 rfl ?_
  refine z_iconst (v := 1) dX3_partFrom_66 (by decide) ?_
  refine z_iadd dX3_partFrom_67 ?_
  replace e := z_bd e; obtain ⟨x1570, ex1570, e⟩ := e
  refine z_topI ex1570 ?_
  refine z_istore (L' := [(5, .int x1570), (0, z_r l0), (1, z_r l1), (2, .int l2), (3, .int l3), (4, .int l4)]) dX3_partFrom_68 (by decide) rfl ?_
  exact z_weak [1, 2, 3, 4, 5, 0] rfl (S_X3_partFromB_70 @hkr hdk  z_F e)
def D_X3_partFromB (kr : z_H → Option Nat → Option Nat → Int32 → Int32 → Int32 → Option z_H) (h : z_H) (l0 : Option Nat) (l1 : Option Nat) (l2 : Int32) (l3 : Int32) (l4 : Int32) : Option z_H :=
  (z_gI 9 h l1 8).bind fun x1571 =>
  if x1571 ≤ l2 then
    D_X3_partFromB_14 kr  h l0 l4
  else
    if l2 < (6:Int32) then
      (z_gQ 3 h l0 0).bind fun x1574 =>
      (z_aI .int h x1574 l2).bind fun x1575 =>
      if x1575 = (-1:Int32) then
        if l3 = 0 then
          D_X3_partFromB_65 kr  h l0 l1 l2 l3 l4
        else
          (z_gQ 3 h l0 0).bind fun x1578 =>
          (z_sI h x1578 l2 l2).bind fun h1579 =>
          (z_ob 3 h1579 l0).bind fun _ =>
          (kr h1579 l0 l1 (l2 + (1:Int32)) (0:Int32) l4).bind fun p1580 =>
          D_X3_partFromB_65 kr  p1580 l0 l1 l2 l3 l4
      else
        (z_ob 3 h l0).bind fun _ =>
        (kr h l0 l1 (l2 + (1:Int32)) l3 l4).bind fun p1582 =>
        some p1582
    else
      D_X3_partFromB_14 kr  h l0 l4
set_option maxRecDepth 100000 in
set_option maxHeartbeats 4000000 in
theorem S_X3_partFromB {G : z_G} {l : Launch} {kr : z_H → Option Nat → Option Nat → Int32 → Int32 → Int32 → Option z_H} {dk : Nat} (hkr : ∀ {h : z_H} {l0 : Option Nat} {l1 : Option Nat} {l2 : Int32} {l3 : Int32} {l4 : Int32} {res : z_H}, kr h l0 l1 l2 l3 l4 = some res → z_Meth G l dk M_X3_partFrom [z_r l0, z_r l1, .int l2, .int l3, .int l4] h res none) (hdk : 20 ≤ dk) {h : z_H} {l0 : Option Nat} {l1 : Option Nat} {l2 : Int32} {l3 : Int32} {l4 : Int32} {res : z_H} (e : D_X3_partFromB kr h l0 l1 l2 l3 l4 = some res) : z_Meth G l (dk + 1) M_X3_partFrom [z_r l0, z_r l1, .int l2, .int l3, .int l4] h res none := by
  refine z_Meth.of ck_X3_partFrom.2.2.2.2 (by simp [lg_sl, z_ci, z_cj, z_cr, z_cx]) ck_X3_partFrom.1 ?_
  rw [show lv_args 0 [z_r l0, z_r l1, .int l2, .int l3, .int l4] = [(0, z_r l0), (1, z_r l1), (2, .int l2), (3, .int l3), (4, .int l4)] from by simp [lv_args, z_ci, z_cj, z_cr, z_cx]]
  unfold D_X3_partFromB at e
  refine z_iload_n 2 dX3_partFrom_0 rfl ?_
  refine z_aload_n 1 dX3_partFrom_1 rfl ?_
  replace e := z_bd e; obtain ⟨x1571, ex1571, e⟩ := e
  refine z_getI ex1571 lk_X3_44 dX3_partFrom_2 ?_
  refine z_icmp_ge (tgt := 14) dX3_partFrom_5 (by decide) (fun c1572 => ?_) (fun c1572 => ?_)
  · rw [if_pos c1572] at e
    exact z_weak [0, 4] rfl (S_X3_partFromB_14 @hkr hdk  e)
  · rw [if_neg c1572] at e
    refine z_iload_n 2 dX3_partFrom_8 rfl ?_
    refine z_bipush (v := 6) dX3_partFrom_9 (by decide) ?_
    refine z_icmp_lt (tgt := 21) dX3_partFrom_11 (by decide) (fun c1573 => ?_) (fun c1573 => ?_)
    · rw [if_pos c1573] at e
      refine z_aload_n 0 dX3_partFrom_21 rfl ?_
      replace e := z_bd e; obtain ⟨x1574, ex1574, e⟩ := e
      refine z_getQ ex1574 lk_X3_9 dX3_partFrom_22 ?_
      refine z_iload_n 2 dX3_partFrom_25 rfl ?_
      replace e := z_bd e; obtain ⟨x1575, ex1575, e⟩ := e
      refine z_iald ex1575 dX3_partFrom_26 ?_
      refine z_iconst (v := -1) dX3_partFrom_27 (by decide) ?_
      refine z_icmp_eq (tgt := 43) dX3_partFrom_28 (by decide) (fun c1576 => ?_) (fun c1576 => ?_)
      · rw [if_pos c1576] at e
        refine z_iload_n 3 dX3_partFrom_43 rfl ?_
        refine z_if_eq (tgt := 65) dX3_partFrom_44 (by decide) (fun c1577 => ?_) (fun c1577 => ?_)
        · rw [if_pos c1577] at e
          exact z_weak [0, 1, 2, 3, 4] rfl (S_X3_partFromB_65 @hkr hdk  e)
        · rw [if_neg c1577] at e
          refine z_aload_n 0 dX3_partFrom_47 rfl ?_
          replace e := z_bd e; obtain ⟨x1578, ex1578, e⟩ := e
          refine z_getQ ex1578 lk_X3_9 dX3_partFrom_48 ?_
          refine z_iload_n 2 dX3_partFrom_51 rfl ?_
          refine z_iload_n 2 dX3_partFrom_52 rfl ?_
          replace e := z_bd e; obtain ⟨h1579, eh1579, e⟩ := e
          refine z_iast eh1579 dX3_partFrom_53 ?_
          refine z_aload_n 0 dX3_partFrom_54 rfl ?_
          refine z_aload_n 1 dX3_partFrom_55 rfl ?_
          refine z_iload_n 2 dX3_partFrom_56 rfl ?_
          refine z_iconst (v := 1) dX3_partFrom_57 (by decide) ?_
          refine z_iadd dX3_partFrom_58 ?_
          refine z_iconst (v := 0) dX3_partFrom_59 (by decide) ?_
          refine z_iload 4 dX3_partFrom_60 rfl ?_
          replace e := z_bd e; obtain ⟨o1581, eo1581, e⟩ := e
          replace e := z_bd e; obtain ⟨p1580, ep1580, e⟩ := e
          refine z_cV [z_r l1, .int (l2 + (1:Int32)), .int (0:Int32), .int l4] (hkr ep1580) eo1581 rfl ml_X3_57 ck_X3_partFrom vk_X3_partFrom dX3_partFrom_62 (by omega) rfl (Nat.zero_le _) rfl ?_
          exact z_weak [0, 1, 2, 3, 4] rfl (S_X3_partFromB_65 @hkr hdk  e)
      · rw [if_neg c1576] at e
        refine z_aload_n 0 dX3_partFrom_31 rfl ?_
        refine z_aload_n 1 dX3_partFrom_32 rfl ?_
        refine z_iload_n 2 dX3_partFrom_33 rfl ?_
        refine z_iconst (v := 1) dX3_partFrom_34 (by decide) ?_
        refine z_iadd dX3_partFrom_35 ?_
        refine z_iload_n 3 dX3_partFrom_36 rfl ?_
        refine z_iload 4 dX3_partFrom_37 rfl ?_
        replace e := z_bd e; obtain ⟨o1583, eo1583, e⟩ := e
        replace e := z_bd e; obtain ⟨p1582, ep1582, e⟩ := e
        refine z_cV [z_r l1, .int (l2 + (1:Int32)), .int l3, .int l4] (hkr ep1582) eo1583 rfl ml_X3_57 ck_X3_partFrom vk_X3_partFrom dX3_partFrom_39 (by omega) rfl (Nat.zero_le _) rfl ?_
        cases e
        exact z_vret dX3_partFrom_42 rfl
    · rw [if_neg c1573] at e
      exact z_weak [0, 4] rfl (S_X3_partFromB_14 @hkr hdk  e)
def D_X3_partFrom (n : Nat) : z_H → Option Nat → Option Nat → Int32 → Int32 → Int32 → Option z_H := Nat.rec (motive := fun _ => z_H → Option Nat → Option Nat → Int32 → Int32 → Int32 → Option z_H) (fun _ _ _ _ _ _ => none) (fun _ k => D_X3_partFromB k) n
set_option maxRecDepth 100000 in
set_option maxHeartbeats 4000000 in
theorem S_X3_partFrom {G : z_G} {l : Launch} (n : Nat) : ∀ {h : z_H} {l0 : Option Nat} {l1 : Option Nat} {l2 : Int32} {l3 : Int32} {l4 : Int32} {res : z_H}, D_X3_partFrom n h l0 l1 l2 l3 l4 = some res → z_Meth G l (20 + n * 1) M_X3_partFrom [z_r l0, z_r l1, .int l2, .int l3, .int l4] h res none := by
  induction n with
  | zero => intro h l0 l1 l2 l3 l4 res e; cases e
  | succ n ih =>
    intro h l0 l1 l2 l3 l4 res e
    rw [show 20 + (n + 1) * 1 = (20 + n * 1) + 1 by omega]
    exact S_X3_partFromB (kr := D_X3_partFrom n) (dk := 20 + n * 1) @ih (Nat.le_add_right _ _) e
theorem dX3_couple_0 : decode cX3_couple 0 = .ok (.aload_n 0, 1) := by decide +kernel
theorem dX3_couple_1 : decode cX3_couple 1 = .ok (.getfield 9, 3) := by decide +kernel
theorem dX3_couple_4 : decode cX3_couple 4 = .ok (.iconst (-1), 1) := by decide +kernel
theorem dX3_couple_5 : decode cX3_couple 5 = .ok (.invokestatic 51, 3) := by decide +kernel
theorem dX3_couple_8 : decode cX3_couple 8 = .ok (.aload_n 0, 1) := by decide +kernel
theorem dX3_couple_9 : decode cX3_couple 9 = .ok (.iconst 0, 1) := by decide +kernel
theorem dX3_couple_10 : decode cX3_couple 10 = .ok (.putfield 22, 3) := by decide +kernel
theorem dX3_couple_13 : decode cX3_couple 13 = .ok (.aload_n 0, 1) := by decide +kernel
theorem dX3_couple_14 : decode cX3_couple 14 = .ok (.iconst 0, 1) := by decide +kernel
theorem dX3_couple_15 : decode cX3_couple 15 = .ok (.putfield 18, 3) := by decide +kernel
theorem dX3_couple_18 : decode cX3_couple 18 = .ok (.aload_n 0, 1) := by decide +kernel
theorem dX3_couple_19 : decode cX3_couple 19 = .ok (.aload_n 1, 1) := by decide +kernel
theorem dX3_couple_20 : decode cX3_couple 20 = .ok (.iconst 0, 1) := by decide +kernel
theorem dX3_couple_21 : decode cX3_couple 21 = .ok (.aload_n 1, 1) := by decide +kernel
theorem dX3_couple_22 : decode cX3_couple 22 = .ok (.getfield 44, 3) := by decide +kernel
theorem dX3_couple_25 : decode cX3_couple 25 = .ok (.iconst 2, 1) := by decide +kernel
theorem dX3_couple_26 : decode cX3_couple 26 = .ok (.irem, 1) := by decide +kernel
theorem dX3_couple_27 : decode cX3_couple 27 = .ok (.iconst 1, 1) := by decide +kernel
theorem dX3_couple_28 : decode cX3_couple 28 = .ok (.if_icmp .ne 7, 3) := by decide +kernel
theorem dX3_couple_31 : decode cX3_couple 31 = .ok (.iconst 1, 1) := by decide +kernel
theorem dX3_couple_32 : decode cX3_couple 32 = .ok (.goto 4, 3) := by decide +kernel
theorem dX3_couple_35 : decode cX3_couple 35 = .ok (.iconst 0, 1) := by decide +kernel
theorem dX3_couple_36 : decode cX3_couple 36 = .ok (.iconst 0, 1) := by decide +kernel
theorem dX3_couple_37 : decode cX3_couple 37 = .ok (.invokevirtual 57, 3) := by decide +kernel
theorem dX3_couple_40 : decode cX3_couple 40 = .ok (.return_, 1) := by decide +kernel
def D_X3_couple_36 (h : z_H) (s0 : Option Nat) (s1 : Option Nat) (s2 : Int32) (s3 : Int32) : Option z_H :=
  (z_ob 3 h s0).bind fun _ =>
  (D_X3_partFrom 12 h s0 s1 s2 s3 (0:Int32)).bind fun p1584 =>
  some p1584
set_option maxRecDepth 100000 in
set_option maxHeartbeats 4000000 in
theorem S_X3_couple_36 {G : z_G} {l : Launch}  {h : z_H} {s0 : Option Nat} {s1 : Option Nat} {s2 : Int32} {s3 : Int32} {res : z_H} (e : D_X3_couple_36  h s0 s1 s2 s3 = some res) : z_Run G l 33 M_X3_couple 36 [] [.int s3, .int s2, z_r s1, z_r s0] h res none := by
  unfold D_X3_couple_36 at e
  refine z_iconst (v := 0) dX3_couple_36 (by decide) ?_
  replace e := z_bd e; obtain ⟨o1585, eo1585, e⟩ := e
  replace e := z_bd e; obtain ⟨p1584, ep1584, e⟩ := e
  refine z_cV [z_r s1, .int s2, .int s3, .int (0:Int32)] (S_X3_partFrom 12 ep1584) eo1585 rfl ml_X3_57 ck_X3_partFrom vk_X3_partFrom dX3_couple_37 (by decide) rfl (Nat.zero_le _) rfl ?_
  cases e
  exact z_vret dX3_couple_40 rfl
def D_X3_couple (h : z_H) (l0 : Option Nat) (l1 : Option Nat) : Option z_H :=
  (z_gQ 3 h l0 0).bind fun x1586 =>
  (D_J7_fill_53178  h x1586 (-1:Int32)).bind fun p1587 =>
  (z_pV 3 p1587 l0 3 (.int (0:Int32))).bind fun h1588 =>
  (z_pV 3 h1588 l0 2 (.int (0:Int32))).bind fun h1589 =>
  (z_gI 9 h1589 l1 8).bind fun x1590 =>
  if (x1590 - x1590 / (2:Int32) * (2:Int32)) = (1:Int32) then
    D_X3_couple_36   h1589 l0 l1 (0:Int32) (1:Int32)
  else
    D_X3_couple_36   h1589 l0 l1 (0:Int32) (0:Int32)
set_option maxRecDepth 100000 in
set_option maxHeartbeats 4000000 in
theorem S_X3_couple {G : z_G} {l : Launch} {h : z_H} {l0 : Option Nat} {l1 : Option Nat} {res : z_H} (e : D_X3_couple h l0 l1 = some res) : z_Meth G l 33 M_X3_couple [z_r l0, z_r l1] h res none := by
  refine z_Meth.of ck_X3_couple.2.2.2.2 (by simp [lg_sl, z_ci, z_cj, z_cr, z_cx]) ck_X3_couple.1 ?_
  rw [show lv_args 0 [z_r l0, z_r l1] = [(0, z_r l0), (1, z_r l1)] from by simp [lv_args, z_ci, z_cj, z_cr, z_cx]]
  unfold D_X3_couple at e
  refine z_aload_n 0 dX3_couple_0 rfl ?_
  replace e := z_bd e; obtain ⟨x1586, ex1586, e⟩ := e
  refine z_getQ ex1586 lk_X3_9 dX3_couple_1 ?_
  refine z_iconst (v := -1) dX3_couple_4 (by decide) ?_
  replace e := z_bd e; obtain ⟨p1587, ep1587, e⟩ := e
  refine z_cS [z_r x1586, .int (-1:Int32)] (S_J7_fill_53178  ep1587) ml_X3_51 ck_J7_fill_53178 st_J7_fill_53178 dX3_couple_5 (by decide) rfl (Nat.zero_le _) rfl ?_
  refine z_aload_n 0 dX3_couple_8 rfl ?_
  refine z_iconst (v := 0) dX3_couple_9 (by decide) ?_
  replace e := z_bd e; obtain ⟨h1588, eh1588, e⟩ := e
  refine z_putV eh1588 lk_X3_22 wk_3_3 (fun _ => (z_nz (Or.inl rfl)).1) (fun _ => (z_nz (Or.inl rfl)).2) dX3_couple_10 ?_
  refine z_aload_n 0 dX3_couple_13 rfl ?_
  refine z_iconst (v := 0) dX3_couple_14 (by decide) ?_
  replace e := z_bd e; obtain ⟨h1589, eh1589, e⟩ := e
  refine z_putV eh1589 lk_X3_18 wk_3_2 (fun _ => rfl) (fun _ => rfl) dX3_couple_15 ?_
  refine z_aload_n 0 dX3_couple_18 rfl ?_
  refine z_aload_n 1 dX3_couple_19 rfl ?_
  refine z_iconst (v := 0) dX3_couple_20 (by decide) ?_
  refine z_aload_n 1 dX3_couple_21 rfl ?_
  replace e := z_bd e; obtain ⟨x1590, ex1590, e⟩ := e
  refine z_getI ex1590 lk_X3_44 dX3_couple_22 ?_
  refine z_iconst (v := 2) dX3_couple_25 (by decide) ?_
  refine z_irem dX3_couple_26 (by decide) ?_
  refine z_iconst (v := 1) dX3_couple_27 (by decide) ?_
  refine z_icmp_ne (tgt := 35) dX3_couple_28 (by decide) (fun c1591 => ?_) (fun c1591 => ?_)
  · rw [if_neg c1591] at e
    refine z_iconst (v := 0) dX3_couple_35 (by decide) ?_
    exact z_weak [] rfl (S_X3_couple_36   e)
  · rw [if_pos c1591] at e
    refine z_iconst (v := 1) dX3_couple_31 (by decide) ?_
    refine z_goto (tgt := 36) dX3_couple_32 (by decide) ?_
    exact z_weak [] rfl (S_X3_couple_36   e)
theorem dX10_couples_0 : decode cX10_couples 0 = .ok (.iload_n 1, 1) := by decide +kernel
theorem dX10_couples_1 : decode cX10_couples 1 = .ok (.ifCond .eq 18, 3) := by decide +kernel
theorem dX10_couples_4 : decode cX10_couples 4 = .ok (.aload_n 0, 1) := by decide +kernel
theorem dX10_couples_5 : decode cX10_couples 5 = .ok (.getfield 12, 3) := by decide +kernel
theorem dX10_couples_8 : decode cX10_couples 8 = .ok (.iload_n 1, 1) := by decide +kernel
theorem dX10_couples_9 : decode cX10_couples 9 = .ok (.iconst 1, 1) := by decide +kernel
theorem dX10_couples_10 : decode cX10_couples 10 = .ok (.isub, 1) := by decide +kernel
theorem dX10_couples_11 : decode cX10_couples 11 = .ok (.invokevirtual 121, 3) := by decide +kernel
theorem dX10_couples_14 : decode cX10_couples 14 = .ok (.ifCond .ne 5, 3) := by decide +kernel
theorem dX10_couples_17 : decode cX10_couples 17 = .ok (.iconst (-1), 1) := by decide +kernel
theorem dX10_couples_18 : decode cX10_couples 18 = .ok (.ireturn, 1) := by decide +kernel
theorem dX10_couples_19 : decode cX10_couples 19 = .ok (.aload_n 0, 1) := by decide +kernel
theorem dX10_couples_20 : decode cX10_couples 20 = .ok (.getfield 85, 3) := by decide +kernel
theorem dX10_couples_23 : decode cX10_couples 23 = .ok (.aload_n 0, 1) := by decide +kernel
theorem dX10_couples_24 : decode cX10_couples 24 = .ok (.getfield 12, 3) := by decide +kernel
theorem dX10_couples_27 : decode cX10_couples 27 = .ok (.invokevirtual 255, 3) := by decide +kernel
theorem dX10_couples_30 : decode cX10_couples 30 = .ok (.iload_n 1, 1) := by decide +kernel
theorem dX10_couples_31 : decode cX10_couples 31 = .ok (.ifCond .ne 13, 3) := by decide +kernel
theorem dX10_couples_34 : decode cX10_couples 34 = .ok (.aload_n 0, 1) := by decide +kernel
theorem dX10_couples_35 : decode cX10_couples 35 = .ok (.getfield 85, 3) := by decide +kernel
theorem dX10_couples_38 : decode cX10_couples 38 = .ok (.getfield 259, 3) := by decide +kernel
theorem dX10_couples_41 : decode cX10_couples 41 = .ok (.goto 14, 3) := by decide +kernel
theorem dX10_couples_44 : decode cX10_couples 44 = .ok (.aload_n 0, 1) := by decide +kernel
theorem dX10_couples_45 : decode cX10_couples 45 = .ok (.getfield 85, 3) := by decide +kernel
theorem dX10_couples_48 : decode cX10_couples 48 = .ok (.getfield 262, 3) := by decide +kernel
theorem dX10_couples_51 : decode cX10_couples 51 = .ok (.iload_n 1, 1) := by decide +kernel
theorem dX10_couples_52 : decode cX10_couples 52 = .ok (.iconst 1, 1) := by decide +kernel
theorem dX10_couples_53 : decode cX10_couples 53 = .ok (.isub, 1) := by decide +kernel
theorem dX10_couples_54 : decode cX10_couples 54 = .ok (.iaload, 1) := by decide +kernel
theorem dX10_couples_55 : decode cX10_couples 55 = .ok (.ireturn, 1) := by decide +kernel
def D_X10_couples_19 (h : z_H) (l0 : Option Nat) (l1 : Int32) : Option (Int32 × z_H) :=
  (z_gQ 10 h l0 11).bind fun x1592 =>
  (z_gQ 10 h l0 0).bind fun x1593 =>
  (z_ob 3 h x1592).bind fun _ =>
  (D_X3_couple  h x1592 x1593).bind fun p1594 =>
  if l1 = 0 then
    (z_gQ 10 p1594 l0 11).bind fun x1600 =>
    (z_gI 3 p1594 x1600 2).bind fun x1601 =>
    some (x1601, p1594)
  else
    (z_gQ 10 p1594 l0 11).bind fun x1597 =>
    (z_gQ 3 p1594 x1597 1).bind fun x1598 =>
    (z_aI .int p1594 x1598 (l1 - (1:Int32))).bind fun x1599 =>
    some (x1599, p1594)
set_option maxRecDepth 100000 in
set_option maxHeartbeats 4000000 in
theorem S_X10_couples_19 {G : z_G} {l : Launch}  {h : z_H} {l0 : Option Nat} {l1 : Int32} {res : (Int32 × z_H)} (e : D_X10_couples_19  h l0 l1 = some res) : z_Run G l 34 M_X10_couples 19 [(0, z_r l0), (1, .int l1)] [] h res.2 (some (.int res.1)) := by
  unfold D_X10_couples_19 at e
  refine z_aload_n 0 dX10_couples_19 rfl ?_
  replace e := z_bd e; obtain ⟨x1592, ex1592, e⟩ := e
  refine z_getQ ex1592 lk_X10_85 dX10_couples_20 ?_
  refine z_aload_n 0 dX10_couples_23 rfl ?_
  replace e := z_bd e; obtain ⟨x1593, ex1593, e⟩ := e
  refine z_getQ ex1593 lk_X10_12 dX10_couples_24 ?_
  replace e := z_bd e; obtain ⟨o1595, eo1595, e⟩ := e
  replace e := z_bd e; obtain ⟨p1594, ep1594, e⟩ := e
  refine z_cV [z_r x1593] (S_X3_couple  ep1594) eo1595 rfl ml_X10_255 ck_X3_couple vk_X3_couple dX10_couples_27 (by decide) rfl (Nat.zero_le _) rfl ?_
  refine z_iload_n 1 dX10_couples_30 rfl ?_
  refine z_if_ne (tgt := 44) dX10_couples_31 (by decide) (fun c1596 => ?_) (fun c1596 => ?_)
  · rw [if_neg c1596] at e
    refine z_aload_n 0 dX10_couples_44 rfl ?_
    replace e := z_bd e; obtain ⟨x1597, ex1597, e⟩ := e
    refine z_getQ ex1597 lk_X10_85 dX10_couples_45 ?_
    replace e := z_bd e; obtain ⟨x1598, ex1598, e⟩ := e
    refine z_getQ ex1598 lk_X10_262 dX10_couples_48 ?_
    refine z_iload_n 1 dX10_couples_51 rfl ?_
    refine z_iconst (v := 1) dX10_couples_52 (by decide) ?_
    refine z_isub dX10_couples_53 ?_
    replace e := z_bd e; obtain ⟨x1599, ex1599, e⟩ := e
    refine z_iald ex1599 dX10_couples_54 ?_
    cases e
    exact z_iret dX10_couples_55 rfl
  · rw [if_pos c1596] at e
    refine z_aload_n 0 dX10_couples_34 rfl ?_
    replace e := z_bd e; obtain ⟨x1600, ex1600, e⟩ := e
    refine z_getQ ex1600 lk_X10_85 dX10_couples_35 ?_
    replace e := z_bd e; obtain ⟨x1601, ex1601, e⟩ := e
    refine z_getI ex1601 lk_X10_259 dX10_couples_38 ?_
    refine z_goto (tgt := 55) dX10_couples_41 (by decide) ?_
    cases e
    exact z_iret dX10_couples_55 rfl
def D_X10_couples (h : z_H) (l0 : Option Nat) (l1 : Int32) : Option (Int32 × z_H) :=
  if l1 = 0 then
    D_X10_couples_19   h l0 l1
  else
    (z_gQ 10 h l0 0).bind fun x1603 =>
    (z_ob 9 h x1603).bind fun _ =>
    (D_X9_hasPair  h x1603 (l1 - (1:Int32))).bind fun p1604 =>
    if p1604.1 = 0 then
      some ((-1:Int32), p1604.2)
    else
      D_X10_couples_19   p1604.2 l0 l1
set_option maxRecDepth 100000 in
set_option maxHeartbeats 4000000 in
theorem S_X10_couples {G : z_G} {l : Launch} {h : z_H} {l0 : Option Nat} {l1 : Int32} {res : (Int32 × z_H)} (e : D_X10_couples h l0 l1 = some res) : z_Meth G l 34 M_X10_couples [z_r l0, .int l1] h res.2 (some (.int res.1)) := by
  refine z_Meth.of ck_X10_couples.2.2.2.2 (by simp [lg_sl, z_ci, z_cj, z_cr, z_cx]) ck_X10_couples.1 ?_
  rw [show lv_args 0 [z_r l0, .int l1] = [(0, z_r l0), (1, .int l1)] from by simp [lv_args, z_ci, z_cj, z_cr, z_cx]]
  unfold D_X10_couples at e
  refine z_iload_n 1 dX10_couples_0 rfl ?_
  refine z_if_eq (tgt := 19) dX10_couples_1 (by decide) (fun c1602 => ?_) (fun c1602 => ?_)
  · rw [if_pos c1602] at e
    exact z_weak [0, 1] rfl (S_X10_couples_19   e)
  · rw [if_neg c1602] at e
    refine z_aload_n 0 dX10_couples_4 rfl ?_
    replace e := z_bd e; obtain ⟨x1603, ex1603, e⟩ := e
    refine z_getQ ex1603 lk_X10_12 dX10_couples_5 ?_
    refine z_iload_n 1 dX10_couples_8 rfl ?_
    refine z_iconst (v := 1) dX10_couples_9 (by decide) ?_
    refine z_isub dX10_couples_10 ?_
    replace e := z_bd e; obtain ⟨o1605, eo1605, e⟩ := e
    replace e := z_bd e; obtain ⟨p1604, ep1604, e⟩ := e
    refine z_cV [.int (l1 - (1:Int32))] (S_X9_hasPair  ep1604) eo1605 rfl ml_X10_121 ck_X9_hasPair vk_X9_hasPair dX10_couples_11 (by decide) rfl (Nat.zero_le _) rfl ?_
    refine z_if_ne (tgt := 19) dX10_couples_14 (by decide) (fun c1606 => ?_) (fun c1606 => ?_)
    · rw [if_neg c1606] at e
      exact z_weak [0, 1] rfl (S_X10_couples_19   e)
    · rw [if_pos c1606] at e
      refine z_iconst (v := -1) dX10_couples_17 (by decide) ?_
      cases e
      exact z_iret dX10_couples_18 rfl
theorem dX11_goesWith_0 : decode cX11_goesWith 0 = .ok (.aload_n 0, 1) := by decide +kernel
theorem dX11_goesWith_1 : decode cX11_goesWith 1 = .ok (.getfield 132, 3) := by decide +kernel
theorem dX11_goesWith_4 : decode cX11_goesWith 4 = .ok (.iload_n 1, 1) := by decide +kernel
theorem dX11_goesWith_5 : decode cX11_goesWith 5 = .ok (.iaload, 1) := by decide +kernel
theorem dX11_goesWith_6 : decode cX11_goesWith 6 = .ok (.istore_n 2, 1) := by decide +kernel
theorem dX11_goesWith_7 : decode cX11_goesWith 7 = .ok (.iconst 0, 1) := by decide +kernel
theorem dX11_goesWith_8 : decode cX11_goesWith 8 = .ok (.istore_n 3, 1) := by decide +kernel
theorem dX11_goesWith_9 : decode cX11_goesWith 9 = .ok (.iconst 0, 1) := by decide +kernel
theorem dX11_goesWith_10 : decode cX11_goesWith 10 = .ok (.istore 4, 2) := by decide +kernel
theorem dX11_goesWith_12 : decode cX11_goesWith 12 = .ok (.iload 4, 2) := by decide +kernel
theorem dX11_goesWith_14 : decode cX11_goesWith 14 = .ok (.iload_n 1, 1) := by decide +kernel
theorem dX11_goesWith_15 : decode cX11_goesWith 15 = .ok (.if_icmp .gt 29, 3) := by decide +kernel
theorem dX11_goesWith_18 : decode cX11_goesWith 18 = .ok (.iload_n 3, 1) := by decide +kernel
theorem dX11_goesWith_19 : decode cX11_goesWith 19 = .ok (.aload_n 0, 1) := by decide +kernel
theorem dX11_goesWith_20 : decode cX11_goesWith 20 = .ok (.getfield 132, 3) := by decide +kernel
theorem dX11_goesWith_23 : decode cX11_goesWith 23 = .ok (.iload 4, 2) := by decide +kernel
theorem dX11_goesWith_25 : decode cX11_goesWith 25 = .ok (.iaload, 1) := by decide +kernel
theorem dX11_goesWith_26 : decode cX11_goesWith 26 = .ok (.iload 4, 2) := by decide +kernel
theorem dX11_goesWith_28 : decode cX11_goesWith 28 = .ok (.if_icmp .ne 7, 3) := by decide +kernel
theorem dX11_goesWith_31 : decode cX11_goesWith 31 = .ok (.iconst 1, 1) := by decide +kernel
theorem dX11_goesWith_32 : decode cX11_goesWith 32 = .ok (.goto 4, 3) := by decide +kernel
theorem dX11_goesWith_35 : decode cX11_goesWith 35 = .ok (.iconst 0, 1) := by decide +kernel
theorem dX11_goesWith_36 : decode cX11_goesWith 36 = .ok (.iadd, 1) := by decide +kernel
theorem dX11_goesWith_37 : decode cX11_goesWith 37 = .ok (.istore_n 3, 1) := by decide +kernel
theorem dX11_goesWith_38 : decode cX11_goesWith 38 = .ok (.iinc 4 1, 3) := by decide +kernel
theorem dX11_goesWith_41 : decode cX11_goesWith 41 = .ok (.goto (-29), 3) := by decide +kernel
theorem dX11_goesWith_44 : decode cX11_goesWith 44 = .ok (.iload_n 2, 1) := by decide +kernel
theorem dX11_goesWith_45 : decode cX11_goesWith 45 = .ok (.iload_n 1, 1) := by decide +kernel
theorem dX11_goesWith_46 : decode cX11_goesWith 46 = .ok (.if_icmp .ne 28, 3) := by decide +kernel
theorem dX11_goesWith_49 : decode cX11_goesWith 49 = .ok (.aload_n 0, 1) := by decide +kernel
theorem dX11_goesWith_50 : decode cX11_goesWith 50 = .ok (.getfield 13, 3) := by decide +kernel
theorem dX11_goesWith_53 : decode cX11_goesWith 53 = .ok (.iconst 0, 1) := by decide +kernel
theorem dX11_goesWith_54 : decode cX11_goesWith 54 = .ok (.iaload, 1) := by decide +kernel
theorem dX11_goesWith_55 : decode cX11_goesWith 55 = .ok (.iconst 2, 1) := by decide +kernel
theorem dX11_goesWith_56 : decode cX11_goesWith 56 = .ok (.irem, 1) := by decide +kernel
theorem dX11_goesWith_57 : decode cX11_goesWith 57 = .ok (.iconst 1, 1) := by decide +kernel
theorem dX11_goesWith_58 : decode cX11_goesWith 58 = .ok (.if_icmp .ne 12, 3) := by decide +kernel
theorem dX11_goesWith_61 : decode cX11_goesWith 61 = .ok (.iload_n 3, 1) := by decide +kernel
theorem dX11_goesWith_62 : decode cX11_goesWith 62 = .ok (.iconst 1, 1) := by decide +kernel
theorem dX11_goesWith_63 : decode cX11_goesWith 63 = .ok (.if_icmp .ne 7, 3) := by decide +kernel
theorem dX11_goesWith_66 : decode cX11_goesWith 66 = .ok (.iconst 1, 1) := by decide +kernel
theorem dX11_goesWith_67 : decode cX11_goesWith 67 = .ok (.goto 27, 3) := by decide +kernel
theorem dX11_goesWith_70 : decode cX11_goesWith 70 = .ok (.iconst 0, 1) := by decide +kernel
theorem dX11_goesWith_71 : decode cX11_goesWith 71 = .ok (.goto 23, 3) := by decide +kernel
theorem dX11_goesWith_74 : decode cX11_goesWith 74 = .ok (.iload_n 2, 1) := by decide +kernel
theorem dX11_goesWith_75 : decode cX11_goesWith 75 = .ok (.iload_n 1, 1) := by decide +kernel
theorem dX11_goesWith_76 : decode cX11_goesWith 76 = .ok (.if_icmp .gt 13, 3) := by decide +kernel
theorem dX11_goesWith_79 : decode cX11_goesWith 79 = .ok (.aload_n 0, 1) := by decide +kernel
theorem dX11_goesWith_80 : decode cX11_goesWith 80 = .ok (.getfield 132, 3) := by decide +kernel
theorem dX11_goesWith_83 : decode cX11_goesWith 83 = .ok (.iload_n 2, 1) := by decide +kernel
theorem dX11_goesWith_84 : decode cX11_goesWith 84 = .ok (.iaload, 1) := by decide +kernel
theorem dX11_goesWith_85 : decode cX11_goesWith 85 = .ok (.iload_n 1, 1) := by decide +kernel
theorem dX11_goesWith_86 : decode cX11_goesWith 86 = .ok (.if_icmp .ne 7, 3) := by decide +kernel
theorem dX11_goesWith_89 : decode cX11_goesWith 89 = .ok (.iconst 1, 1) := by decide +kernel
theorem dX11_goesWith_90 : decode cX11_goesWith 90 = .ok (.goto 4, 3) := by decide +kernel
theorem dX11_goesWith_93 : decode cX11_goesWith 93 = .ok (.iconst 0, 1) := by decide +kernel
theorem dX11_goesWith_94 : decode cX11_goesWith 94 = .ok (.istore 4, 2) := by decide +kernel
theorem dX11_goesWith_96 : decode cX11_goesWith 96 = .ok (.iconst 0, 1) := by decide +kernel
theorem dX11_goesWith_97 : decode cX11_goesWith 97 = .ok (.istore 5, 2) := by decide +kernel
theorem dX11_goesWith_99 : decode cX11_goesWith 99 = .ok (.iload 5, 2) := by decide +kernel
theorem dX11_goesWith_101 : decode cX11_goesWith 101 = .ok (.iload_n 1, 1) := by decide +kernel
theorem dX11_goesWith_102 : decode cX11_goesWith 102 = .ok (.if_icmp .ge 49, 3) := by decide +kernel
theorem dX11_goesWith_105 : decode cX11_goesWith 105 = .ok (.iload 4, 2) := by decide +kernel
theorem dX11_goesWith_107 : decode cX11_goesWith 107 = .ok (.ifCond .eq 35, 3) := by decide +kernel
theorem dX11_goesWith_110 : decode cX11_goesWith 110 = .ok (.aload_n 0, 1) := by decide +kernel
theorem dX11_goesWith_111 : decode cX11_goesWith 111 = .ok (.getfield 132, 3) := by decide +kernel
theorem dX11_goesWith_114 : decode cX11_goesWith 114 = .ok (.iload 5, 2) := by decide +kernel
theorem dX11_goesWith_116 : decode cX11_goesWith 116 = .ok (.iaload, 1) := by decide +kernel
theorem dX11_goesWith_117 : decode cX11_goesWith 117 = .ok (.iload_n 1, 1) := by decide +kernel
theorem dX11_goesWith_118 : decode cX11_goesWith 118 = .ok (.if_icmp .ne 9, 3) := by decide +kernel
theorem dX11_goesWith_121 : decode cX11_goesWith 121 = .ok (.iload_n 2, 1) := by decide +kernel
theorem dX11_goesWith_122 : decode cX11_goesWith 122 = .ok (.iload 5, 2) := by decide +kernel
theorem dX11_goesWith_124 : decode cX11_goesWith 124 = .ok (.if_icmp .ne 18, 3) := by decide +kernel
theorem dX11_goesWith_127 : decode cX11_goesWith 127 = .ok (.aload_n 0, 1) := by decide +kernel
theorem dX11_goesWith_128 : decode cX11_goesWith 128 = .ok (.getfield 132, 3) := by decide +kernel
theorem dX11_goesWith_131 : decode cX11_goesWith 131 = .ok (.iload 5, 2) := by decide +kernel
theorem dX11_goesWith_133 : decode cX11_goesWith 133 = .ok (.iaload, 1) := by decide +kernel
theorem dX11_goesWith_134 : decode cX11_goesWith 134 = .ok (.iload_n 2, 1) := by decide +kernel
theorem dX11_goesWith_135 : decode cX11_goesWith 135 = .ok (.if_icmp .eq 7, 3) := by decide +kernel
theorem dX11_goesWith_138 : decode cX11_goesWith 138 = .ok (.iconst 1, 1) := by decide +kernel
theorem dX11_goesWith_139 : decode cX11_goesWith 139 = .ok (.goto 4, 3) := by decide +kernel
theorem dX11_goesWith_142 : decode cX11_goesWith 142 = .ok (.iconst 0, 1) := by decide +kernel
theorem dX11_goesWith_143 : decode cX11_goesWith 143 = .ok (.istore 4, 2) := by decide +kernel
theorem dX11_goesWith_145 : decode cX11_goesWith 145 = .ok (.iinc 5 1, 3) := by decide +kernel
theorem dX11_goesWith_148 : decode cX11_goesWith 148 = .ok (.goto (-49), 3) := by decide +kernel
theorem dX11_goesWith_151 : decode cX11_goesWith 151 = .ok (.iload 4, 2) := by decide +kernel
theorem dX11_goesWith_153 : decode cX11_goesWith 153 = .ok (.ireturn, 1) := by decide +kernel
def D_X11_goesWith_143 (k99 : z_H → Option Nat → Int32 → Int32 → Int32 → Int32 → Option (Int32 × z_H)) (h : z_H) (l0 : Option Nat) (l1 : Int32) (l2 : Int32) (l5 : Int32) (s0 : Int32) : Option (Int32 × z_H) :=
  (some (l5 + (1:Int32))).bind fun x1607 =>
  k99 h l0 l1 l2 s0 x1607
set_option maxRecDepth 100000 in
set_option maxHeartbeats 4000000 in
theorem S_X11_goesWith_143 {G : z_G} {l : Launch} {k99 : z_H → Option Nat → Int32 → Int32 → Int32 → Int32 → Option (Int32 × z_H)} (hk99 : ∀ {h : z_H} {l0 : Option Nat} {l1 : Int32} {l2 : Int32} {l4 : Int32} {l5 : Int32} {res : (Int32 × z_H)}, k99 h l0 l1 l2 l4 l5 = some res → z_Run G l 4 M_X11_goesWith 99 [(0, z_r l0), (1, .int l1), (2, .int l2), (4, .int l4), (5, .int l5)] [] h res.2 (some (.int res.1))) {h : z_H} {l0 : Option Nat} {l1 : Int32} {l2 : Int32} {l5 : Int32} {s0 : Int32} {res : (Int32 × z_H)} (e : D_X11_goesWith_143 k99 h l0 l1 l2 l5 s0 = some res) : z_Run G l 4 M_X11_goesWith 143 [(0, z_r l0), (1, .int l1), (2, .int l2), (5, .int l5)] [.int s0] h res.2 (some (.int res.1)) := by
  unfold D_X11_goesWith_143 at e
  refine z_istore (L' := [(4, .int s0), (0, z_r l0), (1, .int l1), (2, .int l2), (5, .int l5)]) dX11_goesWith_143 (by decide) rfl ?_
  replace e := z_bd e; obtain ⟨x1607, ex1607, e⟩ := e
  refine z_iinc (q := 4) (v := x1607) (L' := [(5, .int x1607), (4, .int s0), (0, z_r l0), (1, .int l1), (2, .int l2)]) dX11_goesWith_145 rfl (Option.some.inj ex1607) (by decide) rfl ?_
  refine z_goto (tgt := 99) dX11_goesWith_148 (by decide) ?_
  exact z_weak [2, 3, 4, 1, 0] rfl (hk99 e)
def D_X11_goesWith_142 (k99 : z_H → Option Nat → Int32 → Int32 → Int32 → Int32 → Option (Int32 × z_H)) (h : z_H) (l0 : Option Nat) (l1 : Int32) (l2 : Int32) (l5 : Int32) : Option (Int32 × z_H) :=
  D_X11_goesWith_143  k99 h l0 l1 l2 l5 (0:Int32)
set_option maxRecDepth 100000 in
set_option maxHeartbeats 4000000 in
theorem S_X11_goesWith_142 {G : z_G} {l : Launch} {k99 : z_H → Option Nat → Int32 → Int32 → Int32 → Int32 → Option (Int32 × z_H)} (hk99 : ∀ {h : z_H} {l0 : Option Nat} {l1 : Int32} {l2 : Int32} {l4 : Int32} {l5 : Int32} {res : (Int32 × z_H)}, k99 h l0 l1 l2 l4 l5 = some res → z_Run G l 4 M_X11_goesWith 99 [(0, z_r l0), (1, .int l1), (2, .int l2), (4, .int l4), (5, .int l5)] [] h res.2 (some (.int res.1))) {h : z_H} {l0 : Option Nat} {l1 : Int32} {l2 : Int32} {l5 : Int32} {res : (Int32 × z_H)} (e : D_X11_goesWith_142 k99 h l0 l1 l2 l5 = some res) : z_Run G l 4 M_X11_goesWith 142 [(0, z_r l0), (1, .int l1), (2, .int l2), (5, .int l5)] [] h res.2 (some (.int res.1)) := by
  unfold D_X11_goesWith_142 at e
  refine z_iconst (v := 0) dX11_goesWith_142 (by decide) ?_
  exact z_weak [0, 1, 2, 3] rfl (S_X11_goesWith_143  @hk99 e)
def D_X11_goesWith_127 (k99 : z_H → Option Nat → Int32 → Int32 → Int32 → Int32 → Option (Int32 × z_H)) (h : z_H) (l0 : Option Nat) (l1 : Int32) (l2 : Int32) (l5 : Int32) : Option (Int32 × z_H) :=
  (z_gQ 11 h l0 47).bind fun x1608 =>
  (z_aI .int h x1608 l5).bind fun x1609 =>
  if x1609 = l2 then
    D_X11_goesWith_142  k99 h l0 l1 l2 l5
  else
    D_X11_goesWith_143  k99 h l0 l1 l2 l5 (1:Int32)
set_option maxRecDepth 100000 in
set_option maxHeartbeats 4000000 in
theorem S_X11_goesWith_127 {G : z_G} {l : Launch} {k99 : z_H → Option Nat → Int32 → Int32 → Int32 → Int32 → Option (Int32 × z_H)} (hk99 : ∀ {h : z_H} {l0 : Option Nat} {l1 : Int32} {l2 : Int32} {l4 : Int32} {l5 : Int32} {res : (Int32 × z_H)}, k99 h l0 l1 l2 l4 l5 = some res → z_Run G l 4 M_X11_goesWith 99 [(0, z_r l0), (1, .int l1), (2, .int l2), (4, .int l4), (5, .int l5)] [] h res.2 (some (.int res.1))) {h : z_H} {l0 : Option Nat} {l1 : Int32} {l2 : Int32} {l5 : Int32} {res : (Int32 × z_H)} (e : D_X11_goesWith_127 k99 h l0 l1 l2 l5 = some res) : z_Run G l 4 M_X11_goesWith 127 [(0, z_r l0), (1, .int l1), (2, .int l2), (5, .int l5)] [] h res.2 (some (.int res.1)) := by
  unfold D_X11_goesWith_127 at e
  refine z_aload_n 0 dX11_goesWith_127 rfl ?_
  replace e := z_bd e; obtain ⟨x1608, ex1608, e⟩ := e
  refine z_getQ ex1608 lk_X11_132 dX11_goesWith_128 ?_
  refine z_iload 3 dX11_goesWith_131 rfl ?_
  replace e := z_bd e; obtain ⟨x1609, ex1609, e⟩ := e
  refine z_iald ex1609 dX11_goesWith_133 ?_
  refine z_iload_n 2 dX11_goesWith_134 rfl ?_
  refine z_icmp_eq (tgt := 142) dX11_goesWith_135 (by decide) (fun c1610 => ?_) (fun c1610 => ?_)
  · rw [if_pos c1610] at e
    exact z_weak [0, 1, 2, 3] rfl (S_X11_goesWith_142  @hk99 e)
  · rw [if_neg c1610] at e
    refine z_iconst (v := 1) dX11_goesWith_138 (by decide) ?_
    refine z_goto (tgt := 143) dX11_goesWith_139 (by decide) ?_
    exact z_weak [0, 1, 2, 3] rfl (S_X11_goesWith_143  @hk99 e)
def D_X11_goesWith_99b (k99 : z_H → Option Nat → Int32 → Int32 → Int32 → Int32 → Option (Int32 × z_H)) (h : z_H) (l0 : Option Nat) (l1 : Int32) (l2 : Int32) (l4 : Int32) (l5 : Int32) : Option (Int32 × z_H) :=
  if l1 ≤ l5 then
    if l4 = 0 ∨ l4 = 1 then some (l4, h) else none
  else
    if l4 = 0 then
      D_X11_goesWith_142  k99 h l0 l1 l2 l5
    else
      (z_gQ 11 h l0 47).bind fun x1614 =>
      (z_aI .int h x1614 l5).bind fun x1615 =>
      if x1615 = l1 then
        if l2 = l5 then
          D_X11_goesWith_127  k99 h l0 l1 l2 l5
        else
          D_X11_goesWith_142  k99 h l0 l1 l2 l5
      else
        D_X11_goesWith_127  k99 h l0 l1 l2 l5
def D_X11_goesWith_99 (n : Nat) : z_H → Option Nat → Int32 → Int32 → Int32 → Int32 → Option (Int32 × z_H) := Nat.rec (motive := fun _ => z_H → Option Nat → Int32 → Int32 → Int32 → Int32 → Option (Int32 × z_H)) (fun _ _ _ _ _ _ => none) (fun _ k => D_X11_goesWith_99b  k) n
set_option maxRecDepth 100000 in
set_option maxHeartbeats 4000000 in
theorem S_X11_goesWith_99 {G : z_G} {l : Launch}  (n : Nat) : ∀ {h : z_H} {l0 : Option Nat} {l1 : Int32} {l2 : Int32} {l4 : Int32} {l5 : Int32} {res : (Int32 × z_H)}, D_X11_goesWith_99  n h l0 l1 l2 l4 l5 = some res → z_Run G l 4 M_X11_goesWith 99 [(0, z_r l0), (1, .int l1), (2, .int l2), (4, .int l4), (5, .int l5)] [] h res.2 (some (.int res.1)) := by
  induction n with
  | zero => intro h l0 l1 l2 l4 l5 res e; cases e
  | succ n hk99 =>
    intro h l0 l1 l2 l4 l5 res e
    replace e : D_X11_goesWith_99b  (D_X11_goesWith_99  n) h l0 l1 l2 l4 l5 = some res := e
    unfold D_X11_goesWith_99b at e
    refine z_iload 4 dX11_goesWith_99 rfl ?_
    refine z_iload_n 1 dX11_goesWith_101 rfl ?_
    refine z_icmp_ge (tgt := 151) dX11_goesWith_102 (by decide) (fun c1611 => ?_) (fun c1611 => ?_)
    · rw [if_pos c1611] at e
      refine z_iload 3 dX11_goesWith_151 rfl ?_
      replace e := z_ifs e; obtain ⟨c1612, e⟩ := e
      cases e
      exact z_zret dX11_goesWith_153 rfl (z_nz c1612).1
    · rw [if_neg c1611] at e
      refine z_iload 3 dX11_goesWith_105 rfl ?_
      refine z_if_eq (tgt := 142) dX11_goesWith_107 (by decide) (fun c1613 => ?_) (fun c1613 => ?_)
      · rw [if_pos c1613] at e
        exact z_weak [0, 1, 2, 4] rfl (S_X11_goesWith_142  @hk99 e)
      · rw [if_neg c1613] at e
        refine z_aload_n 0 dX11_goesWith_110 rfl ?_
        replace e := z_bd e; obtain ⟨x1614, ex1614, e⟩ := e
        refine z_getQ ex1614 lk_X11_132 dX11_goesWith_111 ?_
        refine z_iload 4 dX11_goesWith_114 rfl ?_
        replace e := z_bd e; obtain ⟨x1615, ex1615, e⟩ := e
        refine z_iald ex1615 dX11_goesWith_116 ?_
        refine z_iload_n 1 dX11_goesWith_117 rfl ?_
        refine z_icmp_ne (tgt := 127) dX11_goesWith_118 (by decide) (fun c1616 => ?_) (fun c1616 => ?_)
        · rw [if_neg c1616] at e
          exact z_weak [0, 1, 2, 4] rfl (S_X11_goesWith_127  @hk99 e)
        · rw [if_pos c1616] at e
          refine z_iload_n 2 dX11_goesWith_121 rfl ?_
          refine z_iload 4 dX11_goesWith_122 rfl ?_
          refine z_icmp_ne (tgt := 142) dX11_goesWith_124 (by decide) (fun c1617 => ?_) (fun c1617 => ?_)
          · rw [if_neg c1617] at e
            exact z_weak [0, 1, 2, 4] rfl (S_X11_goesWith_142  @hk99 e)
          · rw [if_pos c1617] at e
            exact z_weak [0, 1, 2, 4] rfl (S_X11_goesWith_127  @hk99 e)
def D_X11_goesWith_94 (h : z_H) (l0 : Option Nat) (l1 : Int32) (l2 : Int32) (s0 : Int32) : Option (Int32 × z_H) :=
  D_X11_goesWith_99   z_F h l0 l1 l2 s0 (0:Int32)
set_option maxRecDepth 100000 in
set_option maxHeartbeats 4000000 in
theorem S_X11_goesWith_94 {G : z_G} {l : Launch}  {h : z_H} {l0 : Option Nat} {l1 : Int32} {l2 : Int32} {s0 : Int32} {res : (Int32 × z_H)} (e : D_X11_goesWith_94  h l0 l1 l2 s0 = some res) : z_Run G l 4 M_X11_goesWith 94 [(0, z_r l0), (1, .int l1), (2, .int l2)] [.int s0] h res.2 (some (.int res.1)) := by
  unfold D_X11_goesWith_94 at e
  refine z_istore (L' := [(4, .int s0), (0, z_r l0), (1, .int l1), (2, .int l2)]) dX11_goesWith_94 (by decide) rfl ?_
  refine z_iconst (v := 0) dX11_goesWith_96 (by decide) ?_
  refine z_istore (L' := [(5, .int (0:Int32)), (4, .int s0), (0, z_r l0), (1, .int l1), (2, .int l2)]) dX11_goesWith_97 (by decide) rfl ?_
  exact z_weak [2, 3, 4, 1, 0] rfl (S_X11_goesWith_99   z_F e)
def D_X11_goesWith_89 (h : z_H) (l0 : Option Nat) (l1 : Int32) (l2 : Int32) : Option (Int32 × z_H) :=
  D_X11_goesWith_94   h l0 l1 l2 (1:Int32)
set_option maxRecDepth 100000 in
set_option maxHeartbeats 4000000 in
theorem S_X11_goesWith_89 {G : z_G} {l : Launch}  {h : z_H} {l0 : Option Nat} {l1 : Int32} {l2 : Int32} {res : (Int32 × z_H)} (e : D_X11_goesWith_89  h l0 l1 l2 = some res) : z_Run G l 4 M_X11_goesWith 89 [(0, z_r l0), (1, .int l1), (2, .int l2)] [] h res.2 (some (.int res.1)) := by
  unfold D_X11_goesWith_89 at e
  refine z_iconst (v := 1) dX11_goesWith_89 (by decide) ?_
  refine z_goto (tgt := 94) dX11_goesWith_90 (by decide) ?_
  exact z_weak [0, 1, 2] rfl (S_X11_goesWith_94   e)
def D_X11_goesWith_70 (h : z_H) (l0 : Option Nat) (l1 : Int32) (l2 : Int32) : Option (Int32 × z_H) :=
  D_X11_goesWith_94   h l0 l1 l2 (0:Int32)
set_option maxRecDepth 100000 in
set_option maxHeartbeats 4000000 in
theorem S_X11_goesWith_70 {G : z_G} {l : Launch}  {h : z_H} {l0 : Option Nat} {l1 : Int32} {l2 : Int32} {res : (Int32 × z_H)} (e : D_X11_goesWith_70  h l0 l1 l2 = some res) : z_Run G l 4 M_X11_goesWith 70 [(0, z_r l0), (1, .int l1), (2, .int l2)] [] h res.2 (some (.int res.1)) := by
  unfold D_X11_goesWith_70 at e
  refine z_iconst (v := 0) dX11_goesWith_70 (by decide) ?_
  refine z_goto (tgt := 94) dX11_goesWith_71 (by decide) ?_
  exact z_weak [0, 1, 2] rfl (S_X11_goesWith_94   e)
def D_X11_goesWith_36 (k12 : z_H → Option Nat → Int32 → Int32 → Int32 → Int32 → Option (Int32 × z_H)) (h : z_H) (l0 : Option Nat) (l1 : Int32) (l2 : Int32) (l4 : Int32) (s0 : Int32) (s1 : Int32) : Option (Int32 × z_H) :=
  (some (s0 + s1)).bind fun x1618 =>
  (some (l4 + (1:Int32))).bind fun x1619 =>
  k12 h l0 l1 l2 x1618 x1619
set_option maxRecDepth 100000 in
set_option maxHeartbeats 4000000 in
theorem S_X11_goesWith_36 {G : z_G} {l : Launch} {k12 : z_H → Option Nat → Int32 → Int32 → Int32 → Int32 → Option (Int32 × z_H)} (hk12 : ∀ {h : z_H} {l0 : Option Nat} {l1 : Int32} {l2 : Int32} {l3 : Int32} {l4 : Int32} {res : (Int32 × z_H)}, k12 h l0 l1 l2 l3 l4 = some res → z_Run G l 4 M_X11_goesWith 12 [(0, z_r l0), (1, .int l1), (2, .int l2), (3, .int l3), (4, .int l4)] [] h res.2 (some (.int res.1))) {h : z_H} {l0 : Option Nat} {l1 : Int32} {l2 : Int32} {l4 : Int32} {s0 : Int32} {s1 : Int32} {res : (Int32 × z_H)} (e : D_X11_goesWith_36 k12 h l0 l1 l2 l4 s0 s1 = some res) : z_Run G l 4 M_X11_goesWith 36 [(0, z_r l0), (1, .int l1), (2, .int l2), (4, .int l4)] [.int s1, .int s0] h res.2 (some (.int res.1)) := by
  unfold D_X11_goesWith_36 at e
  refine z_iadd dX11_goesWith_36 ?_
  replace e := z_bd e; obtain ⟨x1618, ex1618, e⟩ := e
  refine z_topI ex1618 ?_
  refine z_istore_n (L' := [(3, .int x1618), (0, z_r l0), (1, .int l1), (2, .int l2), (4, .int l4)]) dX11_goesWith_37 rfl (by decide) rfl ?_
  replace e := z_bd e; obtain ⟨x1619, ex1619, e⟩ := e
  refine z_iinc (q := 4) (v := x1619) (L' := [(4, .int x1619), (3, .int x1618), (0, z_r l0), (1, .int l1), (2, .int l2)]) dX11_goesWith_38 rfl (Option.some.inj ex1619) (by decide) rfl ?_
  refine z_goto (tgt := 12) dX11_goesWith_41 (by decide) ?_
  exact z_weak [2, 3, 4, 1, 0] rfl (hk12 e)
def D_X11_goesWith_12b (k12 : z_H → Option Nat → Int32 → Int32 → Int32 → Int32 → Option (Int32 × z_H)) (h : z_H) (l0 : Option Nat) (l1 : Int32) (l2 : Int32) (l3 : Int32) (l4 : Int32) : Option (Int32 × z_H) :=
  if l1 < l4 then
    if l2 = l1 then
      (z_gQ 11 h l0 3).bind fun x1626 =>
      (z_aI .int h x1626 (0:Int32)).bind fun x1627 =>
      if (x1627 - x1627 / (2:Int32) * (2:Int32)) = (1:Int32) then
        if l3 = (1:Int32) then
          D_X11_goesWith_94   h l0 l1 l2 (1:Int32)
        else
          D_X11_goesWith_70   h l0 l1 l2
      else
        D_X11_goesWith_70   h l0 l1 l2
    else
      if l1 < l2 then
        D_X11_goesWith_89   h l0 l1 l2
      else
        (z_gQ 11 h l0 47).bind fun x1623 =>
        (z_aI .int h x1623 l2).bind fun x1624 =>
        if x1624 = l1 then
          D_X11_goesWith_89   h l0 l1 l2
        else
          D_X11_goesWith_94   h l0 l1 l2 (0:Int32)
  else
    (z_gQ 11 h l0 47).bind fun x1630 =>
    (z_aI .int h x1630 l4).bind fun x1631 =>
    if x1631 = l4 then
      D_X11_goesWith_36  k12 h l0 l1 l2 l4 l3 (1:Int32)
    else
      D_X11_goesWith_36  k12 h l0 l1 l2 l4 l3 (0:Int32)
def D_X11_goesWith_12 (n : Nat) : z_H → Option Nat → Int32 → Int32 → Int32 → Int32 → Option (Int32 × z_H) := Nat.rec (motive := fun _ => z_H → Option Nat → Int32 → Int32 → Int32 → Int32 → Option (Int32 × z_H)) (fun _ _ _ _ _ _ => none) (fun _ k => D_X11_goesWith_12b  k) n
set_option maxRecDepth 100000 in
set_option maxHeartbeats 4000000 in
theorem S_X11_goesWith_12 {G : z_G} {l : Launch}  (n : Nat) : ∀ {h : z_H} {l0 : Option Nat} {l1 : Int32} {l2 : Int32} {l3 : Int32} {l4 : Int32} {res : (Int32 × z_H)}, D_X11_goesWith_12  n h l0 l1 l2 l3 l4 = some res → z_Run G l 4 M_X11_goesWith 12 [(0, z_r l0), (1, .int l1), (2, .int l2), (3, .int l3), (4, .int l4)] [] h res.2 (some (.int res.1)) := by
  induction n with
  | zero => intro h l0 l1 l2 l3 l4 res e; cases e
  | succ n hk12 =>
    intro h l0 l1 l2 l3 l4 res e
    replace e : D_X11_goesWith_12b  (D_X11_goesWith_12  n) h l0 l1 l2 l3 l4 = some res := e
    unfold D_X11_goesWith_12b at e
    refine z_iload 4 dX11_goesWith_12 rfl ?_
    refine z_iload_n 1 dX11_goesWith_14 rfl ?_
    refine z_icmp_gt (tgt := 44) dX11_goesWith_15 (by decide) (fun c1620 => ?_) (fun c1620 => ?_)
    · rw [if_pos c1620] at e
      refine z_iload_n 2 dX11_goesWith_44 rfl ?_
      refine z_iload_n 1 dX11_goesWith_45 rfl ?_
      refine z_icmp_ne (tgt := 74) dX11_goesWith_46 (by decide) (fun c1621 => ?_) (fun c1621 => ?_)
      · rw [if_neg c1621] at e
        refine z_iload_n 2 dX11_goesWith_74 rfl ?_
        refine z_iload_n 1 dX11_goesWith_75 rfl ?_
        refine z_icmp_gt (tgt := 89) dX11_goesWith_76 (by decide) (fun c1622 => ?_) (fun c1622 => ?_)
        · rw [if_pos c1622] at e
          exact z_weak [0, 1, 2] rfl (S_X11_goesWith_89   e)
        · rw [if_neg c1622] at e
          refine z_aload_n 0 dX11_goesWith_79 rfl ?_
          replace e := z_bd e; obtain ⟨x1623, ex1623, e⟩ := e
          refine z_getQ ex1623 lk_X11_132 dX11_goesWith_80 ?_
          refine z_iload_n 2 dX11_goesWith_83 rfl ?_
          replace e := z_bd e; obtain ⟨x1624, ex1624, e⟩ := e
          refine z_iald ex1624 dX11_goesWith_84 ?_
          refine z_iload_n 1 dX11_goesWith_85 rfl ?_
          refine z_icmp_ne (tgt := 93) dX11_goesWith_86 (by decide) (fun c1625 => ?_) (fun c1625 => ?_)
          · rw [if_neg c1625] at e
            refine z_iconst (v := 0) dX11_goesWith_93 (by decide) ?_
            exact z_weak [0, 1, 2] rfl (S_X11_goesWith_94   e)
          · rw [if_pos c1625] at e
            exact z_weak [0, 1, 2] rfl (S_X11_goesWith_89   e)
      · rw [if_pos c1621] at e
        refine z_aload_n 0 dX11_goesWith_49 rfl ?_
        replace e := z_bd e; obtain ⟨x1626, ex1626, e⟩ := e
        refine z_getQ ex1626 lk_X11_13 dX11_goesWith_50 ?_
        refine z_iconst (v := 0) dX11_goesWith_53 (by decide) ?_
        replace e := z_bd e; obtain ⟨x1627, ex1627, e⟩ := e
        refine z_iald ex1627 dX11_goesWith_54 ?_
        refine z_iconst (v := 2) dX11_goesWith_55 (by decide) ?_
        refine z_irem dX11_goesWith_56 (by decide) ?_
        refine z_iconst (v := 1) dX11_goesWith_57 (by decide) ?_
        refine z_icmp_ne (tgt := 70) dX11_goesWith_58 (by decide) (fun c1628 => ?_) (fun c1628 => ?_)
        · rw [if_neg c1628] at e
          exact z_weak [0, 1, 2] rfl (S_X11_goesWith_70   e)
        · rw [if_pos c1628] at e
          refine z_iload_n 3 dX11_goesWith_61 rfl ?_
          refine z_iconst (v := 1) dX11_goesWith_62 (by decide) ?_
          refine z_icmp_ne (tgt := 70) dX11_goesWith_63 (by decide) (fun c1629 => ?_) (fun c1629 => ?_)
          · rw [if_neg c1629] at e
            exact z_weak [0, 1, 2] rfl (S_X11_goesWith_70   e)
          · rw [if_pos c1629] at e
            refine z_iconst (v := 1) dX11_goesWith_66 (by decide) ?_
            refine z_goto (tgt := 94) dX11_goesWith_67 (by decide) ?_
            exact z_weak [0, 1, 2] rfl (S_X11_goesWith_94   e)
    · rw [if_neg c1620] at e
      refine z_iload_n 3 dX11_goesWith_18 rfl ?_
      refine z_aload_n 0 dX11_goesWith_19 rfl ?_
      replace e := z_bd e; obtain ⟨x1630, ex1630, e⟩ := e
      refine z_getQ ex1630 lk_X11_132 dX11_goesWith_20 ?_
      refine z_iload 4 dX11_goesWith_23 rfl ?_
      replace e := z_bd e; obtain ⟨x1631, ex1631, e⟩ := e
      refine z_iald ex1631 dX11_goesWith_25 ?_
      refine z_iload 4 dX11_goesWith_26 rfl ?_
      refine z_icmp_ne (tgt := 35) dX11_goesWith_28 (by decide) (fun c1632 => ?_) (fun c1632 => ?_)
      · rw [if_neg c1632] at e
        refine z_iconst (v := 0) dX11_goesWith_35 (by decide) ?_
        exact z_weak [0, 1, 2, 4] rfl (S_X11_goesWith_36  @hk12 e)
      · rw [if_pos c1632] at e
        refine z_iconst (v := 1) dX11_goesWith_31 (by decide) ?_
        refine z_goto (tgt := 36) dX11_goesWith_32 (by decide) ?_
        exact z_weak [0, 1, 2, 4] rfl (S_X11_goesWith_36  @hk12 e)
def D_X11_goesWith (h : z_H) (l0 : Option Nat) (l1 : Int32) : Option (Int32 × z_H) :=
  (z_gQ 11 h l0 47).bind fun x1633 =>
  (z_aI .int h x1633 l1).bind fun x1634 =>
  D_X11_goesWith_12   z_F h l0 l1 x1634 (0:Int32) (0:Int32)
set_option maxRecDepth 100000 in
set_option maxHeartbeats 4000000 in
theorem S_X11_goesWith {G : z_G} {l : Launch} {h : z_H} {l0 : Option Nat} {l1 : Int32} {res : (Int32 × z_H)} (e : D_X11_goesWith h l0 l1 = some res) : z_Meth G l 4 M_X11_goesWith [z_r l0, .int l1] h res.2 (some (.int res.1)) := by
  refine z_Meth.of ck_X11_goesWith.2.2.2.2 (by simp [lg_sl, z_ci, z_cj, z_cr, z_cx]) ck_X11_goesWith.1 ?_
  rw [show lv_args 0 [z_r l0, .int l1] = [(0, z_r l0), (1, .int l1)] from by simp [lv_args, z_ci, z_cj, z_cr, z_cx]]
  unfold D_X11_goesWith at e
  refine z_aload_n 0 dX11_goesWith_0 rfl ?_
  replace e := z_bd e; obtain ⟨x1633, ex1633, e⟩ := e
  refine z_getQ ex1633 lk_X11_132 dX11_goesWith_1 ?_
  refine z_iload_n 1 dX11_goesWith_4 rfl ?_
  replace e := z_bd e; obtain ⟨x1634, ex1634, e⟩ := e
  refine z_iald ex1634 dX11_goesWith_5 ?_
  refine z_istore_n (L' := [(2, .int x1634), (0, z_r l0), (1, .int l1)]) dX11_goesWith_6 rfl (by decide) rfl ?_
  refine z_iconst (v := 0) dX11_goesWith_7 (by decide) ?_
  refine z_istore_n (L' := [(3, .int (0:Int32)), (2, .int x1634), (0, z_r l0), (1, .int l1)]) dX11_goesWith_8 rfl (by decide) rfl ?_
  refine z_iconst (v := 0) dX11_goesWith_9 (by decide) ?_
  refine z_istore (L' := [(4, .int (0:Int32)), (3, .int (0:Int32)), (2, .int x1634), (0, z_r l0), (1, .int l1)]) dX11_goesWith_10 (by decide) rfl ?_
  exact z_weak [3, 4, 2, 1, 0] rfl (S_X11_goesWith_12   z_F e)
theorem dX11_findCouples_0 : decode cX11_findCouples 0 = .ok (.aload_n 0, 1) := by decide +kernel
theorem dX11_findCouples_1 : decode cX11_findCouples 1 = .ok (.getfield 13, 3) := by decide +kernel
theorem dX11_findCouples_4 : decode cX11_findCouples 4 = .ok (.iconst 0, 1) := by decide +kernel
theorem dX11_findCouples_5 : decode cX11_findCouples 5 = .ok (.iaload, 1) := by decide +kernel
theorem dX11_findCouples_6 : decode cX11_findCouples 6 = .ok (.istore_n 1, 1) := by decide +kernel
theorem dX11_findCouples_7 : decode cX11_findCouples 7 = .ok (.ldc_w 489, 3) := by decide +kernel
theorem dX11_findCouples_10 : decode cX11_findCouples 10 = .ok (.istore_n 2, 1) := by decide +kernel
theorem dX11_findCouples_11 : decode cX11_findCouples 11 = .ok (.iconst 0, 1) := by decide +kernel
theorem dX11_findCouples_12 : decode cX11_findCouples 12 = .ok (.istore_n 3, 1) := by decide +kernel
theorem dX11_findCouples_13 : decode cX11_findCouples 13 = .ok (.aload_n 0, 1) := by decide +kernel
theorem dX11_findCouples_14 : decode cX11_findCouples 14 = .ok (.getfield 132, 3) := by decide +kernel
theorem dX11_findCouples_17 : decode cX11_findCouples 17 = .ok (.iconst 0, 1) := by decide +kernel
theorem dX11_findCouples_18 : decode cX11_findCouples 18 = .ok (.iconst (-1), 1) := by decide +kernel
theorem dX11_findCouples_19 : decode cX11_findCouples 19 = .ok (.iastore, 1) := by decide +kernel
theorem dX11_findCouples_20 : decode cX11_findCouples 20 = .ok (.iload_n 1, 1) := by decide +kernel
theorem dX11_findCouples_21 : decode cX11_findCouples 21 = .ok (.ifCond .ne 5, 3) := by decide +kernel
theorem dX11_findCouples_24 : decode cX11_findCouples 24 = .ok (.iconst 0, 1) := by decide +kernel
theorem dX11_findCouples_25 : decode cX11_findCouples 25 = .ok (.ireturn, 1) := by decide +kernel
theorem dX11_findCouples_26 : decode cX11_findCouples 26 = .ok (.iload_n 3, 1) := by decide +kernel
theorem dX11_findCouples_27 : decode cX11_findCouples 27 = .ok (.ifCond .lt 176, 3) := by decide +kernel
theorem dX11_findCouples_30 : decode cX11_findCouples 30 = .ok (.aload_n 0, 1) := by decide +kernel
theorem dX11_findCouples_31 : decode cX11_findCouples 31 = .ok (.getfield 132, 3) := by decide +kernel
theorem dX11_findCouples_34 : decode cX11_findCouples 34 = .ok (.iload_n 3, 1) := by decide +kernel
theorem dX11_findCouples_35 : decode cX11_findCouples 35 = .ok (.dup2, 1) := by decide +kernel
theorem dX11_findCouples_36 : decode cX11_findCouples 36 = .ok (.iaload, 1) := by decide +kernel
theorem dX11_findCouples_37 : decode cX11_findCouples 37 = .ok (.iconst 1, 1) := by decide +kernel
theorem dX11_findCouples_38 : decode cX11_findCouples 38 = .ok (.iadd, 1) := by decide +kernel
theorem dX11_findCouples_39 : decode cX11_findCouples 39 = .ok (.iastore, 1) := by decide +kernel
theorem dX11_findCouples_40 : decode cX11_findCouples 40 = .ok (.iload_n 3, 1) := by decide +kernel
theorem dX11_findCouples_41 : decode cX11_findCouples 41 = .ok (.iload_n 1, 1) := by decide +kernel
theorem dX11_findCouples_42 : decode cX11_findCouples 42 = .ok (.if_icmp .eq 13, 3) := by decide +kernel
theorem dX11_findCouples_45 : decode cX11_findCouples 45 = .ok (.aload_n 0, 1) := by decide +kernel
theorem dX11_findCouples_46 : decode cX11_findCouples 46 = .ok (.getfield 132, 3) := by decide +kernel
theorem dX11_findCouples_49 : decode cX11_findCouples 49 = .ok (.iload_n 3, 1) := by decide +kernel
theorem dX11_findCouples_50 : decode cX11_findCouples 50 = .ok (.iaload, 1) := by decide +kernel
theorem dX11_findCouples_51 : decode cX11_findCouples 51 = .ok (.iload_n 1, 1) := by decide +kernel
theorem dX11_findCouples_52 : decode cX11_findCouples 52 = .ok (.if_icmp .lt 9, 3) := by decide +kernel
theorem dX11_findCouples_55 : decode cX11_findCouples 55 = .ok (.iinc 3 (-1), 3) := by decide +kernel
theorem dX11_findCouples_58 : decode cX11_findCouples 58 = .ok (.goto (-32), 3) := by decide +kernel
theorem dX11_findCouples_61 : decode cX11_findCouples 61 = .ok (.aload_n 0, 1) := by decide +kernel
theorem dX11_findCouples_62 : decode cX11_findCouples 62 = .ok (.iload_n 3, 1) := by decide +kernel
theorem dX11_findCouples_63 : decode cX11_findCouples 63 = .ok (.invokevirtual 505, 3) := by decide +kernel
theorem dX11_findCouples_66 : decode cX11_findCouples 66 = .ok (.ifCond .eq (-40), 3) := by decide +kernel
theorem dX11_findCouples_69 : decode cX11_findCouples 69 = .ok (.iinc 3 1, 3) := by decide +kernel
theorem dX11_findCouples_72 : decode cX11_findCouples 72 = .ok (.aload_n 0, 1) := by decide +kernel
theorem dX11_findCouples_73 : decode cX11_findCouples 73 = .ok (.getfield 132, 3) := by decide +kernel
theorem dX11_findCouples_76 : decode cX11_findCouples 76 = .ok (.iload_n 3, 1) := by decide +kernel
theorem dX11_findCouples_77 : decode cX11_findCouples 77 = .ok (.iconst (-1), 1) := by decide +kernel
theorem dX11_findCouples_78 : decode cX11_findCouples 78 = .ok (.iastore, 1) := by decide +kernel
theorem dX11_findCouples_79 : decode cX11_findCouples 79 = .ok (.iconst 0, 1) := by decide +kernel
theorem dX11_findCouples_80 : decode cX11_findCouples 80 = .ok (.istore 4, 2) := by decide +kernel
theorem dX11_findCouples_82 : decode cX11_findCouples 82 = .ok (.iconst 0, 1) := by decide +kernel
theorem dX11_findCouples_83 : decode cX11_findCouples 83 = .ok (.istore 5, 2) := by decide +kernel
theorem dX11_findCouples_85 : decode cX11_findCouples 85 = .ok (.iload 5, 2) := by decide +kernel
theorem dX11_findCouples_87 : decode cX11_findCouples 87 = .ok (.iload_n 1, 1) := by decide +kernel
theorem dX11_findCouples_88 : decode cX11_findCouples 88 = .ok (.if_icmp .ge 48, 3) := by decide +kernel
theorem dX11_findCouples_91 : decode cX11_findCouples 91 = .ok (.iload_n 3, 1) := by decide +kernel
theorem dX11_findCouples_92 : decode cX11_findCouples 92 = .ok (.iload_n 1, 1) := by decide +kernel
theorem dX11_findCouples_93 : decode cX11_findCouples 93 = .ok (.if_icmp .ne 43, 3) := by decide +kernel
theorem dX11_findCouples_96 : decode cX11_findCouples 96 = .ok (.iload 4, 2) := by decide +kernel
theorem dX11_findCouples_98 : decode cX11_findCouples 98 = .ok (.aload_n 0, 1) := by decide +kernel
theorem dX11_findCouples_99 : decode cX11_findCouples 99 = .ok (.getfield 132, 3) := by decide +kernel
theorem dX11_findCouples_102 : decode cX11_findCouples 102 = .ok (.iload 5, 2) := by decide +kernel
theorem dX11_findCouples_104 : decode cX11_findCouples 104 = .ok (.iaload, 1) := by decide +kernel
theorem dX11_findCouples_105 : decode cX11_findCouples 105 = .ok (.iload 5, 2) := by decide +kernel
theorem dX11_findCouples_107 : decode cX11_findCouples 107 = .ok (.if_icmp .le 19, 3) := by decide +kernel
theorem dX11_findCouples_110 : decode cX11_findCouples 110 = .ok (.aload_n 0, 1) := by decide +kernel
theorem dX11_findCouples_111 : decode cX11_findCouples 111 = .ok (.iload 5, 2) := by decide +kernel
theorem dX11_findCouples_113 : decode cX11_findCouples 113 = .ok (.aload_n 0, 1) := by decide +kernel
theorem dX11_findCouples_114 : decode cX11_findCouples 114 = .ok (.getfield 132, 3) := by decide +kernel
theorem dX11_findCouples_117 : decode cX11_findCouples 117 = .ok (.iload 5, 2) := by decide +kernel
theorem dX11_findCouples_119 : decode cX11_findCouples 119 = .ok (.iaload, 1) := by decide +kernel
theorem dX11_findCouples_120 : decode cX11_findCouples 120 = .ok (.invokevirtual 508, 3) := by decide +kernel
theorem dX11_findCouples_123 : decode cX11_findCouples 123 = .ok (.goto 4, 3) := by decide +kernel
theorem dX11_findCouples_126 : decode cX11_findCouples 126 = .ok (.iconst 0, 1) := by decide +kernel
theorem dX11_findCouples_127 : decode cX11_findCouples 127 = .ok (.iadd, 1) := by decide +kernel
theorem dX11_findCouples_128 : decode cX11_findCouples 128 = .ok (.istore 4, 2) := by decide +kernel
theorem dX11_findCouples_130 : decode cX11_findCouples 130 = .ok (.iinc 5 1, 3) := by decide +kernel
theorem dX11_findCouples_133 : decode cX11_findCouples 133 = .ok (.goto (-48), 3) := by decide +kernel
theorem dX11_findCouples_136 : decode cX11_findCouples 136 = .ok (.iload_n 3, 1) := by decide +kernel
theorem dX11_findCouples_137 : decode cX11_findCouples 137 = .ok (.iload_n 1, 1) := by decide +kernel
theorem dX11_findCouples_138 : decode cX11_findCouples 138 = .ok (.if_icmp .ne 13, 3) := by decide +kernel
theorem dX11_findCouples_141 : decode cX11_findCouples 141 = .ok (.iload 4, 2) := by decide +kernel
theorem dX11_findCouples_143 : decode cX11_findCouples 143 = .ok (.iload_n 2, 1) := by decide +kernel
theorem dX11_findCouples_144 : decode cX11_findCouples 144 = .ok (.if_icmp .ge 7, 3) := by decide +kernel
theorem dX11_findCouples_147 : decode cX11_findCouples 147 = .ok (.iconst 1, 1) := by decide +kernel
theorem dX11_findCouples_148 : decode cX11_findCouples 148 = .ok (.goto 4, 3) := by decide +kernel
theorem dX11_findCouples_151 : decode cX11_findCouples 151 = .ok (.iconst 0, 1) := by decide +kernel
theorem dX11_findCouples_152 : decode cX11_findCouples 152 = .ok (.istore 5, 2) := by decide +kernel
theorem dX11_findCouples_154 : decode cX11_findCouples 154 = .ok (.iconst 0, 1) := by decide +kernel
theorem dX11_findCouples_155 : decode cX11_findCouples 155 = .ok (.istore 6, 2) := by decide +kernel
theorem dX11_findCouples_157 : decode cX11_findCouples 157 = .ok (.iload 6, 2) := by decide +kernel
theorem dX11_findCouples_159 : decode cX11_findCouples 159 = .ok (.iload_n 1, 1) := by decide +kernel
theorem dX11_findCouples_160 : decode cX11_findCouples 160 = .ok (.if_icmp .ge 28, 3) := by decide +kernel
theorem dX11_findCouples_163 : decode cX11_findCouples 163 = .ok (.iload 5, 2) := by decide +kernel
theorem dX11_findCouples_165 : decode cX11_findCouples 165 = .ok (.ifCond .eq 23, 3) := by decide +kernel
theorem dX11_findCouples_168 : decode cX11_findCouples 168 = .ok (.aload_n 0, 1) := by decide +kernel
theorem dX11_findCouples_169 : decode cX11_findCouples 169 = .ok (.getfield 135, 3) := by decide +kernel
theorem dX11_findCouples_172 : decode cX11_findCouples 172 = .ok (.iload 6, 2) := by decide +kernel
theorem dX11_findCouples_174 : decode cX11_findCouples 174 = .ok (.aload_n 0, 1) := by decide +kernel
theorem dX11_findCouples_175 : decode cX11_findCouples 175 = .ok (.getfield 132, 3) := by decide +kernel
theorem dX11_findCouples_178 : decode cX11_findCouples 178 = .ok (.iload 6, 2) := by decide +kernel
theorem dX11_findCouples_180 : decode cX11_findCouples 180 = .ok (.iaload, 1) := by decide +kernel
theorem dX11_findCouples_181 : decode cX11_findCouples 181 = .ok (.iastore, 1) := by decide +kernel
theorem dX11_findCouples_182 : decode cX11_findCouples 182 = .ok (.iinc 6 1, 3) := by decide +kernel
theorem dX11_findCouples_185 : decode cX11_findCouples 185 = .ok (.goto (-28), 3) := by decide +kernel
theorem dX11_findCouples_188 : decode cX11_findCouples 188 = .ok (.iload 5, 2) := by decide +kernel
theorem dX11_findCouples_190 : decode cX11_findCouples 190 = .ok (.ifCond .eq 8, 3) := by decide +kernel
theorem dX11_findCouples_193 : decode cX11_findCouples 193 = .ok (.iload 4, 2) := by decide +kernel
theorem dX11_findCouples_195 : decode cX11_findCouples 195 = .ok (.goto 4, 3) := by decide +kernel
theorem dX11_findCouples_198 : decode cX11_findCouples 198 = .ok (.iload_n 2, 1) := by decide +kernel
theorem dX11_findCouples_199 : decode cX11_findCouples 199 = .ok (.istore_n 2, 1) := by decide +kernel
theorem dX11_findCouples_200 : decode cX11_findCouples 200 = .ok (.goto (-174), 3) := by decide +kernel
theorem dX11_findCouples_203 : decode cX11_findCouples 203 = .ok (.iload_n 2, 1) := by decide +kernel
theorem dX11_findCouples_204 : decode cX11_findCouples 204 = .ok (.ireturn, 1) := by decide +kernel
def D_X11_findCouples_55 (k26 : z_H → Option Nat → Int32 → Int32 → Int32 → Option (Int32 × z_H)) (h : z_H) (l0 : Option Nat) (l1 : Int32) (l2 : Int32) (l3 : Int32) : Option (Int32 × z_H) :=
  (some (l3 + (-1:Int32))).bind fun x1635 =>
  k26 h l0 l1 l2 x1635
set_option maxRecDepth 100000 in
set_option maxHeartbeats 4000000 in
theorem S_X11_findCouples_55 {G : z_G} {l : Launch} {k26 : z_H → Option Nat → Int32 → Int32 → Int32 → Option (Int32 × z_H)} (hk26 : ∀ {h : z_H} {l0 : Option Nat} {l1 : Int32} {l2 : Int32} {l3 : Int32} {res : (Int32 × z_H)}, k26 h l0 l1 l2 l3 = some res → z_Run G l 6 M_X11_findCouples 26 [(0, z_r l0), (1, .int l1), (2, .int l2), (3, .int l3)] [] h res.2 (some (.int res.1))) {h : z_H} {l0 : Option Nat} {l1 : Int32} {l2 : Int32} {l3 : Int32} {res : (Int32 × z_H)} (e : D_X11_findCouples_55 k26 h l0 l1 l2 l3 = some res) : z_Run G l 6 M_X11_findCouples 55 [(0, z_r l0), (1, .int l1), (2, .int l2), (3, .int l3)] [] h res.2 (some (.int res.1)) := by
  unfold D_X11_findCouples_55 at e
  replace e := z_bd e; obtain ⟨x1635, ex1635, e⟩ := e
  refine z_iinc (q := 3) (v := x1635) (L' := [(3, .int x1635), (0, z_r l0), (1, .int l1), (2, .int l2)]) dX11_findCouples_55 rfl (Option.some.inj ex1635) (by decide) rfl ?_
  refine z_goto (tgt := 26) dX11_findCouples_58 (by decide) ?_
  exact z_weak [1, 2, 3, 0] rfl (hk26 e)
def D_X11_findCouples_199 (k26 : z_H → Option Nat → Int32 → Int32 → Int32 → Option (Int32 × z_H)) (h : z_H) (l0 : Option Nat) (l1 : Int32) (l3 : Int32) (s0 : Int32) : Option (Int32 × z_H) :=
  k26 h l0 l1 s0 l3
set_option maxRecDepth 100000 in
set_option maxHeartbeats 4000000 in
theorem S_X11_findCouples_199 {G : z_G} {l : Launch} {k26 : z_H → Option Nat → Int32 → Int32 → Int32 → Option (Int32 × z_H)} (hk26 : ∀ {h : z_H} {l0 : Option Nat} {l1 : Int32} {l2 : Int32} {l3 : Int32} {res : (Int32 × z_H)}, k26 h l0 l1 l2 l3 = some res → z_Run G l 6 M_X11_findCouples 26 [(0, z_r l0), (1, .int l1), (2, .int l2), (3, .int l3)] [] h res.2 (some (.int res.1))) {h : z_H} {l0 : Option Nat} {l1 : Int32} {l3 : Int32} {s0 : Int32} {res : (Int32 × z_H)} (e : D_X11_findCouples_199 k26 h l0 l1 l3 s0 = some res) : z_Run G l 6 M_X11_findCouples 199 [(0, z_r l0), (1, .int l1), (3, .int l3)] [.int s0] h res.2 (some (.int res.1)) := by
  unfold D_X11_findCouples_199 at e
  refine z_istore_n (L' := [(2, .int s0), (0, z_r l0), (1, .int l1), (3, .int l3)]) dX11_findCouples_199 rfl (by decide) rfl ?_
  refine z_goto (tgt := 26) dX11_findCouples_200 (by decide) ?_
  exact z_weak [1, 2, 0, 3] rfl (hk26 e)
def D_X11_findCouples_188 (k26 : z_H → Option Nat → Int32 → Int32 → Int32 → Option (Int32 × z_H)) (h : z_H) (l0 : Option Nat) (l1 : Int32) (l2 : Int32) (l3 : Int32) (l4 : Int32) (l5 : Int32) : Option (Int32 × z_H) :=
  if l5 = 0 then
    D_X11_findCouples_199  k26 h l0 l1 l3 l2
  else
    D_X11_findCouples_199  k26 h l0 l1 l3 l4
set_option maxRecDepth 100000 in
set_option maxHeartbeats 4000000 in
theorem S_X11_findCouples_188 {G : z_G} {l : Launch} {k26 : z_H → Option Nat → Int32 → Int32 → Int32 → Option (Int32 × z_H)} (hk26 : ∀ {h : z_H} {l0 : Option Nat} {l1 : Int32} {l2 : Int32} {l3 : Int32} {res : (Int32 × z_H)}, k26 h l0 l1 l2 l3 = some res → z_Run G l 6 M_X11_findCouples 26 [(0, z_r l0), (1, .int l1), (2, .int l2), (3, .int l3)] [] h res.2 (some (.int res.1))) {h : z_H} {l0 : Option Nat} {l1 : Int32} {l2 : Int32} {l3 : Int32} {l4 : Int32} {l5 : Int32} {res : (Int32 × z_H)} (e : D_X11_findCouples_188 k26 h l0 l1 l2 l3 l4 l5 = some res) : z_Run G l 6 M_X11_findCouples 188 [(0, z_r l0), (1, .int l1), (2, .int l2), (3, .int l3), (4, .int l4), (5, .int l5)] [] h res.2 (some (.int res.1)) := by
  unfold D_X11_findCouples_188 at e
  refine z_iload 5 dX11_findCouples_188 rfl ?_
  refine z_if_eq (tgt := 198) dX11_findCouples_190 (by decide) (fun c1636 => ?_) (fun c1636 => ?_)
  · rw [if_pos c1636] at e
    refine z_iload_n 2 dX11_findCouples_198 rfl ?_
    exact z_weak [0, 1, 3] rfl (S_X11_findCouples_199  @hk26 e)
  · rw [if_neg c1636] at e
    refine z_iload 4 dX11_findCouples_193 rfl ?_
    refine z_goto (tgt := 199) dX11_findCouples_195 (by decide) ?_
    exact z_weak [0, 1, 3] rfl (S_X11_findCouples_199  @hk26 e)
def D_X11_findCouples_157b (k26 : z_H → Option Nat → Int32 → Int32 → Int32 → Option (Int32 × z_H)) (k157 : z_H → Option Nat → Int32 → Int32 → Int32 → Int32 → Int32 → Int32 → Option (Int32 × z_H)) (h : z_H) (l0 : Option Nat) (l1 : Int32) (l2 : Int32) (l3 : Int32) (l4 : Int32) (l5 : Int32) (l6 : Int32) : Option (Int32 × z_H) :=
  if l1 ≤ l6 then
    D_X11_findCouples_188  k26 h l0 l1 l2 l3 l4 l5
  else
    if l5 = 0 then
      D_X11_findCouples_188  k26 h l0 l1 l2 l3 l4 l5
    else
      (z_gQ 11 h l0 48).bind fun x1639 =>
      (z_gQ 11 h l0 47).bind fun x1640 =>
      (z_aI .int h x1640 l6).bind fun x1641 =>
      (z_sI h x1639 l6 x1641).bind fun h1642 =>
      (some (l6 + (1:Int32))).bind fun x1643 =>
      k157 h1642 l0 l1 l2 l3 l4 l5 x1643
def D_X11_findCouples_157 (k26 : z_H → Option Nat → Int32 → Int32 → Int32 → Option (Int32 × z_H)) (n : Nat) : z_H → Option Nat → Int32 → Int32 → Int32 → Int32 → Int32 → Int32 → Option (Int32 × z_H) := Nat.rec (motive := fun _ => z_H → Option Nat → Int32 → Int32 → Int32 → Int32 → Int32 → Int32 → Option (Int32 × z_H)) (fun _ _ _ _ _ _ _ _ => none) (fun _ k => D_X11_findCouples_157b k26 k) n
set_option maxRecDepth 100000 in
set_option maxHeartbeats 4000000 in
theorem S_X11_findCouples_157 {G : z_G} {l : Launch} {k26 : z_H → Option Nat → Int32 → Int32 → Int32 → Option (Int32 × z_H)} (hk26 : ∀ {h : z_H} {l0 : Option Nat} {l1 : Int32} {l2 : Int32} {l3 : Int32} {res : (Int32 × z_H)}, k26 h l0 l1 l2 l3 = some res → z_Run G l 6 M_X11_findCouples 26 [(0, z_r l0), (1, .int l1), (2, .int l2), (3, .int l3)] [] h res.2 (some (.int res.1))) (n : Nat) : ∀ {h : z_H} {l0 : Option Nat} {l1 : Int32} {l2 : Int32} {l3 : Int32} {l4 : Int32} {l5 : Int32} {l6 : Int32} {res : (Int32 × z_H)}, D_X11_findCouples_157 k26 n h l0 l1 l2 l3 l4 l5 l6 = some res → z_Run G l 6 M_X11_findCouples 157 [(0, z_r l0), (1, .int l1), (2, .int l2), (3, .int l3), (4, .int l4), (5, .int l5), (6, .int l6)] [] h res.2 (some (.int res.1)) := by
  induction n with
  | zero => intro h l0 l1 l2 l3 l4 l5 l6 res e; cases e
  | succ n hk157 =>
    intro h l0 l1 l2 l3 l4 l5 l6 res e
    replace e : D_X11_findCouples_157b k26 (D_X11_findCouples_157 k26 n) h l0 l1 l2 l3 l4 l5 l6 = some res := e
    unfold D_X11_findCouples_157b at e
    refine z_iload 6 dX11_findCouples_157 rfl ?_
    refine z_iload_n 1 dX11_findCouples_159 rfl ?_
    refine z_icmp_ge (tgt := 188) dX11_findCouples_160 (by decide) (fun c1637 => ?_) (fun c1637 => ?_)
    · rw [if_pos c1637] at e
      exact z_weak [0, 1, 2, 3, 4, 5] rfl (S_X11_findCouples_188  @hk26 e)
    · rw [if_neg c1637] at e
      refine z_iload 5 dX11_findCouples_163 rfl ?_
      refine z_if_eq (tgt := 188) dX11_findCouples_165 (by decide) (fun c1638 => ?_) (fun c1638 => ?_)
      · rw [if_pos c1638] at e
        exact z_weak [0, 1, 2, 3, 4, 5] rfl (S_X11_findCouples_188  @hk26 e)
      · rw [if_neg c1638] at e
        refine z_aload_n 0 dX11_findCouples_168 rfl ?_
        replace e := z_bd e; obtain ⟨x1639, ex1639, e⟩ := e
        refine z_getQ ex1639 lk_X11_135 dX11_findCouples_169 ?_
        refine z_iload 6 dX11_findCouples_172 rfl ?_
        refine z_aload_n 0 dX11_findCouples_174 rfl ?_
        replace e := z_bd e; obtain ⟨x1640, ex1640, e⟩ := e
        refine z_getQ ex1640 lk_X11_132 dX11_findCouples_175 ?_
        refine z_iload 6 dX11_findCouples_178 rfl ?_
        replace e := z_bd e; obtain ⟨x1641, ex1641, e⟩ := e
        refine z_iald ex1641 dX11_findCouples_180 ?_
        replace e := z_bd e; obtain ⟨h1642, eh1642, e⟩ := e
        refine z_iast eh1642 dX11_findCouples_181 ?_
        replace e := z_bd e; obtain ⟨x1643, ex1643, e⟩ := e
        refine z_iinc (q := 6) (v := x1643) (L' := [(6, .int x1643), (0, z_r l0), (1, .int l1), (2, .int l2), (3, .int l3), (4, .int l4), (5, .int l5)]) dX11_findCouples_182 rfl (Option.some.inj ex1643) (by decide) rfl ?_
        refine z_goto (tgt := 157) dX11_findCouples_185 (by decide) ?_
        exact z_weak [1, 2, 3, 4, 5, 6, 0] rfl (hk157 e)
def D_X11_findCouples_152 (k26 : z_H → Option Nat → Int32 → Int32 → Int32 → Option (Int32 × z_H)) (h : z_H) (l0 : Option Nat) (l1 : Int32) (l2 : Int32) (l3 : Int32) (l4 : Int32) (s0 : Int32) : Option (Int32 × z_H) :=
  D_X11_findCouples_157  k26 z_F h l0 l1 l2 l3 l4 s0 (0:Int32)
set_option maxRecDepth 100000 in
set_option maxHeartbeats 4000000 in
theorem S_X11_findCouples_152 {G : z_G} {l : Launch} {k26 : z_H → Option Nat → Int32 → Int32 → Int32 → Option (Int32 × z_H)} (hk26 : ∀ {h : z_H} {l0 : Option Nat} {l1 : Int32} {l2 : Int32} {l3 : Int32} {res : (Int32 × z_H)}, k26 h l0 l1 l2 l3 = some res → z_Run G l 6 M_X11_findCouples 26 [(0, z_r l0), (1, .int l1), (2, .int l2), (3, .int l3)] [] h res.2 (some (.int res.1))) {h : z_H} {l0 : Option Nat} {l1 : Int32} {l2 : Int32} {l3 : Int32} {l4 : Int32} {s0 : Int32} {res : (Int32 × z_H)} (e : D_X11_findCouples_152 k26 h l0 l1 l2 l3 l4 s0 = some res) : z_Run G l 6 M_X11_findCouples 152 [(0, z_r l0), (1, .int l1), (2, .int l2), (3, .int l3), (4, .int l4)] [.int s0] h res.2 (some (.int res.1)) := by
  unfold D_X11_findCouples_152 at e
  refine z_istore (L' := [(5, .int s0), (0, z_r l0), (1, .int l1), (2, .int l2), (3, .int l3), (4, .int l4)]) dX11_findCouples_152 (by decide) rfl ?_
  refine z_iconst (v := 0) dX11_findCouples_154 (by decide) ?_
  refine z_istore (L' := [(6, .int (0:Int32)), (5, .int s0), (0, z_r l0), (1, .int l1), (2, .int l2), (3, .int l3), (4, .int l4)]) dX11_findCouples_155 (by decide) rfl ?_
  exact z_weak [2, 3, 4, 5, 6, 1, 0] rfl (S_X11_findCouples_157  @hk26 z_F e)
def D_X11_findCouples_151 (k26 : z_H → Option Nat → Int32 → Int32 → Int32 → Option (Int32 × z_H)) (h : z_H) (l0 : Option Nat) (l1 : Int32) (l2 : Int32) (l3 : Int32) (l4 : Int32) : Option (Int32 × z_H) :=
  D_X11_findCouples_152  k26 h l0 l1 l2 l3 l4 (0:Int32)
set_option maxRecDepth 100000 in
set_option maxHeartbeats 4000000 in
theorem S_X11_findCouples_151 {G : z_G} {l : Launch} {k26 : z_H → Option Nat → Int32 → Int32 → Int32 → Option (Int32 × z_H)} (hk26 : ∀ {h : z_H} {l0 : Option Nat} {l1 : Int32} {l2 : Int32} {l3 : Int32} {res : (Int32 × z_H)}, k26 h l0 l1 l2 l3 = some res → z_Run G l 6 M_X11_findCouples 26 [(0, z_r l0), (1, .int l1), (2, .int l2), (3, .int l3)] [] h res.2 (some (.int res.1))) {h : z_H} {l0 : Option Nat} {l1 : Int32} {l2 : Int32} {l3 : Int32} {l4 : Int32} {res : (Int32 × z_H)} (e : D_X11_findCouples_151 k26 h l0 l1 l2 l3 l4 = some res) : z_Run G l 6 M_X11_findCouples 151 [(0, z_r l0), (1, .int l1), (2, .int l2), (3, .int l3), (4, .int l4)] [] h res.2 (some (.int res.1)) := by
  unfold D_X11_findCouples_151 at e
  refine z_iconst (v := 0) dX11_findCouples_151 (by decide) ?_
  exact z_weak [0, 1, 2, 3, 4] rfl (S_X11_findCouples_152  @hk26 e)
def D_X11_findCouples_136 (k26 : z_H → Option Nat → Int32 → Int32 → Int32 → Option (Int32 × z_H)) (h : z_H) (l0 : Option Nat) (l1 : Int32) (l2 : Int32) (l3 : Int32) (l4 : Int32) : Option (Int32 × z_H) :=
  if l3 = l1 then
    if l2 ≤ l4 then
      D_X11_findCouples_151  k26 h l0 l1 l2 l3 l4
    else
      D_X11_findCouples_152  k26 h l0 l1 l2 l3 l4 (1:Int32)
  else
    D_X11_findCouples_151  k26 h l0 l1 l2 l3 l4
set_option maxRecDepth 100000 in
set_option maxHeartbeats 4000000 in
theorem S_X11_findCouples_136 {G : z_G} {l : Launch} {k26 : z_H → Option Nat → Int32 → Int32 → Int32 → Option (Int32 × z_H)} (hk26 : ∀ {h : z_H} {l0 : Option Nat} {l1 : Int32} {l2 : Int32} {l3 : Int32} {res : (Int32 × z_H)}, k26 h l0 l1 l2 l3 = some res → z_Run G l 6 M_X11_findCouples 26 [(0, z_r l0), (1, .int l1), (2, .int l2), (3, .int l3)] [] h res.2 (some (.int res.1))) {h : z_H} {l0 : Option Nat} {l1 : Int32} {l2 : Int32} {l3 : Int32} {l4 : Int32} {res : (Int32 × z_H)} (e : D_X11_findCouples_136 k26 h l0 l1 l2 l3 l4 = some res) : z_Run G l 6 M_X11_findCouples 136 [(0, z_r l0), (1, .int l1), (2, .int l2), (3, .int l3), (4, .int l4)] [] h res.2 (some (.int res.1)) := by
  unfold D_X11_findCouples_136 at e
  refine z_iload_n 3 dX11_findCouples_136 rfl ?_
  refine z_iload_n 1 dX11_findCouples_137 rfl ?_
  refine z_icmp_ne (tgt := 151) dX11_findCouples_138 (by decide) (fun c1644 => ?_) (fun c1644 => ?_)
  · rw [if_neg c1644] at e
    exact z_weak [0, 1, 2, 3, 4] rfl (S_X11_findCouples_151  @hk26 e)
  · rw [if_pos c1644] at e
    refine z_iload 4 dX11_findCouples_141 rfl ?_
    refine z_iload_n 2 dX11_findCouples_143 rfl ?_
    refine z_icmp_ge (tgt := 151) dX11_findCouples_144 (by decide) (fun c1645 => ?_) (fun c1645 => ?_)
    · rw [if_pos c1645] at e
      exact z_weak [0, 1, 2, 3, 4] rfl (S_X11_findCouples_151  @hk26 e)
    · rw [if_neg c1645] at e
      refine z_iconst (v := 1) dX11_findCouples_147 (by decide) ?_
      refine z_goto (tgt := 152) dX11_findCouples_148 (by decide) ?_
      exact z_weak [0, 1, 2, 3, 4] rfl (S_X11_findCouples_152  @hk26 e)
def D_X11_findCouples_127 (k26 : z_H → Option Nat → Int32 → Int32 → Int32 → Option (Int32 × z_H)) (k85 : z_H → Option Nat → Int32 → Int32 → Int32 → Int32 → Int32 → Option (Int32 × z_H)) (h : z_H) (l0 : Option Nat) (l1 : Int32) (l2 : Int32) (l3 : Int32) (l5 : Int32) (s0 : Int32) (s1 : Int32) : Option (Int32 × z_H) :=
  (some (s0 + s1)).bind fun x1646 =>
  (some (l5 + (1:Int32))).bind fun x1647 =>
  k85 h l0 l1 l2 l3 x1646 x1647
set_option maxRecDepth 100000 in
set_option maxHeartbeats 4000000 in
theorem S_X11_findCouples_127 {G : z_G} {l : Launch} {k26 : z_H → Option Nat → Int32 → Int32 → Int32 → Option (Int32 × z_H)} {k85 : z_H → Option Nat → Int32 → Int32 → Int32 → Int32 → Int32 → Option (Int32 × z_H)} (hk26 : ∀ {h : z_H} {l0 : Option Nat} {l1 : Int32} {l2 : Int32} {l3 : Int32} {res : (Int32 × z_H)}, k26 h l0 l1 l2 l3 = some res → z_Run G l 6 M_X11_findCouples 26 [(0, z_r l0), (1, .int l1), (2, .int l2), (3, .int l3)] [] h res.2 (some (.int res.1))) (hk85 : ∀ {h : z_H} {l0 : Option Nat} {l1 : Int32} {l2 : Int32} {l3 : Int32} {l4 : Int32} {l5 : Int32} {res : (Int32 × z_H)}, k85 h l0 l1 l2 l3 l4 l5 = some res → z_Run G l 6 M_X11_findCouples 85 [(0, z_r l0), (1, .int l1), (2, .int l2), (3, .int l3), (4, .int l4), (5, .int l5)] [] h res.2 (some (.int res.1))) {h : z_H} {l0 : Option Nat} {l1 : Int32} {l2 : Int32} {l3 : Int32} {l5 : Int32} {s0 : Int32} {s1 : Int32} {res : (Int32 × z_H)} (e : D_X11_findCouples_127 k26 k85 h l0 l1 l2 l3 l5 s0 s1 = some res) : z_Run G l 6 M_X11_findCouples 127 [(0, z_r l0), (1, .int l1), (2, .int l2), (3, .int l3), (5, .int l5)] [.int s1, .int s0] h res.2 (some (.int res.1)) := by
  unfold D_X11_findCouples_127 at e
  refine z_iadd dX11_findCouples_127 ?_
  replace e := z_bd e; obtain ⟨x1646, ex1646, e⟩ := e
  refine z_topI ex1646 ?_
  refine z_istore (L' := [(4, .int x1646), (0, z_r l0), (1, .int l1), (2, .int l2), (3, .int l3), (5, .int l5)]) dX11_findCouples_128 (by decide) rfl ?_
  replace e := z_bd e; obtain ⟨x1647, ex1647, e⟩ := e
  refine z_iinc (q := 5) (v := x1647) (L' := [(5, .int x1647), (4, .int x1646), (0, z_r l0), (1, .int l1), (2, .int l2), (3, .int l3)]) dX11_findCouples_130 rfl (Option.some.inj ex1647) (by decide) rfl ?_
  refine z_goto (tgt := 85) dX11_findCouples_133 (by decide) ?_
  exact z_weak [2, 3, 4, 5, 1, 0] rfl (hk85 e)
def D_X11_findCouples_85b (k26 : z_H → Option Nat → Int32 → Int32 → Int32 → Option (Int32 × z_H)) (k85 : z_H → Option Nat → Int32 → Int32 → Int32 → Int32 → Int32 → Option (Int32 × z_H)) (h : z_H) (l0 : Option Nat) (l1 : Int32) (l2 : Int32) (l3 : Int32) (l4 : Int32) (l5 : Int32) : Option (Int32 × z_H) :=
  if l1 ≤ l5 then
    D_X11_findCouples_136  k26 h l0 l1 l2 l3 l4
  else
    if l3 = l1 then
      (z_gQ 11 h l0 47).bind fun x1650 =>
      (z_aI .int h x1650 l5).bind fun x1651 =>
      if x1651 ≤ l5 then
        D_X11_findCouples_127  k26 k85 h l0 l1 l2 l3 l5 l4 (0:Int32)
      else
        (z_gQ 11 h l0 47).bind fun x1653 =>
        (z_aI .int h x1653 l5).bind fun x1654 =>
        (z_ob 11 h l0).bind fun _ =>
        (D_X11_differ  h l0 l5 x1654).bind fun p1655 =>
        D_X11_findCouples_127  k26 k85 p1655.2 l0 l1 l2 l3 l5 l4 p1655.1
    else
      D_X11_findCouples_136  k26 h l0 l1 l2 l3 l4
def D_X11_findCouples_85 (k26 : z_H → Option Nat → Int32 → Int32 → Int32 → Option (Int32 × z_H)) (n : Nat) : z_H → Option Nat → Int32 → Int32 → Int32 → Int32 → Int32 → Option (Int32 × z_H) := Nat.rec (motive := fun _ => z_H → Option Nat → Int32 → Int32 → Int32 → Int32 → Int32 → Option (Int32 × z_H)) (fun _ _ _ _ _ _ _ => none) (fun _ k => D_X11_findCouples_85b k26 k) n
set_option maxRecDepth 100000 in
set_option maxHeartbeats 4000000 in
theorem S_X11_findCouples_85 {G : z_G} {l : Launch} {k26 : z_H → Option Nat → Int32 → Int32 → Int32 → Option (Int32 × z_H)} (hk26 : ∀ {h : z_H} {l0 : Option Nat} {l1 : Int32} {l2 : Int32} {l3 : Int32} {res : (Int32 × z_H)}, k26 h l0 l1 l2 l3 = some res → z_Run G l 6 M_X11_findCouples 26 [(0, z_r l0), (1, .int l1), (2, .int l2), (3, .int l3)] [] h res.2 (some (.int res.1))) (n : Nat) : ∀ {h : z_H} {l0 : Option Nat} {l1 : Int32} {l2 : Int32} {l3 : Int32} {l4 : Int32} {l5 : Int32} {res : (Int32 × z_H)}, D_X11_findCouples_85 k26 n h l0 l1 l2 l3 l4 l5 = some res → z_Run G l 6 M_X11_findCouples 85 [(0, z_r l0), (1, .int l1), (2, .int l2), (3, .int l3), (4, .int l4), (5, .int l5)] [] h res.2 (some (.int res.1)) := by
  induction n with
  | zero => intro h l0 l1 l2 l3 l4 l5 res e; cases e
  | succ n hk85 =>
    intro h l0 l1 l2 l3 l4 l5 res e
    replace e : D_X11_findCouples_85b k26 (D_X11_findCouples_85 k26 n) h l0 l1 l2 l3 l4 l5 = some res := e
    unfold D_X11_findCouples_85b at e
    refine z_iload 5 dX11_findCouples_85 rfl ?_
    refine z_iload_n 1 dX11_findCouples_87 rfl ?_
    refine z_icmp_ge (tgt := 136) dX11_findCouples_88 (by decide) (fun c1648 => ?_) (fun c1648 => ?_)
    · rw [if_pos c1648] at e
      exact z_weak [0, 1, 2, 3, 4] rfl (S_X11_findCouples_136  @hk26 e)
    · rw [if_neg c1648] at e
      refine z_iload_n 3 dX11_findCouples_91 rfl ?_
      refine z_iload_n 1 dX11_findCouples_92 rfl ?_
      refine z_icmp_ne (tgt := 136) dX11_findCouples_93 (by decide) (fun c1649 => ?_) (fun c1649 => ?_)
      · rw [if_neg c1649] at e
        exact z_weak [0, 1, 2, 3, 4] rfl (S_X11_findCouples_136  @hk26 e)
      · rw [if_pos c1649] at e
        refine z_iload 4 dX11_findCouples_96 rfl ?_
        refine z_aload_n 0 dX11_findCouples_98 rfl ?_
        replace e := z_bd e; obtain ⟨x1650, ex1650, e⟩ := e
        refine z_getQ ex1650 lk_X11_132 dX11_findCouples_99 ?_
        refine z_iload 5 dX11_findCouples_102 rfl ?_
        replace e := z_bd e; obtain ⟨x1651, ex1651, e⟩ := e
        refine z_iald ex1651 dX11_findCouples_104 ?_
        refine z_iload 5 dX11_findCouples_105 rfl ?_
        refine z_icmp_le (tgt := 126) dX11_findCouples_107 (by decide) (fun c1652 => ?_) (fun c1652 => ?_)
        · rw [if_pos c1652] at e
          refine z_iconst (v := 0) dX11_findCouples_126 (by decide) ?_
          exact z_weak [0, 1, 2, 3, 5] rfl (S_X11_findCouples_127  @hk26 @hk85 e)
        · rw [if_neg c1652] at e
          refine z_aload_n 0 dX11_findCouples_110 rfl ?_
          refine z_iload 5 dX11_findCouples_111 rfl ?_
          refine z_aload_n 0 dX11_findCouples_113 rfl ?_
          replace e := z_bd e; obtain ⟨x1653, ex1653, e⟩ := e
          refine z_getQ ex1653 lk_X11_132 dX11_findCouples_114 ?_
          refine z_iload 5 dX11_findCouples_117 rfl ?_
          replace e := z_bd e; obtain ⟨x1654, ex1654, e⟩ := e
          refine z_iald ex1654 dX11_findCouples_119 ?_
          replace e := z_bd e; obtain ⟨o1656, eo1656, e⟩ := e
          replace e := z_bd e; obtain ⟨p1655, ep1655, e⟩ := e
          refine z_cV [.int l5, .int x1654] (S_X11_differ  ep1655) eo1656 rfl ml_X11_508 ck_X11_differ vk_X11_differ dX11_findCouples_120 (by decide) rfl (by simp [z_ci, z_cj, z_cr, z_cx]) rfl ?_
          refine z_goto (tgt := 127) dX11_findCouples_123 (by decide) ?_
          exact z_weak [0, 1, 2, 3, 5] rfl (S_X11_findCouples_127  @hk26 @hk85 e)
def D_X11_findCouples_26b (k26 : z_H → Option Nat → Int32 → Int32 → Int32 → Option (Int32 × z_H)) (h : z_H) (l0 : Option Nat) (l1 : Int32) (l2 : Int32) (l3 : Int32) : Option (Int32 × z_H) :=
  if l3 < 0 then
    some (l2, h)
  else
    (z_gQ 11 h l0 47).bind fun x1658 =>
    (z_aI .int h x1658 l3).bind fun x1659 =>
    (z_sI h x1658 l3 (x1659 + (1:Int32))).bind fun h1660 =>
    if l3 = l1 then
      D_X11_findCouples_55  k26 h1660 l0 l1 l2 l3
    else
      (z_gQ 11 h1660 l0 47).bind fun x1662 =>
      (z_aI .int h1660 x1662 l3).bind fun x1663 =>
      if x1663 < l1 then
        (z_ob 11 h1660 l0).bind fun _ =>
        (D_X11_goesWith  h1660 l0 l3).bind fun p1665 =>
        if p1665.1 = 0 then
          k26 p1665.2 l0 l1 l2 l3
        else
          (some (l3 + (1:Int32))).bind fun x1668 =>
          (z_gQ 11 p1665.2 l0 47).bind fun x1669 =>
          (z_sI p1665.2 x1669 x1668 (-1:Int32)).bind fun h1670 =>
          D_X11_findCouples_85  k26 z_F h1670 l0 l1 l2 x1668 (0:Int32) (0:Int32)
      else
        D_X11_findCouples_55  k26 h1660 l0 l1 l2 l3
def D_X11_findCouples_26 (n : Nat) : z_H → Option Nat → Int32 → Int32 → Int32 → Option (Int32 × z_H) := Nat.rec (motive := fun _ => z_H → Option Nat → Int32 → Int32 → Int32 → Option (Int32 × z_H)) (fun _ _ _ _ _ => none) (fun _ k => D_X11_findCouples_26b  k) n
set_option maxRecDepth 100000 in
set_option maxHeartbeats 4000000 in
theorem S_X11_findCouples_26 {G : z_G} {l : Launch}  (n : Nat) : ∀ {h : z_H} {l0 : Option Nat} {l1 : Int32} {l2 : Int32} {l3 : Int32} {res : (Int32 × z_H)}, D_X11_findCouples_26  n h l0 l1 l2 l3 = some res → z_Run G l 6 M_X11_findCouples 26 [(0, z_r l0), (1, .int l1), (2, .int l2), (3, .int l3)] [] h res.2 (some (.int res.1)) := by
  induction n with
  | zero => intro h l0 l1 l2 l3 res e; cases e
  | succ n hk26 =>
    intro h l0 l1 l2 l3 res e
    replace e : D_X11_findCouples_26b  (D_X11_findCouples_26  n) h l0 l1 l2 l3 = some res := e
    unfold D_X11_findCouples_26b at e
    refine z_iload_n 3 dX11_findCouples_26 rfl ?_
    refine z_if_lt (tgt := 203) dX11_findCouples_27 (by decide) (fun c1657 => ?_) (fun c1657 => ?_)
    · rw [if_pos c1657] at e
      refine z_iload_n 2 dX11_findCouples_203 rfl ?_
      cases e
      exact z_iret dX11_findCouples_204 rfl
    · rw [if_neg c1657] at e
      refine z_aload_n 0 dX11_findCouples_30 rfl ?_
      replace e := z_bd e; obtain ⟨x1658, ex1658, e⟩ := e
      refine z_getQ ex1658 lk_X11_132 dX11_findCouples_31 ?_
      refine z_iload_n 3 dX11_findCouples_34 rfl ?_
      refine z_dup2 dX11_findCouples_35 rfl (z_cr _) ?_
      replace e := z_bd e; obtain ⟨x1659, ex1659, e⟩ := e
      refine z_iald ex1659 dX11_findCouples_36 ?_
      refine z_iconst (v := 1) dX11_findCouples_37 (by decide) ?_
      refine z_iadd dX11_findCouples_38 ?_
      replace e := z_bd e; obtain ⟨h1660, eh1660, e⟩ := e
      refine z_iast eh1660 dX11_findCouples_39 ?_
      refine z_iload_n 3 dX11_findCouples_40 rfl ?_
      refine z_iload_n 1 dX11_findCouples_41 rfl ?_
      refine z_icmp_eq (tgt := 55) dX11_findCouples_42 (by decide) (fun c1661 => ?_) (fun c1661 => ?_)
      · rw [if_pos c1661] at e
        exact z_weak [0, 1, 2, 3] rfl (S_X11_findCouples_55  @hk26 e)
      · rw [if_neg c1661] at e
        refine z_aload_n 0 dX11_findCouples_45 rfl ?_
        replace e := z_bd e; obtain ⟨x1662, ex1662, e⟩ := e
        refine z_getQ ex1662 lk_X11_132 dX11_findCouples_46 ?_
        refine z_iload_n 3 dX11_findCouples_49 rfl ?_
        replace e := z_bd e; obtain ⟨x1663, ex1663, e⟩ := e
        refine z_iald ex1663 dX11_findCouples_50 ?_
        refine z_iload_n 1 dX11_findCouples_51 rfl ?_
        refine z_icmp_lt (tgt := 61) dX11_findCouples_52 (by decide) (fun c1664 => ?_) (fun c1664 => ?_)
        · rw [if_pos c1664] at e
          refine z_aload_n 0 dX11_findCouples_61 rfl ?_
          refine z_iload_n 3 dX11_findCouples_62 rfl ?_
          replace e := z_bd e; obtain ⟨o1666, eo1666, e⟩ := e
          replace e := z_bd e; obtain ⟨p1665, ep1665, e⟩ := e
          refine z_cV [.int l3] (S_X11_goesWith  ep1665) eo1666 rfl ml_X11_505 ck_X11_goesWith vk_X11_goesWith dX11_findCouples_63 (by decide) rfl (Nat.zero_le _) rfl ?_
          refine z_if_eq (tgt := 26) dX11_findCouples_66 (by decide) (fun c1667 => ?_) (fun c1667 => ?_)
          · rw [if_pos c1667] at e
            exact z_weak [0, 1, 2, 3] rfl (hk26 e)
          · rw [if_neg c1667] at e
            replace e := z_bd e; obtain ⟨x1668, ex1668, e⟩ := e
            refine z_iinc (q := 3) (v := x1668) (L' := [(3, .int x1668), (0, z_r l0), (1, .int l1), (2, .int l2)]) dX11_findCouples_69 rfl (Option.some.inj ex1668) (by decide) rfl ?_
            refine z_aload_n 1 dX11_findCouples_72 rfl ?_
            replace e := z_bd e; obtain ⟨x1669, ex1669, e⟩ := e
            refine z_getQ ex1669 lk_X11_132 dX11_findCouples_73 ?_
            refine z_iload_n 0 dX11_findCouples_76 rfl ?_
            refine z_iconst (v := -1) dX11_findCouples_77 (by decide) ?_
            replace e := z_bd e; obtain ⟨h1670, eh1670, e⟩ := e
            refine z_iast eh1670 dX11_findCouples_78 ?_
            refine z_iconst (v := 0) dX11_findCouples_79 (by decide) ?_
            refine z_istore (L' := [(4, .int (0:Int32)), (3, .int x1668), (0, z_r l0), (1, .int l1), (2, .int l2)]) dX11_findCouples_80 (by decide) rfl ?_
            refine z_iconst (v := 0) dX11_findCouples_82 (by decide) ?_
            refine z_istore (L' := [(5, .int (0:Int32)), (4, .int (0:Int32)), (3, .int x1668), (0, z_r l0), (1, .int l1), (2, .int l2)]) dX11_findCouples_83 (by decide) rfl ?_
            exact z_weak [3, 4, 5, 2, 1, 0] rfl (S_X11_findCouples_85  @hk26 z_F e)
        · rw [if_neg c1664] at e
          exact z_weak [0, 1, 2, 3] rfl (S_X11_findCouples_55  @hk26 e)
def D_X11_findCouples (h : z_H) (l0 : Option Nat) : Option (Int32 × z_H) :=
  (z_gQ 11 h l0 3).bind fun x1671 =>
  (z_aI .int h x1671 (0:Int32)).bind fun x1672 =>
  (z_gQ 11 h l0 47).bind fun x1673 =>
  (z_sI h x1673 (0:Int32) (-1:Int32)).bind fun h1674 =>
  if x1672 = 0 then
    some ((0:Int32), h1674)
  else
    D_X11_findCouples_26   z_F h1674 l0 x1672 (100000000:Int32) (0:Int32)
set_option maxRecDepth 100000 in
set_option maxHeartbeats 4000000 in
theorem S_X11_findCouples {G : z_G} {l : Launch} {h : z_H} {l0 : Option Nat} {res : (Int32 × z_H)} (e : D_X11_findCouples h l0 = some res) : z_Meth G l 6 M_X11_findCouples [z_r l0] h res.2 (some (.int res.1)) := by
  refine z_Meth.of ck_X11_findCouples.2.2.2.2 (by simp [lg_sl, z_ci, z_cj, z_cr, z_cx]) ck_X11_findCouples.1 ?_
  rw [show lv_args 0 [z_r l0] = [(0, z_r l0)] from by simp [lv_args, z_ci, z_cj, z_cr, z_cx]]
  unfold D_X11_findCouples at e
  refine z_aload_n 0 dX11_findCouples_0 rfl ?_
  replace e := z_bd e; obtain ⟨x1671, ex1671, e⟩ := e
  refine z_getQ ex1671 lk_X11_13 dX11_findCouples_1 ?_
  refine z_iconst (v := 0) dX11_findCouples_4 (by decide) ?_
  replace e := z_bd e; obtain ⟨x1672, ex1672, e⟩ := e
  refine z_iald ex1672 dX11_findCouples_5 ?_
  refine z_istore_n (L' := [(1, .int x1672), (0, z_r l0)]) dX11_findCouples_6 rfl (by decide) (by simp [z_cr]) ?_
  refine z_ldcw dX11_findCouples_7 kc_X11_489 ?_
  refine z_istore_n (L' := [(2, .int (100000000:Int32)), (1, .int x1672), (0, z_r l0)]) dX11_findCouples_10 rfl (by decide) rfl ?_
  refine z_iconst (v := 0) dX11_findCouples_11 (by decide) ?_
  refine z_istore_n (L' := [(3, .int (0:Int32)), (2, .int (100000000:Int32)), (1, .int x1672), (0, z_r l0)]) dX11_findCouples_12 rfl (by decide) rfl ?_
  refine z_aload_n 3 dX11_findCouples_13 rfl ?_
  replace e := z_bd e; obtain ⟨x1673, ex1673, e⟩ := e
  refine z_getQ ex1673 lk_X11_132 dX11_findCouples_14 ?_
  refine z_iconst (v := 0) dX11_findCouples_17 (by decide) ?_
  refine z_iconst (v := -1) dX11_findCouples_18 (by decide) ?_
  replace e := z_bd e; obtain ⟨h1674, eh1674, e⟩ := e
  refine z_iast eh1674 dX11_findCouples_19 ?_
  refine z_iload_n 2 dX11_findCouples_20 rfl ?_
  refine z_if_ne (tgt := 26) dX11_findCouples_21 (by decide) (fun c1675 => ?_) (fun c1675 => ?_)
  · rw [if_neg c1675] at e
    exact z_weak [3, 2, 1, 0] rfl (S_X11_findCouples_26   z_F e)
  · rw [if_pos c1675] at e
    refine z_iconst (v := 0) dX11_findCouples_24 (by decide) ?_
    cases e
    exact z_iret dX11_findCouples_25 rfl
