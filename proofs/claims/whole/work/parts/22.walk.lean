theorem dX1_beside_0 : decode cX1_beside 0 = .ok (.iload_n 0, 1) := by decide +kernel
theorem dX1_beside_1 : decode cX1_beside 1 = .ok (.iconst 5, 1) := by decide +kernel
theorem dX1_beside_2 : decode cX1_beside 2 = .ok (.irem, 1) := by decide +kernel
theorem dX1_beside_3 : decode cX1_beside 3 = .ok (.istore_n 2, 1) := by decide +kernel
theorem dX1_beside_4 : decode cX1_beside 4 = .ok (.iload_n 0, 1) := by decide +kernel
theorem dX1_beside_5 : decode cX1_beside 5 = .ok (.iconst 5, 1) := by decide +kernel
theorem dX1_beside_6 : decode cX1_beside 6 = .ok (.idiv, 1) := by decide +kernel
theorem dX1_beside_7 : decode cX1_beside 7 = .ok (.istore_n 3, 1) := by decide +kernel
theorem dX1_beside_8 : decode cX1_beside 8 = .ok (.iload_n 1, 1) := by decide +kernel
theorem dX1_beside_9 : decode cX1_beside 9 = .ok (.tableswitch 69 0 2 #[27, 42, 57], 27) := by decide +kernel
theorem dX1_beside_36 : decode cX1_beside 36 = .ok (.iload_n 3, 1) := by decide +kernel
theorem dX1_beside_37 : decode cX1_beside 37 = .ok (.iconst 1, 1) := by decide +kernel
theorem dX1_beside_38 : decode cX1_beside 38 = .ok (.iadd, 1) := by decide +kernel
theorem dX1_beside_39 : decode cX1_beside 39 = .ok (.iconst 5, 1) := by decide +kernel
theorem dX1_beside_40 : decode cX1_beside 40 = .ok (.if_icmp .ge 9, 3) := by decide +kernel
theorem dX1_beside_43 : decode cX1_beside 43 = .ok (.iload_n 0, 1) := by decide +kernel
theorem dX1_beside_44 : decode cX1_beside 44 = .ok (.iconst 5, 1) := by decide +kernel
theorem dX1_beside_45 : decode cX1_beside 45 = .ok (.iadd, 1) := by decide +kernel
theorem dX1_beside_46 : decode cX1_beside 46 = .ok (.goto 4, 3) := by decide +kernel
theorem dX1_beside_49 : decode cX1_beside 49 = .ok (.iconst (-1), 1) := by decide +kernel
theorem dX1_beside_50 : decode cX1_beside 50 = .ok (.ireturn, 1) := by decide +kernel
theorem dX1_beside_51 : decode cX1_beside 51 = .ok (.iload_n 2, 1) := by decide +kernel
theorem dX1_beside_52 : decode cX1_beside 52 = .ok (.iconst 1, 1) := by decide +kernel
theorem dX1_beside_53 : decode cX1_beside 53 = .ok (.iadd, 1) := by decide +kernel
theorem dX1_beside_54 : decode cX1_beside 54 = .ok (.iconst 5, 1) := by decide +kernel
theorem dX1_beside_55 : decode cX1_beside 55 = .ok (.if_icmp .ge 9, 3) := by decide +kernel
theorem dX1_beside_58 : decode cX1_beside 58 = .ok (.iload_n 0, 1) := by decide +kernel
theorem dX1_beside_59 : decode cX1_beside 59 = .ok (.iconst 1, 1) := by decide +kernel
theorem dX1_beside_60 : decode cX1_beside 60 = .ok (.iadd, 1) := by decide +kernel
theorem dX1_beside_61 : decode cX1_beside 61 = .ok (.goto 4, 3) := by decide +kernel
theorem dX1_beside_64 : decode cX1_beside 64 = .ok (.iconst (-1), 1) := by decide +kernel
theorem dX1_beside_65 : decode cX1_beside 65 = .ok (.ireturn, 1) := by decide +kernel
theorem dX1_beside_66 : decode cX1_beside 66 = .ok (.iload_n 3, 1) := by decide +kernel
theorem dX1_beside_67 : decode cX1_beside 67 = .ok (.ifCond .le 9, 3) := by decide +kernel
theorem dX1_beside_70 : decode cX1_beside 70 = .ok (.iload_n 0, 1) := by decide +kernel
theorem dX1_beside_71 : decode cX1_beside 71 = .ok (.iconst 5, 1) := by decide +kernel
theorem dX1_beside_72 : decode cX1_beside 72 = .ok (.isub, 1) := by decide +kernel
theorem dX1_beside_73 : decode cX1_beside 73 = .ok (.goto 4, 3) := by decide +kernel
theorem dX1_beside_76 : decode cX1_beside 76 = .ok (.iconst (-1), 1) := by decide +kernel
theorem dX1_beside_77 : decode cX1_beside 77 = .ok (.ireturn, 1) := by decide +kernel
theorem dX1_beside_78 : decode cX1_beside 78 = .ok (.iload_n 2, 1) := by decide +kernel
theorem dX1_beside_79 : decode cX1_beside 79 = .ok (.ifCond .le 9, 3) := by decide +kernel
theorem dX1_beside_82 : decode cX1_beside 82 = .ok (.iload_n 0, 1) := by decide +kernel
theorem dX1_beside_83 : decode cX1_beside 83 = .ok (.iconst 1, 1) := by decide +kernel
theorem dX1_beside_84 : decode cX1_beside 84 = .ok (.isub, 1) := by decide +kernel
theorem dX1_beside_85 : decode cX1_beside 85 = .ok (.goto 4, 3) := by decide +kernel
theorem dX1_beside_88 : decode cX1_beside 88 = .ok (.iconst (-1), 1) := by decide +kernel
theorem dX1_beside_89 : decode cX1_beside 89 = .ok (.ireturn, 1) := by decide +kernel
def D_X1_beside (h : z_H) (l0 : Int32) (l1 : Int32) : Option (Int32 × z_H) :=
  (some (l0 - l0 / (5:Int32) * (5:Int32))).bind fun x543 =>
  (some (l0 / (5:Int32))).bind fun x544 =>
  if l1 = 0 then
    if (5:Int32) ≤ (x544 + (1:Int32)) then
      some ((-1:Int32), h)
    else
      some ((l0 + (5:Int32)), h)
  else
  if l1 = 1 then
    if (5:Int32) ≤ (x543 + (1:Int32)) then
      some ((-1:Int32), h)
    else
      some ((l0 + (1:Int32)), h)
  else
  if l1 = 2 then
    if x544 ≤ 0 then
      some ((-1:Int32), h)
    else
      some ((l0 - (5:Int32)), h)
  else
  if x543 ≤ 0 then
    some ((-1:Int32), h)
  else
    some ((l0 - (1:Int32)), h)
set_option maxRecDepth 100000 in
set_option maxHeartbeats 4000000 in
theorem S_X1_beside {G : z_G} {l : Launch} {h : z_H} {l0 : Int32} {l1 : Int32} {res : (Int32 × z_H)} (e : D_X1_beside h l0 l1 = some res) : z_Meth G l 4 M_X1_beside [.int l0, .int l1] h res.2 (some (.int res.1)) := by
  refine z_Meth.of ck_X1_beside.2.2.2.2 (by simp [lg_sl, z_ci, z_cj, z_cr, z_cx]) ck_X1_beside.1 ?_
  rw [show lv_args 0 [.int l0, .int l1] = [(0, .int l0), (1, .int l1)] from rfl]
  unfold D_X1_beside at e
  refine z_iload_n 0 dX1_beside_0 rfl ?_
  refine z_iconst (v := 5) dX1_beside_1 (by decide) ?_
  refine z_irem dX1_beside_2 (by decide) ?_
  replace e := z_bd e; obtain ⟨x543, ex543, e⟩ := e
  refine z_topI ex543 ?_
  refine z_istore_n (L' := [(2, .int x543), (0, .int l0), (1, .int l1)]) dX1_beside_3 rfl (by decide) rfl ?_
  refine z_iload_n 1 dX1_beside_4 rfl ?_
  refine z_iconst (v := 5) dX1_beside_5 (by decide) ?_
  refine z_idiv dX1_beside_6 (by decide) ?_
  replace e := z_bd e; obtain ⟨x544, ex544, e⟩ := e
  refine z_topI ex544 ?_
  refine z_istore_n (L' := [(3, .int x544), (2, .int x543), (0, .int l0), (1, .int l1)]) dX1_beside_7 rfl (by decide) rfl ?_
  refine z_iload_n 3 dX1_beside_8 rfl ?_
  by_cases c545 : l1 = 0
  · rw [if_pos c545] at e
    refine z_tableIn (off := 27) (tgt := 36) dX1_beside_9 (by rw [c545]; decide) (by rw [c545]; decide) (by rw [c545]; decide) (by decide) ?_
    refine z_iload_n 0 dX1_beside_36 rfl ?_
    refine z_iconst (v := 1) dX1_beside_37 (by decide) ?_
    refine z_iadd dX1_beside_38 ?_
    refine z_iconst (v := 5) dX1_beside_39 (by decide) ?_
    refine z_icmp_ge (tgt := 49) dX1_beside_40 (by decide) (fun c546 => ?_) (fun c546 => ?_)
    · rw [if_pos c546] at e
      refine z_iconst (v := -1) dX1_beside_49 (by decide) ?_
      cases e
      exact z_iret dX1_beside_50 rfl
    · rw [if_neg c546] at e
      refine z_iload_n 2 dX1_beside_43 rfl ?_
      refine z_iconst (v := 5) dX1_beside_44 (by decide) ?_
      refine z_iadd dX1_beside_45 ?_
      refine z_goto (tgt := 50) dX1_beside_46 (by decide) ?_
      cases e
      exact z_iret dX1_beside_50 rfl
  rw [if_neg c545] at e
  by_cases c547 : l1 = 1
  · rw [if_pos c547] at e
    refine z_tableIn (off := 42) (tgt := 51) dX1_beside_9 (by rw [c547]; decide) (by rw [c547]; decide) (by rw [c547]; decide) (by decide) ?_
    refine z_iload_n 1 dX1_beside_51 rfl ?_
    refine z_iconst (v := 1) dX1_beside_52 (by decide) ?_
    refine z_iadd dX1_beside_53 ?_
    refine z_iconst (v := 5) dX1_beside_54 (by decide) ?_
    refine z_icmp_ge (tgt := 64) dX1_beside_55 (by decide) (fun c548 => ?_) (fun c548 => ?_)
    · rw [if_pos c548] at e
      refine z_iconst (v := -1) dX1_beside_64 (by decide) ?_
      cases e
      exact z_iret dX1_beside_65 rfl
    · rw [if_neg c548] at e
      refine z_iload_n 2 dX1_beside_58 rfl ?_
      refine z_iconst (v := 1) dX1_beside_59 (by decide) ?_
      refine z_iadd dX1_beside_60 ?_
      refine z_goto (tgt := 65) dX1_beside_61 (by decide) ?_
      cases e
      exact z_iret dX1_beside_65 rfl
  rw [if_neg c547] at e
  by_cases c549 : l1 = 2
  · rw [if_pos c549] at e
    refine z_tableIn (off := 57) (tgt := 66) dX1_beside_9 (by rw [c549]; decide) (by rw [c549]; decide) (by rw [c549]; decide) (by decide) ?_
    refine z_iload_n 0 dX1_beside_66 rfl ?_
    refine z_if_le (tgt := 76) dX1_beside_67 (by decide) (fun c550 => ?_) (fun c550 => ?_)
    · rw [if_pos c550] at e
      refine z_iconst (v := -1) dX1_beside_76 (by decide) ?_
      cases e
      exact z_iret dX1_beside_77 rfl
    · rw [if_neg c550] at e
      refine z_iload_n 2 dX1_beside_70 rfl ?_
      refine z_iconst (v := 5) dX1_beside_71 (by decide) ?_
      refine z_isub dX1_beside_72 ?_
      refine z_goto (tgt := 77) dX1_beside_73 (by decide) ?_
      cases e
      exact z_iret dX1_beside_77 rfl
  rw [if_neg c549] at e
  have nc545 := lv_neT (a := 0) c545 (by decide)
  have nc547 := lv_neT (a := 1) c547 (by decide)
  have nc549 := lv_neT (a := 2) c549 (by decide)
  refine z_tableOut (tgt := 78) dX1_beside_9 (by omega) (by decide) ?_
  refine z_iload_n 1 dX1_beside_78 rfl ?_
  refine z_if_le (tgt := 88) dX1_beside_79 (by decide) (fun c551 => ?_) (fun c551 => ?_)
  · rw [if_pos c551] at e
    refine z_iconst (v := -1) dX1_beside_88 (by decide) ?_
    cases e
    exact z_iret dX1_beside_89 rfl
  · rw [if_neg c551] at e
    refine z_iload_n 2 dX1_beside_82 rfl ?_
    refine z_iconst (v := 1) dX1_beside_83 (by decide) ?_
    refine z_isub dX1_beside_84 ?_
    refine z_goto (tgt := 89) dX1_beside_85 (by decide) ?_
    cases e
    exact z_iret dX1_beside_89 rfl
theorem dX9_isWall_0 : decode cX9_isWall 0 = .ok (.aload_n 0, 1) := by decide +kernel
theorem dX9_isWall_1 : decode cX9_isWall 1 = .ok (.getfield 46, 3) := by decide +kernel
theorem dX9_isWall_4 : decode cX9_isWall 4 = .ok (.iload_n 1, 1) := by decide +kernel
theorem dX9_isWall_5 : decode cX9_isWall 5 = .ok (.ishr, 1) := by decide +kernel
theorem dX9_isWall_6 : decode cX9_isWall 6 = .ok (.iconst 1, 1) := by decide +kernel
theorem dX9_isWall_7 : decode cX9_isWall 7 = .ok (.iand, 1) := by decide +kernel
theorem dX9_isWall_8 : decode cX9_isWall 8 = .ok (.iconst 1, 1) := by decide +kernel
theorem dX9_isWall_9 : decode cX9_isWall 9 = .ok (.if_icmp .ne 7, 3) := by decide +kernel
theorem dX9_isWall_12 : decode cX9_isWall 12 = .ok (.iconst 1, 1) := by decide +kernel
theorem dX9_isWall_13 : decode cX9_isWall 13 = .ok (.goto 4, 3) := by decide +kernel
theorem dX9_isWall_16 : decode cX9_isWall 16 = .ok (.iconst 0, 1) := by decide +kernel
theorem dX9_isWall_17 : decode cX9_isWall 17 = .ok (.ireturn, 1) := by decide +kernel
def D_X9_isWall (h : z_H) (l0 : Option Nat) (l1 : Int32) : Option (Int32 × z_H) :=
  (z_gI 9 h l0 9).bind fun x552 =>
  if ((x552 >>> (l1 &&& 31)) &&& (1:Int32)) = (1:Int32) then
    some ((1:Int32), h)
  else
    some ((0:Int32), h)
set_option maxRecDepth 100000 in
set_option maxHeartbeats 4000000 in
theorem S_X9_isWall {G : z_G} {l : Launch} {h : z_H} {l0 : Option Nat} {l1 : Int32} {res : (Int32 × z_H)} (e : D_X9_isWall h l0 l1 = some res) : z_Meth G l 4 M_X9_isWall [z_r l0, .int l1] h res.2 (some (.int res.1)) := by
  refine z_Meth.of ck_X9_isWall.2.2.2.2 (by simp [lg_sl, z_ci, z_cj, z_cr, z_cx]) ck_X9_isWall.1 ?_
  rw [show lv_args 0 [z_r l0, .int l1] = [(0, z_r l0), (1, .int l1)] from by simp [lv_args, z_ci, z_cj, z_cr, z_cx]]
  unfold D_X9_isWall at e
  refine z_aload_n 0 dX9_isWall_0 rfl ?_
  replace e := z_bd e; obtain ⟨x552, ex552, e⟩ := e
  refine z_getI ex552 lk_X9_46 dX9_isWall_1 ?_
  refine z_iload_n 1 dX9_isWall_4 rfl ?_
  refine z_ishr dX9_isWall_5 ?_
  refine z_iconst (v := 1) dX9_isWall_6 (by decide) ?_
  refine z_iand dX9_isWall_7 ?_
  refine z_iconst (v := 1) dX9_isWall_8 (by decide) ?_
  refine z_icmp_ne (tgt := 16) dX9_isWall_9 (by decide) (fun c553 => ?_) (fun c553 => ?_)
  · rw [if_neg c553] at e
    refine z_iconst (v := 0) dX9_isWall_16 (by decide) ?_
    cases e
    exact z_zret dX9_isWall_17 rfl (by decide)
  · rw [if_pos c553] at e
    refine z_iconst (v := 1) dX9_isWall_12 (by decide) ?_
    refine z_goto (tgt := 17) dX9_isWall_13 (by decide) ?_
    cases e
    exact z_zret dX9_isWall_17 rfl (by decide)
theorem dX1_setLawWords_0 : decode cX1_setLawWords 0 = .ok (.iload 5, 2) := by decide +kernel
theorem dX1_setLawWords_2 : decode cX1_setLawWords 2 = .ok (.iconst 4, 1) := by decide +kernel
theorem dX1_setLawWords_3 : decode cX1_setLawWords 3 = .ok (.idiv, 1) := by decide +kernel
theorem dX1_setLawWords_4 : decode cX1_setLawWords 4 = .ok (.istore 6, 2) := by decide +kernel
theorem dX1_setLawWords_6 : decode cX1_setLawWords 6 = .ok (.aload_n 0, 1) := by decide +kernel
theorem dX1_setLawWords_7 : decode cX1_setLawWords 7 = .ok (.getfield 9, 3) := by decide +kernel
theorem dX1_setLawWords_10 : decode cX1_setLawWords 10 = .ok (.iconst 0, 1) := by decide +kernel
theorem dX1_setLawWords_11 : decode cX1_setLawWords 11 = .ok (.iload_n 2, 1) := by decide +kernel
theorem dX1_setLawWords_12 : decode cX1_setLawWords 12 = .ok (.iastore, 1) := by decide +kernel
theorem dX1_setLawWords_13 : decode cX1_setLawWords 13 = .ok (.aload_n 0, 1) := by decide +kernel
theorem dX1_setLawWords_14 : decode cX1_setLawWords 14 = .ok (.getfield 9, 3) := by decide +kernel
theorem dX1_setLawWords_17 : decode cX1_setLawWords 17 = .ok (.iconst 1, 1) := by decide +kernel
theorem dX1_setLawWords_18 : decode cX1_setLawWords 18 = .ok (.aload_n 1, 1) := by decide +kernel
theorem dX1_setLawWords_19 : decode cX1_setLawWords 19 = .ok (.getfield 58, 3) := by decide +kernel
theorem dX1_setLawWords_22 : decode cX1_setLawWords 22 = .ok (.iload_n 2, 1) := by decide +kernel
theorem dX1_setLawWords_23 : decode cX1_setLawWords 23 = .ok (.iaload, 1) := by decide +kernel
theorem dX1_setLawWords_24 : decode cX1_setLawWords 24 = .ok (.iastore, 1) := by decide +kernel
theorem dX1_setLawWords_25 : decode cX1_setLawWords 25 = .ok (.aload_n 0, 1) := by decide +kernel
theorem dX1_setLawWords_26 : decode cX1_setLawWords 26 = .ok (.getfield 9, 3) := by decide +kernel
theorem dX1_setLawWords_29 : decode cX1_setLawWords 29 = .ok (.iconst 2, 1) := by decide +kernel
theorem dX1_setLawWords_30 : decode cX1_setLawWords 30 = .ok (.iload_n 3, 1) := by decide +kernel
theorem dX1_setLawWords_31 : decode cX1_setLawWords 31 = .ok (.iastore, 1) := by decide +kernel
theorem dX1_setLawWords_32 : decode cX1_setLawWords 32 = .ok (.aload_n 0, 1) := by decide +kernel
theorem dX1_setLawWords_33 : decode cX1_setLawWords 33 = .ok (.getfield 9, 3) := by decide +kernel
theorem dX1_setLawWords_36 : decode cX1_setLawWords 36 = .ok (.iconst 3, 1) := by decide +kernel
theorem dX1_setLawWords_37 : decode cX1_setLawWords 37 = .ok (.iload 4, 2) := by decide +kernel
theorem dX1_setLawWords_39 : decode cX1_setLawWords 39 = .ok (.iastore, 1) := by decide +kernel
theorem dX1_setLawWords_40 : decode cX1_setLawWords 40 = .ok (.aload_n 0, 1) := by decide +kernel
theorem dX1_setLawWords_41 : decode cX1_setLawWords 41 = .ok (.getfield 9, 3) := by decide +kernel
theorem dX1_setLawWords_44 : decode cX1_setLawWords 44 = .ok (.iconst 4, 1) := by decide +kernel
theorem dX1_setLawWords_45 : decode cX1_setLawWords 45 = .ok (.iload 6, 2) := by decide +kernel
theorem dX1_setLawWords_47 : decode cX1_setLawWords 47 = .ok (.iconst 5, 1) := by decide +kernel
theorem dX1_setLawWords_48 : decode cX1_setLawWords 48 = .ok (.irem, 1) := by decide +kernel
theorem dX1_setLawWords_49 : decode cX1_setLawWords 49 = .ok (.iastore, 1) := by decide +kernel
theorem dX1_setLawWords_50 : decode cX1_setLawWords 50 = .ok (.aload_n 0, 1) := by decide +kernel
theorem dX1_setLawWords_51 : decode cX1_setLawWords 51 = .ok (.getfield 9, 3) := by decide +kernel
theorem dX1_setLawWords_54 : decode cX1_setLawWords 54 = .ok (.iconst 5, 1) := by decide +kernel
theorem dX1_setLawWords_55 : decode cX1_setLawWords 55 = .ok (.iload 6, 2) := by decide +kernel
theorem dX1_setLawWords_57 : decode cX1_setLawWords 57 = .ok (.iconst 5, 1) := by decide +kernel
theorem dX1_setLawWords_58 : decode cX1_setLawWords 58 = .ok (.idiv, 1) := by decide +kernel
theorem dX1_setLawWords_59 : decode cX1_setLawWords 59 = .ok (.iastore, 1) := by decide +kernel
theorem dX1_setLawWords_60 : decode cX1_setLawWords 60 = .ok (.aload_n 0, 1) := by decide +kernel
theorem dX1_setLawWords_61 : decode cX1_setLawWords 61 = .ok (.getfield 9, 3) := by decide +kernel
theorem dX1_setLawWords_64 : decode cX1_setLawWords 64 = .ok (.bipush 6, 2) := by decide +kernel
theorem dX1_setLawWords_66 : decode cX1_setLawWords 66 = .ok (.iload 5, 2) := by decide +kernel
theorem dX1_setLawWords_68 : decode cX1_setLawWords 68 = .ok (.iconst 4, 1) := by decide +kernel
theorem dX1_setLawWords_69 : decode cX1_setLawWords 69 = .ok (.irem, 1) := by decide +kernel
theorem dX1_setLawWords_70 : decode cX1_setLawWords 70 = .ok (.iastore, 1) := by decide +kernel
theorem dX1_setLawWords_71 : decode cX1_setLawWords 71 = .ok (.aload_n 0, 1) := by decide +kernel
theorem dX1_setLawWords_72 : decode cX1_setLawWords 72 = .ok (.getfield 9, 3) := by decide +kernel
theorem dX1_setLawWords_75 : decode cX1_setLawWords 75 = .ok (.bipush 7, 2) := by decide +kernel
theorem dX1_setLawWords_77 : decode cX1_setLawWords 77 = .ok (.aload_n 1, 1) := by decide +kernel
theorem dX1_setLawWords_78 : decode cX1_setLawWords 78 = .ok (.getfield 63, 3) := by decide +kernel
theorem dX1_setLawWords_81 : decode cX1_setLawWords 81 = .ok (.iconst 0, 1) := by decide +kernel
theorem dX1_setLawWords_82 : decode cX1_setLawWords 82 = .ok (.iaload, 1) := by decide +kernel
theorem dX1_setLawWords_83 : decode cX1_setLawWords 83 = .ok (.iastore, 1) := by decide +kernel
theorem dX1_setLawWords_84 : decode cX1_setLawWords 84 = .ok (.aload_n 0, 1) := by decide +kernel
theorem dX1_setLawWords_85 : decode cX1_setLawWords 85 = .ok (.getfield 9, 3) := by decide +kernel
theorem dX1_setLawWords_88 : decode cX1_setLawWords 88 = .ok (.bipush 8, 2) := by decide +kernel
theorem dX1_setLawWords_90 : decode cX1_setLawWords 90 = .ok (.aload_n 1, 1) := by decide +kernel
theorem dX1_setLawWords_91 : decode cX1_setLawWords 91 = .ok (.getfield 63, 3) := by decide +kernel
theorem dX1_setLawWords_94 : decode cX1_setLawWords 94 = .ok (.iconst 2, 1) := by decide +kernel
theorem dX1_setLawWords_95 : decode cX1_setLawWords 95 = .ok (.iaload, 1) := by decide +kernel
theorem dX1_setLawWords_96 : decode cX1_setLawWords 96 = .ok (.iastore, 1) := by decide +kernel
theorem dX1_setLawWords_97 : decode cX1_setLawWords 97 = .ok (.return_, 1) := by decide +kernel
def D_X1_setLawWords (h : z_H) (l0 : Option Nat) (l1 : Option Nat) (l2 : Int32) (l3 : Int32) (l4 : Int32) (l5 : Int32) : Option z_H :=
  (some (l5 / (4:Int32))).bind fun x554 =>
  (z_gQ 1 h l0 0).bind fun x555 =>
  (z_sI h x555 (0:Int32) l2).bind fun h556 =>
  (z_gQ 1 h556 l0 0).bind fun x557 =>
  (z_gQ 9 h556 l1 2).bind fun x558 =>
  (z_aI .int h556 x558 l2).bind fun x559 =>
  (z_sI h556 x557 (1:Int32) x559).bind fun h560 =>
  (z_gQ 1 h560 l0 0).bind fun x561 =>
  (z_sI h560 x561 (2:Int32) l3).bind fun h562 =>
  (z_gQ 1 h562 l0 0).bind fun x563 =>
  (z_sI h562 x563 (3:Int32) l4).bind fun h564 =>
  (z_gQ 1 h564 l0 0).bind fun x565 =>
  (z_sI h564 x565 (4:Int32) (x554 - x554 / (5:Int32) * (5:Int32))).bind fun h566 =>
  (z_gQ 1 h566 l0 0).bind fun x567 =>
  (z_sI h566 x567 (5:Int32) (x554 / (5:Int32))).bind fun h568 =>
  (z_gQ 1 h568 l0 0).bind fun x569 =>
  (z_sI h568 x569 (6:Int32) (l5 - l5 / (4:Int32) * (4:Int32))).bind fun h570 =>
  (z_gQ 1 h570 l0 0).bind fun x571 =>
  (z_gQ 9 h570 l1 4).bind fun x572 =>
  (z_aI .int h570 x572 (0:Int32)).bind fun x573 =>
  (z_sI h570 x571 (7:Int32) x573).bind fun h574 =>
  (z_gQ 1 h574 l0 0).bind fun x575 =>
  (z_gQ 9 h574 l1 4).bind fun x576 =>
  (z_aI .int h574 x576 (2:Int32)).bind fun x577 =>
  (z_sI h574 x575 (8:Int32) x577).bind fun h578 =>
  some h578
set_option maxRecDepth 100000 in
set_option maxHeartbeats 4000000 in
theorem S_X1_setLawWords {G : z_G} {l : Launch} {h : z_H} {l0 : Option Nat} {l1 : Option Nat} {l2 : Int32} {l3 : Int32} {l4 : Int32} {l5 : Int32} {res : z_H} (e : D_X1_setLawWords h l0 l1 l2 l3 l4 l5 = some res) : z_Meth G l 4 M_X1_setLawWords [z_r l0, z_r l1, .int l2, .int l3, .int l4, .int l5] h res none := by
  refine z_Meth.of ck_X1_setLawWords.2.2.2.2 (by simp [lg_sl, z_ci, z_cj, z_cr, z_cx]) ck_X1_setLawWords.1 ?_
  rw [show lv_args 0 [z_r l0, z_r l1, .int l2, .int l3, .int l4, .int l5] = [(0, z_r l0), (1, z_r l1), (2, .int l2), (3, .int l3), (4, .int l4), (5, .int l5)] from by simp [lv_args, z_ci, z_cj, z_cr, z_cx]]
  unfold D_X1_setLawWords at e
  refine z_iload 5 dX1_setLawWords_0 rfl ?_
  refine z_iconst (v := 4) dX1_setLawWords_2 (by decide) ?_
  refine z_idiv dX1_setLawWords_3 (by decide) ?_
  replace e := z_bd e; obtain ⟨x554, ex554, e⟩ := e
  refine z_topI ex554 ?_
  refine z_istore (L' := [(6, .int x554), (0, z_r l0), (1, z_r l1), (2, .int l2), (3, .int l3), (4, .int l4), (5, .int l5)]) dX1_setLawWords_4 (by decide) rfl ?_
  refine z_aload_n 1 dX1_setLawWords_6 rfl ?_
  replace e := z_bd e; obtain ⟨x555, ex555, e⟩ := e
  refine z_getQ ex555 lk_X1_9 dX1_setLawWords_7 ?_
  refine z_iconst (v := 0) dX1_setLawWords_10 (by decide) ?_
  refine z_iload_n 3 dX1_setLawWords_11 rfl ?_
  replace e := z_bd e; obtain ⟨h556, eh556, e⟩ := e
  refine z_iast eh556 dX1_setLawWords_12 ?_
  refine z_aload_n 1 dX1_setLawWords_13 rfl ?_
  replace e := z_bd e; obtain ⟨x557, ex557, e⟩ := e
  refine z_getQ ex557 lk_X1_9 dX1_setLawWords_14 ?_
  refine z_iconst (v := 1) dX1_setLawWords_17 (by decide) ?_
  refine z_aload_n 2 dX1_setLawWords_18 rfl ?_
  replace e := z_bd e; obtain ⟨x558, ex558, e⟩ := e
  refine z_getQ ex558 lk_X1_58 dX1_setLawWords_19 ?_
  refine z_iload_n 3 dX1_setLawWords_22 rfl ?_
  replace e := z_bd e; obtain ⟨x559, ex559, e⟩ := e
  refine z_iald ex559 dX1_setLawWords_23 ?_
  replace e := z_bd e; obtain ⟨h560, eh560, e⟩ := e
  refine z_iast eh560 dX1_setLawWords_24 ?_
  refine z_aload_n 1 dX1_setLawWords_25 rfl ?_
  replace e := z_bd e; obtain ⟨x561, ex561, e⟩ := e
  refine z_getQ ex561 lk_X1_9 dX1_setLawWords_26 ?_
  refine z_iconst (v := 2) dX1_setLawWords_29 (by decide) ?_
  refine z_iload_n 4 dX1_setLawWords_30 rfl ?_
  replace e := z_bd e; obtain ⟨h562, eh562, e⟩ := e
  refine z_iast eh562 dX1_setLawWords_31 ?_
  refine z_aload_n 1 dX1_setLawWords_32 rfl ?_
  replace e := z_bd e; obtain ⟨x563, ex563, e⟩ := e
  refine z_getQ ex563 lk_X1_9 dX1_setLawWords_33 ?_
  refine z_iconst (v := 3) dX1_setLawWords_36 (by decide) ?_
  refine z_iload 5 dX1_setLawWords_37 rfl ?_
  replace e := z_bd e; obtain ⟨h564, eh564, e⟩ := e
  refine z_iast eh564 dX1_setLawWords_39 ?_
  refine z_aload_n 1 dX1_setLawWords_40 rfl ?_
  replace e := z_bd e; obtain ⟨x565, ex565, e⟩ := e
  refine z_getQ ex565 lk_X1_9 dX1_setLawWords_41 ?_
  refine z_iconst (v := 4) dX1_setLawWords_44 (by decide) ?_
  refine z_iload 0 dX1_setLawWords_45 rfl ?_
  refine z_iconst (v := 5) dX1_setLawWords_47 (by decide) ?_
  refine z_irem dX1_setLawWords_48 (by decide) ?_
  replace e := z_bd e; obtain ⟨h566, eh566, e⟩ := e
  refine z_iast eh566 dX1_setLawWords_49 ?_
  refine z_aload_n 1 dX1_setLawWords_50 rfl ?_
  replace e := z_bd e; obtain ⟨x567, ex567, e⟩ := e
  refine z_getQ ex567 lk_X1_9 dX1_setLawWords_51 ?_
  refine z_iconst (v := 5) dX1_setLawWords_54 (by decide) ?_
  refine z_iload 0 dX1_setLawWords_55 rfl ?_
  refine z_iconst (v := 5) dX1_setLawWords_57 (by decide) ?_
  refine z_idiv dX1_setLawWords_58 (by decide) ?_
  replace e := z_bd e; obtain ⟨h568, eh568, e⟩ := e
  refine z_iast eh568 dX1_setLawWords_59 ?_
  refine z_aload_n 1 dX1_setLawWords_60 rfl ?_
  replace e := z_bd e; obtain ⟨x569, ex569, e⟩ := e
  refine z_getQ ex569 lk_X1_9 dX1_setLawWords_61 ?_
  refine z_bipush (v := 6) dX1_setLawWords_64 (by decide) ?_
  refine z_iload 6 dX1_setLawWords_66 rfl ?_
  refine z_iconst (v := 4) dX1_setLawWords_68 (by decide) ?_
  refine z_irem dX1_setLawWords_69 (by decide) ?_
  replace e := z_bd e; obtain ⟨h570, eh570, e⟩ := e
  refine z_iast eh570 dX1_setLawWords_70 ?_
  refine z_aload_n 1 dX1_setLawWords_71 rfl ?_
  replace e := z_bd e; obtain ⟨x571, ex571, e⟩ := e
  refine z_getQ ex571 lk_X1_9 dX1_setLawWords_72 ?_
  refine z_bipush (v := 7) dX1_setLawWords_75 (by decide) ?_
  refine z_aload_n 2 dX1_setLawWords_77 rfl ?_
  replace e := z_bd e; obtain ⟨x572, ex572, e⟩ := e
  refine z_getQ ex572 lk_X1_63 dX1_setLawWords_78 ?_
  refine z_iconst (v := 0) dX1_setLawWords_81 (by decide) ?_
  replace e := z_bd e; obtain ⟨x573, ex573, e⟩ := e
  refine z_iald ex573 dX1_setLawWords_82 ?_
  replace e := z_bd e; obtain ⟨h574, eh574, e⟩ := e
  refine z_iast eh574 dX1_setLawWords_83 ?_
  refine z_aload_n 1 dX1_setLawWords_84 rfl ?_
  replace e := z_bd e; obtain ⟨x575, ex575, e⟩ := e
  refine z_getQ ex575 lk_X1_9 dX1_setLawWords_85 ?_
  refine z_bipush (v := 8) dX1_setLawWords_88 (by decide) ?_
  refine z_aload_n 2 dX1_setLawWords_90 rfl ?_
  replace e := z_bd e; obtain ⟨x576, ex576, e⟩ := e
  refine z_getQ ex576 lk_X1_63 dX1_setLawWords_91 ?_
  refine z_iconst (v := 2) dX1_setLawWords_94 (by decide) ?_
  replace e := z_bd e; obtain ⟨x577, ex577, e⟩ := e
  refine z_iald ex577 dX1_setLawWords_95 ?_
  replace e := z_bd e; obtain ⟨h578, eh578, e⟩ := e
  refine z_iast eh578 dX1_setLawWords_96 ?_
  cases e
  exact z_vret dX1_setLawWords_97 rfl
theorem dX9_hasLaw_0 : decode cX9_hasLaw 0 = .ok (.iload_n 1, 1) := by decide +kernel
theorem dX9_hasLaw_1 : decode cX9_hasLaw 1 = .ok (.ifCond .lt 15, 3) := by decide +kernel
theorem dX9_hasLaw_4 : decode cX9_hasLaw 4 = .ok (.iload_n 1, 1) := by decide +kernel
theorem dX9_hasLaw_5 : decode cX9_hasLaw 5 = .ok (.aload_n 0, 1) := by decide +kernel
theorem dX9_hasLaw_6 : decode cX9_hasLaw 6 = .ok (.getfield 52, 3) := by decide +kernel
theorem dX9_hasLaw_9 : decode cX9_hasLaw 9 = .ok (.if_icmp .ge 7, 3) := by decide +kernel
theorem dX9_hasLaw_12 : decode cX9_hasLaw 12 = .ok (.iconst 1, 1) := by decide +kernel
theorem dX9_hasLaw_13 : decode cX9_hasLaw 13 = .ok (.goto 4, 3) := by decide +kernel
theorem dX9_hasLaw_16 : decode cX9_hasLaw 16 = .ok (.iconst 0, 1) := by decide +kernel
theorem dX9_hasLaw_17 : decode cX9_hasLaw 17 = .ok (.ireturn, 1) := by decide +kernel
def D_X9_hasLaw (h : z_H) (l0 : Option Nat) (l1 : Int32) : Option (Int32 × z_H) :=
  if l1 < 0 then
    some ((0:Int32), h)
  else
    (z_gI 9 h l0 11).bind fun x580 =>
    if x580 ≤ l1 then
      some ((0:Int32), h)
    else
      some ((1:Int32), h)
set_option maxRecDepth 100000 in
set_option maxHeartbeats 4000000 in
theorem S_X9_hasLaw {G : z_G} {l : Launch} {h : z_H} {l0 : Option Nat} {l1 : Int32} {res : (Int32 × z_H)} (e : D_X9_hasLaw h l0 l1 = some res) : z_Meth G l 4 M_X9_hasLaw [z_r l0, .int l1] h res.2 (some (.int res.1)) := by
  refine z_Meth.of ck_X9_hasLaw.2.2.2.2 (by simp [lg_sl, z_ci, z_cj, z_cr, z_cx]) ck_X9_hasLaw.1 ?_
  rw [show lv_args 0 [z_r l0, .int l1] = [(0, z_r l0), (1, .int l1)] from by simp [lv_args, z_ci, z_cj, z_cr, z_cx]]
  unfold D_X9_hasLaw at e
  refine z_iload_n 1 dX9_hasLaw_0 rfl ?_
  refine z_if_lt (tgt := 16) dX9_hasLaw_1 (by decide) (fun c579 => ?_) (fun c579 => ?_)
  · rw [if_pos c579] at e
    refine z_iconst (v := 0) dX9_hasLaw_16 (by decide) ?_
    cases e
    exact z_zret dX9_hasLaw_17 rfl (by decide)
  · rw [if_neg c579] at e
    refine z_iload_n 1 dX9_hasLaw_4 rfl ?_
    refine z_aload_n 0 dX9_hasLaw_5 rfl ?_
    replace e := z_bd e; obtain ⟨x580, ex580, e⟩ := e
    refine z_getI ex580 lk_X9_52 dX9_hasLaw_6 ?_
    refine z_icmp_ge (tgt := 16) dX9_hasLaw_9 (by decide) (fun c581 => ?_) (fun c581 => ?_)
    · rw [if_pos c581] at e
      refine z_iconst (v := 0) dX9_hasLaw_16 (by decide) ?_
      cases e
      exact z_zret dX9_hasLaw_17 rfl (by decide)
    · rw [if_neg c581] at e
      refine z_iconst (v := 1) dX9_hasLaw_12 (by decide) ?_
      refine z_goto (tgt := 17) dX9_hasLaw_13 (by decide) ?_
      cases e
      exact z_zret dX9_hasLaw_17 rfl (by decide)
theorem dX9_lawAt_0 : decode cX9_lawAt 0 = .ok (.aload_n 0, 1) := by decide +kernel
theorem dX9_lawAt_1 : decode cX9_lawAt 1 = .ok (.iload_n 1, 1) := by decide +kernel
theorem dX9_lawAt_2 : decode cX9_lawAt 2 = .ok (.invokevirtual 64, 3) := by decide +kernel
theorem dX9_lawAt_5 : decode cX9_lawAt 5 = .ok (.ifCond .eq 12, 3) := by decide +kernel
theorem dX9_lawAt_8 : decode cX9_lawAt 8 = .ok (.aload_n 0, 1) := by decide +kernel
theorem dX9_lawAt_9 : decode cX9_lawAt 9 = .ok (.getfield 38, 3) := by decide +kernel
theorem dX9_lawAt_12 : decode cX9_lawAt 12 = .ok (.iload_n 1, 1) := by decide +kernel
theorem dX9_lawAt_13 : decode cX9_lawAt 13 = .ok (.aaload, 1) := by decide +kernel
theorem dX9_lawAt_14 : decode cX9_lawAt 14 = .ok (.goto 4, 3) := by decide +kernel
theorem dX9_lawAt_17 : decode cX9_lawAt 17 = .ok (.aconst_null, 1) := by decide +kernel
theorem dX9_lawAt_18 : decode cX9_lawAt 18 = .ok (.areturn, 1) := by decide +kernel
def D_X9_lawAt (h : z_H) (l0 : Option Nat) (l1 : Int32) : Option (Option Nat × z_H) :=
  (z_ob 9 h l0).bind fun _ =>
  (D_X9_hasLaw  h l0 l1).bind fun p582 =>
  if p582.1 = 0 then
    some (none, p582.2)
  else
    (z_gQ 9 p582.2 l0 7).bind fun x585 =>
    (z_aQ RX7 p582.2 x585 l1).bind fun x586 =>
    some (x586, p582.2)
set_option maxRecDepth 100000 in
set_option maxHeartbeats 4000000 in
theorem S_X9_lawAt {G : z_G} {l : Launch} {h : z_H} {l0 : Option Nat} {l1 : Int32} {res : (Option Nat × z_H)} (e : D_X9_lawAt h l0 l1 = some res) : z_Meth G l 5 M_X9_lawAt [z_r l0, .int l1] h res.2 (some (z_r res.1)) := by
  refine z_Meth.of ck_X9_lawAt.2.2.2.2 (by simp [lg_sl, z_ci, z_cj, z_cr, z_cx]) ck_X9_lawAt.1 ?_
  rw [show lv_args 0 [z_r l0, .int l1] = [(0, z_r l0), (1, .int l1)] from by simp [lv_args, z_ci, z_cj, z_cr, z_cx]]
  unfold D_X9_lawAt at e
  refine z_aload_n 0 dX9_lawAt_0 rfl ?_
  refine z_iload_n 1 dX9_lawAt_1 rfl ?_
  replace e := z_bd e; obtain ⟨o583, eo583, e⟩ := e
  replace e := z_bd e; obtain ⟨p582, ep582, e⟩ := e
  refine z_cV [.int l1] (S_X9_hasLaw  ep582) eo583 rfl ml_X9_64 ck_X9_hasLaw vk_X9_hasLaw dX9_lawAt_2 (by decide) rfl (Nat.zero_le _) rfl ?_
  refine z_if_eq (tgt := 17) dX9_lawAt_5 (by decide) (fun c584 => ?_) (fun c584 => ?_)
  · rw [if_pos c584] at e
    refine z_null dX9_lawAt_17 ?_
    refine z_nul ?_
    cases e
    exact z_aret dX9_lawAt_18 rfl ⟨_, rfl⟩
  · rw [if_neg c584] at e
    refine z_aload_n 0 dX9_lawAt_8 rfl ?_
    replace e := z_bd e; obtain ⟨x585, ex585, e⟩ := e
    refine z_getQ ex585 lk_X9_38 dX9_lawAt_9 ?_
    refine z_iload_n 1 dX9_lawAt_12 rfl ?_
    replace e := z_bd e; obtain ⟨x586, ex586, e⟩ := e
    refine z_aald 4 rfl ex586 dX9_lawAt_13 ?_
    refine z_goto (tgt := 18) dX9_lawAt_14 (by decide) ?_
    cases e
    exact z_aret dX9_lawAt_18 rfl ⟨_, rfl⟩
theorem dX9_lawInForce_0 : decode cX9_lawInForce 0 = .ok (.aload_n 0, 1) := by decide +kernel
theorem dX9_lawInForce_1 : decode cX9_lawInForce 1 = .ok (.aload_n 0, 1) := by decide +kernel
theorem dX9_lawInForce_2 : decode cX9_lawInForce 2 = .ok (.getfield 55, 3) := by decide +kernel
theorem dX9_lawInForce_5 : decode cX9_lawInForce 5 = .ok (.invokevirtual 68, 3) := by decide +kernel
theorem dX9_lawInForce_8 : decode cX9_lawInForce 8 = .ok (.areturn, 1) := by decide +kernel
def D_X9_lawInForce (h : z_H) (l0 : Option Nat) : Option (Option Nat × z_H) :=
  (z_gI 9 h l0 12).bind fun x587 =>
  (z_ob 9 h l0).bind fun _ =>
  (D_X9_lawAt  h l0 x587).bind fun p588 =>
  some (p588.1, p588.2)
set_option maxRecDepth 100000 in
set_option maxHeartbeats 4000000 in
theorem S_X9_lawInForce {G : z_G} {l : Launch} {h : z_H} {l0 : Option Nat} {res : (Option Nat × z_H)} (e : D_X9_lawInForce h l0 = some res) : z_Meth G l 6 M_X9_lawInForce [z_r l0] h res.2 (some (z_r res.1)) := by
  refine z_Meth.of ck_X9_lawInForce.2.2.2.2 (by simp [lg_sl, z_ci, z_cj, z_cr, z_cx]) ck_X9_lawInForce.1 ?_
  rw [show lv_args 0 [z_r l0] = [(0, z_r l0)] from by simp [lv_args, z_ci, z_cj, z_cr, z_cx]]
  unfold D_X9_lawInForce at e
  refine z_aload_n 0 dX9_lawInForce_0 rfl ?_
  refine z_aload_n 0 dX9_lawInForce_1 rfl ?_
  replace e := z_bd e; obtain ⟨x587, ex587, e⟩ := e
  refine z_getI ex587 lk_X9_55 dX9_lawInForce_2 ?_
  replace e := z_bd e; obtain ⟨o589, eo589, e⟩ := e
  replace e := z_bd e; obtain ⟨p588, ep588, e⟩ := e
  refine z_cV [.int x587] (S_X9_lawAt  ep588) eo589 rfl ml_X9_68 ck_X9_lawAt vk_X9_lawAt dX9_lawInForce_5 (by decide) rfl (Nat.zero_le _) rfl ?_
  cases e
  exact z_aret dX9_lawInForce_8 rfl ⟨_, rfl⟩
theorem dX7_field_0 : decode cX7_field 0 = .ok (.aload_n 0, 1) := by decide +kernel
theorem dX7_field_1 : decode cX7_field 1 = .ok (.getfield 23, 3) := by decide +kernel
theorem dX7_field_4 : decode cX7_field 4 = .ok (.iload_n 1, 1) := by decide +kernel
theorem dX7_field_5 : decode cX7_field 5 = .ok (.bipush 6, 2) := by decide +kernel
theorem dX7_field_7 : decode cX7_field 7 = .ok (.imul, 1) := by decide +kernel
theorem dX7_field_8 : decode cX7_field 8 = .ok (.iload_n 2, 1) := by decide +kernel
theorem dX7_field_9 : decode cX7_field 9 = .ok (.iadd, 1) := by decide +kernel
theorem dX7_field_10 : decode cX7_field 10 = .ok (.iaload, 1) := by decide +kernel
theorem dX7_field_11 : decode cX7_field 11 = .ok (.ireturn, 1) := by decide +kernel
def D_X7_field (h : z_H) (l0 : Option Nat) (l1 : Int32) (l2 : Int32) : Option (Int32 × z_H) :=
  (z_gQ 7 h l0 2).bind fun x590 =>
  (z_aI .int h x590 ((l1 * (6:Int32)) + l2)).bind fun x591 =>
  some (x591, h)
set_option maxRecDepth 100000 in
set_option maxHeartbeats 4000000 in
theorem S_X7_field {G : z_G} {l : Launch} {h : z_H} {l0 : Option Nat} {l1 : Int32} {l2 : Int32} {res : (Int32 × z_H)} (e : D_X7_field h l0 l1 l2 = some res) : z_Meth G l 4 M_X7_field [z_r l0, .int l1, .int l2] h res.2 (some (.int res.1)) := by
  refine z_Meth.of ck_X7_field.2.2.2.2 (by simp [lg_sl, z_ci, z_cj, z_cr, z_cx]) ck_X7_field.1 ?_
  rw [show lv_args 0 [z_r l0, .int l1, .int l2] = [(0, z_r l0), (1, .int l1), (2, .int l2)] from by simp [lv_args, z_ci, z_cj, z_cr, z_cx]]
  unfold D_X7_field at e
  refine z_aload_n 0 dX7_field_0 rfl ?_
  replace e := z_bd e; obtain ⟨x590, ex590, e⟩ := e
  refine z_getQ ex590 lk_X7_23 dX7_field_1 ?_
  refine z_iload_n 1 dX7_field_4 rfl ?_
  refine z_bipush (v := 6) dX7_field_5 (by decide) ?_
  refine z_imul dX7_field_7 ?_
  refine z_iload_n 2 dX7_field_8 rfl ?_
  refine z_iadd dX7_field_9 ?_
  replace e := z_bd e; obtain ⟨x591, ex591, e⟩ := e
  refine z_iald ex591 dX7_field_10 ?_
  cases e
  exact z_iret dX7_field_11 rfl
theorem dX1_joined_0 : decode cX1_joined 0 = .ok (.iload_n 0, 1) := by decide +kernel
theorem dX1_joined_1 : decode cX1_joined 1 = .ok (.tableswitch 107 5 11 #[43, 47, 51, 55, 69, 83, 95], 43) := by decide +kernel
theorem dX1_joined_44 : decode cX1_joined 44 = .ok (.lload_n 1, 1) := by decide +kernel
theorem dX1_joined_45 : decode cX1_joined 45 = .ok (.lload_n 3, 1) := by decide +kernel
theorem dX1_joined_46 : decode cX1_joined 46 = .ok (.ladd, 1) := by decide +kernel
theorem dX1_joined_47 : decode cX1_joined 47 = .ok (.lreturn, 1) := by decide +kernel
theorem dX1_joined_48 : decode cX1_joined 48 = .ok (.lload_n 1, 1) := by decide +kernel
theorem dX1_joined_49 : decode cX1_joined 49 = .ok (.lload_n 3, 1) := by decide +kernel
theorem dX1_joined_50 : decode cX1_joined 50 = .ok (.lsub, 1) := by decide +kernel
theorem dX1_joined_51 : decode cX1_joined 51 = .ok (.lreturn, 1) := by decide +kernel
theorem dX1_joined_52 : decode cX1_joined 52 = .ok (.lload_n 1, 1) := by decide +kernel
theorem dX1_joined_53 : decode cX1_joined 53 = .ok (.lload_n 3, 1) := by decide +kernel
theorem dX1_joined_54 : decode cX1_joined 54 = .ok (.lmul, 1) := by decide +kernel
theorem dX1_joined_55 : decode cX1_joined 55 = .ok (.lreturn, 1) := by decide +kernel
theorem dX1_joined_56 : decode cX1_joined 56 = .ok (.lload_n 3, 1) := by decide +kernel
theorem dX1_joined_57 : decode cX1_joined 57 = .ok (.lconst 0, 1) := by decide +kernel
theorem dX1_joined_58 : decode cX1_joined 58 = .ok (.lcmp, 1) := by decide +kernel
theorem dX1_joined_59 : decode cX1_joined 59 = .ok (.ifCond .ne 7, 3) := by decide +kernel
theorem dX1_joined_62 : decode cX1_joined 62 = .ok (.lconst 0, 1) := by decide +kernel
theorem dX1_joined_63 : decode cX1_joined 63 = .ok (.goto 6, 3) := by decide +kernel
theorem dX1_joined_66 : decode cX1_joined 66 = .ok (.lload_n 1, 1) := by decide +kernel
theorem dX1_joined_67 : decode cX1_joined 67 = .ok (.lload_n 3, 1) := by decide +kernel
theorem dX1_joined_68 : decode cX1_joined 68 = .ok (.ldiv, 1) := by decide +kernel
theorem dX1_joined_69 : decode cX1_joined 69 = .ok (.lreturn, 1) := by decide +kernel
theorem dX1_joined_70 : decode cX1_joined 70 = .ok (.lload_n 3, 1) := by decide +kernel
theorem dX1_joined_71 : decode cX1_joined 71 = .ok (.lconst 0, 1) := by decide +kernel
theorem dX1_joined_72 : decode cX1_joined 72 = .ok (.lcmp, 1) := by decide +kernel
theorem dX1_joined_73 : decode cX1_joined 73 = .ok (.ifCond .ne 7, 3) := by decide +kernel
theorem dX1_joined_76 : decode cX1_joined 76 = .ok (.lconst 0, 1) := by decide +kernel
theorem dX1_joined_77 : decode cX1_joined 77 = .ok (.goto 6, 3) := by decide +kernel
theorem dX1_joined_80 : decode cX1_joined 80 = .ok (.lload_n 1, 1) := by decide +kernel
theorem dX1_joined_81 : decode cX1_joined 81 = .ok (.lload_n 3, 1) := by decide +kernel
theorem dX1_joined_82 : decode cX1_joined 82 = .ok (.lrem, 1) := by decide +kernel
theorem dX1_joined_83 : decode cX1_joined 83 = .ok (.lreturn, 1) := by decide +kernel
theorem dX1_joined_84 : decode cX1_joined 84 = .ok (.lload_n 1, 1) := by decide +kernel
theorem dX1_joined_85 : decode cX1_joined 85 = .ok (.lload_n 3, 1) := by decide +kernel
theorem dX1_joined_86 : decode cX1_joined 86 = .ok (.lcmp, 1) := by decide +kernel
theorem dX1_joined_87 : decode cX1_joined 87 = .ok (.ifCond .ge 7, 3) := by decide +kernel
theorem dX1_joined_90 : decode cX1_joined 90 = .ok (.lconst 1, 1) := by decide +kernel
theorem dX1_joined_91 : decode cX1_joined 91 = .ok (.goto 4, 3) := by decide +kernel
theorem dX1_joined_94 : decode cX1_joined 94 = .ok (.lconst 0, 1) := by decide +kernel
theorem dX1_joined_95 : decode cX1_joined 95 = .ok (.lreturn, 1) := by decide +kernel
theorem dX1_joined_96 : decode cX1_joined 96 = .ok (.lload_n 1, 1) := by decide +kernel
theorem dX1_joined_97 : decode cX1_joined 97 = .ok (.lload_n 3, 1) := by decide +kernel
theorem dX1_joined_98 : decode cX1_joined 98 = .ok (.lcmp, 1) := by decide +kernel
theorem dX1_joined_99 : decode cX1_joined 99 = .ok (.ifCond .le 7, 3) := by decide +kernel
theorem dX1_joined_102 : decode cX1_joined 102 = .ok (.lconst 1, 1) := by decide +kernel
theorem dX1_joined_103 : decode cX1_joined 103 = .ok (.goto 4, 3) := by decide +kernel
theorem dX1_joined_106 : decode cX1_joined 106 = .ok (.lconst 0, 1) := by decide +kernel
theorem dX1_joined_107 : decode cX1_joined 107 = .ok (.lreturn, 1) := by decide +kernel
theorem dX1_joined_108 : decode cX1_joined 108 = .ok (.lload_n 1, 1) := by decide +kernel
theorem dX1_joined_109 : decode cX1_joined 109 = .ok (.lload_n 3, 1) := by decide +kernel
theorem dX1_joined_110 : decode cX1_joined 110 = .ok (.lcmp, 1) := by decide +kernel
theorem dX1_joined_111 : decode cX1_joined 111 = .ok (.ifCond .ne 7, 3) := by decide +kernel
theorem dX1_joined_114 : decode cX1_joined 114 = .ok (.lconst 1, 1) := by decide +kernel
theorem dX1_joined_115 : decode cX1_joined 115 = .ok (.goto 4, 3) := by decide +kernel
theorem dX1_joined_118 : decode cX1_joined 118 = .ok (.lconst 0, 1) := by decide +kernel
theorem dX1_joined_119 : decode cX1_joined 119 = .ok (.lreturn, 1) := by decide +kernel
def D_X1_joined (h : z_H) (l0 : Int32) (l1 : Int64) (l3 : Int64) : Option (Int64 × z_H) :=
  if l0 = 5 then
    some ((l1 + l3), h)
  else
  if l0 = 6 then
    some ((l1 - l3), h)
  else
  if l0 = 7 then
    some ((l1 * l3), h)
  else
  if l0 = 8 then
    if (lg_cmp l3 (0:Int64)) = 0 then
      some ((0:Int64), h)
    else
      if l3 = 0 then none else
      some ((l1 / l3), h)
  else
  if l0 = 9 then
    if (lg_cmp l3 (0:Int64)) = 0 then
      some ((0:Int64), h)
    else
      if l3 = 0 then none else
      some ((l1 - l1 / l3 * l3), h)
  else
  if l0 = 10 then
    if 0 ≤ (lg_cmp l1 l3) then
      some ((0:Int64), h)
    else
      some ((1:Int64), h)
  else
  if l0 = 11 then
    if (lg_cmp l1 l3) ≤ 0 then
      some ((0:Int64), h)
    else
      some ((1:Int64), h)
  else
  if (lg_cmp l1 l3) = 0 then
    some ((1:Int64), h)
  else
    some ((0:Int64), h)
set_option maxRecDepth 100000 in
set_option maxHeartbeats 4000000 in
theorem S_X1_joined {G : z_G} {l : Launch} {h : z_H} {l0 : Int32} {l1 : Int64} {l3 : Int64} {res : (Int64 × z_H)} (e : D_X1_joined h l0 l1 l3 = some res) : z_Meth G l 4 M_X1_joined [.int l0, .long l1, .long l3] h res.2 (some (.long res.1)) := by
  refine z_Meth.of ck_X1_joined.2.2.2.2 (by simp [lg_sl, z_ci, z_cj, z_cr, z_cx]) ck_X1_joined.1 ?_
  rw [show lv_args 0 [.int l0, .long l1, .long l3] = [(0, .int l0), (1, .long l1), (3, .long l3)] from rfl]
  unfold D_X1_joined at e
  refine z_iload_n 0 dX1_joined_0 rfl ?_
  by_cases c592 : l0 = 5
  · rw [if_pos c592] at e
    refine z_tableIn (off := 43) (tgt := 44) dX1_joined_1 (by rw [c592]; decide) (by rw [c592]; decide) (by rw [c592]; decide) (by decide) ?_
    refine z_lload_n 1 dX1_joined_44 rfl ?_
    refine z_lload_n 2 dX1_joined_45 rfl ?_
    refine z_ladd dX1_joined_46 ?_
    cases e
    exact z_lret dX1_joined_47 rfl
  rw [if_neg c592] at e
  by_cases c593 : l0 = 6
  · rw [if_pos c593] at e
    refine z_tableIn (off := 47) (tgt := 48) dX1_joined_1 (by rw [c593]; decide) (by rw [c593]; decide) (by rw [c593]; decide) (by decide) ?_
    refine z_lload_n 1 dX1_joined_48 rfl ?_
    refine z_lload_n 2 dX1_joined_49 rfl ?_
    refine z_lsub dX1_joined_50 ?_
    cases e
    exact z_lret dX1_joined_51 rfl
  rw [if_neg c593] at e
  by_cases c594 : l0 = 7
  · rw [if_pos c594] at e
    refine z_tableIn (off := 51) (tgt := 52) dX1_joined_1 (by rw [c594]; decide) (by rw [c594]; decide) (by rw [c594]; decide) (by decide) ?_
    refine z_lload_n 1 dX1_joined_52 rfl ?_
    refine z_lload_n 2 dX1_joined_53 rfl ?_
    refine z_lmul dX1_joined_54 ?_
    cases e
    exact z_lret dX1_joined_55 rfl
  rw [if_neg c594] at e
  by_cases c595 : l0 = 8
  · rw [if_pos c595] at e
    refine z_tableIn (off := 55) (tgt := 56) dX1_joined_1 (by rw [c595]; decide) (by rw [c595]; decide) (by rw [c595]; decide) (by decide) ?_
    refine z_lload_n 2 dX1_joined_56 rfl ?_
    refine z_lconst (v := 0) dX1_joined_57 (by decide) ?_
    refine z_lcmp dX1_joined_58 ?_
    refine z_if_ne (tgt := 66) dX1_joined_59 (by decide) (fun c596 => ?_) (fun c596 => ?_)
    · rw [if_neg c596] at e
      refine z_lload_n 1 dX1_joined_66 rfl ?_
      refine z_lload_n 2 dX1_joined_67 rfl ?_
      replace e := z_ifn e; obtain ⟨c597, e⟩ := e
      refine z_ldiv dX1_joined_68 c597 ?_
      cases e
      exact z_lret dX1_joined_69 rfl
    · rw [if_pos c596] at e
      refine z_lconst (v := 0) dX1_joined_62 (by decide) ?_
      refine z_goto (tgt := 69) dX1_joined_63 (by decide) ?_
      cases e
      exact z_lret dX1_joined_69 rfl
  rw [if_neg c595] at e
  by_cases c598 : l0 = 9
  · rw [if_pos c598] at e
    refine z_tableIn (off := 69) (tgt := 70) dX1_joined_1 (by rw [c598]; decide) (by rw [c598]; decide) (by rw [c598]; decide) (by decide) ?_
    refine z_lload_n 2 dX1_joined_70 rfl ?_
    refine z_lconst (v := 0) dX1_joined_71 (by decide) ?_
    refine z_lcmp dX1_joined_72 ?_
    refine z_if_ne (tgt := 80) dX1_joined_73 (by decide) (fun c599 => ?_) (fun c599 => ?_)
    · rw [if_neg c599] at e
      refine z_lload_n 1 dX1_joined_80 rfl ?_
      refine z_lload_n 2 dX1_joined_81 rfl ?_
      replace e := z_ifn e; obtain ⟨c600, e⟩ := e
      refine z_lrem dX1_joined_82 c600 ?_
      cases e
      exact z_lret dX1_joined_83 rfl
    · rw [if_pos c599] at e
      refine z_lconst (v := 0) dX1_joined_76 (by decide) ?_
      refine z_goto (tgt := 83) dX1_joined_77 (by decide) ?_
      cases e
      exact z_lret dX1_joined_83 rfl
  rw [if_neg c598] at e
  by_cases c601 : l0 = 10
  · rw [if_pos c601] at e
    refine z_tableIn (off := 83) (tgt := 84) dX1_joined_1 (by rw [c601]; decide) (by rw [c601]; decide) (by rw [c601]; decide) (by decide) ?_
    refine z_lload_n 1 dX1_joined_84 rfl ?_
    refine z_lload_n 2 dX1_joined_85 rfl ?_
    refine z_lcmp dX1_joined_86 ?_
    refine z_if_ge (tgt := 94) dX1_joined_87 (by decide) (fun c602 => ?_) (fun c602 => ?_)
    · rw [if_pos c602] at e
      refine z_lconst (v := 0) dX1_joined_94 (by decide) ?_
      cases e
      exact z_lret dX1_joined_95 rfl
    · rw [if_neg c602] at e
      refine z_lconst (v := 1) dX1_joined_90 (by decide) ?_
      refine z_goto (tgt := 95) dX1_joined_91 (by decide) ?_
      cases e
      exact z_lret dX1_joined_95 rfl
  rw [if_neg c601] at e
  by_cases c603 : l0 = 11
  · rw [if_pos c603] at e
    refine z_tableIn (off := 95) (tgt := 96) dX1_joined_1 (by rw [c603]; decide) (by rw [c603]; decide) (by rw [c603]; decide) (by decide) ?_
    refine z_lload_n 1 dX1_joined_96 rfl ?_
    refine z_lload_n 2 dX1_joined_97 rfl ?_
    refine z_lcmp dX1_joined_98 ?_
    refine z_if_le (tgt := 106) dX1_joined_99 (by decide) (fun c604 => ?_) (fun c604 => ?_)
    · rw [if_pos c604] at e
      refine z_lconst (v := 0) dX1_joined_106 (by decide) ?_
      cases e
      exact z_lret dX1_joined_107 rfl
    · rw [if_neg c604] at e
      refine z_lconst (v := 1) dX1_joined_102 (by decide) ?_
      refine z_goto (tgt := 107) dX1_joined_103 (by decide) ?_
      cases e
      exact z_lret dX1_joined_107 rfl
  rw [if_neg c603] at e
  have nc592 := lv_neT (a := 5) c592 (by decide)
  have nc593 := lv_neT (a := 6) c593 (by decide)
  have nc594 := lv_neT (a := 7) c594 (by decide)
  have nc595 := lv_neT (a := 8) c595 (by decide)
  have nc598 := lv_neT (a := 9) c598 (by decide)
  have nc601 := lv_neT (a := 10) c601 (by decide)
  have nc603 := lv_neT (a := 11) c603 (by decide)
  refine z_tableOut (tgt := 108) dX1_joined_1 (by omega) (by decide) ?_
  refine z_lload_n 1 dX1_joined_108 rfl ?_
  refine z_lload_n 2 dX1_joined_109 rfl ?_
  refine z_lcmp dX1_joined_110 ?_
  refine z_if_ne (tgt := 118) dX1_joined_111 (by decide) (fun c605 => ?_) (fun c605 => ?_)
  · rw [if_neg c605] at e
    refine z_lconst (v := 0) dX1_joined_118 (by decide) ?_
    cases e
    exact z_lret dX1_joined_119 rfl
  · rw [if_pos c605] at e
    refine z_lconst (v := 1) dX1_joined_114 (by decide) ?_
    refine z_goto (tgt := 119) dX1_joined_115 (by decide) ?_
    cases e
    exact z_lret dX1_joined_119 rfl
theorem dX1_reckon_0 : decode cX1_reckon 0 = .ok (.iconst (-1), 1) := by decide +kernel
theorem dX1_reckon_1 : decode cX1_reckon 1 = .ok (.istore 4, 2) := by decide +kernel
theorem dX1_reckon_3 : decode cX1_reckon 3 = .ok (.iload_n 2, 1) := by decide +kernel
theorem dX1_reckon_4 : decode cX1_reckon 4 = .ok (.istore 5, 2) := by decide +kernel
theorem dX1_reckon_6 : decode cX1_reckon 6 = .ok (.iload 5, 2) := by decide +kernel
theorem dX1_reckon_8 : decode cX1_reckon 8 = .ok (.iload_n 3, 1) := by decide +kernel
theorem dX1_reckon_9 : decode cX1_reckon 9 = .ok (.if_icmp .ge 285, 3) := by decide +kernel
theorem dX1_reckon_12 : decode cX1_reckon 12 = .ok (.iload 5, 2) := by decide +kernel
theorem dX1_reckon_14 : decode cX1_reckon 14 = .ok (.aload_n 1, 1) := by decide +kernel
theorem dX1_reckon_15 : decode cX1_reckon 15 = .ok (.getfield 23, 3) := by decide +kernel
theorem dX1_reckon_18 : decode cX1_reckon 18 = .ok (.if_icmp .ge 276, 3) := by decide +kernel
theorem dX1_reckon_21 : decode cX1_reckon 21 = .ok (.aload_n 1, 1) := by decide +kernel
theorem dX1_reckon_22 : decode cX1_reckon 22 = .ok (.getfield 28, 3) := by decide +kernel
theorem dX1_reckon_25 : decode cX1_reckon 25 = .ok (.iload 5, 2) := by decide +kernel
theorem dX1_reckon_27 : decode cX1_reckon 27 = .ok (.iaload, 1) := by decide +kernel
theorem dX1_reckon_28 : decode cX1_reckon 28 = .ok (.istore 6, 2) := by decide +kernel
theorem dX1_reckon_30 : decode cX1_reckon 30 = .ok (.aload_n 1, 1) := by decide +kernel
theorem dX1_reckon_31 : decode cX1_reckon 31 = .ok (.getfield 31, 3) := by decide +kernel
theorem dX1_reckon_34 : decode cX1_reckon 34 = .ok (.iload 5, 2) := by decide +kernel
theorem dX1_reckon_36 : decode cX1_reckon 36 = .ok (.iaload, 1) := by decide +kernel
theorem dX1_reckon_37 : decode cX1_reckon 37 = .ok (.istore 7, 2) := by decide +kernel
theorem dX1_reckon_39 : decode cX1_reckon 39 = .ok (.iload 6, 2) := by decide +kernel
theorem dX1_reckon_41 : decode cX1_reckon 41 = .ok (.ifCond .eq 9, 3) := by decide +kernel
theorem dX1_reckon_44 : decode cX1_reckon 44 = .ok (.iload 6, 2) := by decide +kernel
theorem dX1_reckon_46 : decode cX1_reckon 46 = .ok (.iconst 1, 1) := by decide +kernel
theorem dX1_reckon_47 : decode cX1_reckon 47 = .ok (.if_icmp .ne 59, 3) := by decide +kernel
theorem dX1_reckon_50 : decode cX1_reckon 50 = .ok (.iload 4, 2) := by decide +kernel
theorem dX1_reckon_52 : decode cX1_reckon 52 = .ok (.iconst 1, 1) := by decide +kernel
theorem dX1_reckon_53 : decode cX1_reckon 53 = .ok (.iadd, 1) := by decide +kernel
theorem dX1_reckon_54 : decode cX1_reckon 54 = .ok (.bipush 51, 2) := by decide +kernel
theorem dX1_reckon_56 : decode cX1_reckon 56 = .ok (.if_icmp .ge 16, 3) := by decide +kernel
theorem dX1_reckon_59 : decode cX1_reckon 59 = .ok (.iload 6, 2) := by decide +kernel
theorem dX1_reckon_61 : decode cX1_reckon 61 = .ok (.iconst 1, 1) := by decide +kernel
theorem dX1_reckon_62 : decode cX1_reckon 62 = .ok (.if_icmp .ne 12, 3) := by decide +kernel
theorem dX1_reckon_65 : decode cX1_reckon 65 = .ok (.iload 7, 2) := by decide +kernel
theorem dX1_reckon_67 : decode cX1_reckon 67 = .ok (.bipush 23, 2) := by decide +kernel
theorem dX1_reckon_69 : decode cX1_reckon 69 = .ok (.if_icmp .lt 5, 3) := by decide +kernel
theorem dX1_reckon_72 : decode cX1_reckon 72 = .ok (.iconst 0, 1) := by decide +kernel
theorem dX1_reckon_73 : decode cX1_reckon 73 = .ok (.ireturn, 1) := by decide +kernel
theorem dX1_reckon_74 : decode cX1_reckon 74 = .ok (.iinc 4 1, 3) := by decide +kernel
theorem dX1_reckon_77 : decode cX1_reckon 77 = .ok (.aload_n 0, 1) := by decide +kernel
theorem dX1_reckon_78 : decode cX1_reckon 78 = .ok (.getfield 15, 3) := by decide +kernel
theorem dX1_reckon_81 : decode cX1_reckon 81 = .ok (.iload 4, 2) := by decide +kernel
theorem dX1_reckon_83 : decode cX1_reckon 83 = .ok (.iload 6, 2) := by decide +kernel
theorem dX1_reckon_85 : decode cX1_reckon 85 = .ok (.ifCond .ne 9, 3) := by decide +kernel
theorem dX1_reckon_88 : decode cX1_reckon 88 = .ok (.iload 7, 2) := by decide +kernel
theorem dX1_reckon_90 : decode cX1_reckon 90 = .ok (.i2l, 1) := by decide +kernel
theorem dX1_reckon_91 : decode cX1_reckon 91 = .ok (.goto 11, 3) := by decide +kernel
theorem dX1_reckon_94 : decode cX1_reckon 94 = .ok (.aload_n 0, 1) := by decide +kernel
theorem dX1_reckon_95 : decode cX1_reckon 95 = .ok (.getfield 9, 3) := by decide +kernel
theorem dX1_reckon_98 : decode cX1_reckon 98 = .ok (.iload 7, 2) := by decide +kernel
theorem dX1_reckon_100 : decode cX1_reckon 100 = .ok (.iaload, 1) := by decide +kernel
theorem dX1_reckon_101 : decode cX1_reckon 101 = .ok (.i2l, 1) := by decide +kernel
theorem dX1_reckon_102 : decode cX1_reckon 102 = .ok (.lastore, 1) := by decide +kernel
theorem dX1_reckon_103 : decode cX1_reckon 103 = .ok (.goto 185, 3) := by decide +kernel
theorem dX1_reckon_106 : decode cX1_reckon 106 = .ok (.iload 4, 2) := by decide +kernel
theorem dX1_reckon_108 : decode cX1_reckon 108 = .ok (.ifCond .ge 5, 3) := by decide +kernel
theorem dX1_reckon_111 : decode cX1_reckon 111 = .ok (.iconst 0, 1) := by decide +kernel
theorem dX1_reckon_112 : decode cX1_reckon 112 = .ok (.ireturn, 1) := by decide +kernel
theorem dX1_reckon_113 : decode cX1_reckon 113 = .ok (.iload 6, 2) := by decide +kernel
theorem dX1_reckon_115 : decode cX1_reckon 115 = .ok (.iconst 2, 1) := by decide +kernel
theorem dX1_reckon_116 : decode cX1_reckon 116 = .ok (.if_icmp .ne 22, 3) := by decide +kernel
theorem dX1_reckon_119 : decode cX1_reckon 119 = .ok (.aload_n 0, 1) := by decide +kernel
theorem dX1_reckon_120 : decode cX1_reckon 120 = .ok (.getfield 15, 3) := by decide +kernel
theorem dX1_reckon_123 : decode cX1_reckon 123 = .ok (.iload 4, 2) := by decide +kernel
theorem dX1_reckon_125 : decode cX1_reckon 125 = .ok (.lconst 1, 1) := by decide +kernel
theorem dX1_reckon_126 : decode cX1_reckon 126 = .ok (.aload_n 0, 1) := by decide +kernel
theorem dX1_reckon_127 : decode cX1_reckon 127 = .ok (.getfield 15, 3) := by decide +kernel
theorem dX1_reckon_130 : decode cX1_reckon 130 = .ok (.iload 4, 2) := by decide +kernel
theorem dX1_reckon_132 : decode cX1_reckon 132 = .ok (.laload, 1) := by decide +kernel
theorem dX1_reckon_133 : decode cX1_reckon 133 = .ok (.lsub, 1) := by decide +kernel
theorem dX1_reckon_134 : decode cX1_reckon 134 = .ok (.lastore, 1) := by decide +kernel
theorem dX1_reckon_135 : decode cX1_reckon 135 = .ok (.goto 153, 3) := by decide +kernel
theorem dX1_reckon_138 : decode cX1_reckon 138 = .ok (.iload 6, 2) := by decide +kernel
theorem dX1_reckon_140 : decode cX1_reckon 140 = .ok (.iconst 3, 1) := by decide +kernel
theorem dX1_reckon_141 : decode cX1_reckon 141 = .ok (.if_icmp .eq 9, 3) := by decide +kernel
theorem dX1_reckon_144 : decode cX1_reckon 144 = .ok (.iload 6, 2) := by decide +kernel
theorem dX1_reckon_146 : decode cX1_reckon 146 = .ok (.iconst 4, 1) := by decide +kernel
theorem dX1_reckon_147 : decode cX1_reckon 147 = .ok (.if_icmp .ne 46, 3) := by decide +kernel
theorem dX1_reckon_150 : decode cX1_reckon 150 = .ok (.aload_n 0, 1) := by decide +kernel
theorem dX1_reckon_151 : decode cX1_reckon 151 = .ok (.getfield 15, 3) := by decide +kernel
theorem dX1_reckon_154 : decode cX1_reckon 154 = .ok (.iload 4, 2) := by decide +kernel
theorem dX1_reckon_156 : decode cX1_reckon 156 = .ok (.laload, 1) := by decide +kernel
theorem dX1_reckon_157 : decode cX1_reckon 157 = .ok (.iload 6, 2) := by decide +kernel
theorem dX1_reckon_159 : decode cX1_reckon 159 = .ok (.iconst 4, 1) := by decide +kernel
theorem dX1_reckon_160 : decode cX1_reckon 160 = .ok (.if_icmp .ne 7, 3) := by decide +kernel
theorem dX1_reckon_163 : decode cX1_reckon 163 = .ok (.iconst 1, 1) := by decide +kernel
theorem dX1_reckon_164 : decode cX1_reckon 164 = .ok (.goto 4, 3) := by decide +kernel
theorem dX1_reckon_167 : decode cX1_reckon 167 = .ok (.iconst 0, 1) := by decide +kernel
theorem dX1_reckon_168 : decode cX1_reckon 168 = .ok (.i2l, 1) := by decide +kernel
theorem dX1_reckon_169 : decode cX1_reckon 169 = .ok (.lcmp, 1) := by decide +kernel
theorem dX1_reckon_170 : decode cX1_reckon 170 = .ok (.ifCond .ne 17, 3) := by decide +kernel
theorem dX1_reckon_173 : decode cX1_reckon 173 = .ok (.iload 5, 2) := by decide +kernel
theorem dX1_reckon_175 : decode cX1_reckon 175 = .ok (.iload 7, 2) := by decide +kernel
theorem dX1_reckon_177 : decode cX1_reckon 177 = .ok (.iconst 1, 1) := by decide +kernel
theorem dX1_reckon_178 : decode cX1_reckon 178 = .ok (.isub, 1) := by decide +kernel
theorem dX1_reckon_179 : decode cX1_reckon 179 = .ok (.invokestatic 34, 3) := by decide +kernel
theorem dX1_reckon_182 : decode cX1_reckon 182 = .ok (.istore 5, 2) := by decide +kernel
theorem dX1_reckon_184 : decode cX1_reckon 184 = .ok (.goto 104, 3) := by decide +kernel
theorem dX1_reckon_187 : decode cX1_reckon 187 = .ok (.iinc 4 (-1), 3) := by decide +kernel
theorem dX1_reckon_190 : decode cX1_reckon 190 = .ok (.goto 98, 3) := by decide +kernel
theorem dX1_reckon_193 : decode cX1_reckon 193 = .ok (.iload 4, 2) := by decide +kernel
theorem dX1_reckon_195 : decode cX1_reckon 195 = .ok (.iconst 1, 1) := by decide +kernel
theorem dX1_reckon_196 : decode cX1_reckon 196 = .ok (.if_icmp .lt 29, 3) := by decide +kernel
theorem dX1_reckon_199 : decode cX1_reckon 199 = .ok (.aload_n 0, 1) := by decide +kernel
theorem dX1_reckon_200 : decode cX1_reckon 200 = .ok (.getfield 15, 3) := by decide +kernel
theorem dX1_reckon_203 : decode cX1_reckon 203 = .ok (.iload 4, 2) := by decide +kernel
theorem dX1_reckon_205 : decode cX1_reckon 205 = .ok (.laload, 1) := by decide +kernel
theorem dX1_reckon_206 : decode cX1_reckon 206 = .ok (.lconst 0, 1) := by decide +kernel
theorem dX1_reckon_207 : decode cX1_reckon 207 = .ok (.lcmp, 1) := by decide +kernel
theorem dX1_reckon_208 : decode cX1_reckon 208 = .ok (.ifCond .ne 19, 3) := by decide +kernel
theorem dX1_reckon_211 : decode cX1_reckon 211 = .ok (.iload 6, 2) := by decide +kernel
theorem dX1_reckon_213 : decode cX1_reckon 213 = .ok (.bipush 8, 2) := by decide +kernel
theorem dX1_reckon_215 : decode cX1_reckon 215 = .ok (.if_icmp .eq 10, 3) := by decide +kernel
theorem dX1_reckon_218 : decode cX1_reckon 218 = .ok (.iload 6, 2) := by decide +kernel
theorem dX1_reckon_220 : decode cX1_reckon 220 = .ok (.bipush 9, 2) := by decide +kernel
theorem dX1_reckon_222 : decode cX1_reckon 222 = .ok (.if_icmp .ne 5, 3) := by decide +kernel
theorem dX1_reckon_225 : decode cX1_reckon 225 = .ok (.iconst 0, 1) := by decide +kernel
theorem dX1_reckon_226 : decode cX1_reckon 226 = .ok (.ireturn, 1) := by decide +kernel
theorem dX1_reckon_227 : decode cX1_reckon 227 = .ok (.iinc 4 (-1), 3) := by decide +kernel
theorem dX1_reckon_230 : decode cX1_reckon 230 = .ok (.aload_n 0, 1) := by decide +kernel
theorem dX1_reckon_231 : decode cX1_reckon 231 = .ok (.getfield 15, 3) := by decide +kernel
theorem dX1_reckon_234 : decode cX1_reckon 234 = .ok (.iload 4, 2) := by decide +kernel
theorem dX1_reckon_236 : decode cX1_reckon 236 = .ok (.iload 6, 2) := by decide +kernel
theorem dX1_reckon_238 : decode cX1_reckon 238 = .ok (.aload_n 0, 1) := by decide +kernel
theorem dX1_reckon_239 : decode cX1_reckon 239 = .ok (.getfield 15, 3) := by decide +kernel
theorem dX1_reckon_242 : decode cX1_reckon 242 = .ok (.iload 4, 2) := by decide +kernel
theorem dX1_reckon_244 : decode cX1_reckon 244 = .ok (.laload, 1) := by decide +kernel
theorem dX1_reckon_245 : decode cX1_reckon 245 = .ok (.aload_n 0, 1) := by decide +kernel
theorem dX1_reckon_246 : decode cX1_reckon 246 = .ok (.getfield 15, 3) := by decide +kernel
theorem dX1_reckon_249 : decode cX1_reckon 249 = .ok (.iload 4, 2) := by decide +kernel
theorem dX1_reckon_251 : decode cX1_reckon 251 = .ok (.iconst 1, 1) := by decide +kernel
theorem dX1_reckon_252 : decode cX1_reckon 252 = .ok (.iadd, 1) := by decide +kernel
theorem dX1_reckon_253 : decode cX1_reckon 253 = .ok (.laload, 1) := by decide +kernel
theorem dX1_reckon_254 : decode cX1_reckon 254 = .ok (.invokestatic 40, 3) := by decide +kernel
theorem dX1_reckon_257 : decode cX1_reckon 257 = .ok (.lastore, 1) := by decide +kernel
theorem dX1_reckon_258 : decode cX1_reckon 258 = .ok (.aload_n 0, 1) := by decide +kernel
theorem dX1_reckon_259 : decode cX1_reckon 259 = .ok (.getfield 15, 3) := by decide +kernel
theorem dX1_reckon_262 : decode cX1_reckon 262 = .ok (.iload 4, 2) := by decide +kernel
theorem dX1_reckon_264 : decode cX1_reckon 264 = .ok (.laload, 1) := by decide +kernel
theorem dX1_reckon_265 : decode cX1_reckon 265 = .ok (.ldc2_w 44, 3) := by decide +kernel
theorem dX1_reckon_268 : decode cX1_reckon 268 = .ok (.lcmp, 1) := by decide +kernel
theorem dX1_reckon_269 : decode cX1_reckon 269 = .ok (.ifCond .gt 17, 3) := by decide +kernel
theorem dX1_reckon_272 : decode cX1_reckon 272 = .ok (.aload_n 0, 1) := by decide +kernel
theorem dX1_reckon_273 : decode cX1_reckon 273 = .ok (.getfield 15, 3) := by decide +kernel
theorem dX1_reckon_276 : decode cX1_reckon 276 = .ok (.iload 4, 2) := by decide +kernel
theorem dX1_reckon_278 : decode cX1_reckon 278 = .ok (.laload, 1) := by decide +kernel
theorem dX1_reckon_279 : decode cX1_reckon 279 = .ok (.ldc2_w 46, 3) := by decide +kernel
theorem dX1_reckon_282 : decode cX1_reckon 282 = .ok (.lcmp, 1) := by decide +kernel
theorem dX1_reckon_283 : decode cX1_reckon 283 = .ok (.ifCond .ge 5, 3) := by decide +kernel
theorem dX1_reckon_286 : decode cX1_reckon 286 = .ok (.iconst 0, 1) := by decide +kernel
theorem dX1_reckon_287 : decode cX1_reckon 287 = .ok (.ireturn, 1) := by decide +kernel
theorem dX1_reckon_288 : decode cX1_reckon 288 = .ok (.iinc 5 1, 3) := by decide +kernel
theorem dX1_reckon_291 : decode cX1_reckon 291 = .ok (.goto (-285), 3) := by decide +kernel
theorem dX1_reckon_294 : decode cX1_reckon 294 = .ok (.aload_n 0, 1) := by decide +kernel
theorem dX1_reckon_295 : decode cX1_reckon 295 = .ok (.iload 4, 2) := by decide +kernel
theorem dX1_reckon_297 : decode cX1_reckon 297 = .ok (.ifCond .ge 7, 3) := by decide +kernel
theorem dX1_reckon_300 : decode cX1_reckon 300 = .ok (.iconst 1, 1) := by decide +kernel
theorem dX1_reckon_301 : decode cX1_reckon 301 = .ok (.goto 10, 3) := by decide +kernel
theorem dX1_reckon_304 : decode cX1_reckon 304 = .ok (.aload_n 0, 1) := by decide +kernel
theorem dX1_reckon_305 : decode cX1_reckon 305 = .ok (.getfield 15, 3) := by decide +kernel
theorem dX1_reckon_308 : decode cX1_reckon 308 = .ok (.iconst 0, 1) := by decide +kernel
theorem dX1_reckon_309 : decode cX1_reckon 309 = .ok (.laload, 1) := by decide +kernel
theorem dX1_reckon_310 : decode cX1_reckon 310 = .ok (.l2i, 1) := by decide +kernel
theorem dX1_reckon_311 : decode cX1_reckon 311 = .ok (.putfield 19, 3) := by decide +kernel
theorem dX1_reckon_314 : decode cX1_reckon 314 = .ok (.iconst 1, 1) := by decide +kernel
theorem dX1_reckon_315 : decode cX1_reckon 315 = .ok (.ireturn, 1) := by decide +kernel
def D_X1_reckon_311 (h : z_H) (s0 : Option Nat) (s1 : Int32) : Option (Int32 × z_H) :=
  (z_pV 1 h s0 2 (.int s1)).bind fun h606 =>
  some ((1:Int32), h606)
set_option maxRecDepth 100000 in
set_option maxHeartbeats 4000000 in
theorem S_X1_reckon_311 {G : z_G} {l : Launch}  {h : z_H} {s0 : Option Nat} {s1 : Int32} {res : (Int32 × z_H)} (e : D_X1_reckon_311  h s0 s1 = some res) : z_Run G l 5 M_X1_reckon 311 [] [.int s1, z_r s0] h res.2 (some (.int res.1)) := by
  unfold D_X1_reckon_311 at e
  replace e := z_bd e; obtain ⟨h606, eh606, e⟩ := e
  refine z_putV eh606 lk_X1_19 wk_1_2 (fun _ => rfl) (fun _ => rfl) dX1_reckon_311 ?_
  refine z_iconst (v := 1) dX1_reckon_314 (by decide) ?_
  cases e
  exact z_zret dX1_reckon_315 rfl (by decide)
def D_X1_reckon_294 (h : z_H) (l0 : Option Nat) (l4 : Int32) : Option (Int32 × z_H) :=
  if 0 ≤ l4 then
    (z_gQ 1 h l0 1).bind fun x608 =>
    (z_aJ h x608 (0:Int32)).bind fun x609 =>
    D_X1_reckon_311   h l0 (Int64.toInt32 x609)
  else
    D_X1_reckon_311   h l0 (1:Int32)
set_option maxRecDepth 100000 in
set_option maxHeartbeats 4000000 in
theorem S_X1_reckon_294 {G : z_G} {l : Launch}  {h : z_H} {l0 : Option Nat} {l4 : Int32} {res : (Int32 × z_H)} (e : D_X1_reckon_294  h l0 l4 = some res) : z_Run G l 5 M_X1_reckon 294 [(0, z_r l0), (4, .int l4)] [] h res.2 (some (.int res.1)) := by
  unfold D_X1_reckon_294 at e
  refine z_aload_n 0 dX1_reckon_294 rfl ?_
  refine z_iload 1 dX1_reckon_295 rfl ?_
  refine z_if_ge (tgt := 304) dX1_reckon_297 (by decide) (fun c607 => ?_) (fun c607 => ?_)
  · rw [if_pos c607] at e
    refine z_aload_n 0 dX1_reckon_304 rfl ?_
    replace e := z_bd e; obtain ⟨x608, ex608, e⟩ := e
    refine z_getQ ex608 lk_X1_15 dX1_reckon_305 ?_
    refine z_iconst (v := 0) dX1_reckon_308 (by decide) ?_
    replace e := z_bd e; obtain ⟨x609, ex609, e⟩ := e
    refine z_lald ex609 dX1_reckon_309 ?_
    refine z_l2i dX1_reckon_310 ?_
    exact z_weak [] rfl (S_X1_reckon_311   e)
  · rw [if_neg c607] at e
    refine z_iconst (v := 1) dX1_reckon_300 (by decide) ?_
    refine z_goto (tgt := 311) dX1_reckon_301 (by decide) ?_
    exact z_weak [] rfl (S_X1_reckon_311   e)
def D_X1_reckon_288 (k6 : z_H → Option Nat → Option Nat → Int32 → Int32 → Int32 → Option (Int32 × z_H)) (h : z_H) (l0 : Option Nat) (l1 : Option Nat) (l3 : Int32) (l4 : Int32) (l5 : Int32) : Option (Int32 × z_H) :=
  (some (l5 + (1:Int32))).bind fun x610 =>
  k6 h l0 l1 l3 l4 x610
set_option maxRecDepth 100000 in
set_option maxHeartbeats 4000000 in
theorem S_X1_reckon_288 {G : z_G} {l : Launch} {k6 : z_H → Option Nat → Option Nat → Int32 → Int32 → Int32 → Option (Int32 × z_H)} (hk6 : ∀ {h : z_H} {l0 : Option Nat} {l1 : Option Nat} {l3 : Int32} {l4 : Int32} {l5 : Int32} {res : (Int32 × z_H)}, k6 h l0 l1 l3 l4 l5 = some res → z_Run G l 5 M_X1_reckon 6 [(0, z_r l0), (1, z_r l1), (3, .int l3), (4, .int l4), (5, .int l5)] [] h res.2 (some (.int res.1))) {h : z_H} {l0 : Option Nat} {l1 : Option Nat} {l3 : Int32} {l4 : Int32} {l5 : Int32} {res : (Int32 × z_H)} (e : D_X1_reckon_288 k6 h l0 l1 l3 l4 l5 = some res) : z_Run G l 5 M_X1_reckon 288 [(0, z_r l0), (1, z_r l1), (3, .int l3), (4, .int l4), (5, .int l5)] [] h res.2 (some (.int res.1)) := by
  unfold D_X1_reckon_288 at e
  replace e := z_bd e; obtain ⟨x610, ex610, e⟩ := e
  refine z_iinc (q := 4) (v := x610) (L' := [(5, .int x610), (0, z_r l0), (1, z_r l1), (3, .int l3), (4, .int l4)]) dX1_reckon_288 rfl (Option.some.inj ex610) (by decide) rfl ?_
  refine z_goto (tgt := 6) dX1_reckon_291 (by decide) ?_
  exact z_weak [1, 2, 3, 4, 0] rfl (hk6 e)
def D_X1_reckon_102 (k6 : z_H → Option Nat → Option Nat → Int32 → Int32 → Int32 → Option (Int32 × z_H)) (h : z_H) (l0 : Option Nat) (l1 : Option Nat) (l3 : Int32) (l4 : Int32) (l5 : Int32) (s0 : Option Nat) (s1 : Int32) (s2 : Int64) : Option (Int32 × z_H) :=
  (z_sJ h s0 s1 s2).bind fun h611 =>
  D_X1_reckon_288  k6 h611 l0 l1 l3 l4 l5
set_option maxRecDepth 100000 in
set_option maxHeartbeats 4000000 in
theorem S_X1_reckon_102 {G : z_G} {l : Launch} {k6 : z_H → Option Nat → Option Nat → Int32 → Int32 → Int32 → Option (Int32 × z_H)} (hk6 : ∀ {h : z_H} {l0 : Option Nat} {l1 : Option Nat} {l3 : Int32} {l4 : Int32} {l5 : Int32} {res : (Int32 × z_H)}, k6 h l0 l1 l3 l4 l5 = some res → z_Run G l 5 M_X1_reckon 6 [(0, z_r l0), (1, z_r l1), (3, .int l3), (4, .int l4), (5, .int l5)] [] h res.2 (some (.int res.1))) {h : z_H} {l0 : Option Nat} {l1 : Option Nat} {l3 : Int32} {l4 : Int32} {l5 : Int32} {s0 : Option Nat} {s1 : Int32} {s2 : Int64} {res : (Int32 × z_H)} (e : D_X1_reckon_102 k6 h l0 l1 l3 l4 l5 s0 s1 s2 = some res) : z_Run G l 5 M_X1_reckon 102 [(0, z_r l0), (1, z_r l1), (3, .int l3), (4, .int l4), (5, .int l5)] [.long s2, .int s1, z_r s0] h res.2 (some (.int res.1)) := by
  unfold D_X1_reckon_102 at e
  replace e := z_bd e; obtain ⟨h611, eh611, e⟩ := e
  refine z_last eh611 dX1_reckon_102 ?_
  refine z_goto (tgt := 288) dX1_reckon_103 (by decide) ?_
  exact z_weak [0, 1, 2, 3, 4] rfl (S_X1_reckon_288  @hk6 e)
def D_X1_reckon_74 (k6 : z_H → Option Nat → Option Nat → Int32 → Int32 → Int32 → Option (Int32 × z_H)) (h : z_H) (l0 : Option Nat) (l1 : Option Nat) (l3 : Int32) (l4 : Int32) (l5 : Int32) (l6 : Int32) (l7 : Int32) : Option (Int32 × z_H) :=
  (some (l4 + (1:Int32))).bind fun x612 =>
  (z_gQ 1 h l0 1).bind fun x613 =>
  if l6 = 0 then
    D_X1_reckon_102  k6 h l0 l1 l3 x612 l5 x613 x612 (Int32.toInt64 l7)
  else
    (z_gQ 1 h l0 0).bind fun x615 =>
    (z_aI .int h x615 l7).bind fun x616 =>
    D_X1_reckon_102  k6 h l0 l1 l3 x612 l5 x613 x612 (Int32.toInt64 x616)
set_option maxRecDepth 100000 in
set_option maxHeartbeats 4000000 in
theorem S_X1_reckon_74 {G : z_G} {l : Launch} {k6 : z_H → Option Nat → Option Nat → Int32 → Int32 → Int32 → Option (Int32 × z_H)} (hk6 : ∀ {h : z_H} {l0 : Option Nat} {l1 : Option Nat} {l3 : Int32} {l4 : Int32} {l5 : Int32} {res : (Int32 × z_H)}, k6 h l0 l1 l3 l4 l5 = some res → z_Run G l 5 M_X1_reckon 6 [(0, z_r l0), (1, z_r l1), (3, .int l3), (4, .int l4), (5, .int l5)] [] h res.2 (some (.int res.1))) {h : z_H} {l0 : Option Nat} {l1 : Option Nat} {l3 : Int32} {l4 : Int32} {l5 : Int32} {l6 : Int32} {l7 : Int32} {res : (Int32 × z_H)} (e : D_X1_reckon_74 k6 h l0 l1 l3 l4 l5 l6 l7 = some res) : z_Run G l 5 M_X1_reckon 74 [(0, z_r l0), (1, z_r l1), (3, .int l3), (4, .int l4), (5, .int l5), (6, .int l6), (7, .int l7)] [] h res.2 (some (.int res.1)) := by
  unfold D_X1_reckon_74 at e
  replace e := z_bd e; obtain ⟨x612, ex612, e⟩ := e
  refine z_iinc (q := 3) (v := x612) (L' := [(4, .int x612), (0, z_r l0), (1, z_r l1), (3, .int l3), (5, .int l5), (6, .int l6), (7, .int l7)]) dX1_reckon_74 rfl (Option.some.inj ex612) (by decide) rfl ?_
  refine z_aload_n 1 dX1_reckon_77 rfl ?_
  replace e := z_bd e; obtain ⟨x613, ex613, e⟩ := e
  refine z_getQ ex613 lk_X1_15 dX1_reckon_78 ?_
  refine z_iload 0 dX1_reckon_81 rfl ?_
  refine z_iload 5 dX1_reckon_83 rfl ?_
  refine z_if_ne (tgt := 94) dX1_reckon_85 (by decide) (fun c614 => ?_) (fun c614 => ?_)
  · rw [if_neg c614] at e
    refine z_aload_n 1 dX1_reckon_94 rfl ?_
    replace e := z_bd e; obtain ⟨x615, ex615, e⟩ := e
    refine z_getQ ex615 lk_X1_9 dX1_reckon_95 ?_
    refine z_iload 6 dX1_reckon_98 rfl ?_
    replace e := z_bd e; obtain ⟨x616, ex616, e⟩ := e
    refine z_iald ex616 dX1_reckon_100 ?_
    refine z_i2l dX1_reckon_101 ?_
    exact z_weak [1, 2, 3, 0, 4] rfl (S_X1_reckon_102  @hk6 e)
  · rw [if_pos c614] at e
    refine z_iload 6 dX1_reckon_88 rfl ?_
    refine z_i2l dX1_reckon_90 ?_
    refine z_goto (tgt := 102) dX1_reckon_91 (by decide) ?_
    exact z_weak [1, 2, 3, 0, 4] rfl (S_X1_reckon_102  @hk6 e)
def D_X1_reckon_50 (k6 : z_H → Option Nat → Option Nat → Int32 → Int32 → Int32 → Option (Int32 × z_H)) (h : z_H) (l0 : Option Nat) (l1 : Option Nat) (l3 : Int32) (l4 : Int32) (l5 : Int32) (l6 : Int32) (l7 : Int32) : Option (Int32 × z_H) :=
  if (51:Int32) ≤ (l4 + (1:Int32)) then
    some ((0:Int32), h)
  else
    if l6 = (1:Int32) then
      if l7 < (23:Int32) then
        D_X1_reckon_74  k6 h l0 l1 l3 l4 l5 l6 l7
      else
        some ((0:Int32), h)
    else
      D_X1_reckon_74  k6 h l0 l1 l3 l4 l5 l6 l7
set_option maxRecDepth 100000 in
set_option maxHeartbeats 4000000 in
theorem S_X1_reckon_50 {G : z_G} {l : Launch} {k6 : z_H → Option Nat → Option Nat → Int32 → Int32 → Int32 → Option (Int32 × z_H)} (hk6 : ∀ {h : z_H} {l0 : Option Nat} {l1 : Option Nat} {l3 : Int32} {l4 : Int32} {l5 : Int32} {res : (Int32 × z_H)}, k6 h l0 l1 l3 l4 l5 = some res → z_Run G l 5 M_X1_reckon 6 [(0, z_r l0), (1, z_r l1), (3, .int l3), (4, .int l4), (5, .int l5)] [] h res.2 (some (.int res.1))) {h : z_H} {l0 : Option Nat} {l1 : Option Nat} {l3 : Int32} {l4 : Int32} {l5 : Int32} {l6 : Int32} {l7 : Int32} {res : (Int32 × z_H)} (e : D_X1_reckon_50 k6 h l0 l1 l3 l4 l5 l6 l7 = some res) : z_Run G l 5 M_X1_reckon 50 [(0, z_r l0), (1, z_r l1), (3, .int l3), (4, .int l4), (5, .int l5), (6, .int l6), (7, .int l7)] [] h res.2 (some (.int res.1)) := by
  unfold D_X1_reckon_50 at e
  refine z_iload 3 dX1_reckon_50 rfl ?_
  refine z_iconst (v := 1) dX1_reckon_52 (by decide) ?_
  refine z_iadd dX1_reckon_53 ?_
  refine z_bipush (v := 51) dX1_reckon_54 (by decide) ?_
  refine z_icmp_ge (tgt := 72) dX1_reckon_56 (by decide) (fun c617 => ?_) (fun c617 => ?_)
  · rw [if_pos c617] at e
    refine z_iconst (v := 0) dX1_reckon_72 (by decide) ?_
    cases e
    exact z_zret dX1_reckon_73 rfl (by decide)
  · rw [if_neg c617] at e
    refine z_iload 5 dX1_reckon_59 rfl ?_
    refine z_iconst (v := 1) dX1_reckon_61 (by decide) ?_
    refine z_icmp_ne (tgt := 74) dX1_reckon_62 (by decide) (fun c618 => ?_) (fun c618 => ?_)
    · rw [if_neg c618] at e
      exact z_weak [0, 1, 2, 3, 4, 5, 6] rfl (S_X1_reckon_74  @hk6 e)
    · rw [if_pos c618] at e
      refine z_iload 6 dX1_reckon_65 rfl ?_
      refine z_bipush (v := 23) dX1_reckon_67 (by decide) ?_
      refine z_icmp_lt (tgt := 74) dX1_reckon_69 (by decide) (fun c619 => ?_) (fun c619 => ?_)
      · rw [if_pos c619] at e
        exact z_weak [0, 1, 2, 3, 4, 5, 6] rfl (S_X1_reckon_74  @hk6 e)
      · rw [if_neg c619] at e
        refine z_iconst (v := 0) dX1_reckon_72 (by decide) ?_
        cases e
        exact z_zret dX1_reckon_73 rfl (by decide)
def D_X1_reckon_168 (k6 : z_H → Option Nat → Option Nat → Int32 → Int32 → Int32 → Option (Int32 × z_H)) (h : z_H) (l0 : Option Nat) (l1 : Option Nat) (l3 : Int32) (l4 : Int32) (l5 : Int32) (l7 : Int32) (s0 : Int64) (s1 : Int32) : Option (Int32 × z_H) :=
  if (lg_cmp s0 (Int32.toInt64 s1)) = 0 then
    (some (if l5 < (l7 - (1:Int32)) then (l7 - (1:Int32)) else l5)).bind fun x622 =>
    D_X1_reckon_288  k6 h l0 l1 l3 l4 x622
  else
    (some (l4 + (-1:Int32))).bind fun x621 =>
    D_X1_reckon_288  k6 h l0 l1 l3 x621 l5
set_option maxRecDepth 100000 in
set_option maxHeartbeats 4000000 in
theorem S_X1_reckon_168 {G : z_G} {l : Launch} {k6 : z_H → Option Nat → Option Nat → Int32 → Int32 → Int32 → Option (Int32 × z_H)} (hk6 : ∀ {h : z_H} {l0 : Option Nat} {l1 : Option Nat} {l3 : Int32} {l4 : Int32} {l5 : Int32} {res : (Int32 × z_H)}, k6 h l0 l1 l3 l4 l5 = some res → z_Run G l 5 M_X1_reckon 6 [(0, z_r l0), (1, z_r l1), (3, .int l3), (4, .int l4), (5, .int l5)] [] h res.2 (some (.int res.1))) {h : z_H} {l0 : Option Nat} {l1 : Option Nat} {l3 : Int32} {l4 : Int32} {l5 : Int32} {l7 : Int32} {s0 : Int64} {s1 : Int32} {res : (Int32 × z_H)} (e : D_X1_reckon_168 k6 h l0 l1 l3 l4 l5 l7 s0 s1 = some res) : z_Run G l 5 M_X1_reckon 168 [(0, z_r l0), (1, z_r l1), (3, .int l3), (4, .int l4), (5, .int l5), (7, .int l7)] [.int s1, .long s0] h res.2 (some (.int res.1)) := by
  unfold D_X1_reckon_168 at e
  refine z_i2l dX1_reckon_168 ?_
  refine z_lcmp dX1_reckon_169 ?_
  refine z_if_ne (tgt := 187) dX1_reckon_170 (by decide) (fun c620 => ?_) (fun c620 => ?_)
  · rw [if_neg c620] at e
    replace e := z_bd e; obtain ⟨x621, ex621, e⟩ := e
    refine z_iinc (q := 3) (v := x621) (L' := [(4, .int x621), (0, z_r l0), (1, z_r l1), (3, .int l3), (5, .int l5), (7, .int l7)]) dX1_reckon_187 rfl (Option.some.inj ex621) (by decide) rfl ?_
    refine z_goto (tgt := 288) dX1_reckon_190 (by decide) ?_
    exact z_weak [1, 2, 3, 0, 4] rfl (S_X1_reckon_288  @hk6 e)
  · rw [if_pos c620] at e
    refine z_iload 4 dX1_reckon_173 rfl ?_
    refine z_iload 5 dX1_reckon_175 rfl ?_
    refine z_iconst (v := 1) dX1_reckon_177 (by decide) ?_
    refine z_isub dX1_reckon_178 ?_
    refine z_mmax ml_X1_34 z_mw_max (by decide) (Nat.zero_le _) dX1_reckon_179 ?_
    replace e := z_bd e; obtain ⟨x622, ex622, e⟩ := e
    refine z_topI ex622 ?_
    refine z_istore (L' := [(5, .int x622), (0, z_r l0), (1, z_r l1), (3, .int l3), (4, .int l4), (7, .int l7)]) dX1_reckon_182 (by decide) rfl ?_
    refine z_goto (tgt := 288) dX1_reckon_184 (by decide) ?_
    exact z_weak [1, 2, 3, 4, 0] rfl (S_X1_reckon_288  @hk6 e)
def D_X1_reckon_150 (k6 : z_H → Option Nat → Option Nat → Int32 → Int32 → Int32 → Option (Int32 × z_H)) (h : z_H) (l0 : Option Nat) (l1 : Option Nat) (l3 : Int32) (l4 : Int32) (l5 : Int32) (l6 : Int32) (l7 : Int32) : Option (Int32 × z_H) :=
  (z_gQ 1 h l0 1).bind fun x623 =>
  (z_aJ h x623 l4).bind fun x624 =>
  if l6 = (4:Int32) then
    D_X1_reckon_168  k6 h l0 l1 l3 l4 l5 l7 x624 (1:Int32)
  else
    D_X1_reckon_168  k6 h l0 l1 l3 l4 l5 l7 x624 (0:Int32)
set_option maxRecDepth 100000 in
set_option maxHeartbeats 4000000 in
theorem S_X1_reckon_150 {G : z_G} {l : Launch} {k6 : z_H → Option Nat → Option Nat → Int32 → Int32 → Int32 → Option (Int32 × z_H)} (hk6 : ∀ {h : z_H} {l0 : Option Nat} {l1 : Option Nat} {l3 : Int32} {l4 : Int32} {l5 : Int32} {res : (Int32 × z_H)}, k6 h l0 l1 l3 l4 l5 = some res → z_Run G l 5 M_X1_reckon 6 [(0, z_r l0), (1, z_r l1), (3, .int l3), (4, .int l4), (5, .int l5)] [] h res.2 (some (.int res.1))) {h : z_H} {l0 : Option Nat} {l1 : Option Nat} {l3 : Int32} {l4 : Int32} {l5 : Int32} {l6 : Int32} {l7 : Int32} {res : (Int32 × z_H)} (e : D_X1_reckon_150 k6 h l0 l1 l3 l4 l5 l6 l7 = some res) : z_Run G l 5 M_X1_reckon 150 [(0, z_r l0), (1, z_r l1), (3, .int l3), (4, .int l4), (5, .int l5), (6, .int l6), (7, .int l7)] [] h res.2 (some (.int res.1)) := by
  unfold D_X1_reckon_150 at e
  refine z_aload_n 0 dX1_reckon_150 rfl ?_
  replace e := z_bd e; obtain ⟨x623, ex623, e⟩ := e
  refine z_getQ ex623 lk_X1_15 dX1_reckon_151 ?_
  refine z_iload 3 dX1_reckon_154 rfl ?_
  replace e := z_bd e; obtain ⟨x624, ex624, e⟩ := e
  refine z_lald ex624 dX1_reckon_156 ?_
  refine z_iload 5 dX1_reckon_157 rfl ?_
  refine z_iconst (v := 4) dX1_reckon_159 (by decide) ?_
  refine z_icmp_ne (tgt := 167) dX1_reckon_160 (by decide) (fun c625 => ?_) (fun c625 => ?_)
  · rw [if_neg c625] at e
    refine z_iconst (v := 0) dX1_reckon_167 (by decide) ?_
    exact z_weak [0, 1, 2, 3, 4, 6] rfl (S_X1_reckon_168  @hk6 e)
  · rw [if_pos c625] at e
    refine z_iconst (v := 1) dX1_reckon_163 (by decide) ?_
    refine z_goto (tgt := 168) dX1_reckon_164 (by decide) ?_
    exact z_weak [0, 1, 2, 3, 4, 6] rfl (S_X1_reckon_168  @hk6 e)
def D_X1_reckon_227 (k6 : z_H → Option Nat → Option Nat → Int32 → Int32 → Int32 → Option (Int32 × z_H)) (h : z_H) (l0 : Option Nat) (l1 : Option Nat) (l3 : Int32) (l4 : Int32) (l5 : Int32) (l6 : Int32) : Option (Int32 × z_H) :=
  (some (l4 + (-1:Int32))).bind fun x626 =>
  (z_gQ 1 h l0 1).bind fun x627 =>
  (z_gQ 1 h l0 1).bind fun x628 =>
  (z_aJ h x628 x626).bind fun x629 =>
  (z_gQ 1 h l0 1).bind fun x630 =>
  (z_aJ h x630 (x626 + (1:Int32))).bind fun x631 =>
  (D_X1_joined  h l6 x629 x631).bind fun p632 =>
  (z_sJ p632.2 x627 x626 p632.1).bind fun h633 =>
  (z_gQ 1 h633 l0 1).bind fun x634 =>
  (z_aJ h633 x634 x626).bind fun x635 =>
  if 0 < (lg_cmp x635 (1000000000:Int64)) then
    some ((0:Int32), h633)
  else
    (z_gQ 1 h633 l0 1).bind fun x637 =>
    (z_aJ h633 x637 x626).bind fun x638 =>
    if 0 ≤ (lg_cmp x638 (-1000000000:Int64)) then
      D_X1_reckon_288  k6 h633 l0 l1 l3 x626 l5
    else
      some ((0:Int32), h633)
set_option maxRecDepth 100000 in
set_option maxHeartbeats 4000000 in
theorem S_X1_reckon_227 {G : z_G} {l : Launch} {k6 : z_H → Option Nat → Option Nat → Int32 → Int32 → Int32 → Option (Int32 × z_H)} (hk6 : ∀ {h : z_H} {l0 : Option Nat} {l1 : Option Nat} {l3 : Int32} {l4 : Int32} {l5 : Int32} {res : (Int32 × z_H)}, k6 h l0 l1 l3 l4 l5 = some res → z_Run G l 5 M_X1_reckon 6 [(0, z_r l0), (1, z_r l1), (3, .int l3), (4, .int l4), (5, .int l5)] [] h res.2 (some (.int res.1))) {h : z_H} {l0 : Option Nat} {l1 : Option Nat} {l3 : Int32} {l4 : Int32} {l5 : Int32} {l6 : Int32} {res : (Int32 × z_H)} (e : D_X1_reckon_227 k6 h l0 l1 l3 l4 l5 l6 = some res) : z_Run G l 5 M_X1_reckon 227 [(0, z_r l0), (1, z_r l1), (3, .int l3), (4, .int l4), (5, .int l5), (6, .int l6)] [] h res.2 (some (.int res.1)) := by
  unfold D_X1_reckon_227 at e
  replace e := z_bd e; obtain ⟨x626, ex626, e⟩ := e
  refine z_iinc (q := 3) (v := x626) (L' := [(4, .int x626), (0, z_r l0), (1, z_r l1), (3, .int l3), (5, .int l5), (6, .int l6)]) dX1_reckon_227 rfl (Option.some.inj ex626) (by decide) rfl ?_
  refine z_aload_n 1 dX1_reckon_230 rfl ?_
  replace e := z_bd e; obtain ⟨x627, ex627, e⟩ := e
  refine z_getQ ex627 lk_X1_15 dX1_reckon_231 ?_
  refine z_iload 0 dX1_reckon_234 rfl ?_
  refine z_iload 5 dX1_reckon_236 rfl ?_
  refine z_aload_n 1 dX1_reckon_238 rfl ?_
  replace e := z_bd e; obtain ⟨x628, ex628, e⟩ := e
  refine z_getQ ex628 lk_X1_15 dX1_reckon_239 ?_
  refine z_iload 0 dX1_reckon_242 rfl ?_
  replace e := z_bd e; obtain ⟨x629, ex629, e⟩ := e
  refine z_lald ex629 dX1_reckon_244 ?_
  refine z_aload_n 1 dX1_reckon_245 rfl ?_
  replace e := z_bd e; obtain ⟨x630, ex630, e⟩ := e
  refine z_getQ ex630 lk_X1_15 dX1_reckon_246 ?_
  refine z_iload 0 dX1_reckon_249 rfl ?_
  refine z_iconst (v := 1) dX1_reckon_251 (by decide) ?_
  refine z_iadd dX1_reckon_252 ?_
  replace e := z_bd e; obtain ⟨x631, ex631, e⟩ := e
  refine z_lald ex631 dX1_reckon_253 ?_
  replace e := z_bd e; obtain ⟨p632, ep632, e⟩ := e
  refine z_cS [.int l6, .long x629, .long x631] (S_X1_joined  ep632) ml_X1_40 ck_X1_joined st_X1_joined dX1_reckon_254 (by decide) rfl (by simp [z_ci, z_cj, z_cr, z_cx]) rfl ?_
  replace e := z_bd e; obtain ⟨h633, eh633, e⟩ := e
  refine z_last eh633 dX1_reckon_257 ?_
  refine z_aload_n 1 dX1_reckon_258 rfl ?_
  replace e := z_bd e; obtain ⟨x634, ex634, e⟩ := e
  refine z_getQ ex634 lk_X1_15 dX1_reckon_259 ?_
  refine z_iload 0 dX1_reckon_262 rfl ?_
  replace e := z_bd e; obtain ⟨x635, ex635, e⟩ := e
  refine z_lald ex635 dX1_reckon_264 ?_
  refine z_ldc2 dX1_reckon_265 kj_X1_44 ?_
  refine z_lcmp dX1_reckon_268 ?_
  refine z_if_gt (tgt := 286) dX1_reckon_269 (by decide) (fun c636 => ?_) (fun c636 => ?_)
  · rw [if_pos c636] at e
    refine z_iconst (v := 0) dX1_reckon_286 (by decide) ?_
    cases e
    exact z_zret dX1_reckon_287 rfl (by decide)
  · rw [if_neg c636] at e
    refine z_aload_n 1 dX1_reckon_272 rfl ?_
    replace e := z_bd e; obtain ⟨x637, ex637, e⟩ := e
    refine z_getQ ex637 lk_X1_15 dX1_reckon_273 ?_
    refine z_iload 0 dX1_reckon_276 rfl ?_
    replace e := z_bd e; obtain ⟨x638, ex638, e⟩ := e
    refine z_lald ex638 dX1_reckon_278 ?_
    refine z_ldc2 dX1_reckon_279 kj_X1_46 ?_
    refine z_lcmp dX1_reckon_282 ?_
    refine z_if_ge (tgt := 288) dX1_reckon_283 (by decide) (fun c639 => ?_) (fun c639 => ?_)
    · rw [if_pos c639] at e
      exact z_weak [1, 2, 3, 0, 4] rfl (S_X1_reckon_288  @hk6 e)
    · rw [if_neg c639] at e
      refine z_iconst (v := 0) dX1_reckon_286 (by decide) ?_
      cases e
      exact z_zret dX1_reckon_287 rfl (by decide)
def D_X1_reckon_6b (k6 : z_H → Option Nat → Option Nat → Int32 → Int32 → Int32 → Option (Int32 × z_H)) (h : z_H) (l0 : Option Nat) (l1 : Option Nat) (l3 : Int32) (l4 : Int32) (l5 : Int32) : Option (Int32 × z_H) :=
  if l3 ≤ l5 then
    D_X1_reckon_294   h l0 l4
  else
    (z_gI 7 h l1 3).bind fun x641 =>
    if x641 ≤ l5 then
      D_X1_reckon_294   h l0 l4
    else
      (z_gQ 7 h l1 0).bind fun x643 =>
      (z_aI .int h x643 l5).bind fun x644 =>
      (z_gQ 7 h l1 1).bind fun x645 =>
      (z_aI .int h x645 l5).bind fun x646 =>
      if x644 = 0 then
        D_X1_reckon_50  k6 h l0 l1 l3 l4 l5 x644 x646
      else
        if x644 = (1:Int32) then
          D_X1_reckon_50  k6 h l0 l1 l3 l4 l5 x644 x646
        else
          if 0 ≤ l4 then
            if x644 = (2:Int32) then
              (z_gQ 1 h l0 1).bind fun x659 =>
              (z_gQ 1 h l0 1).bind fun x660 =>
              (z_aJ h x660 l4).bind fun x661 =>
              (z_sJ h x659 l4 ((1:Int64) - x661)).bind fun h662 =>
              D_X1_reckon_288  k6 h662 l0 l1 l3 l4 l5
            else
              if x644 = (3:Int32) then
                D_X1_reckon_150  k6 h l0 l1 l3 l4 l5 x644 x646
              else
                if x644 = (4:Int32) then
                  D_X1_reckon_150  k6 h l0 l1 l3 l4 l5 x644 x646
                else
                  if l4 < (1:Int32) then
                    some ((0:Int32), h)
                  else
                    (z_gQ 1 h l0 1).bind fun x654 =>
                    (z_aJ h x654 l4).bind fun x655 =>
                    if (lg_cmp x655 (0:Int64)) = 0 then
                      if x644 = (8:Int32) then
                        some ((0:Int32), h)
                      else
                        if x644 = (9:Int32) then
                          some ((0:Int32), h)
                        else
                          D_X1_reckon_227  k6 h l0 l1 l3 l4 l5 x644
                    else
                      D_X1_reckon_227  k6 h l0 l1 l3 l4 l5 x644
          else
            some ((0:Int32), h)
def D_X1_reckon_6 (n : Nat) : z_H → Option Nat → Option Nat → Int32 → Int32 → Int32 → Option (Int32 × z_H) := Nat.rec (motive := fun _ => z_H → Option Nat → Option Nat → Int32 → Int32 → Int32 → Option (Int32 × z_H)) (fun _ _ _ _ _ _ => none) (fun _ k => D_X1_reckon_6b  k) n
set_option maxRecDepth 100000 in
set_option maxHeartbeats 4000000 in
theorem S_X1_reckon_6 {G : z_G} {l : Launch}  (n : Nat) : ∀ {h : z_H} {l0 : Option Nat} {l1 : Option Nat} {l3 : Int32} {l4 : Int32} {l5 : Int32} {res : (Int32 × z_H)}, D_X1_reckon_6  n h l0 l1 l3 l4 l5 = some res → z_Run G l 5 M_X1_reckon 6 [(0, z_r l0), (1, z_r l1), (3, .int l3), (4, .int l4), (5, .int l5)] [] h res.2 (some (.int res.1)) := by
  induction n with
  | zero => intro h l0 l1 l3 l4 l5 res e; cases e
  | succ n hk6 =>
    intro h l0 l1 l3 l4 l5 res e
    replace e : D_X1_reckon_6b  (D_X1_reckon_6  n) h l0 l1 l3 l4 l5 = some res := e
    unfold D_X1_reckon_6b at e
    refine z_iload 4 dX1_reckon_6 rfl ?_
    refine z_iload_n 2 dX1_reckon_8 rfl ?_
    refine z_icmp_ge (tgt := 294) dX1_reckon_9 (by decide) (fun c640 => ?_) (fun c640 => ?_)
    · rw [if_pos c640] at e
      exact z_weak [0, 3] rfl (S_X1_reckon_294   e)
    · rw [if_neg c640] at e
      refine z_iload 4 dX1_reckon_12 rfl ?_
      refine z_aload_n 1 dX1_reckon_14 rfl ?_
      replace e := z_bd e; obtain ⟨x641, ex641, e⟩ := e
      refine z_getI ex641 lk_X1_23 dX1_reckon_15 ?_
      refine z_icmp_ge (tgt := 294) dX1_reckon_18 (by decide) (fun c642 => ?_) (fun c642 => ?_)
      · rw [if_pos c642] at e
        exact z_weak [0, 3] rfl (S_X1_reckon_294   e)
      · rw [if_neg c642] at e
        refine z_aload_n 1 dX1_reckon_21 rfl ?_
        replace e := z_bd e; obtain ⟨x643, ex643, e⟩ := e
        refine z_getQ ex643 lk_X1_28 dX1_reckon_22 ?_
        refine z_iload 4 dX1_reckon_25 rfl ?_
        replace e := z_bd e; obtain ⟨x644, ex644, e⟩ := e
        refine z_iald ex644 dX1_reckon_27 ?_
        refine z_istore (L' := [(6, .int x644), (0, z_r l0), (1, z_r l1), (3, .int l3), (4, .int l4), (5, .int l5)]) dX1_reckon_28 (by decide) rfl ?_
        refine z_aload_n 2 dX1_reckon_30 rfl ?_
        replace e := z_bd e; obtain ⟨x645, ex645, e⟩ := e
        refine z_getQ ex645 lk_X1_31 dX1_reckon_31 ?_
        refine z_iload 5 dX1_reckon_34 rfl ?_
        replace e := z_bd e; obtain ⟨x646, ex646, e⟩ := e
        refine z_iald ex646 dX1_reckon_36 ?_
        refine z_istore (L' := [(7, .int x646), (6, .int x644), (0, z_r l0), (1, z_r l1), (3, .int l3), (4, .int l4), (5, .int l5)]) dX1_reckon_37 (by decide) rfl ?_
        refine z_iload 1 dX1_reckon_39 rfl ?_
        refine z_if_eq (tgt := 50) dX1_reckon_41 (by decide) (fun c647 => ?_) (fun c647 => ?_)
        · rw [if_pos c647] at e
          exact z_weak [2, 3, 4, 5, 6, 1, 0] rfl (S_X1_reckon_50  @hk6 e)
        · rw [if_neg c647] at e
          refine z_iload 1 dX1_reckon_44 rfl ?_
          refine z_iconst (v := 1) dX1_reckon_46 (by decide) ?_
          refine z_icmp_ne (tgt := 106) dX1_reckon_47 (by decide) (fun c648 => ?_) (fun c648 => ?_)
          · rw [if_neg c648] at e
            refine z_iload 5 dX1_reckon_106 rfl ?_
            refine z_if_ge (tgt := 113) dX1_reckon_108 (by decide) (fun c649 => ?_) (fun c649 => ?_)
            · rw [if_pos c649] at e
              refine z_iload 1 dX1_reckon_113 rfl ?_
              refine z_iconst (v := 2) dX1_reckon_115 (by decide) ?_
              refine z_icmp_ne (tgt := 138) dX1_reckon_116 (by decide) (fun c650 => ?_) (fun c650 => ?_)
              · rw [if_neg c650] at e
                refine z_iload 1 dX1_reckon_138 rfl ?_
                refine z_iconst (v := 3) dX1_reckon_140 (by decide) ?_
                refine z_icmp_eq (tgt := 150) dX1_reckon_141 (by decide) (fun c651 => ?_) (fun c651 => ?_)
                · rw [if_pos c651] at e
                  exact z_weak [2, 3, 4, 5, 6, 1, 0] rfl (S_X1_reckon_150  @hk6 e)
                · rw [if_neg c651] at e
                  refine z_iload 1 dX1_reckon_144 rfl ?_
                  refine z_iconst (v := 4) dX1_reckon_146 (by decide) ?_
                  refine z_icmp_ne (tgt := 193) dX1_reckon_147 (by decide) (fun c652 => ?_) (fun c652 => ?_)
                  · rw [if_neg c652] at e
                    refine z_iload 5 dX1_reckon_193 rfl ?_
                    refine z_iconst (v := 1) dX1_reckon_195 (by decide) ?_
                    refine z_icmp_lt (tgt := 225) dX1_reckon_196 (by decide) (fun c653 => ?_) (fun c653 => ?_)
                    · rw [if_pos c653] at e
                      refine z_iconst (v := 0) dX1_reckon_225 (by decide) ?_
                      cases e
                      exact z_zret dX1_reckon_226 rfl (by decide)
                    · rw [if_neg c653] at e
                      refine z_aload_n 2 dX1_reckon_199 rfl ?_
                      replace e := z_bd e; obtain ⟨x654, ex654, e⟩ := e
                      refine z_getQ ex654 lk_X1_15 dX1_reckon_200 ?_
                      refine z_iload 5 dX1_reckon_203 rfl ?_
                      replace e := z_bd e; obtain ⟨x655, ex655, e⟩ := e
                      refine z_lald ex655 dX1_reckon_205 ?_
                      refine z_lconst (v := 0) dX1_reckon_206 (by decide) ?_
                      refine z_lcmp dX1_reckon_207 ?_
                      refine z_if_ne (tgt := 227) dX1_reckon_208 (by decide) (fun c656 => ?_) (fun c656 => ?_)
                      · rw [if_neg c656] at e
                        exact z_weak [2, 3, 4, 5, 6, 1] rfl (S_X1_reckon_227  @hk6 e)
                      · rw [if_pos c656] at e
                        refine z_iload 1 dX1_reckon_211 rfl ?_
                        refine z_bipush (v := 8) dX1_reckon_213 (by decide) ?_
                        refine z_icmp_eq (tgt := 225) dX1_reckon_215 (by decide) (fun c657 => ?_) (fun c657 => ?_)
                        · rw [if_pos c657] at e
                          refine z_iconst (v := 0) dX1_reckon_225 (by decide) ?_
                          cases e
                          exact z_zret dX1_reckon_226 rfl (by decide)
                        · rw [if_neg c657] at e
                          refine z_iload 1 dX1_reckon_218 rfl ?_
                          refine z_bipush (v := 9) dX1_reckon_220 (by decide) ?_
                          refine z_icmp_ne (tgt := 227) dX1_reckon_222 (by decide) (fun c658 => ?_) (fun c658 => ?_)
                          · rw [if_neg c658] at e
                            exact z_weak [2, 3, 4, 5, 6, 1] rfl (S_X1_reckon_227  @hk6 e)
                          · rw [if_pos c658] at e
                            refine z_iconst (v := 0) dX1_reckon_225 (by decide) ?_
                            cases e
                            exact z_zret dX1_reckon_226 rfl (by decide)
                  · rw [if_pos c652] at e
                    exact z_weak [2, 3, 4, 5, 6, 1, 0] rfl (S_X1_reckon_150  @hk6 e)
              · rw [if_pos c650] at e
                refine z_aload_n 2 dX1_reckon_119 rfl ?_
                replace e := z_bd e; obtain ⟨x659, ex659, e⟩ := e
                refine z_getQ ex659 lk_X1_15 dX1_reckon_120 ?_
                refine z_iload 5 dX1_reckon_123 rfl ?_
                refine z_lconst (v := 1) dX1_reckon_125 (by decide) ?_
                refine z_aload_n 2 dX1_reckon_126 rfl ?_
                replace e := z_bd e; obtain ⟨x660, ex660, e⟩ := e
                refine z_getQ ex660 lk_X1_15 dX1_reckon_127 ?_
                refine z_iload 5 dX1_reckon_130 rfl ?_
                replace e := z_bd e; obtain ⟨x661, ex661, e⟩ := e
                refine z_lald ex661 dX1_reckon_132 ?_
                refine z_lsub dX1_reckon_133 ?_
                replace e := z_bd e; obtain ⟨h662, eh662, e⟩ := e
                refine z_last eh662 dX1_reckon_134 ?_
                refine z_goto (tgt := 288) dX1_reckon_135 (by decide) ?_
                exact z_weak [2, 3, 4, 5, 6] rfl (S_X1_reckon_288  @hk6 e)
            · rw [if_neg c649] at e
              refine z_iconst (v := 0) dX1_reckon_111 (by decide) ?_
              cases e
              exact z_zret dX1_reckon_112 rfl (by decide)
          · rw [if_pos c648] at e
            exact z_weak [2, 3, 4, 5, 6, 1, 0] rfl (S_X1_reckon_50  @hk6 e)
def D_X1_reckon (h : z_H) (l0 : Option Nat) (l1 : Option Nat) (l2 : Int32) (l3 : Int32) : Option (Int32 × z_H) :=
  D_X1_reckon_6   z_F h l0 l1 l3 (-1:Int32) l2
set_option maxRecDepth 100000 in
set_option maxHeartbeats 4000000 in
theorem S_X1_reckon {G : z_G} {l : Launch} {h : z_H} {l0 : Option Nat} {l1 : Option Nat} {l2 : Int32} {l3 : Int32} {res : (Int32 × z_H)} (e : D_X1_reckon h l0 l1 l2 l3 = some res) : z_Meth G l 5 M_X1_reckon [z_r l0, z_r l1, .int l2, .int l3] h res.2 (some (.int res.1)) := by
  refine z_Meth.of ck_X1_reckon.2.2.2.2 (by simp [lg_sl, z_ci, z_cj, z_cr, z_cx]) ck_X1_reckon.1 ?_
  rw [show lv_args 0 [z_r l0, z_r l1, .int l2, .int l3] = [(0, z_r l0), (1, z_r l1), (2, .int l2), (3, .int l3)] from by simp [lv_args, z_ci, z_cj, z_cr, z_cx]]
  unfold D_X1_reckon at e
  refine z_iconst (v := -1) dX1_reckon_0 (by decide) ?_
  refine z_istore (L' := [(4, .int (-1:Int32)), (0, z_r l0), (1, z_r l1), (2, .int l2), (3, .int l3)]) dX1_reckon_1 (by decide) rfl ?_
  refine z_iload_n 3 dX1_reckon_3 rfl ?_
  refine z_istore (L' := [(5, .int l2), (4, .int (-1:Int32)), (0, z_r l0), (1, z_r l1), (2, .int l2), (3, .int l3)]) dX1_reckon_4 (by decide) rfl ?_
  exact z_weak [2, 3, 5, 1, 0] rfl (S_X1_reckon_6   z_F e)
theorem dX1_lastThatHolds_0 : decode cX1_lastThatHolds 0 = .ok (.aload_n 1, 1) := by decide +kernel
theorem dX1_lastThatHolds_1 : decode cX1_lastThatHolds 1 = .ok (.ifnonnull 5, 3) := by decide +kernel
theorem dX1_lastThatHolds_4 : decode cX1_lastThatHolds 4 = .ok (.iconst (-1), 1) := by decide +kernel
theorem dX1_lastThatHolds_5 : decode cX1_lastThatHolds 5 = .ok (.ireturn, 1) := by decide +kernel
theorem dX1_lastThatHolds_6 : decode cX1_lastThatHolds 6 = .ok (.aload_n 1, 1) := by decide +kernel
theorem dX1_lastThatHolds_7 : decode cX1_lastThatHolds 7 = .ok (.getfield 48, 3) := by decide +kernel
theorem dX1_lastThatHolds_10 : decode cX1_lastThatHolds 10 = .ok (.iconst 1, 1) := by decide +kernel
theorem dX1_lastThatHolds_11 : decode cX1_lastThatHolds 11 = .ok (.isub, 1) := by decide +kernel
theorem dX1_lastThatHolds_12 : decode cX1_lastThatHolds 12 = .ok (.istore_n 3, 1) := by decide +kernel
theorem dX1_lastThatHolds_13 : decode cX1_lastThatHolds 13 = .ok (.iload_n 3, 1) := by decide +kernel
theorem dX1_lastThatHolds_14 : decode cX1_lastThatHolds 14 = .ok (.ifCond .lt 69, 3) := by decide +kernel
theorem dX1_lastThatHolds_17 : decode cX1_lastThatHolds 17 = .ok (.aload_n 1, 1) := by decide +kernel
theorem dX1_lastThatHolds_18 : decode cX1_lastThatHolds 18 = .ok (.iload_n 3, 1) := by decide +kernel
theorem dX1_lastThatHolds_19 : decode cX1_lastThatHolds 19 = .ok (.iconst 0, 1) := by decide +kernel
theorem dX1_lastThatHolds_20 : decode cX1_lastThatHolds 20 = .ok (.invokevirtual 51, 3) := by decide +kernel
theorem dX1_lastThatHolds_23 : decode cX1_lastThatHolds 23 = .ok (.iload_n 2, 1) := by decide +kernel
theorem dX1_lastThatHolds_24 : decode cX1_lastThatHolds 24 = .ok (.if_icmp .ne 53, 3) := by decide +kernel
theorem dX1_lastThatHolds_27 : decode cX1_lastThatHolds 27 = .ok (.aload_n 0, 1) := by decide +kernel
theorem dX1_lastThatHolds_28 : decode cX1_lastThatHolds 28 = .ok (.aload_n 1, 1) := by decide +kernel
theorem dX1_lastThatHolds_29 : decode cX1_lastThatHolds 29 = .ok (.aload_n 1, 1) := by decide +kernel
theorem dX1_lastThatHolds_30 : decode cX1_lastThatHolds 30 = .ok (.iload_n 3, 1) := by decide +kernel
theorem dX1_lastThatHolds_31 : decode cX1_lastThatHolds 31 = .ok (.iconst 4, 1) := by decide +kernel
theorem dX1_lastThatHolds_32 : decode cX1_lastThatHolds 32 = .ok (.invokevirtual 51, 3) := by decide +kernel
theorem dX1_lastThatHolds_35 : decode cX1_lastThatHolds 35 = .ok (.aload_n 1, 1) := by decide +kernel
theorem dX1_lastThatHolds_36 : decode cX1_lastThatHolds 36 = .ok (.iload_n 3, 1) := by decide +kernel
theorem dX1_lastThatHolds_37 : decode cX1_lastThatHolds 37 = .ok (.iconst 5, 1) := by decide +kernel
theorem dX1_lastThatHolds_38 : decode cX1_lastThatHolds 38 = .ok (.invokevirtual 51, 3) := by decide +kernel
theorem dX1_lastThatHolds_41 : decode cX1_lastThatHolds 41 = .ok (.invokevirtual 54, 3) := by decide +kernel
theorem dX1_lastThatHolds_44 : decode cX1_lastThatHolds 44 = .ok (.ifCond .eq 33, 3) := by decide +kernel
theorem dX1_lastThatHolds_47 : decode cX1_lastThatHolds 47 = .ok (.aload_n 0, 1) := by decide +kernel
theorem dX1_lastThatHolds_48 : decode cX1_lastThatHolds 48 = .ok (.getfield 19, 3) := by decide +kernel
theorem dX1_lastThatHolds_51 : decode cX1_lastThatHolds 51 = .ok (.iconst 1, 1) := by decide +kernel
theorem dX1_lastThatHolds_52 : decode cX1_lastThatHolds 52 = .ok (.if_icmp .ne 25, 3) := by decide +kernel
theorem dX1_lastThatHolds_55 : decode cX1_lastThatHolds 55 = .ok (.aload_n 0, 1) := by decide +kernel
theorem dX1_lastThatHolds_56 : decode cX1_lastThatHolds 56 = .ok (.aload_n 1, 1) := by decide +kernel
theorem dX1_lastThatHolds_57 : decode cX1_lastThatHolds 57 = .ok (.aload_n 1, 1) := by decide +kernel
theorem dX1_lastThatHolds_58 : decode cX1_lastThatHolds 58 = .ok (.iload_n 3, 1) := by decide +kernel
theorem dX1_lastThatHolds_59 : decode cX1_lastThatHolds 59 = .ok (.iconst 2, 1) := by decide +kernel
theorem dX1_lastThatHolds_60 : decode cX1_lastThatHolds 60 = .ok (.invokevirtual 51, 3) := by decide +kernel
theorem dX1_lastThatHolds_63 : decode cX1_lastThatHolds 63 = .ok (.aload_n 1, 1) := by decide +kernel
theorem dX1_lastThatHolds_64 : decode cX1_lastThatHolds 64 = .ok (.iload_n 3, 1) := by decide +kernel
theorem dX1_lastThatHolds_65 : decode cX1_lastThatHolds 65 = .ok (.iconst 3, 1) := by decide +kernel
theorem dX1_lastThatHolds_66 : decode cX1_lastThatHolds 66 = .ok (.invokevirtual 51, 3) := by decide +kernel
theorem dX1_lastThatHolds_69 : decode cX1_lastThatHolds 69 = .ok (.invokevirtual 54, 3) := by decide +kernel
theorem dX1_lastThatHolds_72 : decode cX1_lastThatHolds 72 = .ok (.ifCond .eq 5, 3) := by decide +kernel
theorem dX1_lastThatHolds_75 : decode cX1_lastThatHolds 75 = .ok (.iload_n 3, 1) := by decide +kernel
theorem dX1_lastThatHolds_76 : decode cX1_lastThatHolds 76 = .ok (.ireturn, 1) := by decide +kernel
theorem dX1_lastThatHolds_77 : decode cX1_lastThatHolds 77 = .ok (.iinc 3 (-1), 3) := by decide +kernel
theorem dX1_lastThatHolds_80 : decode cX1_lastThatHolds 80 = .ok (.goto (-67), 3) := by decide +kernel
theorem dX1_lastThatHolds_83 : decode cX1_lastThatHolds 83 = .ok (.iconst (-1), 1) := by decide +kernel
theorem dX1_lastThatHolds_84 : decode cX1_lastThatHolds 84 = .ok (.ireturn, 1) := by decide +kernel
def D_X1_lastThatHolds_77 (k13 : z_H → Option Nat → Option Nat → Int32 → Int32 → Option (Int32 × z_H)) (h : z_H) (l0 : Option Nat) (l1 : Option Nat) (l2 : Int32) (l3 : Int32) : Option (Int32 × z_H) :=
  (some (l3 + (-1:Int32))).bind fun x663 =>
  k13 h l0 l1 l2 x663
set_option maxRecDepth 100000 in
set_option maxHeartbeats 4000000 in
theorem S_X1_lastThatHolds_77 {G : z_G} {l : Launch} {k13 : z_H → Option Nat → Option Nat → Int32 → Int32 → Option (Int32 × z_H)} (hk13 : ∀ {h : z_H} {l0 : Option Nat} {l1 : Option Nat} {l2 : Int32} {l3 : Int32} {res : (Int32 × z_H)}, k13 h l0 l1 l2 l3 = some res → z_Run G l 6 M_X1_lastThatHolds 13 [(0, z_r l0), (1, z_r l1), (2, .int l2), (3, .int l3)] [] h res.2 (some (.int res.1))) {h : z_H} {l0 : Option Nat} {l1 : Option Nat} {l2 : Int32} {l3 : Int32} {res : (Int32 × z_H)} (e : D_X1_lastThatHolds_77 k13 h l0 l1 l2 l3 = some res) : z_Run G l 6 M_X1_lastThatHolds 77 [(0, z_r l0), (1, z_r l1), (2, .int l2), (3, .int l3)] [] h res.2 (some (.int res.1)) := by
  unfold D_X1_lastThatHolds_77 at e
  replace e := z_bd e; obtain ⟨x663, ex663, e⟩ := e
  refine z_iinc (q := 3) (v := x663) (L' := [(3, .int x663), (0, z_r l0), (1, z_r l1), (2, .int l2)]) dX1_lastThatHolds_77 rfl (Option.some.inj ex663) (by decide) rfl ?_
  refine z_goto (tgt := 13) dX1_lastThatHolds_80 (by decide) ?_
  exact z_weak [1, 2, 3, 0] rfl (hk13 e)
def D_X1_lastThatHolds_13b (k13 : z_H → Option Nat → Option Nat → Int32 → Int32 → Option (Int32 × z_H)) (h : z_H) (l0 : Option Nat) (l1 : Option Nat) (l2 : Int32) (l3 : Int32) : Option (Int32 × z_H) :=
  if l3 < 0 then
    some ((-1:Int32), h)
  else
    (z_ob 7 h l1).bind fun _ =>
    (D_X7_field  h l1 l3 (0:Int32)).bind fun p665 =>
    if p665.1 = l2 then
      (z_ob 7 p665.2 l1).bind fun _ =>
      (D_X7_field  p665.2 l1 l3 (4:Int32)).bind fun p668 =>
      (z_ob 7 p668.2 l1).bind fun _ =>
      (D_X7_field  p668.2 l1 l3 (5:Int32)).bind fun p670 =>
      (z_ob 1 p670.2 l0).bind fun _ =>
      (D_X1_reckon  p670.2 l0 l1 p668.1 p670.1).bind fun p672 =>
      if p672.1 = 0 then
        D_X1_lastThatHolds_77  k13 p672.2 l0 l1 l2 l3
      else
        (z_gI 1 p672.2 l0 2).bind fun x675 =>
        if x675 = (1:Int32) then
          (z_ob 7 p672.2 l1).bind fun _ =>
          (D_X7_field  p672.2 l1 l3 (2:Int32)).bind fun p677 =>
          (z_ob 7 p677.2 l1).bind fun _ =>
          (D_X7_field  p677.2 l1 l3 (3:Int32)).bind fun p679 =>
          (z_ob 1 p679.2 l0).bind fun _ =>
          (D_X1_reckon  p679.2 l0 l1 p677.1 p679.1).bind fun p681 =>
          if p681.1 = 0 then
            D_X1_lastThatHolds_77  k13 p681.2 l0 l1 l2 l3
          else
            some (l3, p681.2)
        else
          D_X1_lastThatHolds_77  k13 p672.2 l0 l1 l2 l3
    else
      D_X1_lastThatHolds_77  k13 p665.2 l0 l1 l2 l3
def D_X1_lastThatHolds_13 (n : Nat) : z_H → Option Nat → Option Nat → Int32 → Int32 → Option (Int32 × z_H) := Nat.rec (motive := fun _ => z_H → Option Nat → Option Nat → Int32 → Int32 → Option (Int32 × z_H)) (fun _ _ _ _ _ => none) (fun _ k => D_X1_lastThatHolds_13b  k) n
set_option maxRecDepth 100000 in
set_option maxHeartbeats 4000000 in
theorem S_X1_lastThatHolds_13 {G : z_G} {l : Launch}  (n : Nat) : ∀ {h : z_H} {l0 : Option Nat} {l1 : Option Nat} {l2 : Int32} {l3 : Int32} {res : (Int32 × z_H)}, D_X1_lastThatHolds_13  n h l0 l1 l2 l3 = some res → z_Run G l 6 M_X1_lastThatHolds 13 [(0, z_r l0), (1, z_r l1), (2, .int l2), (3, .int l3)] [] h res.2 (some (.int res.1)) := by
  induction n with
  | zero => intro h l0 l1 l2 l3 res e; cases e
  | succ n hk13 =>
    intro h l0 l1 l2 l3 res e
    replace e : D_X1_lastThatHolds_13b  (D_X1_lastThatHolds_13  n) h l0 l1 l2 l3 = some res := e
    unfold D_X1_lastThatHolds_13b at e
    refine z_iload_n 3 dX1_lastThatHolds_13 rfl ?_
    refine z_if_lt (tgt := 83) dX1_lastThatHolds_14 (by decide) (fun c664 => ?_) (fun c664 => ?_)
    · rw [if_pos c664] at e
      refine z_iconst (v := -1) dX1_lastThatHolds_83 (by decide) ?_
      cases e
      exact z_iret dX1_lastThatHolds_84 rfl
    · rw [if_neg c664] at e
      refine z_aload_n 1 dX1_lastThatHolds_17 rfl ?_
      refine z_iload_n 3 dX1_lastThatHolds_18 rfl ?_
      refine z_iconst (v := 0) dX1_lastThatHolds_19 (by decide) ?_
      replace e := z_bd e; obtain ⟨o666, eo666, e⟩ := e
      replace e := z_bd e; obtain ⟨p665, ep665, e⟩ := e
      refine z_cV [.int l3, .int (0:Int32)] (S_X7_field  ep665) eo666 rfl ml_X1_51 ck_X7_field vk_X7_field dX1_lastThatHolds_20 (by decide) rfl (Nat.zero_le _) rfl ?_
      refine z_iload_n 2 dX1_lastThatHolds_23 rfl ?_
      refine z_icmp_ne (tgt := 77) dX1_lastThatHolds_24 (by decide) (fun c667 => ?_) (fun c667 => ?_)
      · rw [if_neg c667] at e
        exact z_weak [0, 1, 2, 3] rfl (S_X1_lastThatHolds_77  @hk13 e)
      · rw [if_pos c667] at e
        refine z_aload_n 0 dX1_lastThatHolds_27 rfl ?_
        refine z_aload_n 1 dX1_lastThatHolds_28 rfl ?_
        refine z_aload_n 1 dX1_lastThatHolds_29 rfl ?_
        refine z_iload_n 3 dX1_lastThatHolds_30 rfl ?_
        refine z_iconst (v := 4) dX1_lastThatHolds_31 (by decide) ?_
        replace e := z_bd e; obtain ⟨o669, eo669, e⟩ := e
        replace e := z_bd e; obtain ⟨p668, ep668, e⟩ := e
        refine z_cV [.int l3, .int (4:Int32)] (S_X7_field  ep668) eo669 rfl ml_X1_51 ck_X7_field vk_X7_field dX1_lastThatHolds_32 (by decide) rfl (by simp [z_ci, z_cj, z_cr, z_cx]) rfl ?_
        refine z_aload_n 1 dX1_lastThatHolds_35 rfl ?_
        refine z_iload_n 3 dX1_lastThatHolds_36 rfl ?_
        refine z_iconst (v := 5) dX1_lastThatHolds_37 (by decide) ?_
        replace e := z_bd e; obtain ⟨o671, eo671, e⟩ := e
        replace e := z_bd e; obtain ⟨p670, ep670, e⟩ := e
        refine z_cV [.int l3, .int (5:Int32)] (S_X7_field  ep670) eo671 rfl ml_X1_51 ck_X7_field vk_X7_field dX1_lastThatHolds_38 (by decide) rfl (by simp [z_ci, z_cj, z_cr, z_cx]) rfl ?_
        replace e := z_bd e; obtain ⟨o673, eo673, e⟩ := e
        replace e := z_bd e; obtain ⟨p672, ep672, e⟩ := e
        refine z_cV [z_r l1, .int p668.1, .int p670.1] (S_X1_reckon  ep672) eo673 rfl ml_X1_54 ck_X1_reckon vk_X1_reckon dX1_lastThatHolds_41 (by decide) rfl (Nat.zero_le _) rfl ?_
        refine z_if_eq (tgt := 77) dX1_lastThatHolds_44 (by decide) (fun c674 => ?_) (fun c674 => ?_)
        · rw [if_pos c674] at e
          exact z_weak [0, 1, 2, 3] rfl (S_X1_lastThatHolds_77  @hk13 e)
        · rw [if_neg c674] at e
          refine z_aload_n 0 dX1_lastThatHolds_47 rfl ?_
          replace e := z_bd e; obtain ⟨x675, ex675, e⟩ := e
          refine z_getI ex675 lk_X1_19 dX1_lastThatHolds_48 ?_
          refine z_iconst (v := 1) dX1_lastThatHolds_51 (by decide) ?_
          refine z_icmp_ne (tgt := 77) dX1_lastThatHolds_52 (by decide) (fun c676 => ?_) (fun c676 => ?_)
          · rw [if_neg c676] at e
            exact z_weak [0, 1, 2, 3] rfl (S_X1_lastThatHolds_77  @hk13 e)
          · rw [if_pos c676] at e
            refine z_aload_n 0 dX1_lastThatHolds_55 rfl ?_
            refine z_aload_n 1 dX1_lastThatHolds_56 rfl ?_
            refine z_aload_n 1 dX1_lastThatHolds_57 rfl ?_
            refine z_iload_n 3 dX1_lastThatHolds_58 rfl ?_
            refine z_iconst (v := 2) dX1_lastThatHolds_59 (by decide) ?_
            replace e := z_bd e; obtain ⟨o678, eo678, e⟩ := e
            replace e := z_bd e; obtain ⟨p677, ep677, e⟩ := e
            refine z_cV [.int l3, .int (2:Int32)] (S_X7_field  ep677) eo678 rfl ml_X1_51 ck_X7_field vk_X7_field dX1_lastThatHolds_60 (by decide) rfl (by simp [z_ci, z_cj, z_cr, z_cx]) rfl ?_
            refine z_aload_n 1 dX1_lastThatHolds_63 rfl ?_
            refine z_iload_n 3 dX1_lastThatHolds_64 rfl ?_
            refine z_iconst (v := 3) dX1_lastThatHolds_65 (by decide) ?_
            replace e := z_bd e; obtain ⟨o680, eo680, e⟩ := e
            replace e := z_bd e; obtain ⟨p679, ep679, e⟩ := e
            refine z_cV [.int l3, .int (3:Int32)] (S_X7_field  ep679) eo680 rfl ml_X1_51 ck_X7_field vk_X7_field dX1_lastThatHolds_66 (by decide) rfl (by simp [z_ci, z_cj, z_cr, z_cx]) rfl ?_
            replace e := z_bd e; obtain ⟨o682, eo682, e⟩ := e
            replace e := z_bd e; obtain ⟨p681, ep681, e⟩ := e
            refine z_cV [z_r l1, .int p677.1, .int p679.1] (S_X1_reckon  ep681) eo682 rfl ml_X1_54 ck_X1_reckon vk_X1_reckon dX1_lastThatHolds_69 (by decide) rfl (Nat.zero_le _) rfl ?_
            refine z_if_eq (tgt := 77) dX1_lastThatHolds_72 (by decide) (fun c683 => ?_) (fun c683 => ?_)
            · rw [if_pos c683] at e
              exact z_weak [0, 1, 2, 3] rfl (S_X1_lastThatHolds_77  @hk13 e)
            · rw [if_neg c683] at e
              refine z_iload_n 3 dX1_lastThatHolds_75 rfl ?_
              cases e
              exact z_iret dX1_lastThatHolds_76 rfl
def D_X1_lastThatHolds (h : z_H) (l0 : Option Nat) (l1 : Option Nat) (l2 : Int32) : Option (Int32 × z_H) :=
  if l1 = none then
    some ((-1:Int32), h)
  else
    (z_gI 7 h l1 4).bind fun x685 =>
    (some (x685 - (1:Int32))).bind fun x686 =>
    D_X1_lastThatHolds_13   z_F h l0 l1 l2 x686
set_option maxRecDepth 100000 in
set_option maxHeartbeats 4000000 in
theorem S_X1_lastThatHolds {G : z_G} {l : Launch} {h : z_H} {l0 : Option Nat} {l1 : Option Nat} {l2 : Int32} {res : (Int32 × z_H)} (e : D_X1_lastThatHolds h l0 l1 l2 = some res) : z_Meth G l 6 M_X1_lastThatHolds [z_r l0, z_r l1, .int l2] h res.2 (some (.int res.1)) := by
  refine z_Meth.of ck_X1_lastThatHolds.2.2.2.2 (by simp [lg_sl, z_ci, z_cj, z_cr, z_cx]) ck_X1_lastThatHolds.1 ?_
  rw [show lv_args 0 [z_r l0, z_r l1, .int l2] = [(0, z_r l0), (1, z_r l1), (2, .int l2)] from by simp [lv_args, z_ci, z_cj, z_cr, z_cx]]
  unfold D_X1_lastThatHolds at e
  refine z_aload_n 1 dX1_lastThatHolds_0 rfl ?_
  refine z_ifnonnull (tgt := 6) dX1_lastThatHolds_1 (by decide) (fun c684 => ?_) (fun c684 => ?_)
  · rw [if_neg c684] at e
    refine z_aload_n 1 dX1_lastThatHolds_6 rfl ?_
    replace e := z_bd e; obtain ⟨x685, ex685, e⟩ := e
    refine z_getI ex685 lk_X1_48 dX1_lastThatHolds_7 ?_
    refine z_iconst (v := 1) dX1_lastThatHolds_10 (by decide) ?_
    refine z_isub dX1_lastThatHolds_11 ?_
    replace e := z_bd e; obtain ⟨x686, ex686, e⟩ := e
    refine z_topI ex686 ?_
    refine z_istore_n (L' := [(3, .int x686), (0, z_r l0), (1, z_r l1), (2, .int l2)]) dX1_lastThatHolds_12 rfl (by decide) rfl ?_
    exact z_weak [1, 2, 3, 0] rfl (S_X1_lastThatHolds_13   z_F e)
  · rw [if_pos c684] at e
    refine z_iconst (v := -1) dX1_lastThatHolds_4 (by decide) ?_
    cases e
    exact z_iret dX1_lastThatHolds_5 rfl
theorem dX1_target_0 : decode cX1_target 0 = .ok (.iload_n 3, 1) := by decide +kernel
theorem dX1_target_1 : decode cX1_target 1 = .ok (.iconst 4, 1) := by decide +kernel
theorem dX1_target_2 : decode cX1_target 2 = .ok (.irem, 1) := by decide +kernel
theorem dX1_target_3 : decode cX1_target 3 = .ok (.istore 4, 2) := by decide +kernel
theorem dX1_target_5 : decode cX1_target 5 = .ok (.iload_n 3, 1) := by decide +kernel
theorem dX1_target_6 : decode cX1_target 6 = .ok (.iconst 4, 1) := by decide +kernel
theorem dX1_target_7 : decode cX1_target 7 = .ok (.idiv, 1) := by decide +kernel
theorem dX1_target_8 : decode cX1_target 8 = .ok (.iload 4, 2) := by decide +kernel
theorem dX1_target_10 : decode cX1_target 10 = .ok (.invokestatic 88, 3) := by decide +kernel
theorem dX1_target_13 : decode cX1_target 13 = .ok (.istore 5, 2) := by decide +kernel
theorem dX1_target_15 : decode cX1_target 15 = .ok (.iload 5, 2) := by decide +kernel
theorem dX1_target_17 : decode cX1_target 17 = .ok (.iconst (-1), 1) := by decide +kernel
theorem dX1_target_18 : decode cX1_target 18 = .ok (.if_icmp .eq 12, 3) := by decide +kernel
theorem dX1_target_21 : decode cX1_target 21 = .ok (.aload_n 1, 1) := by decide +kernel
theorem dX1_target_22 : decode cX1_target 22 = .ok (.iload 5, 2) := by decide +kernel
theorem dX1_target_24 : decode cX1_target 24 = .ok (.invokevirtual 91, 3) := by decide +kernel
theorem dX1_target_27 : decode cX1_target 27 = .ok (.ifCond .eq 5, 3) := by decide +kernel
theorem dX1_target_30 : decode cX1_target 30 = .ok (.iconst (-1), 1) := by decide +kernel
theorem dX1_target_31 : decode cX1_target 31 = .ok (.ireturn, 1) := by decide +kernel
theorem dX1_target_32 : decode cX1_target 32 = .ok (.aload_n 0, 1) := by decide +kernel
theorem dX1_target_33 : decode cX1_target 33 = .ok (.aload_n 1, 1) := by decide +kernel
theorem dX1_target_34 : decode cX1_target 34 = .ok (.iload_n 2, 1) := by decide +kernel
theorem dX1_target_35 : decode cX1_target 35 = .ok (.iconst (-1), 1) := by decide +kernel
theorem dX1_target_36 : decode cX1_target 36 = .ok (.iconst (-1), 1) := by decide +kernel
theorem dX1_target_37 : decode cX1_target 37 = .ok (.iload 5, 2) := by decide +kernel
theorem dX1_target_39 : decode cX1_target 39 = .ok (.iconst 4, 1) := by decide +kernel
theorem dX1_target_40 : decode cX1_target 40 = .ok (.imul, 1) := by decide +kernel
theorem dX1_target_41 : decode cX1_target 41 = .ok (.iload 4, 2) := by decide +kernel
theorem dX1_target_43 : decode cX1_target 43 = .ok (.iadd, 1) := by decide +kernel
theorem dX1_target_44 : decode cX1_target 44 = .ok (.invokevirtual 66, 3) := by decide +kernel
theorem dX1_target_47 : decode cX1_target 47 = .ok (.aload_n 0, 1) := by decide +kernel
theorem dX1_target_48 : decode cX1_target 48 = .ok (.aload_n 1, 1) := by decide +kernel
theorem dX1_target_49 : decode cX1_target 49 = .ok (.invokevirtual 84, 3) := by decide +kernel
theorem dX1_target_52 : decode cX1_target 52 = .ok (.bipush 7, 2) := by decide +kernel
theorem dX1_target_54 : decode cX1_target 54 = .ok (.invokevirtual 70, 3) := by decide +kernel
theorem dX1_target_57 : decode cX1_target 57 = .ok (.iconst (-1), 1) := by decide +kernel
theorem dX1_target_58 : decode cX1_target 58 = .ok (.if_icmp .ne 8, 3) := by decide +kernel
theorem dX1_target_61 : decode cX1_target 61 = .ok (.iload 5, 2) := by decide +kernel
theorem dX1_target_63 : decode cX1_target 63 = .ok (.goto 4, 3) := by decide +kernel
theorem dX1_target_66 : decode cX1_target 66 = .ok (.iconst (-1), 1) := by decide +kernel
theorem dX1_target_67 : decode cX1_target 67 = .ok (.ireturn, 1) := by decide +kernel
def D_X1_target (h : z_H) (l0 : Option Nat) (l1 : Option Nat) (l2 : Int32) (l3 : Int32) : Option (Int32 × z_H) :=
  (some (l3 - l3 / (4:Int32) * (4:Int32))).bind fun x687 =>
  (D_X1_beside  h (l3 / (4:Int32)) x687).bind fun p688 =>
  if p688.1 = (-1:Int32) then
    some ((-1:Int32), p688.2)
  else
    (z_ob 9 p688.2 l1).bind fun _ =>
    (D_X9_isWall  p688.2 l1 p688.1).bind fun p690 =>
    if p690.1 = 0 then
      (z_ob 1 p690.2 l0).bind fun _ =>
      (D_X1_setLawWords  p690.2 l0 l1 l2 (-1:Int32) (-1:Int32) ((p688.1 * (4:Int32)) + x687)).bind fun p693 =>
      (z_ob 9 p693 l1).bind fun _ =>
      (D_X9_lawInForce  p693 l1).bind fun p695 =>
      (z_ob 1 p695.2 l0).bind fun _ =>
      (D_X1_lastThatHolds  p695.2 l0 p695.1 (7:Int32)).bind fun p697 =>
      if p697.1 = (-1:Int32) then
        some (p688.1, p697.2)
      else
        some ((-1:Int32), p697.2)
    else
      some ((-1:Int32), p690.2)
set_option maxRecDepth 100000 in
set_option maxHeartbeats 4000000 in
theorem S_X1_target {G : z_G} {l : Launch} {h : z_H} {l0 : Option Nat} {l1 : Option Nat} {l2 : Int32} {l3 : Int32} {res : (Int32 × z_H)} (e : D_X1_target h l0 l1 l2 l3 = some res) : z_Meth G l 7 M_X1_target [z_r l0, z_r l1, .int l2, .int l3] h res.2 (some (.int res.1)) := by
  refine z_Meth.of ck_X1_target.2.2.2.2 (by simp [lg_sl, z_ci, z_cj, z_cr, z_cx]) ck_X1_target.1 ?_
  rw [show lv_args 0 [z_r l0, z_r l1, .int l2, .int l3] = [(0, z_r l0), (1, z_r l1), (2, .int l2), (3, .int l3)] from by simp [lv_args, z_ci, z_cj, z_cr, z_cx]]
  unfold D_X1_target at e
  refine z_iload_n 3 dX1_target_0 rfl ?_
  refine z_iconst (v := 4) dX1_target_1 (by decide) ?_
  refine z_irem dX1_target_2 (by decide) ?_
  replace e := z_bd e; obtain ⟨x687, ex687, e⟩ := e
  refine z_topI ex687 ?_
  refine z_istore (L' := [(4, .int x687), (0, z_r l0), (1, z_r l1), (2, .int l2), (3, .int l3)]) dX1_target_3 (by decide) rfl ?_
  refine z_iload_n 4 dX1_target_5 rfl ?_
  refine z_iconst (v := 4) dX1_target_6 (by decide) ?_
  refine z_idiv dX1_target_7 (by decide) ?_
  refine z_iload 0 dX1_target_8 rfl ?_
  replace e := z_bd e; obtain ⟨p688, ep688, e⟩ := e
  refine z_cS [.int (l3 / (4:Int32)), .int x687] (S_X1_beside  ep688) ml_X1_88 ck_X1_beside st_X1_beside dX1_target_10 (by decide) rfl (Nat.zero_le _) rfl ?_
  refine z_istore (L' := [(5, .int p688.1), (4, .int x687), (0, z_r l0), (1, z_r l1), (2, .int l2), (3, .int l3)]) dX1_target_13 (by decide) rfl ?_
  refine z_iload 0 dX1_target_15 rfl ?_
  refine z_iconst (v := -1) dX1_target_17 (by decide) ?_
  refine z_icmp_eq (tgt := 30) dX1_target_18 (by decide) (fun c689 => ?_) (fun c689 => ?_)
  · rw [if_pos c689] at e
    refine z_iconst (v := -1) dX1_target_30 (by decide) ?_
    cases e
    exact z_iret dX1_target_31 rfl
  · rw [if_neg c689] at e
    refine z_aload_n 3 dX1_target_21 rfl ?_
    refine z_iload 0 dX1_target_22 rfl ?_
    replace e := z_bd e; obtain ⟨o691, eo691, e⟩ := e
    replace e := z_bd e; obtain ⟨p690, ep690, e⟩ := e
    refine z_cV [.int p688.1] (S_X9_isWall  ep690) eo691 rfl ml_X1_91 ck_X9_isWall vk_X9_isWall dX1_target_24 (by decide) rfl (Nat.zero_le _) rfl ?_
    refine z_if_eq (tgt := 32) dX1_target_27 (by decide) (fun c692 => ?_) (fun c692 => ?_)
    · rw [if_pos c692] at e
      refine z_aload_n 2 dX1_target_32 rfl ?_
      refine z_aload_n 3 dX1_target_33 rfl ?_
      refine z_iload_n 4 dX1_target_34 rfl ?_
      refine z_iconst (v := -1) dX1_target_35 (by decide) ?_
      refine z_iconst (v := -1) dX1_target_36 (by decide) ?_
      refine z_iload 0 dX1_target_37 rfl ?_
      refine z_iconst (v := 4) dX1_target_39 (by decide) ?_
      refine z_imul dX1_target_40 ?_
      refine z_iload 1 dX1_target_41 rfl ?_
      refine z_iadd dX1_target_43 ?_
      replace e := z_bd e; obtain ⟨o694, eo694, e⟩ := e
      replace e := z_bd e; obtain ⟨p693, ep693, e⟩ := e
      refine z_cV [z_r l1, .int l2, .int (-1:Int32), .int (-1:Int32), .int ((p688.1 * (4:Int32)) + x687)] (S_X1_setLawWords  ep693) eo694 rfl ml_X1_66 ck_X1_setLawWords vk_X1_setLawWords dX1_target_44 (by decide) rfl (Nat.zero_le _) rfl ?_
      refine z_aload_n 2 dX1_target_47 rfl ?_
      refine z_aload_n 3 dX1_target_48 rfl ?_
      replace e := z_bd e; obtain ⟨o696, eo696, e⟩ := e
      replace e := z_bd e; obtain ⟨p695, ep695, e⟩ := e
      refine z_cV [] (S_X9_lawInForce  ep695) eo696 rfl ml_X1_84 ck_X9_lawInForce vk_X9_lawInForce dX1_target_49 (by decide) rfl (by simp [z_ci, z_cj, z_cr, z_cx]) rfl ?_
      refine z_bipush (v := 7) dX1_target_52 (by decide) ?_
      replace e := z_bd e; obtain ⟨o698, eo698, e⟩ := e
      replace e := z_bd e; obtain ⟨p697, ep697, e⟩ := e
      refine z_cV [z_r p695.1, .int (7:Int32)] (S_X1_lastThatHolds  ep697) eo698 rfl ml_X1_70 ck_X1_lastThatHolds vk_X1_lastThatHolds dX1_target_54 (by decide) rfl (Nat.zero_le _) rfl ?_
      refine z_iconst (v := -1) dX1_target_57 (by decide) ?_
      refine z_icmp_ne (tgt := 66) dX1_target_58 (by decide) (fun c699 => ?_) (fun c699 => ?_)
      · rw [if_neg c699] at e
        refine z_iconst (v := -1) dX1_target_66 (by decide) ?_
        cases e
        exact z_iret dX1_target_67 rfl
      · rw [if_pos c699] at e
        refine z_iload 0 dX1_target_61 rfl ?_
        refine z_goto (tgt := 67) dX1_target_63 (by decide) ?_
        cases e
        exact z_iret dX1_target_67 rfl
    · rw [if_neg c692] at e
      refine z_iconst (v := -1) dX1_target_30 (by decide) ?_
      cases e
      exact z_iret dX1_target_31 rfl
theorem dX1_leaves_0 : decode cX1_leaves 0 = .ok (.aload_n 0, 1) := by decide +kernel
theorem dX1_leaves_1 : decode cX1_leaves 1 = .ok (.aload_n 1, 1) := by decide +kernel
theorem dX1_leaves_2 : decode cX1_leaves 2 = .ok (.iload_n 2, 1) := by decide +kernel
theorem dX1_leaves_3 : decode cX1_leaves 3 = .ok (.iload_n 3, 1) := by decide +kernel
theorem dX1_leaves_4 : decode cX1_leaves 4 = .ok (.aload_n 1, 1) := by decide +kernel
theorem dX1_leaves_5 : decode cX1_leaves 5 = .ok (.iload_n 2, 1) := by decide +kernel
theorem dX1_leaves_6 : decode cX1_leaves 6 = .ok (.iload_n 3, 1) := by decide +kernel
theorem dX1_leaves_7 : decode cX1_leaves 7 = .ok (.invokevirtual 77, 3) := by decide +kernel
theorem dX1_leaves_10 : decode cX1_leaves 10 = .ok (.aload_n 1, 1) := by decide +kernel
theorem dX1_leaves_11 : decode cX1_leaves 11 = .ok (.iload_n 2, 1) := by decide +kernel
theorem dX1_leaves_12 : decode cX1_leaves 12 = .ok (.invokevirtual 80, 3) := by decide +kernel
theorem dX1_leaves_15 : decode cX1_leaves 15 = .ok (.invokevirtual 66, 3) := by decide +kernel
theorem dX1_leaves_18 : decode cX1_leaves 18 = .ok (.aload_n 0, 1) := by decide +kernel
theorem dX1_leaves_19 : decode cX1_leaves 19 = .ok (.aload_n 1, 1) := by decide +kernel
theorem dX1_leaves_20 : decode cX1_leaves 20 = .ok (.invokevirtual 84, 3) := by decide +kernel
theorem dX1_leaves_23 : decode cX1_leaves 23 = .ok (.bipush 6, 2) := by decide +kernel
theorem dX1_leaves_25 : decode cX1_leaves 25 = .ok (.invokevirtual 70, 3) := by decide +kernel
theorem dX1_leaves_28 : decode cX1_leaves 28 = .ok (.iconst (-1), 1) := by decide +kernel
theorem dX1_leaves_29 : decode cX1_leaves 29 = .ok (.if_icmp .ne 5, 3) := by decide +kernel
theorem dX1_leaves_32 : decode cX1_leaves 32 = .ok (.iconst 0, 1) := by decide +kernel
theorem dX1_leaves_33 : decode cX1_leaves 33 = .ok (.ireturn, 1) := by decide +kernel
theorem dX1_leaves_34 : decode cX1_leaves 34 = .ok (.iconst 0, 1) := by decide +kernel
theorem dX1_leaves_35 : decode cX1_leaves 35 = .ok (.bipush 99, 2) := by decide +kernel
theorem dX1_leaves_37 : decode cX1_leaves 37 = .ok (.aload_n 0, 1) := by decide +kernel
theorem dX1_leaves_38 : decode cX1_leaves 38 = .ok (.getfield 19, 3) := by decide +kernel
theorem dX1_leaves_41 : decode cX1_leaves 41 = .ok (.invokestatic 74, 3) := by decide +kernel
theorem dX1_leaves_44 : decode cX1_leaves 44 = .ok (.invokestatic 34, 3) := by decide +kernel
theorem dX1_leaves_47 : decode cX1_leaves 47 = .ok (.ireturn, 1) := by decide +kernel
def D_X1_leaves (h : z_H) (l0 : Option Nat) (l1 : Option Nat) (l2 : Int32) (l3 : Int32) : Option (Int32 × z_H) :=
  (z_ob 9 h l1).bind fun _ =>
  (D_X9_wornAt  h l1 l2 l3).bind fun p700 =>
  (z_ob 9 p700.2 l1).bind fun _ =>
  (D_X9_placeOf  p700.2 l1 l2).bind fun p702 =>
  (z_ob 1 p702.2 l0).bind fun _ =>
  (D_X1_setLawWords  p702.2 l0 l1 l2 l3 p700.1 p702.1).bind fun p704 =>
  (z_ob 9 p704 l1).bind fun _ =>
  (D_X9_lawInForce  p704 l1).bind fun p706 =>
  (z_ob 1 p706.2 l0).bind fun _ =>
  (D_X1_lastThatHolds  p706.2 l0 p706.1 (6:Int32)).bind fun p708 =>
  if p708.1 = (-1:Int32) then
    some ((0:Int32), p708.2)
  else
    (z_gI 1 p708.2 l0 2).bind fun x711 =>
    (some (if x711 < (99:Int32) then x711 else (99:Int32))).bind fun x712 =>
    (some (if (0:Int32) < x712 then x712 else (0:Int32))).bind fun x713 =>
    some (x713, p708.2)
set_option maxRecDepth 100000 in
set_option maxHeartbeats 4000000 in
theorem S_X1_leaves {G : z_G} {l : Launch} {h : z_H} {l0 : Option Nat} {l1 : Option Nat} {l2 : Int32} {l3 : Int32} {res : (Int32 × z_H)} (e : D_X1_leaves h l0 l1 l2 l3 = some res) : z_Meth G l 7 M_X1_leaves [z_r l0, z_r l1, .int l2, .int l3] h res.2 (some (.int res.1)) := by
  refine z_Meth.of ck_X1_leaves.2.2.2.2 (by simp [lg_sl, z_ci, z_cj, z_cr, z_cx]) ck_X1_leaves.1 ?_
  rw [show lv_args 0 [z_r l0, z_r l1, .int l2, .int l3] = [(0, z_r l0), (1, z_r l1), (2, .int l2), (3, .int l3)] from by simp [lv_args, z_ci, z_cj, z_cr, z_cx]]
  unfold D_X1_leaves at e
  refine z_aload_n 0 dX1_leaves_0 rfl ?_
  refine z_aload_n 1 dX1_leaves_1 rfl ?_
  refine z_iload_n 2 dX1_leaves_2 rfl ?_
  refine z_iload_n 3 dX1_leaves_3 rfl ?_
  refine z_aload_n 1 dX1_leaves_4 rfl ?_
  refine z_iload_n 2 dX1_leaves_5 rfl ?_
  refine z_iload_n 3 dX1_leaves_6 rfl ?_
  replace e := z_bd e; obtain ⟨o701, eo701, e⟩ := e
  replace e := z_bd e; obtain ⟨p700, ep700, e⟩ := e
  refine z_cV [.int l2, .int l3] (S_X9_wornAt  ep700) eo701 rfl ml_X1_77 ck_X9_wornAt vk_X9_wornAt dX1_leaves_7 (by decide) rfl (by simp [z_ci, z_cj, z_cr, z_cx]) rfl ?_
  refine z_aload_n 1 dX1_leaves_10 rfl ?_
  refine z_iload_n 2 dX1_leaves_11 rfl ?_
  replace e := z_bd e; obtain ⟨o703, eo703, e⟩ := e
  replace e := z_bd e; obtain ⟨p702, ep702, e⟩ := e
  refine z_cV [.int l2] (S_X9_placeOf  ep702) eo703 rfl ml_X1_80 ck_X9_placeOf vk_X9_placeOf dX1_leaves_12 (by decide) rfl (by simp [z_ci, z_cj, z_cr, z_cx]) rfl ?_
  replace e := z_bd e; obtain ⟨o705, eo705, e⟩ := e
  replace e := z_bd e; obtain ⟨p704, ep704, e⟩ := e
  refine z_cV [z_r l1, .int l2, .int l3, .int p700.1, .int p702.1] (S_X1_setLawWords  ep704) eo705 rfl ml_X1_66 ck_X1_setLawWords vk_X1_setLawWords dX1_leaves_15 (by decide) rfl (Nat.zero_le _) rfl ?_
  refine z_aload_n 0 dX1_leaves_18 rfl ?_
  refine z_aload_n 1 dX1_leaves_19 rfl ?_
  replace e := z_bd e; obtain ⟨o707, eo707, e⟩ := e
  replace e := z_bd e; obtain ⟨p706, ep706, e⟩ := e
  refine z_cV [] (S_X9_lawInForce  ep706) eo707 rfl ml_X1_84 ck_X9_lawInForce vk_X9_lawInForce dX1_leaves_20 (by decide) rfl (by simp [z_ci, z_cj, z_cr, z_cx]) rfl ?_
  refine z_bipush (v := 6) dX1_leaves_23 (by decide) ?_
  replace e := z_bd e; obtain ⟨o709, eo709, e⟩ := e
  replace e := z_bd e; obtain ⟨p708, ep708, e⟩ := e
  refine z_cV [z_r p706.1, .int (6:Int32)] (S_X1_lastThatHolds  ep708) eo709 rfl ml_X1_70 ck_X1_lastThatHolds vk_X1_lastThatHolds dX1_leaves_25 (by decide) rfl (Nat.zero_le _) rfl ?_
  refine z_iconst (v := -1) dX1_leaves_28 (by decide) ?_
  refine z_icmp_ne (tgt := 34) dX1_leaves_29 (by decide) (fun c710 => ?_) (fun c710 => ?_)
  · rw [if_neg c710] at e
    refine z_iconst (v := 0) dX1_leaves_34 (by decide) ?_
    refine z_bipush (v := 99) dX1_leaves_35 (by decide) ?_
    refine z_aload_n 0 dX1_leaves_37 rfl ?_
    replace e := z_bd e; obtain ⟨x711, ex711, e⟩ := e
    refine z_getI ex711 lk_X1_19 dX1_leaves_38 ?_
    refine z_mmin ml_X1_74 z_mw_min (by decide) (by simp [z_ci, z_cj, z_cr, z_cx]) dX1_leaves_41 ?_
    replace e := z_bd e; obtain ⟨x712, ex712, e⟩ := e
    refine z_topI ex712 ?_
    refine z_mmax ml_X1_34 z_mw_max (by decide) (Nat.zero_le _) dX1_leaves_44 ?_
    replace e := z_bd e; obtain ⟨x713, ex713, e⟩ := e
    refine z_topI ex713 ?_
    cases e
    exact z_iret dX1_leaves_47 rfl
  · rw [if_pos c710] at e
    refine z_iconst (v := 0) dX1_leaves_32 (by decide) ?_
    cases e
    exact z_iret dX1_leaves_33 rfl
theorem dX1_wears_0 : decode cX1_wears 0 = .ok (.aload_n 0, 1) := by decide +kernel
theorem dX1_wears_1 : decode cX1_wears 1 = .ok (.aload_n 1, 1) := by decide +kernel
theorem dX1_wears_2 : decode cX1_wears 2 = .ok (.iload_n 3, 1) := by decide +kernel
theorem dX1_wears_3 : decode cX1_wears 3 = .ok (.iload 4, 2) := by decide +kernel
theorem dX1_wears_5 : decode cX1_wears 5 = .ok (.iload 5, 2) := by decide +kernel
theorem dX1_wears_7 : decode cX1_wears 7 = .ok (.iload 6, 2) := by decide +kernel
theorem dX1_wears_9 : decode cX1_wears 9 = .ok (.invokevirtual 66, 3) := by decide +kernel
theorem dX1_wears_12 : decode cX1_wears 12 = .ok (.aload_n 0, 1) := by decide +kernel
theorem dX1_wears_13 : decode cX1_wears 13 = .ok (.aload_n 2, 1) := by decide +kernel
theorem dX1_wears_14 : decode cX1_wears 14 = .ok (.iconst 5, 1) := by decide +kernel
theorem dX1_wears_15 : decode cX1_wears 15 = .ok (.invokevirtual 70, 3) := by decide +kernel
theorem dX1_wears_18 : decode cX1_wears 18 = .ok (.iconst (-1), 1) := by decide +kernel
theorem dX1_wears_19 : decode cX1_wears 19 = .ok (.if_icmp .ne 5, 3) := by decide +kernel
theorem dX1_wears_22 : decode cX1_wears 22 = .ok (.iconst 1, 1) := by decide +kernel
theorem dX1_wears_23 : decode cX1_wears 23 = .ok (.ireturn, 1) := by decide +kernel
theorem dX1_wears_24 : decode cX1_wears 24 = .ok (.iconst 0, 1) := by decide +kernel
theorem dX1_wears_25 : decode cX1_wears 25 = .ok (.bipush 9, 2) := by decide +kernel
theorem dX1_wears_27 : decode cX1_wears 27 = .ok (.aload_n 0, 1) := by decide +kernel
theorem dX1_wears_28 : decode cX1_wears 28 = .ok (.getfield 19, 3) := by decide +kernel
theorem dX1_wears_31 : decode cX1_wears 31 = .ok (.invokestatic 74, 3) := by decide +kernel
theorem dX1_wears_34 : decode cX1_wears 34 = .ok (.invokestatic 34, 3) := by decide +kernel
theorem dX1_wears_37 : decode cX1_wears 37 = .ok (.ireturn, 1) := by decide +kernel
def D_X1_wears (h : z_H) (l0 : Option Nat) (l1 : Option Nat) (l2 : Option Nat) (l3 : Int32) (l4 : Int32) (l5 : Int32) (l6 : Int32) : Option (Int32 × z_H) :=
  (z_ob 1 h l0).bind fun _ =>
  (D_X1_setLawWords  h l0 l1 l3 l4 l5 l6).bind fun p714 =>
  (z_ob 1 p714 l0).bind fun _ =>
  (D_X1_lastThatHolds  p714 l0 l2 (5:Int32)).bind fun p716 =>
  if p716.1 = (-1:Int32) then
    some ((1:Int32), p716.2)
  else
    (z_gI 1 p716.2 l0 2).bind fun x719 =>
    (some (if x719 < (9:Int32) then x719 else (9:Int32))).bind fun x720 =>
    (some (if (0:Int32) < x720 then x720 else (0:Int32))).bind fun x721 =>
    some (x721, p716.2)
set_option maxRecDepth 100000 in
set_option maxHeartbeats 4000000 in
theorem S_X1_wears {G : z_G} {l : Launch} {h : z_H} {l0 : Option Nat} {l1 : Option Nat} {l2 : Option Nat} {l3 : Int32} {l4 : Int32} {l5 : Int32} {l6 : Int32} {res : (Int32 × z_H)} (e : D_X1_wears h l0 l1 l2 l3 l4 l5 l6 = some res) : z_Meth G l 7 M_X1_wears [z_r l0, z_r l1, z_r l2, .int l3, .int l4, .int l5, .int l6] h res.2 (some (.int res.1)) := by
  refine z_Meth.of ck_X1_wears.2.2.2.2 (by simp [lg_sl, z_ci, z_cj, z_cr, z_cx]) ck_X1_wears.1 ?_
  rw [show lv_args 0 [z_r l0, z_r l1, z_r l2, .int l3, .int l4, .int l5, .int l6] = [(0, z_r l0), (1, z_r l1), (2, z_r l2), (3, .int l3), (4, .int l4), (5, .int l5), (6, .int l6)] from by simp [lv_args, z_ci, z_cj, z_cr, z_cx]]
  unfold D_X1_wears at e
  refine z_aload_n 0 dX1_wears_0 rfl ?_
  refine z_aload_n 1 dX1_wears_1 rfl ?_
  refine z_iload_n 3 dX1_wears_2 rfl ?_
  refine z_iload 4 dX1_wears_3 rfl ?_
  refine z_iload 5 dX1_wears_5 rfl ?_
  refine z_iload 6 dX1_wears_7 rfl ?_
  replace e := z_bd e; obtain ⟨o715, eo715, e⟩ := e
  replace e := z_bd e; obtain ⟨p714, ep714, e⟩ := e
  refine z_cV [z_r l1, .int l3, .int l4, .int l5, .int l6] (S_X1_setLawWords  ep714) eo715 rfl ml_X1_66 ck_X1_setLawWords vk_X1_setLawWords dX1_wears_9 (by decide) rfl (Nat.zero_le _) rfl ?_
  refine z_aload_n 0 dX1_wears_12 rfl ?_
  refine z_aload_n 2 dX1_wears_13 rfl ?_
  refine z_iconst (v := 5) dX1_wears_14 (by decide) ?_
  replace e := z_bd e; obtain ⟨o717, eo717, e⟩ := e
  replace e := z_bd e; obtain ⟨p716, ep716, e⟩ := e
  refine z_cV [z_r l2, .int (5:Int32)] (S_X1_lastThatHolds  ep716) eo717 rfl ml_X1_70 ck_X1_lastThatHolds vk_X1_lastThatHolds dX1_wears_15 (by decide) rfl (Nat.zero_le _) rfl ?_
  refine z_iconst (v := -1) dX1_wears_18 (by decide) ?_
  refine z_icmp_ne (tgt := 24) dX1_wears_19 (by decide) (fun c718 => ?_) (fun c718 => ?_)
  · rw [if_neg c718] at e
    refine z_iconst (v := 0) dX1_wears_24 (by decide) ?_
    refine z_bipush (v := 9) dX1_wears_25 (by decide) ?_
    refine z_aload_n 0 dX1_wears_27 rfl ?_
    replace e := z_bd e; obtain ⟨x719, ex719, e⟩ := e
    refine z_getI ex719 lk_X1_19 dX1_wears_28 ?_
    refine z_mmin ml_X1_74 z_mw_min (by decide) (by simp [z_ci, z_cj, z_cr, z_cx]) dX1_wears_31 ?_
    replace e := z_bd e; obtain ⟨x720, ex720, e⟩ := e
    refine z_topI ex720 ?_
    refine z_mmax ml_X1_34 z_mw_max (by decide) (Nat.zero_le _) dX1_wears_34 ?_
    replace e := z_bd e; obtain ⟨x721, ex721, e⟩ := e
    refine z_topI ex721 ?_
    cases e
    exact z_iret dX1_wears_37 rfl
  · rw [if_pos c718] at e
    refine z_iconst (v := 1) dX1_wears_22 (by decide) ?_
    cases e
    exact z_iret dX1_wears_23 rfl
theorem dX10_turned_0 : decode cX10_turned 0 = .ok (.iload_n 0, 1) := by decide +kernel
theorem dX10_turned_1 : decode cX10_turned 1 = .ok (.iload_n 1, 1) := by decide +kernel
theorem dX10_turned_2 : decode cX10_turned 2 = .ok (.ifCond .ne 7, 3) := by decide +kernel
theorem dX10_turned_5 : decode cX10_turned 5 = .ok (.iconst 3, 1) := by decide +kernel
theorem dX10_turned_6 : decode cX10_turned 6 = .ok (.goto 4, 3) := by decide +kernel
theorem dX10_turned_9 : decode cX10_turned 9 = .ok (.iconst 1, 1) := by decide +kernel
theorem dX10_turned_10 : decode cX10_turned 10 = .ok (.iadd, 1) := by decide +kernel
theorem dX10_turned_11 : decode cX10_turned 11 = .ok (.iconst 4, 1) := by decide +kernel
theorem dX10_turned_12 : decode cX10_turned 12 = .ok (.irem, 1) := by decide +kernel
theorem dX10_turned_13 : decode cX10_turned 13 = .ok (.ireturn, 1) := by decide +kernel
def D_X10_turned_10 (h : z_H) (s0 : Int32) (s1 : Int32) : Option (Int32 × z_H) :=
  some (((s0 + s1) - (s0 + s1) / (4:Int32) * (4:Int32)), h)
set_option maxRecDepth 100000 in
set_option maxHeartbeats 4000000 in
theorem S_X10_turned_10 {G : z_G} {l : Launch}  {h : z_H} {s0 : Int32} {s1 : Int32} {res : (Int32 × z_H)} (e : D_X10_turned_10  h s0 s1 = some res) : z_Run G l 4 M_X10_turned 10 [] [.int s1, .int s0] h res.2 (some (.int res.1)) := by
  unfold D_X10_turned_10 at e
  refine z_iadd dX10_turned_10 ?_
  refine z_iconst (v := 4) dX10_turned_11 (by decide) ?_
  refine z_irem dX10_turned_12 (by decide) ?_
  cases e
  exact z_iret dX10_turned_13 rfl
def D_X10_turned (h : z_H) (l0 : Int32) (l1 : Int32) : Option (Int32 × z_H) :=
  if l1 = 0 then
    D_X10_turned_10   h l0 (3:Int32)
  else
    D_X10_turned_10   h l0 (1:Int32)
set_option maxRecDepth 100000 in
set_option maxHeartbeats 4000000 in
theorem S_X10_turned {G : z_G} {l : Launch} {h : z_H} {l0 : Int32} {l1 : Int32} {res : (Int32 × z_H)} (e : D_X10_turned h l0 l1 = some res) : z_Meth G l 4 M_X10_turned [.int l0, .int l1] h res.2 (some (.int res.1)) := by
  refine z_Meth.of ck_X10_turned.2.2.2.2 (by simp [lg_sl, z_ci, z_cj, z_cr, z_cx]) ck_X10_turned.1 ?_
  rw [show lv_args 0 [.int l0, .int l1] = [(0, .int l0), (1, .int l1)] from rfl]
  unfold D_X10_turned at e
  refine z_iload_n 0 dX10_turned_0 rfl ?_
  refine z_iload_n 1 dX10_turned_1 rfl ?_
  refine z_if_ne (tgt := 9) dX10_turned_2 (by decide) (fun c722 => ?_) (fun c722 => ?_)
  · rw [if_neg c722] at e
    refine z_iconst (v := 1) dX10_turned_9 (by decide) ?_
    exact z_weak [] rfl (S_X10_turned_10   e)
  · rw [if_pos c722] at e
    refine z_iconst (v := 3) dX10_turned_5 (by decide) ?_
    refine z_goto (tgt := 10) dX10_turned_6 (by decide) ?_
    exact z_weak [] rfl (S_X10_turned_10   e)
theorem dX0_carryOut_0 : decode cX0_carryOut 0 = .ok (.iload_n 2, 1) := by decide +kernel
theorem dX0_carryOut_1 : decode cX0_carryOut 1 = .ok (.iconst 1, 1) := by decide +kernel
theorem dX0_carryOut_2 : decode cX0_carryOut 2 = .ok (.if_icmp .ne 14, 3) := by decide +kernel
theorem dX0_carryOut_5 : decode cX0_carryOut 5 = .ok (.iload 4, 2) := by decide +kernel
theorem dX0_carryOut_7 : decode cX0_carryOut 7 = .ok (.ifCond .lt 22, 3) := by decide +kernel
theorem dX0_carryOut_10 : decode cX0_carryOut 10 = .ok (.iload 4, 2) := by decide +kernel
theorem dX0_carryOut_12 : decode cX0_carryOut 12 = .ok (.iconst 1, 1) := by decide +kernel
theorem dX0_carryOut_13 : decode cX0_carryOut 13 = .ok (.if_icmp .gt 16, 3) := by decide +kernel
theorem dX0_carryOut_16 : decode cX0_carryOut 16 = .ok (.iload_n 2, 1) := by decide +kernel
theorem dX0_carryOut_17 : decode cX0_carryOut 17 = .ok (.iconst 3, 1) := by decide +kernel
theorem dX0_carryOut_18 : decode cX0_carryOut 18 = .ok (.if_icmp .ne 13, 3) := by decide +kernel
theorem dX0_carryOut_21 : decode cX0_carryOut 21 = .ok (.iload 4, 2) := by decide +kernel
theorem dX0_carryOut_23 : decode cX0_carryOut 23 = .ok (.invokestatic 21, 3) := by decide +kernel
theorem dX0_carryOut_26 : decode cX0_carryOut 26 = .ok (.ifCond .ne 5, 3) := by decide +kernel
theorem dX0_carryOut_29 : decode cX0_carryOut 29 = .ok (.iconst (-1), 1) := by decide +kernel
theorem dX0_carryOut_30 : decode cX0_carryOut 30 = .ok (.ireturn, 1) := by decide +kernel
theorem dX0_carryOut_31 : decode cX0_carryOut 31 = .ok (.iload_n 2, 1) := by decide +kernel
theorem dX0_carryOut_32 : decode cX0_carryOut 32 = .ok (.iconst 4, 1) := by decide +kernel
theorem dX0_carryOut_33 : decode cX0_carryOut 33 = .ok (.if_icmp .ne 9, 3) := by decide +kernel
theorem dX0_carryOut_36 : decode cX0_carryOut 36 = .ok (.aload_n 0, 1) := by decide +kernel
theorem dX0_carryOut_37 : decode cX0_carryOut 37 = .ok (.aload_n 1, 1) := by decide +kernel
theorem dX0_carryOut_38 : decode cX0_carryOut 38 = .ok (.invokevirtual 25, 3) := by decide +kernel
theorem dX0_carryOut_41 : decode cX0_carryOut 41 = .ok (.ireturn, 1) := by decide +kernel
theorem dX0_carryOut_42 : decode cX0_carryOut 42 = .ok (.aload_n 1, 1) := by decide +kernel
theorem dX0_carryOut_43 : decode cX0_carryOut 43 = .ok (.iload_n 3, 1) := by decide +kernel
theorem dX0_carryOut_44 : decode cX0_carryOut 44 = .ok (.invokevirtual 29, 3) := by decide +kernel
theorem dX0_carryOut_47 : decode cX0_carryOut 47 = .ok (.ifCond .ne 6, 3) := by decide +kernel
theorem dX0_carryOut_50 : decode cX0_carryOut 50 = .ok (.bipush (-2), 2) := by decide +kernel
theorem dX0_carryOut_52 : decode cX0_carryOut 52 = .ok (.ireturn, 1) := by decide +kernel
theorem dX0_carryOut_53 : decode cX0_carryOut 53 = .ok (.iload_n 2, 1) := by decide +kernel
theorem dX0_carryOut_54 : decode cX0_carryOut 54 = .ok (.ifCond .ne 7, 3) := by decide +kernel
theorem dX0_carryOut_57 : decode cX0_carryOut 57 = .ok (.iconst 0, 1) := by decide +kernel
theorem dX0_carryOut_58 : decode cX0_carryOut 58 = .ok (.goto 26, 3) := by decide +kernel
theorem dX0_carryOut_61 : decode cX0_carryOut 61 = .ok (.iload_n 2, 1) := by decide +kernel
theorem dX0_carryOut_62 : decode cX0_carryOut 62 = .ok (.iconst 1, 1) := by decide +kernel
theorem dX0_carryOut_63 : decode cX0_carryOut 63 = .ok (.if_icmp .ne 10, 3) := by decide +kernel
theorem dX0_carryOut_66 : decode cX0_carryOut 66 = .ok (.iconst 2, 1) := by decide +kernel
theorem dX0_carryOut_67 : decode cX0_carryOut 67 = .ok (.iload 4, 2) := by decide +kernel
theorem dX0_carryOut_69 : decode cX0_carryOut 69 = .ok (.iadd, 1) := by decide +kernel
theorem dX0_carryOut_70 : decode cX0_carryOut 70 = .ok (.goto 14, 3) := by decide +kernel
theorem dX0_carryOut_73 : decode cX0_carryOut 73 = .ok (.iload_n 2, 1) := by decide +kernel
theorem dX0_carryOut_74 : decode cX0_carryOut 74 = .ok (.iconst 2, 1) := by decide +kernel
theorem dX0_carryOut_75 : decode cX0_carryOut 75 = .ok (.if_icmp .ne 7, 3) := by decide +kernel
theorem dX0_carryOut_78 : decode cX0_carryOut 78 = .ok (.iconst 1, 1) := by decide +kernel
theorem dX0_carryOut_79 : decode cX0_carryOut 79 = .ok (.goto 5, 3) := by decide +kernel
theorem dX0_carryOut_82 : decode cX0_carryOut 82 = .ok (.iload 4, 2) := by decide +kernel
theorem dX0_carryOut_84 : decode cX0_carryOut 84 = .ok (.istore 5, 2) := by decide +kernel
theorem dX0_carryOut_86 : decode cX0_carryOut 86 = .ok (.aload_n 0, 1) := by decide +kernel
theorem dX0_carryOut_87 : decode cX0_carryOut 87 = .ok (.aload_n 1, 1) := by decide +kernel
theorem dX0_carryOut_88 : decode cX0_carryOut 88 = .ok (.iload_n 2, 1) := by decide +kernel
theorem dX0_carryOut_89 : decode cX0_carryOut 89 = .ok (.iload_n 3, 1) := by decide +kernel
theorem dX0_carryOut_90 : decode cX0_carryOut 90 = .ok (.iload 5, 2) := by decide +kernel
theorem dX0_carryOut_92 : decode cX0_carryOut 92 = .ok (.invokevirtual 34, 3) := by decide +kernel
theorem dX0_carryOut_95 : decode cX0_carryOut 95 = .ok (.aload_n 1, 1) := by decide +kernel
theorem dX0_carryOut_96 : decode cX0_carryOut 96 = .ok (.iload_n 3, 1) := by decide +kernel
theorem dX0_carryOut_97 : decode cX0_carryOut 97 = .ok (.iload 5, 2) := by decide +kernel
theorem dX0_carryOut_99 : decode cX0_carryOut 99 = .ok (.invokevirtual 38, 3) := by decide +kernel
theorem dX0_carryOut_102 : decode cX0_carryOut 102 = .ok (.istore 6, 2) := by decide +kernel
theorem dX0_carryOut_104 : decode cX0_carryOut 104 = .ok (.aload_n 1, 1) := by decide +kernel
theorem dX0_carryOut_105 : decode cX0_carryOut 105 = .ok (.iload_n 3, 1) := by decide +kernel
theorem dX0_carryOut_106 : decode cX0_carryOut 106 = .ok (.invokevirtual 42, 3) := by decide +kernel
theorem dX0_carryOut_109 : decode cX0_carryOut 109 = .ok (.istore 7, 2) := by decide +kernel
theorem dX0_carryOut_111 : decode cX0_carryOut 111 = .ok (.iload_n 2, 1) := by decide +kernel
theorem dX0_carryOut_112 : decode cX0_carryOut 112 = .ok (.ifCond .ne 17, 3) := by decide +kernel
theorem dX0_carryOut_115 : decode cX0_carryOut 115 = .ok (.aload_n 0, 1) := by decide +kernel
theorem dX0_carryOut_116 : decode cX0_carryOut 116 = .ok (.getfield 17, 3) := by decide +kernel
theorem dX0_carryOut_119 : decode cX0_carryOut 119 = .ok (.aload_n 1, 1) := by decide +kernel
theorem dX0_carryOut_120 : decode cX0_carryOut 120 = .ok (.iload_n 3, 1) := by decide +kernel
theorem dX0_carryOut_121 : decode cX0_carryOut 121 = .ok (.iload 7, 2) := by decide +kernel
theorem dX0_carryOut_123 : decode cX0_carryOut 123 = .ok (.invokevirtual 46, 3) := by decide +kernel
theorem dX0_carryOut_126 : decode cX0_carryOut 126 = .ok (.goto 9, 3) := by decide +kernel
theorem dX0_carryOut_129 : decode cX0_carryOut 129 = .ok (.aload_n 1, 1) := by decide +kernel
theorem dX0_carryOut_130 : decode cX0_carryOut 130 = .ok (.getfield 52, 3) := by decide +kernel
theorem dX0_carryOut_133 : decode cX0_carryOut 133 = .ok (.iload_n 3, 1) := by decide +kernel
theorem dX0_carryOut_134 : decode cX0_carryOut 134 = .ok (.iaload, 1) := by decide +kernel
theorem dX0_carryOut_135 : decode cX0_carryOut 135 = .ok (.istore 8, 2) := by decide +kernel
theorem dX0_carryOut_137 : decode cX0_carryOut 137 = .ok (.iload 8, 2) := by decide +kernel
theorem dX0_carryOut_139 : decode cX0_carryOut 139 = .ok (.iconst (-1), 1) := by decide +kernel
theorem dX0_carryOut_140 : decode cX0_carryOut 140 = .ok (.if_icmp .eq 13, 3) := by decide +kernel
theorem dX0_carryOut_143 : decode cX0_carryOut 143 = .ok (.iload_n 2, 1) := by decide +kernel
theorem dX0_carryOut_144 : decode cX0_carryOut 144 = .ok (.iconst 3, 1) := by decide +kernel
theorem dX0_carryOut_145 : decode cX0_carryOut 145 = .ok (.if_icmp .ne 11, 3) := by decide +kernel
theorem dX0_carryOut_148 : decode cX0_carryOut 148 = .ok (.iload 6, 2) := by decide +kernel
theorem dX0_carryOut_150 : decode cX0_carryOut 150 = .ok (.ifCond .ne 6, 3) := by decide +kernel
theorem dX0_carryOut_153 : decode cX0_carryOut 153 = .ok (.bipush (-3), 2) := by decide +kernel
theorem dX0_carryOut_155 : decode cX0_carryOut 155 = .ok (.ireturn, 1) := by decide +kernel
theorem dX0_carryOut_156 : decode cX0_carryOut 156 = .ok (.iload_n 2, 1) := by decide +kernel
theorem dX0_carryOut_157 : decode cX0_carryOut 157 = .ok (.iconst 3, 1) := by decide +kernel
theorem dX0_carryOut_158 : decode cX0_carryOut 158 = .ok (.if_icmp .ne 17, 3) := by decide +kernel
theorem dX0_carryOut_161 : decode cX0_carryOut 161 = .ok (.aload_n 0, 1) := by decide +kernel
theorem dX0_carryOut_162 : decode cX0_carryOut 162 = .ok (.getfield 17, 3) := by decide +kernel
theorem dX0_carryOut_165 : decode cX0_carryOut 165 = .ok (.aload_n 1, 1) := by decide +kernel
theorem dX0_carryOut_166 : decode cX0_carryOut 166 = .ok (.iload_n 3, 1) := by decide +kernel
theorem dX0_carryOut_167 : decode cX0_carryOut 167 = .ok (.iload 5, 2) := by decide +kernel
theorem dX0_carryOut_169 : decode cX0_carryOut 169 = .ok (.invokevirtual 55, 3) := by decide +kernel
theorem dX0_carryOut_172 : decode cX0_carryOut 172 = .ok (.goto 25, 3) := by decide +kernel
theorem dX0_carryOut_175 : decode cX0_carryOut 175 = .ok (.iload 6, 2) := by decide +kernel
theorem dX0_carryOut_177 : decode cX0_carryOut 177 = .ok (.aload_n 0, 1) := by decide +kernel
theorem dX0_carryOut_178 : decode cX0_carryOut 178 = .ok (.getfield 17, 3) := by decide +kernel
theorem dX0_carryOut_181 : decode cX0_carryOut 181 = .ok (.aload_n 1, 1) := by decide +kernel
theorem dX0_carryOut_182 : decode cX0_carryOut 182 = .ok (.aload_n 1, 1) := by decide +kernel
theorem dX0_carryOut_183 : decode cX0_carryOut 183 = .ok (.invokevirtual 58, 3) := by decide +kernel
theorem dX0_carryOut_186 : decode cX0_carryOut 186 = .ok (.iload_n 3, 1) := by decide +kernel
theorem dX0_carryOut_187 : decode cX0_carryOut 187 = .ok (.iload 5, 2) := by decide +kernel
theorem dX0_carryOut_189 : decode cX0_carryOut 189 = .ok (.iload 6, 2) := by decide +kernel
theorem dX0_carryOut_191 : decode cX0_carryOut 191 = .ok (.iload 7, 2) := by decide +kernel
theorem dX0_carryOut_193 : decode cX0_carryOut 193 = .ok (.invokevirtual 62, 3) := by decide +kernel
theorem dX0_carryOut_196 : decode cX0_carryOut 196 = .ok (.iadd, 1) := by decide +kernel
theorem dX0_carryOut_197 : decode cX0_carryOut 197 = .ok (.istore 9, 2) := by decide +kernel
theorem dX0_carryOut_199 : decode cX0_carryOut 199 = .ok (.aload_n 1, 1) := by decide +kernel
theorem dX0_carryOut_200 : decode cX0_carryOut 200 = .ok (.getfield 66, 3) := by decide +kernel
theorem dX0_carryOut_203 : decode cX0_carryOut 203 = .ok (.iload_n 3, 1) := by decide +kernel
theorem dX0_carryOut_204 : decode cX0_carryOut 204 = .ok (.iconst 4, 1) := by decide +kernel
theorem dX0_carryOut_205 : decode cX0_carryOut 205 = .ok (.imul, 1) := by decide +kernel
theorem dX0_carryOut_206 : decode cX0_carryOut 206 = .ok (.iload 5, 2) := by decide +kernel
theorem dX0_carryOut_208 : decode cX0_carryOut 208 = .ok (.iadd, 1) := by decide +kernel
theorem dX0_carryOut_209 : decode cX0_carryOut 209 = .ok (.bipush 99, 2) := by decide +kernel
theorem dX0_carryOut_211 : decode cX0_carryOut 211 = .ok (.iload 9, 2) := by decide +kernel
theorem dX0_carryOut_213 : decode cX0_carryOut 213 = .ok (.invokestatic 69, 3) := by decide +kernel
theorem dX0_carryOut_216 : decode cX0_carryOut 216 = .ok (.iastore, 1) := by decide +kernel
theorem dX0_carryOut_217 : decode cX0_carryOut 217 = .ok (.aload_n 1, 1) := by decide +kernel
theorem dX0_carryOut_218 : decode cX0_carryOut 218 = .ok (.getfield 52, 3) := by decide +kernel
theorem dX0_carryOut_221 : decode cX0_carryOut 221 = .ok (.iload_n 3, 1) := by decide +kernel
theorem dX0_carryOut_222 : decode cX0_carryOut 222 = .ok (.iload 8, 2) := by decide +kernel
theorem dX0_carryOut_224 : decode cX0_carryOut 224 = .ok (.iastore, 1) := by decide +kernel
theorem dX0_carryOut_225 : decode cX0_carryOut 225 = .ok (.iload_n 2, 1) := by decide +kernel
theorem dX0_carryOut_226 : decode cX0_carryOut 226 = .ok (.iconst 1, 1) := by decide +kernel
theorem dX0_carryOut_227 : decode cX0_carryOut 227 = .ok (.if_icmp .ne 20, 3) := by decide +kernel
theorem dX0_carryOut_230 : decode cX0_carryOut 230 = .ok (.aload_n 1, 1) := by decide +kernel
theorem dX0_carryOut_231 : decode cX0_carryOut 231 = .ok (.getfield 74, 3) := by decide +kernel
theorem dX0_carryOut_234 : decode cX0_carryOut 234 = .ok (.iload_n 3, 1) := by decide +kernel
theorem dX0_carryOut_235 : decode cX0_carryOut 235 = .ok (.aload_n 1, 1) := by decide +kernel
theorem dX0_carryOut_236 : decode cX0_carryOut 236 = .ok (.getfield 74, 3) := by decide +kernel
theorem dX0_carryOut_239 : decode cX0_carryOut 239 = .ok (.iload_n 3, 1) := by decide +kernel
theorem dX0_carryOut_240 : decode cX0_carryOut 240 = .ok (.iaload, 1) := by decide +kernel
theorem dX0_carryOut_241 : decode cX0_carryOut 241 = .ok (.iload 4, 2) := by decide +kernel
theorem dX0_carryOut_243 : decode cX0_carryOut 243 = .ok (.invokestatic 77, 3) := by decide +kernel
theorem dX0_carryOut_246 : decode cX0_carryOut 246 = .ok (.iastore, 1) := by decide +kernel
theorem dX0_carryOut_247 : decode cX0_carryOut 247 = .ok (.iload_n 2, 1) := by decide +kernel
theorem dX0_carryOut_248 : decode cX0_carryOut 248 = .ok (.ifCond .ne 8, 3) := by decide +kernel
theorem dX0_carryOut_251 : decode cX0_carryOut 251 = .ok (.iload 8, 2) := by decide +kernel
theorem dX0_carryOut_253 : decode cX0_carryOut 253 = .ok (.goto 34, 3) := by decide +kernel
theorem dX0_carryOut_256 : decode cX0_carryOut 256 = .ok (.iload_n 2, 1) := by decide +kernel
theorem dX0_carryOut_257 : decode cX0_carryOut 257 = .ok (.iconst 1, 1) := by decide +kernel
theorem dX0_carryOut_258 : decode cX0_carryOut 258 = .ok (.if_icmp .ne 12, 3) := by decide +kernel
theorem dX0_carryOut_261 : decode cX0_carryOut 261 = .ok (.aload_n 1, 1) := by decide +kernel
theorem dX0_carryOut_262 : decode cX0_carryOut 262 = .ok (.getfield 74, 3) := by decide +kernel
theorem dX0_carryOut_265 : decode cX0_carryOut 265 = .ok (.iload_n 3, 1) := by decide +kernel
theorem dX0_carryOut_266 : decode cX0_carryOut 266 = .ok (.iaload, 1) := by decide +kernel
theorem dX0_carryOut_267 : decode cX0_carryOut 267 = .ok (.goto 20, 3) := by decide +kernel
theorem dX0_carryOut_270 : decode cX0_carryOut 270 = .ok (.iload_n 2, 1) := by decide +kernel
theorem dX0_carryOut_271 : decode cX0_carryOut 271 = .ok (.iconst 2, 1) := by decide +kernel
theorem dX0_carryOut_272 : decode cX0_carryOut 272 = .ok (.if_icmp .ne 13, 3) := by decide +kernel
theorem dX0_carryOut_275 : decode cX0_carryOut 275 = .ok (.aload_n 1, 1) := by decide +kernel
theorem dX0_carryOut_276 : decode cX0_carryOut 276 = .ok (.iload_n 3, 1) := by decide +kernel
theorem dX0_carryOut_277 : decode cX0_carryOut 277 = .ok (.iload 5, 2) := by decide +kernel
theorem dX0_carryOut_279 : decode cX0_carryOut 279 = .ok (.invokevirtual 38, 3) := by decide +kernel
theorem dX0_carryOut_282 : decode cX0_carryOut 282 = .ok (.goto 5, 3) := by decide +kernel
theorem dX0_carryOut_285 : decode cX0_carryOut 285 = .ok (.iload 6, 2) := by decide +kernel
theorem dX0_carryOut_287 : decode cX0_carryOut 287 = .ok (.ireturn, 1) := by decide +kernel
def D_X0_carryOut_247 (h : z_H) (l1 : Option Nat) (l2 : Int32) (l3 : Int32) (l5 : Int32) (l6 : Int32) (l8 : Int32) : Option (Int32 × z_H) :=
  if l2 = 0 then
    some (l8, h)
  else
    if l2 = (1:Int32) then
      (z_gQ 9 h l1 1).bind fun x728 =>
      (z_aI .int h x728 l3).bind fun x729 =>
      some (x729, h)
    else
      if l2 = (2:Int32) then
        (z_ob 9 h l1).bind fun _ =>
        (D_X9_wornAt  h l1 l3 l5).bind fun p726 =>
        some (p726.1, p726.2)
      else
        some (l6, h)
set_option maxRecDepth 100000 in
set_option maxHeartbeats 4000000 in
theorem S_X0_carryOut_247 {G : z_G} {l : Launch}  {h : z_H} {l1 : Option Nat} {l2 : Int32} {l3 : Int32} {l5 : Int32} {l6 : Int32} {l8 : Int32} {res : (Int32 × z_H)} (e : D_X0_carryOut_247  h l1 l2 l3 l5 l6 l8 = some res) : z_Run G l 8 M_X0_carryOut 247 [(1, z_r l1), (2, .int l2), (3, .int l3), (5, .int l5), (6, .int l6), (8, .int l8)] [] h res.2 (some (.int res.1)) := by
  unfold D_X0_carryOut_247 at e
  refine z_iload_n 1 dX0_carryOut_247 rfl ?_
  refine z_if_ne (tgt := 256) dX0_carryOut_248 (by decide) (fun c723 => ?_) (fun c723 => ?_)
  · rw [if_neg c723] at e
    refine z_iload_n 1 dX0_carryOut_256 rfl ?_
    refine z_iconst (v := 1) dX0_carryOut_257 (by decide) ?_
    refine z_icmp_ne (tgt := 270) dX0_carryOut_258 (by decide) (fun c724 => ?_) (fun c724 => ?_)
    · rw [if_neg c724] at e
      refine z_iload_n 1 dX0_carryOut_270 rfl ?_
      refine z_iconst (v := 2) dX0_carryOut_271 (by decide) ?_
      refine z_icmp_ne (tgt := 285) dX0_carryOut_272 (by decide) (fun c725 => ?_) (fun c725 => ?_)
      · rw [if_neg c725] at e
        refine z_iload 4 dX0_carryOut_285 rfl ?_
        cases e
        exact z_iret dX0_carryOut_287 rfl
      · rw [if_pos c725] at e
        refine z_aload_n 0 dX0_carryOut_275 rfl ?_
        refine z_iload_n 2 dX0_carryOut_276 rfl ?_
        refine z_iload 3 dX0_carryOut_277 rfl ?_
        replace e := z_bd e; obtain ⟨o727, eo727, e⟩ := e
        replace e := z_bd e; obtain ⟨p726, ep726, e⟩ := e
        refine z_cV [.int l3, .int l5] (S_X9_wornAt  ep726) eo727 rfl ml_X0_38 ck_X9_wornAt vk_X9_wornAt dX0_carryOut_279 (by decide) rfl (Nat.zero_le _) rfl ?_
        refine z_goto (tgt := 287) dX0_carryOut_282 (by decide) ?_
        cases e
        exact z_iret dX0_carryOut_287 rfl
    · rw [if_pos c724] at e
      refine z_aload_n 0 dX0_carryOut_261 rfl ?_
      replace e := z_bd e; obtain ⟨x728, ex728, e⟩ := e
      refine z_getQ ex728 lk_X0_74 dX0_carryOut_262 ?_
      refine z_iload_n 2 dX0_carryOut_265 rfl ?_
      replace e := z_bd e; obtain ⟨x729, ex729, e⟩ := e
      refine z_iald ex729 dX0_carryOut_266 ?_
      refine z_goto (tgt := 287) dX0_carryOut_267 (by decide) ?_
      cases e
      exact z_iret dX0_carryOut_287 rfl
  · rw [if_pos c723] at e
    refine z_iload 5 dX0_carryOut_251 rfl ?_
    refine z_goto (tgt := 287) dX0_carryOut_253 (by decide) ?_
    cases e
    exact z_iret dX0_carryOut_287 rfl
def D_X0_carryOut_197 (h : z_H) (l1 : Option Nat) (l2 : Int32) (l3 : Int32) (l4 : Int32) (l5 : Int32) (l6 : Int32) (l8 : Int32) (s0 : Int32) : Option (Int32 × z_H) :=
  (z_gQ 9 h l1 3).bind fun x730 =>
  (some (if s0 < (99:Int32) then s0 else (99:Int32))).bind fun x731 =>
  (z_sI h x730 ((l3 * (4:Int32)) + l5) x731).bind fun h732 =>
  (z_gQ 9 h732 l1 0).bind fun x733 =>
  (z_sI h732 x733 l3 l8).bind fun h734 =>
  if l2 = (1:Int32) then
    (z_gQ 9 h734 l1 1).bind fun x736 =>
    (z_gQ 9 h734 l1 1).bind fun x737 =>
    (z_aI .int h734 x737 l3).bind fun x738 =>
    (D_X10_turned  h734 x738 l4).bind fun p739 =>
    (z_sI p739.2 x736 l3 p739.1).bind fun h740 =>
    D_X0_carryOut_247   h740 l1 l2 l3 l5 l6 l8
  else
    D_X0_carryOut_247   h734 l1 l2 l3 l5 l6 l8
set_option maxRecDepth 100000 in
set_option maxHeartbeats 4000000 in
theorem S_X0_carryOut_197 {G : z_G} {l : Launch}  {h : z_H} {l1 : Option Nat} {l2 : Int32} {l3 : Int32} {l4 : Int32} {l5 : Int32} {l6 : Int32} {l8 : Int32} {s0 : Int32} {res : (Int32 × z_H)} (e : D_X0_carryOut_197  h l1 l2 l3 l4 l5 l6 l8 s0 = some res) : z_Run G l 8 M_X0_carryOut 197 [(1, z_r l1), (2, .int l2), (3, .int l3), (4, .int l4), (5, .int l5), (6, .int l6), (8, .int l8)] [.int s0] h res.2 (some (.int res.1)) := by
  unfold D_X0_carryOut_197 at e
  refine z_istore (L' := [(9, .int s0), (1, z_r l1), (2, .int l2), (3, .int l3), (4, .int l4), (5, .int l5), (6, .int l6), (8, .int l8)]) dX0_carryOut_197 (by decide) rfl ?_
  refine z_aload_n 1 dX0_carryOut_199 rfl ?_
  replace e := z_bd e; obtain ⟨x730, ex730, e⟩ := e
  refine z_getQ ex730 lk_X0_66 dX0_carryOut_200 ?_
  refine z_iload_n 3 dX0_carryOut_203 rfl ?_
  refine z_iconst (v := 4) dX0_carryOut_204 (by decide) ?_
  refine z_imul dX0_carryOut_205 ?_
  refine z_iload 5 dX0_carryOut_206 rfl ?_
  refine z_iadd dX0_carryOut_208 ?_
  refine z_bipush (v := 99) dX0_carryOut_209 (by decide) ?_
  refine z_iload 0 dX0_carryOut_211 rfl ?_
  refine z_mmin ml_X0_69 z_mw_min (by decide) (by simp [z_ci, z_cj, z_cr, z_cx]) dX0_carryOut_213 ?_
  replace e := z_bd e; obtain ⟨x731, ex731, e⟩ := e
  refine z_topI ex731 ?_
  replace e := z_bd e; obtain ⟨h732, eh732, e⟩ := e
  refine z_iast eh732 dX0_carryOut_216 ?_
  refine z_aload_n 1 dX0_carryOut_217 rfl ?_
  replace e := z_bd e; obtain ⟨x733, ex733, e⟩ := e
  refine z_getQ ex733 lk_X0_52 dX0_carryOut_218 ?_
  refine z_iload_n 3 dX0_carryOut_221 rfl ?_
  refine z_iload 7 dX0_carryOut_222 rfl ?_
  replace e := z_bd e; obtain ⟨h734, eh734, e⟩ := e
  refine z_iast eh734 dX0_carryOut_224 ?_
  refine z_iload_n 2 dX0_carryOut_225 rfl ?_
  refine z_iconst (v := 1) dX0_carryOut_226 (by decide) ?_
  refine z_icmp_ne (tgt := 247) dX0_carryOut_227 (by decide) (fun c735 => ?_) (fun c735 => ?_)
  · rw [if_neg c735] at e
    exact z_weak [1, 2, 3, 5, 6, 7] rfl (S_X0_carryOut_247   e)
  · rw [if_pos c735] at e
    refine z_aload_n 1 dX0_carryOut_230 rfl ?_
    replace e := z_bd e; obtain ⟨x736, ex736, e⟩ := e
    refine z_getQ ex736 lk_X0_74 dX0_carryOut_231 ?_
    refine z_iload_n 3 dX0_carryOut_234 rfl ?_
    refine z_aload_n 1 dX0_carryOut_235 rfl ?_
    replace e := z_bd e; obtain ⟨x737, ex737, e⟩ := e
    refine z_getQ ex737 lk_X0_74 dX0_carryOut_236 ?_
    refine z_iload_n 3 dX0_carryOut_239 rfl ?_
    replace e := z_bd e; obtain ⟨x738, ex738, e⟩ := e
    refine z_iald ex738 dX0_carryOut_240 ?_
    refine z_iload 4 dX0_carryOut_241 rfl ?_
    replace e := z_bd e; obtain ⟨p739, ep739, e⟩ := e
    refine z_cSN (host := "SoleReader") [.int x738, .int l4] (S_X10_turned  ep739) (by decide +kernel) ck_X10_turned st_X10_turned dX0_carryOut_243 (by decide) rfl (by simp [z_ci, z_cj, z_cr, z_cx]) rfl ?_
    replace e := z_bd e; obtain ⟨h740, eh740, e⟩ := e
    refine z_iast eh740 dX0_carryOut_246 ?_
    exact z_weak [1, 2, 3, 5, 6, 7] rfl (S_X0_carryOut_247   e)
def D_X0_carryOut_156 (h : z_H) (l0 : Option Nat) (l1 : Option Nat) (l2 : Int32) (l3 : Int32) (l4 : Int32) (l5 : Int32) (l6 : Int32) (l7 : Int32) (l8 : Int32) : Option (Int32 × z_H) :=
  if l2 = (3:Int32) then
    (z_gQ 0 h l0 0).bind fun x747 =>
    (z_ob 1 h x747).bind fun _ =>
    (D_X1_leaves  h x747 l1 l3 l5).bind fun p748 =>
    D_X0_carryOut_197   p748.2 l1 l2 l3 l4 l5 l6 l8 p748.1
  else
    (z_gQ 0 h l0 0).bind fun x742 =>
    (z_ob 9 h l1).bind fun _ =>
    (D_X9_lawInForce  h l1).bind fun p743 =>
    (z_ob 1 p743.2 x742).bind fun _ =>
    (D_X1_wears  p743.2 x742 l1 p743.1 l3 l5 l6 l7).bind fun p745 =>
    D_X0_carryOut_197   p745.2 l1 l2 l3 l4 l5 l6 l8 (l6 + p745.1)
set_option maxRecDepth 100000 in
set_option maxHeartbeats 4000000 in
theorem S_X0_carryOut_156 {G : z_G} {l : Launch}  {h : z_H} {l0 : Option Nat} {l1 : Option Nat} {l2 : Int32} {l3 : Int32} {l4 : Int32} {l5 : Int32} {l6 : Int32} {l7 : Int32} {l8 : Int32} {res : (Int32 × z_H)} (e : D_X0_carryOut_156  h l0 l1 l2 l3 l4 l5 l6 l7 l8 = some res) : z_Run G l 8 M_X0_carryOut 156 [(0, z_r l0), (1, z_r l1), (2, .int l2), (3, .int l3), (4, .int l4), (5, .int l5), (6, .int l6), (7, .int l7), (8, .int l8)] [] h res.2 (some (.int res.1)) := by
  unfold D_X0_carryOut_156 at e
  refine z_iload_n 2 dX0_carryOut_156 rfl ?_
  refine z_iconst (v := 3) dX0_carryOut_157 (by decide) ?_
  refine z_icmp_ne (tgt := 175) dX0_carryOut_158 (by decide) (fun c741 => ?_) (fun c741 => ?_)
  · rw [if_neg c741] at e
    refine z_iload 6 dX0_carryOut_175 rfl ?_
    refine z_aload_n 0 dX0_carryOut_177 rfl ?_
    replace e := z_bd e; obtain ⟨x742, ex742, e⟩ := e
    refine z_getQ ex742 lk_X0_17 dX0_carryOut_178 ?_
    refine z_aload_n 1 dX0_carryOut_181 rfl ?_
    refine z_aload_n 1 dX0_carryOut_182 rfl ?_
    replace e := z_bd e; obtain ⟨o744, eo744, e⟩ := e
    replace e := z_bd e; obtain ⟨p743, ep743, e⟩ := e
    refine z_cV [] (S_X9_lawInForce  ep743) eo744 rfl ml_X0_58 ck_X9_lawInForce vk_X9_lawInForce dX0_carryOut_183 (by decide) rfl (by simp [z_ci, z_cj, z_cr, z_cx]) rfl ?_
    refine z_iload_n 3 dX0_carryOut_186 rfl ?_
    refine z_iload 5 dX0_carryOut_187 rfl ?_
    refine z_iload 6 dX0_carryOut_189 rfl ?_
    refine z_iload 7 dX0_carryOut_191 rfl ?_
    replace e := z_bd e; obtain ⟨o746, eo746, e⟩ := e
    replace e := z_bd e; obtain ⟨p745, ep745, e⟩ := e
    refine z_cV [z_r l1, z_r p743.1, .int l3, .int l5, .int l6, .int l7] (S_X1_wears  ep745) eo746 rfl ml_X0_62 ck_X1_wears vk_X1_wears dX0_carryOut_193 (by decide) rfl (by simp [z_ci, z_cj, z_cr, z_cx]) rfl ?_
    refine z_iadd dX0_carryOut_196 ?_
    exact z_weak [1, 2, 3, 4, 5, 6, 8] rfl (S_X0_carryOut_197   e)
  · rw [if_pos c741] at e
    refine z_aload_n 0 dX0_carryOut_161 rfl ?_
    replace e := z_bd e; obtain ⟨x747, ex747, e⟩ := e
    refine z_getQ ex747 lk_X0_17 dX0_carryOut_162 ?_
    refine z_aload_n 1 dX0_carryOut_165 rfl ?_
    refine z_iload_n 3 dX0_carryOut_166 rfl ?_
    refine z_iload 5 dX0_carryOut_167 rfl ?_
    replace e := z_bd e; obtain ⟨o749, eo749, e⟩ := e
    replace e := z_bd e; obtain ⟨p748, ep748, e⟩ := e
    refine z_cV [z_r l1, .int l3, .int l5] (S_X1_leaves  ep748) eo749 rfl ml_X0_55 ck_X1_leaves vk_X1_leaves dX0_carryOut_169 (by decide) rfl (Nat.zero_le _) rfl ?_
    refine z_goto (tgt := 197) dX0_carryOut_172 (by decide) ?_
    exact z_weak [1, 2, 3, 4, 5, 6, 8] rfl (S_X0_carryOut_197   e)
def D_X0_carryOut_135 (h : z_H) (l0 : Option Nat) (l1 : Option Nat) (l2 : Int32) (l3 : Int32) (l4 : Int32) (l5 : Int32) (l6 : Int32) (l7 : Int32) (s0 : Int32) : Option (Int32 × z_H) :=
  if s0 = (-1:Int32) then
    some ((-3:Int32), h)
  else
    if l2 = (3:Int32) then
      if l6 = 0 then
        some ((-3:Int32), h)
      else
        D_X0_carryOut_156   h l0 l1 l2 l3 l4 l5 l6 l7 s0
    else
      D_X0_carryOut_156   h l0 l1 l2 l3 l4 l5 l6 l7 s0
set_option maxRecDepth 100000 in
set_option maxHeartbeats 4000000 in
theorem S_X0_carryOut_135 {G : z_G} {l : Launch}  {h : z_H} {l0 : Option Nat} {l1 : Option Nat} {l2 : Int32} {l3 : Int32} {l4 : Int32} {l5 : Int32} {l6 : Int32} {l7 : Int32} {s0 : Int32} {res : (Int32 × z_H)} (e : D_X0_carryOut_135  h l0 l1 l2 l3 l4 l5 l6 l7 s0 = some res) : z_Run G l 8 M_X0_carryOut 135 [(0, z_r l0), (1, z_r l1), (2, .int l2), (3, .int l3), (4, .int l4), (5, .int l5), (6, .int l6), (7, .int l7)] [.int s0] h res.2 (some (.int res.1)) := by
  unfold D_X0_carryOut_135 at e
  refine z_istore (L' := [(8, .int s0), (0, z_r l0), (1, z_r l1), (2, .int l2), (3, .int l3), (4, .int l4), (5, .int l5), (6, .int l6), (7, .int l7)]) dX0_carryOut_135 (by decide) rfl ?_
  refine z_iload 0 dX0_carryOut_137 rfl ?_
  refine z_iconst (v := -1) dX0_carryOut_139 (by decide) ?_
  refine z_icmp_eq (tgt := 153) dX0_carryOut_140 (by decide) (fun c750 => ?_) (fun c750 => ?_)
  · rw [if_pos c750] at e
    refine z_bipush (v := -3) dX0_carryOut_153 (by decide) ?_
    cases e
    exact z_iret dX0_carryOut_155 rfl
  · rw [if_neg c750] at e
    refine z_iload_n 3 dX0_carryOut_143 rfl ?_
    refine z_iconst (v := 3) dX0_carryOut_144 (by decide) ?_
    refine z_icmp_ne (tgt := 156) dX0_carryOut_145 (by decide) (fun c751 => ?_) (fun c751 => ?_)
    · rw [if_neg c751] at e
      exact z_weak [1, 2, 3, 4, 5, 6, 7, 8, 0] rfl (S_X0_carryOut_156   e)
    · rw [if_pos c751] at e
      refine z_iload 7 dX0_carryOut_148 rfl ?_
      refine z_if_ne (tgt := 156) dX0_carryOut_150 (by decide) (fun c752 => ?_) (fun c752 => ?_)
      · rw [if_neg c752] at e
        exact z_weak [1, 2, 3, 4, 5, 6, 7, 8, 0] rfl (S_X0_carryOut_156   e)
      · rw [if_pos c752] at e
        refine z_bipush (v := -3) dX0_carryOut_153 (by decide) ?_
        cases e
        exact z_iret dX0_carryOut_155 rfl
def D_X0_carryOut_84 (h : z_H) (l0 : Option Nat) (l1 : Option Nat) (l2 : Int32) (l3 : Int32) (l4 : Int32) (s0 : Int32) : Option (Int32 × z_H) :=
  (z_ob 0 h l0).bind fun _ =>
  (D_X0_remember  h l0 l1 l2 l3 s0).bind fun p753 =>
  (z_ob 9 p753 l1).bind fun _ =>
  (D_X9_wornAt  p753 l1 l3 s0).bind fun p755 =>
  (z_ob 9 p755.2 l1).bind fun _ =>
  (D_X9_placeOf  p755.2 l1 l3).bind fun p757 =>
  if l2 = 0 then
    (z_gQ 0 p757.2 l0 0).bind fun x762 =>
    (z_ob 1 p757.2 x762).bind fun _ =>
    (D_X1_target  p757.2 x762 l1 l3 p757.1).bind fun p763 =>
    D_X0_carryOut_135   p763.2 l0 l1 l2 l3 l4 s0 p755.1 p757.1 p763.1
  else
    (z_gQ 9 p757.2 l1 0).bind fun x760 =>
    (z_aI .int p757.2 x760 l3).bind fun x761 =>
    D_X0_carryOut_135   p757.2 l0 l1 l2 l3 l4 s0 p755.1 p757.1 x761
set_option maxRecDepth 100000 in
set_option maxHeartbeats 4000000 in
theorem S_X0_carryOut_84 {G : z_G} {l : Launch}  {h : z_H} {l0 : Option Nat} {l1 : Option Nat} {l2 : Int32} {l3 : Int32} {l4 : Int32} {s0 : Int32} {res : (Int32 × z_H)} (e : D_X0_carryOut_84  h l0 l1 l2 l3 l4 s0 = some res) : z_Run G l 8 M_X0_carryOut 84 [(0, z_r l0), (1, z_r l1), (2, .int l2), (3, .int l3), (4, .int l4)] [.int s0] h res.2 (some (.int res.1)) := by
  unfold D_X0_carryOut_84 at e
  refine z_istore (L' := [(5, .int s0), (0, z_r l0), (1, z_r l1), (2, .int l2), (3, .int l3), (4, .int l4)]) dX0_carryOut_84 (by decide) rfl ?_
  refine z_aload_n 1 dX0_carryOut_86 rfl ?_
  refine z_aload_n 2 dX0_carryOut_87 rfl ?_
  refine z_iload_n 3 dX0_carryOut_88 rfl ?_
  refine z_iload_n 4 dX0_carryOut_89 rfl ?_
  refine z_iload 0 dX0_carryOut_90 rfl ?_
  replace e := z_bd e; obtain ⟨o754, eo754, e⟩ := e
  replace e := z_bd e; obtain ⟨p753, ep753, e⟩ := e
  refine z_cV [z_r l1, .int l2, .int l3, .int s0] (S_X0_remember  ep753) eo754 rfl ml_X0_34 ck_X0_remember vk_X0_remember dX0_carryOut_92 (by decide) rfl (Nat.zero_le _) rfl ?_
  refine z_aload_n 2 dX0_carryOut_95 rfl ?_
  refine z_iload_n 4 dX0_carryOut_96 rfl ?_
  refine z_iload 0 dX0_carryOut_97 rfl ?_
  replace e := z_bd e; obtain ⟨o756, eo756, e⟩ := e
  replace e := z_bd e; obtain ⟨p755, ep755, e⟩ := e
  refine z_cV [.int l3, .int s0] (S_X9_wornAt  ep755) eo756 rfl ml_X0_38 ck_X9_wornAt vk_X9_wornAt dX0_carryOut_99 (by decide) rfl (Nat.zero_le _) rfl ?_
  refine z_istore (L' := [(6, .int p755.1), (5, .int s0), (0, z_r l0), (1, z_r l1), (2, .int l2), (3, .int l3), (4, .int l4)]) dX0_carryOut_102 (by decide) rfl ?_
  refine z_aload_n 3 dX0_carryOut_104 rfl ?_
  refine z_iload_n 5 dX0_carryOut_105 rfl ?_
  replace e := z_bd e; obtain ⟨o758, eo758, e⟩ := e
  replace e := z_bd e; obtain ⟨p757, ep757, e⟩ := e
  refine z_cV [.int l3] (S_X9_placeOf  ep757) eo758 rfl ml_X0_42 ck_X9_placeOf vk_X9_placeOf dX0_carryOut_106 (by decide) rfl (Nat.zero_le _) rfl ?_
  refine z_istore (L' := [(7, .int p757.1), (6, .int p755.1), (5, .int s0), (0, z_r l0), (1, z_r l1), (2, .int l2), (3, .int l3), (4, .int l4)]) dX0_carryOut_109 (by decide) rfl ?_
  refine z_iload_n 5 dX0_carryOut_111 rfl ?_
  refine z_if_ne (tgt := 129) dX0_carryOut_112 (by decide) (fun c759 => ?_) (fun c759 => ?_)
  · rw [if_neg c759] at e
    refine z_aload_n 4 dX0_carryOut_129 rfl ?_
    replace e := z_bd e; obtain ⟨x760, ex760, e⟩ := e
    refine z_getQ ex760 lk_X0_52 dX0_carryOut_130 ?_
    refine z_iload_n 6 dX0_carryOut_133 rfl ?_
    replace e := z_bd e; obtain ⟨x761, ex761, e⟩ := e
    refine z_iald ex761 dX0_carryOut_134 ?_
    exact z_weak [3, 4, 5, 6, 7, 2, 1, 0] rfl (S_X0_carryOut_135   e)
  · rw [if_pos c759] at e
    refine z_aload_n 3 dX0_carryOut_115 rfl ?_
    replace e := z_bd e; obtain ⟨x762, ex762, e⟩ := e
    refine z_getQ ex762 lk_X0_17 dX0_carryOut_116 ?_
    refine z_aload_n 4 dX0_carryOut_119 rfl ?_
    refine z_iload_n 6 dX0_carryOut_120 rfl ?_
    refine z_iload 0 dX0_carryOut_121 rfl ?_
    replace e := z_bd e; obtain ⟨o764, eo764, e⟩ := e
    replace e := z_bd e; obtain ⟨p763, ep763, e⟩ := e
    refine z_cV [z_r l1, .int l3, .int p757.1] (S_X1_target  ep763) eo764 rfl ml_X0_46 ck_X1_target vk_X1_target dX0_carryOut_123 (by decide) rfl (Nat.zero_le _) rfl ?_
    refine z_goto (tgt := 135) dX0_carryOut_126 (by decide) ?_
    exact z_weak [3, 4, 5, 6, 7, 2, 1, 0] rfl (S_X0_carryOut_135   e)
def D_X0_carryOut_31 (h : z_H) (l0 : Option Nat) (l1 : Option Nat) (l2 : Int32) (l3 : Int32) (l4 : Int32) : Option (Int32 × z_H) :=
  if l2 = (4:Int32) then
    (z_ob 0 h l0).bind fun _ =>
    (D_X0_passDay  h l0 l1).bind fun p772 =>
    some (p772.1, p772.2)
  else
    (z_ob 9 h l1).bind fun _ =>
    (D_X9_hasPair  h l1 l3).bind fun p766 =>
    if p766.1 = 0 then
      some ((-2:Int32), p766.2)
    else
      if l2 = 0 then
        D_X0_carryOut_84   p766.2 l0 l1 l2 l3 l4 (0:Int32)
      else
        if l2 = (1:Int32) then
          D_X0_carryOut_84   p766.2 l0 l1 l2 l3 l4 ((2:Int32) + l4)
        else
          if l2 = (2:Int32) then
            D_X0_carryOut_84   p766.2 l0 l1 l2 l3 l4 (1:Int32)
          else
            D_X0_carryOut_84   p766.2 l0 l1 l2 l3 l4 l4
set_option maxRecDepth 100000 in
set_option maxHeartbeats 4000000 in
theorem S_X0_carryOut_31 {G : z_G} {l : Launch}  {h : z_H} {l0 : Option Nat} {l1 : Option Nat} {l2 : Int32} {l3 : Int32} {l4 : Int32} {res : (Int32 × z_H)} (e : D_X0_carryOut_31  h l0 l1 l2 l3 l4 = some res) : z_Run G l 8 M_X0_carryOut 31 [(0, z_r l0), (1, z_r l1), (2, .int l2), (3, .int l3), (4, .int l4)] [] h res.2 (some (.int res.1)) := by
  unfold D_X0_carryOut_31 at e
  refine z_iload_n 2 dX0_carryOut_31 rfl ?_
  refine z_iconst (v := 4) dX0_carryOut_32 (by decide) ?_
  refine z_icmp_ne (tgt := 42) dX0_carryOut_33 (by decide) (fun c765 => ?_) (fun c765 => ?_)
  · rw [if_neg c765] at e
    refine z_aload_n 1 dX0_carryOut_42 rfl ?_
    refine z_iload_n 3 dX0_carryOut_43 rfl ?_
    replace e := z_bd e; obtain ⟨o767, eo767, e⟩ := e
    replace e := z_bd e; obtain ⟨p766, ep766, e⟩ := e
    refine z_cV [.int l3] (S_X9_hasPair  ep766) eo767 rfl ml_X0_29 ck_X9_hasPair vk_X9_hasPair dX0_carryOut_44 (by decide) rfl (Nat.zero_le _) rfl ?_
    refine z_if_ne (tgt := 53) dX0_carryOut_47 (by decide) (fun c768 => ?_) (fun c768 => ?_)
    · rw [if_neg c768] at e
      refine z_iload_n 2 dX0_carryOut_53 rfl ?_
      refine z_if_ne (tgt := 61) dX0_carryOut_54 (by decide) (fun c769 => ?_) (fun c769 => ?_)
      · rw [if_neg c769] at e
        refine z_iload_n 2 dX0_carryOut_61 rfl ?_
        refine z_iconst (v := 1) dX0_carryOut_62 (by decide) ?_
        refine z_icmp_ne (tgt := 73) dX0_carryOut_63 (by decide) (fun c770 => ?_) (fun c770 => ?_)
        · rw [if_neg c770] at e
          refine z_iload_n 2 dX0_carryOut_73 rfl ?_
          refine z_iconst (v := 2) dX0_carryOut_74 (by decide) ?_
          refine z_icmp_ne (tgt := 82) dX0_carryOut_75 (by decide) (fun c771 => ?_) (fun c771 => ?_)
          · rw [if_neg c771] at e
            refine z_iload 4 dX0_carryOut_82 rfl ?_
            exact z_weak [0, 1, 2, 3, 4] rfl (S_X0_carryOut_84   e)
          · rw [if_pos c771] at e
            refine z_iconst (v := 1) dX0_carryOut_78 (by decide) ?_
            refine z_goto (tgt := 84) dX0_carryOut_79 (by decide) ?_
            exact z_weak [0, 1, 2, 3, 4] rfl (S_X0_carryOut_84   e)
        · rw [if_pos c770] at e
          refine z_iconst (v := 2) dX0_carryOut_66 (by decide) ?_
          refine z_iload 4 dX0_carryOut_67 rfl ?_
          refine z_iadd dX0_carryOut_69 ?_
          refine z_goto (tgt := 84) dX0_carryOut_70 (by decide) ?_
          exact z_weak [0, 1, 2, 3, 4] rfl (S_X0_carryOut_84   e)
      · rw [if_pos c769] at e
        refine z_iconst (v := 0) dX0_carryOut_57 (by decide) ?_
        refine z_goto (tgt := 84) dX0_carryOut_58 (by decide) ?_
        exact z_weak [0, 1, 2, 3, 4] rfl (S_X0_carryOut_84   e)
    · rw [if_pos c768] at e
      refine z_bipush (v := -2) dX0_carryOut_50 (by decide) ?_
      cases e
      exact z_iret dX0_carryOut_52 rfl
  · rw [if_pos c765] at e
    refine z_aload_n 0 dX0_carryOut_36 rfl ?_
    refine z_aload_n 1 dX0_carryOut_37 rfl ?_
    replace e := z_bd e; obtain ⟨o773, eo773, e⟩ := e
    replace e := z_bd e; obtain ⟨p772, ep772, e⟩ := e
    refine z_cV [z_r l1] (S_X0_passDay  ep772) eo773 rfl ml_X0_25 ck_X0_passDay vk_X0_passDay dX0_carryOut_38 (by decide) rfl (Nat.zero_le _) rfl ?_
    cases e
    exact z_iret dX0_carryOut_41 rfl
def D_X0_carryOut_16 (h : z_H) (l0 : Option Nat) (l1 : Option Nat) (l2 : Int32) (l3 : Int32) (l4 : Int32) : Option (Int32 × z_H) :=
  if l2 = (3:Int32) then
    (D_X10_isPart  h l4).bind fun p775 =>
    if p775.1 = 0 then
      some ((-1:Int32), p775.2)
    else
      D_X0_carryOut_31   p775.2 l0 l1 l2 l3 l4
  else
    D_X0_carryOut_31   h l0 l1 l2 l3 l4
set_option maxRecDepth 100000 in
set_option maxHeartbeats 4000000 in
theorem S_X0_carryOut_16 {G : z_G} {l : Launch}  {h : z_H} {l0 : Option Nat} {l1 : Option Nat} {l2 : Int32} {l3 : Int32} {l4 : Int32} {res : (Int32 × z_H)} (e : D_X0_carryOut_16  h l0 l1 l2 l3 l4 = some res) : z_Run G l 8 M_X0_carryOut 16 [(0, z_r l0), (1, z_r l1), (2, .int l2), (3, .int l3), (4, .int l4)] [] h res.2 (some (.int res.1)) := by
  unfold D_X0_carryOut_16 at e
  refine z_iload_n 2 dX0_carryOut_16 rfl ?_
  refine z_iconst (v := 3) dX0_carryOut_17 (by decide) ?_
  refine z_icmp_ne (tgt := 31) dX0_carryOut_18 (by decide) (fun c774 => ?_) (fun c774 => ?_)
  · rw [if_neg c774] at e
    exact z_weak [0, 1, 2, 3, 4] rfl (S_X0_carryOut_31   e)
  · rw [if_pos c774] at e
    refine z_iload 4 dX0_carryOut_21 rfl ?_
    replace e := z_bd e; obtain ⟨p775, ep775, e⟩ := e
    refine z_cSN (host := "SoleReader") [.int l4] (S_X10_isPart  ep775) (by decide +kernel) ck_X10_isPart st_X10_isPart dX0_carryOut_23 (by decide) rfl (Nat.zero_le _) rfl ?_
    refine z_if_ne (tgt := 31) dX0_carryOut_26 (by decide) (fun c776 => ?_) (fun c776 => ?_)
    · rw [if_neg c776] at e
      exact z_weak [0, 1, 2, 3, 4] rfl (S_X0_carryOut_31   e)
    · rw [if_pos c776] at e
      refine z_iconst (v := -1) dX0_carryOut_29 (by decide) ?_
      cases e
      exact z_iret dX0_carryOut_30 rfl
def D_X0_carryOut (h : z_H) (l0 : Option Nat) (l1 : Option Nat) (l2 : Int32) (l3 : Int32) (l4 : Int32) : Option (Int32 × z_H) :=
  if l2 = (1:Int32) then
    if l4 < 0 then
      some ((-1:Int32), h)
    else
      if (1:Int32) < l4 then
        some ((-1:Int32), h)
      else
        D_X0_carryOut_16   h l0 l1 l2 l3 l4
  else
    D_X0_carryOut_16   h l0 l1 l2 l3 l4
set_option maxRecDepth 100000 in
set_option maxHeartbeats 4000000 in
theorem S_X0_carryOut {G : z_G} {l : Launch} {h : z_H} {l0 : Option Nat} {l1 : Option Nat} {l2 : Int32} {l3 : Int32} {l4 : Int32} {res : (Int32 × z_H)} (e : D_X0_carryOut h l0 l1 l2 l3 l4 = some res) : z_Meth G l 8 M_X0_carryOut [z_r l0, z_r l1, .int l2, .int l3, .int l4] h res.2 (some (.int res.1)) := by
  refine z_Meth.of ck_X0_carryOut.2.2.2.2 (by simp [lg_sl, z_ci, z_cj, z_cr, z_cx]) ck_X0_carryOut.1 ?_
  rw [show lv_args 0 [z_r l0, z_r l1, .int l2, .int l3, .int l4] = [(0, z_r l0), (1, z_r l1), (2, .int l2), (3, .int l3), (4, .int l4)] from by simp [lv_args, z_ci, z_cj, z_cr, z_cx]]
  unfold D_X0_carryOut at e
  refine z_iload_n 2 dX0_carryOut_0 rfl ?_
  refine z_iconst (v := 1) dX0_carryOut_1 (by decide) ?_
  refine z_icmp_ne (tgt := 16) dX0_carryOut_2 (by decide) (fun c777 => ?_) (fun c777 => ?_)
  · rw [if_neg c777] at e
    exact z_weak [0, 1, 2, 3, 4] rfl (S_X0_carryOut_16   e)
  · rw [if_pos c777] at e
    refine z_iload 4 dX0_carryOut_5 rfl ?_
    refine z_if_lt (tgt := 29) dX0_carryOut_7 (by decide) (fun c778 => ?_) (fun c778 => ?_)
    · rw [if_pos c778] at e
      refine z_iconst (v := -1) dX0_carryOut_29 (by decide) ?_
      cases e
      exact z_iret dX0_carryOut_30 rfl
    · rw [if_neg c778] at e
      refine z_iload 4 dX0_carryOut_10 rfl ?_
      refine z_iconst (v := 1) dX0_carryOut_12 (by decide) ?_
      refine z_icmp_gt (tgt := 29) dX0_carryOut_13 (by decide) (fun c779 => ?_) (fun c779 => ?_)
      · rw [if_pos c779] at e
        refine z_iconst (v := -1) dX0_carryOut_29 (by decide) ?_
        cases e
        exact z_iret dX0_carryOut_30 rfl
      · rw [if_neg c779] at e
        exact z_weak [0, 1, 2, 3, 4] rfl (S_X0_carryOut_16   e)
