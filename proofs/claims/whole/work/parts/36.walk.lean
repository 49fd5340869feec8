theorem dX10_of_0 : decode cX10_of 0 = .ok (.aload_n 0, 1) := by decide +kernel
theorem dX10_of_1 : decode cX10_of 1 = .ok (.getfield 12, 3) := by decide +kernel
theorem dX10_of_4 : decode cX10_of 4 = .ok (.iload_n 1, 1) := by decide +kernel
theorem dX10_of_5 : decode cX10_of 5 = .ok (.invokevirtual 121, 3) := by decide +kernel
theorem dX10_of_8 : decode cX10_of 8 = .ok (.ifCond .ne 5, 3) := by decide +kernel
theorem dX10_of_11 : decode cX10_of 11 = .ok (.iconst (-1), 1) := by decide +kernel
theorem dX10_of_12 : decode cX10_of 12 = .ok (.ireturn, 1) := by decide +kernel
theorem dX10_of_13 : decode cX10_of 13 = .ok (.iload_n 2, 1) := by decide +kernel
theorem dX10_of_14 : decode cX10_of 14 = .ok (.iconst 3, 1) := by decide +kernel
theorem dX10_of_15 : decode cX10_of 15 = .ok (.if_icmp .lt 21, 3) := by decide +kernel
theorem dX10_of_18 : decode cX10_of 18 = .ok (.iload_n 2, 1) := by decide +kernel
theorem dX10_of_19 : decode cX10_of 19 = .ok (.bipush 7, 2) := by decide +kernel
theorem dX10_of_21 : decode cX10_of 21 = .ok (.if_icmp .ge 15, 3) := by decide +kernel
theorem dX10_of_24 : decode cX10_of 24 = .ok (.aload_n 0, 1) := by decide +kernel
theorem dX10_of_25 : decode cX10_of 25 = .ok (.getfield 12, 3) := by decide +kernel
theorem dX10_of_28 : decode cX10_of 28 = .ok (.iload_n 1, 1) := by decide +kernel
theorem dX10_of_29 : decode cX10_of 29 = .ok (.iload_n 2, 1) := by decide +kernel
theorem dX10_of_30 : decode cX10_of 30 = .ok (.iconst 3, 1) := by decide +kernel
theorem dX10_of_31 : decode cX10_of 31 = .ok (.isub, 1) := by decide +kernel
theorem dX10_of_32 : decode cX10_of 32 = .ok (.invokevirtual 125, 3) := by decide +kernel
theorem dX10_of_35 : decode cX10_of 35 = .ok (.ireturn, 1) := by decide +kernel
theorem dX10_of_36 : decode cX10_of 36 = .ok (.iload_n 2, 1) := by decide +kernel
theorem dX10_of_37 : decode cX10_of 37 = .ok (.tableswitch 98 0 7 #[47, 57, 67, 98, 98, 98, 98, 77], 47) := by decide +kernel
theorem dX10_of_84 : decode cX10_of 84 = .ok (.aload_n 0, 1) := by decide +kernel
theorem dX10_of_85 : decode cX10_of 85 = .ok (.getfield 12, 3) := by decide +kernel
theorem dX10_of_88 : decode cX10_of 88 = .ok (.getfield 129, 3) := by decide +kernel
theorem dX10_of_91 : decode cX10_of 91 = .ok (.iload_n 1, 1) := by decide +kernel
theorem dX10_of_92 : decode cX10_of 92 = .ok (.iaload, 1) := by decide +kernel
theorem dX10_of_93 : decode cX10_of 93 = .ok (.ireturn, 1) := by decide +kernel
theorem dX10_of_94 : decode cX10_of 94 = .ok (.aload_n 0, 1) := by decide +kernel
theorem dX10_of_95 : decode cX10_of 95 = .ok (.getfield 12, 3) := by decide +kernel
theorem dX10_of_98 : decode cX10_of 98 = .ok (.getfield 132, 3) := by decide +kernel
theorem dX10_of_101 : decode cX10_of 101 = .ok (.iload_n 1, 1) := by decide +kernel
theorem dX10_of_102 : decode cX10_of 102 = .ok (.iaload, 1) := by decide +kernel
theorem dX10_of_103 : decode cX10_of 103 = .ok (.ireturn, 1) := by decide +kernel
theorem dX10_of_104 : decode cX10_of 104 = .ok (.aload_n 0, 1) := by decide +kernel
theorem dX10_of_105 : decode cX10_of 105 = .ok (.getfield 12, 3) := by decide +kernel
theorem dX10_of_108 : decode cX10_of 108 = .ok (.getfield 135, 3) := by decide +kernel
theorem dX10_of_111 : decode cX10_of 111 = .ok (.iload_n 1, 1) := by decide +kernel
theorem dX10_of_112 : decode cX10_of 112 = .ok (.iaload, 1) := by decide +kernel
theorem dX10_of_113 : decode cX10_of 113 = .ok (.ireturn, 1) := by decide +kernel
theorem dX10_of_114 : decode cX10_of 114 = .ok (.aload_n 0, 1) := by decide +kernel
theorem dX10_of_115 : decode cX10_of 115 = .ok (.getfield 44, 3) := by decide +kernel
theorem dX10_of_118 : decode cX10_of 118 = .ok (.aload_n 0, 1) := by decide +kernel
theorem dX10_of_119 : decode cX10_of 119 = .ok (.getfield 12, 3) := by decide +kernel
theorem dX10_of_122 : decode cX10_of 122 = .ok (.iload_n 1, 1) := by decide +kernel
theorem dX10_of_123 : decode cX10_of 123 = .ok (.aload_n 0, 1) := by decide +kernel
theorem dX10_of_124 : decode cX10_of 124 = .ok (.getfield 12, 3) := by decide +kernel
theorem dX10_of_127 : decode cX10_of 127 = .ok (.iload_n 1, 1) := by decide +kernel
theorem dX10_of_128 : decode cX10_of 128 = .ok (.invokevirtual 138, 3) := by decide +kernel
theorem dX10_of_131 : decode cX10_of 131 = .ok (.invokevirtual 141, 3) := by decide +kernel
theorem dX10_of_134 : decode cX10_of 134 = .ok (.ireturn, 1) := by decide +kernel
theorem dX10_of_135 : decode cX10_of 135 = .ok (.iconst (-1), 1) := by decide +kernel
theorem dX10_of_136 : decode cX10_of 136 = .ok (.ireturn, 1) := by decide +kernel
def D_X10_of_36 (h : z_H) (l0 : Option Nat) (l1 : Int32) (l2 : Int32) : Option (Int32 × z_H) :=
  if l2 = 0 then
    (z_gQ 10 h l0 0).bind fun x4123 =>
    (z_gQ 9 h x4123 0).bind fun x4124 =>
    (z_aI .int h x4124 l1).bind fun x4125 =>
    some (x4125, h)
  else
  if l2 = 1 then
    (z_gQ 10 h l0 0).bind fun x4127 =>
    (z_gQ 9 h x4127 1).bind fun x4128 =>
    (z_aI .int h x4128 l1).bind fun x4129 =>
    some (x4129, h)
  else
  if l2 = 2 then
    (z_gQ 10 h l0 0).bind fun x4131 =>
    (z_gQ 9 h x4131 2).bind fun x4132 =>
    (z_aI .int h x4132 l1).bind fun x4133 =>
    some (x4133, h)
  else
  if l2 = 3 then
    some ((-1:Int32), h)
  else
  if l2 = 4 then
    some ((-1:Int32), h)
  else
  if l2 = 5 then
    some ((-1:Int32), h)
  else
  if l2 = 6 then
    some ((-1:Int32), h)
  else
  if l2 = 7 then
    (z_gQ 10 h l0 6).bind fun x4139 =>
    (z_gQ 10 h l0 0).bind fun x4140 =>
    (z_gQ 10 h l0 0).bind fun x4141 =>
    (z_ob 9 h x4141).bind fun _ =>
    (D_X9_placeOf  h x4141 l1).bind fun p4142 =>
    (z_ob 1 p4142.2 x4139).bind fun _ =>
    (D_X1_target  p4142.2 x4139 x4140 l1 p4142.1).bind fun p4144 =>
    some (p4144.1, p4144.2)
  else
  some ((-1:Int32), h)
set_option maxRecDepth 100000 in
set_option maxHeartbeats 4000000 in
theorem S_X10_of_36 {G : z_G} {l : Launch}  {h : z_H} {l0 : Option Nat} {l1 : Int32} {l2 : Int32} {res : (Int32 × z_H)} (e : D_X10_of_36  h l0 l1 l2 = some res) : z_Run G l 8 M_X10_of 36 [(0, z_r l0), (1, .int l1), (2, .int l2)] [] h res.2 (some (.int res.1)) := by
  unfold D_X10_of_36 at e
  refine z_iload_n 2 dX10_of_36 rfl ?_
  by_cases c4122 : l2 = 0
  · rw [if_pos c4122] at e
    refine z_tableIn (off := 47) (tgt := 84) dX10_of_37 (by rw [c4122]; decide) (by rw [c4122]; decide) (by rw [c4122]; decide) (by decide) ?_
    refine z_aload_n 0 dX10_of_84 rfl ?_
    replace e := z_bd e; obtain ⟨x4123, ex4123, e⟩ := e
    refine z_getQ ex4123 lk_X10_12 dX10_of_85 ?_
    replace e := z_bd e; obtain ⟨x4124, ex4124, e⟩ := e
    refine z_getQ ex4124 lk_X10_129 dX10_of_88 ?_
    refine z_iload_n 1 dX10_of_91 rfl ?_
    replace e := z_bd e; obtain ⟨x4125, ex4125, e⟩ := e
    refine z_iald ex4125 dX10_of_92 ?_
    cases e
    exact z_iret dX10_of_93 rfl
  rw [if_neg c4122] at e
  by_cases c4126 : l2 = 1
  · rw [if_pos c4126] at e
    refine z_tableIn (off := 57) (tgt := 94) dX10_of_37 (by rw [c4126]; decide) (by rw [c4126]; decide) (by rw [c4126]; decide) (by decide) ?_
    refine z_aload_n 0 dX10_of_94 rfl ?_
    replace e := z_bd e; obtain ⟨x4127, ex4127, e⟩ := e
    refine z_getQ ex4127 lk_X10_12 dX10_of_95 ?_
    replace e := z_bd e; obtain ⟨x4128, ex4128, e⟩ := e
    refine z_getQ ex4128 lk_X10_132 dX10_of_98 ?_
    refine z_iload_n 1 dX10_of_101 rfl ?_
    replace e := z_bd e; obtain ⟨x4129, ex4129, e⟩ := e
    refine z_iald ex4129 dX10_of_102 ?_
    cases e
    exact z_iret dX10_of_103 rfl
  rw [if_neg c4126] at e
  by_cases c4130 : l2 = 2
  · rw [if_pos c4130] at e
    refine z_tableIn (off := 67) (tgt := 104) dX10_of_37 (by rw [c4130]; decide) (by rw [c4130]; decide) (by rw [c4130]; decide) (by decide) ?_
    refine z_aload_n 0 dX10_of_104 rfl ?_
    replace e := z_bd e; obtain ⟨x4131, ex4131, e⟩ := e
    refine z_getQ ex4131 lk_X10_12 dX10_of_105 ?_
    replace e := z_bd e; obtain ⟨x4132, ex4132, e⟩ := e
    refine z_getQ ex4132 lk_X10_135 dX10_of_108 ?_
    refine z_iload_n 1 dX10_of_111 rfl ?_
    replace e := z_bd e; obtain ⟨x4133, ex4133, e⟩ := e
    refine z_iald ex4133 dX10_of_112 ?_
    cases e
    exact z_iret dX10_of_113 rfl
  rw [if_neg c4130] at e
  by_cases c4134 : l2 = 3
  · rw [if_pos c4134] at e
    refine z_tableIn (off := 98) (tgt := 135) dX10_of_37 (by rw [c4134]; decide) (by rw [c4134]; decide) (by rw [c4134]; decide) (by decide) ?_
    refine z_iconst (v := -1) dX10_of_135 (by decide) ?_
    cases e
    exact z_iret dX10_of_136 rfl
  rw [if_neg c4134] at e
  by_cases c4135 : l2 = 4
  · rw [if_pos c4135] at e
    refine z_tableIn (off := 98) (tgt := 135) dX10_of_37 (by rw [c4135]; decide) (by rw [c4135]; decide) (by rw [c4135]; decide) (by decide) ?_
    refine z_iconst (v := -1) dX10_of_135 (by decide) ?_
    cases e
    exact z_iret dX10_of_136 rfl
  rw [if_neg c4135] at e
  by_cases c4136 : l2 = 5
  · rw [if_pos c4136] at e
    refine z_tableIn (off := 98) (tgt := 135) dX10_of_37 (by rw [c4136]; decide) (by rw [c4136]; decide) (by rw [c4136]; decide) (by decide) ?_
    refine z_iconst (v := -1) dX10_of_135 (by decide) ?_
    cases e
    exact z_iret dX10_of_136 rfl
  rw [if_neg c4136] at e
  by_cases c4137 : l2 = 6
  · rw [if_pos c4137] at e
    refine z_tableIn (off := 98) (tgt := 135) dX10_of_37 (by rw [c4137]; decide) (by rw [c4137]; decide) (by rw [c4137]; decide) (by decide) ?_
    refine z_iconst (v := -1) dX10_of_135 (by decide) ?_
    cases e
    exact z_iret dX10_of_136 rfl
  rw [if_neg c4137] at e
  by_cases c4138 : l2 = 7
  · rw [if_pos c4138] at e
    refine z_tableIn (off := 77) (tgt := 114) dX10_of_37 (by rw [c4138]; decide) (by rw [c4138]; decide) (by rw [c4138]; decide) (by decide) ?_
    refine z_aload_n 0 dX10_of_114 rfl ?_
    replace e := z_bd e; obtain ⟨x4139, ex4139, e⟩ := e
    refine z_getQ ex4139 lk_X10_44 dX10_of_115 ?_
    refine z_aload_n 0 dX10_of_118 rfl ?_
    replace e := z_bd e; obtain ⟨x4140, ex4140, e⟩ := e
    refine z_getQ ex4140 lk_X10_12 dX10_of_119 ?_
    refine z_iload_n 1 dX10_of_122 rfl ?_
    refine z_aload_n 0 dX10_of_123 rfl ?_
    replace e := z_bd e; obtain ⟨x4141, ex4141, e⟩ := e
    refine z_getQ ex4141 lk_X10_12 dX10_of_124 ?_
    refine z_iload_n 1 dX10_of_127 rfl ?_
    replace e := z_bd e; obtain ⟨o4143, eo4143, e⟩ := e
    replace e := z_bd e; obtain ⟨p4142, ep4142, e⟩ := e
    refine z_cV [.int l1] (S_X9_placeOf  ep4142) eo4143 rfl ml_X10_138 ck_X9_placeOf vk_X9_placeOf dX10_of_128 (by decide) rfl (by simp [z_ci, z_cj, z_cr, z_cx]) rfl ?_
    replace e := z_bd e; obtain ⟨o4145, eo4145, e⟩ := e
    replace e := z_bd e; obtain ⟨p4144, ep4144, e⟩ := e
    refine z_cV [z_r x4140, .int l1, .int p4142.1] (S_X1_target  ep4144) eo4145 rfl ml_X10_141 ck_X1_target vk_X1_target dX10_of_131 (by decide) rfl (Nat.zero_le _) rfl ?_
    cases e
    exact z_iret dX10_of_134 rfl
  rw [if_neg c4138] at e
  have nc4122 := lv_neT (a := 0) c4122 (by decide)
  have nc4126 := lv_neT (a := 1) c4126 (by decide)
  have nc4130 := lv_neT (a := 2) c4130 (by decide)
  have nc4134 := lv_neT (a := 3) c4134 (by decide)
  have nc4135 := lv_neT (a := 4) c4135 (by decide)
  have nc4136 := lv_neT (a := 5) c4136 (by decide)
  have nc4137 := lv_neT (a := 6) c4137 (by decide)
  have nc4138 := lv_neT (a := 7) c4138 (by decide)
  refine z_tableOut (tgt := 135) dX10_of_37 (by omega) (by decide) ?_
  refine z_iconst (v := -1) dX10_of_135 (by decide) ?_
  cases e
  exact z_iret dX10_of_136 rfl
def D_X10_of (h : z_H) (l0 : Option Nat) (l1 : Int32) (l2 : Int32) : Option (Int32 × z_H) :=
  (z_gQ 10 h l0 0).bind fun x4146 =>
  (z_ob 9 h x4146).bind fun _ =>
  (D_X9_hasPair  h x4146 l1).bind fun p4147 =>
  if p4147.1 = 0 then
    some ((-1:Int32), p4147.2)
  else
    if l2 < (3:Int32) then
      D_X10_of_36   p4147.2 l0 l1 l2
    else
      if (7:Int32) ≤ l2 then
        D_X10_of_36   p4147.2 l0 l1 l2
      else
        (z_gQ 10 p4147.2 l0 0).bind fun x4152 =>
        (z_ob 9 p4147.2 x4152).bind fun _ =>
        (D_X9_wornAt  p4147.2 x4152 l1 (l2 - (3:Int32))).bind fun p4153 =>
        some (p4153.1, p4153.2)
set_option maxRecDepth 100000 in
set_option maxHeartbeats 4000000 in
theorem S_X10_of {G : z_G} {l : Launch} {h : z_H} {l0 : Option Nat} {l1 : Int32} {l2 : Int32} {res : (Int32 × z_H)} (e : D_X10_of h l0 l1 l2 = some res) : z_Meth G l 8 M_X10_of [z_r l0, .int l1, .int l2] h res.2 (some (.int res.1)) := by
  refine z_Meth.of ck_X10_of.2.2.2.2 (by simp [lg_sl, z_ci, z_cj, z_cr, z_cx]) ck_X10_of.1 ?_
  rw [show lv_args 0 [z_r l0, .int l1, .int l2] = [(0, z_r l0), (1, .int l1), (2, .int l2)] from by simp [lv_args, z_ci, z_cj, z_cr, z_cx]]
  unfold D_X10_of at e
  refine z_aload_n 0 dX10_of_0 rfl ?_
  replace e := z_bd e; obtain ⟨x4146, ex4146, e⟩ := e
  refine z_getQ ex4146 lk_X10_12 dX10_of_1 ?_
  refine z_iload_n 1 dX10_of_4 rfl ?_
  replace e := z_bd e; obtain ⟨o4148, eo4148, e⟩ := e
  replace e := z_bd e; obtain ⟨p4147, ep4147, e⟩ := e
  refine z_cV [.int l1] (S_X9_hasPair  ep4147) eo4148 rfl ml_X10_121 ck_X9_hasPair vk_X9_hasPair dX10_of_5 (by decide) rfl (Nat.zero_le _) rfl ?_
  refine z_if_ne (tgt := 13) dX10_of_8 (by decide) (fun c4149 => ?_) (fun c4149 => ?_)
  · rw [if_neg c4149] at e
    refine z_iload_n 2 dX10_of_13 rfl ?_
    refine z_iconst (v := 3) dX10_of_14 (by decide) ?_
    refine z_icmp_lt (tgt := 36) dX10_of_15 (by decide) (fun c4150 => ?_) (fun c4150 => ?_)
    · rw [if_pos c4150] at e
      exact z_weak [0, 1, 2] rfl (S_X10_of_36   e)
    · rw [if_neg c4150] at e
      refine z_iload_n 2 dX10_of_18 rfl ?_
      refine z_bipush (v := 7) dX10_of_19 (by decide) ?_
      refine z_icmp_ge (tgt := 36) dX10_of_21 (by decide) (fun c4151 => ?_) (fun c4151 => ?_)
      · rw [if_pos c4151] at e
        exact z_weak [0, 1, 2] rfl (S_X10_of_36   e)
      · rw [if_neg c4151] at e
        refine z_aload_n 0 dX10_of_24 rfl ?_
        replace e := z_bd e; obtain ⟨x4152, ex4152, e⟩ := e
        refine z_getQ ex4152 lk_X10_12 dX10_of_25 ?_
        refine z_iload_n 1 dX10_of_28 rfl ?_
        refine z_iload_n 2 dX10_of_29 rfl ?_
        refine z_iconst (v := 3) dX10_of_30 (by decide) ?_
        refine z_isub dX10_of_31 ?_
        replace e := z_bd e; obtain ⟨o4154, eo4154, e⟩ := e
        replace e := z_bd e; obtain ⟨p4153, ep4153, e⟩ := e
        refine z_cV [.int l1, .int (l2 - (3:Int32))] (S_X9_wornAt  ep4153) eo4154 rfl ml_X10_125 ck_X9_wornAt vk_X9_wornAt dX10_of_32 (by decide) rfl (Nat.zero_le _) rfl ?_
        cases e
        exact z_iret dX10_of_35 rfl
  · rw [if_pos c4149] at e
    refine z_iconst (v := -1) dX10_of_11 (by decide) ?_
    cases e
    exact z_iret dX10_of_12 rfl
theorem dX11_of_0 : decode cX11_of 0 = .ok (.aload_n 0, 1) := by decide +kernel
theorem dX11_of_1 : decode cX11_of 1 = .ok (.iconst 0, 1) := by decide +kernel
theorem dX11_of_2 : decode cX11_of 2 = .ok (.putfield 166, 3) := by decide +kernel
theorem dX11_of_5 : decode cX11_of 5 = .ok (.aload_n 0, 1) := by decide +kernel
theorem dX11_of_6 : decode cX11_of 6 = .ok (.iload_n 1, 1) := by decide +kernel
theorem dX11_of_7 : decode cX11_of 7 = .ok (.invokevirtual 211, 3) := by decide +kernel
theorem dX11_of_10 : decode cX11_of 10 = .ok (.ifCond .eq 15, 3) := by decide +kernel
theorem dX11_of_13 : decode cX11_of 13 = .ok (.iload_n 2, 1) := by decide +kernel
theorem dX11_of_14 : decode cX11_of 14 = .ok (.i2l, 1) := by decide +kernel
theorem dX11_of_15 : decode cX11_of 15 = .ok (.lconst 0, 1) := by decide +kernel
theorem dX11_of_16 : decode cX11_of 16 = .ok (.ldc2_w 214, 3) := by decide +kernel
theorem dX11_of_19 : decode cX11_of 19 = .ok (.invokestatic 186, 3) := by decide +kernel
theorem dX11_of_22 : decode cX11_of 22 = .ok (.ifCond .ne 5, 3) := by decide +kernel
theorem dX11_of_25 : decode cX11_of 25 = .ok (.iconst (-1), 1) := by decide +kernel
theorem dX11_of_26 : decode cX11_of 26 = .ok (.ireturn, 1) := by decide +kernel
theorem dX11_of_27 : decode cX11_of 27 = .ok (.iload_n 2, 1) := by decide +kernel
theorem dX11_of_28 : decode cX11_of 28 = .ok (.tableswitch 102 0 7 #[48, 58, 68, 102, 102, 102, 102, 78], 48) := by decide +kernel
theorem dX11_of_76 : decode cX11_of 76 = .ok (.aload_n 0, 1) := by decide +kernel
theorem dX11_of_77 : decode cX11_of 77 = .ok (.getfield 13, 3) := by decide +kernel
theorem dX11_of_80 : decode cX11_of 80 = .ok (.bipush 8, 2) := by decide +kernel
theorem dX11_of_82 : decode cX11_of 82 = .ok (.iload_n 1, 1) := by decide +kernel
theorem dX11_of_83 : decode cX11_of 83 = .ok (.iadd, 1) := by decide +kernel
theorem dX11_of_84 : decode cX11_of 84 = .ok (.iaload, 1) := by decide +kernel
theorem dX11_of_85 : decode cX11_of 85 = .ok (.ireturn, 1) := by decide +kernel
theorem dX11_of_86 : decode cX11_of 86 = .ok (.aload_n 0, 1) := by decide +kernel
theorem dX11_of_87 : decode cX11_of 87 = .ok (.getfield 13, 3) := by decide +kernel
theorem dX11_of_90 : decode cX11_of 90 = .ok (.bipush 14, 2) := by decide +kernel
theorem dX11_of_92 : decode cX11_of 92 = .ok (.iload_n 1, 1) := by decide +kernel
theorem dX11_of_93 : decode cX11_of 93 = .ok (.iadd, 1) := by decide +kernel
theorem dX11_of_94 : decode cX11_of 94 = .ok (.iaload, 1) := by decide +kernel
theorem dX11_of_95 : decode cX11_of 95 = .ok (.ireturn, 1) := by decide +kernel
theorem dX11_of_96 : decode cX11_of 96 = .ok (.aload_n 0, 1) := by decide +kernel
theorem dX11_of_97 : decode cX11_of 97 = .ok (.getfield 13, 3) := by decide +kernel
theorem dX11_of_100 : decode cX11_of 100 = .ok (.bipush 44, 2) := by decide +kernel
theorem dX11_of_102 : decode cX11_of 102 = .ok (.iload_n 1, 1) := by decide +kernel
theorem dX11_of_103 : decode cX11_of 103 = .ok (.iadd, 1) := by decide +kernel
theorem dX11_of_104 : decode cX11_of 104 = .ok (.iaload, 1) := by decide +kernel
theorem dX11_of_105 : decode cX11_of 105 = .ok (.ireturn, 1) := by decide +kernel
theorem dX11_of_106 : decode cX11_of 106 = .ok (.aload_n 0, 1) := by decide +kernel
theorem dX11_of_107 : decode cX11_of 107 = .ok (.iload_n 1, 1) := by decide +kernel
theorem dX11_of_108 : decode cX11_of 108 = .ok (.aload_n 0, 1) := by decide +kernel
theorem dX11_of_109 : decode cX11_of 109 = .ok (.getfield 13, 3) := by decide +kernel
theorem dX11_of_112 : decode cX11_of 112 = .ok (.bipush 8, 2) := by decide +kernel
theorem dX11_of_114 : decode cX11_of 114 = .ok (.iload_n 1, 1) := by decide +kernel
theorem dX11_of_115 : decode cX11_of 115 = .ok (.iadd, 1) := by decide +kernel
theorem dX11_of_116 : decode cX11_of 116 = .ok (.iaload, 1) := by decide +kernel
theorem dX11_of_117 : decode cX11_of 117 = .ok (.aload_n 0, 1) := by decide +kernel
theorem dX11_of_118 : decode cX11_of 118 = .ok (.getfield 13, 3) := by decide +kernel
theorem dX11_of_121 : decode cX11_of 121 = .ok (.bipush 14, 2) := by decide +kernel
theorem dX11_of_123 : decode cX11_of 123 = .ok (.iload_n 1, 1) := by decide +kernel
theorem dX11_of_124 : decode cX11_of 124 = .ok (.iadd, 1) := by decide +kernel
theorem dX11_of_125 : decode cX11_of 125 = .ok (.iaload, 1) := by decide +kernel
theorem dX11_of_126 : decode cX11_of 126 = .ok (.invokevirtual 216, 3) := by decide +kernel
theorem dX11_of_129 : decode cX11_of 129 = .ok (.ireturn, 1) := by decide +kernel
theorem dX11_of_130 : decode cX11_of 130 = .ok (.aload_n 0, 1) := by decide +kernel
theorem dX11_of_131 : decode cX11_of 131 = .ok (.iload_n 1, 1) := by decide +kernel
theorem dX11_of_132 : decode cX11_of 132 = .ok (.iload_n 2, 1) := by decide +kernel
theorem dX11_of_133 : decode cX11_of 133 = .ok (.iconst 3, 1) := by decide +kernel
theorem dX11_of_134 : decode cX11_of 134 = .ok (.isub, 1) := by decide +kernel
theorem dX11_of_135 : decode cX11_of 135 = .ok (.invokevirtual 219, 3) := by decide +kernel
theorem dX11_of_138 : decode cX11_of 138 = .ok (.ireturn, 1) := by decide +kernel
def D_X11_of (h : z_H) (l0 : Option Nat) (l1 : Int32) (l2 : Int32) : Option (Int32 × z_H) :=
  (z_pV 11 h l0 0 (.int (0:Int32))).bind fun h4155 =>
  (z_ob 11 h4155 l0).bind fun _ =>
  (D_X11_isPair  h4155 l0 l1).bind fun p4156 =>
  if p4156.1 = 0 then
    some ((-1:Int32), p4156.2)
  else
    (D_X11_in  p4156.2 (Int32.toInt64 l2) (0:Int64) (7:Int64)).bind fun p4159 =>
    if p4159.1 = 0 then
      some ((-1:Int32), p4159.2)
    else
      if l2 = 0 then
        (z_gQ 11 p4159.2 l0 3).bind fun x4162 =>
        (z_aI .int p4159.2 x4162 ((8:Int32) + l1)).bind fun x4163 =>
        some (x4163, p4159.2)
      else
      if l2 = 1 then
        (z_gQ 11 p4159.2 l0 3).bind fun x4165 =>
        (z_aI .int p4159.2 x4165 ((14:Int32) + l1)).bind fun x4166 =>
        some (x4166, p4159.2)
      else
      if l2 = 2 then
        (z_gQ 11 p4159.2 l0 3).bind fun x4168 =>
        (z_aI .int p4159.2 x4168 ((44:Int32) + l1)).bind fun x4169 =>
        some (x4169, p4159.2)
      else
      if l2 = 3 then
        (z_ob 11 p4159.2 l0).bind fun _ =>
        (D_X11_wornOf  p4159.2 l0 l1 (l2 - (3:Int32))).bind fun p4171 =>
        some (p4171.1, p4171.2)
      else
      if l2 = 4 then
        (z_ob 11 p4159.2 l0).bind fun _ =>
        (D_X11_wornOf  p4159.2 l0 l1 (l2 - (3:Int32))).bind fun p4174 =>
        some (p4174.1, p4174.2)
      else
      if l2 = 5 then
        (z_ob 11 p4159.2 l0).bind fun _ =>
        (D_X11_wornOf  p4159.2 l0 l1 (l2 - (3:Int32))).bind fun p4177 =>
        some (p4177.1, p4177.2)
      else
      if l2 = 6 then
        (z_ob 11 p4159.2 l0).bind fun _ =>
        (D_X11_wornOf  p4159.2 l0 l1 (l2 - (3:Int32))).bind fun p4180 =>
        some (p4180.1, p4180.2)
      else
      if l2 = 7 then
        (z_gQ 11 p4159.2 l0 3).bind fun x4183 =>
        (z_aI .int p4159.2 x4183 ((8:Int32) + l1)).bind fun x4184 =>
        (z_gQ 11 p4159.2 l0 3).bind fun x4185 =>
        (z_aI .int p4159.2 x4185 ((14:Int32) + l1)).bind fun x4186 =>
        (z_ob 11 p4159.2 l0).bind fun _ =>
        (D_X11_stepOf  p4159.2 l0 l1 x4184 x4186).bind fun p4187 =>
        some (p4187.1, p4187.2)
      else
      (z_ob 11 p4159.2 l0).bind fun _ =>
      (D_X11_wornOf  p4159.2 l0 l1 (l2 - (3:Int32))).bind fun p4189 =>
      some (p4189.1, p4189.2)
set_option maxRecDepth 100000 in
set_option maxHeartbeats 4000000 in
theorem S_X11_of {G : z_G} {l : Launch} {h : z_H} {l0 : Option Nat} {l1 : Int32} {l2 : Int32} {res : (Int32 × z_H)} (e : D_X11_of h l0 l1 l2 = some res) : z_Meth G l 10 M_X11_of [z_r l0, .int l1, .int l2] h res.2 (some (.int res.1)) := by
  refine z_Meth.of ck_X11_of.2.2.2.2 (by simp [lg_sl, z_ci, z_cj, z_cr, z_cx]) ck_X11_of.1 ?_
  rw [show lv_args 0 [z_r l0, .int l1, .int l2] = [(0, z_r l0), (1, .int l1), (2, .int l2)] from by simp [lv_args, z_ci, z_cj, z_cr, z_cx]]
  unfold D_X11_of at e
  refine z_aload_n 0 dX11_of_0 rfl ?_
  refine z_iconst (v := 0) dX11_of_1 (by decide) ?_
  replace e := z_bd e; obtain ⟨h4155, eh4155, e⟩ := e
  refine z_putV eh4155 lk_X11_166 wk_11_0 (fun _ => rfl) (fun _ => rfl) dX11_of_2 ?_
  refine z_aload_n 0 dX11_of_5 rfl ?_
  refine z_iload_n 1 dX11_of_6 rfl ?_
  replace e := z_bd e; obtain ⟨o4157, eo4157, e⟩ := e
  replace e := z_bd e; obtain ⟨p4156, ep4156, e⟩ := e
  refine z_cV [.int l1] (S_X11_isPair  ep4156) eo4157 rfl ml_X11_211 ck_X11_isPair vk_X11_isPair dX11_of_7 (by decide) rfl (Nat.zero_le _) rfl ?_
  refine z_if_eq (tgt := 25) dX11_of_10 (by decide) (fun c4158 => ?_) (fun c4158 => ?_)
  · rw [if_pos c4158] at e
    refine z_iconst (v := -1) dX11_of_25 (by decide) ?_
    cases e
    exact z_iret dX11_of_26 rfl
  · rw [if_neg c4158] at e
    refine z_iload_n 2 dX11_of_13 rfl ?_
    refine z_i2l dX11_of_14 ?_
    refine z_lconst (v := 0) dX11_of_15 (by decide) ?_
    refine z_ldc2 dX11_of_16 kj_X11_214 ?_
    replace e := z_bd e; obtain ⟨p4159, ep4159, e⟩ := e
    refine z_cS [.long (Int32.toInt64 l2), .long (0:Int64), .long (7:Int64)] (S_X11_in  ep4159) ml_X11_186 ck_X11_in st_X11_in dX11_of_19 (by decide) rfl (Nat.zero_le _) rfl ?_
    refine z_if_ne (tgt := 27) dX11_of_22 (by decide) (fun c4160 => ?_) (fun c4160 => ?_)
    · rw [if_neg c4160] at e
      refine z_iload_n 2 dX11_of_27 rfl ?_
      by_cases c4161 : l2 = 0
      · rw [if_pos c4161] at e
        refine z_tableIn (off := 48) (tgt := 76) dX11_of_28 (by rw [c4161]; decide) (by rw [c4161]; decide) (by rw [c4161]; decide) (by decide) ?_
        refine z_aload_n 0 dX11_of_76 rfl ?_
        replace e := z_bd e; obtain ⟨x4162, ex4162, e⟩ := e
        refine z_getQ ex4162 lk_X11_13 dX11_of_77 ?_
        refine z_bipush (v := 8) dX11_of_80 (by decide) ?_
        refine z_iload_n 1 dX11_of_82 rfl ?_
        refine z_iadd dX11_of_83 ?_
        replace e := z_bd e; obtain ⟨x4163, ex4163, e⟩ := e
        refine z_iald ex4163 dX11_of_84 ?_
        cases e
        exact z_iret dX11_of_85 rfl
      rw [if_neg c4161] at e
      by_cases c4164 : l2 = 1
      · rw [if_pos c4164] at e
        refine z_tableIn (off := 58) (tgt := 86) dX11_of_28 (by rw [c4164]; decide) (by rw [c4164]; decide) (by rw [c4164]; decide) (by decide) ?_
        refine z_aload_n 0 dX11_of_86 rfl ?_
        replace e := z_bd e; obtain ⟨x4165, ex4165, e⟩ := e
        refine z_getQ ex4165 lk_X11_13 dX11_of_87 ?_
        refine z_bipush (v := 14) dX11_of_90 (by decide) ?_
        refine z_iload_n 1 dX11_of_92 rfl ?_
        refine z_iadd dX11_of_93 ?_
        replace e := z_bd e; obtain ⟨x4166, ex4166, e⟩ := e
        refine z_iald ex4166 dX11_of_94 ?_
        cases e
        exact z_iret dX11_of_95 rfl
      rw [if_neg c4164] at e
      by_cases c4167 : l2 = 2
      · rw [if_pos c4167] at e
        refine z_tableIn (off := 68) (tgt := 96) dX11_of_28 (by rw [c4167]; decide) (by rw [c4167]; decide) (by rw [c4167]; decide) (by decide) ?_
        refine z_aload_n 0 dX11_of_96 rfl ?_
        replace e := z_bd e; obtain ⟨x4168, ex4168, e⟩ := e
        refine z_getQ ex4168 lk_X11_13 dX11_of_97 ?_
        refine z_bipush (v := 44) dX11_of_100 (by decide) ?_
        refine z_iload_n 1 dX11_of_102 rfl ?_
        refine z_iadd dX11_of_103 ?_
        replace e := z_bd e; obtain ⟨x4169, ex4169, e⟩ := e
        refine z_iald ex4169 dX11_of_104 ?_
        cases e
        exact z_iret dX11_of_105 rfl
      rw [if_neg c4167] at e
      by_cases c4170 : l2 = 3
      · rw [if_pos c4170] at e
        refine z_tableIn (off := 102) (tgt := 130) dX11_of_28 (by rw [c4170]; decide) (by rw [c4170]; decide) (by rw [c4170]; decide) (by decide) ?_
        refine z_aload_n 0 dX11_of_130 rfl ?_
        refine z_iload_n 1 dX11_of_131 rfl ?_
        refine z_iload_n 2 dX11_of_132 rfl ?_
        refine z_iconst (v := 3) dX11_of_133 (by decide) ?_
        refine z_isub dX11_of_134 ?_
        replace e := z_bd e; obtain ⟨o4172, eo4172, e⟩ := e
        replace e := z_bd e; obtain ⟨p4171, ep4171, e⟩ := e
        refine z_cV [.int l1, .int (l2 - (3:Int32))] (S_X11_wornOf  ep4171) eo4172 rfl ml_X11_219 ck_X11_wornOf vk_X11_wornOf dX11_of_135 (by decide) rfl (Nat.zero_le _) rfl ?_
        cases e
        exact z_iret dX11_of_138 rfl
      rw [if_neg c4170] at e
      by_cases c4173 : l2 = 4
      · rw [if_pos c4173] at e
        refine z_tableIn (off := 102) (tgt := 130) dX11_of_28 (by rw [c4173]; decide) (by rw [c4173]; decide) (by rw [c4173]; decide) (by decide) ?_
        refine z_aload_n 0 dX11_of_130 rfl ?_
        refine z_iload_n 1 dX11_of_131 rfl ?_
        refine z_iload_n 2 dX11_of_132 rfl ?_
        refine z_iconst (v := 3) dX11_of_133 (by decide) ?_
        refine z_isub dX11_of_134 ?_
        replace e := z_bd e; obtain ⟨o4175, eo4175, e⟩ := e
        replace e := z_bd e; obtain ⟨p4174, ep4174, e⟩ := e
        refine z_cV [.int l1, .int (l2 - (3:Int32))] (S_X11_wornOf  ep4174) eo4175 rfl ml_X11_219 ck_X11_wornOf vk_X11_wornOf dX11_of_135 (by decide) rfl (Nat.zero_le _) rfl ?_
        cases e
        exact z_iret dX11_of_138 rfl
      rw [if_neg c4173] at e
      by_cases c4176 : l2 = 5
      · rw [if_pos c4176] at e
        refine z_tableIn (off := 102) (tgt := 130) dX11_of_28 (by rw [c4176]; decide) (by rw [c4176]; decide) (by rw [c4176]; decide) (by decide) ?_
        refine z_aload_n 0 dX11_of_130 rfl ?_
        refine z_iload_n 1 dX11_of_131 rfl ?_
        refine z_iload_n 2 dX11_of_132 rfl ?_
        refine z_iconst (v := 3) dX11_of_133 (by decide) ?_
        refine z_isub dX11_of_134 ?_
        replace e := z_bd e; obtain ⟨o4178, eo4178, e⟩ := e
        replace e := z_bd e; obtain ⟨p4177, ep4177, e⟩ := e
        refine z_cV [.int l1, .int (l2 - (3:Int32))] (S_X11_wornOf  ep4177) eo4178 rfl ml_X11_219 ck_X11_wornOf vk_X11_wornOf dX11_of_135 (by decide) rfl (Nat.zero_le _) rfl ?_
        cases e
        exact z_iret dX11_of_138 rfl
      rw [if_neg c4176] at e
      by_cases c4179 : l2 = 6
      · rw [if_pos c4179] at e
        refine z_tableIn (off := 102) (tgt := 130) dX11_of_28 (by rw [c4179]; decide) (by rw [c4179]; decide) (by rw [c4179]; decide) (by decide) ?_
        refine z_aload_n 0 dX11_of_130 rfl ?_
        refine z_iload_n 1 dX11_of_131 rfl ?_
        refine z_iload_n 2 dX11_of_132 rfl ?_
        refine z_iconst (v := 3) dX11_of_133 (by decide) ?_
        refine z_isub dX11_of_134 ?_
        replace e := z_bd e; obtain ⟨o4181, eo4181, e⟩ := e
        replace e := z_bd e; obtain ⟨p4180, ep4180, e⟩ := e
        refine z_cV [.int l1, .int (l2 - (3:Int32))] (S_X11_wornOf  ep4180) eo4181 rfl ml_X11_219 ck_X11_wornOf vk_X11_wornOf dX11_of_135 (by decide) rfl (Nat.zero_le _) rfl ?_
        cases e
        exact z_iret dX11_of_138 rfl
      rw [if_neg c4179] at e
      by_cases c4182 : l2 = 7
      · rw [if_pos c4182] at e
        refine z_tableIn (off := 78) (tgt := 106) dX11_of_28 (by rw [c4182]; decide) (by rw [c4182]; decide) (by rw [c4182]; decide) (by decide) ?_
        refine z_aload_n 0 dX11_of_106 rfl ?_
        refine z_iload_n 1 dX11_of_107 rfl ?_
        refine z_aload_n 0 dX11_of_108 rfl ?_
        replace e := z_bd e; obtain ⟨x4183, ex4183, e⟩ := e
        refine z_getQ ex4183 lk_X11_13 dX11_of_109 ?_
        refine z_bipush (v := 8) dX11_of_112 (by decide) ?_
        refine z_iload_n 1 dX11_of_114 rfl ?_
        refine z_iadd dX11_of_115 ?_
        replace e := z_bd e; obtain ⟨x4184, ex4184, e⟩ := e
        refine z_iald ex4184 dX11_of_116 ?_
        refine z_aload_n 0 dX11_of_117 rfl ?_
        replace e := z_bd e; obtain ⟨x4185, ex4185, e⟩ := e
        refine z_getQ ex4185 lk_X11_13 dX11_of_118 ?_
        refine z_bipush (v := 14) dX11_of_121 (by decide) ?_
        refine z_iload_n 1 dX11_of_123 rfl ?_
        refine z_iadd dX11_of_124 ?_
        replace e := z_bd e; obtain ⟨x4186, ex4186, e⟩ := e
        refine z_iald ex4186 dX11_of_125 ?_
        replace e := z_bd e; obtain ⟨o4188, eo4188, e⟩ := e
        replace e := z_bd e; obtain ⟨p4187, ep4187, e⟩ := e
        refine z_cV [.int l1, .int x4184, .int x4186] (S_X11_stepOf  ep4187) eo4188 rfl ml_X11_216 ck_X11_stepOf vk_X11_stepOf dX11_of_126 (by decide) rfl (Nat.zero_le _) rfl ?_
        cases e
        exact z_iret dX11_of_129 rfl
      rw [if_neg c4182] at e
      have nc4161 := lv_neT (a := 0) c4161 (by decide)
      have nc4164 := lv_neT (a := 1) c4164 (by decide)
      have nc4167 := lv_neT (a := 2) c4167 (by decide)
      have nc4170 := lv_neT (a := 3) c4170 (by decide)
      have nc4173 := lv_neT (a := 4) c4173 (by decide)
      have nc4176 := lv_neT (a := 5) c4176 (by decide)
      have nc4179 := lv_neT (a := 6) c4179 (by decide)
      have nc4182 := lv_neT (a := 7) c4182 (by decide)
      refine z_tableOut (tgt := 130) dX11_of_28 (by omega) (by decide) ?_
      refine z_aload_n 0 dX11_of_130 rfl ?_
      refine z_iload_n 1 dX11_of_131 rfl ?_
      refine z_iload_n 2 dX11_of_132 rfl ?_
      refine z_iconst (v := 3) dX11_of_133 (by decide) ?_
      refine z_isub dX11_of_134 ?_
      replace e := z_bd e; obtain ⟨o4190, eo4190, e⟩ := e
      replace e := z_bd e; obtain ⟨p4189, ep4189, e⟩ := e
      refine z_cV [.int l1, .int (l2 - (3:Int32))] (S_X11_wornOf  ep4189) eo4190 rfl ml_X11_219 ck_X11_wornOf vk_X11_wornOf dX11_of_135 (by decide) rfl (Nat.zero_le _) rfl ?_
      cases e
      exact z_iret dX11_of_138 rfl
    · rw [if_pos c4160] at e
      refine z_iconst (v := -1) dX11_of_25 (by decide) ?_
      cases e
      exact z_iret dX11_of_26 rfl
theorem dX10_pair_0 : decode cX10_pair 0 = .ok (.iload_n 1, 1) := by decide +kernel
theorem dX10_pair_1 : decode cX10_pair 1 = .ok (.iload_n 2, 1) := by decide +kernel
theorem dX10_pair_2 : decode cX10_pair 2 = .ok (.iload_n 3, 1) := by decide +kernel
theorem dX10_pair_3 : decode cX10_pair 3 = .ok (.invokestatic 100, 3) := by decide +kernel
theorem dX10_pair_6 : decode cX10_pair 6 = .ok (.ifCond .ne 9, 3) := by decide +kernel
theorem dX10_pair_9 : decode cX10_pair 9 = .ok (.aload_n 0, 1) := by decide +kernel
theorem dX10_pair_10 : decode cX10_pair 10 = .ok (.iconst (-1), 1) := by decide +kernel
theorem dX10_pair_11 : decode cX10_pair 11 = .ok (.invokevirtual 104, 3) := by decide +kernel
theorem dX10_pair_14 : decode cX10_pair 14 = .ok (.ireturn, 1) := by decide +kernel
theorem dX10_pair_15 : decode cX10_pair 15 = .ok (.aload_n 0, 1) := by decide +kernel
theorem dX10_pair_16 : decode cX10_pair 16 = .ok (.getfield 12, 3) := by decide +kernel
theorem dX10_pair_19 : decode cX10_pair 19 = .ok (.getfield 108, 3) := by decide +kernel
theorem dX10_pair_22 : decode cX10_pair 22 = .ok (.bipush 6, 2) := by decide +kernel
theorem dX10_pair_24 : decode cX10_pair 24 = .ok (.if_icmp .lt 10, 3) := by decide +kernel
theorem dX10_pair_27 : decode cX10_pair 27 = .ok (.aload_n 0, 1) := by decide +kernel
theorem dX10_pair_28 : decode cX10_pair 28 = .ok (.bipush (-5), 2) := by decide +kernel
theorem dX10_pair_30 : decode cX10_pair 30 = .ok (.invokevirtual 104, 3) := by decide +kernel
theorem dX10_pair_33 : decode cX10_pair 33 = .ok (.ireturn, 1) := by decide +kernel
theorem dX10_pair_34 : decode cX10_pair 34 = .ok (.aload_n 0, 1) := by decide +kernel
theorem dX10_pair_35 : decode cX10_pair 35 = .ok (.getfield 12, 3) := by decide +kernel
theorem dX10_pair_38 : decode cX10_pair 38 = .ok (.iload_n 1, 1) := by decide +kernel
theorem dX10_pair_39 : decode cX10_pair 39 = .ok (.iload_n 2, 1) := by decide +kernel
theorem dX10_pair_40 : decode cX10_pair 40 = .ok (.iload_n 3, 1) := by decide +kernel
theorem dX10_pair_41 : decode cX10_pair 41 = .ok (.invokevirtual 111, 3) := by decide +kernel
theorem dX10_pair_44 : decode cX10_pair 44 = .ok (.aload_n 0, 1) := by decide +kernel
theorem dX10_pair_45 : decode cX10_pair 45 = .ok (.getfield 30, 3) := by decide +kernel
theorem dX10_pair_48 : decode cX10_pair 48 = .ok (.iconst 0, 1) := by decide +kernel
theorem dX10_pair_49 : decode cX10_pair 49 = .ok (.putfield 115, 3) := by decide +kernel
theorem dX10_pair_52 : decode cX10_pair 52 = .ok (.aload_n 0, 1) := by decide +kernel
theorem dX10_pair_53 : decode cX10_pair 53 = .ok (.aload_n 0, 1) := by decide +kernel
theorem dX10_pair_54 : decode cX10_pair 54 = .ok (.getfield 12, 3) := by decide +kernel
theorem dX10_pair_57 : decode cX10_pair 57 = .ok (.getfield 108, 3) := by decide +kernel
theorem dX10_pair_60 : decode cX10_pair 60 = .ok (.iconst 1, 1) := by decide +kernel
theorem dX10_pair_61 : decode cX10_pair 61 = .ok (.isub, 1) := by decide +kernel
theorem dX10_pair_62 : decode cX10_pair 62 = .ok (.invokevirtual 118, 3) := by decide +kernel
theorem dX10_pair_65 : decode cX10_pair 65 = .ok (.ireturn, 1) := by decide +kernel
def D_X10_pair (h : z_H) (l0 : Option Nat) (l1 : Int32) (l2 : Int32) (l3 : Int32) : Option (Int32 × z_H) :=
  (D_X10_canBePair  h l1 l2 l3).bind fun p4191 =>
  if p4191.1 = 0 then
    (z_ob 10 p4191.2 l0).bind fun _ =>
    (D_X10_refuse  p4191.2 l0 (-1:Int32)).bind fun p4207 =>
    some (p4207.1, p4207.2)
  else
    (z_gQ 10 p4191.2 l0 0).bind fun x4193 =>
    (z_gI 9 p4191.2 x4193 8).bind fun x4194 =>
    if x4194 < (6:Int32) then
      (z_gQ 10 p4191.2 l0 0).bind fun x4196 =>
      (z_ob 9 p4191.2 x4196).bind fun _ =>
      (D_X9_addPair  p4191.2 x4196 l1 l2 l3).bind fun p4197 =>
      (z_gQ 10 p4197 l0 4).bind fun x4199 =>
      (z_pV 8 p4197 x4199 1 (.int (0:Int32))).bind fun h4200 =>
      (z_gQ 10 h4200 l0 0).bind fun x4201 =>
      (z_gI 9 h4200 x4201 8).bind fun x4202 =>
      (z_ob 10 h4200 l0).bind fun _ =>
      (D_X10_grant  h4200 l0 (x4202 - (1:Int32))).bind fun p4203 =>
      some (p4203.1, p4203.2)
    else
      (z_ob 10 p4191.2 l0).bind fun _ =>
      (D_X10_refuse  p4191.2 l0 (-5:Int32)).bind fun p4205 =>
      some (p4205.1, p4205.2)
set_option maxRecDepth 100000 in
set_option maxHeartbeats 4000000 in
theorem S_X10_pair {G : z_G} {l : Launch} {h : z_H} {l0 : Option Nat} {l1 : Int32} {l2 : Int32} {l3 : Int32} {res : (Int32 × z_H)} (e : D_X10_pair h l0 l1 l2 l3 = some res) : z_Meth G l 6 M_X10_pair [z_r l0, .int l1, .int l2, .int l3] h res.2 (some (.int res.1)) := by
  refine z_Meth.of ck_X10_pair.2.2.2.2 (by simp [lg_sl, z_ci, z_cj, z_cr, z_cx]) ck_X10_pair.1 ?_
  rw [show lv_args 0 [z_r l0, .int l1, .int l2, .int l3] = [(0, z_r l0), (1, .int l1), (2, .int l2), (3, .int l3)] from by simp [lv_args, z_ci, z_cj, z_cr, z_cx]]
  unfold D_X10_pair at e
  refine z_iload_n 1 dX10_pair_0 rfl ?_
  refine z_iload_n 2 dX10_pair_1 rfl ?_
  refine z_iload_n 3 dX10_pair_2 rfl ?_
  replace e := z_bd e; obtain ⟨p4191, ep4191, e⟩ := e
  refine z_cS [.int l1, .int l2, .int l3] (S_X10_canBePair  ep4191) ml_X10_100 ck_X10_canBePair st_X10_canBePair dX10_pair_3 (by decide) rfl (Nat.zero_le _) rfl ?_
  refine z_if_ne (tgt := 15) dX10_pair_6 (by decide) (fun c4192 => ?_) (fun c4192 => ?_)
  · rw [if_neg c4192] at e
    refine z_aload_n 0 dX10_pair_15 rfl ?_
    replace e := z_bd e; obtain ⟨x4193, ex4193, e⟩ := e
    refine z_getQ ex4193 lk_X10_12 dX10_pair_16 ?_
    replace e := z_bd e; obtain ⟨x4194, ex4194, e⟩ := e
    refine z_getI ex4194 lk_X10_108 dX10_pair_19 ?_
    refine z_bipush (v := 6) dX10_pair_22 (by decide) ?_
    refine z_icmp_lt (tgt := 34) dX10_pair_24 (by decide) (fun c4195 => ?_) (fun c4195 => ?_)
    · rw [if_pos c4195] at e
      refine z_aload_n 0 dX10_pair_34 rfl ?_
      replace e := z_bd e; obtain ⟨x4196, ex4196, e⟩ := e
      refine z_getQ ex4196 lk_X10_12 dX10_pair_35 ?_
      refine z_iload_n 1 dX10_pair_38 rfl ?_
      refine z_iload_n 2 dX10_pair_39 rfl ?_
      refine z_iload_n 3 dX10_pair_40 rfl ?_
      replace e := z_bd e; obtain ⟨o4198, eo4198, e⟩ := e
      replace e := z_bd e; obtain ⟨p4197, ep4197, e⟩ := e
      refine z_cV [.int l1, .int l2, .int l3] (S_X9_addPair  ep4197) eo4198 rfl ml_X10_111 ck_X9_addPair vk_X9_addPair dX10_pair_41 (by decide) rfl (Nat.zero_le _) rfl ?_
      refine z_aload_n 0 dX10_pair_44 rfl ?_
      replace e := z_bd e; obtain ⟨x4199, ex4199, e⟩ := e
      refine z_getQ ex4199 lk_X10_30 dX10_pair_45 ?_
      refine z_iconst (v := 0) dX10_pair_48 (by decide) ?_
      replace e := z_bd e; obtain ⟨h4200, eh4200, e⟩ := e
      refine z_putV eh4200 lk_X10_115 wk_8_1 (fun _ => rfl) (fun _ => rfl) dX10_pair_49 ?_
      refine z_aload_n 0 dX10_pair_52 rfl ?_
      refine z_aload_n 0 dX10_pair_53 rfl ?_
      replace e := z_bd e; obtain ⟨x4201, ex4201, e⟩ := e
      refine z_getQ ex4201 lk_X10_12 dX10_pair_54 ?_
      replace e := z_bd e; obtain ⟨x4202, ex4202, e⟩ := e
      refine z_getI ex4202 lk_X10_108 dX10_pair_57 ?_
      refine z_iconst (v := 1) dX10_pair_60 (by decide) ?_
      refine z_isub dX10_pair_61 ?_
      replace e := z_bd e; obtain ⟨o4204, eo4204, e⟩ := e
      replace e := z_bd e; obtain ⟨p4203, ep4203, e⟩ := e
      refine z_cV [.int (x4202 - (1:Int32))] (S_X10_grant  ep4203) eo4204 rfl ml_X10_118 ck_X10_grant vk_X10_grant dX10_pair_62 (by decide) rfl (Nat.zero_le _) rfl ?_
      cases e
      exact z_iret dX10_pair_65 rfl
    · rw [if_neg c4195] at e
      refine z_aload_n 0 dX10_pair_27 rfl ?_
      refine z_bipush (v := -5) dX10_pair_28 (by decide) ?_
      replace e := z_bd e; obtain ⟨o4206, eo4206, e⟩ := e
      replace e := z_bd e; obtain ⟨p4205, ep4205, e⟩ := e
      refine z_cV [.int (-5:Int32)] (S_X10_refuse  ep4205) eo4206 rfl ml_X10_104 ck_X10_refuse vk_X10_refuse dX10_pair_30 (by decide) rfl (Nat.zero_le _) rfl ?_
      cases e
      exact z_iret dX10_pair_33 rfl
  · rw [if_pos c4192] at e
    refine z_aload_n 0 dX10_pair_9 rfl ?_
    refine z_iconst (v := -1) dX10_pair_10 (by decide) ?_
    replace e := z_bd e; obtain ⟨o4208, eo4208, e⟩ := e
    replace e := z_bd e; obtain ⟨p4207, ep4207, e⟩ := e
    refine z_cV [.int (-1:Int32)] (S_X10_refuse  ep4207) eo4208 rfl ml_X10_104 ck_X10_refuse vk_X10_refuse dX10_pair_11 (by decide) rfl (Nat.zero_le _) rfl ?_
    cases e
    exact z_iret dX10_pair_14 rfl
theorem dX11_pair_0 : decode cX11_pair 0 = .ok (.aload_n 0, 1) := by decide +kernel
theorem dX11_pair_1 : decode cX11_pair 1 = .ok (.iconst 0, 1) := by decide +kernel
theorem dX11_pair_2 : decode cX11_pair 2 = .ok (.putfield 166, 3) := by decide +kernel
theorem dX11_pair_5 : decode cX11_pair 5 = .ok (.aload_n 0, 1) := by decide +kernel
theorem dX11_pair_6 : decode cX11_pair 6 = .ok (.aload_n 0, 1) := by decide +kernel
theorem dX11_pair_7 : decode cX11_pair 7 = .ok (.iload_n 1, 1) := by decide +kernel
theorem dX11_pair_8 : decode cX11_pair 8 = .ok (.iload_n 2, 1) := by decide +kernel
theorem dX11_pair_9 : decode cX11_pair 9 = .ok (.iload_n 3, 1) := by decide +kernel
theorem dX11_pair_10 : decode cX11_pair 10 = .ok (.invokevirtual 207, 3) := by decide +kernel
theorem dX11_pair_13 : decode cX11_pair 13 = .ok (.invokevirtual 190, 3) := by decide +kernel
theorem dX11_pair_16 : decode cX11_pair 16 = .ok (.ireturn, 1) := by decide +kernel
def D_X11_pair (h : z_H) (l0 : Option Nat) (l1 : Int32) (l2 : Int32) (l3 : Int32) : Option (Int32 × z_H) :=
  (z_pV 11 h l0 0 (.int (0:Int32))).bind fun h4209 =>
  (z_ob 11 h4209 l0).bind fun _ =>
  (D_X11_come  h4209 l0 l1 l2 l3).bind fun p4210 =>
  (z_ob 11 p4210.2 l0).bind fun _ =>
  (D_X11_lasting  p4210.2 l0 p4210.1).bind fun p4212 =>
  some (p4212.1, p4212.2)
set_option maxRecDepth 100000 in
set_option maxHeartbeats 4000000 in
theorem S_X11_pair {G : z_G} {l : Launch} {h : z_H} {l0 : Option Nat} {l1 : Int32} {l2 : Int32} {l3 : Int32} {res : (Int32 × z_H)} (e : D_X11_pair h l0 l1 l2 l3 = some res) : z_Meth G l 7 M_X11_pair [z_r l0, .int l1, .int l2, .int l3] h res.2 (some (.int res.1)) := by
  refine z_Meth.of ck_X11_pair.2.2.2.2 (by simp [lg_sl, z_ci, z_cj, z_cr, z_cx]) ck_X11_pair.1 ?_
  rw [show lv_args 0 [z_r l0, .int l1, .int l2, .int l3] = [(0, z_r l0), (1, .int l1), (2, .int l2), (3, .int l3)] from by simp [lv_args, z_ci, z_cj, z_cr, z_cx]]
  unfold D_X11_pair at e
  refine z_aload_n 0 dX11_pair_0 rfl ?_
  refine z_iconst (v := 0) dX11_pair_1 (by decide) ?_
  replace e := z_bd e; obtain ⟨h4209, eh4209, e⟩ := e
  refine z_putV eh4209 lk_X11_166 wk_11_0 (fun _ => rfl) (fun _ => rfl) dX11_pair_2 ?_
  refine z_aload_n 0 dX11_pair_5 rfl ?_
  refine z_aload_n 0 dX11_pair_6 rfl ?_
  refine z_iload_n 1 dX11_pair_7 rfl ?_
  refine z_iload_n 2 dX11_pair_8 rfl ?_
  refine z_iload_n 3 dX11_pair_9 rfl ?_
  replace e := z_bd e; obtain ⟨o4211, eo4211, e⟩ := e
  replace e := z_bd e; obtain ⟨p4210, ep4210, e⟩ := e
  refine z_cV [.int l1, .int l2, .int l3] (S_X11_come  ep4210) eo4211 rfl ml_X11_207 ck_X11_come vk_X11_come dX11_pair_10 (by decide) rfl (by simp [z_ci, z_cj, z_cr, z_cx]) rfl ?_
  replace e := z_bd e; obtain ⟨o4213, eo4213, e⟩ := e
  replace e := z_bd e; obtain ⟨p4212, ep4212, e⟩ := e
  refine z_cV [.int p4210.1] (S_X11_lasting  ep4212) eo4213 rfl ml_X11_190 ck_X11_lasting vk_X11_lasting dX11_pair_13 (by decide) rfl (Nat.zero_le _) rfl ?_
  cases e
  exact z_iret dX11_pair_16 rfl
