theorem dX10_liveOnPaper_0 : decode cX10_liveOnPaper 0 = .ok (.aload_n 0, 1) := by decide +kernel
theorem dX10_liveOnPaper_1 : decode cX10_liveOnPaper 1 = .ok (.getfield 24, 3) := by decide +kernel
theorem dX10_liveOnPaper_4 : decode cX10_liveOnPaper 4 = .ok (.aload_n 0, 1) := by decide +kernel
theorem dX10_liveOnPaper_5 : decode cX10_liveOnPaper 5 = .ok (.getfield 12, 3) := by decide +kernel
theorem dX10_liveOnPaper_8 : decode cX10_liveOnPaper 8 = .ok (.invokevirtual 306, 3) := by decide +kernel
theorem dX10_liveOnPaper_11 : decode cX10_liveOnPaper 11 = .ok (.iload_n 1, 1) := by decide +kernel
theorem dX10_liveOnPaper_12 : decode cX10_liveOnPaper 12 = .ok (.istore_n 3, 1) := by decide +kernel
theorem dX10_liveOnPaper_13 : decode cX10_liveOnPaper 13 = .ok (.iconst 0, 1) := by decide +kernel
theorem dX10_liveOnPaper_14 : decode cX10_liveOnPaper 14 = .ok (.istore 4, 2) := by decide +kernel
theorem dX10_liveOnPaper_16 : decode cX10_liveOnPaper 16 = .ok (.iconst 0, 1) := by decide +kernel
theorem dX10_liveOnPaper_17 : decode cX10_liveOnPaper 17 = .ok (.istore 5, 2) := by decide +kernel
theorem dX10_liveOnPaper_19 : decode cX10_liveOnPaper 19 = .ok (.iload 5, 2) := by decide +kernel
theorem dX10_liveOnPaper_21 : decode cX10_liveOnPaper 21 = .ok (.iload_n 2, 1) := by decide +kernel
theorem dX10_liveOnPaper_22 : decode cX10_liveOnPaper 22 = .ok (.if_icmp .ge 132, 3) := by decide +kernel
theorem dX10_liveOnPaper_25 : decode cX10_liveOnPaper 25 = .ok (.aload_n 0, 1) := by decide +kernel
theorem dX10_liveOnPaper_26 : decode cX10_liveOnPaper 26 = .ok (.getfield 24, 3) := by decide +kernel
theorem dX10_liveOnPaper_29 : decode cX10_liveOnPaper 29 = .ok (.getfield 108, 3) := by decide +kernel
theorem dX10_liveOnPaper_32 : decode cX10_liveOnPaper 32 = .ok (.ifCond .le 122, 3) := by decide +kernel
theorem dX10_liveOnPaper_35 : decode cX10_liveOnPaper 35 = .ok (.aload_n 0, 1) := by decide +kernel
theorem dX10_liveOnPaper_36 : decode cX10_liveOnPaper 36 = .ok (.getfield 24, 3) := by decide +kernel
theorem dX10_liveOnPaper_39 : decode cX10_liveOnPaper 39 = .ok (.getfield 168, 3) := by decide +kernel
theorem dX10_liveOnPaper_42 : decode cX10_liveOnPaper 42 = .ok (.iconst 0, 1) := by decide +kernel
theorem dX10_liveOnPaper_43 : decode cX10_liveOnPaper 43 = .ok (.iaload, 1) := by decide +kernel
theorem dX10_liveOnPaper_44 : decode cX10_liveOnPaper 44 = .ok (.getstatic 165, 3) := by decide +kernel
theorem dX10_liveOnPaper_47 : decode cX10_liveOnPaper 47 = .ok (.iconst 0, 1) := by decide +kernel
theorem dX10_liveOnPaper_48 : decode cX10_liveOnPaper 48 = .ok (.iaload, 1) := by decide +kernel
theorem dX10_liveOnPaper_49 : decode cX10_liveOnPaper 49 = .ok (.if_icmp .ge 105, 3) := by decide +kernel
theorem dX10_liveOnPaper_52 : decode cX10_liveOnPaper 52 = .ok (.iload_n 3, 1) := by decide +kernel
theorem dX10_liveOnPaper_53 : decode cX10_liveOnPaper 53 = .ok (.invokestatic 331, 3) := by decide +kernel
theorem dX10_liveOnPaper_56 : decode cX10_liveOnPaper 56 = .ok (.istore_n 3, 1) := by decide +kernel
theorem dX10_liveOnPaper_57 : decode cX10_liveOnPaper 57 = .ok (.iload_n 3, 1) := by decide +kernel
theorem dX10_liveOnPaper_58 : decode cX10_liveOnPaper 58 = .ok (.aload_n 0, 1) := by decide +kernel
theorem dX10_liveOnPaper_59 : decode cX10_liveOnPaper 59 = .ok (.getfield 24, 3) := by decide +kernel
theorem dX10_liveOnPaper_62 : decode cX10_liveOnPaper 62 = .ok (.getfield 108, 3) := by decide +kernel
theorem dX10_liveOnPaper_65 : decode cX10_liveOnPaper 65 = .ok (.irem, 1) := by decide +kernel
theorem dX10_liveOnPaper_66 : decode cX10_liveOnPaper 66 = .ok (.istore 6, 2) := by decide +kernel
theorem dX10_liveOnPaper_68 : decode cX10_liveOnPaper 68 = .ok (.iload_n 3, 1) := by decide +kernel
theorem dX10_liveOnPaper_69 : decode cX10_liveOnPaper 69 = .ok (.invokestatic 331, 3) := by decide +kernel
theorem dX10_liveOnPaper_72 : decode cX10_liveOnPaper 72 = .ok (.istore_n 3, 1) := by decide +kernel
theorem dX10_liveOnPaper_73 : decode cX10_liveOnPaper 73 = .ok (.iload_n 3, 1) := by decide +kernel
theorem dX10_liveOnPaper_74 : decode cX10_liveOnPaper 74 = .ok (.iconst 4, 1) := by decide +kernel
theorem dX10_liveOnPaper_75 : decode cX10_liveOnPaper 75 = .ok (.irem, 1) := by decide +kernel
theorem dX10_liveOnPaper_76 : decode cX10_liveOnPaper 76 = .ok (.istore 7, 2) := by decide +kernel
theorem dX10_liveOnPaper_78 : decode cX10_liveOnPaper 78 = .ok (.iload_n 3, 1) := by decide +kernel
theorem dX10_liveOnPaper_79 : decode cX10_liveOnPaper 79 = .ok (.invokestatic 331, 3) := by decide +kernel
theorem dX10_liveOnPaper_82 : decode cX10_liveOnPaper 82 = .ok (.istore_n 3, 1) := by decide +kernel
theorem dX10_liveOnPaper_83 : decode cX10_liveOnPaper 83 = .ok (.iload 7, 2) := by decide +kernel
theorem dX10_liveOnPaper_85 : decode cX10_liveOnPaper 85 = .ok (.iconst 2, 1) := by decide +kernel
theorem dX10_liveOnPaper_86 : decode cX10_liveOnPaper 86 = .ok (.if_icmp .ge 7, 3) := by decide +kernel
theorem dX10_liveOnPaper_89 : decode cX10_liveOnPaper 89 = .ok (.iconst 0, 1) := by decide +kernel
theorem dX10_liveOnPaper_90 : decode cX10_liveOnPaper 90 = .ok (.goto 14, 3) := by decide +kernel
theorem dX10_liveOnPaper_93 : decode cX10_liveOnPaper 93 = .ok (.iload 7, 2) := by decide +kernel
theorem dX10_liveOnPaper_95 : decode cX10_liveOnPaper 95 = .ok (.iconst 2, 1) := by decide +kernel
theorem dX10_liveOnPaper_96 : decode cX10_liveOnPaper 96 = .ok (.if_icmp .ne 7, 3) := by decide +kernel
theorem dX10_liveOnPaper_99 : decode cX10_liveOnPaper 99 = .ok (.iconst 1, 1) := by decide +kernel
theorem dX10_liveOnPaper_100 : decode cX10_liveOnPaper 100 = .ok (.goto 4, 3) := by decide +kernel
theorem dX10_liveOnPaper_103 : decode cX10_liveOnPaper 103 = .ok (.iconst 2, 1) := by decide +kernel
theorem dX10_liveOnPaper_104 : decode cX10_liveOnPaper 104 = .ok (.istore 8, 2) := by decide +kernel
theorem dX10_liveOnPaper_106 : decode cX10_liveOnPaper 106 = .ok (.aload_n 0, 1) := by decide +kernel
theorem dX10_liveOnPaper_107 : decode cX10_liveOnPaper 107 = .ok (.getfield 53, 3) := by decide +kernel
theorem dX10_liveOnPaper_110 : decode cX10_liveOnPaper 110 = .ok (.aload_n 0, 1) := by decide +kernel
theorem dX10_liveOnPaper_111 : decode cX10_liveOnPaper 111 = .ok (.getfield 24, 3) := by decide +kernel
theorem dX10_liveOnPaper_114 : decode cX10_liveOnPaper 114 = .ok (.iload 8, 2) := by decide +kernel
theorem dX10_liveOnPaper_116 : decode cX10_liveOnPaper 116 = .ok (.iload 6, 2) := by decide +kernel
theorem dX10_liveOnPaper_118 : decode cX10_liveOnPaper 118 = .ok (.iload_n 3, 1) := by decide +kernel
theorem dX10_liveOnPaper_119 : decode cX10_liveOnPaper 119 = .ok (.iconst 2, 1) := by decide +kernel
theorem dX10_liveOnPaper_120 : decode cX10_liveOnPaper 120 = .ok (.irem, 1) := by decide +kernel
theorem dX10_liveOnPaper_121 : decode cX10_liveOnPaper 121 = .ok (.invokevirtual 317, 3) := by decide +kernel
theorem dX10_liveOnPaper_124 : decode cX10_liveOnPaper 124 = .ok (.ifCond .lt 11, 3) := by decide +kernel
theorem dX10_liveOnPaper_127 : decode cX10_liveOnPaper 127 = .ok (.iload 8, 2) := by decide +kernel
theorem dX10_liveOnPaper_129 : decode cX10_liveOnPaper 129 = .ok (.ifCond .ne 6, 3) := by decide +kernel
theorem dX10_liveOnPaper_132 : decode cX10_liveOnPaper 132 = .ok (.iinc 4 1, 3) := by decide +kernel
theorem dX10_liveOnPaper_135 : decode cX10_liveOnPaper 135 = .ok (.aload_n 0, 1) := by decide +kernel
theorem dX10_liveOnPaper_136 : decode cX10_liveOnPaper 136 = .ok (.getfield 24, 3) := by decide +kernel
theorem dX10_liveOnPaper_139 : decode cX10_liveOnPaper 139 = .ok (.getfield 168, 3) := by decide +kernel
theorem dX10_liveOnPaper_142 : decode cX10_liveOnPaper 142 = .ok (.iconst 0, 1) := by decide +kernel
theorem dX10_liveOnPaper_143 : decode cX10_liveOnPaper 143 = .ok (.dup2, 1) := by decide +kernel
theorem dX10_liveOnPaper_144 : decode cX10_liveOnPaper 144 = .ok (.iaload, 1) := by decide +kernel
theorem dX10_liveOnPaper_145 : decode cX10_liveOnPaper 145 = .ok (.iconst 1, 1) := by decide +kernel
theorem dX10_liveOnPaper_146 : decode cX10_liveOnPaper 146 = .ok (.iadd, 1) := by decide +kernel
theorem dX10_liveOnPaper_147 : decode cX10_liveOnPaper 147 = .ok (.iastore, 1) := by decide +kernel
theorem dX10_liveOnPaper_148 : decode cX10_liveOnPaper 148 = .ok (.iinc 5 1, 3) := by decide +kernel
theorem dX10_liveOnPaper_151 : decode cX10_liveOnPaper 151 = .ok (.goto (-132), 3) := by decide +kernel
theorem dX10_liveOnPaper_154 : decode cX10_liveOnPaper 154 = .ok (.iload 4, 2) := by decide +kernel
theorem dX10_liveOnPaper_156 : decode cX10_liveOnPaper 156 = .ok (.ireturn, 1) := by decide +kernel
def D_X10_liveOnPaper_135 (k19 : z_H → Option Nat → Int32 → Int32 → Int32 → Int32 → Option (Int32 × z_H)) (h : z_H) (l0 : Option Nat) (l2 : Int32) (l3 : Int32) (l4 : Int32) (l5 : Int32) : Option (Int32 × z_H) :=
  (z_gQ 10 h l0 3).bind fun x780 =>
  (z_gQ 9 h x780 4).bind fun x781 =>
  (z_aI .int h x781 (0:Int32)).bind fun x782 =>
  (z_sI h x781 (0:Int32) (x782 + (1:Int32))).bind fun h783 =>
  (some (l5 + (1:Int32))).bind fun x784 =>
  k19 h783 l0 l2 l3 l4 x784
set_option maxRecDepth 100000 in
set_option maxHeartbeats 4000000 in
theorem S_X10_liveOnPaper_135 {G : z_G} {l : Launch} {k19 : z_H → Option Nat → Int32 → Int32 → Int32 → Int32 → Option (Int32 × z_H)} (hk19 : ∀ {h : z_H} {l0 : Option Nat} {l2 : Int32} {l3 : Int32} {l4 : Int32} {l5 : Int32} {res : (Int32 × z_H)}, k19 h l0 l2 l3 l4 l5 = some res → z_Run G l 9 M_X10_liveOnPaper 19 [(0, z_r l0), (2, .int l2), (3, .int l3), (4, .int l4), (5, .int l5)] [] h res.2 (some (.int res.1))) {h : z_H} {l0 : Option Nat} {l2 : Int32} {l3 : Int32} {l4 : Int32} {l5 : Int32} {res : (Int32 × z_H)} (e : D_X10_liveOnPaper_135 k19 h l0 l2 l3 l4 l5 = some res) : z_Run G l 9 M_X10_liveOnPaper 135 [(0, z_r l0), (2, .int l2), (3, .int l3), (4, .int l4), (5, .int l5)] [] h res.2 (some (.int res.1)) := by
  unfold D_X10_liveOnPaper_135 at e
  refine z_aload_n 0 dX10_liveOnPaper_135 rfl ?_
  replace e := z_bd e; obtain ⟨x780, ex780, e⟩ := e
  refine z_getQ ex780 lk_X10_24 dX10_liveOnPaper_136 ?_
  replace e := z_bd e; obtain ⟨x781, ex781, e⟩ := e
  refine z_getQ ex781 lk_X10_168 dX10_liveOnPaper_139 ?_
  refine z_iconst (v := 0) dX10_liveOnPaper_142 (by decide) ?_
  refine z_dup2 dX10_liveOnPaper_143 rfl (z_cr _) ?_
  replace e := z_bd e; obtain ⟨x782, ex782, e⟩ := e
  refine z_iald ex782 dX10_liveOnPaper_144 ?_
  refine z_iconst (v := 1) dX10_liveOnPaper_145 (by decide) ?_
  refine z_iadd dX10_liveOnPaper_146 ?_
  replace e := z_bd e; obtain ⟨h783, eh783, e⟩ := e
  refine z_iast eh783 dX10_liveOnPaper_147 ?_
  replace e := z_bd e; obtain ⟨x784, ex784, e⟩ := e
  refine z_iinc (q := 4) (v := x784) (L' := [(5, .int x784), (0, z_r l0), (2, .int l2), (3, .int l3), (4, .int l4)]) dX10_liveOnPaper_148 rfl (Option.some.inj ex784) (by decide) rfl ?_
  refine z_goto (tgt := 19) dX10_liveOnPaper_151 (by decide) ?_
  exact z_weak [1, 2, 3, 4, 0] rfl (hk19 e)
def D_X10_liveOnPaper_104 (k19 : z_H → Option Nat → Int32 → Int32 → Int32 → Int32 → Option (Int32 × z_H)) (h : z_H) (l0 : Option Nat) (l2 : Int32) (l3 : Int32) (l4 : Int32) (l5 : Int32) (l6 : Int32) (s0 : Int32) : Option (Int32 × z_H) :=
  (z_gQ 10 h l0 7).bind fun x785 =>
  (z_gQ 10 h l0 3).bind fun x786 =>
  (z_ob 0 h x785).bind fun _ =>
  (D_X0_carryOut  h x785 x786 s0 l6 (l3 - l3 / (2:Int32) * (2:Int32))).bind fun p787 =>
  if p787.1 < 0 then
    D_X10_liveOnPaper_135  k19 p787.2 l0 l2 l3 l4 l5
  else
    if s0 = 0 then
      (some (l4 + (1:Int32))).bind fun x791 =>
      D_X10_liveOnPaper_135  k19 p787.2 l0 l2 l3 x791 l5
    else
      D_X10_liveOnPaper_135  k19 p787.2 l0 l2 l3 l4 l5
set_option maxRecDepth 100000 in
set_option maxHeartbeats 4000000 in
theorem S_X10_liveOnPaper_104 {G : z_G} {l : Launch} {k19 : z_H → Option Nat → Int32 → Int32 → Int32 → Int32 → Option (Int32 × z_H)} (hk19 : ∀ {h : z_H} {l0 : Option Nat} {l2 : Int32} {l3 : Int32} {l4 : Int32} {l5 : Int32} {res : (Int32 × z_H)}, k19 h l0 l2 l3 l4 l5 = some res → z_Run G l 9 M_X10_liveOnPaper 19 [(0, z_r l0), (2, .int l2), (3, .int l3), (4, .int l4), (5, .int l5)] [] h res.2 (some (.int res.1))) {h : z_H} {l0 : Option Nat} {l2 : Int32} {l3 : Int32} {l4 : Int32} {l5 : Int32} {l6 : Int32} {s0 : Int32} {res : (Int32 × z_H)} (e : D_X10_liveOnPaper_104 k19 h l0 l2 l3 l4 l5 l6 s0 = some res) : z_Run G l 9 M_X10_liveOnPaper 104 [(0, z_r l0), (2, .int l2), (3, .int l3), (4, .int l4), (5, .int l5), (6, .int l6)] [.int s0] h res.2 (some (.int res.1)) := by
  unfold D_X10_liveOnPaper_104 at e
  refine z_istore (L' := [(8, .int s0), (0, z_r l0), (2, .int l2), (3, .int l3), (4, .int l4), (5, .int l5), (6, .int l6)]) dX10_liveOnPaper_104 (by decide) rfl ?_
  refine z_aload_n 1 dX10_liveOnPaper_106 rfl ?_
  replace e := z_bd e; obtain ⟨x785, ex785, e⟩ := e
  refine z_getQ ex785 lk_X10_53 dX10_liveOnPaper_107 ?_
  refine z_aload_n 1 dX10_liveOnPaper_110 rfl ?_
  replace e := z_bd e; obtain ⟨x786, ex786, e⟩ := e
  refine z_getQ ex786 lk_X10_24 dX10_liveOnPaper_111 ?_
  refine z_iload 0 dX10_liveOnPaper_114 rfl ?_
  refine z_iload 6 dX10_liveOnPaper_116 rfl ?_
  refine z_iload_n 3 dX10_liveOnPaper_118 rfl ?_
  refine z_iconst (v := 2) dX10_liveOnPaper_119 (by decide) ?_
  refine z_irem dX10_liveOnPaper_120 (by decide) ?_
  replace e := z_bd e; obtain ⟨o788, eo788, e⟩ := e
  replace e := z_bd e; obtain ⟨p787, ep787, e⟩ := e
  refine z_cV [z_r x786, .int s0, .int l6, .int (l3 - l3 / (2:Int32) * (2:Int32))] (S_X0_carryOut  ep787) eo788 rfl ml_X10_317 ck_X0_carryOut vk_X0_carryOut dX10_liveOnPaper_121 (by decide) rfl (Nat.zero_le _) rfl ?_
  refine z_if_lt (tgt := 135) dX10_liveOnPaper_124 (by decide) (fun c789 => ?_) (fun c789 => ?_)
  · rw [if_pos c789] at e
    exact z_weak [1, 2, 3, 4, 5] rfl (S_X10_liveOnPaper_135  @hk19 e)
  · rw [if_neg c789] at e
    refine z_iload 0 dX10_liveOnPaper_127 rfl ?_
    refine z_if_ne (tgt := 135) dX10_liveOnPaper_129 (by decide) (fun c790 => ?_) (fun c790 => ?_)
    · rw [if_neg c790] at e
      exact z_weak [1, 2, 3, 4, 5] rfl (S_X10_liveOnPaper_135  @hk19 e)
    · rw [if_pos c790] at e
      replace e := z_bd e; obtain ⟨x791, ex791, e⟩ := e
      refine z_iinc (q := 4) (v := x791) (L' := [(4, .int x791), (8, .int s0), (0, z_r l0), (2, .int l2), (3, .int l3), (5, .int l5), (6, .int l6)]) dX10_liveOnPaper_132 rfl (Option.some.inj ex791) (by decide) rfl ?_
      exact z_weak [2, 3, 4, 0, 5] rfl (S_X10_liveOnPaper_135  @hk19 e)
def D_X10_liveOnPaper_19b (k19 : z_H → Option Nat → Int32 → Int32 → Int32 → Int32 → Option (Int32 × z_H)) (h : z_H) (l0 : Option Nat) (l2 : Int32) (l3 : Int32) (l4 : Int32) (l5 : Int32) : Option (Int32 × z_H) :=
  if l2 ≤ l5 then
    some (l4, h)
  else
    (z_gQ 10 h l0 3).bind fun x793 =>
    (z_gI 9 h x793 8).bind fun x794 =>
    if x794 ≤ 0 then
      some (l4, h)
    else
      (z_gQ 10 h l0 3).bind fun x796 =>
      (z_gQ 9 h x796 4).bind fun x797 =>
      (z_aI .int h x797 (0:Int32)).bind fun x798 =>
      (z_xI (z_xs 1) (0:Int32)).bind fun x799 =>
      if x799 ≤ x798 then
        some (l4, h)
      else
        (D_X10_drawBehind  h l3).bind fun p801 =>
        (z_gQ 10 p801.2 l0 3).bind fun x802 =>
        (z_gI 9 p801.2 x802 8).bind fun x803 =>
        if x803 = 0 then none else
        (some (p801.1 - p801.1 / x803 * x803)).bind fun x805 =>
        (D_X10_drawBehind  p801.2 p801.1).bind fun p806 =>
        (some (p806.1 - p806.1 / (4:Int32) * (4:Int32))).bind fun x807 =>
        (D_X10_drawBehind  p806.2 p806.1).bind fun p808 =>
        if (2:Int32) ≤ x807 then
          if x807 = (2:Int32) then
            D_X10_liveOnPaper_104  k19 p808.2 l0 l2 p808.1 l4 l5 x805 (1:Int32)
          else
            D_X10_liveOnPaper_104  k19 p808.2 l0 l2 p808.1 l4 l5 x805 (2:Int32)
        else
          D_X10_liveOnPaper_104  k19 p808.2 l0 l2 p808.1 l4 l5 x805 (0:Int32)
def D_X10_liveOnPaper_19 (n : Nat) : z_H → Option Nat → Int32 → Int32 → Int32 → Int32 → Option (Int32 × z_H) := Nat.rec (motive := fun _ => z_H → Option Nat → Int32 → Int32 → Int32 → Int32 → Option (Int32 × z_H)) (fun _ _ _ _ _ _ => none) (fun _ k => D_X10_liveOnPaper_19b  k) n
set_option maxRecDepth 100000 in
set_option maxHeartbeats 4000000 in
theorem S_X10_liveOnPaper_19 {G : z_G} {l : Launch}  (n : Nat) : ∀ {h : z_H} {l0 : Option Nat} {l2 : Int32} {l3 : Int32} {l4 : Int32} {l5 : Int32} {res : (Int32 × z_H)}, D_X10_liveOnPaper_19  n h l0 l2 l3 l4 l5 = some res → z_Run G l 9 M_X10_liveOnPaper 19 [(0, z_r l0), (2, .int l2), (3, .int l3), (4, .int l4), (5, .int l5)] [] h res.2 (some (.int res.1)) := by
  induction n with
  | zero => intro h l0 l2 l3 l4 l5 res e; cases e
  | succ n hk19 =>
    intro h l0 l2 l3 l4 l5 res e
    replace e : D_X10_liveOnPaper_19b  (D_X10_liveOnPaper_19  n) h l0 l2 l3 l4 l5 = some res := e
    unfold D_X10_liveOnPaper_19b at e
    refine z_iload 4 dX10_liveOnPaper_19 rfl ?_
    refine z_iload_n 1 dX10_liveOnPaper_21 rfl ?_
    refine z_icmp_ge (tgt := 154) dX10_liveOnPaper_22 (by decide) (fun c792 => ?_) (fun c792 => ?_)
    · rw [if_pos c792] at e
      refine z_iload 3 dX10_liveOnPaper_154 rfl ?_
      cases e
      exact z_iret dX10_liveOnPaper_156 rfl
    · rw [if_neg c792] at e
      refine z_aload_n 0 dX10_liveOnPaper_25 rfl ?_
      replace e := z_bd e; obtain ⟨x793, ex793, e⟩ := e
      refine z_getQ ex793 lk_X10_24 dX10_liveOnPaper_26 ?_
      replace e := z_bd e; obtain ⟨x794, ex794, e⟩ := e
      refine z_getI ex794 lk_X10_108 dX10_liveOnPaper_29 ?_
      refine z_if_le (tgt := 154) dX10_liveOnPaper_32 (by decide) (fun c795 => ?_) (fun c795 => ?_)
      · rw [if_pos c795] at e
        refine z_iload 3 dX10_liveOnPaper_154 rfl ?_
        cases e
        exact z_iret dX10_liveOnPaper_156 rfl
      · rw [if_neg c795] at e
        refine z_aload_n 0 dX10_liveOnPaper_35 rfl ?_
        replace e := z_bd e; obtain ⟨x796, ex796, e⟩ := e
        refine z_getQ ex796 lk_X10_24 dX10_liveOnPaper_36 ?_
        replace e := z_bd e; obtain ⟨x797, ex797, e⟩ := e
        refine z_getQ ex797 lk_X10_168 dX10_liveOnPaper_39 ?_
        refine z_iconst (v := 0) dX10_liveOnPaper_42 (by decide) ?_
        replace e := z_bd e; obtain ⟨x798, ex798, e⟩ := e
        refine z_iald ex798 dX10_liveOnPaper_43 ?_
        refine z_gets (q := (1, "TERM_MOST", 0)) (by decide) gs_X10_165 dX10_liveOnPaper_44 ?_
        refine z_iconst (v := 0) dX10_liveOnPaper_47 (by decide) ?_
        replace e := z_bd e; obtain ⟨x799, ex799, e⟩ := e
        refine z_xald (p0 := z_xs 1) rfl ex799 dX10_liveOnPaper_48 ?_
        refine z_icmp_ge (tgt := 154) dX10_liveOnPaper_49 (by decide) (fun c800 => ?_) (fun c800 => ?_)
        · rw [if_pos c800] at e
          refine z_iload 3 dX10_liveOnPaper_154 rfl ?_
          cases e
          exact z_iret dX10_liveOnPaper_156 rfl
        · rw [if_neg c800] at e
          refine z_iload_n 2 dX10_liveOnPaper_52 rfl ?_
          replace e := z_bd e; obtain ⟨p801, ep801, e⟩ := e
          refine z_cS [.int l3] (S_X10_drawBehind  ep801) ml_X10_331 ck_X10_drawBehind st_X10_drawBehind dX10_liveOnPaper_53 (by decide) rfl (Nat.zero_le _) rfl ?_
          refine z_istore_n (L' := [(3, .int p801.1), (0, z_r l0), (2, .int l2), (4, .int l4), (5, .int l5)]) dX10_liveOnPaper_56 rfl (by decide) rfl ?_
          refine z_iload_n 0 dX10_liveOnPaper_57 rfl ?_
          refine z_aload_n 1 dX10_liveOnPaper_58 rfl ?_
          replace e := z_bd e; obtain ⟨x802, ex802, e⟩ := e
          refine z_getQ ex802 lk_X10_24 dX10_liveOnPaper_59 ?_
          replace e := z_bd e; obtain ⟨x803, ex803, e⟩ := e
          refine z_getI ex803 lk_X10_108 dX10_liveOnPaper_62 ?_
          replace e := z_ifn e; obtain ⟨c804, e⟩ := e
          refine z_irem dX10_liveOnPaper_65 c804 ?_
          replace e := z_bd e; obtain ⟨x805, ex805, e⟩ := e
          refine z_topI ex805 ?_
          refine z_istore (L' := [(6, .int x805), (3, .int p801.1), (0, z_r l0), (2, .int l2), (4, .int l4), (5, .int l5)]) dX10_liveOnPaper_66 (by decide) rfl ?_
          refine z_iload_n 1 dX10_liveOnPaper_68 rfl ?_
          replace e := z_bd e; obtain ⟨p806, ep806, e⟩ := e
          refine z_cS [.int p801.1] (S_X10_drawBehind  ep806) ml_X10_331 ck_X10_drawBehind st_X10_drawBehind dX10_liveOnPaper_69 (by decide) rfl (Nat.zero_le _) rfl ?_
          refine z_istore_n (L' := [(3, .int p806.1), (6, .int x805), (0, z_r l0), (2, .int l2), (4, .int l4), (5, .int l5)]) dX10_liveOnPaper_72 rfl (by decide) rfl ?_
          refine z_iload_n 0 dX10_liveOnPaper_73 rfl ?_
          refine z_iconst (v := 4) dX10_liveOnPaper_74 (by decide) ?_
          refine z_irem dX10_liveOnPaper_75 (by decide) ?_
          replace e := z_bd e; obtain ⟨x807, ex807, e⟩ := e
          refine z_topI ex807 ?_
          refine z_istore (L' := [(7, .int x807), (3, .int p806.1), (6, .int x805), (0, z_r l0), (2, .int l2), (4, .int l4), (5, .int l5)]) dX10_liveOnPaper_76 (by decide) rfl ?_
          refine z_iload_n 1 dX10_liveOnPaper_78 rfl ?_
          replace e := z_bd e; obtain ⟨p808, ep808, e⟩ := e
          refine z_cS [.int p806.1] (S_X10_drawBehind  ep808) ml_X10_331 ck_X10_drawBehind st_X10_drawBehind dX10_liveOnPaper_79 (by decide) rfl (Nat.zero_le _) rfl ?_
          refine z_istore_n (L' := [(3, .int p808.1), (7, .int x807), (6, .int x805), (0, z_r l0), (2, .int l2), (4, .int l4), (5, .int l5)]) dX10_liveOnPaper_82 rfl (by decide) rfl ?_
          refine z_iload 1 dX10_liveOnPaper_83 rfl ?_
          refine z_iconst (v := 2) dX10_liveOnPaper_85 (by decide) ?_
          refine z_icmp_ge (tgt := 93) dX10_liveOnPaper_86 (by decide) (fun c809 => ?_) (fun c809 => ?_)
          · rw [if_pos c809] at e
            refine z_iload 1 dX10_liveOnPaper_93 rfl ?_
            refine z_iconst (v := 2) dX10_liveOnPaper_95 (by decide) ?_
            refine z_icmp_ne (tgt := 103) dX10_liveOnPaper_96 (by decide) (fun c810 => ?_) (fun c810 => ?_)
            · rw [if_neg c810] at e
              refine z_iconst (v := 2) dX10_liveOnPaper_103 (by decide) ?_
              exact z_weak [3, 4, 0, 5, 6, 2] rfl (S_X10_liveOnPaper_104  @hk19 e)
            · rw [if_pos c810] at e
              refine z_iconst (v := 1) dX10_liveOnPaper_99 (by decide) ?_
              refine z_goto (tgt := 104) dX10_liveOnPaper_100 (by decide) ?_
              exact z_weak [3, 4, 0, 5, 6, 2] rfl (S_X10_liveOnPaper_104  @hk19 e)
          · rw [if_neg c809] at e
            refine z_iconst (v := 0) dX10_liveOnPaper_89 (by decide) ?_
            refine z_goto (tgt := 104) dX10_liveOnPaper_90 (by decide) ?_
            exact z_weak [3, 4, 0, 5, 6, 2] rfl (S_X10_liveOnPaper_104  @hk19 e)
def D_X10_liveOnPaper (h : z_H) (l0 : Option Nat) (l1 : Int32) (l2 : Int32) : Option (Int32 × z_H) :=
  (z_gQ 10 h l0 3).bind fun x811 =>
  (z_gQ 10 h l0 0).bind fun x812 =>
  (z_ob 9 h x811).bind fun _ =>
  (D_X9_become  h x811 x812).bind fun p813 =>
  D_X10_liveOnPaper_19   z_F p813 l0 l2 l1 (0:Int32) (0:Int32)
set_option maxRecDepth 100000 in
set_option maxHeartbeats 4000000 in
theorem S_X10_liveOnPaper {G : z_G} {l : Launch} {h : z_H} {l0 : Option Nat} {l1 : Int32} {l2 : Int32} {res : (Int32 × z_H)} (e : D_X10_liveOnPaper h l0 l1 l2 = some res) : z_Meth G l 9 M_X10_liveOnPaper [z_r l0, .int l1, .int l2] h res.2 (some (.int res.1)) := by
  refine z_Meth.of ck_X10_liveOnPaper.2.2.2.2 (by simp [lg_sl, z_ci, z_cj, z_cr, z_cx]) ck_X10_liveOnPaper.1 ?_
  rw [show lv_args 0 [z_r l0, .int l1, .int l2] = [(0, z_r l0), (1, .int l1), (2, .int l2)] from by simp [lv_args, z_ci, z_cj, z_cr, z_cx]]
  unfold D_X10_liveOnPaper at e
  refine z_aload_n 0 dX10_liveOnPaper_0 rfl ?_
  replace e := z_bd e; obtain ⟨x811, ex811, e⟩ := e
  refine z_getQ ex811 lk_X10_24 dX10_liveOnPaper_1 ?_
  refine z_aload_n 0 dX10_liveOnPaper_4 rfl ?_
  replace e := z_bd e; obtain ⟨x812, ex812, e⟩ := e
  refine z_getQ ex812 lk_X10_12 dX10_liveOnPaper_5 ?_
  replace e := z_bd e; obtain ⟨o814, eo814, e⟩ := e
  replace e := z_bd e; obtain ⟨p813, ep813, e⟩ := e
  refine z_cV [z_r x812] (S_X9_become  ep813) eo814 rfl ml_X10_306 ck_X9_become vk_X9_become dX10_liveOnPaper_8 (by decide) rfl (Nat.zero_le _) rfl ?_
  refine z_iload_n 1 dX10_liveOnPaper_11 rfl ?_
  refine z_istore_n (L' := [(3, .int l1), (0, z_r l0), (1, .int l1), (2, .int l2)]) dX10_liveOnPaper_12 rfl (by decide) rfl ?_
  refine z_iconst (v := 0) dX10_liveOnPaper_13 (by decide) ?_
  refine z_istore (L' := [(4, .int (0:Int32)), (3, .int l1), (0, z_r l0), (1, .int l1), (2, .int l2)]) dX10_liveOnPaper_14 (by decide) rfl ?_
  refine z_iconst (v := 0) dX10_liveOnPaper_16 (by decide) ?_
  refine z_istore (L' := [(5, .int (0:Int32)), (4, .int (0:Int32)), (3, .int l1), (0, z_r l0), (1, .int l1), (2, .int l2)]) dX10_liveOnPaper_17 (by decide) rfl ?_
  exact z_weak [3, 5, 2, 1, 0] rfl (S_X10_liveOnPaper_19   z_F e)
theorem dX10_years_0 : decode cX10_years 0 = .ok (.iload_n 1, 1) := by decide +kernel
theorem dX10_years_1 : decode cX10_years 1 = .ok (.ifCond .lt 21, 3) := by decide +kernel
theorem dX10_years_4 : decode cX10_years 4 = .ok (.iload_n 1, 1) := by decide +kernel
theorem dX10_years_5 : decode cX10_years 5 = .ok (.ldc_w 302, 3) := by decide +kernel
theorem dX10_years_8 : decode cX10_years 8 = .ok (.if_icmp .gt 14, 3) := by decide +kernel
theorem dX10_years_11 : decode cX10_years 11 = .ok (.iload_n 2, 1) := by decide +kernel
theorem dX10_years_12 : decode cX10_years 12 = .ok (.iconst 1, 1) := by decide +kernel
theorem dX10_years_13 : decode cX10_years 13 = .ok (.if_icmp .lt 9, 3) := by decide +kernel
theorem dX10_years_16 : decode cX10_years 16 = .ok (.iload_n 2, 1) := by decide +kernel
theorem dX10_years_17 : decode cX10_years 17 = .ok (.bipush 60, 2) := by decide +kernel
theorem dX10_years_19 : decode cX10_years 19 = .ok (.if_icmp .le 9, 3) := by decide +kernel
theorem dX10_years_22 : decode cX10_years 22 = .ok (.aload_n 0, 1) := by decide +kernel
theorem dX10_years_23 : decode cX10_years 23 = .ok (.iconst (-1), 1) := by decide +kernel
theorem dX10_years_24 : decode cX10_years 24 = .ok (.invokevirtual 104, 3) := by decide +kernel
theorem dX10_years_27 : decode cX10_years 27 = .ok (.ireturn, 1) := by decide +kernel
theorem dX10_years_28 : decode cX10_years 28 = .ok (.aload_n 0, 1) := by decide +kernel
theorem dX10_years_29 : decode cX10_years 29 = .ok (.getfield 12, 3) := by decide +kernel
theorem dX10_years_32 : decode cX10_years 32 = .ok (.getfield 108, 3) := by decide +kernel
theorem dX10_years_35 : decode cX10_years 35 = .ok (.ifCond .ne 10, 3) := by decide +kernel
theorem dX10_years_38 : decode cX10_years 38 = .ok (.aload_n 0, 1) := by decide +kernel
theorem dX10_years_39 : decode cX10_years 39 = .ok (.bipush (-3), 2) := by decide +kernel
theorem dX10_years_41 : decode cX10_years 41 = .ok (.invokevirtual 104, 3) := by decide +kernel
theorem dX10_years_44 : decode cX10_years 44 = .ok (.ireturn, 1) := by decide +kernel
theorem dX10_years_45 : decode cX10_years 45 = .ok (.aload_n 0, 1) := by decide +kernel
theorem dX10_years_46 : decode cX10_years 46 = .ok (.aload_n 0, 1) := by decide +kernel
theorem dX10_years_47 : decode cX10_years 47 = .ok (.iload_n 1, 1) := by decide +kernel
theorem dX10_years_48 : decode cX10_years 48 = .ok (.iload_n 2, 1) := by decide +kernel
theorem dX10_years_49 : decode cX10_years 49 = .ok (.invokevirtual 303, 3) := by decide +kernel
theorem dX10_years_52 : decode cX10_years 52 = .ok (.invokevirtual 118, 3) := by decide +kernel
theorem dX10_years_55 : decode cX10_years 55 = .ok (.ireturn, 1) := by decide +kernel
def D_X10_years_22 (h : z_H) (l0 : Option Nat) : Option (Int32 × z_H) :=
  (z_ob 10 h l0).bind fun _ =>
  (D_X10_refuse  h l0 (-1:Int32)).bind fun p815 =>
  some (p815.1, p815.2)
set_option maxRecDepth 100000 in
set_option maxHeartbeats 4000000 in
theorem S_X10_years_22 {G : z_G} {l : Launch}  {h : z_H} {l0 : Option Nat} {res : (Int32 × z_H)} (e : D_X10_years_22  h l0 = some res) : z_Run G l 10 M_X10_years 22 [(0, z_r l0)] [] h res.2 (some (.int res.1)) := by
  unfold D_X10_years_22 at e
  refine z_aload_n 0 dX10_years_22 rfl ?_
  refine z_iconst (v := -1) dX10_years_23 (by decide) ?_
  replace e := z_bd e; obtain ⟨o816, eo816, e⟩ := e
  replace e := z_bd e; obtain ⟨p815, ep815, e⟩ := e
  refine z_cV [.int (-1:Int32)] (S_X10_refuse  ep815) eo816 rfl ml_X10_104 ck_X10_refuse vk_X10_refuse dX10_years_24 (by decide) rfl (Nat.zero_le _) rfl ?_
  cases e
  exact z_iret dX10_years_27 rfl
def D_X10_years (h : z_H) (l0 : Option Nat) (l1 : Int32) (l2 : Int32) : Option (Int32 × z_H) :=
  if l1 < 0 then
    D_X10_years_22   h l0
  else
    if (1000000:Int32) < l1 then
      D_X10_years_22   h l0
    else
      if l2 < (1:Int32) then
        D_X10_years_22   h l0
      else
        if l2 ≤ (60:Int32) then
          (z_gQ 10 h l0 0).bind fun x821 =>
          (z_gI 9 h x821 8).bind fun x822 =>
          if x822 = 0 then
            (z_ob 10 h l0).bind fun _ =>
            (D_X10_refuse  h l0 (-3:Int32)).bind fun p828 =>
            some (p828.1, p828.2)
          else
            (z_ob 10 h l0).bind fun _ =>
            (D_X10_liveOnPaper  h l0 l1 l2).bind fun p824 =>
            (z_ob 10 p824.2 l0).bind fun _ =>
            (D_X10_grant  p824.2 l0 p824.1).bind fun p826 =>
            some (p826.1, p826.2)
        else
          D_X10_years_22   h l0
set_option maxRecDepth 100000 in
set_option maxHeartbeats 4000000 in
theorem S_X10_years {G : z_G} {l : Launch} {h : z_H} {l0 : Option Nat} {l1 : Int32} {l2 : Int32} {res : (Int32 × z_H)} (e : D_X10_years h l0 l1 l2 = some res) : z_Meth G l 10 M_X10_years [z_r l0, .int l1, .int l2] h res.2 (some (.int res.1)) := by
  refine z_Meth.of ck_X10_years.2.2.2.2 (by simp [lg_sl, z_ci, z_cj, z_cr, z_cx]) ck_X10_years.1 ?_
  rw [show lv_args 0 [z_r l0, .int l1, .int l2] = [(0, z_r l0), (1, .int l1), (2, .int l2)] from by simp [lv_args, z_ci, z_cj, z_cr, z_cx]]
  unfold D_X10_years at e
  refine z_iload_n 1 dX10_years_0 rfl ?_
  refine z_if_lt (tgt := 22) dX10_years_1 (by decide) (fun c817 => ?_) (fun c817 => ?_)
  · rw [if_pos c817] at e
    exact z_weak [0] rfl (S_X10_years_22   e)
  · rw [if_neg c817] at e
    refine z_iload_n 1 dX10_years_4 rfl ?_
    refine z_ldcw dX10_years_5 kc_X10_302 ?_
    refine z_icmp_gt (tgt := 22) dX10_years_8 (by decide) (fun c818 => ?_) (fun c818 => ?_)
    · rw [if_pos c818] at e
      exact z_weak [0] rfl (S_X10_years_22   e)
    · rw [if_neg c818] at e
      refine z_iload_n 2 dX10_years_11 rfl ?_
      refine z_iconst (v := 1) dX10_years_12 (by decide) ?_
      refine z_icmp_lt (tgt := 22) dX10_years_13 (by decide) (fun c819 => ?_) (fun c819 => ?_)
      · rw [if_pos c819] at e
        exact z_weak [0] rfl (S_X10_years_22   e)
      · rw [if_neg c819] at e
        refine z_iload_n 2 dX10_years_16 rfl ?_
        refine z_bipush (v := 60) dX10_years_17 (by decide) ?_
        refine z_icmp_le (tgt := 28) dX10_years_19 (by decide) (fun c820 => ?_) (fun c820 => ?_)
        · rw [if_pos c820] at e
          refine z_aload_n 0 dX10_years_28 rfl ?_
          replace e := z_bd e; obtain ⟨x821, ex821, e⟩ := e
          refine z_getQ ex821 lk_X10_12 dX10_years_29 ?_
          replace e := z_bd e; obtain ⟨x822, ex822, e⟩ := e
          refine z_getI ex822 lk_X10_108 dX10_years_32 ?_
          refine z_if_ne (tgt := 45) dX10_years_35 (by decide) (fun c823 => ?_) (fun c823 => ?_)
          · rw [if_neg c823] at e
            refine z_aload_n 0 dX10_years_45 rfl ?_
            refine z_aload_n 0 dX10_years_46 rfl ?_
            refine z_iload_n 1 dX10_years_47 rfl ?_
            refine z_iload_n 2 dX10_years_48 rfl ?_
            replace e := z_bd e; obtain ⟨o825, eo825, e⟩ := e
            replace e := z_bd e; obtain ⟨p824, ep824, e⟩ := e
            refine z_cV [.int l1, .int l2] (S_X10_liveOnPaper  ep824) eo825 rfl ml_X10_303 ck_X10_liveOnPaper vk_X10_liveOnPaper dX10_years_49 (by decide) rfl (by simp [z_ci, z_cj, z_cr, z_cx]) rfl ?_
            replace e := z_bd e; obtain ⟨o827, eo827, e⟩ := e
            replace e := z_bd e; obtain ⟨p826, ep826, e⟩ := e
            refine z_cV [.int p824.1] (S_X10_grant  ep826) eo827 rfl ml_X10_118 ck_X10_grant vk_X10_grant dX10_years_52 (by decide) rfl (Nat.zero_le _) rfl ?_
            cases e
            exact z_iret dX10_years_55 rfl
          · rw [if_pos c823] at e
            refine z_aload_n 0 dX10_years_38 rfl ?_
            refine z_bipush (v := -3) dX10_years_39 (by decide) ?_
            replace e := z_bd e; obtain ⟨o829, eo829, e⟩ := e
            replace e := z_bd e; obtain ⟨p828, ep828, e⟩ := e
            refine z_cV [.int (-3:Int32)] (S_X10_refuse  ep828) eo829 rfl ml_X10_104 ck_X10_refuse vk_X10_refuse dX10_years_41 (by decide) rfl (Nat.zero_le _) rfl ?_
            cases e
            exact z_iret dX10_years_44 rfl
        · rw [if_neg c820] at e
          exact z_weak [0] rfl (S_X10_years_22   e)
theorem dX11_keepAll_0 : decode cX11_keepAll 0 = .ok (.iconst 0, 1) := by decide +kernel
theorem dX11_keepAll_1 : decode cX11_keepAll 1 = .ok (.istore_n 2, 1) := by decide +kernel
theorem dX11_keepAll_2 : decode cX11_keepAll 2 = .ok (.iload_n 2, 1) := by decide +kernel
theorem dX11_keepAll_3 : decode cX11_keepAll 3 = .ok (.bipush 39, 2) := by decide +kernel
theorem dX11_keepAll_5 : decode cX11_keepAll 5 = .ok (.if_icmp .ge 28, 3) := by decide +kernel
theorem dX11_keepAll_8 : decode cX11_keepAll 8 = .ok (.aload_n 0, 1) := by decide +kernel
theorem dX11_keepAll_9 : decode cX11_keepAll 9 = .ok (.getfield 23, 3) := by decide +kernel
theorem dX11_keepAll_12 : decode cX11_keepAll 12 = .ok (.bipush 39, 2) := by decide +kernel
theorem dX11_keepAll_14 : decode cX11_keepAll 14 = .ok (.iload_n 1, 1) := by decide +kernel
theorem dX11_keepAll_15 : decode cX11_keepAll 15 = .ok (.imul, 1) := by decide +kernel
theorem dX11_keepAll_16 : decode cX11_keepAll 16 = .ok (.iload_n 2, 1) := by decide +kernel
theorem dX11_keepAll_17 : decode cX11_keepAll 17 = .ok (.iadd, 1) := by decide +kernel
theorem dX11_keepAll_18 : decode cX11_keepAll 18 = .ok (.aload_n 0, 1) := by decide +kernel
theorem dX11_keepAll_19 : decode cX11_keepAll 19 = .ok (.getfield 13, 3) := by decide +kernel
theorem dX11_keepAll_22 : decode cX11_keepAll 22 = .ok (.iconst 5, 1) := by decide +kernel
theorem dX11_keepAll_23 : decode cX11_keepAll 23 = .ok (.iload_n 2, 1) := by decide +kernel
theorem dX11_keepAll_24 : decode cX11_keepAll 24 = .ok (.iadd, 1) := by decide +kernel
theorem dX11_keepAll_25 : decode cX11_keepAll 25 = .ok (.iaload, 1) := by decide +kernel
theorem dX11_keepAll_26 : decode cX11_keepAll 26 = .ok (.iastore, 1) := by decide +kernel
theorem dX11_keepAll_27 : decode cX11_keepAll 27 = .ok (.iinc 2 1, 3) := by decide +kernel
theorem dX11_keepAll_30 : decode cX11_keepAll 30 = .ok (.goto (-28), 3) := by decide +kernel
theorem dX11_keepAll_33 : decode cX11_keepAll 33 = .ok (.return_, 1) := by decide +kernel
def D_X11_keepAll_2b (k2 : z_H → Option Nat → Int32 → Int32 → Option z_H) (h : z_H) (l0 : Option Nat) (l1 : Int32) (l2 : Int32) : Option z_H :=
  if (39:Int32) ≤ l2 then
    some h
  else
    (z_gQ 11 h l0 6).bind fun x831 =>
    (z_gQ 11 h l0 3).bind fun x832 =>
    (z_aI .int h x832 ((5:Int32) + l2)).bind fun x833 =>
    (z_sI h x831 (((39:Int32) * l1) + l2) x833).bind fun h834 =>
    (some (l2 + (1:Int32))).bind fun x835 =>
    k2 h834 l0 l1 x835
def D_X11_keepAll_2 (n : Nat) : z_H → Option Nat → Int32 → Int32 → Option z_H := Nat.rec (motive := fun _ => z_H → Option Nat → Int32 → Int32 → Option z_H) (fun _ _ _ _ => none) (fun _ k => D_X11_keepAll_2b  k) n
set_option maxRecDepth 100000 in
set_option maxHeartbeats 4000000 in
theorem S_X11_keepAll_2 {G : z_G} {l : Launch}  (n : Nat) : ∀ {h : z_H} {l0 : Option Nat} {l1 : Int32} {l2 : Int32} {res : z_H}, D_X11_keepAll_2  n h l0 l1 l2 = some res → z_Run G l 4 M_X11_keepAll 2 [(0, z_r l0), (1, .int l1), (2, .int l2)] [] h res none := by
  induction n with
  | zero => intro h l0 l1 l2 res e; cases e
  | succ n hk2 =>
    intro h l0 l1 l2 res e
    replace e : D_X11_keepAll_2b  (D_X11_keepAll_2  n) h l0 l1 l2 = some res := e
    unfold D_X11_keepAll_2b at e
    refine z_iload_n 2 dX11_keepAll_2 rfl ?_
    refine z_bipush (v := 39) dX11_keepAll_3 (by decide) ?_
    refine z_icmp_ge (tgt := 33) dX11_keepAll_5 (by decide) (fun c830 => ?_) (fun c830 => ?_)
    · rw [if_pos c830] at e
      cases e
      exact z_vret dX11_keepAll_33 rfl
    · rw [if_neg c830] at e
      refine z_aload_n 0 dX11_keepAll_8 rfl ?_
      replace e := z_bd e; obtain ⟨x831, ex831, e⟩ := e
      refine z_getQ ex831 lk_X11_23 dX11_keepAll_9 ?_
      refine z_bipush (v := 39) dX11_keepAll_12 (by decide) ?_
      refine z_iload_n 1 dX11_keepAll_14 rfl ?_
      refine z_imul dX11_keepAll_15 ?_
      refine z_iload_n 2 dX11_keepAll_16 rfl ?_
      refine z_iadd dX11_keepAll_17 ?_
      refine z_aload_n 0 dX11_keepAll_18 rfl ?_
      replace e := z_bd e; obtain ⟨x832, ex832, e⟩ := e
      refine z_getQ ex832 lk_X11_13 dX11_keepAll_19 ?_
      refine z_iconst (v := 5) dX11_keepAll_22 (by decide) ?_
      refine z_iload_n 2 dX11_keepAll_23 rfl ?_
      refine z_iadd dX11_keepAll_24 ?_
      replace e := z_bd e; obtain ⟨x833, ex833, e⟩ := e
      refine z_iald ex833 dX11_keepAll_25 ?_
      replace e := z_bd e; obtain ⟨h834, eh834, e⟩ := e
      refine z_iast eh834 dX11_keepAll_26 ?_
      replace e := z_bd e; obtain ⟨x835, ex835, e⟩ := e
      refine z_iinc (q := 2) (v := x835) (L' := [(2, .int x835), (0, z_r l0), (1, .int l1)]) dX11_keepAll_27 rfl (Option.some.inj ex835) (by decide) rfl ?_
      refine z_goto (tgt := 2) dX11_keepAll_30 (by decide) ?_
      exact z_weak [1, 2, 0] rfl (hk2 e)
def D_X11_keepAll (h : z_H) (l0 : Option Nat) (l1 : Int32) : Option z_H :=
  D_X11_keepAll_2   z_F h l0 l1 (0:Int32)
set_option maxRecDepth 100000 in
set_option maxHeartbeats 4000000 in
theorem S_X11_keepAll {G : z_G} {l : Launch} {h : z_H} {l0 : Option Nat} {l1 : Int32} {res : z_H} (e : D_X11_keepAll h l0 l1 = some res) : z_Meth G l 4 M_X11_keepAll [z_r l0, .int l1] h res none := by
  refine z_Meth.of ck_X11_keepAll.2.2.2.2 (by simp [lg_sl, z_ci, z_cj, z_cr, z_cx]) ck_X11_keepAll.1 ?_
  rw [show lv_args 0 [z_r l0, .int l1] = [(0, z_r l0), (1, .int l1)] from by simp [lv_args, z_ci, z_cj, z_cr, z_cx]]
  unfold D_X11_keepAll at e
  refine z_iconst (v := 0) dX11_keepAll_0 (by decide) ?_
  refine z_istore_n (L' := [(2, .int (0:Int32)), (0, z_r l0), (1, .int l1)]) dX11_keepAll_1 rfl (by decide) rfl ?_
  exact z_weak [1, 2, 0] rfl (S_X11_keepAll_2   z_F e)
theorem dX11_draw_0 : decode cX11_draw 0 = .ok (.aload_n 0, 1) := by decide +kernel
theorem dX11_draw_1 : decode cX11_draw 1 = .ok (.aload_n 0, 1) := by decide +kernel
theorem dX11_draw_2 : decode cX11_draw 2 = .ok (.getfield 559, 3) := by decide +kernel
theorem dX11_draw_5 : decode cX11_draw 5 = .ok (.ldc2_w 562, 3) := by decide +kernel
theorem dX11_draw_8 : decode cX11_draw 8 = .ok (.lmul, 1) := by decide +kernel
theorem dX11_draw_9 : decode cX11_draw 9 = .ok (.ldc2_w 564, 3) := by decide +kernel
theorem dX11_draw_12 : decode cX11_draw 12 = .ok (.ladd, 1) := by decide +kernel
theorem dX11_draw_13 : decode cX11_draw 13 = .ok (.ldc2_w 566, 3) := by decide +kernel
theorem dX11_draw_16 : decode cX11_draw 16 = .ok (.lrem, 1) := by decide +kernel
theorem dX11_draw_17 : decode cX11_draw 17 = .ok (.putfield 559, 3) := by decide +kernel
theorem dX11_draw_20 : decode cX11_draw 20 = .ok (.aload_n 0, 1) := by decide +kernel
theorem dX11_draw_21 : decode cX11_draw 21 = .ok (.getfield 559, 3) := by decide +kernel
theorem dX11_draw_24 : decode cX11_draw 24 = .ok (.iload_n 1, 1) := by decide +kernel
theorem dX11_draw_25 : decode cX11_draw 25 = .ok (.i2l, 1) := by decide +kernel
theorem dX11_draw_26 : decode cX11_draw 26 = .ok (.lrem, 1) := by decide +kernel
theorem dX11_draw_27 : decode cX11_draw 27 = .ok (.l2i, 1) := by decide +kernel
theorem dX11_draw_28 : decode cX11_draw 28 = .ok (.ireturn, 1) := by decide +kernel
def D_X11_draw (h : z_H) (l0 : Option Nat) (l1 : Int32) : Option (Int32 × z_H) :=
  (z_gJ 11 h l0 56).bind fun x836 =>
  (z_pV 11 h l0 56 (.long (((x836 * (1103:Int64)) + (12345:Int64)) - ((x836 * (1103:Int64)) + (12345:Int64)) / (1000003:Int64) * (1000003:Int64)))).bind fun h837 =>
  (z_gJ 11 h837 l0 56).bind fun x838 =>
  if (Int32.toInt64 l1) = 0 then none else
  some ((Int64.toInt32 (x838 - x838 / (Int32.toInt64 l1) * (Int32.toInt64 l1))), h837)
set_option maxRecDepth 100000 in
set_option maxHeartbeats 4000000 in
theorem S_X11_draw {G : z_G} {l : Launch} {h : z_H} {l0 : Option Nat} {l1 : Int32} {res : (Int32 × z_H)} (e : D_X11_draw h l0 l1 = some res) : z_Meth G l 4 M_X11_draw [z_r l0, .int l1] h res.2 (some (.int res.1)) := by
  refine z_Meth.of ck_X11_draw.2.2.2.2 (by simp [lg_sl, z_ci, z_cj, z_cr, z_cx]) ck_X11_draw.1 ?_
  rw [show lv_args 0 [z_r l0, .int l1] = [(0, z_r l0), (1, .int l1)] from by simp [lv_args, z_ci, z_cj, z_cr, z_cx]]
  unfold D_X11_draw at e
  refine z_aload_n 0 dX11_draw_0 rfl ?_
  refine z_aload_n 0 dX11_draw_1 rfl ?_
  replace e := z_bd e; obtain ⟨x836, ex836, e⟩ := e
  refine z_getJ ex836 lk_X11_559 dX11_draw_2 ?_
  refine z_ldc2 dX11_draw_5 kj_X11_562 ?_
  refine z_lmul dX11_draw_8 ?_
  refine z_ldc2 dX11_draw_9 kj_X11_564 ?_
  refine z_ladd dX11_draw_12 ?_
  refine z_ldc2 dX11_draw_13 kj_X11_566 ?_
  refine z_lrem dX11_draw_16 (by decide) ?_
  replace e := z_bd e; obtain ⟨h837, eh837, e⟩ := e
  refine z_putV eh837 lk_X11_559 wk_11_56 (fun _ => rfl) (fun _ => rfl) dX11_draw_17 ?_
  refine z_aload_n 0 dX11_draw_20 rfl ?_
  replace e := z_bd e; obtain ⟨x838, ex838, e⟩ := e
  refine z_getJ ex838 lk_X11_559 dX11_draw_21 ?_
  refine z_iload_n 1 dX11_draw_24 rfl ?_
  refine z_i2l dX11_draw_25 ?_
  replace e := z_ifn e; obtain ⟨c839, e⟩ := e
  refine z_lrem dX11_draw_26 c839 ?_
  refine z_l2i dX11_draw_27 ?_
  cases e
  exact z_iret dX11_draw_28 rfl
theorem dX11_beside_0 : decode cX11_beside 0 = .ok (.iload_n 0, 1) := by decide +kernel
theorem dX11_beside_1 : decode cX11_beside 1 = .ok (.iconst 5, 1) := by decide +kernel
theorem dX11_beside_2 : decode cX11_beside 2 = .ok (.irem, 1) := by decide +kernel
theorem dX11_beside_3 : decode cX11_beside 3 = .ok (.iload_n 1, 1) := by decide +kernel
theorem dX11_beside_4 : decode cX11_beside 4 = .ok (.iconst 1, 1) := by decide +kernel
theorem dX11_beside_5 : decode cX11_beside 5 = .ok (.if_icmp .ne 7, 3) := by decide +kernel
theorem dX11_beside_8 : decode cX11_beside 8 = .ok (.iconst 1, 1) := by decide +kernel
theorem dX11_beside_9 : decode cX11_beside 9 = .ok (.goto 13, 3) := by decide +kernel
theorem dX11_beside_12 : decode cX11_beside 12 = .ok (.iload_n 1, 1) := by decide +kernel
theorem dX11_beside_13 : decode cX11_beside 13 = .ok (.iconst 3, 1) := by decide +kernel
theorem dX11_beside_14 : decode cX11_beside 14 = .ok (.if_icmp .ne 7, 3) := by decide +kernel
theorem dX11_beside_17 : decode cX11_beside 17 = .ok (.iconst (-1), 1) := by decide +kernel
theorem dX11_beside_18 : decode cX11_beside 18 = .ok (.goto 4, 3) := by decide +kernel
theorem dX11_beside_21 : decode cX11_beside 21 = .ok (.iconst 0, 1) := by decide +kernel
theorem dX11_beside_22 : decode cX11_beside 22 = .ok (.iadd, 1) := by decide +kernel
theorem dX11_beside_23 : decode cX11_beside 23 = .ok (.istore_n 2, 1) := by decide +kernel
theorem dX11_beside_24 : decode cX11_beside 24 = .ok (.iload_n 0, 1) := by decide +kernel
theorem dX11_beside_25 : decode cX11_beside 25 = .ok (.iconst 5, 1) := by decide +kernel
theorem dX11_beside_26 : decode cX11_beside 26 = .ok (.idiv, 1) := by decide +kernel
theorem dX11_beside_27 : decode cX11_beside 27 = .ok (.iload_n 1, 1) := by decide +kernel
theorem dX11_beside_28 : decode cX11_beside 28 = .ok (.ifCond .ne 7, 3) := by decide +kernel
theorem dX11_beside_31 : decode cX11_beside 31 = .ok (.iconst 1, 1) := by decide +kernel
theorem dX11_beside_32 : decode cX11_beside 32 = .ok (.goto 13, 3) := by decide +kernel
theorem dX11_beside_35 : decode cX11_beside 35 = .ok (.iload_n 1, 1) := by decide +kernel
theorem dX11_beside_36 : decode cX11_beside 36 = .ok (.iconst 2, 1) := by decide +kernel
theorem dX11_beside_37 : decode cX11_beside 37 = .ok (.if_icmp .ne 7, 3) := by decide +kernel
theorem dX11_beside_40 : decode cX11_beside 40 = .ok (.iconst (-1), 1) := by decide +kernel
theorem dX11_beside_41 : decode cX11_beside 41 = .ok (.goto 4, 3) := by decide +kernel
theorem dX11_beside_44 : decode cX11_beside 44 = .ok (.iconst 0, 1) := by decide +kernel
theorem dX11_beside_45 : decode cX11_beside 45 = .ok (.iadd, 1) := by decide +kernel
theorem dX11_beside_46 : decode cX11_beside 46 = .ok (.istore_n 3, 1) := by decide +kernel
theorem dX11_beside_47 : decode cX11_beside 47 = .ok (.iload_n 2, 1) := by decide +kernel
theorem dX11_beside_48 : decode cX11_beside 48 = .ok (.i2l, 1) := by decide +kernel
theorem dX11_beside_49 : decode cX11_beside 49 = .ok (.lconst 0, 1) := by decide +kernel
theorem dX11_beside_50 : decode cX11_beside 50 = .ok (.ldc2_w 199, 3) := by decide +kernel
theorem dX11_beside_53 : decode cX11_beside 53 = .ok (.invokestatic 186, 3) := by decide +kernel
theorem dX11_beside_56 : decode cX11_beside 56 = .ok (.ifCond .eq 23, 3) := by decide +kernel
theorem dX11_beside_59 : decode cX11_beside 59 = .ok (.iload_n 3, 1) := by decide +kernel
theorem dX11_beside_60 : decode cX11_beside 60 = .ok (.i2l, 1) := by decide +kernel
theorem dX11_beside_61 : decode cX11_beside 61 = .ok (.lconst 0, 1) := by decide +kernel
theorem dX11_beside_62 : decode cX11_beside 62 = .ok (.ldc2_w 199, 3) := by decide +kernel
theorem dX11_beside_65 : decode cX11_beside 65 = .ok (.invokestatic 186, 3) := by decide +kernel
theorem dX11_beside_68 : decode cX11_beside 68 = .ok (.ifCond .eq 11, 3) := by decide +kernel
theorem dX11_beside_71 : decode cX11_beside 71 = .ok (.iconst 5, 1) := by decide +kernel
theorem dX11_beside_72 : decode cX11_beside 72 = .ok (.iload_n 3, 1) := by decide +kernel
theorem dX11_beside_73 : decode cX11_beside 73 = .ok (.imul, 1) := by decide +kernel
theorem dX11_beside_74 : decode cX11_beside 74 = .ok (.iload_n 2, 1) := by decide +kernel
theorem dX11_beside_75 : decode cX11_beside 75 = .ok (.iadd, 1) := by decide +kernel
theorem dX11_beside_76 : decode cX11_beside 76 = .ok (.goto 4, 3) := by decide +kernel
theorem dX11_beside_79 : decode cX11_beside 79 = .ok (.iconst (-1), 1) := by decide +kernel
theorem dX11_beside_80 : decode cX11_beside 80 = .ok (.ireturn, 1) := by decide +kernel
def D_X11_beside_45 (h : z_H) (l2 : Int32) (s0 : Int32) (s1 : Int32) : Option (Int32 × z_H) :=
  (some (s0 + s1)).bind fun x840 =>
  (D_X11_in  h (Int32.toInt64 l2) (0:Int64) (4:Int64)).bind fun p841 =>
  if p841.1 = 0 then
    some ((-1:Int32), p841.2)
  else
    (D_X11_in  p841.2 (Int32.toInt64 x840) (0:Int64) (4:Int64)).bind fun p843 =>
    if p843.1 = 0 then
      some ((-1:Int32), p843.2)
    else
      some ((((5:Int32) * x840) + l2), p843.2)
set_option maxRecDepth 100000 in
set_option maxHeartbeats 4000000 in
theorem S_X11_beside_45 {G : z_G} {l : Launch}  {h : z_H} {l2 : Int32} {s0 : Int32} {s1 : Int32} {res : (Int32 × z_H)} (e : D_X11_beside_45  h l2 s0 s1 = some res) : z_Run G l 5 M_X11_beside 45 [(2, .int l2)] [.int s1, .int s0] h res.2 (some (.int res.1)) := by
  unfold D_X11_beside_45 at e
  refine z_iadd dX11_beside_45 ?_
  replace e := z_bd e; obtain ⟨x840, ex840, e⟩ := e
  refine z_topI ex840 ?_
  refine z_istore_n (L' := [(3, .int x840), (2, .int l2)]) dX11_beside_46 rfl (by decide) rfl ?_
  refine z_iload_n 1 dX11_beside_47 rfl ?_
  refine z_i2l dX11_beside_48 ?_
  refine z_lconst (v := 0) dX11_beside_49 (by decide) ?_
  refine z_ldc2 dX11_beside_50 kj_X11_199 ?_
  replace e := z_bd e; obtain ⟨p841, ep841, e⟩ := e
  refine z_cS [.long (Int32.toInt64 l2), .long (0:Int64), .long (4:Int64)] (S_X11_in  ep841) ml_X11_186 ck_X11_in st_X11_in dX11_beside_53 (by decide) rfl (Nat.zero_le _) rfl ?_
  refine z_if_eq (tgt := 79) dX11_beside_56 (by decide) (fun c842 => ?_) (fun c842 => ?_)
  · rw [if_pos c842] at e
    refine z_iconst (v := -1) dX11_beside_79 (by decide) ?_
    cases e
    exact z_iret dX11_beside_80 rfl
  · rw [if_neg c842] at e
    refine z_iload_n 0 dX11_beside_59 rfl ?_
    refine z_i2l dX11_beside_60 ?_
    refine z_lconst (v := 0) dX11_beside_61 (by decide) ?_
    refine z_ldc2 dX11_beside_62 kj_X11_199 ?_
    replace e := z_bd e; obtain ⟨p843, ep843, e⟩ := e
    refine z_cS [.long (Int32.toInt64 x840), .long (0:Int64), .long (4:Int64)] (S_X11_in  ep843) ml_X11_186 ck_X11_in st_X11_in dX11_beside_65 (by decide) rfl (Nat.zero_le _) rfl ?_
    refine z_if_eq (tgt := 79) dX11_beside_68 (by decide) (fun c844 => ?_) (fun c844 => ?_)
    · rw [if_pos c844] at e
      refine z_iconst (v := -1) dX11_beside_79 (by decide) ?_
      cases e
      exact z_iret dX11_beside_80 rfl
    · rw [if_neg c844] at e
      refine z_iconst (v := 5) dX11_beside_71 (by decide) ?_
      refine z_iload_n 0 dX11_beside_72 rfl ?_
      refine z_imul dX11_beside_73 ?_
      refine z_iload_n 1 dX11_beside_74 rfl ?_
      refine z_iadd dX11_beside_75 ?_
      refine z_goto (tgt := 80) dX11_beside_76 (by decide) ?_
      cases e
      exact z_iret dX11_beside_80 rfl
def D_X11_beside_22 (h : z_H) (l0 : Int32) (l1 : Int32) (s0 : Int32) (s1 : Int32) : Option (Int32 × z_H) :=
  (some (s0 + s1)).bind fun x845 =>
  if l1 = 0 then
    D_X11_beside_45   h x845 (l0 / (5:Int32)) (1:Int32)
  else
    if l1 = (2:Int32) then
      D_X11_beside_45   h x845 (l0 / (5:Int32)) (-1:Int32)
    else
      D_X11_beside_45   h x845 (l0 / (5:Int32)) (0:Int32)
set_option maxRecDepth 100000 in
set_option maxHeartbeats 4000000 in
theorem S_X11_beside_22 {G : z_G} {l : Launch}  {h : z_H} {l0 : Int32} {l1 : Int32} {s0 : Int32} {s1 : Int32} {res : (Int32 × z_H)} (e : D_X11_beside_22  h l0 l1 s0 s1 = some res) : z_Run G l 5 M_X11_beside 22 [(0, .int l0), (1, .int l1)] [.int s1, .int s0] h res.2 (some (.int res.1)) := by
  unfold D_X11_beside_22 at e
  refine z_iadd dX11_beside_22 ?_
  replace e := z_bd e; obtain ⟨x845, ex845, e⟩ := e
  refine z_topI ex845 ?_
  refine z_istore_n (L' := [(2, .int x845), (0, .int l0), (1, .int l1)]) dX11_beside_23 rfl (by decide) rfl ?_
  refine z_iload_n 1 dX11_beside_24 rfl ?_
  refine z_iconst (v := 5) dX11_beside_25 (by decide) ?_
  refine z_idiv dX11_beside_26 (by decide) ?_
  refine z_iload_n 2 dX11_beside_27 rfl ?_
  refine z_if_ne (tgt := 35) dX11_beside_28 (by decide) (fun c846 => ?_) (fun c846 => ?_)
  · rw [if_neg c846] at e
    refine z_iload_n 2 dX11_beside_35 rfl ?_
    refine z_iconst (v := 2) dX11_beside_36 (by decide) ?_
    refine z_icmp_ne (tgt := 44) dX11_beside_37 (by decide) (fun c847 => ?_) (fun c847 => ?_)
    · rw [if_neg c847] at e
      refine z_iconst (v := 0) dX11_beside_44 (by decide) ?_
      exact z_weak [0] rfl (S_X11_beside_45   e)
    · rw [if_pos c847] at e
      refine z_iconst (v := -1) dX11_beside_40 (by decide) ?_
      refine z_goto (tgt := 45) dX11_beside_41 (by decide) ?_
      exact z_weak [0] rfl (S_X11_beside_45   e)
  · rw [if_pos c846] at e
    refine z_iconst (v := 1) dX11_beside_31 (by decide) ?_
    refine z_goto (tgt := 45) dX11_beside_32 (by decide) ?_
    exact z_weak [0] rfl (S_X11_beside_45   e)
def D_X11_beside (h : z_H) (l0 : Int32) (l1 : Int32) : Option (Int32 × z_H) :=
  if l1 = (1:Int32) then
    D_X11_beside_22   h l0 l1 (l0 - l0 / (5:Int32) * (5:Int32)) (1:Int32)
  else
    if l1 = (3:Int32) then
      D_X11_beside_22   h l0 l1 (l0 - l0 / (5:Int32) * (5:Int32)) (-1:Int32)
    else
      D_X11_beside_22   h l0 l1 (l0 - l0 / (5:Int32) * (5:Int32)) (0:Int32)
set_option maxRecDepth 100000 in
set_option maxHeartbeats 4000000 in
theorem S_X11_beside {G : z_G} {l : Launch} {h : z_H} {l0 : Int32} {l1 : Int32} {res : (Int32 × z_H)} (e : D_X11_beside h l0 l1 = some res) : z_Meth G l 5 M_X11_beside [.int l0, .int l1] h res.2 (some (.int res.1)) := by
  refine z_Meth.of ck_X11_beside.2.2.2.2 (by simp [lg_sl, z_ci, z_cj, z_cr, z_cx]) ck_X11_beside.1 ?_
  rw [show lv_args 0 [.int l0, .int l1] = [(0, .int l0), (1, .int l1)] from rfl]
  unfold D_X11_beside at e
  refine z_iload_n 0 dX11_beside_0 rfl ?_
  refine z_iconst (v := 5) dX11_beside_1 (by decide) ?_
  refine z_irem dX11_beside_2 (by decide) ?_
  refine z_iload_n 1 dX11_beside_3 rfl ?_
  refine z_iconst (v := 1) dX11_beside_4 (by decide) ?_
  refine z_icmp_ne (tgt := 12) dX11_beside_5 (by decide) (fun c848 => ?_) (fun c848 => ?_)
  · rw [if_neg c848] at e
    refine z_iload_n 1 dX11_beside_12 rfl ?_
    refine z_iconst (v := 3) dX11_beside_13 (by decide) ?_
    refine z_icmp_ne (tgt := 21) dX11_beside_14 (by decide) (fun c849 => ?_) (fun c849 => ?_)
    · rw [if_neg c849] at e
      refine z_iconst (v := 0) dX11_beside_21 (by decide) ?_
      exact z_weak [0, 1] rfl (S_X11_beside_22   e)
    · rw [if_pos c849] at e
      refine z_iconst (v := -1) dX11_beside_17 (by decide) ?_
      refine z_goto (tgt := 22) dX11_beside_18 (by decide) ?_
      exact z_weak [0, 1] rfl (S_X11_beside_22   e)
  · rw [if_pos c848] at e
    refine z_iconst (v := 1) dX11_beside_8 (by decide) ?_
    refine z_goto (tgt := 22) dX11_beside_9 (by decide) ?_
    exact z_weak [0, 1] rfl (S_X11_beside_22   e)
theorem dX11_is_0 : decode cX11_is 0 = .ok (.iload_n 0, 1) := by decide +kernel
theorem dX11_is_1 : decode cX11_is 1 = .ok (.iload_n 1, 1) := by decide +kernel
theorem dX11_is_2 : decode cX11_is 2 = .ok (.ishr, 1) := by decide +kernel
theorem dX11_is_3 : decode cX11_is 3 = .ok (.iconst 1, 1) := by decide +kernel
theorem dX11_is_4 : decode cX11_is 4 = .ok (.iand, 1) := by decide +kernel
theorem dX11_is_5 : decode cX11_is 5 = .ok (.iconst 1, 1) := by decide +kernel
theorem dX11_is_6 : decode cX11_is 6 = .ok (.if_icmp .ne 7, 3) := by decide +kernel
theorem dX11_is_9 : decode cX11_is 9 = .ok (.iconst 1, 1) := by decide +kernel
theorem dX11_is_10 : decode cX11_is 10 = .ok (.goto 4, 3) := by decide +kernel
theorem dX11_is_13 : decode cX11_is 13 = .ok (.iconst 0, 1) := by decide +kernel
theorem dX11_is_14 : decode cX11_is 14 = .ok (.ireturn, 1) := by decide +kernel
def D_X11_is (h : z_H) (l0 : Int32) (l1 : Int32) : Option (Int32 × z_H) :=
  if ((l0 >>> (l1 &&& 31)) &&& (1:Int32)) = (1:Int32) then
    some ((1:Int32), h)
  else
    some ((0:Int32), h)
set_option maxRecDepth 100000 in
set_option maxHeartbeats 4000000 in
theorem S_X11_is {G : z_G} {l : Launch} {h : z_H} {l0 : Int32} {l1 : Int32} {res : (Int32 × z_H)} (e : D_X11_is h l0 l1 = some res) : z_Meth G l 4 M_X11_is [.int l0, .int l1] h res.2 (some (.int res.1)) := by
  refine z_Meth.of ck_X11_is.2.2.2.2 (by simp [lg_sl, z_ci, z_cj, z_cr, z_cx]) ck_X11_is.1 ?_
  rw [show lv_args 0 [.int l0, .int l1] = [(0, .int l0), (1, .int l1)] from rfl]
  unfold D_X11_is at e
  refine z_iload_n 0 dX11_is_0 rfl ?_
  refine z_iload_n 1 dX11_is_1 rfl ?_
  refine z_ishr dX11_is_2 ?_
  refine z_iconst (v := 1) dX11_is_3 (by decide) ?_
  refine z_iand dX11_is_4 ?_
  refine z_iconst (v := 1) dX11_is_5 (by decide) ?_
  refine z_icmp_ne (tgt := 13) dX11_is_6 (by decide) (fun c850 => ?_) (fun c850 => ?_)
  · rw [if_neg c850] at e
    refine z_iconst (v := 0) dX11_is_13 (by decide) ?_
    cases e
    exact z_zret dX11_is_14 rfl (by decide)
  · rw [if_pos c850] at e
    refine z_iconst (v := 1) dX11_is_9 (by decide) ?_
    refine z_goto (tgt := 14) dX11_is_10 (by decide) ?_
    cases e
    exact z_zret dX11_is_14 rfl (by decide)
theorem dX11_isWall_0 : decode cX11_isWall 0 = .ok (.aload_n 0, 1) := by decide +kernel
theorem dX11_isWall_1 : decode cX11_isWall 1 = .ok (.getfield 13, 3) := by decide +kernel
theorem dX11_isWall_4 : decode cX11_isWall 4 = .ok (.iconst 4, 1) := by decide +kernel
theorem dX11_isWall_5 : decode cX11_isWall 5 = .ok (.iaload, 1) := by decide +kernel
theorem dX11_isWall_6 : decode cX11_isWall 6 = .ok (.iload_n 1, 1) := by decide +kernel
theorem dX11_isWall_7 : decode cX11_isWall 7 = .ok (.invokestatic 195, 3) := by decide +kernel
theorem dX11_isWall_10 : decode cX11_isWall 10 = .ok (.ireturn, 1) := by decide +kernel
def D_X11_isWall (h : z_H) (l0 : Option Nat) (l1 : Int32) : Option (Int32 × z_H) :=
  (z_gQ 11 h l0 3).bind fun x851 =>
  (z_aI .int h x851 (4:Int32)).bind fun x852 =>
  (D_X11_is  h x852 l1).bind fun p853 =>
  if p853.1 = 0 ∨ p853.1 = 1 then some (p853.1, p853.2) else none
set_option maxRecDepth 100000 in
set_option maxHeartbeats 4000000 in
theorem S_X11_isWall {G : z_G} {l : Launch} {h : z_H} {l0 : Option Nat} {l1 : Int32} {res : (Int32 × z_H)} (e : D_X11_isWall h l0 l1 = some res) : z_Meth G l 5 M_X11_isWall [z_r l0, .int l1] h res.2 (some (.int res.1)) := by
  refine z_Meth.of ck_X11_isWall.2.2.2.2 (by simp [lg_sl, z_ci, z_cj, z_cr, z_cx]) ck_X11_isWall.1 ?_
  rw [show lv_args 0 [z_r l0, .int l1] = [(0, z_r l0), (1, .int l1)] from by simp [lv_args, z_ci, z_cj, z_cr, z_cx]]
  unfold D_X11_isWall at e
  refine z_aload_n 0 dX11_isWall_0 rfl ?_
  replace e := z_bd e; obtain ⟨x851, ex851, e⟩ := e
  refine z_getQ ex851 lk_X11_13 dX11_isWall_1 ?_
  refine z_iconst (v := 4) dX11_isWall_4 (by decide) ?_
  replace e := z_bd e; obtain ⟨x852, ex852, e⟩ := e
  refine z_iald ex852 dX11_isWall_5 ?_
  refine z_iload_n 1 dX11_isWall_6 rfl ?_
  replace e := z_bd e; obtain ⟨p853, ep853, e⟩ := e
  refine z_cS [.int x852, .int l1] (S_X11_is  ep853) ml_X11_195 ck_X11_is st_X11_is dX11_isWall_7 (by decide) rfl (Nat.zero_le _) rfl ?_
  replace e := z_ifs e; obtain ⟨c854, e⟩ := e
  cases e
  exact z_zret dX11_isWall_10 rfl (z_nz c854).1
theorem dX11_wornOf_0 : decode cX11_wornOf 0 = .ok (.aload_n 0, 1) := by decide +kernel
theorem dX11_wornOf_1 : decode cX11_wornOf 1 = .ok (.getfield 13, 3) := by decide +kernel
theorem dX11_wornOf_4 : decode cX11_wornOf 4 = .ok (.bipush 20, 2) := by decide +kernel
theorem dX11_wornOf_6 : decode cX11_wornOf 6 = .ok (.iconst 4, 1) := by decide +kernel
theorem dX11_wornOf_7 : decode cX11_wornOf 7 = .ok (.iload_n 1, 1) := by decide +kernel
theorem dX11_wornOf_8 : decode cX11_wornOf 8 = .ok (.imul, 1) := by decide +kernel
theorem dX11_wornOf_9 : decode cX11_wornOf 9 = .ok (.iadd, 1) := by decide +kernel
theorem dX11_wornOf_10 : decode cX11_wornOf 10 = .ok (.iload_n 2, 1) := by decide +kernel
theorem dX11_wornOf_11 : decode cX11_wornOf 11 = .ok (.iadd, 1) := by decide +kernel
theorem dX11_wornOf_12 : decode cX11_wornOf 12 = .ok (.iaload, 1) := by decide +kernel
theorem dX11_wornOf_13 : decode cX11_wornOf 13 = .ok (.ireturn, 1) := by decide +kernel
def D_X11_wornOf (h : z_H) (l0 : Option Nat) (l1 : Int32) (l2 : Int32) : Option (Int32 × z_H) :=
  (z_gQ 11 h l0 3).bind fun x855 =>
  (z_aI .int h x855 (((20:Int32) + ((4:Int32) * l1)) + l2)).bind fun x856 =>
  some (x856, h)
set_option maxRecDepth 100000 in
set_option maxHeartbeats 4000000 in
theorem S_X11_wornOf {G : z_G} {l : Launch} {h : z_H} {l0 : Option Nat} {l1 : Int32} {l2 : Int32} {res : (Int32 × z_H)} (e : D_X11_wornOf h l0 l1 l2 = some res) : z_Meth G l 4 M_X11_wornOf [z_r l0, .int l1, .int l2] h res.2 (some (.int res.1)) := by
  refine z_Meth.of ck_X11_wornOf.2.2.2.2 (by simp [lg_sl, z_ci, z_cj, z_cr, z_cx]) ck_X11_wornOf.1 ?_
  rw [show lv_args 0 [z_r l0, .int l1, .int l2] = [(0, z_r l0), (1, .int l1), (2, .int l2)] from by simp [lv_args, z_ci, z_cj, z_cr, z_cx]]
  unfold D_X11_wornOf at e
  refine z_aload_n 0 dX11_wornOf_0 rfl ?_
  replace e := z_bd e; obtain ⟨x855, ex855, e⟩ := e
  refine z_getQ ex855 lk_X11_13 dX11_wornOf_1 ?_
  refine z_bipush (v := 20) dX11_wornOf_4 (by decide) ?_
  refine z_iconst (v := 4) dX11_wornOf_6 (by decide) ?_
  refine z_iload_n 1 dX11_wornOf_7 rfl ?_
  refine z_imul dX11_wornOf_8 ?_
  refine z_iadd dX11_wornOf_9 ?_
  refine z_iload_n 2 dX11_wornOf_10 rfl ?_
  refine z_iadd dX11_wornOf_11 ?_
  replace e := z_bd e; obtain ⟨x856, ex856, e⟩ := e
  refine z_iald ex856 dX11_wornOf_12 ?_
  cases e
  exact z_iret dX11_wornOf_13 rfl
theorem dX11_isPair_0 : decode cX11_isPair 0 = .ok (.iload_n 1, 1) := by decide +kernel
theorem dX11_isPair_1 : decode cX11_isPair 1 = .ok (.i2l, 1) := by decide +kernel
theorem dX11_isPair_2 : decode cX11_isPair 2 = .ok (.lconst 0, 1) := by decide +kernel
theorem dX11_isPair_3 : decode cX11_isPair 3 = .ok (.aload_n 0, 1) := by decide +kernel
theorem dX11_isPair_4 : decode cX11_isPair 4 = .ok (.getfield 13, 3) := by decide +kernel
theorem dX11_isPair_7 : decode cX11_isPair 7 = .ok (.iconst 0, 1) := by decide +kernel
theorem dX11_isPair_8 : decode cX11_isPair 8 = .ok (.iaload, 1) := by decide +kernel
theorem dX11_isPair_9 : decode cX11_isPair 9 = .ok (.i2l, 1) := by decide +kernel
theorem dX11_isPair_10 : decode cX11_isPair 10 = .ok (.lconst 1, 1) := by decide +kernel
theorem dX11_isPair_11 : decode cX11_isPair 11 = .ok (.lsub, 1) := by decide +kernel
theorem dX11_isPair_12 : decode cX11_isPair 12 = .ok (.invokestatic 186, 3) := by decide +kernel
theorem dX11_isPair_15 : decode cX11_isPair 15 = .ok (.ireturn, 1) := by decide +kernel
def D_X11_isPair (h : z_H) (l0 : Option Nat) (l1 : Int32) : Option (Int32 × z_H) :=
  (z_gQ 11 h l0 3).bind fun x857 =>
  (z_aI .int h x857 (0:Int32)).bind fun x858 =>
  (D_X11_in  h (Int32.toInt64 l1) (0:Int64) ((Int32.toInt64 x858) - (1:Int64))).bind fun p859 =>
  if p859.1 = 0 ∨ p859.1 = 1 then some (p859.1, p859.2) else none
set_option maxRecDepth 100000 in
set_option maxHeartbeats 4000000 in
theorem S_X11_isPair {G : z_G} {l : Launch} {h : z_H} {l0 : Option Nat} {l1 : Int32} {res : (Int32 × z_H)} (e : D_X11_isPair h l0 l1 = some res) : z_Meth G l 5 M_X11_isPair [z_r l0, .int l1] h res.2 (some (.int res.1)) := by
  refine z_Meth.of ck_X11_isPair.2.2.2.2 (by simp [lg_sl, z_ci, z_cj, z_cr, z_cx]) ck_X11_isPair.1 ?_
  rw [show lv_args 0 [z_r l0, .int l1] = [(0, z_r l0), (1, .int l1)] from by simp [lv_args, z_ci, z_cj, z_cr, z_cx]]
  unfold D_X11_isPair at e
  refine z_iload_n 1 dX11_isPair_0 rfl ?_
  refine z_i2l dX11_isPair_1 ?_
  refine z_lconst (v := 0) dX11_isPair_2 (by decide) ?_
  refine z_aload_n 0 dX11_isPair_3 rfl ?_
  replace e := z_bd e; obtain ⟨x857, ex857, e⟩ := e
  refine z_getQ ex857 lk_X11_13 dX11_isPair_4 ?_
  refine z_iconst (v := 0) dX11_isPair_7 (by decide) ?_
  replace e := z_bd e; obtain ⟨x858, ex858, e⟩ := e
  refine z_iald ex858 dX11_isPair_8 ?_
  refine z_i2l dX11_isPair_9 ?_
  refine z_lconst (v := 1) dX11_isPair_10 (by decide) ?_
  refine z_lsub dX11_isPair_11 ?_
  replace e := z_bd e; obtain ⟨p859, ep859, e⟩ := e
  refine z_cS [.long (Int32.toInt64 l1), .long (0:Int64), .long ((Int32.toInt64 x858) - (1:Int64))] (S_X11_in  ep859) ml_X11_186 ck_X11_in st_X11_in dX11_isPair_12 (by decide) rfl (Nat.zero_le _) rfl ?_
  replace e := z_ifs e; obtain ⟨c860, e⟩ := e
  cases e
  exact z_zret dX11_isPair_15 rfl (z_nz c860).1
theorem dX11_reckon_0 : decode cX11_reckon 0 = .ok (.iload_n 1, 1) := by decide +kernel
theorem dX11_reckon_1 : decode cX11_reckon 1 = .ok (.tableswitch 148 20 26 #[43, 48, 53, 58, 90, 122, 135], 43) := by decide +kernel
theorem dX11_reckon_44 : decode cX11_reckon 44 = .ok (.lload_n 2, 1) := by decide +kernel
theorem dX11_reckon_45 : decode cX11_reckon 45 = .ok (.lload 4, 2) := by decide +kernel
theorem dX11_reckon_47 : decode cX11_reckon 47 = .ok (.ladd, 1) := by decide +kernel
theorem dX11_reckon_48 : decode cX11_reckon 48 = .ok (.lreturn, 1) := by decide +kernel
theorem dX11_reckon_49 : decode cX11_reckon 49 = .ok (.lload_n 2, 1) := by decide +kernel
theorem dX11_reckon_50 : decode cX11_reckon 50 = .ok (.lload 4, 2) := by decide +kernel
theorem dX11_reckon_52 : decode cX11_reckon 52 = .ok (.lsub, 1) := by decide +kernel
theorem dX11_reckon_53 : decode cX11_reckon 53 = .ok (.lreturn, 1) := by decide +kernel
theorem dX11_reckon_54 : decode cX11_reckon 54 = .ok (.lload_n 2, 1) := by decide +kernel
theorem dX11_reckon_55 : decode cX11_reckon 55 = .ok (.lload 4, 2) := by decide +kernel
theorem dX11_reckon_57 : decode cX11_reckon 57 = .ok (.lmul, 1) := by decide +kernel
theorem dX11_reckon_58 : decode cX11_reckon 58 = .ok (.lreturn, 1) := by decide +kernel
theorem dX11_reckon_59 : decode cX11_reckon 59 = .ok (.aload_n 0, 1) := by decide +kernel
theorem dX11_reckon_60 : decode cX11_reckon 60 = .ok (.lload 4, 2) := by decide +kernel
theorem dX11_reckon_62 : decode cX11_reckon 62 = .ok (.lconst 0, 1) := by decide +kernel
theorem dX11_reckon_63 : decode cX11_reckon 63 = .ok (.lcmp, 1) := by decide +kernel
theorem dX11_reckon_64 : decode cX11_reckon 64 = .ok (.ifCond .ne 7, 3) := by decide +kernel
theorem dX11_reckon_67 : decode cX11_reckon 67 = .ok (.iconst 1, 1) := by decide +kernel
theorem dX11_reckon_68 : decode cX11_reckon 68 = .ok (.goto 4, 3) := by decide +kernel
theorem dX11_reckon_71 : decode cX11_reckon 71 = .ok (.iconst 0, 1) := by decide +kernel
theorem dX11_reckon_72 : decode cX11_reckon 72 = .ok (.putfield 398, 3) := by decide +kernel
theorem dX11_reckon_75 : decode cX11_reckon 75 = .ok (.aload_n 0, 1) := by decide +kernel
theorem dX11_reckon_76 : decode cX11_reckon 76 = .ok (.getfield 398, 3) := by decide +kernel
theorem dX11_reckon_79 : decode cX11_reckon 79 = .ok (.ifCond .eq 7, 3) := by decide +kernel
theorem dX11_reckon_82 : decode cX11_reckon 82 = .ok (.lconst 0, 1) := by decide +kernel
theorem dX11_reckon_83 : decode cX11_reckon 83 = .ok (.goto 7, 3) := by decide +kernel
theorem dX11_reckon_86 : decode cX11_reckon 86 = .ok (.lload_n 2, 1) := by decide +kernel
theorem dX11_reckon_87 : decode cX11_reckon 87 = .ok (.lload 4, 2) := by decide +kernel
theorem dX11_reckon_89 : decode cX11_reckon 89 = .ok (.ldiv, 1) := by decide +kernel
theorem dX11_reckon_90 : decode cX11_reckon 90 = .ok (.lreturn, 1) := by decide +kernel
theorem dX11_reckon_91 : decode cX11_reckon 91 = .ok (.aload_n 0, 1) := by decide +kernel
theorem dX11_reckon_92 : decode cX11_reckon 92 = .ok (.lload 4, 2) := by decide +kernel
theorem dX11_reckon_94 : decode cX11_reckon 94 = .ok (.lconst 0, 1) := by decide +kernel
theorem dX11_reckon_95 : decode cX11_reckon 95 = .ok (.lcmp, 1) := by decide +kernel
theorem dX11_reckon_96 : decode cX11_reckon 96 = .ok (.ifCond .ne 7, 3) := by decide +kernel
theorem dX11_reckon_99 : decode cX11_reckon 99 = .ok (.iconst 1, 1) := by decide +kernel
theorem dX11_reckon_100 : decode cX11_reckon 100 = .ok (.goto 4, 3) := by decide +kernel
theorem dX11_reckon_103 : decode cX11_reckon 103 = .ok (.iconst 0, 1) := by decide +kernel
theorem dX11_reckon_104 : decode cX11_reckon 104 = .ok (.putfield 398, 3) := by decide +kernel
theorem dX11_reckon_107 : decode cX11_reckon 107 = .ok (.aload_n 0, 1) := by decide +kernel
theorem dX11_reckon_108 : decode cX11_reckon 108 = .ok (.getfield 398, 3) := by decide +kernel
theorem dX11_reckon_111 : decode cX11_reckon 111 = .ok (.ifCond .eq 7, 3) := by decide +kernel
theorem dX11_reckon_114 : decode cX11_reckon 114 = .ok (.lconst 0, 1) := by decide +kernel
theorem dX11_reckon_115 : decode cX11_reckon 115 = .ok (.goto 7, 3) := by decide +kernel
theorem dX11_reckon_118 : decode cX11_reckon 118 = .ok (.lload_n 2, 1) := by decide +kernel
theorem dX11_reckon_119 : decode cX11_reckon 119 = .ok (.lload 4, 2) := by decide +kernel
theorem dX11_reckon_121 : decode cX11_reckon 121 = .ok (.lrem, 1) := by decide +kernel
theorem dX11_reckon_122 : decode cX11_reckon 122 = .ok (.lreturn, 1) := by decide +kernel
theorem dX11_reckon_123 : decode cX11_reckon 123 = .ok (.lload_n 2, 1) := by decide +kernel
theorem dX11_reckon_124 : decode cX11_reckon 124 = .ok (.lload 4, 2) := by decide +kernel
theorem dX11_reckon_126 : decode cX11_reckon 126 = .ok (.lcmp, 1) := by decide +kernel
theorem dX11_reckon_127 : decode cX11_reckon 127 = .ok (.ifCond .ge 7, 3) := by decide +kernel
theorem dX11_reckon_130 : decode cX11_reckon 130 = .ok (.lconst 1, 1) := by decide +kernel
theorem dX11_reckon_131 : decode cX11_reckon 131 = .ok (.goto 4, 3) := by decide +kernel
theorem dX11_reckon_134 : decode cX11_reckon 134 = .ok (.lconst 0, 1) := by decide +kernel
theorem dX11_reckon_135 : decode cX11_reckon 135 = .ok (.lreturn, 1) := by decide +kernel
theorem dX11_reckon_136 : decode cX11_reckon 136 = .ok (.lload_n 2, 1) := by decide +kernel
theorem dX11_reckon_137 : decode cX11_reckon 137 = .ok (.lload 4, 2) := by decide +kernel
theorem dX11_reckon_139 : decode cX11_reckon 139 = .ok (.lcmp, 1) := by decide +kernel
theorem dX11_reckon_140 : decode cX11_reckon 140 = .ok (.ifCond .le 7, 3) := by decide +kernel
theorem dX11_reckon_143 : decode cX11_reckon 143 = .ok (.lconst 1, 1) := by decide +kernel
theorem dX11_reckon_144 : decode cX11_reckon 144 = .ok (.goto 4, 3) := by decide +kernel
theorem dX11_reckon_147 : decode cX11_reckon 147 = .ok (.lconst 0, 1) := by decide +kernel
theorem dX11_reckon_148 : decode cX11_reckon 148 = .ok (.lreturn, 1) := by decide +kernel
theorem dX11_reckon_149 : decode cX11_reckon 149 = .ok (.lload_n 2, 1) := by decide +kernel
theorem dX11_reckon_150 : decode cX11_reckon 150 = .ok (.lload 4, 2) := by decide +kernel
theorem dX11_reckon_152 : decode cX11_reckon 152 = .ok (.lcmp, 1) := by decide +kernel
theorem dX11_reckon_153 : decode cX11_reckon 153 = .ok (.ifCond .ne 7, 3) := by decide +kernel
theorem dX11_reckon_156 : decode cX11_reckon 156 = .ok (.lconst 1, 1) := by decide +kernel
theorem dX11_reckon_157 : decode cX11_reckon 157 = .ok (.goto 4, 3) := by decide +kernel
theorem dX11_reckon_160 : decode cX11_reckon 160 = .ok (.lconst 0, 1) := by decide +kernel
theorem dX11_reckon_161 : decode cX11_reckon 161 = .ok (.lreturn, 1) := by decide +kernel
def D_X11_reckon_72 (h : z_H) (l0 : Option Nat) (l2 : Int64) (l4 : Int64) (s0 : Option Nat) (s1 : Int32) : Option (Int64 × z_H) :=
  if s1 = 0 ∨ s1 = 1 then
  (z_pV 11 h s0 38 (.int s1)).bind fun h861 =>
  (z_gI 11 h861 l0 38).bind fun x863 =>
  if x863 = 0 then
    if l4 = 0 then none else
    some ((l2 / l4), h861)
  else
    some ((0:Int64), h861)
  else none
set_option maxRecDepth 100000 in
set_option maxHeartbeats 4000000 in
theorem S_X11_reckon_72 {G : z_G} {l : Launch}  {h : z_H} {l0 : Option Nat} {l2 : Int64} {l4 : Int64} {s0 : Option Nat} {s1 : Int32} {res : (Int64 × z_H)} (e : D_X11_reckon_72  h l0 l2 l4 s0 s1 = some res) : z_Run G l 4 M_X11_reckon 72 [(0, z_r l0), (2, .long l2), (4, .long l4)] [.int s1, z_r s0] h res.2 (some (.long res.1)) := by
  unfold D_X11_reckon_72 at e
  replace e := z_ifs e; obtain ⟨c862, e⟩ := e
  replace e := z_bd e; obtain ⟨h861, eh861, e⟩ := e
  refine z_putV eh861 lk_X11_398 wk_11_38 (fun _ => (z_nz c862).1) (fun _ => (z_nz c862).2) dX11_reckon_72 ?_
  refine z_aload_n 0 dX11_reckon_75 rfl ?_
  replace e := z_bd e; obtain ⟨x863, ex863, e⟩ := e
  refine z_getI ex863 lk_X11_398 dX11_reckon_76 ?_
  refine z_if_eq (tgt := 86) dX11_reckon_79 (by decide) (fun c864 => ?_) (fun c864 => ?_)
  · rw [if_pos c864] at e
    refine z_lload_n 1 dX11_reckon_86 rfl ?_
    refine z_lload 2 dX11_reckon_87 rfl ?_
    replace e := z_ifn e; obtain ⟨c865, e⟩ := e
    refine z_ldiv dX11_reckon_89 c865 ?_
    cases e
    exact z_lret dX11_reckon_90 rfl
  · rw [if_neg c864] at e
    refine z_lconst (v := 0) dX11_reckon_82 (by decide) ?_
    refine z_goto (tgt := 90) dX11_reckon_83 (by decide) ?_
    cases e
    exact z_lret dX11_reckon_90 rfl
def D_X11_reckon_104 (h : z_H) (l0 : Option Nat) (l2 : Int64) (l4 : Int64) (s0 : Option Nat) (s1 : Int32) : Option (Int64 × z_H) :=
  if s1 = 0 ∨ s1 = 1 then
  (z_pV 11 h s0 38 (.int s1)).bind fun h866 =>
  (z_gI 11 h866 l0 38).bind fun x868 =>
  if x868 = 0 then
    if l4 = 0 then none else
    some ((l2 - l2 / l4 * l4), h866)
  else
    some ((0:Int64), h866)
  else none
set_option maxRecDepth 100000 in
set_option maxHeartbeats 4000000 in
theorem S_X11_reckon_104 {G : z_G} {l : Launch}  {h : z_H} {l0 : Option Nat} {l2 : Int64} {l4 : Int64} {s0 : Option Nat} {s1 : Int32} {res : (Int64 × z_H)} (e : D_X11_reckon_104  h l0 l2 l4 s0 s1 = some res) : z_Run G l 4 M_X11_reckon 104 [(0, z_r l0), (2, .long l2), (4, .long l4)] [.int s1, z_r s0] h res.2 (some (.long res.1)) := by
  unfold D_X11_reckon_104 at e
  replace e := z_ifs e; obtain ⟨c867, e⟩ := e
  replace e := z_bd e; obtain ⟨h866, eh866, e⟩ := e
  refine z_putV eh866 lk_X11_398 wk_11_38 (fun _ => (z_nz c867).1) (fun _ => (z_nz c867).2) dX11_reckon_104 ?_
  refine z_aload_n 0 dX11_reckon_107 rfl ?_
  replace e := z_bd e; obtain ⟨x868, ex868, e⟩ := e
  refine z_getI ex868 lk_X11_398 dX11_reckon_108 ?_
  refine z_if_eq (tgt := 118) dX11_reckon_111 (by decide) (fun c869 => ?_) (fun c869 => ?_)
  · rw [if_pos c869] at e
    refine z_lload_n 1 dX11_reckon_118 rfl ?_
    refine z_lload 2 dX11_reckon_119 rfl ?_
    replace e := z_ifn e; obtain ⟨c870, e⟩ := e
    refine z_lrem dX11_reckon_121 c870 ?_
    cases e
    exact z_lret dX11_reckon_122 rfl
  · rw [if_neg c869] at e
    refine z_lconst (v := 0) dX11_reckon_114 (by decide) ?_
    refine z_goto (tgt := 122) dX11_reckon_115 (by decide) ?_
    cases e
    exact z_lret dX11_reckon_122 rfl
def D_X11_reckon (h : z_H) (l0 : Option Nat) (l1 : Int32) (l2 : Int64) (l4 : Int64) : Option (Int64 × z_H) :=
  if l1 = 20 then
    some ((l2 + l4), h)
  else
  if l1 = 21 then
    some ((l2 - l4), h)
  else
  if l1 = 22 then
    some ((l2 * l4), h)
  else
  if l1 = 23 then
    if (lg_cmp l4 (0:Int64)) = 0 then
      D_X11_reckon_72   h l0 l2 l4 l0 (1:Int32)
    else
      D_X11_reckon_72   h l0 l2 l4 l0 (0:Int32)
  else
  if l1 = 24 then
    if (lg_cmp l4 (0:Int64)) = 0 then
      D_X11_reckon_104   h l0 l2 l4 l0 (1:Int32)
    else
      D_X11_reckon_104   h l0 l2 l4 l0 (0:Int32)
  else
  if l1 = 25 then
    if 0 ≤ (lg_cmp l2 l4) then
      some ((0:Int64), h)
    else
      some ((1:Int64), h)
  else
  if l1 = 26 then
    if (lg_cmp l2 l4) ≤ 0 then
      some ((0:Int64), h)
    else
      some ((1:Int64), h)
  else
  if (lg_cmp l2 l4) = 0 then
    some ((1:Int64), h)
  else
    some ((0:Int64), h)
set_option maxRecDepth 100000 in
set_option maxHeartbeats 4000000 in
theorem S_X11_reckon {G : z_G} {l : Launch} {h : z_H} {l0 : Option Nat} {l1 : Int32} {l2 : Int64} {l4 : Int64} {res : (Int64 × z_H)} (e : D_X11_reckon h l0 l1 l2 l4 = some res) : z_Meth G l 4 M_X11_reckon [z_r l0, .int l1, .long l2, .long l4] h res.2 (some (.long res.1)) := by
  refine z_Meth.of ck_X11_reckon.2.2.2.2 (by simp [lg_sl, z_ci, z_cj, z_cr, z_cx]) ck_X11_reckon.1 ?_
  rw [show lv_args 0 [z_r l0, .int l1, .long l2, .long l4] = [(0, z_r l0), (1, .int l1), (2, .long l2), (4, .long l4)] from by simp [lv_args, z_ci, z_cj, z_cr, z_cx]]
  unfold D_X11_reckon at e
  refine z_iload_n 1 dX11_reckon_0 rfl ?_
  by_cases c871 : l1 = 20
  · rw [if_pos c871] at e
    refine z_tableIn (off := 43) (tgt := 44) dX11_reckon_1 (by rw [c871]; decide) (by rw [c871]; decide) (by rw [c871]; decide) (by decide) ?_
    refine z_lload_n 2 dX11_reckon_44 rfl ?_
    refine z_lload 3 dX11_reckon_45 rfl ?_
    refine z_ladd dX11_reckon_47 ?_
    cases e
    exact z_lret dX11_reckon_48 rfl
  rw [if_neg c871] at e
  by_cases c872 : l1 = 21
  · rw [if_pos c872] at e
    refine z_tableIn (off := 48) (tgt := 49) dX11_reckon_1 (by rw [c872]; decide) (by rw [c872]; decide) (by rw [c872]; decide) (by decide) ?_
    refine z_lload_n 2 dX11_reckon_49 rfl ?_
    refine z_lload 3 dX11_reckon_50 rfl ?_
    refine z_lsub dX11_reckon_52 ?_
    cases e
    exact z_lret dX11_reckon_53 rfl
  rw [if_neg c872] at e
  by_cases c873 : l1 = 22
  · rw [if_pos c873] at e
    refine z_tableIn (off := 53) (tgt := 54) dX11_reckon_1 (by rw [c873]; decide) (by rw [c873]; decide) (by rw [c873]; decide) (by decide) ?_
    refine z_lload_n 2 dX11_reckon_54 rfl ?_
    refine z_lload 3 dX11_reckon_55 rfl ?_
    refine z_lmul dX11_reckon_57 ?_
    cases e
    exact z_lret dX11_reckon_58 rfl
  rw [if_neg c873] at e
  by_cases c874 : l1 = 23
  · rw [if_pos c874] at e
    refine z_tableIn (off := 58) (tgt := 59) dX11_reckon_1 (by rw [c874]; decide) (by rw [c874]; decide) (by rw [c874]; decide) (by decide) ?_
    refine z_aload_n 0 dX11_reckon_59 rfl ?_
    refine z_lload 3 dX11_reckon_60 rfl ?_
    refine z_lconst (v := 0) dX11_reckon_62 (by decide) ?_
    refine z_lcmp dX11_reckon_63 ?_
    refine z_if_ne (tgt := 71) dX11_reckon_64 (by decide) (fun c875 => ?_) (fun c875 => ?_)
    · rw [if_neg c875] at e
      refine z_iconst (v := 0) dX11_reckon_71 (by decide) ?_
      exact z_weak [0, 2, 3] rfl (S_X11_reckon_72   e)
    · rw [if_pos c875] at e
      refine z_iconst (v := 1) dX11_reckon_67 (by decide) ?_
      refine z_goto (tgt := 72) dX11_reckon_68 (by decide) ?_
      exact z_weak [0, 2, 3] rfl (S_X11_reckon_72   e)
  rw [if_neg c874] at e
  by_cases c876 : l1 = 24
  · rw [if_pos c876] at e
    refine z_tableIn (off := 90) (tgt := 91) dX11_reckon_1 (by rw [c876]; decide) (by rw [c876]; decide) (by rw [c876]; decide) (by decide) ?_
    refine z_aload_n 0 dX11_reckon_91 rfl ?_
    refine z_lload 3 dX11_reckon_92 rfl ?_
    refine z_lconst (v := 0) dX11_reckon_94 (by decide) ?_
    refine z_lcmp dX11_reckon_95 ?_
    refine z_if_ne (tgt := 103) dX11_reckon_96 (by decide) (fun c877 => ?_) (fun c877 => ?_)
    · rw [if_neg c877] at e
      refine z_iconst (v := 0) dX11_reckon_103 (by decide) ?_
      exact z_weak [0, 2, 3] rfl (S_X11_reckon_104   e)
    · rw [if_pos c877] at e
      refine z_iconst (v := 1) dX11_reckon_99 (by decide) ?_
      refine z_goto (tgt := 104) dX11_reckon_100 (by decide) ?_
      exact z_weak [0, 2, 3] rfl (S_X11_reckon_104   e)
  rw [if_neg c876] at e
  by_cases c878 : l1 = 25
  · rw [if_pos c878] at e
    refine z_tableIn (off := 122) (tgt := 123) dX11_reckon_1 (by rw [c878]; decide) (by rw [c878]; decide) (by rw [c878]; decide) (by decide) ?_
    refine z_lload_n 2 dX11_reckon_123 rfl ?_
    refine z_lload 3 dX11_reckon_124 rfl ?_
    refine z_lcmp dX11_reckon_126 ?_
    refine z_if_ge (tgt := 134) dX11_reckon_127 (by decide) (fun c879 => ?_) (fun c879 => ?_)
    · rw [if_pos c879] at e
      refine z_lconst (v := 0) dX11_reckon_134 (by decide) ?_
      cases e
      exact z_lret dX11_reckon_135 rfl
    · rw [if_neg c879] at e
      refine z_lconst (v := 1) dX11_reckon_130 (by decide) ?_
      refine z_goto (tgt := 135) dX11_reckon_131 (by decide) ?_
      cases e
      exact z_lret dX11_reckon_135 rfl
  rw [if_neg c878] at e
  by_cases c880 : l1 = 26
  · rw [if_pos c880] at e
    refine z_tableIn (off := 135) (tgt := 136) dX11_reckon_1 (by rw [c880]; decide) (by rw [c880]; decide) (by rw [c880]; decide) (by decide) ?_
    refine z_lload_n 2 dX11_reckon_136 rfl ?_
    refine z_lload 3 dX11_reckon_137 rfl ?_
    refine z_lcmp dX11_reckon_139 ?_
    refine z_if_le (tgt := 147) dX11_reckon_140 (by decide) (fun c881 => ?_) (fun c881 => ?_)
    · rw [if_pos c881] at e
      refine z_lconst (v := 0) dX11_reckon_147 (by decide) ?_
      cases e
      exact z_lret dX11_reckon_148 rfl
    · rw [if_neg c881] at e
      refine z_lconst (v := 1) dX11_reckon_143 (by decide) ?_
      refine z_goto (tgt := 148) dX11_reckon_144 (by decide) ?_
      cases e
      exact z_lret dX11_reckon_148 rfl
  rw [if_neg c880] at e
  have nc871 := lv_neT (a := 20) c871 (by decide)
  have nc872 := lv_neT (a := 21) c872 (by decide)
  have nc873 := lv_neT (a := 22) c873 (by decide)
  have nc874 := lv_neT (a := 23) c874 (by decide)
  have nc876 := lv_neT (a := 24) c876 (by decide)
  have nc878 := lv_neT (a := 25) c878 (by decide)
  have nc880 := lv_neT (a := 26) c880 (by decide)
  refine z_tableOut (tgt := 149) dX11_reckon_1 (by omega) (by decide) ?_
  refine z_lload_n 2 dX11_reckon_149 rfl ?_
  refine z_lload 3 dX11_reckon_150 rfl ?_
  refine z_lcmp dX11_reckon_152 ?_
  refine z_if_ne (tgt := 160) dX11_reckon_153 (by decide) (fun c882 => ?_) (fun c882 => ?_)
  · rw [if_neg c882] at e
    refine z_lconst (v := 0) dX11_reckon_160 (by decide) ?_
    cases e
    exact z_lret dX11_reckon_161 rfl
  · rw [if_pos c882] at e
    refine z_lconst (v := 1) dX11_reckon_156 (by decide) ?_
    refine z_goto (tgt := 161) dX11_reckon_157 (by decide) ?_
    cases e
    exact z_lret dX11_reckon_161 rfl
theorem dX11_reckonAll_0 : decode cX11_reckonAll 0 = .ok (.aload_n 0, 1) := by decide +kernel
theorem dX11_reckonAll_1 : decode cX11_reckonAll 1 = .ok (.iconst 0, 1) := by decide +kernel
theorem dX11_reckonAll_2 : decode cX11_reckonAll 2 = .ok (.putfield 398, 3) := by decide +kernel
theorem dX11_reckonAll_5 : decode cX11_reckonAll 5 = .ok (.iconst 0, 1) := by decide +kernel
theorem dX11_reckonAll_6 : decode cX11_reckonAll 6 = .ok (.istore_n 3, 1) := by decide +kernel
theorem dX11_reckonAll_7 : decode cX11_reckonAll 7 = .ok (.iload_n 1, 1) := by decide +kernel
theorem dX11_reckonAll_8 : decode cX11_reckonAll 8 = .ok (.istore 4, 2) := by decide +kernel
theorem dX11_reckonAll_10 : decode cX11_reckonAll 10 = .ok (.iload 4, 2) := by decide +kernel
theorem dX11_reckonAll_12 : decode cX11_reckonAll 12 = .ok (.iload_n 2, 1) := by decide +kernel
theorem dX11_reckonAll_13 : decode cX11_reckonAll 13 = .ok (.if_icmp .ge 348, 3) := by decide +kernel
theorem dX11_reckonAll_16 : decode cX11_reckonAll 16 = .ok (.aload_n 0, 1) := by decide +kernel
theorem dX11_reckonAll_17 : decode cX11_reckonAll 17 = .ok (.getfield 398, 3) := by decide +kernel
theorem dX11_reckonAll_20 : decode cX11_reckonAll 20 = .ok (.ifCond .ne 341, 3) := by decide +kernel
theorem dX11_reckonAll_23 : decode cX11_reckonAll 23 = .ok (.aload_n 0, 1) := by decide +kernel
theorem dX11_reckonAll_24 : decode cX11_reckonAll 24 = .ok (.getfield 324, 3) := by decide +kernel
theorem dX11_reckonAll_27 : decode cX11_reckonAll 27 = .ok (.ifCond .eq 13, 3) := by decide +kernel
theorem dX11_reckonAll_30 : decode cX11_reckonAll 30 = .ok (.aload_n 0, 1) := by decide +kernel
theorem dX11_reckonAll_31 : decode cX11_reckonAll 31 = .ok (.getfield 45, 3) := by decide +kernel
theorem dX11_reckonAll_34 : decode cX11_reckonAll 34 = .ok (.iload 4, 2) := by decide +kernel
theorem dX11_reckonAll_36 : decode cX11_reckonAll 36 = .ok (.iaload, 1) := by decide +kernel
theorem dX11_reckonAll_37 : decode cX11_reckonAll 37 = .ok (.goto 20, 3) := by decide +kernel
theorem dX11_reckonAll_40 : decode cX11_reckonAll 40 = .ok (.aload_n 0, 1) := by decide +kernel
theorem dX11_reckonAll_41 : decode cX11_reckonAll 41 = .ok (.getfield 13, 3) := by decide +kernel
theorem dX11_reckonAll_44 : decode cX11_reckonAll 44 = .ok (.aload_n 0, 1) := by decide +kernel
theorem dX11_reckonAll_45 : decode cX11_reckonAll 45 = .ok (.getfield 401, 3) := by decide +kernel
theorem dX11_reckonAll_48 : decode cX11_reckonAll 48 = .ok (.bipush 98, 2) := by decide +kernel
theorem dX11_reckonAll_50 : decode cX11_reckonAll 50 = .ok (.iadd, 1) := by decide +kernel
theorem dX11_reckonAll_51 : decode cX11_reckonAll 51 = .ok (.iconst 2, 1) := by decide +kernel
theorem dX11_reckonAll_52 : decode cX11_reckonAll 52 = .ok (.iload 4, 2) := by decide +kernel
theorem dX11_reckonAll_54 : decode cX11_reckonAll 54 = .ok (.imul, 1) := by decide +kernel
theorem dX11_reckonAll_55 : decode cX11_reckonAll 55 = .ok (.iadd, 1) := by decide +kernel
theorem dX11_reckonAll_56 : decode cX11_reckonAll 56 = .ok (.iaload, 1) := by decide +kernel
theorem dX11_reckonAll_57 : decode cX11_reckonAll 57 = .ok (.istore 5, 2) := by decide +kernel
theorem dX11_reckonAll_59 : decode cX11_reckonAll 59 = .ok (.aload_n 0, 1) := by decide +kernel
theorem dX11_reckonAll_60 : decode cX11_reckonAll 60 = .ok (.getfield 324, 3) := by decide +kernel
theorem dX11_reckonAll_63 : decode cX11_reckonAll 63 = .ok (.ifCond .eq 13, 3) := by decide +kernel
theorem dX11_reckonAll_66 : decode cX11_reckonAll 66 = .ok (.aload_n 0, 1) := by decide +kernel
theorem dX11_reckonAll_67 : decode cX11_reckonAll 67 = .ok (.getfield 48, 3) := by decide +kernel
theorem dX11_reckonAll_70 : decode cX11_reckonAll 70 = .ok (.iload 4, 2) := by decide +kernel
theorem dX11_reckonAll_72 : decode cX11_reckonAll 72 = .ok (.iaload, 1) := by decide +kernel
theorem dX11_reckonAll_73 : decode cX11_reckonAll 73 = .ok (.goto 22, 3) := by decide +kernel
theorem dX11_reckonAll_76 : decode cX11_reckonAll 76 = .ok (.aload_n 0, 1) := by decide +kernel
theorem dX11_reckonAll_77 : decode cX11_reckonAll 77 = .ok (.getfield 13, 3) := by decide +kernel
theorem dX11_reckonAll_80 : decode cX11_reckonAll 80 = .ok (.aload_n 0, 1) := by decide +kernel
theorem dX11_reckonAll_81 : decode cX11_reckonAll 81 = .ok (.getfield 401, 3) := by decide +kernel
theorem dX11_reckonAll_84 : decode cX11_reckonAll 84 = .ok (.bipush 98, 2) := by decide +kernel
theorem dX11_reckonAll_86 : decode cX11_reckonAll 86 = .ok (.iadd, 1) := by decide +kernel
theorem dX11_reckonAll_87 : decode cX11_reckonAll 87 = .ok (.iconst 2, 1) := by decide +kernel
theorem dX11_reckonAll_88 : decode cX11_reckonAll 88 = .ok (.iload 4, 2) := by decide +kernel
theorem dX11_reckonAll_90 : decode cX11_reckonAll 90 = .ok (.imul, 1) := by decide +kernel
theorem dX11_reckonAll_91 : decode cX11_reckonAll 91 = .ok (.iadd, 1) := by decide +kernel
theorem dX11_reckonAll_92 : decode cX11_reckonAll 92 = .ok (.iconst 1, 1) := by decide +kernel
theorem dX11_reckonAll_93 : decode cX11_reckonAll 93 = .ok (.iadd, 1) := by decide +kernel
theorem dX11_reckonAll_94 : decode cX11_reckonAll 94 = .ok (.iaload, 1) := by decide +kernel
theorem dX11_reckonAll_95 : decode cX11_reckonAll 95 = .ok (.istore 6, 2) := by decide +kernel
theorem dX11_reckonAll_97 : decode cX11_reckonAll 97 = .ok (.iinc 4 1, 3) := by decide +kernel
theorem dX11_reckonAll_100 : decode cX11_reckonAll 100 = .ok (.iload 5, 2) := by decide +kernel
theorem dX11_reckonAll_102 : decode cX11_reckonAll 102 = .ok (.bipush 20, 2) := by decide +kernel
theorem dX11_reckonAll_104 : decode cX11_reckonAll 104 = .ok (.if_icmp .ge 115, 3) := by decide +kernel
theorem dX11_reckonAll_107 : decode cX11_reckonAll 107 = .ok (.aload_n 0, 1) := by decide +kernel
theorem dX11_reckonAll_108 : decode cX11_reckonAll 108 = .ok (.getfield 111, 3) := by decide +kernel
theorem dX11_reckonAll_111 : decode cX11_reckonAll 111 = .ok (.iload_n 3, 1) := by decide +kernel
theorem dX11_reckonAll_112 : decode cX11_reckonAll 112 = .ok (.iload 5, 2) := by decide +kernel
theorem dX11_reckonAll_114 : decode cX11_reckonAll 114 = .ok (.ifCond .ne 9, 3) := by decide +kernel
theorem dX11_reckonAll_117 : decode cX11_reckonAll 117 = .ok (.iload 6, 2) := by decide +kernel
theorem dX11_reckonAll_119 : decode cX11_reckonAll 119 = .ok (.i2l, 1) := by decide +kernel
theorem dX11_reckonAll_120 : decode cX11_reckonAll 120 = .ok (.goto 92, 3) := by decide +kernel
theorem dX11_reckonAll_123 : decode cX11_reckonAll 123 = .ok (.aload_n 0, 1) := by decide +kernel
theorem dX11_reckonAll_124 : decode cX11_reckonAll 124 = .ok (.getfield 324, 3) := by decide +kernel
theorem dX11_reckonAll_127 : decode cX11_reckonAll 127 = .ok (.ifCond .ne 13, 3) := by decide +kernel
theorem dX11_reckonAll_130 : decode cX11_reckonAll 130 = .ok (.aload_n 0, 1) := by decide +kernel
theorem dX11_reckonAll_131 : decode cX11_reckonAll 131 = .ok (.getfield 105, 3) := by decide +kernel
theorem dX11_reckonAll_134 : decode cX11_reckonAll 134 = .ok (.iload 5, 2) := by decide +kernel
theorem dX11_reckonAll_136 : decode cX11_reckonAll 136 = .ok (.laload, 1) := by decide +kernel
theorem dX11_reckonAll_137 : decode cX11_reckonAll 137 = .ok (.goto 75, 3) := by decide +kernel
theorem dX11_reckonAll_140 : decode cX11_reckonAll 140 = .ok (.iload 5, 2) := by decide +kernel
theorem dX11_reckonAll_142 : decode cX11_reckonAll 142 = .ok (.bipush 6, 2) := by decide +kernel
theorem dX11_reckonAll_144 : decode cX11_reckonAll 144 = .ok (.if_icmp .ge 13, 3) := by decide +kernel
theorem dX11_reckonAll_147 : decode cX11_reckonAll 147 = .ok (.aload_n 0, 1) := by decide +kernel
theorem dX11_reckonAll_148 : decode cX11_reckonAll 148 = .ok (.getfield 108, 3) := by decide +kernel
theorem dX11_reckonAll_151 : decode cX11_reckonAll 151 = .ok (.iload 5, 2) := by decide +kernel
theorem dX11_reckonAll_153 : decode cX11_reckonAll 153 = .ok (.laload, 1) := by decide +kernel
theorem dX11_reckonAll_154 : decode cX11_reckonAll 154 = .ok (.goto 58, 3) := by decide +kernel
theorem dX11_reckonAll_157 : decode cX11_reckonAll 157 = .ok (.aload_n 0, 1) := by decide +kernel
theorem dX11_reckonAll_158 : decode cX11_reckonAll 158 = .ok (.iload 6, 2) := by decide +kernel
theorem dX11_reckonAll_160 : decode cX11_reckonAll 160 = .ok (.invokevirtual 211, 3) := by decide +kernel
theorem dX11_reckonAll_163 : decode cX11_reckonAll 163 = .ok (.ifCond .ne 9, 3) := by decide +kernel
theorem dX11_reckonAll_166 : decode cX11_reckonAll 166 = .ok (.ldc2_w 278, 3) := by decide +kernel
theorem dX11_reckonAll_169 : decode cX11_reckonAll 169 = .ok (.goto 43, 3) := by decide +kernel
theorem dX11_reckonAll_172 : decode cX11_reckonAll 172 = .ok (.iload 5, 2) := by decide +kernel
theorem dX11_reckonAll_174 : decode cX11_reckonAll 174 = .ok (.bipush 6, 2) := by decide +kernel
theorem dX11_reckonAll_176 : decode cX11_reckonAll 176 = .ok (.if_icmp .ne 17, 3) := by decide +kernel
theorem dX11_reckonAll_179 : decode cX11_reckonAll 179 = .ok (.aload_n 0, 1) := by decide +kernel
theorem dX11_reckonAll_180 : decode cX11_reckonAll 180 = .ok (.getfield 13, 3) := by decide +kernel
theorem dX11_reckonAll_183 : decode cX11_reckonAll 183 = .ok (.bipush 8, 2) := by decide +kernel
theorem dX11_reckonAll_185 : decode cX11_reckonAll 185 = .ok (.iload 6, 2) := by decide +kernel
theorem dX11_reckonAll_187 : decode cX11_reckonAll 187 = .ok (.iadd, 1) := by decide +kernel
theorem dX11_reckonAll_188 : decode cX11_reckonAll 188 = .ok (.iaload, 1) := by decide +kernel
theorem dX11_reckonAll_189 : decode cX11_reckonAll 189 = .ok (.i2l, 1) := by decide +kernel
theorem dX11_reckonAll_190 : decode cX11_reckonAll 190 = .ok (.goto 22, 3) := by decide +kernel
theorem dX11_reckonAll_193 : decode cX11_reckonAll 193 = .ok (.aload_n 0, 1) := by decide +kernel
theorem dX11_reckonAll_194 : decode cX11_reckonAll 194 = .ok (.getfield 13, 3) := by decide +kernel
theorem dX11_reckonAll_197 : decode cX11_reckonAll 197 = .ok (.bipush 20, 2) := by decide +kernel
theorem dX11_reckonAll_199 : decode cX11_reckonAll 199 = .ok (.iconst 4, 1) := by decide +kernel
theorem dX11_reckonAll_200 : decode cX11_reckonAll 200 = .ok (.iload 6, 2) := by decide +kernel
theorem dX11_reckonAll_202 : decode cX11_reckonAll 202 = .ok (.imul, 1) := by decide +kernel
theorem dX11_reckonAll_203 : decode cX11_reckonAll 203 = .ok (.iadd, 1) := by decide +kernel
theorem dX11_reckonAll_204 : decode cX11_reckonAll 204 = .ok (.iload 5, 2) := by decide +kernel
theorem dX11_reckonAll_206 : decode cX11_reckonAll 206 = .ok (.iadd, 1) := by decide +kernel
theorem dX11_reckonAll_207 : decode cX11_reckonAll 207 = .ok (.bipush 7, 2) := by decide +kernel
theorem dX11_reckonAll_209 : decode cX11_reckonAll 209 = .ok (.isub, 1) := by decide +kernel
theorem dX11_reckonAll_210 : decode cX11_reckonAll 210 = .ok (.iaload, 1) := by decide +kernel
theorem dX11_reckonAll_211 : decode cX11_reckonAll 211 = .ok (.i2l, 1) := by decide +kernel
theorem dX11_reckonAll_212 : decode cX11_reckonAll 212 = .ok (.lastore, 1) := by decide +kernel
theorem dX11_reckonAll_213 : decode cX11_reckonAll 213 = .ok (.iinc 3 1, 3) := by decide +kernel
theorem dX11_reckonAll_216 : decode cX11_reckonAll 216 = .ok (.goto 142, 3) := by decide +kernel
theorem dX11_reckonAll_219 : decode cX11_reckonAll 219 = .ok (.iload 5, 2) := by decide +kernel
theorem dX11_reckonAll_221 : decode cX11_reckonAll 221 = .ok (.bipush 28, 2) := by decide +kernel
theorem dX11_reckonAll_223 : decode cX11_reckonAll 223 = .ok (.if_icmp .ge 73, 3) := by decide +kernel
theorem dX11_reckonAll_226 : decode cX11_reckonAll 226 = .ok (.iinc 3 (-1), 3) := by decide +kernel
theorem dX11_reckonAll_229 : decode cX11_reckonAll 229 = .ok (.aload_n 0, 1) := by decide +kernel
theorem dX11_reckonAll_230 : decode cX11_reckonAll 230 = .ok (.getfield 111, 3) := by decide +kernel
theorem dX11_reckonAll_233 : decode cX11_reckonAll 233 = .ok (.iload_n 3, 1) := by decide +kernel
theorem dX11_reckonAll_234 : decode cX11_reckonAll 234 = .ok (.iconst 1, 1) := by decide +kernel
theorem dX11_reckonAll_235 : decode cX11_reckonAll 235 = .ok (.isub, 1) := by decide +kernel
theorem dX11_reckonAll_236 : decode cX11_reckonAll 236 = .ok (.aload_n 0, 1) := by decide +kernel
theorem dX11_reckonAll_237 : decode cX11_reckonAll 237 = .ok (.iload 5, 2) := by decide +kernel
theorem dX11_reckonAll_239 : decode cX11_reckonAll 239 = .ok (.aload_n 0, 1) := by decide +kernel
theorem dX11_reckonAll_240 : decode cX11_reckonAll 240 = .ok (.getfield 111, 3) := by decide +kernel
theorem dX11_reckonAll_243 : decode cX11_reckonAll 243 = .ok (.iload_n 3, 1) := by decide +kernel
theorem dX11_reckonAll_244 : decode cX11_reckonAll 244 = .ok (.iconst 1, 1) := by decide +kernel
theorem dX11_reckonAll_245 : decode cX11_reckonAll 245 = .ok (.isub, 1) := by decide +kernel
theorem dX11_reckonAll_246 : decode cX11_reckonAll 246 = .ok (.laload, 1) := by decide +kernel
theorem dX11_reckonAll_247 : decode cX11_reckonAll 247 = .ok (.aload_n 0, 1) := by decide +kernel
theorem dX11_reckonAll_248 : decode cX11_reckonAll 248 = .ok (.getfield 111, 3) := by decide +kernel
theorem dX11_reckonAll_251 : decode cX11_reckonAll 251 = .ok (.iload_n 3, 1) := by decide +kernel
theorem dX11_reckonAll_252 : decode cX11_reckonAll 252 = .ok (.laload, 1) := by decide +kernel
theorem dX11_reckonAll_253 : decode cX11_reckonAll 253 = .ok (.invokevirtual 404, 3) := by decide +kernel
theorem dX11_reckonAll_256 : decode cX11_reckonAll 256 = .ok (.lastore, 1) := by decide +kernel
theorem dX11_reckonAll_257 : decode cX11_reckonAll 257 = .ok (.aload_n 0, 1) := by decide +kernel
theorem dX11_reckonAll_258 : decode cX11_reckonAll 258 = .ok (.aload_n 0, 1) := by decide +kernel
theorem dX11_reckonAll_259 : decode cX11_reckonAll 259 = .ok (.getfield 398, 3) := by decide +kernel
theorem dX11_reckonAll_262 : decode cX11_reckonAll 262 = .ok (.ifCond .ne 23, 3) := by decide +kernel
theorem dX11_reckonAll_265 : decode cX11_reckonAll 265 = .ok (.aload_n 0, 1) := by decide +kernel
theorem dX11_reckonAll_266 : decode cX11_reckonAll 266 = .ok (.getfield 111, 3) := by decide +kernel
theorem dX11_reckonAll_269 : decode cX11_reckonAll 269 = .ok (.iload_n 3, 1) := by decide +kernel
theorem dX11_reckonAll_270 : decode cX11_reckonAll 270 = .ok (.iconst 1, 1) := by decide +kernel
theorem dX11_reckonAll_271 : decode cX11_reckonAll 271 = .ok (.isub, 1) := by decide +kernel
theorem dX11_reckonAll_272 : decode cX11_reckonAll 272 = .ok (.laload, 1) := by decide +kernel
theorem dX11_reckonAll_273 : decode cX11_reckonAll 273 = .ok (.ldc2_w 408, 3) := by decide +kernel
theorem dX11_reckonAll_276 : decode cX11_reckonAll 276 = .ok (.ldc2_w 410, 3) := by decide +kernel
theorem dX11_reckonAll_279 : decode cX11_reckonAll 279 = .ok (.invokestatic 186, 3) := by decide +kernel
theorem dX11_reckonAll_282 : decode cX11_reckonAll 282 = .ok (.ifCond .ne 7, 3) := by decide +kernel
theorem dX11_reckonAll_285 : decode cX11_reckonAll 285 = .ok (.iconst 1, 1) := by decide +kernel
theorem dX11_reckonAll_286 : decode cX11_reckonAll 286 = .ok (.goto 4, 3) := by decide +kernel
theorem dX11_reckonAll_289 : decode cX11_reckonAll 289 = .ok (.iconst 0, 1) := by decide +kernel
theorem dX11_reckonAll_290 : decode cX11_reckonAll 290 = .ok (.putfield 398, 3) := by decide +kernel
theorem dX11_reckonAll_293 : decode cX11_reckonAll 293 = .ok (.goto 65, 3) := by decide +kernel
theorem dX11_reckonAll_296 : decode cX11_reckonAll 296 = .ok (.iload 5, 2) := by decide +kernel
theorem dX11_reckonAll_298 : decode cX11_reckonAll 298 = .ok (.bipush 28, 2) := by decide +kernel
theorem dX11_reckonAll_300 : decode cX11_reckonAll 300 = .ok (.if_icmp .ne 24, 3) := by decide +kernel
theorem dX11_reckonAll_303 : decode cX11_reckonAll 303 = .ok (.aload_n 0, 1) := by decide +kernel
theorem dX11_reckonAll_304 : decode cX11_reckonAll 304 = .ok (.getfield 111, 3) := by decide +kernel
theorem dX11_reckonAll_307 : decode cX11_reckonAll 307 = .ok (.iload_n 3, 1) := by decide +kernel
theorem dX11_reckonAll_308 : decode cX11_reckonAll 308 = .ok (.iconst 1, 1) := by decide +kernel
theorem dX11_reckonAll_309 : decode cX11_reckonAll 309 = .ok (.isub, 1) := by decide +kernel
theorem dX11_reckonAll_310 : decode cX11_reckonAll 310 = .ok (.lconst 1, 1) := by decide +kernel
theorem dX11_reckonAll_311 : decode cX11_reckonAll 311 = .ok (.aload_n 0, 1) := by decide +kernel
theorem dX11_reckonAll_312 : decode cX11_reckonAll 312 = .ok (.getfield 111, 3) := by decide +kernel
theorem dX11_reckonAll_315 : decode cX11_reckonAll 315 = .ok (.iload_n 3, 1) := by decide +kernel
theorem dX11_reckonAll_316 : decode cX11_reckonAll 316 = .ok (.iconst 1, 1) := by decide +kernel
theorem dX11_reckonAll_317 : decode cX11_reckonAll 317 = .ok (.isub, 1) := by decide +kernel
theorem dX11_reckonAll_318 : decode cX11_reckonAll 318 = .ok (.laload, 1) := by decide +kernel
theorem dX11_reckonAll_319 : decode cX11_reckonAll 319 = .ok (.lsub, 1) := by decide +kernel
theorem dX11_reckonAll_320 : decode cX11_reckonAll 320 = .ok (.lastore, 1) := by decide +kernel
theorem dX11_reckonAll_321 : decode cX11_reckonAll 321 = .ok (.goto 37, 3) := by decide +kernel
theorem dX11_reckonAll_324 : decode cX11_reckonAll 324 = .ok (.aload_n 0, 1) := by decide +kernel
theorem dX11_reckonAll_325 : decode cX11_reckonAll 325 = .ok (.getfield 111, 3) := by decide +kernel
theorem dX11_reckonAll_328 : decode cX11_reckonAll 328 = .ok (.iload_n 3, 1) := by decide +kernel
theorem dX11_reckonAll_329 : decode cX11_reckonAll 329 = .ok (.iconst 1, 1) := by decide +kernel
theorem dX11_reckonAll_330 : decode cX11_reckonAll 330 = .ok (.isub, 1) := by decide +kernel
theorem dX11_reckonAll_331 : decode cX11_reckonAll 331 = .ok (.laload, 1) := by decide +kernel
theorem dX11_reckonAll_332 : decode cX11_reckonAll 332 = .ok (.iload 5, 2) := by decide +kernel
theorem dX11_reckonAll_334 : decode cX11_reckonAll 334 = .ok (.bipush 29, 2) := by decide +kernel
theorem dX11_reckonAll_336 : decode cX11_reckonAll 336 = .ok (.if_icmp .ne 7, 3) := by decide +kernel
theorem dX11_reckonAll_339 : decode cX11_reckonAll 339 = .ok (.lconst 0, 1) := by decide +kernel
theorem dX11_reckonAll_340 : decode cX11_reckonAll 340 = .ok (.goto 4, 3) := by decide +kernel
theorem dX11_reckonAll_343 : decode cX11_reckonAll 343 = .ok (.lconst 1, 1) := by decide +kernel
theorem dX11_reckonAll_344 : decode cX11_reckonAll 344 = .ok (.lcmp, 1) := by decide +kernel
theorem dX11_reckonAll_345 : decode cX11_reckonAll 345 = .ok (.ifCond .ne 10, 3) := by decide +kernel
theorem dX11_reckonAll_348 : decode cX11_reckonAll 348 = .ok (.iload 6, 2) := by decide +kernel
theorem dX11_reckonAll_350 : decode cX11_reckonAll 350 = .ok (.istore 4, 2) := by decide +kernel
theorem dX11_reckonAll_352 : decode cX11_reckonAll 352 = .ok (.goto 6, 3) := by decide +kernel
theorem dX11_reckonAll_355 : decode cX11_reckonAll 355 = .ok (.iinc 3 (-1), 3) := by decide +kernel
theorem dX11_reckonAll_358 : decode cX11_reckonAll 358 = .ok (.goto (-348), 3) := by decide +kernel
theorem dX11_reckonAll_361 : decode cX11_reckonAll 361 = .ok (.aload_n 0, 1) := by decide +kernel
theorem dX11_reckonAll_362 : decode cX11_reckonAll 362 = .ok (.iload_n 3, 1) := by decide +kernel
theorem dX11_reckonAll_363 : decode cX11_reckonAll 363 = .ok (.ifCond .le 12, 3) := by decide +kernel
theorem dX11_reckonAll_366 : decode cX11_reckonAll 366 = .ok (.aload_n 0, 1) := by decide +kernel
theorem dX11_reckonAll_367 : decode cX11_reckonAll 367 = .ok (.getfield 111, 3) := by decide +kernel
theorem dX11_reckonAll_370 : decode cX11_reckonAll 370 = .ok (.iconst 0, 1) := by decide +kernel
theorem dX11_reckonAll_371 : decode cX11_reckonAll 371 = .ok (.laload, 1) := by decide +kernel
theorem dX11_reckonAll_372 : decode cX11_reckonAll 372 = .ok (.goto 4, 3) := by decide +kernel
theorem dX11_reckonAll_375 : decode cX11_reckonAll 375 = .ok (.lconst 0, 1) := by decide +kernel
theorem dX11_reckonAll_376 : decode cX11_reckonAll 376 = .ok (.putfield 412, 3) := by decide +kernel
theorem dX11_reckonAll_379 : decode cX11_reckonAll 379 = .ok (.return_, 1) := by decide +kernel
def D_X11_reckonAll_376 (h : z_H) (s0 : Option Nat) (s1 : Int64) : Option z_H :=
  (z_pV 11 h s0 39 (.long s1)).bind fun h883 =>
  some h883
set_option maxRecDepth 100000 in
set_option maxHeartbeats 4000000 in
theorem S_X11_reckonAll_376 {G : z_G} {l : Launch}  {h : z_H} {s0 : Option Nat} {s1 : Int64} {res : z_H} (e : D_X11_reckonAll_376  h s0 s1 = some res) : z_Run G l 6 M_X11_reckonAll 376 [] [.long s1, z_r s0] h res none := by
  unfold D_X11_reckonAll_376 at e
  replace e := z_bd e; obtain ⟨h883, eh883, e⟩ := e
  refine z_putV eh883 lk_X11_412 wk_11_39 (fun _ => rfl) (fun _ => rfl) dX11_reckonAll_376 ?_
  cases e
  exact z_vret dX11_reckonAll_379 rfl
def D_X11_reckonAll_361 (h : z_H) (l0 : Option Nat) (l3 : Int32) : Option z_H :=
  if l3 ≤ 0 then
    D_X11_reckonAll_376   h l0 (0:Int64)
  else
    (z_gQ 11 h l0 37).bind fun x885 =>
    (z_aJ h x885 (0:Int32)).bind fun x886 =>
    D_X11_reckonAll_376   h l0 x886
set_option maxRecDepth 100000 in
set_option maxHeartbeats 4000000 in
theorem S_X11_reckonAll_361 {G : z_G} {l : Launch}  {h : z_H} {l0 : Option Nat} {l3 : Int32} {res : z_H} (e : D_X11_reckonAll_361  h l0 l3 = some res) : z_Run G l 6 M_X11_reckonAll 361 [(0, z_r l0), (3, .int l3)] [] h res none := by
  unfold D_X11_reckonAll_361 at e
  refine z_aload_n 0 dX11_reckonAll_361 rfl ?_
  refine z_iload_n 1 dX11_reckonAll_362 rfl ?_
  refine z_if_le (tgt := 375) dX11_reckonAll_363 (by decide) (fun c884 => ?_) (fun c884 => ?_)
  · rw [if_pos c884] at e
    refine z_lconst (v := 0) dX11_reckonAll_375 (by decide) ?_
    exact z_weak [] rfl (S_X11_reckonAll_376   e)
  · rw [if_neg c884] at e
    refine z_aload_n 0 dX11_reckonAll_366 rfl ?_
    replace e := z_bd e; obtain ⟨x885, ex885, e⟩ := e
    refine z_getQ ex885 lk_X11_111 dX11_reckonAll_367 ?_
    refine z_iconst (v := 0) dX11_reckonAll_370 (by decide) ?_
    replace e := z_bd e; obtain ⟨x886, ex886, e⟩ := e
    refine z_lald ex886 dX11_reckonAll_371 ?_
    refine z_goto (tgt := 376) dX11_reckonAll_372 (by decide) ?_
    exact z_weak [] rfl (S_X11_reckonAll_376   e)
def D_X11_reckonAll_358 (k10 : z_H → Option Nat → Int32 → Int32 → Int32 → Option z_H) (h : z_H) (l0 : Option Nat) (l2 : Int32) (l3 : Int32) (l4 : Int32) : Option z_H :=
  k10 h l0 l2 l3 l4
set_option maxRecDepth 100000 in
set_option maxHeartbeats 4000000 in
theorem S_X11_reckonAll_358 {G : z_G} {l : Launch} {k10 : z_H → Option Nat → Int32 → Int32 → Int32 → Option z_H} (hk10 : ∀ {h : z_H} {l0 : Option Nat} {l2 : Int32} {l3 : Int32} {l4 : Int32} {res : z_H}, k10 h l0 l2 l3 l4 = some res → z_Run G l 6 M_X11_reckonAll 10 [(0, z_r l0), (2, .int l2), (3, .int l3), (4, .int l4)] [] h res none) {h : z_H} {l0 : Option Nat} {l2 : Int32} {l3 : Int32} {l4 : Int32} {res : z_H} (e : D_X11_reckonAll_358 k10 h l0 l2 l3 l4 = some res) : z_Run G l 6 M_X11_reckonAll 358 [(0, z_r l0), (2, .int l2), (3, .int l3), (4, .int l4)] [] h res none := by
  unfold D_X11_reckonAll_358 at e
  refine z_goto (tgt := 10) dX11_reckonAll_358 (by decide) ?_
  exact z_weak [0, 1, 2, 3] rfl (hk10 e)
def D_X11_reckonAll_344 (k10 : z_H → Option Nat → Int32 → Int32 → Int32 → Option z_H) (h : z_H) (l0 : Option Nat) (l2 : Int32) (l3 : Int32) (l4 : Int32) (l6 : Int32) (s0 : Int64) (s1 : Int64) : Option z_H :=
  if (lg_cmp s0 s1) = 0 then
    D_X11_reckonAll_358  k10 h l0 l2 l3 l6
  else
    (some (l3 + (-1:Int32))).bind fun x888 =>
    D_X11_reckonAll_358  k10 h l0 l2 x888 l4
set_option maxRecDepth 100000 in
set_option maxHeartbeats 4000000 in
theorem S_X11_reckonAll_344 {G : z_G} {l : Launch} {k10 : z_H → Option Nat → Int32 → Int32 → Int32 → Option z_H} (hk10 : ∀ {h : z_H} {l0 : Option Nat} {l2 : Int32} {l3 : Int32} {l4 : Int32} {res : z_H}, k10 h l0 l2 l3 l4 = some res → z_Run G l 6 M_X11_reckonAll 10 [(0, z_r l0), (2, .int l2), (3, .int l3), (4, .int l4)] [] h res none) {h : z_H} {l0 : Option Nat} {l2 : Int32} {l3 : Int32} {l4 : Int32} {l6 : Int32} {s0 : Int64} {s1 : Int64} {res : z_H} (e : D_X11_reckonAll_344 k10 h l0 l2 l3 l4 l6 s0 s1 = some res) : z_Run G l 6 M_X11_reckonAll 344 [(0, z_r l0), (2, .int l2), (3, .int l3), (4, .int l4), (6, .int l6)] [.long s1, .long s0] h res none := by
  unfold D_X11_reckonAll_344 at e
  refine z_lcmp dX11_reckonAll_344 ?_
  refine z_if_ne (tgt := 355) dX11_reckonAll_345 (by decide) (fun c887 => ?_) (fun c887 => ?_)
  · rw [if_neg c887] at e
    replace e := z_bd e; obtain ⟨x888, ex888, e⟩ := e
    refine z_iinc (q := 2) (v := x888) (L' := [(3, .int x888), (0, z_r l0), (2, .int l2), (4, .int l4), (6, .int l6)]) dX11_reckonAll_355 rfl (Option.some.inj ex888) (by decide) rfl ?_
    exact z_weak [1, 2, 0, 3] rfl (S_X11_reckonAll_358  @hk10 e)
  · rw [if_pos c887] at e
    refine z_iload 4 dX11_reckonAll_348 rfl ?_
    refine z_istore (L' := [(4, .int l6), (0, z_r l0), (2, .int l2), (3, .int l3), (6, .int l6)]) dX11_reckonAll_350 (by decide) rfl ?_
    refine z_goto (tgt := 358) dX11_reckonAll_352 (by decide) ?_
    exact z_weak [1, 2, 3, 0] rfl (S_X11_reckonAll_358  @hk10 e)
def D_X11_reckonAll_290 (k10 : z_H → Option Nat → Int32 → Int32 → Int32 → Option z_H) (h : z_H) (l0 : Option Nat) (l2 : Int32) (l3 : Int32) (l4 : Int32) (s0 : Option Nat) (s1 : Int32) : Option z_H :=
  if s1 = 0 ∨ s1 = 1 then
  (z_pV 11 h s0 38 (.int s1)).bind fun h889 =>
  D_X11_reckonAll_358  k10 h889 l0 l2 l3 l4
  else none
set_option maxRecDepth 100000 in
set_option maxHeartbeats 4000000 in
theorem S_X11_reckonAll_290 {G : z_G} {l : Launch} {k10 : z_H → Option Nat → Int32 → Int32 → Int32 → Option z_H} (hk10 : ∀ {h : z_H} {l0 : Option Nat} {l2 : Int32} {l3 : Int32} {l4 : Int32} {res : z_H}, k10 h l0 l2 l3 l4 = some res → z_Run G l 6 M_X11_reckonAll 10 [(0, z_r l0), (2, .int l2), (3, .int l3), (4, .int l4)] [] h res none) {h : z_H} {l0 : Option Nat} {l2 : Int32} {l3 : Int32} {l4 : Int32} {s0 : Option Nat} {s1 : Int32} {res : z_H} (e : D_X11_reckonAll_290 k10 h l0 l2 l3 l4 s0 s1 = some res) : z_Run G l 6 M_X11_reckonAll 290 [(0, z_r l0), (2, .int l2), (3, .int l3), (4, .int l4)] [.int s1, z_r s0] h res none := by
  unfold D_X11_reckonAll_290 at e
  replace e := z_ifs e; obtain ⟨c890, e⟩ := e
  replace e := z_bd e; obtain ⟨h889, eh889, e⟩ := e
  refine z_putV eh889 lk_X11_398 wk_11_38 (fun _ => (z_nz c890).1) (fun _ => (z_nz c890).2) dX11_reckonAll_290 ?_
  refine z_goto (tgt := 358) dX11_reckonAll_293 (by decide) ?_
  exact z_weak [0, 1, 2, 3] rfl (S_X11_reckonAll_358  @hk10 e)
def D_X11_reckonAll_285 (k10 : z_H → Option Nat → Int32 → Int32 → Int32 → Option z_H) (h : z_H) (l0 : Option Nat) (l2 : Int32) (l3 : Int32) (l4 : Int32) (s0 : Option Nat) : Option z_H :=
  D_X11_reckonAll_290  k10 h l0 l2 l3 l4 s0 (1:Int32)
set_option maxRecDepth 100000 in
set_option maxHeartbeats 4000000 in
theorem S_X11_reckonAll_285 {G : z_G} {l : Launch} {k10 : z_H → Option Nat → Int32 → Int32 → Int32 → Option z_H} (hk10 : ∀ {h : z_H} {l0 : Option Nat} {l2 : Int32} {l3 : Int32} {l4 : Int32} {res : z_H}, k10 h l0 l2 l3 l4 = some res → z_Run G l 6 M_X11_reckonAll 10 [(0, z_r l0), (2, .int l2), (3, .int l3), (4, .int l4)] [] h res none) {h : z_H} {l0 : Option Nat} {l2 : Int32} {l3 : Int32} {l4 : Int32} {s0 : Option Nat} {res : z_H} (e : D_X11_reckonAll_285 k10 h l0 l2 l3 l4 s0 = some res) : z_Run G l 6 M_X11_reckonAll 285 [(0, z_r l0), (2, .int l2), (3, .int l3), (4, .int l4)] [z_r s0] h res none := by
  unfold D_X11_reckonAll_285 at e
  refine z_iconst (v := 1) dX11_reckonAll_285 (by decide) ?_
  refine z_goto (tgt := 290) dX11_reckonAll_286 (by decide) ?_
  exact z_weak [0, 1, 2, 3] rfl (S_X11_reckonAll_290  @hk10 e)
def D_X11_reckonAll_212 (k10 : z_H → Option Nat → Int32 → Int32 → Int32 → Option z_H) (h : z_H) (l0 : Option Nat) (l2 : Int32) (l3 : Int32) (l4 : Int32) (s0 : Option Nat) (s1 : Int32) (s2 : Int64) : Option z_H :=
  (z_sJ h s0 s1 s2).bind fun h891 =>
  (some (l3 + (1:Int32))).bind fun x892 =>
  D_X11_reckonAll_358  k10 h891 l0 l2 x892 l4
set_option maxRecDepth 100000 in
set_option maxHeartbeats 4000000 in
theorem S_X11_reckonAll_212 {G : z_G} {l : Launch} {k10 : z_H → Option Nat → Int32 → Int32 → Int32 → Option z_H} (hk10 : ∀ {h : z_H} {l0 : Option Nat} {l2 : Int32} {l3 : Int32} {l4 : Int32} {res : z_H}, k10 h l0 l2 l3 l4 = some res → z_Run G l 6 M_X11_reckonAll 10 [(0, z_r l0), (2, .int l2), (3, .int l3), (4, .int l4)] [] h res none) {h : z_H} {l0 : Option Nat} {l2 : Int32} {l3 : Int32} {l4 : Int32} {s0 : Option Nat} {s1 : Int32} {s2 : Int64} {res : z_H} (e : D_X11_reckonAll_212 k10 h l0 l2 l3 l4 s0 s1 s2 = some res) : z_Run G l 6 M_X11_reckonAll 212 [(0, z_r l0), (2, .int l2), (3, .int l3), (4, .int l4)] [.long s2, .int s1, z_r s0] h res none := by
  unfold D_X11_reckonAll_212 at e
  replace e := z_bd e; obtain ⟨h891, eh891, e⟩ := e
  refine z_last eh891 dX11_reckonAll_212 ?_
  replace e := z_bd e; obtain ⟨x892, ex892, e⟩ := e
  refine z_iinc (q := 2) (v := x892) (L' := [(3, .int x892), (0, z_r l0), (2, .int l2), (4, .int l4)]) dX11_reckonAll_213 rfl (Option.some.inj ex892) (by decide) rfl ?_
  refine z_goto (tgt := 358) dX11_reckonAll_216 (by decide) ?_
  exact z_weak [1, 2, 0, 3] rfl (S_X11_reckonAll_358  @hk10 e)
def D_X11_reckonAll_95 (k10 : z_H → Option Nat → Int32 → Int32 → Int32 → Option z_H) (h : z_H) (l0 : Option Nat) (l2 : Int32) (l3 : Int32) (l4 : Int32) (l5 : Int32) (s0 : Int32) : Option z_H :=
  (some (l4 + (1:Int32))).bind fun x893 =>
  if (20:Int32) ≤ l5 then
    if (28:Int32) ≤ l5 then
      if l5 = (28:Int32) then
        (z_gQ 11 h l0 37).bind fun x900 =>
        (z_gQ 11 h l0 37).bind fun x901 =>
        (z_aJ h x901 (l3 - (1:Int32))).bind fun x902 =>
        (z_sJ h x900 (l3 - (1:Int32)) ((1:Int64) - x902)).bind fun h903 =>
        D_X11_reckonAll_358  k10 h903 l0 l2 l3 x893
      else
        (z_gQ 11 h l0 37).bind fun x897 =>
        (z_aJ h x897 (l3 - (1:Int32))).bind fun x898 =>
        if l5 = (29:Int32) then
          D_X11_reckonAll_344  k10 h l0 l2 l3 x893 s0 x898 (0:Int64)
        else
          D_X11_reckonAll_344  k10 h l0 l2 l3 x893 s0 x898 (1:Int64)
    else
      (some (l3 + (-1:Int32))).bind fun x904 =>
      (z_gQ 11 h l0 37).bind fun x905 =>
      (z_gQ 11 h l0 37).bind fun x906 =>
      (z_aJ h x906 (x904 - (1:Int32))).bind fun x907 =>
      (z_gQ 11 h l0 37).bind fun x908 =>
      (z_aJ h x908 x904).bind fun x909 =>
      (z_ob 11 h l0).bind fun _ =>
      (D_X11_reckon  h l0 l5 x907 x909).bind fun p910 =>
      (z_sJ p910.2 x905 (x904 - (1:Int32)) p910.1).bind fun h912 =>
      (z_gI 11 h912 l0 38).bind fun x913 =>
      if x913 = 0 then
        (z_gQ 11 h912 l0 37).bind fun x915 =>
        (z_aJ h912 x915 (x904 - (1:Int32))).bind fun x916 =>
        (D_X11_in  h912 x916 (-1000000000:Int64) (1000000000:Int64)).bind fun p917 =>
        if p917.1 = 0 then
          D_X11_reckonAll_285  k10 p917.2 l0 l2 x904 x893 l0
        else
          D_X11_reckonAll_290  k10 p917.2 l0 l2 x904 x893 l0 (0:Int32)
      else
        D_X11_reckonAll_285  k10 h912 l0 l2 x904 x893 l0
  else
    (z_gQ 11 h l0 37).bind fun x919 =>
    if l5 = 0 then
      D_X11_reckonAll_212  k10 h l0 l2 l3 x893 x919 l3 (Int32.toInt64 s0)
    else
      (z_gI 11 h l0 20).bind fun x921 =>
      if x921 = 0 then
        (z_gQ 11 h l0 35).bind fun x934 =>
        (z_aJ h x934 l5).bind fun x935 =>
        D_X11_reckonAll_212  k10 h l0 l2 l3 x893 x919 l3 x935
      else
        if (6:Int32) ≤ l5 then
          (z_ob 11 h l0).bind fun _ =>
          (D_X11_isPair  h l0 s0).bind fun p924 =>
          if p924.1 = 0 then
            D_X11_reckonAll_212  k10 p924.2 l0 l2 l3 x893 x919 l3 (-1:Int64)
          else
            if l5 = (6:Int32) then
              (z_gQ 11 p924.2 l0 3).bind fun x930 =>
              (z_aI .int p924.2 x930 ((8:Int32) + s0)).bind fun x931 =>
              D_X11_reckonAll_212  k10 p924.2 l0 l2 l3 x893 x919 l3 (Int32.toInt64 x931)
            else
              (z_gQ 11 p924.2 l0 3).bind fun x928 =>
              (z_aI .int p924.2 x928 ((((20:Int32) + ((4:Int32) * s0)) + l5) - (7:Int32))).bind fun x929 =>
              D_X11_reckonAll_212  k10 p924.2 l0 l2 l3 x893 x919 l3 (Int32.toInt64 x929)
        else
          (z_gQ 11 h l0 36).bind fun x932 =>
          (z_aJ h x932 l5).bind fun x933 =>
          D_X11_reckonAll_212  k10 h l0 l2 l3 x893 x919 l3 x933
set_option maxRecDepth 100000 in
set_option maxHeartbeats 4000000 in
theorem S_X11_reckonAll_95 {G : z_G} {l : Launch} {k10 : z_H → Option Nat → Int32 → Int32 → Int32 → Option z_H} (hk10 : ∀ {h : z_H} {l0 : Option Nat} {l2 : Int32} {l3 : Int32} {l4 : Int32} {res : z_H}, k10 h l0 l2 l3 l4 = some res → z_Run G l 6 M_X11_reckonAll 10 [(0, z_r l0), (2, .int l2), (3, .int l3), (4, .int l4)] [] h res none) {h : z_H} {l0 : Option Nat} {l2 : Int32} {l3 : Int32} {l4 : Int32} {l5 : Int32} {s0 : Int32} {res : z_H} (e : D_X11_reckonAll_95 k10 h l0 l2 l3 l4 l5 s0 = some res) : z_Run G l 6 M_X11_reckonAll 95 [(0, z_r l0), (2, .int l2), (3, .int l3), (4, .int l4), (5, .int l5)] [.int s0] h res none := by
  unfold D_X11_reckonAll_95 at e
  refine z_istore (L' := [(6, .int s0), (0, z_r l0), (2, .int l2), (3, .int l3), (4, .int l4), (5, .int l5)]) dX11_reckonAll_95 (by decide) rfl ?_
  replace e := z_bd e; obtain ⟨x893, ex893, e⟩ := e
  refine z_iinc (q := 4) (v := x893) (L' := [(4, .int x893), (6, .int s0), (0, z_r l0), (2, .int l2), (3, .int l3), (5, .int l5)]) dX11_reckonAll_97 rfl (Option.some.inj ex893) (by decide) rfl ?_
  refine z_iload 5 dX11_reckonAll_100 rfl ?_
  refine z_bipush (v := 20) dX11_reckonAll_102 (by decide) ?_
  refine z_icmp_ge (tgt := 219) dX11_reckonAll_104 (by decide) (fun c894 => ?_) (fun c894 => ?_)
  · rw [if_pos c894] at e
    refine z_iload 5 dX11_reckonAll_219 rfl ?_
    refine z_bipush (v := 28) dX11_reckonAll_221 (by decide) ?_
    refine z_icmp_ge (tgt := 296) dX11_reckonAll_223 (by decide) (fun c895 => ?_) (fun c895 => ?_)
    · rw [if_pos c895] at e
      refine z_iload 5 dX11_reckonAll_296 rfl ?_
      refine z_bipush (v := 28) dX11_reckonAll_298 (by decide) ?_
      refine z_icmp_ne (tgt := 324) dX11_reckonAll_300 (by decide) (fun c896 => ?_) (fun c896 => ?_)
      · rw [if_neg c896] at e
        refine z_aload_n 2 dX11_reckonAll_324 rfl ?_
        replace e := z_bd e; obtain ⟨x897, ex897, e⟩ := e
        refine z_getQ ex897 lk_X11_111 dX11_reckonAll_325 ?_
        refine z_iload_n 4 dX11_reckonAll_328 rfl ?_
        refine z_iconst (v := 1) dX11_reckonAll_329 (by decide) ?_
        refine z_isub dX11_reckonAll_330 ?_
        replace e := z_bd e; obtain ⟨x898, ex898, e⟩ := e
        refine z_lald ex898 dX11_reckonAll_331 ?_
        refine z_iload 5 dX11_reckonAll_332 rfl ?_
        refine z_bipush (v := 29) dX11_reckonAll_334 (by decide) ?_
        refine z_icmp_ne (tgt := 343) dX11_reckonAll_336 (by decide) (fun c899 => ?_) (fun c899 => ?_)
        · rw [if_neg c899] at e
          refine z_lconst (v := 1) dX11_reckonAll_343 (by decide) ?_
          exact z_weak [2, 3, 4, 0, 1] rfl (S_X11_reckonAll_344  @hk10 e)
        · rw [if_pos c899] at e
          refine z_lconst (v := 0) dX11_reckonAll_339 (by decide) ?_
          refine z_goto (tgt := 344) dX11_reckonAll_340 (by decide) ?_
          exact z_weak [2, 3, 4, 0, 1] rfl (S_X11_reckonAll_344  @hk10 e)
      · rw [if_pos c896] at e
        refine z_aload_n 2 dX11_reckonAll_303 rfl ?_
        replace e := z_bd e; obtain ⟨x900, ex900, e⟩ := e
        refine z_getQ ex900 lk_X11_111 dX11_reckonAll_304 ?_
        refine z_iload_n 4 dX11_reckonAll_307 rfl ?_
        refine z_iconst (v := 1) dX11_reckonAll_308 (by decide) ?_
        refine z_isub dX11_reckonAll_309 ?_
        refine z_lconst (v := 1) dX11_reckonAll_310 (by decide) ?_
        refine z_aload_n 2 dX11_reckonAll_311 rfl ?_
        replace e := z_bd e; obtain ⟨x901, ex901, e⟩ := e
        refine z_getQ ex901 lk_X11_111 dX11_reckonAll_312 ?_
        refine z_iload_n 4 dX11_reckonAll_315 rfl ?_
        refine z_iconst (v := 1) dX11_reckonAll_316 (by decide) ?_
        refine z_isub dX11_reckonAll_317 ?_
        replace e := z_bd e; obtain ⟨x902, ex902, e⟩ := e
        refine z_lald ex902 dX11_reckonAll_318 ?_
        refine z_lsub dX11_reckonAll_319 ?_
        replace e := z_bd e; obtain ⟨h903, eh903, e⟩ := e
        refine z_last eh903 dX11_reckonAll_320 ?_
        refine z_goto (tgt := 358) dX11_reckonAll_321 (by decide) ?_
        exact z_weak [2, 3, 4, 0] rfl (S_X11_reckonAll_358  @hk10 e)
    · rw [if_neg c895] at e
      replace e := z_bd e; obtain ⟨x904, ex904, e⟩ := e
      refine z_iinc (q := 4) (v := x904) (L' := [(3, .int x904), (4, .int x893), (6, .int s0), (0, z_r l0), (2, .int l2), (5, .int l5)]) dX11_reckonAll_226 rfl (Option.some.inj ex904) (by decide) rfl ?_
      refine z_aload_n 3 dX11_reckonAll_229 rfl ?_
      replace e := z_bd e; obtain ⟨x905, ex905, e⟩ := e
      refine z_getQ ex905 lk_X11_111 dX11_reckonAll_230 ?_
      refine z_iload_n 0 dX11_reckonAll_233 rfl ?_
      refine z_iconst (v := 1) dX11_reckonAll_234 (by decide) ?_
      refine z_isub dX11_reckonAll_235 ?_
      refine z_aload_n 3 dX11_reckonAll_236 rfl ?_
      refine z_iload 5 dX11_reckonAll_237 rfl ?_
      refine z_aload_n 3 dX11_reckonAll_239 rfl ?_
      replace e := z_bd e; obtain ⟨x906, ex906, e⟩ := e
      refine z_getQ ex906 lk_X11_111 dX11_reckonAll_240 ?_
      refine z_iload_n 0 dX11_reckonAll_243 rfl ?_
      refine z_iconst (v := 1) dX11_reckonAll_244 (by decide) ?_
      refine z_isub dX11_reckonAll_245 ?_
      replace e := z_bd e; obtain ⟨x907, ex907, e⟩ := e
      refine z_lald ex907 dX11_reckonAll_246 ?_
      refine z_aload_n 3 dX11_reckonAll_247 rfl ?_
      replace e := z_bd e; obtain ⟨x908, ex908, e⟩ := e
      refine z_getQ ex908 lk_X11_111 dX11_reckonAll_248 ?_
      refine z_iload_n 0 dX11_reckonAll_251 rfl ?_
      replace e := z_bd e; obtain ⟨x909, ex909, e⟩ := e
      refine z_lald ex909 dX11_reckonAll_252 ?_
      replace e := z_bd e; obtain ⟨o911, eo911, e⟩ := e
      replace e := z_bd e; obtain ⟨p910, ep910, e⟩ := e
      refine z_cV [.int l5, .long x907, .long x909] (S_X11_reckon  ep910) eo911 rfl ml_X11_404 ck_X11_reckon vk_X11_reckon dX11_reckonAll_253 (by decide) rfl (by simp [z_ci, z_cj, z_cr, z_cx]) rfl ?_
      replace e := z_bd e; obtain ⟨h912, eh912, e⟩ := e
      refine z_last eh912 dX11_reckonAll_256 ?_
      refine z_aload_n 3 dX11_reckonAll_257 rfl ?_
      refine z_aload_n 3 dX11_reckonAll_258 rfl ?_
      replace e := z_bd e; obtain ⟨x913, ex913, e⟩ := e
      refine z_getI ex913 lk_X11_398 dX11_reckonAll_259 ?_
      refine z_if_ne (tgt := 285) dX11_reckonAll_262 (by decide) (fun c914 => ?_) (fun c914 => ?_)
      · rw [if_neg c914] at e
        exact z_weak [3, 4, 0, 1] rfl (S_X11_reckonAll_285  @hk10 e)
      · rw [if_pos c914] at e
        refine z_aload_n 3 dX11_reckonAll_265 rfl ?_
        replace e := z_bd e; obtain ⟨x915, ex915, e⟩ := e
        refine z_getQ ex915 lk_X11_111 dX11_reckonAll_266 ?_
        refine z_iload_n 0 dX11_reckonAll_269 rfl ?_
        refine z_iconst (v := 1) dX11_reckonAll_270 (by decide) ?_
        refine z_isub dX11_reckonAll_271 ?_
        replace e := z_bd e; obtain ⟨x916, ex916, e⟩ := e
        refine z_lald ex916 dX11_reckonAll_272 ?_
        refine z_ldc2 dX11_reckonAll_273 kj_X11_408 ?_
        refine z_ldc2 dX11_reckonAll_276 kj_X11_410 ?_
        replace e := z_bd e; obtain ⟨p917, ep917, e⟩ := e
        refine z_cS [.long x916, .long (-1000000000:Int64), .long (1000000000:Int64)] (S_X11_in  ep917) ml_X11_186 ck_X11_in st_X11_in dX11_reckonAll_279 (by decide) rfl (by simp [z_ci, z_cj, z_cr, z_cx]) rfl ?_
        refine z_if_ne (tgt := 289) dX11_reckonAll_282 (by decide) (fun c918 => ?_) (fun c918 => ?_)
        · rw [if_neg c918] at e
          refine z_iconst (v := 0) dX11_reckonAll_289 (by decide) ?_
          exact z_weak [3, 4, 0, 1] rfl (S_X11_reckonAll_290  @hk10 e)
        · rw [if_pos c918] at e
          exact z_weak [3, 4, 0, 1] rfl (S_X11_reckonAll_285  @hk10 e)
  · rw [if_neg c894] at e
    refine z_aload_n 2 dX11_reckonAll_107 rfl ?_
    replace e := z_bd e; obtain ⟨x919, ex919, e⟩ := e
    refine z_getQ ex919 lk_X11_111 dX11_reckonAll_108 ?_
    refine z_iload_n 4 dX11_reckonAll_111 rfl ?_
    refine z_iload 5 dX11_reckonAll_112 rfl ?_
    refine z_if_ne (tgt := 123) dX11_reckonAll_114 (by decide) (fun c920 => ?_) (fun c920 => ?_)
    · rw [if_neg c920] at e
      refine z_aload_n 2 dX11_reckonAll_123 rfl ?_
      replace e := z_bd e; obtain ⟨x921, ex921, e⟩ := e
      refine z_getI ex921 lk_X11_324 dX11_reckonAll_124 ?_
      refine z_if_ne (tgt := 140) dX11_reckonAll_127 (by decide) (fun c922 => ?_) (fun c922 => ?_)
      · rw [if_neg c922] at e
        refine z_iload 5 dX11_reckonAll_140 rfl ?_
        refine z_bipush (v := 6) dX11_reckonAll_142 (by decide) ?_
        refine z_icmp_ge (tgt := 157) dX11_reckonAll_144 (by decide) (fun c923 => ?_) (fun c923 => ?_)
        · rw [if_pos c923] at e
          refine z_aload_n 2 dX11_reckonAll_157 rfl ?_
          refine z_iload 1 dX11_reckonAll_158 rfl ?_
          replace e := z_bd e; obtain ⟨o925, eo925, e⟩ := e
          replace e := z_bd e; obtain ⟨p924, ep924, e⟩ := e
          refine z_cV [.int s0] (S_X11_isPair  ep924) eo925 rfl ml_X11_211 ck_X11_isPair vk_X11_isPair dX11_reckonAll_160 (by decide) rfl (by simp [z_ci, z_cj, z_cr, z_cx]) rfl ?_
          refine z_if_ne (tgt := 172) dX11_reckonAll_163 (by decide) (fun c926 => ?_) (fun c926 => ?_)
          · rw [if_neg c926] at e
            refine z_iload 5 dX11_reckonAll_172 rfl ?_
            refine z_bipush (v := 6) dX11_reckonAll_174 (by decide) ?_
            refine z_icmp_ne (tgt := 193) dX11_reckonAll_176 (by decide) (fun c927 => ?_) (fun c927 => ?_)
            · rw [if_neg c927] at e
              refine z_aload_n 2 dX11_reckonAll_193 rfl ?_
              replace e := z_bd e; obtain ⟨x928, ex928, e⟩ := e
              refine z_getQ ex928 lk_X11_13 dX11_reckonAll_194 ?_
              refine z_bipush (v := 20) dX11_reckonAll_197 (by decide) ?_
              refine z_iconst (v := 4) dX11_reckonAll_199 (by decide) ?_
              refine z_iload 1 dX11_reckonAll_200 rfl ?_
              refine z_imul dX11_reckonAll_202 ?_
              refine z_iadd dX11_reckonAll_203 ?_
              refine z_iload 5 dX11_reckonAll_204 rfl ?_
              refine z_iadd dX11_reckonAll_206 ?_
              refine z_bipush (v := 7) dX11_reckonAll_207 (by decide) ?_
              refine z_isub dX11_reckonAll_209 ?_
              replace e := z_bd e; obtain ⟨x929, ex929, e⟩ := e
              refine z_iald ex929 dX11_reckonAll_210 ?_
              refine z_i2l dX11_reckonAll_211 ?_
              exact z_weak [2, 3, 4, 0] rfl (S_X11_reckonAll_212  @hk10 e)
            · rw [if_pos c927] at e
              refine z_aload_n 2 dX11_reckonAll_179 rfl ?_
              replace e := z_bd e; obtain ⟨x930, ex930, e⟩ := e
              refine z_getQ ex930 lk_X11_13 dX11_reckonAll_180 ?_
              refine z_bipush (v := 8) dX11_reckonAll_183 (by decide) ?_
              refine z_iload 1 dX11_reckonAll_185 rfl ?_
              refine z_iadd dX11_reckonAll_187 ?_
              replace e := z_bd e; obtain ⟨x931, ex931, e⟩ := e
              refine z_iald ex931 dX11_reckonAll_188 ?_
              refine z_i2l dX11_reckonAll_189 ?_
              refine z_goto (tgt := 212) dX11_reckonAll_190 (by decide) ?_
              exact z_weak [2, 3, 4, 0] rfl (S_X11_reckonAll_212  @hk10 e)
          · rw [if_pos c926] at e
            refine z_ldc2 dX11_reckonAll_166 kj_X11_278 ?_
            refine z_goto (tgt := 212) dX11_reckonAll_169 (by decide) ?_
            exact z_weak [2, 3, 4, 0] rfl (S_X11_reckonAll_212  @hk10 e)
        · rw [if_neg c923] at e
          refine z_aload_n 2 dX11_reckonAll_147 rfl ?_
          replace e := z_bd e; obtain ⟨x932, ex932, e⟩ := e
          refine z_getQ ex932 lk_X11_108 dX11_reckonAll_148 ?_
          refine z_iload 5 dX11_reckonAll_151 rfl ?_
          replace e := z_bd e; obtain ⟨x933, ex933, e⟩ := e
          refine z_lald ex933 dX11_reckonAll_153 ?_
          refine z_goto (tgt := 212) dX11_reckonAll_154 (by decide) ?_
          exact z_weak [2, 3, 4, 0] rfl (S_X11_reckonAll_212  @hk10 e)
      · rw [if_pos c922] at e
        refine z_aload_n 2 dX11_reckonAll_130 rfl ?_
        replace e := z_bd e; obtain ⟨x934, ex934, e⟩ := e
        refine z_getQ ex934 lk_X11_105 dX11_reckonAll_131 ?_
        refine z_iload 5 dX11_reckonAll_134 rfl ?_
        replace e := z_bd e; obtain ⟨x935, ex935, e⟩ := e
        refine z_lald ex935 dX11_reckonAll_136 ?_
        refine z_goto (tgt := 212) dX11_reckonAll_137 (by decide) ?_
        exact z_weak [2, 3, 4, 0] rfl (S_X11_reckonAll_212  @hk10 e)
    · rw [if_pos c920] at e
      refine z_iload 1 dX11_reckonAll_117 rfl ?_
      refine z_i2l dX11_reckonAll_119 ?_
      refine z_goto (tgt := 212) dX11_reckonAll_120 (by decide) ?_
      exact z_weak [2, 3, 4, 0] rfl (S_X11_reckonAll_212  @hk10 e)
def D_X11_reckonAll_57 (k10 : z_H → Option Nat → Int32 → Int32 → Int32 → Option z_H) (h : z_H) (l0 : Option Nat) (l2 : Int32) (l3 : Int32) (l4 : Int32) (s0 : Int32) : Option z_H :=
  (z_gI 11 h l0 20).bind fun x936 =>
  if x936 = 0 then
    (z_gQ 11 h l0 3).bind fun x938 =>
    (z_gI 11 h l0 34).bind fun x939 =>
    (z_aI .int h x938 (((x939 + (98:Int32)) + ((2:Int32) * l4)) + (1:Int32))).bind fun x940 =>
    D_X11_reckonAll_95  k10 h l0 l2 l3 l4 s0 x940
  else
    (z_gQ 11 h l0 25).bind fun x941 =>
    (z_aI .int h x941 l4).bind fun x942 =>
    D_X11_reckonAll_95  k10 h l0 l2 l3 l4 s0 x942
set_option maxRecDepth 100000 in
set_option maxHeartbeats 4000000 in
theorem S_X11_reckonAll_57 {G : z_G} {l : Launch} {k10 : z_H → Option Nat → Int32 → Int32 → Int32 → Option z_H} (hk10 : ∀ {h : z_H} {l0 : Option Nat} {l2 : Int32} {l3 : Int32} {l4 : Int32} {res : z_H}, k10 h l0 l2 l3 l4 = some res → z_Run G l 6 M_X11_reckonAll 10 [(0, z_r l0), (2, .int l2), (3, .int l3), (4, .int l4)] [] h res none) {h : z_H} {l0 : Option Nat} {l2 : Int32} {l3 : Int32} {l4 : Int32} {s0 : Int32} {res : z_H} (e : D_X11_reckonAll_57 k10 h l0 l2 l3 l4 s0 = some res) : z_Run G l 6 M_X11_reckonAll 57 [(0, z_r l0), (2, .int l2), (3, .int l3), (4, .int l4)] [.int s0] h res none := by
  unfold D_X11_reckonAll_57 at e
  refine z_istore (L' := [(5, .int s0), (0, z_r l0), (2, .int l2), (3, .int l3), (4, .int l4)]) dX11_reckonAll_57 (by decide) rfl ?_
  refine z_aload_n 1 dX11_reckonAll_59 rfl ?_
  replace e := z_bd e; obtain ⟨x936, ex936, e⟩ := e
  refine z_getI ex936 lk_X11_324 dX11_reckonAll_60 ?_
  refine z_if_eq (tgt := 76) dX11_reckonAll_63 (by decide) (fun c937 => ?_) (fun c937 => ?_)
  · rw [if_pos c937] at e
    refine z_aload_n 1 dX11_reckonAll_76 rfl ?_
    replace e := z_bd e; obtain ⟨x938, ex938, e⟩ := e
    refine z_getQ ex938 lk_X11_13 dX11_reckonAll_77 ?_
    refine z_aload_n 1 dX11_reckonAll_80 rfl ?_
    replace e := z_bd e; obtain ⟨x939, ex939, e⟩ := e
    refine z_getI ex939 lk_X11_401 dX11_reckonAll_81 ?_
    refine z_bipush (v := 98) dX11_reckonAll_84 (by decide) ?_
    refine z_iadd dX11_reckonAll_86 ?_
    refine z_iconst (v := 2) dX11_reckonAll_87 (by decide) ?_
    refine z_iload 4 dX11_reckonAll_88 rfl ?_
    refine z_imul dX11_reckonAll_90 ?_
    refine z_iadd dX11_reckonAll_91 ?_
    refine z_iconst (v := 1) dX11_reckonAll_92 (by decide) ?_
    refine z_iadd dX11_reckonAll_93 ?_
    replace e := z_bd e; obtain ⟨x940, ex940, e⟩ := e
    refine z_iald ex940 dX11_reckonAll_94 ?_
    exact z_weak [1, 2, 3, 4, 0] rfl (S_X11_reckonAll_95  @hk10 e)
  · rw [if_neg c937] at e
    refine z_aload_n 1 dX11_reckonAll_66 rfl ?_
    replace e := z_bd e; obtain ⟨x941, ex941, e⟩ := e
    refine z_getQ ex941 lk_X11_48 dX11_reckonAll_67 ?_
    refine z_iload 4 dX11_reckonAll_70 rfl ?_
    replace e := z_bd e; obtain ⟨x942, ex942, e⟩ := e
    refine z_iald ex942 dX11_reckonAll_72 ?_
    refine z_goto (tgt := 95) dX11_reckonAll_73 (by decide) ?_
    exact z_weak [1, 2, 3, 4, 0] rfl (S_X11_reckonAll_95  @hk10 e)
def D_X11_reckonAll_10b (k10 : z_H → Option Nat → Int32 → Int32 → Int32 → Option z_H) (h : z_H) (l0 : Option Nat) (l2 : Int32) (l3 : Int32) (l4 : Int32) : Option z_H :=
  if l2 ≤ l4 then
    D_X11_reckonAll_361   h l0 l3
  else
    (z_gI 11 h l0 38).bind fun x944 =>
    if x944 = 0 then
      (z_gI 11 h l0 20).bind fun x946 =>
      if x946 = 0 then
        (z_gQ 11 h l0 3).bind fun x948 =>
        (z_gI 11 h l0 34).bind fun x949 =>
        (z_aI .int h x948 ((x949 + (98:Int32)) + ((2:Int32) * l4))).bind fun x950 =>
        D_X11_reckonAll_57  k10 h l0 l2 l3 l4 x950
      else
        (z_gQ 11 h l0 24).bind fun x951 =>
        (z_aI .int h x951 l4).bind fun x952 =>
        D_X11_reckonAll_57  k10 h l0 l2 l3 l4 x952
    else
      D_X11_reckonAll_361   h l0 l3
def D_X11_reckonAll_10 (n : Nat) : z_H → Option Nat → Int32 → Int32 → Int32 → Option z_H := Nat.rec (motive := fun _ => z_H → Option Nat → Int32 → Int32 → Int32 → Option z_H) (fun _ _ _ _ _ => none) (fun _ k => D_X11_reckonAll_10b  k) n
set_option maxRecDepth 100000 in
set_option maxHeartbeats 4000000 in
theorem S_X11_reckonAll_10 {G : z_G} {l : Launch}  (n : Nat) : ∀ {h : z_H} {l0 : Option Nat} {l2 : Int32} {l3 : Int32} {l4 : Int32} {res : z_H}, D_X11_reckonAll_10  n h l0 l2 l3 l4 = some res → z_Run G l 6 M_X11_reckonAll 10 [(0, z_r l0), (2, .int l2), (3, .int l3), (4, .int l4)] [] h res none := by
  induction n with
  | zero => intro h l0 l2 l3 l4 res e; cases e
  | succ n hk10 =>
    intro h l0 l2 l3 l4 res e
    replace e : D_X11_reckonAll_10b  (D_X11_reckonAll_10  n) h l0 l2 l3 l4 = some res := e
    unfold D_X11_reckonAll_10b at e
    refine z_iload 3 dX11_reckonAll_10 rfl ?_
    refine z_iload_n 1 dX11_reckonAll_12 rfl ?_
    refine z_icmp_ge (tgt := 361) dX11_reckonAll_13 (by decide) (fun c943 => ?_) (fun c943 => ?_)
    · rw [if_pos c943] at e
      exact z_weak [0, 2] rfl (S_X11_reckonAll_361   e)
    · rw [if_neg c943] at e
      refine z_aload_n 0 dX11_reckonAll_16 rfl ?_
      replace e := z_bd e; obtain ⟨x944, ex944, e⟩ := e
      refine z_getI ex944 lk_X11_398 dX11_reckonAll_17 ?_
      refine z_if_ne (tgt := 361) dX11_reckonAll_20 (by decide) (fun c945 => ?_) (fun c945 => ?_)
      · rw [if_neg c945] at e
        exact z_weak [0, 2] rfl (S_X11_reckonAll_361   e)
      · rw [if_pos c945] at e
        refine z_aload_n 0 dX11_reckonAll_23 rfl ?_
        replace e := z_bd e; obtain ⟨x946, ex946, e⟩ := e
        refine z_getI ex946 lk_X11_324 dX11_reckonAll_24 ?_
        refine z_if_eq (tgt := 40) dX11_reckonAll_27 (by decide) (fun c947 => ?_) (fun c947 => ?_)
        · rw [if_pos c947] at e
          refine z_aload_n 0 dX11_reckonAll_40 rfl ?_
          replace e := z_bd e; obtain ⟨x948, ex948, e⟩ := e
          refine z_getQ ex948 lk_X11_13 dX11_reckonAll_41 ?_
          refine z_aload_n 0 dX11_reckonAll_44 rfl ?_
          replace e := z_bd e; obtain ⟨x949, ex949, e⟩ := e
          refine z_getI ex949 lk_X11_401 dX11_reckonAll_45 ?_
          refine z_bipush (v := 98) dX11_reckonAll_48 (by decide) ?_
          refine z_iadd dX11_reckonAll_50 ?_
          refine z_iconst (v := 2) dX11_reckonAll_51 (by decide) ?_
          refine z_iload 3 dX11_reckonAll_52 rfl ?_
          refine z_imul dX11_reckonAll_54 ?_
          refine z_iadd dX11_reckonAll_55 ?_
          replace e := z_bd e; obtain ⟨x950, ex950, e⟩ := e
          refine z_iald ex950 dX11_reckonAll_56 ?_
          exact z_weak [0, 1, 2, 3] rfl (S_X11_reckonAll_57  @hk10 e)
        · rw [if_neg c947] at e
          refine z_aload_n 0 dX11_reckonAll_30 rfl ?_
          replace e := z_bd e; obtain ⟨x951, ex951, e⟩ := e
          refine z_getQ ex951 lk_X11_45 dX11_reckonAll_31 ?_
          refine z_iload 3 dX11_reckonAll_34 rfl ?_
          replace e := z_bd e; obtain ⟨x952, ex952, e⟩ := e
          refine z_iald ex952 dX11_reckonAll_36 ?_
          refine z_goto (tgt := 57) dX11_reckonAll_37 (by decide) ?_
          exact z_weak [0, 1, 2, 3] rfl (S_X11_reckonAll_57  @hk10 e)
def D_X11_reckonAll (h : z_H) (l0 : Option Nat) (l1 : Int32) (l2 : Int32) : Option z_H :=
  (z_pV 11 h l0 38 (.int (0:Int32))).bind fun h953 =>
  D_X11_reckonAll_10   z_F h953 l0 l2 (0:Int32) l1
set_option maxRecDepth 100000 in
set_option maxHeartbeats 4000000 in
theorem S_X11_reckonAll {G : z_G} {l : Launch} {h : z_H} {l0 : Option Nat} {l1 : Int32} {l2 : Int32} {res : z_H} (e : D_X11_reckonAll h l0 l1 l2 = some res) : z_Meth G l 6 M_X11_reckonAll [z_r l0, .int l1, .int l2] h res none := by
  refine z_Meth.of ck_X11_reckonAll.2.2.2.2 (by simp [lg_sl, z_ci, z_cj, z_cr, z_cx]) ck_X11_reckonAll.1 ?_
  rw [show lv_args 0 [z_r l0, .int l1, .int l2] = [(0, z_r l0), (1, .int l1), (2, .int l2)] from by simp [lv_args, z_ci, z_cj, z_cr, z_cx]]
  unfold D_X11_reckonAll at e
  refine z_aload_n 0 dX11_reckonAll_0 rfl ?_
  refine z_iconst (v := 0) dX11_reckonAll_1 (by decide) ?_
  replace e := z_bd e; obtain ⟨h953, eh953, e⟩ := e
  refine z_putV eh953 lk_X11_398 wk_11_38 (fun _ => (z_nz (Or.inl rfl)).1) (fun _ => (z_nz (Or.inl rfl)).2) dX11_reckonAll_2 ?_
  refine z_iconst (v := 0) dX11_reckonAll_5 (by decide) ?_
  refine z_istore_n (L' := [(3, .int (0:Int32)), (0, z_r l0), (1, .int l1), (2, .int l2)]) dX11_reckonAll_6 rfl (by decide) rfl ?_
  refine z_iload_n 2 dX11_reckonAll_7 rfl ?_
  refine z_istore (L' := [(4, .int l1), (3, .int (0:Int32)), (0, z_r l0), (1, .int l1), (2, .int l2)]) dX11_reckonAll_8 (by decide) rfl ?_
  exact z_weak [2, 4, 1, 0] rfl (S_X11_reckonAll_10   z_F e)
theorem dX11_isSo_0 : decode cX11_isSo 0 = .ok (.aload_n 0, 1) := by decide +kernel
theorem dX11_isSo_1 : decode cX11_isSo 1 = .ok (.getfield 13, 3) := by decide +kernel
theorem dX11_isSo_4 : decode cX11_isSo 4 = .ok (.iload_n 1, 1) := by decide +kernel
theorem dX11_isSo_5 : decode cX11_isSo 5 = .ok (.iconst 5, 1) := by decide +kernel
theorem dX11_isSo_6 : decode cX11_isSo 6 = .ok (.iadd, 1) := by decide +kernel
theorem dX11_isSo_7 : decode cX11_isSo 7 = .ok (.iaload, 1) := by decide +kernel
theorem dX11_isSo_8 : decode cX11_isSo 8 = .ok (.aload_n 0, 1) := by decide +kernel
theorem dX11_isSo_9 : decode cX11_isSo 9 = .ok (.getfield 13, 3) := by decide +kernel
theorem dX11_isSo_12 : decode cX11_isSo 12 = .ok (.iload_n 1, 1) := by decide +kernel
theorem dX11_isSo_13 : decode cX11_isSo 13 = .ok (.bipush 6, 2) := by decide +kernel
theorem dX11_isSo_15 : decode cX11_isSo 15 = .ok (.iadd, 1) := by decide +kernel
theorem dX11_isSo_16 : decode cX11_isSo 16 = .ok (.iaload, 1) := by decide +kernel
theorem dX11_isSo_17 : decode cX11_isSo 17 = .ok (.if_icmp .ge 42, 3) := by decide +kernel
theorem dX11_isSo_20 : decode cX11_isSo 20 = .ok (.aload_n 0, 1) := by decide +kernel
theorem dX11_isSo_21 : decode cX11_isSo 21 = .ok (.aload_n 0, 1) := by decide +kernel
theorem dX11_isSo_22 : decode cX11_isSo 22 = .ok (.getfield 13, 3) := by decide +kernel
theorem dX11_isSo_25 : decode cX11_isSo 25 = .ok (.iload_n 1, 1) := by decide +kernel
theorem dX11_isSo_26 : decode cX11_isSo 26 = .ok (.iconst 5, 1) := by decide +kernel
theorem dX11_isSo_27 : decode cX11_isSo 27 = .ok (.iadd, 1) := by decide +kernel
theorem dX11_isSo_28 : decode cX11_isSo 28 = .ok (.iaload, 1) := by decide +kernel
theorem dX11_isSo_29 : decode cX11_isSo 29 = .ok (.aload_n 0, 1) := by decide +kernel
theorem dX11_isSo_30 : decode cX11_isSo 30 = .ok (.getfield 13, 3) := by decide +kernel
theorem dX11_isSo_33 : decode cX11_isSo 33 = .ok (.iload_n 1, 1) := by decide +kernel
theorem dX11_isSo_34 : decode cX11_isSo 34 = .ok (.bipush 6, 2) := by decide +kernel
theorem dX11_isSo_36 : decode cX11_isSo 36 = .ok (.iadd, 1) := by decide +kernel
theorem dX11_isSo_37 : decode cX11_isSo 37 = .ok (.iaload, 1) := by decide +kernel
theorem dX11_isSo_38 : decode cX11_isSo 38 = .ok (.invokevirtual 415, 3) := by decide +kernel
theorem dX11_isSo_41 : decode cX11_isSo 41 = .ok (.aload_n 0, 1) := by decide +kernel
theorem dX11_isSo_42 : decode cX11_isSo 42 = .ok (.getfield 398, 3) := by decide +kernel
theorem dX11_isSo_45 : decode cX11_isSo 45 = .ok (.ifCond .ne 12, 3) := by decide +kernel
theorem dX11_isSo_48 : decode cX11_isSo 48 = .ok (.aload_n 0, 1) := by decide +kernel
theorem dX11_isSo_49 : decode cX11_isSo 49 = .ok (.getfield 412, 3) := by decide +kernel
theorem dX11_isSo_52 : decode cX11_isSo 52 = .ok (.lconst 0, 1) := by decide +kernel
theorem dX11_isSo_53 : decode cX11_isSo 53 = .ok (.lcmp, 1) := by decide +kernel
theorem dX11_isSo_54 : decode cX11_isSo 54 = .ok (.ifCond .ne 5, 3) := by decide +kernel
theorem dX11_isSo_57 : decode cX11_isSo 57 = .ok (.iconst 0, 1) := by decide +kernel
theorem dX11_isSo_58 : decode cX11_isSo 58 = .ok (.ireturn, 1) := by decide +kernel
theorem dX11_isSo_59 : decode cX11_isSo 59 = .ok (.aload_n 0, 1) := by decide +kernel
theorem dX11_isSo_60 : decode cX11_isSo 60 = .ok (.getfield 13, 3) := by decide +kernel
theorem dX11_isSo_63 : decode cX11_isSo 63 = .ok (.iload_n 1, 1) := by decide +kernel
theorem dX11_isSo_64 : decode cX11_isSo 64 = .ok (.iaload, 1) := by decide +kernel
theorem dX11_isSo_65 : decode cX11_isSo 65 = .ok (.iconst 2, 1) := by decide +kernel
theorem dX11_isSo_66 : decode cX11_isSo 66 = .ok (.if_icmp .eq 44, 3) := by decide +kernel
theorem dX11_isSo_69 : decode cX11_isSo 69 = .ok (.aload_n 0, 1) := by decide +kernel
theorem dX11_isSo_70 : decode cX11_isSo 70 = .ok (.aload_n 0, 1) := by decide +kernel
theorem dX11_isSo_71 : decode cX11_isSo 71 = .ok (.getfield 13, 3) := by decide +kernel
theorem dX11_isSo_74 : decode cX11_isSo 74 = .ok (.iload_n 1, 1) := by decide +kernel
theorem dX11_isSo_75 : decode cX11_isSo 75 = .ok (.iconst 3, 1) := by decide +kernel
theorem dX11_isSo_76 : decode cX11_isSo 76 = .ok (.iadd, 1) := by decide +kernel
theorem dX11_isSo_77 : decode cX11_isSo 77 = .ok (.iaload, 1) := by decide +kernel
theorem dX11_isSo_78 : decode cX11_isSo 78 = .ok (.aload_n 0, 1) := by decide +kernel
theorem dX11_isSo_79 : decode cX11_isSo 79 = .ok (.getfield 13, 3) := by decide +kernel
theorem dX11_isSo_82 : decode cX11_isSo 82 = .ok (.iload_n 1, 1) := by decide +kernel
theorem dX11_isSo_83 : decode cX11_isSo 83 = .ok (.iconst 4, 1) := by decide +kernel
theorem dX11_isSo_84 : decode cX11_isSo 84 = .ok (.iadd, 1) := by decide +kernel
theorem dX11_isSo_85 : decode cX11_isSo 85 = .ok (.iaload, 1) := by decide +kernel
theorem dX11_isSo_86 : decode cX11_isSo 86 = .ok (.invokevirtual 415, 3) := by decide +kernel
theorem dX11_isSo_89 : decode cX11_isSo 89 = .ok (.aload_n 0, 1) := by decide +kernel
theorem dX11_isSo_90 : decode cX11_isSo 90 = .ok (.aload_n 0, 1) := by decide +kernel
theorem dX11_isSo_91 : decode cX11_isSo 91 = .ok (.getfield 412, 3) := by decide +kernel
theorem dX11_isSo_94 : decode cX11_isSo 94 = .ok (.putfield 418, 3) := by decide +kernel
theorem dX11_isSo_97 : decode cX11_isSo 97 = .ok (.aload_n 0, 1) := by decide +kernel
theorem dX11_isSo_98 : decode cX11_isSo 98 = .ok (.getfield 398, 3) := by decide +kernel
theorem dX11_isSo_101 : decode cX11_isSo 101 = .ok (.ifCond .ne 7, 3) := by decide +kernel
theorem dX11_isSo_104 : decode cX11_isSo 104 = .ok (.iconst 1, 1) := by decide +kernel
theorem dX11_isSo_105 : decode cX11_isSo 105 = .ok (.goto 4, 3) := by decide +kernel
theorem dX11_isSo_108 : decode cX11_isSo 108 = .ok (.iconst 0, 1) := by decide +kernel
theorem dX11_isSo_109 : decode cX11_isSo 109 = .ok (.ireturn, 1) := by decide +kernel
theorem dX11_isSo_110 : decode cX11_isSo 110 = .ok (.iconst 1, 1) := by decide +kernel
theorem dX11_isSo_111 : decode cX11_isSo 111 = .ok (.ireturn, 1) := by decide +kernel
def D_X11_isSo_59 (h : z_H) (l0 : Option Nat) (l1 : Int32) : Option (Int32 × z_H) :=
  (z_gQ 11 h l0 3).bind fun x954 =>
  (z_aI .int h x954 l1).bind fun x955 =>
  if x955 = (2:Int32) then
    some ((1:Int32), h)
  else
    (z_gQ 11 h l0 3).bind fun x957 =>
    (z_aI .int h x957 (l1 + (3:Int32))).bind fun x958 =>
    (z_gQ 11 h l0 3).bind fun x959 =>
    (z_aI .int h x959 (l1 + (4:Int32))).bind fun x960 =>
    (z_ob 11 h l0).bind fun _ =>
    (D_X11_reckonAll  h l0 x958 x960).bind fun p961 =>
    (z_gJ 11 p961 l0 39).bind fun x963 =>
    (z_pV 11 p961 l0 40 (.long x963)).bind fun h964 =>
    (z_gI 11 h964 l0 38).bind fun x965 =>
    if x965 = 0 then
      some ((1:Int32), h964)
    else
      some ((0:Int32), h964)
set_option maxRecDepth 100000 in
set_option maxHeartbeats 4000000 in
theorem S_X11_isSo_59 {G : z_G} {l : Launch}  {h : z_H} {l0 : Option Nat} {l1 : Int32} {res : (Int32 × z_H)} (e : D_X11_isSo_59  h l0 l1 = some res) : z_Run G l 7 M_X11_isSo 59 [(0, z_r l0), (1, .int l1)] [] h res.2 (some (.int res.1)) := by
  unfold D_X11_isSo_59 at e
  refine z_aload_n 0 dX11_isSo_59 rfl ?_
  replace e := z_bd e; obtain ⟨x954, ex954, e⟩ := e
  refine z_getQ ex954 lk_X11_13 dX11_isSo_60 ?_
  refine z_iload_n 1 dX11_isSo_63 rfl ?_
  replace e := z_bd e; obtain ⟨x955, ex955, e⟩ := e
  refine z_iald ex955 dX11_isSo_64 ?_
  refine z_iconst (v := 2) dX11_isSo_65 (by decide) ?_
  refine z_icmp_eq (tgt := 110) dX11_isSo_66 (by decide) (fun c956 => ?_) (fun c956 => ?_)
  · rw [if_pos c956] at e
    refine z_iconst (v := 1) dX11_isSo_110 (by decide) ?_
    cases e
    exact z_zret dX11_isSo_111 rfl (by decide)
  · rw [if_neg c956] at e
    refine z_aload_n 0 dX11_isSo_69 rfl ?_
    refine z_aload_n 0 dX11_isSo_70 rfl ?_
    replace e := z_bd e; obtain ⟨x957, ex957, e⟩ := e
    refine z_getQ ex957 lk_X11_13 dX11_isSo_71 ?_
    refine z_iload_n 1 dX11_isSo_74 rfl ?_
    refine z_iconst (v := 3) dX11_isSo_75 (by decide) ?_
    refine z_iadd dX11_isSo_76 ?_
    replace e := z_bd e; obtain ⟨x958, ex958, e⟩ := e
    refine z_iald ex958 dX11_isSo_77 ?_
    refine z_aload_n 0 dX11_isSo_78 rfl ?_
    replace e := z_bd e; obtain ⟨x959, ex959, e⟩ := e
    refine z_getQ ex959 lk_X11_13 dX11_isSo_79 ?_
    refine z_iload_n 1 dX11_isSo_82 rfl ?_
    refine z_iconst (v := 4) dX11_isSo_83 (by decide) ?_
    refine z_iadd dX11_isSo_84 ?_
    replace e := z_bd e; obtain ⟨x960, ex960, e⟩ := e
    refine z_iald ex960 dX11_isSo_85 ?_
    replace e := z_bd e; obtain ⟨o962, eo962, e⟩ := e
    replace e := z_bd e; obtain ⟨p961, ep961, e⟩ := e
    refine z_cV [.int x958, .int x960] (S_X11_reckonAll  ep961) eo962 rfl ml_X11_415 ck_X11_reckonAll vk_X11_reckonAll dX11_isSo_86 (by decide) rfl (Nat.zero_le _) rfl ?_
    refine z_aload_n 0 dX11_isSo_89 rfl ?_
    refine z_aload_n 0 dX11_isSo_90 rfl ?_
    replace e := z_bd e; obtain ⟨x963, ex963, e⟩ := e
    refine z_getJ ex963 lk_X11_412 dX11_isSo_91 ?_
    replace e := z_bd e; obtain ⟨h964, eh964, e⟩ := e
    refine z_putV eh964 lk_X11_418 wk_11_40 (fun _ => rfl) (fun _ => rfl) dX11_isSo_94 ?_
    refine z_aload_n 0 dX11_isSo_97 rfl ?_
    replace e := z_bd e; obtain ⟨x965, ex965, e⟩ := e
    refine z_getI ex965 lk_X11_398 dX11_isSo_98 ?_
    refine z_if_ne (tgt := 108) dX11_isSo_101 (by decide) (fun c966 => ?_) (fun c966 => ?_)
    · rw [if_neg c966] at e
      refine z_iconst (v := 0) dX11_isSo_108 (by decide) ?_
      cases e
      exact z_zret dX11_isSo_109 rfl (by decide)
    · rw [if_pos c966] at e
      refine z_iconst (v := 1) dX11_isSo_104 (by decide) ?_
      refine z_goto (tgt := 109) dX11_isSo_105 (by decide) ?_
      cases e
      exact z_zret dX11_isSo_109 rfl (by decide)
def D_X11_isSo (h : z_H) (l0 : Option Nat) (l1 : Int32) : Option (Int32 × z_H) :=
  (z_gQ 11 h l0 3).bind fun x967 =>
  (z_aI .int h x967 (l1 + (5:Int32))).bind fun x968 =>
  (z_gQ 11 h l0 3).bind fun x969 =>
  (z_aI .int h x969 (l1 + (6:Int32))).bind fun x970 =>
  if x970 ≤ x968 then
    D_X11_isSo_59   h l0 l1
  else
    (z_gQ 11 h l0 3).bind fun x972 =>
    (z_aI .int h x972 (l1 + (5:Int32))).bind fun x973 =>
    (z_gQ 11 h l0 3).bind fun x974 =>
    (z_aI .int h x974 (l1 + (6:Int32))).bind fun x975 =>
    (z_ob 11 h l0).bind fun _ =>
    (D_X11_reckonAll  h l0 x973 x975).bind fun p976 =>
    (z_gI 11 p976 l0 38).bind fun x978 =>
    if x978 = 0 then
      (z_gJ 11 p976 l0 39).bind fun x980 =>
      if (lg_cmp x980 (0:Int64)) = 0 then
        some ((0:Int32), p976)
      else
        D_X11_isSo_59   p976 l0 l1
    else
      some ((0:Int32), p976)
set_option maxRecDepth 100000 in
set_option maxHeartbeats 4000000 in
theorem S_X11_isSo {G : z_G} {l : Launch} {h : z_H} {l0 : Option Nat} {l1 : Int32} {res : (Int32 × z_H)} (e : D_X11_isSo h l0 l1 = some res) : z_Meth G l 7 M_X11_isSo [z_r l0, .int l1] h res.2 (some (.int res.1)) := by
  refine z_Meth.of ck_X11_isSo.2.2.2.2 (by simp [lg_sl, z_ci, z_cj, z_cr, z_cx]) ck_X11_isSo.1 ?_
  rw [show lv_args 0 [z_r l0, .int l1] = [(0, z_r l0), (1, .int l1)] from by simp [lv_args, z_ci, z_cj, z_cr, z_cx]]
  unfold D_X11_isSo at e
  refine z_aload_n 0 dX11_isSo_0 rfl ?_
  replace e := z_bd e; obtain ⟨x967, ex967, e⟩ := e
  refine z_getQ ex967 lk_X11_13 dX11_isSo_1 ?_
  refine z_iload_n 1 dX11_isSo_4 rfl ?_
  refine z_iconst (v := 5) dX11_isSo_5 (by decide) ?_
  refine z_iadd dX11_isSo_6 ?_
  replace e := z_bd e; obtain ⟨x968, ex968, e⟩ := e
  refine z_iald ex968 dX11_isSo_7 ?_
  refine z_aload_n 0 dX11_isSo_8 rfl ?_
  replace e := z_bd e; obtain ⟨x969, ex969, e⟩ := e
  refine z_getQ ex969 lk_X11_13 dX11_isSo_9 ?_
  refine z_iload_n 1 dX11_isSo_12 rfl ?_
  refine z_bipush (v := 6) dX11_isSo_13 (by decide) ?_
  refine z_iadd dX11_isSo_15 ?_
  replace e := z_bd e; obtain ⟨x970, ex970, e⟩ := e
  refine z_iald ex970 dX11_isSo_16 ?_
  refine z_icmp_ge (tgt := 59) dX11_isSo_17 (by decide) (fun c971 => ?_) (fun c971 => ?_)
  · rw [if_pos c971] at e
    exact z_weak [0, 1] rfl (S_X11_isSo_59   e)
  · rw [if_neg c971] at e
    refine z_aload_n 0 dX11_isSo_20 rfl ?_
    refine z_aload_n 0 dX11_isSo_21 rfl ?_
    replace e := z_bd e; obtain ⟨x972, ex972, e⟩ := e
    refine z_getQ ex972 lk_X11_13 dX11_isSo_22 ?_
    refine z_iload_n 1 dX11_isSo_25 rfl ?_
    refine z_iconst (v := 5) dX11_isSo_26 (by decide) ?_
    refine z_iadd dX11_isSo_27 ?_
    replace e := z_bd e; obtain ⟨x973, ex973, e⟩ := e
    refine z_iald ex973 dX11_isSo_28 ?_
    refine z_aload_n 0 dX11_isSo_29 rfl ?_
    replace e := z_bd e; obtain ⟨x974, ex974, e⟩ := e
    refine z_getQ ex974 lk_X11_13 dX11_isSo_30 ?_
    refine z_iload_n 1 dX11_isSo_33 rfl ?_
    refine z_bipush (v := 6) dX11_isSo_34 (by decide) ?_
    refine z_iadd dX11_isSo_36 ?_
    replace e := z_bd e; obtain ⟨x975, ex975, e⟩ := e
    refine z_iald ex975 dX11_isSo_37 ?_
    replace e := z_bd e; obtain ⟨o977, eo977, e⟩ := e
    replace e := z_bd e; obtain ⟨p976, ep976, e⟩ := e
    refine z_cV [.int x973, .int x975] (S_X11_reckonAll  ep976) eo977 rfl ml_X11_415 ck_X11_reckonAll vk_X11_reckonAll dX11_isSo_38 (by decide) rfl (Nat.zero_le _) rfl ?_
    refine z_aload_n 0 dX11_isSo_41 rfl ?_
    replace e := z_bd e; obtain ⟨x978, ex978, e⟩ := e
    refine z_getI ex978 lk_X11_398 dX11_isSo_42 ?_
    refine z_if_ne (tgt := 57) dX11_isSo_45 (by decide) (fun c979 => ?_) (fun c979 => ?_)
    · rw [if_neg c979] at e
      refine z_iconst (v := 0) dX11_isSo_57 (by decide) ?_
      cases e
      exact z_zret dX11_isSo_58 rfl (by decide)
    · rw [if_pos c979] at e
      refine z_aload_n 0 dX11_isSo_48 rfl ?_
      replace e := z_bd e; obtain ⟨x980, ex980, e⟩ := e
      refine z_getJ ex980 lk_X11_412 dX11_isSo_49 ?_
      refine z_lconst (v := 0) dX11_isSo_52 (by decide) ?_
      refine z_lcmp dX11_isSo_53 ?_
      refine z_if_ne (tgt := 59) dX11_isSo_54 (by decide) (fun c981 => ?_) (fun c981 => ?_)
      · rw [if_neg c981] at e
        exact z_weak [0, 1] rfl (S_X11_isSo_59   e)
      · rw [if_pos c981] at e
        refine z_iconst (v := 0) dX11_isSo_57 (by decide) ?_
        cases e
        exact z_zret dX11_isSo_58 rfl (by decide)
