theorem dX6_gather_0 : decode cX6_gather 0 = .ok (.iload_n 3, 1) := by decide +kernel
theorem dX6_gather_1 : decode cX6_gather 1 = .ok (.bipush 7, 2) := by decide +kernel
theorem dX6_gather_3 : decode cX6_gather 3 = .ok (.imul, 1) := by decide +kernel
theorem dX6_gather_4 : decode cX6_gather 4 = .ok (.iload 4, 2) := by decide +kernel
theorem dX6_gather_6 : decode cX6_gather 6 = .ok (.iadd, 1) := by decide +kernel
theorem dX6_gather_7 : decode cX6_gather 7 = .ok (.bipush 25, 2) := by decide +kernel
theorem dX6_gather_9 : decode cX6_gather 9 = .ok (.imul, 1) := by decide +kernel
theorem dX6_gather_10 : decode cX6_gather 10 = .ok (.istore 5, 2) := by decide +kernel
theorem dX6_gather_12 : decode cX6_gather 12 = .ok (.iload_n 1, 1) := by decide +kernel
theorem dX6_gather_13 : decode cX6_gather 13 = .ok (.iload 4, 2) := by decide +kernel
theorem dX6_gather_15 : decode cX6_gather 15 = .ok (.iadd, 1) := by decide +kernel
theorem dX6_gather_16 : decode cX6_gather 16 = .ok (.iconst 3, 1) := by decide +kernel
theorem dX6_gather_17 : decode cX6_gather 17 = .ok (.iload_n 3, 1) := by decide +kernel
theorem dX6_gather_18 : decode cX6_gather 18 = .ok (.imul, 1) := by decide +kernel
theorem dX6_gather_19 : decode cX6_gather 19 = .ok (.iadd, 1) := by decide +kernel
theorem dX6_gather_20 : decode cX6_gather 20 = .ok (.iconst 4, 1) := by decide +kernel
theorem dX6_gather_21 : decode cX6_gather 21 = .ok (.irem, 1) := by decide +kernel
theorem dX6_gather_22 : decode cX6_gather 22 = .ok (.istore 6, 2) := by decide +kernel
theorem dX6_gather_24 : decode cX6_gather 24 = .ok (.iconst 0, 1) := by decide +kernel
theorem dX6_gather_25 : decode cX6_gather 25 = .ok (.istore 7, 2) := by decide +kernel
theorem dX6_gather_27 : decode cX6_gather 27 = .ok (.iload 7, 2) := by decide +kernel
theorem dX6_gather_29 : decode cX6_gather 29 = .ok (.bipush 25, 2) := by decide +kernel
theorem dX6_gather_31 : decode cX6_gather 31 = .ok (.if_icmp .ge 61, 3) := by decide +kernel
theorem dX6_gather_34 : decode cX6_gather 34 = .ok (.aload_n 0, 1) := by decide +kernel
theorem dX6_gather_35 : decode cX6_gather 35 = .ok (.getfield 15, 3) := by decide +kernel
theorem dX6_gather_38 : decode cX6_gather 38 = .ok (.iload 7, 2) := by decide +kernel
theorem dX6_gather_40 : decode cX6_gather 40 = .ok (.iload_n 3, 1) := by decide +kernel
theorem dX6_gather_41 : decode cX6_gather 41 = .ok (.ifCond .le 20, 3) := by decide +kernel
theorem dX6_gather_44 : decode cX6_gather 44 = .ok (.aload_n 0, 1) := by decide +kernel
theorem dX6_gather_45 : decode cX6_gather 45 = .ok (.getfield 11, 3) := by decide +kernel
theorem dX6_gather_48 : decode cX6_gather 48 = .ok (.iload 5, 2) := by decide +kernel
theorem dX6_gather_50 : decode cX6_gather 50 = .ok (.sipush 175, 3) := by decide +kernel
theorem dX6_gather_53 : decode cX6_gather 53 = .ok (.isub, 1) := by decide +kernel
theorem dX6_gather_54 : decode cX6_gather 54 = .ok (.iload 7, 2) := by decide +kernel
theorem dX6_gather_56 : decode cX6_gather 56 = .ok (.iadd, 1) := by decide +kernel
theorem dX6_gather_57 : decode cX6_gather 57 = .ok (.laload, 1) := by decide +kernel
theorem dX6_gather_58 : decode cX6_gather 58 = .ok (.goto 4, 3) := by decide +kernel
theorem dX6_gather_61 : decode cX6_gather 61 = .ok (.lconst 0, 1) := by decide +kernel
theorem dX6_gather_62 : decode cX6_gather 62 = .ok (.iload 4, 2) := by decide +kernel
theorem dX6_gather_64 : decode cX6_gather 64 = .ok (.ifCond .le 19, 3) := by decide +kernel
theorem dX6_gather_67 : decode cX6_gather 67 = .ok (.aload_n 0, 1) := by decide +kernel
theorem dX6_gather_68 : decode cX6_gather 68 = .ok (.getfield 11, 3) := by decide +kernel
theorem dX6_gather_71 : decode cX6_gather 71 = .ok (.iload 5, 2) := by decide +kernel
theorem dX6_gather_73 : decode cX6_gather 73 = .ok (.bipush 25, 2) := by decide +kernel
theorem dX6_gather_75 : decode cX6_gather 75 = .ok (.isub, 1) := by decide +kernel
theorem dX6_gather_76 : decode cX6_gather 76 = .ok (.iload 7, 2) := by decide +kernel
theorem dX6_gather_78 : decode cX6_gather 78 = .ok (.iadd, 1) := by decide +kernel
theorem dX6_gather_79 : decode cX6_gather 79 = .ok (.laload, 1) := by decide +kernel
theorem dX6_gather_80 : decode cX6_gather 80 = .ok (.goto 4, 3) := by decide +kernel
theorem dX6_gather_83 : decode cX6_gather 83 = .ok (.lconst 0, 1) := by decide +kernel
theorem dX6_gather_84 : decode cX6_gather 84 = .ok (.ladd, 1) := by decide +kernel
theorem dX6_gather_85 : decode cX6_gather 85 = .ok (.lastore, 1) := by decide +kernel
theorem dX6_gather_86 : decode cX6_gather 86 = .ok (.iinc 7 1, 3) := by decide +kernel
theorem dX6_gather_89 : decode cX6_gather 89 = .ok (.goto (-62), 3) := by decide +kernel
theorem dX6_gather_92 : decode cX6_gather 92 = .ok (.iload_n 2, 1) := by decide +kernel
theorem dX6_gather_93 : decode cX6_gather 93 = .ok (.ifCond .ne 21, 3) := by decide +kernel
theorem dX6_gather_96 : decode cX6_gather 96 = .ok (.iload_n 3, 1) := by decide +kernel
theorem dX6_gather_97 : decode cX6_gather 97 = .ok (.ifCond .ne 17, 3) := by decide +kernel
theorem dX6_gather_100 : decode cX6_gather 100 = .ok (.iload 4, 2) := by decide +kernel
theorem dX6_gather_102 : decode cX6_gather 102 = .ok (.ifCond .ne 12, 3) := by decide +kernel
theorem dX6_gather_105 : decode cX6_gather 105 = .ok (.aload_n 0, 1) := by decide +kernel
theorem dX6_gather_106 : decode cX6_gather 106 = .ok (.getfield 15, 3) := by decide +kernel
theorem dX6_gather_109 : decode cX6_gather 109 = .ok (.iload_n 1, 1) := by decide +kernel
theorem dX6_gather_110 : decode cX6_gather 110 = .ok (.iconst 4, 1) := by decide +kernel
theorem dX6_gather_111 : decode cX6_gather 111 = .ok (.idiv, 1) := by decide +kernel
theorem dX6_gather_112 : decode cX6_gather 112 = .ok (.lconst 1, 1) := by decide +kernel
theorem dX6_gather_113 : decode cX6_gather 113 = .ok (.lastore, 1) := by decide +kernel
theorem dX6_gather_114 : decode cX6_gather 114 = .ok (.iconst 0, 1) := by decide +kernel
theorem dX6_gather_115 : decode cX6_gather 115 = .ok (.istore 7, 2) := by decide +kernel
theorem dX6_gather_117 : decode cX6_gather 117 = .ok (.iload_n 2, 1) := by decide +kernel
theorem dX6_gather_118 : decode cX6_gather 118 = .ok (.ifCond .le 61, 3) := by decide +kernel
theorem dX6_gather_121 : decode cX6_gather 121 = .ok (.iload 7, 2) := by decide +kernel
theorem dX6_gather_123 : decode cX6_gather 123 = .ok (.bipush 25, 2) := by decide +kernel
theorem dX6_gather_125 : decode cX6_gather 125 = .ok (.if_icmp .ge 54, 3) := by decide +kernel
theorem dX6_gather_128 : decode cX6_gather 128 = .ok (.aload_n 0, 1) := by decide +kernel
theorem dX6_gather_129 : decode cX6_gather 129 = .ok (.getfield 27, 3) := by decide +kernel
theorem dX6_gather_132 : decode cX6_gather 132 = .ok (.getfield 47, 3) := by decide +kernel
theorem dX6_gather_135 : decode cX6_gather 135 = .ok (.iload 7, 2) := by decide +kernel
theorem dX6_gather_137 : decode cX6_gather 137 = .ok (.iconst 4, 1) := by decide +kernel
theorem dX6_gather_138 : decode cX6_gather 138 = .ok (.imul, 1) := by decide +kernel
theorem dX6_gather_139 : decode cX6_gather 139 = .ok (.iload 6, 2) := by decide +kernel
theorem dX6_gather_141 : decode cX6_gather 141 = .ok (.iadd, 1) := by decide +kernel
theorem dX6_gather_142 : decode cX6_gather 142 = .ok (.iaload, 1) := by decide +kernel
theorem dX6_gather_143 : decode cX6_gather 143 = .ok (.istore 8, 2) := by decide +kernel
theorem dX6_gather_145 : decode cX6_gather 145 = .ok (.iload 8, 2) := by decide +kernel
theorem dX6_gather_147 : decode cX6_gather 147 = .ok (.iconst (-1), 1) := by decide +kernel
theorem dX6_gather_148 : decode cX6_gather 148 = .ok (.if_icmp .eq 25, 3) := by decide +kernel
theorem dX6_gather_151 : decode cX6_gather 151 = .ok (.aload_n 0, 1) := by decide +kernel
theorem dX6_gather_152 : decode cX6_gather 152 = .ok (.getfield 15, 3) := by decide +kernel
theorem dX6_gather_155 : decode cX6_gather 155 = .ok (.iload 8, 2) := by decide +kernel
theorem dX6_gather_157 : decode cX6_gather 157 = .ok (.iconst 4, 1) := by decide +kernel
theorem dX6_gather_158 : decode cX6_gather 158 = .ok (.idiv, 1) := by decide +kernel
theorem dX6_gather_159 : decode cX6_gather 159 = .ok (.dup2, 1) := by decide +kernel
theorem dX6_gather_160 : decode cX6_gather 160 = .ok (.laload, 1) := by decide +kernel
theorem dX6_gather_161 : decode cX6_gather 161 = .ok (.aload_n 0, 1) := by decide +kernel
theorem dX6_gather_162 : decode cX6_gather 162 = .ok (.getfield 11, 3) := by decide +kernel
theorem dX6_gather_165 : decode cX6_gather 165 = .ok (.iload 5, 2) := by decide +kernel
theorem dX6_gather_167 : decode cX6_gather 167 = .ok (.iload 7, 2) := by decide +kernel
theorem dX6_gather_169 : decode cX6_gather 169 = .ok (.iadd, 1) := by decide +kernel
theorem dX6_gather_170 : decode cX6_gather 170 = .ok (.laload, 1) := by decide +kernel
theorem dX6_gather_171 : decode cX6_gather 171 = .ok (.ladd, 1) := by decide +kernel
theorem dX6_gather_172 : decode cX6_gather 172 = .ok (.lastore, 1) := by decide +kernel
theorem dX6_gather_173 : decode cX6_gather 173 = .ok (.iinc 7 1, 3) := by decide +kernel
theorem dX6_gather_176 : decode cX6_gather 176 = .ok (.goto (-59), 3) := by decide +kernel
theorem dX6_gather_179 : decode cX6_gather 179 = .ok (.aload_n 0, 1) := by decide +kernel
theorem dX6_gather_180 : decode cX6_gather 180 = .ok (.getfield 15, 3) := by decide +kernel
theorem dX6_gather_183 : decode cX6_gather 183 = .ok (.iconst 0, 1) := by decide +kernel
theorem dX6_gather_184 : decode cX6_gather 184 = .ok (.aload_n 0, 1) := by decide +kernel
theorem dX6_gather_185 : decode cX6_gather 185 = .ok (.getfield 11, 3) := by decide +kernel
theorem dX6_gather_188 : decode cX6_gather 188 = .ok (.iload 5, 2) := by decide +kernel
theorem dX6_gather_190 : decode cX6_gather 190 = .ok (.bipush 25, 2) := by decide +kernel
theorem dX6_gather_192 : decode cX6_gather 192 = .ok (.invokestatic 51, 3) := by decide +kernel
theorem dX6_gather_195 : decode cX6_gather 195 = .ok (.return_, 1) := by decide +kernel
def D_X6_gather_179 (h : z_H) (l0 : Option Nat) (l5 : Int32) : Option z_H :=
  (z_gQ 6 h l0 2).bind fun x2101 =>
  (z_gQ 6 h l0 1).bind fun x2102 =>
  (z_cJ h x2101 (0:Int32) x2102 l5 (25:Int32)).bind fun h2103 =>
  some h2103
set_option maxRecDepth 100000 in
set_option maxHeartbeats 4000000 in
theorem S_X6_gather_179 {G : z_G} {l : Launch}  {h : z_H} {l0 : Option Nat} {l5 : Int32} {res : z_H} (e : D_X6_gather_179  h l0 l5 = some res) : z_Run G l 4 M_X6_gather 179 [(0, z_r l0), (5, .int l5)] [] h res none := by
  unfold D_X6_gather_179 at e
  refine z_aload_n 0 dX6_gather_179 rfl ?_
  replace e := z_bd e; obtain ⟨x2101, ex2101, e⟩ := e
  refine z_getQ ex2101 lk_X6_15 dX6_gather_180 ?_
  refine z_iconst (v := 0) dX6_gather_183 (by decide) ?_
  refine z_aload_n 0 dX6_gather_184 rfl ?_
  replace e := z_bd e; obtain ⟨x2102, ex2102, e⟩ := e
  refine z_getQ ex2102 lk_X6_11 dX6_gather_185 ?_
  refine z_iload 1 dX6_gather_188 rfl ?_
  refine z_bipush (v := 25) dX6_gather_190 (by decide) ?_
  replace e := z_bd e; obtain ⟨h2103, eh2103, e⟩ := e
  refine z_cpyJ eh2103 ml_X6_51 z_acok (by decide) (Nat.zero_le _) dX6_gather_192 ?_
  cases e
  exact z_vret dX6_gather_195 rfl
def D_X6_gather_173 (k117 : z_H → Option Nat → Int32 → Int32 → Int32 → Int32 → Option z_H) (h : z_H) (l0 : Option Nat) (l2 : Int32) (l5 : Int32) (l6 : Int32) (l7 : Int32) : Option z_H :=
  (some (l7 + (1:Int32))).bind fun x2104 =>
  k117 h l0 l2 l5 l6 x2104
set_option maxRecDepth 100000 in
set_option maxHeartbeats 4000000 in
theorem S_X6_gather_173 {G : z_G} {l : Launch} {k117 : z_H → Option Nat → Int32 → Int32 → Int32 → Int32 → Option z_H} (hk117 : ∀ {h : z_H} {l0 : Option Nat} {l2 : Int32} {l5 : Int32} {l6 : Int32} {l7 : Int32} {res : z_H}, k117 h l0 l2 l5 l6 l7 = some res → z_Run G l 4 M_X6_gather 117 [(0, z_r l0), (2, .int l2), (5, .int l5), (6, .int l6), (7, .int l7)] [] h res none) {h : z_H} {l0 : Option Nat} {l2 : Int32} {l5 : Int32} {l6 : Int32} {l7 : Int32} {res : z_H} (e : D_X6_gather_173 k117 h l0 l2 l5 l6 l7 = some res) : z_Run G l 4 M_X6_gather 173 [(0, z_r l0), (2, .int l2), (5, .int l5), (6, .int l6), (7, .int l7)] [] h res none := by
  unfold D_X6_gather_173 at e
  replace e := z_bd e; obtain ⟨x2104, ex2104, e⟩ := e
  refine z_iinc (q := 4) (v := x2104) (L' := [(7, .int x2104), (0, z_r l0), (2, .int l2), (5, .int l5), (6, .int l6)]) dX6_gather_173 rfl (Option.some.inj ex2104) (by decide) rfl ?_
  refine z_goto (tgt := 117) dX6_gather_176 (by decide) ?_
  exact z_weak [1, 2, 3, 4, 0] rfl (hk117 e)
def D_X6_gather_117b (k117 : z_H → Option Nat → Int32 → Int32 → Int32 → Int32 → Option z_H) (h : z_H) (l0 : Option Nat) (l2 : Int32) (l5 : Int32) (l6 : Int32) (l7 : Int32) : Option z_H :=
  if l2 ≤ 0 then
    D_X6_gather_179   h l0 l5
  else
    if (25:Int32) ≤ l7 then
      D_X6_gather_179   h l0 l5
    else
      (z_gQ 6 h l0 0).bind fun x2107 =>
      (z_gQ 4 h x2107 1).bind fun x2108 =>
      (z_aI .int h x2108 ((l7 * (4:Int32)) + l6)).bind fun x2109 =>
      if x2109 = (-1:Int32) then
        D_X6_gather_173  k117 h l0 l2 l5 l6 l7
      else
        (z_gQ 6 h l0 2).bind fun x2111 =>
        (z_aJ h x2111 (x2109 / (4:Int32))).bind fun x2112 =>
        (z_gQ 6 h l0 1).bind fun x2113 =>
        (z_aJ h x2113 (l5 + l7)).bind fun x2114 =>
        (z_sJ h x2111 (x2109 / (4:Int32)) (x2112 + x2114)).bind fun h2115 =>
        D_X6_gather_173  k117 h2115 l0 l2 l5 l6 l7
def D_X6_gather_117 (n : Nat) : z_H → Option Nat → Int32 → Int32 → Int32 → Int32 → Option z_H := Nat.rec (motive := fun _ => z_H → Option Nat → Int32 → Int32 → Int32 → Int32 → Option z_H) (fun _ _ _ _ _ _ => none) (fun _ k => D_X6_gather_117b  k) n
set_option maxRecDepth 100000 in
set_option maxHeartbeats 4000000 in
theorem S_X6_gather_117 {G : z_G} {l : Launch}  (n : Nat) : ∀ {h : z_H} {l0 : Option Nat} {l2 : Int32} {l5 : Int32} {l6 : Int32} {l7 : Int32} {res : z_H}, D_X6_gather_117  n h l0 l2 l5 l6 l7 = some res → z_Run G l 4 M_X6_gather 117 [(0, z_r l0), (2, .int l2), (5, .int l5), (6, .int l6), (7, .int l7)] [] h res none := by
  induction n with
  | zero => intro h l0 l2 l5 l6 l7 res e; cases e
  | succ n hk117 =>
    intro h l0 l2 l5 l6 l7 res e
    replace e : D_X6_gather_117b  (D_X6_gather_117  n) h l0 l2 l5 l6 l7 = some res := e
    unfold D_X6_gather_117b at e
    refine z_iload_n 1 dX6_gather_117 rfl ?_
    refine z_if_le (tgt := 179) dX6_gather_118 (by decide) (fun c2105 => ?_) (fun c2105 => ?_)
    · rw [if_pos c2105] at e
      exact z_weak [0, 2] rfl (S_X6_gather_179   e)
    · rw [if_neg c2105] at e
      refine z_iload 4 dX6_gather_121 rfl ?_
      refine z_bipush (v := 25) dX6_gather_123 (by decide) ?_
      refine z_icmp_ge (tgt := 179) dX6_gather_125 (by decide) (fun c2106 => ?_) (fun c2106 => ?_)
      · rw [if_pos c2106] at e
        exact z_weak [0, 2] rfl (S_X6_gather_179   e)
      · rw [if_neg c2106] at e
        refine z_aload_n 0 dX6_gather_128 rfl ?_
        replace e := z_bd e; obtain ⟨x2107, ex2107, e⟩ := e
        refine z_getQ ex2107 lk_X6_27 dX6_gather_129 ?_
        replace e := z_bd e; obtain ⟨x2108, ex2108, e⟩ := e
        refine z_getQ ex2108 lk_X6_47 dX6_gather_132 ?_
        refine z_iload 4 dX6_gather_135 rfl ?_
        refine z_iconst (v := 4) dX6_gather_137 (by decide) ?_
        refine z_imul dX6_gather_138 ?_
        refine z_iload 3 dX6_gather_139 rfl ?_
        refine z_iadd dX6_gather_141 ?_
        replace e := z_bd e; obtain ⟨x2109, ex2109, e⟩ := e
        refine z_iald ex2109 dX6_gather_142 ?_
        refine z_istore (L' := [(8, .int x2109), (0, z_r l0), (2, .int l2), (5, .int l5), (6, .int l6), (7, .int l7)]) dX6_gather_143 (by decide) rfl ?_
        refine z_iload 0 dX6_gather_145 rfl ?_
        refine z_iconst (v := -1) dX6_gather_147 (by decide) ?_
        refine z_icmp_eq (tgt := 173) dX6_gather_148 (by decide) (fun c2110 => ?_) (fun c2110 => ?_)
        · rw [if_pos c2110] at e
          exact z_weak [1, 2, 3, 4, 5] rfl (S_X6_gather_173  @hk117 e)
        · rw [if_neg c2110] at e
          refine z_aload_n 1 dX6_gather_151 rfl ?_
          replace e := z_bd e; obtain ⟨x2111, ex2111, e⟩ := e
          refine z_getQ ex2111 lk_X6_15 dX6_gather_152 ?_
          refine z_iload 0 dX6_gather_155 rfl ?_
          refine z_iconst (v := 4) dX6_gather_157 (by decide) ?_
          refine z_idiv dX6_gather_158 (by decide) ?_
          refine z_dup2 dX6_gather_159 rfl (z_cr _) ?_
          replace e := z_bd e; obtain ⟨x2112, ex2112, e⟩ := e
          refine z_lald ex2112 dX6_gather_160 ?_
          refine z_aload_n 1 dX6_gather_161 rfl ?_
          replace e := z_bd e; obtain ⟨x2113, ex2113, e⟩ := e
          refine z_getQ ex2113 lk_X6_11 dX6_gather_162 ?_
          refine z_iload 3 dX6_gather_165 rfl ?_
          refine z_iload 5 dX6_gather_167 rfl ?_
          refine z_iadd dX6_gather_169 ?_
          replace e := z_bd e; obtain ⟨x2114, ex2114, e⟩ := e
          refine z_lald ex2114 dX6_gather_170 ?_
          refine z_ladd dX6_gather_171 ?_
          replace e := z_bd e; obtain ⟨h2115, eh2115, e⟩ := e
          refine z_last eh2115 dX6_gather_172 ?_
          exact z_weak [1, 2, 3, 4, 5] rfl (S_X6_gather_173  @hk117 e)
def D_X6_gather_114 (h : z_H) (l0 : Option Nat) (l2 : Int32) (l5 : Int32) (l6 : Int32) : Option z_H :=
  D_X6_gather_117   z_F h l0 l2 l5 l6 (0:Int32)
set_option maxRecDepth 100000 in
set_option maxHeartbeats 4000000 in
theorem S_X6_gather_114 {G : z_G} {l : Launch}  {h : z_H} {l0 : Option Nat} {l2 : Int32} {l5 : Int32} {l6 : Int32} {res : z_H} (e : D_X6_gather_114  h l0 l2 l5 l6 = some res) : z_Run G l 4 M_X6_gather 114 [(0, z_r l0), (2, .int l2), (5, .int l5), (6, .int l6)] [] h res none := by
  unfold D_X6_gather_114 at e
  refine z_iconst (v := 0) dX6_gather_114 (by decide) ?_
  refine z_istore (L' := [(7, .int (0:Int32)), (0, z_r l0), (2, .int l2), (5, .int l5), (6, .int l6)]) dX6_gather_115 (by decide) rfl ?_
  exact z_weak [1, 2, 3, 4, 0] rfl (S_X6_gather_117   z_F e)
def D_X6_gather_84 (k27 : z_H → Option Nat → Int32 → Int32 → Int32 → Int32 → Int32 → Int32 → Int32 → Option z_H) (h : z_H) (l0 : Option Nat) (l1 : Int32) (l2 : Int32) (l3 : Int32) (l4 : Int32) (l5 : Int32) (l6 : Int32) (l7 : Int32) (s0 : Option Nat) (s1 : Int32) (s2 : Int64) (s3 : Int64) : Option z_H :=
  (z_sJ h s0 s1 (s2 + s3)).bind fun h2116 =>
  (some (l7 + (1:Int32))).bind fun x2117 =>
  k27 h2116 l0 l1 l2 l3 l4 l5 l6 x2117
set_option maxRecDepth 100000 in
set_option maxHeartbeats 4000000 in
theorem S_X6_gather_84 {G : z_G} {l : Launch} {k27 : z_H → Option Nat → Int32 → Int32 → Int32 → Int32 → Int32 → Int32 → Int32 → Option z_H} (hk27 : ∀ {h : z_H} {l0 : Option Nat} {l1 : Int32} {l2 : Int32} {l3 : Int32} {l4 : Int32} {l5 : Int32} {l6 : Int32} {l7 : Int32} {res : z_H}, k27 h l0 l1 l2 l3 l4 l5 l6 l7 = some res → z_Run G l 4 M_X6_gather 27 [(0, z_r l0), (1, .int l1), (2, .int l2), (3, .int l3), (4, .int l4), (5, .int l5), (6, .int l6), (7, .int l7)] [] h res none) {h : z_H} {l0 : Option Nat} {l1 : Int32} {l2 : Int32} {l3 : Int32} {l4 : Int32} {l5 : Int32} {l6 : Int32} {l7 : Int32} {s0 : Option Nat} {s1 : Int32} {s2 : Int64} {s3 : Int64} {res : z_H} (e : D_X6_gather_84 k27 h l0 l1 l2 l3 l4 l5 l6 l7 s0 s1 s2 s3 = some res) : z_Run G l 4 M_X6_gather 84 [(0, z_r l0), (1, .int l1), (2, .int l2), (3, .int l3), (4, .int l4), (5, .int l5), (6, .int l6), (7, .int l7)] [.long s3, .long s2, .int s1, z_r s0] h res none := by
  unfold D_X6_gather_84 at e
  refine z_ladd dX6_gather_84 ?_
  replace e := z_bd e; obtain ⟨h2116, eh2116, e⟩ := e
  refine z_last eh2116 dX6_gather_85 ?_
  replace e := z_bd e; obtain ⟨x2117, ex2117, e⟩ := e
  refine z_iinc (q := 7) (v := x2117) (L' := [(7, .int x2117), (0, z_r l0), (1, .int l1), (2, .int l2), (3, .int l3), (4, .int l4), (5, .int l5), (6, .int l6)]) dX6_gather_86 rfl (Option.some.inj ex2117) (by decide) rfl ?_
  refine z_goto (tgt := 27) dX6_gather_89 (by decide) ?_
  exact z_weak [1, 2, 3, 4, 5, 6, 7, 0] rfl (hk27 e)
def D_X6_gather_62 (k27 : z_H → Option Nat → Int32 → Int32 → Int32 → Int32 → Int32 → Int32 → Int32 → Option z_H) (h : z_H) (l0 : Option Nat) (l1 : Int32) (l2 : Int32) (l3 : Int32) (l4 : Int32) (l5 : Int32) (l6 : Int32) (l7 : Int32) (s0 : Option Nat) (s1 : Int32) (s2 : Int64) : Option z_H :=
  if l4 ≤ 0 then
    D_X6_gather_84  k27 h l0 l1 l2 l3 l4 l5 l6 l7 s0 s1 s2 (0:Int64)
  else
    (z_gQ 6 h l0 1).bind fun x2119 =>
    (z_aJ h x2119 ((l5 - (25:Int32)) + l7)).bind fun x2120 =>
    D_X6_gather_84  k27 h l0 l1 l2 l3 l4 l5 l6 l7 s0 s1 s2 x2120
set_option maxRecDepth 100000 in
set_option maxHeartbeats 4000000 in
theorem S_X6_gather_62 {G : z_G} {l : Launch} {k27 : z_H → Option Nat → Int32 → Int32 → Int32 → Int32 → Int32 → Int32 → Int32 → Option z_H} (hk27 : ∀ {h : z_H} {l0 : Option Nat} {l1 : Int32} {l2 : Int32} {l3 : Int32} {l4 : Int32} {l5 : Int32} {l6 : Int32} {l7 : Int32} {res : z_H}, k27 h l0 l1 l2 l3 l4 l5 l6 l7 = some res → z_Run G l 4 M_X6_gather 27 [(0, z_r l0), (1, .int l1), (2, .int l2), (3, .int l3), (4, .int l4), (5, .int l5), (6, .int l6), (7, .int l7)] [] h res none) {h : z_H} {l0 : Option Nat} {l1 : Int32} {l2 : Int32} {l3 : Int32} {l4 : Int32} {l5 : Int32} {l6 : Int32} {l7 : Int32} {s0 : Option Nat} {s1 : Int32} {s2 : Int64} {res : z_H} (e : D_X6_gather_62 k27 h l0 l1 l2 l3 l4 l5 l6 l7 s0 s1 s2 = some res) : z_Run G l 4 M_X6_gather 62 [(0, z_r l0), (1, .int l1), (2, .int l2), (3, .int l3), (4, .int l4), (5, .int l5), (6, .int l6), (7, .int l7)] [.long s2, .int s1, z_r s0] h res none := by
  unfold D_X6_gather_62 at e
  refine z_iload 4 dX6_gather_62 rfl ?_
  refine z_if_le (tgt := 83) dX6_gather_64 (by decide) (fun c2118 => ?_) (fun c2118 => ?_)
  · rw [if_pos c2118] at e
    refine z_lconst (v := 0) dX6_gather_83 (by decide) ?_
    exact z_weak [0, 1, 2, 3, 4, 5, 6, 7] rfl (S_X6_gather_84  @hk27 e)
  · rw [if_neg c2118] at e
    refine z_aload_n 0 dX6_gather_67 rfl ?_
    replace e := z_bd e; obtain ⟨x2119, ex2119, e⟩ := e
    refine z_getQ ex2119 lk_X6_11 dX6_gather_68 ?_
    refine z_iload 5 dX6_gather_71 rfl ?_
    refine z_bipush (v := 25) dX6_gather_73 (by decide) ?_
    refine z_isub dX6_gather_75 ?_
    refine z_iload 7 dX6_gather_76 rfl ?_
    refine z_iadd dX6_gather_78 ?_
    replace e := z_bd e; obtain ⟨x2120, ex2120, e⟩ := e
    refine z_lald ex2120 dX6_gather_79 ?_
    refine z_goto (tgt := 84) dX6_gather_80 (by decide) ?_
    exact z_weak [0, 1, 2, 3, 4, 5, 6, 7] rfl (S_X6_gather_84  @hk27 e)
def D_X6_gather_27b (k27 : z_H → Option Nat → Int32 → Int32 → Int32 → Int32 → Int32 → Int32 → Int32 → Option z_H) (h : z_H) (l0 : Option Nat) (l1 : Int32) (l2 : Int32) (l3 : Int32) (l4 : Int32) (l5 : Int32) (l6 : Int32) (l7 : Int32) : Option z_H :=
  if (25:Int32) ≤ l7 then
    if l2 = 0 then
      if l3 = 0 then
        if l4 = 0 then
          (z_gQ 6 h l0 2).bind fun x2125 =>
          (z_sJ h x2125 (l1 / (4:Int32)) (1:Int64)).bind fun h2126 =>
          D_X6_gather_114   h2126 l0 l2 l5 l6
        else
          D_X6_gather_114   h l0 l2 l5 l6
      else
        D_X6_gather_114   h l0 l2 l5 l6
    else
      D_X6_gather_114   h l0 l2 l5 l6
  else
    (z_gQ 6 h l0 2).bind fun x2127 =>
    if l3 ≤ 0 then
      D_X6_gather_62  k27 h l0 l1 l2 l3 l4 l5 l6 l7 x2127 l7 (0:Int64)
    else
      (z_gQ 6 h l0 1).bind fun x2129 =>
      (z_aJ h x2129 ((l5 - (175:Int32)) + l7)).bind fun x2130 =>
      D_X6_gather_62  k27 h l0 l1 l2 l3 l4 l5 l6 l7 x2127 l7 x2130
def D_X6_gather_27 (n : Nat) : z_H → Option Nat → Int32 → Int32 → Int32 → Int32 → Int32 → Int32 → Int32 → Option z_H := Nat.rec (motive := fun _ => z_H → Option Nat → Int32 → Int32 → Int32 → Int32 → Int32 → Int32 → Int32 → Option z_H) (fun _ _ _ _ _ _ _ _ _ => none) (fun _ k => D_X6_gather_27b  k) n
set_option maxRecDepth 100000 in
set_option maxHeartbeats 4000000 in
theorem S_X6_gather_27 {G : z_G} {l : Launch}  (n : Nat) : ∀ {h : z_H} {l0 : Option Nat} {l1 : Int32} {l2 : Int32} {l3 : Int32} {l4 : Int32} {l5 : Int32} {l6 : Int32} {l7 : Int32} {res : z_H}, D_X6_gather_27  n h l0 l1 l2 l3 l4 l5 l6 l7 = some res → z_Run G l 4 M_X6_gather 27 [(0, z_r l0), (1, .int l1), (2, .int l2), (3, .int l3), (4, .int l4), (5, .int l5), (6, .int l6), (7, .int l7)] [] h res none := by
  induction n with
  | zero => intro h l0 l1 l2 l3 l4 l5 l6 l7 res e; cases e
  | succ n hk27 =>
    intro h l0 l1 l2 l3 l4 l5 l6 l7 res e
    replace e : D_X6_gather_27b  (D_X6_gather_27  n) h l0 l1 l2 l3 l4 l5 l6 l7 = some res := e
    unfold D_X6_gather_27b at e
    refine z_iload 7 dX6_gather_27 rfl ?_
    refine z_bipush (v := 25) dX6_gather_29 (by decide) ?_
    refine z_icmp_ge (tgt := 92) dX6_gather_31 (by decide) (fun c2121 => ?_) (fun c2121 => ?_)
    · rw [if_pos c2121] at e
      refine z_iload_n 2 dX6_gather_92 rfl ?_
      refine z_if_ne (tgt := 114) dX6_gather_93 (by decide) (fun c2122 => ?_) (fun c2122 => ?_)
      · rw [if_neg c2122] at e
        exact z_weak [0, 2, 5, 6] rfl (S_X6_gather_114   e)
      · rw [if_pos c2122] at e
        refine z_iload_n 3 dX6_gather_96 rfl ?_
        refine z_if_ne (tgt := 114) dX6_gather_97 (by decide) (fun c2123 => ?_) (fun c2123 => ?_)
        · rw [if_neg c2123] at e
          exact z_weak [0, 2, 5, 6] rfl (S_X6_gather_114   e)
        · rw [if_pos c2123] at e
          refine z_iload 4 dX6_gather_100 rfl ?_
          refine z_if_ne (tgt := 114) dX6_gather_102 (by decide) (fun c2124 => ?_) (fun c2124 => ?_)
          · rw [if_neg c2124] at e
            exact z_weak [0, 2, 5, 6] rfl (S_X6_gather_114   e)
          · rw [if_pos c2124] at e
            refine z_aload_n 0 dX6_gather_105 rfl ?_
            replace e := z_bd e; obtain ⟨x2125, ex2125, e⟩ := e
            refine z_getQ ex2125 lk_X6_15 dX6_gather_106 ?_
            refine z_iload_n 1 dX6_gather_109 rfl ?_
            refine z_iconst (v := 4) dX6_gather_110 (by decide) ?_
            refine z_idiv dX6_gather_111 (by decide) ?_
            refine z_lconst (v := 1) dX6_gather_112 (by decide) ?_
            replace e := z_bd e; obtain ⟨h2126, eh2126, e⟩ := e
            refine z_last eh2126 dX6_gather_113 ?_
            exact z_weak [0, 2, 5, 6] rfl (S_X6_gather_114   e)
    · rw [if_neg c2121] at e
      refine z_aload_n 0 dX6_gather_34 rfl ?_
      replace e := z_bd e; obtain ⟨x2127, ex2127, e⟩ := e
      refine z_getQ ex2127 lk_X6_15 dX6_gather_35 ?_
      refine z_iload 7 dX6_gather_38 rfl ?_
      refine z_iload_n 3 dX6_gather_40 rfl ?_
      refine z_if_le (tgt := 61) dX6_gather_41 (by decide) (fun c2128 => ?_) (fun c2128 => ?_)
      · rw [if_pos c2128] at e
        refine z_lconst (v := 0) dX6_gather_61 (by decide) ?_
        exact z_weak [0, 1, 2, 3, 4, 5, 6, 7] rfl (S_X6_gather_62  @hk27 e)
      · rw [if_neg c2128] at e
        refine z_aload_n 0 dX6_gather_44 rfl ?_
        replace e := z_bd e; obtain ⟨x2129, ex2129, e⟩ := e
        refine z_getQ ex2129 lk_X6_11 dX6_gather_45 ?_
        refine z_iload 5 dX6_gather_48 rfl ?_
        refine z_sipush (v := 175) dX6_gather_50 (by decide) ?_
        refine z_isub dX6_gather_53 ?_
        refine z_iload 7 dX6_gather_54 rfl ?_
        refine z_iadd dX6_gather_56 ?_
        replace e := z_bd e; obtain ⟨x2130, ex2130, e⟩ := e
        refine z_lald ex2130 dX6_gather_57 ?_
        refine z_goto (tgt := 62) dX6_gather_58 (by decide) ?_
        exact z_weak [0, 1, 2, 3, 4, 5, 6, 7] rfl (S_X6_gather_62  @hk27 e)
def D_X6_gather (h : z_H) (l0 : Option Nat) (l1 : Int32) (l2 : Int32) (l3 : Int32) (l4 : Int32) : Option z_H :=
  (some (((l3 * (7:Int32)) + l4) * (25:Int32))).bind fun x2131 =>
  (some (((l1 + l4) + ((3:Int32) * l3)) - ((l1 + l4) + ((3:Int32) * l3)) / (4:Int32) * (4:Int32))).bind fun x2132 =>
  D_X6_gather_27   z_F h l0 l1 l2 l3 l4 x2131 x2132 (0:Int32)
set_option maxRecDepth 100000 in
set_option maxHeartbeats 4000000 in
theorem S_X6_gather {G : z_G} {l : Launch} {h : z_H} {l0 : Option Nat} {l1 : Int32} {l2 : Int32} {l3 : Int32} {l4 : Int32} {res : z_H} (e : D_X6_gather h l0 l1 l2 l3 l4 = some res) : z_Meth G l 4 M_X6_gather [z_r l0, .int l1, .int l2, .int l3, .int l4] h res none := by
  refine z_Meth.of ck_X6_gather.2.2.2.2 (by simp [lg_sl, z_ci, z_cj, z_cr, z_cx]) ck_X6_gather.1 ?_
  rw [show lv_args 0 [z_r l0, .int l1, .int l2, .int l3, .int l4] = [(0, z_r l0), (1, .int l1), (2, .int l2), (3, .int l3), (4, .int l4)] from by simp [lv_args, z_ci, z_cj, z_cr, z_cx]]
  unfold D_X6_gather at e
  refine z_iload_n 3 dX6_gather_0 rfl ?_
  refine z_bipush (v := 7) dX6_gather_1 (by decide) ?_
  refine z_imul dX6_gather_3 ?_
  refine z_iload 4 dX6_gather_4 rfl ?_
  refine z_iadd dX6_gather_6 ?_
  refine z_bipush (v := 25) dX6_gather_7 (by decide) ?_
  refine z_imul dX6_gather_9 ?_
  replace e := z_bd e; obtain ⟨x2131, ex2131, e⟩ := e
  refine z_topI ex2131 ?_
  refine z_istore (L' := [(5, .int x2131), (0, z_r l0), (1, .int l1), (2, .int l2), (3, .int l3), (4, .int l4)]) dX6_gather_10 (by decide) rfl ?_
  refine z_iload_n 2 dX6_gather_12 rfl ?_
  refine z_iload 5 dX6_gather_13 rfl ?_
  refine z_iadd dX6_gather_15 ?_
  refine z_iconst (v := 3) dX6_gather_16 (by decide) ?_
  refine z_iload_n 4 dX6_gather_17 rfl ?_
  refine z_imul dX6_gather_18 ?_
  refine z_iadd dX6_gather_19 ?_
  refine z_iconst (v := 4) dX6_gather_20 (by decide) ?_
  refine z_irem dX6_gather_21 (by decide) ?_
  replace e := z_bd e; obtain ⟨x2132, ex2132, e⟩ := e
  refine z_topI ex2132 ?_
  refine z_istore (L' := [(6, .int x2132), (5, .int x2131), (0, z_r l0), (1, .int l1), (2, .int l2), (3, .int l3), (4, .int l4)]) dX6_gather_22 (by decide) rfl ?_
  refine z_iconst (v := 0) dX6_gather_24 (by decide) ?_
  refine z_istore (L' := [(7, .int (0:Int32)), (6, .int x2132), (5, .int x2131), (0, z_r l0), (1, .int l1), (2, .int l2), (3, .int l3), (4, .int l4)]) dX6_gather_25 (by decide) rfl ?_
  exact z_weak [3, 4, 5, 6, 7, 2, 1, 0] rfl (S_X6_gather_27   z_F e)
theorem dX6_countWays_0 : decode cX6_countWays 0 = .ok (.aload_n 0, 1) := by decide +kernel
theorem dX6_countWays_1 : decode cX6_countWays 1 = .ok (.getfield 27, 3) := by decide +kernel
theorem dX6_countWays_4 : decode cX6_countWays 4 = .ok (.aload_n 1, 1) := by decide +kernel
theorem dX6_countWays_5 : decode cX6_countWays 5 = .ok (.iload_n 2, 1) := by decide +kernel
theorem dX6_countWays_6 : decode cX6_countWays 6 = .ok (.invokevirtual 31, 3) := by decide +kernel
theorem dX6_countWays_9 : decode cX6_countWays 9 = .ok (.iconst 0, 1) := by decide +kernel
theorem dX6_countWays_10 : decode cX6_countWays 10 = .ok (.istore 6, 2) := by decide +kernel
theorem dX6_countWays_12 : decode cX6_countWays 12 = .ok (.iload 6, 2) := by decide +kernel
theorem dX6_countWays_14 : decode cX6_countWays 14 = .ok (.iload_n 3, 1) := by decide +kernel
theorem dX6_countWays_15 : decode cX6_countWays 15 = .ok (.if_icmp .gt 56, 3) := by decide +kernel
theorem dX6_countWays_18 : decode cX6_countWays 18 = .ok (.iconst 0, 1) := by decide +kernel
theorem dX6_countWays_19 : decode cX6_countWays 19 = .ok (.istore 7, 2) := by decide +kernel
theorem dX6_countWays_21 : decode cX6_countWays 21 = .ok (.iload 7, 2) := by decide +kernel
theorem dX6_countWays_23 : decode cX6_countWays 23 = .ok (.iload 4, 2) := by decide +kernel
theorem dX6_countWays_25 : decode cX6_countWays 25 = .ok (.if_icmp .gt 40, 3) := by decide +kernel
theorem dX6_countWays_28 : decode cX6_countWays 28 = .ok (.iconst 0, 1) := by decide +kernel
theorem dX6_countWays_29 : decode cX6_countWays 29 = .ok (.istore 8, 2) := by decide +kernel
theorem dX6_countWays_31 : decode cX6_countWays 31 = .ok (.iload 8, 2) := by decide +kernel
theorem dX6_countWays_33 : decode cX6_countWays 33 = .ok (.iload 5, 2) := by decide +kernel
theorem dX6_countWays_35 : decode cX6_countWays 35 = .ok (.if_icmp .gt 24, 3) := by decide +kernel
theorem dX6_countWays_38 : decode cX6_countWays 38 = .ok (.aload_n 0, 1) := by decide +kernel
theorem dX6_countWays_39 : decode cX6_countWays 39 = .ok (.aload_n 1, 1) := by decide +kernel
theorem dX6_countWays_40 : decode cX6_countWays 40 = .ok (.iload_n 2, 1) := by decide +kernel
theorem dX6_countWays_41 : decode cX6_countWays 41 = .ok (.invokevirtual 37, 3) := by decide +kernel
theorem dX6_countWays_44 : decode cX6_countWays 44 = .ok (.iload 6, 2) := by decide +kernel
theorem dX6_countWays_46 : decode cX6_countWays 46 = .ok (.iload 7, 2) := by decide +kernel
theorem dX6_countWays_48 : decode cX6_countWays 48 = .ok (.iload 8, 2) := by decide +kernel
theorem dX6_countWays_50 : decode cX6_countWays 50 = .ok (.invokevirtual 43, 3) := by decide +kernel
theorem dX6_countWays_53 : decode cX6_countWays 53 = .ok (.iinc 8 1, 3) := by decide +kernel
theorem dX6_countWays_56 : decode cX6_countWays 56 = .ok (.goto (-25), 3) := by decide +kernel
theorem dX6_countWays_59 : decode cX6_countWays 59 = .ok (.iinc 7 1, 3) := by decide +kernel
theorem dX6_countWays_62 : decode cX6_countWays 62 = .ok (.goto (-41), 3) := by decide +kernel
theorem dX6_countWays_65 : decode cX6_countWays 65 = .ok (.iinc 6 1, 3) := by decide +kernel
theorem dX6_countWays_68 : decode cX6_countWays 68 = .ok (.goto (-56), 3) := by decide +kernel
theorem dX6_countWays_71 : decode cX6_countWays 71 = .ok (.return_, 1) := by decide +kernel
def D_X6_countWays_31b (k12 : z_H → Option Nat → Option Nat → Int32 → Int32 → Int32 → Int32 → Int32 → Option z_H) (k21 : z_H → Option Nat → Option Nat → Int32 → Int32 → Int32 → Int32 → Int32 → Int32 → Option z_H) (k31 : z_H → Option Nat → Option Nat → Int32 → Int32 → Int32 → Int32 → Int32 → Int32 → Int32 → Option z_H) (h : z_H) (l0 : Option Nat) (l1 : Option Nat) (l2 : Int32) (l3 : Int32) (l4 : Int32) (l5 : Int32) (l6 : Int32) (l7 : Int32) (l8 : Int32) : Option z_H :=
  if l5 < l8 then
    (some (l7 + (1:Int32))).bind fun x2134 =>
    k21 h l0 l1 l2 l3 l4 l5 l6 x2134
  else
    (z_ob 9 h l1).bind fun _ =>
    (D_X9_placeOf  h l1 l2).bind fun p2135 =>
    (z_ob 6 p2135.2 l0).bind fun _ =>
    (D_X6_gather  p2135.2 l0 p2135.1 l6 l7 l8).bind fun p2137 =>
    (some (l8 + (1:Int32))).bind fun x2139 =>
    k31 p2137 l0 l1 l2 l3 l4 l5 l6 l7 x2139
def D_X6_countWays_31 (k12 : z_H → Option Nat → Option Nat → Int32 → Int32 → Int32 → Int32 → Int32 → Option z_H) (k21 : z_H → Option Nat → Option Nat → Int32 → Int32 → Int32 → Int32 → Int32 → Int32 → Option z_H) (n : Nat) : z_H → Option Nat → Option Nat → Int32 → Int32 → Int32 → Int32 → Int32 → Int32 → Int32 → Option z_H := Nat.rec (motive := fun _ => z_H → Option Nat → Option Nat → Int32 → Int32 → Int32 → Int32 → Int32 → Int32 → Int32 → Option z_H) (fun _ _ _ _ _ _ _ _ _ _ => none) (fun _ k => D_X6_countWays_31b k12 k21 k) n
set_option maxRecDepth 100000 in
set_option maxHeartbeats 4000000 in
theorem S_X6_countWays_31 {G : z_G} {l : Launch} {k12 : z_H → Option Nat → Option Nat → Int32 → Int32 → Int32 → Int32 → Int32 → Option z_H} {k21 : z_H → Option Nat → Option Nat → Int32 → Int32 → Int32 → Int32 → Int32 → Int32 → Option z_H} (hk12 : ∀ {h : z_H} {l0 : Option Nat} {l1 : Option Nat} {l2 : Int32} {l3 : Int32} {l4 : Int32} {l5 : Int32} {l6 : Int32} {res : z_H}, k12 h l0 l1 l2 l3 l4 l5 l6 = some res → z_Run G l 9 M_X6_countWays 12 [(0, z_r l0), (1, z_r l1), (2, .int l2), (3, .int l3), (4, .int l4), (5, .int l5), (6, .int l6)] [] h res none) (hk21 : ∀ {h : z_H} {l0 : Option Nat} {l1 : Option Nat} {l2 : Int32} {l3 : Int32} {l4 : Int32} {l5 : Int32} {l6 : Int32} {l7 : Int32} {res : z_H}, k21 h l0 l1 l2 l3 l4 l5 l6 l7 = some res → z_Run G l 9 M_X6_countWays 21 [(0, z_r l0), (1, z_r l1), (2, .int l2), (3, .int l3), (4, .int l4), (5, .int l5), (6, .int l6), (7, .int l7)] [] h res none) (n : Nat) : ∀ {h : z_H} {l0 : Option Nat} {l1 : Option Nat} {l2 : Int32} {l3 : Int32} {l4 : Int32} {l5 : Int32} {l6 : Int32} {l7 : Int32} {l8 : Int32} {res : z_H}, D_X6_countWays_31 k12 k21 n h l0 l1 l2 l3 l4 l5 l6 l7 l8 = some res → z_Run G l 9 M_X6_countWays 31 [(0, z_r l0), (1, z_r l1), (2, .int l2), (3, .int l3), (4, .int l4), (5, .int l5), (6, .int l6), (7, .int l7), (8, .int l8)] [] h res none := by
  induction n with
  | zero => intro h l0 l1 l2 l3 l4 l5 l6 l7 l8 res e; cases e
  | succ n hk31 =>
    intro h l0 l1 l2 l3 l4 l5 l6 l7 l8 res e
    replace e : D_X6_countWays_31b k12 k21 (D_X6_countWays_31 k12 k21 n) h l0 l1 l2 l3 l4 l5 l6 l7 l8 = some res := e
    unfold D_X6_countWays_31b at e
    refine z_iload 8 dX6_countWays_31 rfl ?_
    refine z_iload 5 dX6_countWays_33 rfl ?_
    refine z_icmp_gt (tgt := 59) dX6_countWays_35 (by decide) (fun c2133 => ?_) (fun c2133 => ?_)
    · rw [if_pos c2133] at e
      replace e := z_bd e; obtain ⟨x2134, ex2134, e⟩ := e
      refine z_iinc (q := 7) (v := x2134) (L' := [(7, .int x2134), (0, z_r l0), (1, z_r l1), (2, .int l2), (3, .int l3), (4, .int l4), (5, .int l5), (6, .int l6), (8, .int l8)]) dX6_countWays_59 rfl (Option.some.inj ex2134) (by decide) rfl ?_
      refine z_goto (tgt := 21) dX6_countWays_62 (by decide) ?_
      exact z_weak [1, 2, 3, 4, 5, 6, 7, 0] rfl (hk21 e)
    · rw [if_neg c2133] at e
      refine z_aload_n 0 dX6_countWays_38 rfl ?_
      refine z_aload_n 1 dX6_countWays_39 rfl ?_
      refine z_iload_n 2 dX6_countWays_40 rfl ?_
      replace e := z_bd e; obtain ⟨o2136, eo2136, e⟩ := e
      replace e := z_bd e; obtain ⟨p2135, ep2135, e⟩ := e
      refine z_cV [.int l2] (S_X9_placeOf  ep2135) eo2136 rfl ml_X6_37 ck_X9_placeOf vk_X9_placeOf dX6_countWays_41 (by decide) rfl (by simp [z_ci, z_cj, z_cr, z_cx]) rfl ?_
      refine z_iload 6 dX6_countWays_44 rfl ?_
      refine z_iload 7 dX6_countWays_46 rfl ?_
      refine z_iload 8 dX6_countWays_48 rfl ?_
      replace e := z_bd e; obtain ⟨o2138, eo2138, e⟩ := e
      replace e := z_bd e; obtain ⟨p2137, ep2137, e⟩ := e
      refine z_cV [.int p2135.1, .int l6, .int l7, .int l8] (S_X6_gather  ep2137) eo2138 rfl ml_X6_43 ck_X6_gather vk_X6_gather dX6_countWays_50 (by decide) rfl (Nat.zero_le _) rfl ?_
      replace e := z_bd e; obtain ⟨x2139, ex2139, e⟩ := e
      refine z_iinc (q := 8) (v := x2139) (L' := [(8, .int x2139), (0, z_r l0), (1, z_r l1), (2, .int l2), (3, .int l3), (4, .int l4), (5, .int l5), (6, .int l6), (7, .int l7)]) dX6_countWays_53 rfl (Option.some.inj ex2139) (by decide) rfl ?_
      refine z_goto (tgt := 31) dX6_countWays_56 (by decide) ?_
      exact z_weak [1, 2, 3, 4, 5, 6, 7, 8, 0] rfl (hk31 e)
def D_X6_countWays_21b (k12 : z_H → Option Nat → Option Nat → Int32 → Int32 → Int32 → Int32 → Int32 → Option z_H) (k21 : z_H → Option Nat → Option Nat → Int32 → Int32 → Int32 → Int32 → Int32 → Int32 → Option z_H) (h : z_H) (l0 : Option Nat) (l1 : Option Nat) (l2 : Int32) (l3 : Int32) (l4 : Int32) (l5 : Int32) (l6 : Int32) (l7 : Int32) : Option z_H :=
  if l4 < l7 then
    (some (l6 + (1:Int32))).bind fun x2141 =>
    k12 h l0 l1 l2 l3 l4 l5 x2141
  else
    D_X6_countWays_31  k12 k21 z_F h l0 l1 l2 l3 l4 l5 l6 l7 (0:Int32)
def D_X6_countWays_21 (k12 : z_H → Option Nat → Option Nat → Int32 → Int32 → Int32 → Int32 → Int32 → Option z_H) (n : Nat) : z_H → Option Nat → Option Nat → Int32 → Int32 → Int32 → Int32 → Int32 → Int32 → Option z_H := Nat.rec (motive := fun _ => z_H → Option Nat → Option Nat → Int32 → Int32 → Int32 → Int32 → Int32 → Int32 → Option z_H) (fun _ _ _ _ _ _ _ _ _ => none) (fun _ k => D_X6_countWays_21b k12 k) n
set_option maxRecDepth 100000 in
set_option maxHeartbeats 4000000 in
theorem S_X6_countWays_21 {G : z_G} {l : Launch} {k12 : z_H → Option Nat → Option Nat → Int32 → Int32 → Int32 → Int32 → Int32 → Option z_H} (hk12 : ∀ {h : z_H} {l0 : Option Nat} {l1 : Option Nat} {l2 : Int32} {l3 : Int32} {l4 : Int32} {l5 : Int32} {l6 : Int32} {res : z_H}, k12 h l0 l1 l2 l3 l4 l5 l6 = some res → z_Run G l 9 M_X6_countWays 12 [(0, z_r l0), (1, z_r l1), (2, .int l2), (3, .int l3), (4, .int l4), (5, .int l5), (6, .int l6)] [] h res none) (n : Nat) : ∀ {h : z_H} {l0 : Option Nat} {l1 : Option Nat} {l2 : Int32} {l3 : Int32} {l4 : Int32} {l5 : Int32} {l6 : Int32} {l7 : Int32} {res : z_H}, D_X6_countWays_21 k12 n h l0 l1 l2 l3 l4 l5 l6 l7 = some res → z_Run G l 9 M_X6_countWays 21 [(0, z_r l0), (1, z_r l1), (2, .int l2), (3, .int l3), (4, .int l4), (5, .int l5), (6, .int l6), (7, .int l7)] [] h res none := by
  induction n with
  | zero => intro h l0 l1 l2 l3 l4 l5 l6 l7 res e; cases e
  | succ n hk21 =>
    intro h l0 l1 l2 l3 l4 l5 l6 l7 res e
    replace e : D_X6_countWays_21b k12 (D_X6_countWays_21 k12 n) h l0 l1 l2 l3 l4 l5 l6 l7 = some res := e
    unfold D_X6_countWays_21b at e
    refine z_iload 7 dX6_countWays_21 rfl ?_
    refine z_iload 4 dX6_countWays_23 rfl ?_
    refine z_icmp_gt (tgt := 65) dX6_countWays_25 (by decide) (fun c2140 => ?_) (fun c2140 => ?_)
    · rw [if_pos c2140] at e
      replace e := z_bd e; obtain ⟨x2141, ex2141, e⟩ := e
      refine z_iinc (q := 6) (v := x2141) (L' := [(6, .int x2141), (0, z_r l0), (1, z_r l1), (2, .int l2), (3, .int l3), (4, .int l4), (5, .int l5), (7, .int l7)]) dX6_countWays_65 rfl (Option.some.inj ex2141) (by decide) rfl ?_
      refine z_goto (tgt := 12) dX6_countWays_68 (by decide) ?_
      exact z_weak [1, 2, 3, 4, 5, 6, 0] rfl (hk12 e)
    · rw [if_neg c2140] at e
      refine z_iconst (v := 0) dX6_countWays_28 (by decide) ?_
      refine z_istore (L' := [(8, .int (0:Int32)), (0, z_r l0), (1, z_r l1), (2, .int l2), (3, .int l3), (4, .int l4), (5, .int l5), (6, .int l6), (7, .int l7)]) dX6_countWays_29 (by decide) rfl ?_
      exact z_weak [1, 2, 3, 4, 5, 6, 7, 8, 0] rfl (S_X6_countWays_31  @hk12 @hk21 z_F e)
def D_X6_countWays_12b (k12 : z_H → Option Nat → Option Nat → Int32 → Int32 → Int32 → Int32 → Int32 → Option z_H) (h : z_H) (l0 : Option Nat) (l1 : Option Nat) (l2 : Int32) (l3 : Int32) (l4 : Int32) (l5 : Int32) (l6 : Int32) : Option z_H :=
  if l3 < l6 then
    some h
  else
    D_X6_countWays_21  k12 z_F h l0 l1 l2 l3 l4 l5 l6 (0:Int32)
def D_X6_countWays_12 (n : Nat) : z_H → Option Nat → Option Nat → Int32 → Int32 → Int32 → Int32 → Int32 → Option z_H := Nat.rec (motive := fun _ => z_H → Option Nat → Option Nat → Int32 → Int32 → Int32 → Int32 → Int32 → Option z_H) (fun _ _ _ _ _ _ _ _ => none) (fun _ k => D_X6_countWays_12b  k) n
set_option maxRecDepth 100000 in
set_option maxHeartbeats 4000000 in
theorem S_X6_countWays_12 {G : z_G} {l : Launch}  (n : Nat) : ∀ {h : z_H} {l0 : Option Nat} {l1 : Option Nat} {l2 : Int32} {l3 : Int32} {l4 : Int32} {l5 : Int32} {l6 : Int32} {res : z_H}, D_X6_countWays_12  n h l0 l1 l2 l3 l4 l5 l6 = some res → z_Run G l 9 M_X6_countWays 12 [(0, z_r l0), (1, z_r l1), (2, .int l2), (3, .int l3), (4, .int l4), (5, .int l5), (6, .int l6)] [] h res none := by
  induction n with
  | zero => intro h l0 l1 l2 l3 l4 l5 l6 res e; cases e
  | succ n hk12 =>
    intro h l0 l1 l2 l3 l4 l5 l6 res e
    replace e : D_X6_countWays_12b  (D_X6_countWays_12  n) h l0 l1 l2 l3 l4 l5 l6 = some res := e
    unfold D_X6_countWays_12b at e
    refine z_iload 6 dX6_countWays_12 rfl ?_
    refine z_iload_n 3 dX6_countWays_14 rfl ?_
    refine z_icmp_gt (tgt := 71) dX6_countWays_15 (by decide) (fun c2142 => ?_) (fun c2142 => ?_)
    · rw [if_pos c2142] at e
      cases e
      exact z_vret dX6_countWays_71 rfl
    · rw [if_neg c2142] at e
      refine z_iconst (v := 0) dX6_countWays_18 (by decide) ?_
      refine z_istore (L' := [(7, .int (0:Int32)), (0, z_r l0), (1, z_r l1), (2, .int l2), (3, .int l3), (4, .int l4), (5, .int l5), (6, .int l6)]) dX6_countWays_19 (by decide) rfl ?_
      exact z_weak [1, 2, 3, 4, 5, 6, 7, 0] rfl (S_X6_countWays_21  @hk12 z_F e)
def D_X6_countWays (h : z_H) (l0 : Option Nat) (l1 : Option Nat) (l2 : Int32) (l3 : Int32) (l4 : Int32) (l5 : Int32) : Option z_H :=
  (z_gQ 6 h l0 0).bind fun x2143 =>
  (z_ob 4 h x2143).bind fun _ =>
  (D_X4_layOut  h x2143 l1 l2).bind fun p2144 =>
  D_X6_countWays_12   z_F p2144 l0 l1 l2 l3 l4 l5 (0:Int32)
set_option maxRecDepth 100000 in
set_option maxHeartbeats 4000000 in
theorem S_X6_countWays {G : z_G} {l : Launch} {h : z_H} {l0 : Option Nat} {l1 : Option Nat} {l2 : Int32} {l3 : Int32} {l4 : Int32} {l5 : Int32} {res : z_H} (e : D_X6_countWays h l0 l1 l2 l3 l4 l5 = some res) : z_Meth G l 9 M_X6_countWays [z_r l0, z_r l1, .int l2, .int l3, .int l4, .int l5] h res none := by
  refine z_Meth.of ck_X6_countWays.2.2.2.2 (by simp [lg_sl, z_ci, z_cj, z_cr, z_cx]) ck_X6_countWays.1 ?_
  rw [show lv_args 0 [z_r l0, z_r l1, .int l2, .int l3, .int l4, .int l5] = [(0, z_r l0), (1, z_r l1), (2, .int l2), (3, .int l3), (4, .int l4), (5, .int l5)] from by simp [lv_args, z_ci, z_cj, z_cr, z_cx]]
  unfold D_X6_countWays at e
  refine z_aload_n 0 dX6_countWays_0 rfl ?_
  replace e := z_bd e; obtain ⟨x2143, ex2143, e⟩ := e
  refine z_getQ ex2143 lk_X6_27 dX6_countWays_1 ?_
  refine z_aload_n 1 dX6_countWays_4 rfl ?_
  refine z_iload_n 2 dX6_countWays_5 rfl ?_
  replace e := z_bd e; obtain ⟨o2145, eo2145, e⟩ := e
  replace e := z_bd e; obtain ⟨p2144, ep2144, e⟩ := e
  refine z_cV [z_r l1, .int l2] (S_X4_layOut  ep2144) eo2145 rfl ml_X6_31 ck_X4_layOut vk_X4_layOut dX6_countWays_6 (by decide) rfl (Nat.zero_le _) rfl ?_
  refine z_iconst (v := 0) dX6_countWays_9 (by decide) ?_
  refine z_istore (L' := [(6, .int (0:Int32)), (0, z_r l0), (1, z_r l1), (2, .int l2), (3, .int l3), (4, .int l4), (5, .int l5)]) dX6_countWays_10 (by decide) rfl ?_
  exact z_weak [1, 2, 3, 4, 5, 6, 0] rfl (S_X6_countWays_12   z_F e)
theorem dX6_endCells_0 : decode cX6_endCells 0 = .ok (.iload_n 1, 1) := by decide +kernel
theorem dX6_endCells_1 : decode cX6_endCells 1 = .ok (.bipush 7, 2) := by decide +kernel
theorem dX6_endCells_3 : decode cX6_endCells 3 = .ok (.imul, 1) := by decide +kernel
theorem dX6_endCells_4 : decode cX6_endCells 4 = .ok (.iload_n 2, 1) := by decide +kernel
theorem dX6_endCells_5 : decode cX6_endCells 5 = .ok (.iadd, 1) := by decide +kernel
theorem dX6_endCells_6 : decode cX6_endCells 6 = .ok (.bipush 25, 2) := by decide +kernel
theorem dX6_endCells_8 : decode cX6_endCells 8 = .ok (.imul, 1) := by decide +kernel
theorem dX6_endCells_9 : decode cX6_endCells 9 = .ok (.istore_n 3, 1) := by decide +kernel
theorem dX6_endCells_10 : decode cX6_endCells 10 = .ok (.iconst 0, 1) := by decide +kernel
theorem dX6_endCells_11 : decode cX6_endCells 11 = .ok (.istore 4, 2) := by decide +kernel
theorem dX6_endCells_13 : decode cX6_endCells 13 = .ok (.iconst 0, 1) := by decide +kernel
theorem dX6_endCells_14 : decode cX6_endCells 14 = .ok (.istore 5, 2) := by decide +kernel
theorem dX6_endCells_16 : decode cX6_endCells 16 = .ok (.iload 5, 2) := by decide +kernel
theorem dX6_endCells_18 : decode cX6_endCells 18 = .ok (.bipush 25, 2) := by decide +kernel
theorem dX6_endCells_20 : decode cX6_endCells 20 = .ok (.if_icmp .ge 36, 3) := by decide +kernel
theorem dX6_endCells_23 : decode cX6_endCells 23 = .ok (.iload 4, 2) := by decide +kernel
theorem dX6_endCells_25 : decode cX6_endCells 25 = .ok (.aload_n 0, 1) := by decide +kernel
theorem dX6_endCells_26 : decode cX6_endCells 26 = .ok (.getfield 11, 3) := by decide +kernel
theorem dX6_endCells_29 : decode cX6_endCells 29 = .ok (.iload_n 3, 1) := by decide +kernel
theorem dX6_endCells_30 : decode cX6_endCells 30 = .ok (.iload 5, 2) := by decide +kernel
theorem dX6_endCells_32 : decode cX6_endCells 32 = .ok (.iadd, 1) := by decide +kernel
theorem dX6_endCells_33 : decode cX6_endCells 33 = .ok (.laload, 1) := by decide +kernel
theorem dX6_endCells_34 : decode cX6_endCells 34 = .ok (.lconst 0, 1) := by decide +kernel
theorem dX6_endCells_35 : decode cX6_endCells 35 = .ok (.lcmp, 1) := by decide +kernel
theorem dX6_endCells_36 : decode cX6_endCells 36 = .ok (.ifCond .le 10, 3) := by decide +kernel
theorem dX6_endCells_39 : decode cX6_endCells 39 = .ok (.iconst 1, 1) := by decide +kernel
theorem dX6_endCells_40 : decode cX6_endCells 40 = .ok (.iload 5, 2) := by decide +kernel
theorem dX6_endCells_42 : decode cX6_endCells 42 = .ok (.ishl, 1) := by decide +kernel
theorem dX6_endCells_43 : decode cX6_endCells 43 = .ok (.goto 4, 3) := by decide +kernel
theorem dX6_endCells_46 : decode cX6_endCells 46 = .ok (.iconst 0, 1) := by decide +kernel
theorem dX6_endCells_47 : decode cX6_endCells 47 = .ok (.ior, 1) := by decide +kernel
theorem dX6_endCells_48 : decode cX6_endCells 48 = .ok (.istore 4, 2) := by decide +kernel
theorem dX6_endCells_50 : decode cX6_endCells 50 = .ok (.iinc 5 1, 3) := by decide +kernel
theorem dX6_endCells_53 : decode cX6_endCells 53 = .ok (.goto (-37), 3) := by decide +kernel
theorem dX6_endCells_56 : decode cX6_endCells 56 = .ok (.iload 4, 2) := by decide +kernel
theorem dX6_endCells_58 : decode cX6_endCells 58 = .ok (.ireturn, 1) := by decide +kernel
def D_X6_endCells_47 (k16 : z_H → Option Nat → Int32 → Int32 → Int32 → Option (Int32 × z_H)) (h : z_H) (l0 : Option Nat) (l3 : Int32) (l5 : Int32) (s0 : Int32) (s1 : Int32) : Option (Int32 × z_H) :=
  (some (s0 ||| s1)).bind fun x2146 =>
  (some (l5 + (1:Int32))).bind fun x2147 =>
  k16 h l0 l3 x2146 x2147
set_option maxRecDepth 100000 in
set_option maxHeartbeats 4000000 in
theorem S_X6_endCells_47 {G : z_G} {l : Launch} {k16 : z_H → Option Nat → Int32 → Int32 → Int32 → Option (Int32 × z_H)} (hk16 : ∀ {h : z_H} {l0 : Option Nat} {l3 : Int32} {l4 : Int32} {l5 : Int32} {res : (Int32 × z_H)}, k16 h l0 l3 l4 l5 = some res → z_Run G l 4 M_X6_endCells 16 [(0, z_r l0), (3, .int l3), (4, .int l4), (5, .int l5)] [] h res.2 (some (.int res.1))) {h : z_H} {l0 : Option Nat} {l3 : Int32} {l5 : Int32} {s0 : Int32} {s1 : Int32} {res : (Int32 × z_H)} (e : D_X6_endCells_47 k16 h l0 l3 l5 s0 s1 = some res) : z_Run G l 4 M_X6_endCells 47 [(0, z_r l0), (3, .int l3), (5, .int l5)] [.int s1, .int s0] h res.2 (some (.int res.1)) := by
  unfold D_X6_endCells_47 at e
  refine z_ior dX6_endCells_47 ?_
  replace e := z_bd e; obtain ⟨x2146, ex2146, e⟩ := e
  refine z_topI ex2146 ?_
  refine z_istore (L' := [(4, .int x2146), (0, z_r l0), (3, .int l3), (5, .int l5)]) dX6_endCells_48 (by decide) rfl ?_
  replace e := z_bd e; obtain ⟨x2147, ex2147, e⟩ := e
  refine z_iinc (q := 3) (v := x2147) (L' := [(5, .int x2147), (4, .int x2146), (0, z_r l0), (3, .int l3)]) dX6_endCells_50 rfl (Option.some.inj ex2147) (by decide) rfl ?_
  refine z_goto (tgt := 16) dX6_endCells_53 (by decide) ?_
  exact z_weak [2, 3, 1, 0] rfl (hk16 e)
def D_X6_endCells_16b (k16 : z_H → Option Nat → Int32 → Int32 → Int32 → Option (Int32 × z_H)) (h : z_H) (l0 : Option Nat) (l3 : Int32) (l4 : Int32) (l5 : Int32) : Option (Int32 × z_H) :=
  if (25:Int32) ≤ l5 then
    some (l4, h)
  else
    (z_gQ 6 h l0 1).bind fun x2149 =>
    (z_aJ h x2149 (l3 + l5)).bind fun x2150 =>
    if (lg_cmp x2150 (0:Int64)) ≤ 0 then
      D_X6_endCells_47  k16 h l0 l3 l5 l4 (0:Int32)
    else
      D_X6_endCells_47  k16 h l0 l3 l5 l4 ((1:Int32) <<< (l5 &&& 31))
def D_X6_endCells_16 (n : Nat) : z_H → Option Nat → Int32 → Int32 → Int32 → Option (Int32 × z_H) := Nat.rec (motive := fun _ => z_H → Option Nat → Int32 → Int32 → Int32 → Option (Int32 × z_H)) (fun _ _ _ _ _ => none) (fun _ k => D_X6_endCells_16b  k) n
set_option maxRecDepth 100000 in
set_option maxHeartbeats 4000000 in
theorem S_X6_endCells_16 {G : z_G} {l : Launch}  (n : Nat) : ∀ {h : z_H} {l0 : Option Nat} {l3 : Int32} {l4 : Int32} {l5 : Int32} {res : (Int32 × z_H)}, D_X6_endCells_16  n h l0 l3 l4 l5 = some res → z_Run G l 4 M_X6_endCells 16 [(0, z_r l0), (3, .int l3), (4, .int l4), (5, .int l5)] [] h res.2 (some (.int res.1)) := by
  induction n with
  | zero => intro h l0 l3 l4 l5 res e; cases e
  | succ n hk16 =>
    intro h l0 l3 l4 l5 res e
    replace e : D_X6_endCells_16b  (D_X6_endCells_16  n) h l0 l3 l4 l5 = some res := e
    unfold D_X6_endCells_16b at e
    refine z_iload 3 dX6_endCells_16 rfl ?_
    refine z_bipush (v := 25) dX6_endCells_18 (by decide) ?_
    refine z_icmp_ge (tgt := 56) dX6_endCells_20 (by decide) (fun c2148 => ?_) (fun c2148 => ?_)
    · rw [if_pos c2148] at e
      refine z_iload 2 dX6_endCells_56 rfl ?_
      cases e
      exact z_iret dX6_endCells_58 rfl
    · rw [if_neg c2148] at e
      refine z_iload 2 dX6_endCells_23 rfl ?_
      refine z_aload_n 0 dX6_endCells_25 rfl ?_
      replace e := z_bd e; obtain ⟨x2149, ex2149, e⟩ := e
      refine z_getQ ex2149 lk_X6_11 dX6_endCells_26 ?_
      refine z_iload_n 1 dX6_endCells_29 rfl ?_
      refine z_iload 3 dX6_endCells_30 rfl ?_
      refine z_iadd dX6_endCells_32 ?_
      replace e := z_bd e; obtain ⟨x2150, ex2150, e⟩ := e
      refine z_lald ex2150 dX6_endCells_33 ?_
      refine z_lconst (v := 0) dX6_endCells_34 (by decide) ?_
      refine z_lcmp dX6_endCells_35 ?_
      refine z_if_le (tgt := 46) dX6_endCells_36 (by decide) (fun c2151 => ?_) (fun c2151 => ?_)
      · rw [if_pos c2151] at e
        refine z_iconst (v := 0) dX6_endCells_46 (by decide) ?_
        exact z_weak [0, 1, 3] rfl (S_X6_endCells_47  @hk16 e)
      · rw [if_neg c2151] at e
        refine z_iconst (v := 1) dX6_endCells_39 (by decide) ?_
        refine z_iload 3 dX6_endCells_40 rfl ?_
        refine z_ishl dX6_endCells_42 ?_
        refine z_goto (tgt := 47) dX6_endCells_43 (by decide) ?_
        exact z_weak [0, 1, 3] rfl (S_X6_endCells_47  @hk16 e)
def D_X6_endCells (h : z_H) (l0 : Option Nat) (l1 : Int32) (l2 : Int32) : Option (Int32 × z_H) :=
  (some (((l1 * (7:Int32)) + l2) * (25:Int32))).bind fun x2152 =>
  D_X6_endCells_16   z_F h l0 x2152 (0:Int32) (0:Int32)
set_option maxRecDepth 100000 in
set_option maxHeartbeats 4000000 in
theorem S_X6_endCells {G : z_G} {l : Launch} {h : z_H} {l0 : Option Nat} {l1 : Int32} {l2 : Int32} {res : (Int32 × z_H)} (e : D_X6_endCells h l0 l1 l2 = some res) : z_Meth G l 4 M_X6_endCells [z_r l0, .int l1, .int l2] h res.2 (some (.int res.1)) := by
  refine z_Meth.of ck_X6_endCells.2.2.2.2 (by simp [lg_sl, z_ci, z_cj, z_cr, z_cx]) ck_X6_endCells.1 ?_
  rw [show lv_args 0 [z_r l0, .int l1, .int l2] = [(0, z_r l0), (1, .int l1), (2, .int l2)] from by simp [lv_args, z_ci, z_cj, z_cr, z_cx]]
  unfold D_X6_endCells at e
  refine z_iload_n 1 dX6_endCells_0 rfl ?_
  refine z_bipush (v := 7) dX6_endCells_1 (by decide) ?_
  refine z_imul dX6_endCells_3 ?_
  refine z_iload_n 2 dX6_endCells_4 rfl ?_
  refine z_iadd dX6_endCells_5 ?_
  refine z_bipush (v := 25) dX6_endCells_6 (by decide) ?_
  refine z_imul dX6_endCells_8 ?_
  replace e := z_bd e; obtain ⟨x2152, ex2152, e⟩ := e
  refine z_topI ex2152 ?_
  refine z_istore_n (L' := [(3, .int x2152), (0, z_r l0), (1, .int l1), (2, .int l2)]) dX6_endCells_9 rfl (by decide) rfl ?_
  refine z_iconst (v := 0) dX6_endCells_10 (by decide) ?_
  refine z_istore (L' := [(4, .int (0:Int32)), (3, .int x2152), (0, z_r l0), (1, .int l1), (2, .int l2)]) dX6_endCells_11 (by decide) rfl ?_
  refine z_iconst (v := 0) dX6_endCells_13 (by decide) ?_
  refine z_istore (L' := [(5, .int (0:Int32)), (4, .int (0:Int32)), (3, .int x2152), (0, z_r l0), (1, .int l1), (2, .int l2)]) dX6_endCells_14 (by decide) rfl ?_
  exact z_weak [3, 2, 1, 0] rfl (S_X6_endCells_16   z_F e)
theorem dX10_ends_0 : decode cX10_ends 0 = .ok (.aload_n 0, 1) := by decide +kernel
theorem dX10_ends_1 : decode cX10_ends 1 = .ok (.iload_n 1, 1) := by decide +kernel
theorem dX10_ends_2 : decode cX10_ends 2 = .ok (.iload_n 2, 1) := by decide +kernel
theorem dX10_ends_3 : decode cX10_ends 3 = .ok (.iload_n 3, 1) := by decide +kernel
theorem dX10_ends_4 : decode cX10_ends 4 = .ok (.iload 4, 2) := by decide +kernel
theorem dX10_ends_6 : decode cX10_ends 6 = .ok (.invokevirtual 225, 3) := by decide +kernel
theorem dX10_ends_9 : decode cX10_ends 9 = .ok (.ifCond .ne 5, 3) := by decide +kernel
theorem dX10_ends_12 : decode cX10_ends 12 = .ok (.iconst (-1), 1) := by decide +kernel
theorem dX10_ends_13 : decode cX10_ends 13 = .ok (.ireturn, 1) := by decide +kernel
theorem dX10_ends_14 : decode cX10_ends 14 = .ok (.aload_n 0, 1) := by decide +kernel
theorem dX10_ends_15 : decode cX10_ends 15 = .ok (.getfield 78, 3) := by decide +kernel
theorem dX10_ends_18 : decode cX10_ends 18 = .ok (.aload_n 0, 1) := by decide +kernel
theorem dX10_ends_19 : decode cX10_ends 19 = .ok (.getfield 12, 3) := by decide +kernel
theorem dX10_ends_22 : decode cX10_ends 22 = .ok (.iload_n 1, 1) := by decide +kernel
theorem dX10_ends_23 : decode cX10_ends 23 = .ok (.iload_n 2, 1) := by decide +kernel
theorem dX10_ends_24 : decode cX10_ends 24 = .ok (.iload_n 3, 1) := by decide +kernel
theorem dX10_ends_25 : decode cX10_ends 25 = .ok (.iload 4, 2) := by decide +kernel
theorem dX10_ends_27 : decode cX10_ends 27 = .ok (.invokevirtual 231, 3) := by decide +kernel
theorem dX10_ends_30 : decode cX10_ends 30 = .ok (.aload_n 0, 1) := by decide +kernel
theorem dX10_ends_31 : decode cX10_ends 31 = .ok (.getfield 78, 3) := by decide +kernel
theorem dX10_ends_34 : decode cX10_ends 34 = .ok (.iload_n 3, 1) := by decide +kernel
theorem dX10_ends_35 : decode cX10_ends 35 = .ok (.iload 4, 2) := by decide +kernel
theorem dX10_ends_37 : decode cX10_ends 37 = .ok (.invokevirtual 239, 3) := by decide +kernel
theorem dX10_ends_40 : decode cX10_ends 40 = .ok (.ireturn, 1) := by decide +kernel
def D_X10_ends (h : z_H) (l0 : Option Nat) (l1 : Int32) (l2 : Int32) (l3 : Int32) (l4 : Int32) : Option (Int32 × z_H) :=
  (z_ob 10 h l0).bind fun _ =>
  (D_X10_canCountWays  h l0 l1 l2 l3 l4).bind fun p2153 =>
  if p2153.1 = 0 then
    some ((-1:Int32), p2153.2)
  else
    (z_gQ 10 p2153.2 l0 10).bind fun x2156 =>
    (z_gQ 10 p2153.2 l0 0).bind fun x2157 =>
    (z_ob 6 p2153.2 x2156).bind fun _ =>
    (D_X6_countWays  p2153.2 x2156 x2157 l1 l2 l3 l4).bind fun p2158 =>
    (z_gQ 10 p2158 l0 10).bind fun x2160 =>
    (z_ob 6 p2158 x2160).bind fun _ =>
    (D_X6_endCells  p2158 x2160 l3 l4).bind fun p2161 =>
    some (p2161.1, p2161.2)
set_option maxRecDepth 100000 in
set_option maxHeartbeats 4000000 in
theorem S_X10_ends {G : z_G} {l : Launch} {h : z_H} {l0 : Option Nat} {l1 : Int32} {l2 : Int32} {l3 : Int32} {l4 : Int32} {res : (Int32 × z_H)} (e : D_X10_ends h l0 l1 l2 l3 l4 = some res) : z_Meth G l 10 M_X10_ends [z_r l0, .int l1, .int l2, .int l3, .int l4] h res.2 (some (.int res.1)) := by
  refine z_Meth.of ck_X10_ends.2.2.2.2 (by simp [lg_sl, z_ci, z_cj, z_cr, z_cx]) ck_X10_ends.1 ?_
  rw [show lv_args 0 [z_r l0, .int l1, .int l2, .int l3, .int l4] = [(0, z_r l0), (1, .int l1), (2, .int l2), (3, .int l3), (4, .int l4)] from by simp [lv_args, z_ci, z_cj, z_cr, z_cx]]
  unfold D_X10_ends at e
  refine z_aload_n 0 dX10_ends_0 rfl ?_
  refine z_iload_n 1 dX10_ends_1 rfl ?_
  refine z_iload_n 2 dX10_ends_2 rfl ?_
  refine z_iload_n 3 dX10_ends_3 rfl ?_
  refine z_iload 4 dX10_ends_4 rfl ?_
  replace e := z_bd e; obtain ⟨o2154, eo2154, e⟩ := e
  replace e := z_bd e; obtain ⟨p2153, ep2153, e⟩ := e
  refine z_cV [.int l1, .int l2, .int l3, .int l4] (S_X10_canCountWays  ep2153) eo2154 rfl ml_X10_225 ck_X10_canCountWays vk_X10_canCountWays dX10_ends_6 (by decide) rfl (Nat.zero_le _) rfl ?_
  refine z_if_ne (tgt := 14) dX10_ends_9 (by decide) (fun c2155 => ?_) (fun c2155 => ?_)
  · rw [if_neg c2155] at e
    refine z_aload_n 0 dX10_ends_14 rfl ?_
    replace e := z_bd e; obtain ⟨x2156, ex2156, e⟩ := e
    refine z_getQ ex2156 lk_X10_78 dX10_ends_15 ?_
    refine z_aload_n 0 dX10_ends_18 rfl ?_
    replace e := z_bd e; obtain ⟨x2157, ex2157, e⟩ := e
    refine z_getQ ex2157 lk_X10_12 dX10_ends_19 ?_
    refine z_iload_n 1 dX10_ends_22 rfl ?_
    refine z_iload_n 2 dX10_ends_23 rfl ?_
    refine z_iload_n 3 dX10_ends_24 rfl ?_
    refine z_iload 4 dX10_ends_25 rfl ?_
    replace e := z_bd e; obtain ⟨o2159, eo2159, e⟩ := e
    replace e := z_bd e; obtain ⟨p2158, ep2158, e⟩ := e
    refine z_cV [z_r x2157, .int l1, .int l2, .int l3, .int l4] (S_X6_countWays  ep2158) eo2159 rfl ml_X10_231 ck_X6_countWays vk_X6_countWays dX10_ends_27 (by decide) rfl (Nat.zero_le _) rfl ?_
    refine z_aload_n 0 dX10_ends_30 rfl ?_
    replace e := z_bd e; obtain ⟨x2160, ex2160, e⟩ := e
    refine z_getQ ex2160 lk_X10_78 dX10_ends_31 ?_
    refine z_iload_n 3 dX10_ends_34 rfl ?_
    refine z_iload 4 dX10_ends_35 rfl ?_
    replace e := z_bd e; obtain ⟨o2162, eo2162, e⟩ := e
    replace e := z_bd e; obtain ⟨p2161, ep2161, e⟩ := e
    refine z_cV [.int l3, .int l4] (S_X6_endCells  ep2161) eo2162 rfl ml_X10_239 ck_X6_endCells vk_X6_endCells dX10_ends_37 (by decide) rfl (Nat.zero_le _) rfl ?_
    cases e
    exact z_iret dX10_ends_40 rfl
  · rw [if_pos c2155] at e
    refine z_iconst (v := -1) dX10_ends_12 (by decide) ?_
    cases e
    exact z_iret dX10_ends_13 rfl
theorem dX11_canAsk_0 : decode cX11_canAsk 0 = .ok (.aload_n 0, 1) := by decide +kernel
theorem dX11_canAsk_1 : decode cX11_canAsk 1 = .ok (.iload_n 1, 1) := by decide +kernel
theorem dX11_canAsk_2 : decode cX11_canAsk 2 = .ok (.invokevirtual 211, 3) := by decide +kernel
theorem dX11_canAsk_5 : decode cX11_canAsk 5 = .ok (.ifCond .eq 44, 3) := by decide +kernel
theorem dX11_canAsk_8 : decode cX11_canAsk 8 = .ok (.iload_n 2, 1) := by decide +kernel
theorem dX11_canAsk_9 : decode cX11_canAsk 9 = .ok (.i2l, 1) := by decide +kernel
theorem dX11_canAsk_10 : decode cX11_canAsk 10 = .ok (.lconst 0, 1) := by decide +kernel
theorem dX11_canAsk_11 : decode cX11_canAsk 11 = .ok (.ldc2_w 479, 3) := by decide +kernel
theorem dX11_canAsk_14 : decode cX11_canAsk 14 = .ok (.invokestatic 186, 3) := by decide +kernel
theorem dX11_canAsk_17 : decode cX11_canAsk 17 = .ok (.ifCond .eq 32, 3) := by decide +kernel
theorem dX11_canAsk_20 : decode cX11_canAsk 20 = .ok (.iload_n 3, 1) := by decide +kernel
theorem dX11_canAsk_21 : decode cX11_canAsk 21 = .ok (.i2l, 1) := by decide +kernel
theorem dX11_canAsk_22 : decode cX11_canAsk 22 = .ok (.lconst 0, 1) := by decide +kernel
theorem dX11_canAsk_23 : decode cX11_canAsk 23 = .ok (.ldc2_w 479, 3) := by decide +kernel
theorem dX11_canAsk_26 : decode cX11_canAsk 26 = .ok (.invokestatic 186, 3) := by decide +kernel
theorem dX11_canAsk_29 : decode cX11_canAsk 29 = .ok (.ifCond .eq 20, 3) := by decide +kernel
theorem dX11_canAsk_32 : decode cX11_canAsk 32 = .ok (.iload 4, 2) := by decide +kernel
theorem dX11_canAsk_34 : decode cX11_canAsk 34 = .ok (.i2l, 1) := by decide +kernel
theorem dX11_canAsk_35 : decode cX11_canAsk 35 = .ok (.lconst 0, 1) := by decide +kernel
theorem dX11_canAsk_36 : decode cX11_canAsk 36 = .ok (.ldc2_w 479, 3) := by decide +kernel
theorem dX11_canAsk_39 : decode cX11_canAsk 39 = .ok (.invokestatic 186, 3) := by decide +kernel
theorem dX11_canAsk_42 : decode cX11_canAsk 42 = .ok (.ifCond .eq 7, 3) := by decide +kernel
theorem dX11_canAsk_45 : decode cX11_canAsk 45 = .ok (.iconst 1, 1) := by decide +kernel
theorem dX11_canAsk_46 : decode cX11_canAsk 46 = .ok (.goto 4, 3) := by decide +kernel
theorem dX11_canAsk_49 : decode cX11_canAsk 49 = .ok (.iconst 0, 1) := by decide +kernel
theorem dX11_canAsk_50 : decode cX11_canAsk 50 = .ok (.ireturn, 1) := by decide +kernel
def D_X11_canAsk (h : z_H) (l0 : Option Nat) (l1 : Int32) (l2 : Int32) (l3 : Int32) (l4 : Int32) : Option (Int32 × z_H) :=
  (z_ob 11 h l0).bind fun _ =>
  (D_X11_isPair  h l0 l1).bind fun p2163 =>
  if p2163.1 = 0 then
    some ((0:Int32), p2163.2)
  else
    (D_X11_in  p2163.2 (Int32.toInt64 l2) (0:Int64) (6:Int64)).bind fun p2166 =>
    if p2166.1 = 0 then
      some ((0:Int32), p2166.2)
    else
      (D_X11_in  p2166.2 (Int32.toInt64 l3) (0:Int64) (6:Int64)).bind fun p2168 =>
      if p2168.1 = 0 then
        some ((0:Int32), p2168.2)
      else
        (D_X11_in  p2168.2 (Int32.toInt64 l4) (0:Int64) (6:Int64)).bind fun p2170 =>
        if p2170.1 = 0 then
          some ((0:Int32), p2170.2)
        else
          some ((1:Int32), p2170.2)
set_option maxRecDepth 100000 in
set_option maxHeartbeats 4000000 in
theorem S_X11_canAsk {G : z_G} {l : Launch} {h : z_H} {l0 : Option Nat} {l1 : Int32} {l2 : Int32} {l3 : Int32} {l4 : Int32} {res : (Int32 × z_H)} (e : D_X11_canAsk h l0 l1 l2 l3 l4 = some res) : z_Meth G l 6 M_X11_canAsk [z_r l0, .int l1, .int l2, .int l3, .int l4] h res.2 (some (.int res.1)) := by
  refine z_Meth.of ck_X11_canAsk.2.2.2.2 (by simp [lg_sl, z_ci, z_cj, z_cr, z_cx]) ck_X11_canAsk.1 ?_
  rw [show lv_args 0 [z_r l0, .int l1, .int l2, .int l3, .int l4] = [(0, z_r l0), (1, .int l1), (2, .int l2), (3, .int l3), (4, .int l4)] from by simp [lv_args, z_ci, z_cj, z_cr, z_cx]]
  unfold D_X11_canAsk at e
  refine z_aload_n 0 dX11_canAsk_0 rfl ?_
  refine z_iload_n 1 dX11_canAsk_1 rfl ?_
  replace e := z_bd e; obtain ⟨o2164, eo2164, e⟩ := e
  replace e := z_bd e; obtain ⟨p2163, ep2163, e⟩ := e
  refine z_cV [.int l1] (S_X11_isPair  ep2163) eo2164 rfl ml_X11_211 ck_X11_isPair vk_X11_isPair dX11_canAsk_2 (by decide) rfl (Nat.zero_le _) rfl ?_
  refine z_if_eq (tgt := 49) dX11_canAsk_5 (by decide) (fun c2165 => ?_) (fun c2165 => ?_)
  · rw [if_pos c2165] at e
    refine z_iconst (v := 0) dX11_canAsk_49 (by decide) ?_
    cases e
    exact z_zret dX11_canAsk_50 rfl (by decide)
  · rw [if_neg c2165] at e
    refine z_iload_n 2 dX11_canAsk_8 rfl ?_
    refine z_i2l dX11_canAsk_9 ?_
    refine z_lconst (v := 0) dX11_canAsk_10 (by decide) ?_
    refine z_ldc2 dX11_canAsk_11 kj_X11_479 ?_
    replace e := z_bd e; obtain ⟨p2166, ep2166, e⟩ := e
    refine z_cS [.long (Int32.toInt64 l2), .long (0:Int64), .long (6:Int64)] (S_X11_in  ep2166) ml_X11_186 ck_X11_in st_X11_in dX11_canAsk_14 (by decide) rfl (Nat.zero_le _) rfl ?_
    refine z_if_eq (tgt := 49) dX11_canAsk_17 (by decide) (fun c2167 => ?_) (fun c2167 => ?_)
    · rw [if_pos c2167] at e
      refine z_iconst (v := 0) dX11_canAsk_49 (by decide) ?_
      cases e
      exact z_zret dX11_canAsk_50 rfl (by decide)
    · rw [if_neg c2167] at e
      refine z_iload_n 3 dX11_canAsk_20 rfl ?_
      refine z_i2l dX11_canAsk_21 ?_
      refine z_lconst (v := 0) dX11_canAsk_22 (by decide) ?_
      refine z_ldc2 dX11_canAsk_23 kj_X11_479 ?_
      replace e := z_bd e; obtain ⟨p2168, ep2168, e⟩ := e
      refine z_cS [.long (Int32.toInt64 l3), .long (0:Int64), .long (6:Int64)] (S_X11_in  ep2168) ml_X11_186 ck_X11_in st_X11_in dX11_canAsk_26 (by decide) rfl (Nat.zero_le _) rfl ?_
      refine z_if_eq (tgt := 49) dX11_canAsk_29 (by decide) (fun c2169 => ?_) (fun c2169 => ?_)
      · rw [if_pos c2169] at e
        refine z_iconst (v := 0) dX11_canAsk_49 (by decide) ?_
        cases e
        exact z_zret dX11_canAsk_50 rfl (by decide)
      · rw [if_neg c2169] at e
        refine z_iload 4 dX11_canAsk_32 rfl ?_
        refine z_i2l dX11_canAsk_34 ?_
        refine z_lconst (v := 0) dX11_canAsk_35 (by decide) ?_
        refine z_ldc2 dX11_canAsk_36 kj_X11_479 ?_
        replace e := z_bd e; obtain ⟨p2170, ep2170, e⟩ := e
        refine z_cS [.long (Int32.toInt64 l4), .long (0:Int64), .long (6:Int64)] (S_X11_in  ep2170) ml_X11_186 ck_X11_in st_X11_in dX11_canAsk_39 (by decide) rfl (Nat.zero_le _) rfl ?_
        refine z_if_eq (tgt := 49) dX11_canAsk_42 (by decide) (fun c2171 => ?_) (fun c2171 => ?_)
        · rw [if_pos c2171] at e
          refine z_iconst (v := 0) dX11_canAsk_49 (by decide) ?_
          cases e
          exact z_zret dX11_canAsk_50 rfl (by decide)
        · rw [if_neg c2171] at e
          refine z_iconst (v := 1) dX11_canAsk_45 (by decide) ?_
          refine z_goto (tgt := 50) dX11_canAsk_46 (by decide) ?_
          cases e
          exact z_zret dX11_canAsk_50 rfl (by decide)
theorem dX11_placeOf_0 : decode cX11_placeOf 0 = .ok (.bipush 25, 2) := by decide +kernel
theorem dX11_placeOf_2 : decode cX11_placeOf 2 = .ok (.bipush 49, 2) := by decide +kernel
theorem dX11_placeOf_4 : decode cX11_placeOf 4 = .ok (.iload_n 0, 1) := by decide +kernel
theorem dX11_placeOf_5 : decode cX11_placeOf 5 = .ok (.imul, 1) := by decide +kernel
theorem dX11_placeOf_6 : decode cX11_placeOf 6 = .ok (.bipush 7, 2) := by decide +kernel
theorem dX11_placeOf_8 : decode cX11_placeOf 8 = .ok (.iload_n 1, 1) := by decide +kernel
theorem dX11_placeOf_9 : decode cX11_placeOf 9 = .ok (.imul, 1) := by decide +kernel
theorem dX11_placeOf_10 : decode cX11_placeOf 10 = .ok (.iadd, 1) := by decide +kernel
theorem dX11_placeOf_11 : decode cX11_placeOf 11 = .ok (.iload_n 2, 1) := by decide +kernel
theorem dX11_placeOf_12 : decode cX11_placeOf 12 = .ok (.iadd, 1) := by decide +kernel
theorem dX11_placeOf_13 : decode cX11_placeOf 13 = .ok (.imul, 1) := by decide +kernel
theorem dX11_placeOf_14 : decode cX11_placeOf 14 = .ok (.iload_n 3, 1) := by decide +kernel
theorem dX11_placeOf_15 : decode cX11_placeOf 15 = .ok (.iadd, 1) := by decide +kernel
theorem dX11_placeOf_16 : decode cX11_placeOf 16 = .ok (.ireturn, 1) := by decide +kernel
def D_X11_placeOf (h : z_H) (l0 : Int32) (l1 : Int32) (l2 : Int32) (l3 : Int32) : Option (Int32 × z_H) :=
  some ((((25:Int32) * ((((49:Int32) * l0) + ((7:Int32) * l1)) + l2)) + l3), h)
set_option maxRecDepth 100000 in
set_option maxHeartbeats 4000000 in
theorem S_X11_placeOf {G : z_G} {l : Launch} {h : z_H} {l0 : Int32} {l1 : Int32} {l2 : Int32} {l3 : Int32} {res : (Int32 × z_H)} (e : D_X11_placeOf h l0 l1 l2 l3 = some res) : z_Meth G l 4 M_X11_placeOf [.int l0, .int l1, .int l2, .int l3] h res.2 (some (.int res.1)) := by
  refine z_Meth.of ck_X11_placeOf.2.2.2.2 (by simp [lg_sl, z_ci, z_cj, z_cr, z_cx]) ck_X11_placeOf.1 ?_
  rw [show lv_args 0 [.int l0, .int l1, .int l2, .int l3] = [(0, .int l0), (1, .int l1), (2, .int l2), (3, .int l3)] from rfl]
  unfold D_X11_placeOf at e
  refine z_bipush (v := 25) dX11_placeOf_0 (by decide) ?_
  refine z_bipush (v := 49) dX11_placeOf_2 (by decide) ?_
  refine z_iload_n 0 dX11_placeOf_4 rfl ?_
  refine z_imul dX11_placeOf_5 ?_
  refine z_bipush (v := 7) dX11_placeOf_6 (by decide) ?_
  refine z_iload_n 1 dX11_placeOf_8 rfl ?_
  refine z_imul dX11_placeOf_9 ?_
  refine z_iadd dX11_placeOf_10 ?_
  refine z_iload_n 2 dX11_placeOf_11 rfl ?_
  refine z_iadd dX11_placeOf_12 ?_
  refine z_imul dX11_placeOf_13 ?_
  refine z_iload_n 3 dX11_placeOf_14 rfl ?_
  refine z_iadd dX11_placeOf_15 ?_
  cases e
  exact z_iret dX11_placeOf_16 rfl
theorem dX11_layWays_0 : decode cX11_layWays 0 = .ok (.aload_n 0, 1) := by decide +kernel
theorem dX11_layWays_1 : decode cX11_layWays 1 = .ok (.iload_n 1, 1) := by decide +kernel
theorem dX11_layWays_2 : decode cX11_layWays 2 = .ok (.invokevirtual 473, 3) := by decide +kernel
theorem dX11_layWays_5 : decode cX11_layWays 5 = .ok (.iconst 0, 1) := by decide +kernel
theorem dX11_layWays_6 : decode cX11_layWays 6 = .ok (.istore 5, 2) := by decide +kernel
theorem dX11_layWays_8 : decode cX11_layWays 8 = .ok (.iload 5, 2) := by decide +kernel
theorem dX11_layWays_10 : decode cX11_layWays 10 = .ok (.iload_n 2, 1) := by decide +kernel
theorem dX11_layWays_11 : decode cX11_layWays 11 = .ok (.if_icmp .gt 269, 3) := by decide +kernel
theorem dX11_layWays_14 : decode cX11_layWays 14 = .ok (.iconst 0, 1) := by decide +kernel
theorem dX11_layWays_15 : decode cX11_layWays 15 = .ok (.istore 6, 2) := by decide +kernel
theorem dX11_layWays_17 : decode cX11_layWays 17 = .ok (.iload 6, 2) := by decide +kernel
theorem dX11_layWays_19 : decode cX11_layWays 19 = .ok (.iload_n 3, 1) := by decide +kernel
theorem dX11_layWays_20 : decode cX11_layWays 20 = .ok (.if_icmp .gt 254, 3) := by decide +kernel
theorem dX11_layWays_23 : decode cX11_layWays 23 = .ok (.iconst 0, 1) := by decide +kernel
theorem dX11_layWays_24 : decode cX11_layWays 24 = .ok (.istore 7, 2) := by decide +kernel
theorem dX11_layWays_26 : decode cX11_layWays 26 = .ok (.iload 7, 2) := by decide +kernel
theorem dX11_layWays_28 : decode cX11_layWays 28 = .ok (.iload 4, 2) := by decide +kernel
theorem dX11_layWays_30 : decode cX11_layWays 30 = .ok (.if_icmp .gt 238, 3) := by decide +kernel
theorem dX11_layWays_33 : decode cX11_layWays 33 = .ok (.aload_n 0, 1) := by decide +kernel
theorem dX11_layWays_34 : decode cX11_layWays 34 = .ok (.getfield 13, 3) := by decide +kernel
theorem dX11_layWays_37 : decode cX11_layWays 37 = .ok (.bipush 14, 2) := by decide +kernel
theorem dX11_layWays_39 : decode cX11_layWays 39 = .ok (.iload_n 1, 1) := by decide +kernel
theorem dX11_layWays_40 : decode cX11_layWays 40 = .ok (.iadd, 1) := by decide +kernel
theorem dX11_layWays_41 : decode cX11_layWays 41 = .ok (.iaload, 1) := by decide +kernel
theorem dX11_layWays_42 : decode cX11_layWays 42 = .ok (.iload 7, 2) := by decide +kernel
theorem dX11_layWays_44 : decode cX11_layWays 44 = .ok (.iadd, 1) := by decide +kernel
theorem dX11_layWays_45 : decode cX11_layWays 45 = .ok (.iconst 3, 1) := by decide +kernel
theorem dX11_layWays_46 : decode cX11_layWays 46 = .ok (.iload 6, 2) := by decide +kernel
theorem dX11_layWays_48 : decode cX11_layWays 48 = .ok (.imul, 1) := by decide +kernel
theorem dX11_layWays_49 : decode cX11_layWays 49 = .ok (.iadd, 1) := by decide +kernel
theorem dX11_layWays_50 : decode cX11_layWays 50 = .ok (.iconst 4, 1) := by decide +kernel
theorem dX11_layWays_51 : decode cX11_layWays 51 = .ok (.irem, 1) := by decide +kernel
theorem dX11_layWays_52 : decode cX11_layWays 52 = .ok (.istore 8, 2) := by decide +kernel
theorem dX11_layWays_54 : decode cX11_layWays 54 = .ok (.iconst 0, 1) := by decide +kernel
theorem dX11_layWays_55 : decode cX11_layWays 55 = .ok (.istore 9, 2) := by decide +kernel
theorem dX11_layWays_57 : decode cX11_layWays 57 = .ok (.iload 9, 2) := by decide +kernel
theorem dX11_layWays_59 : decode cX11_layWays 59 = .ok (.bipush 25, 2) := by decide +kernel
theorem dX11_layWays_61 : decode cX11_layWays 61 = .ok (.if_icmp .ge 123, 3) := by decide +kernel
theorem dX11_layWays_64 : decode cX11_layWays 64 = .ok (.iload 5, 2) := by decide +kernel
theorem dX11_layWays_66 : decode cX11_layWays 66 = .ok (.iload 6, 2) := by decide +kernel
theorem dX11_layWays_68 : decode cX11_layWays 68 = .ok (.iadd, 1) := by decide +kernel
theorem dX11_layWays_69 : decode cX11_layWays 69 = .ok (.iload 7, 2) := by decide +kernel
theorem dX11_layWays_71 : decode cX11_layWays 71 = .ok (.iadd, 1) := by decide +kernel
theorem dX11_layWays_72 : decode cX11_layWays 72 = .ok (.ifCond .ne 21, 3) := by decide +kernel
theorem dX11_layWays_75 : decode cX11_layWays 75 = .ok (.iload 9, 2) := by decide +kernel
theorem dX11_layWays_77 : decode cX11_layWays 77 = .ok (.aload_n 0, 1) := by decide +kernel
theorem dX11_layWays_78 : decode cX11_layWays 78 = .ok (.getfield 13, 3) := by decide +kernel
theorem dX11_layWays_81 : decode cX11_layWays 81 = .ok (.bipush 8, 2) := by decide +kernel
theorem dX11_layWays_83 : decode cX11_layWays 83 = .ok (.iload_n 1, 1) := by decide +kernel
theorem dX11_layWays_84 : decode cX11_layWays 84 = .ok (.iadd, 1) := by decide +kernel
theorem dX11_layWays_85 : decode cX11_layWays 85 = .ok (.iaload, 1) := by decide +kernel
theorem dX11_layWays_86 : decode cX11_layWays 86 = .ok (.if_icmp .ne 7, 3) := by decide +kernel
theorem dX11_layWays_89 : decode cX11_layWays 89 = .ok (.lconst 1, 1) := by decide +kernel
theorem dX11_layWays_90 : decode cX11_layWays 90 = .ok (.goto 4, 3) := by decide +kernel
theorem dX11_layWays_93 : decode cX11_layWays 93 = .ok (.lconst 0, 1) := by decide +kernel
theorem dX11_layWays_94 : decode cX11_layWays 94 = .ok (.lstore 10, 2) := by decide +kernel
theorem dX11_layWays_96 : decode cX11_layWays 96 = .ok (.lload 10, 2) := by decide +kernel
theorem dX11_layWays_98 : decode cX11_layWays 98 = .ok (.iload 6, 2) := by decide +kernel
theorem dX11_layWays_100 : decode cX11_layWays 100 = .ok (.ifCond .le 24, 3) := by decide +kernel
theorem dX11_layWays_103 : decode cX11_layWays 103 = .ok (.aload_n 0, 1) := by decide +kernel
theorem dX11_layWays_104 : decode cX11_layWays 104 = .ok (.getfield 117, 3) := by decide +kernel
theorem dX11_layWays_107 : decode cX11_layWays 107 = .ok (.iload 5, 2) := by decide +kernel
theorem dX11_layWays_109 : decode cX11_layWays 109 = .ok (.iload 6, 2) := by decide +kernel
theorem dX11_layWays_111 : decode cX11_layWays 111 = .ok (.iconst 1, 1) := by decide +kernel
theorem dX11_layWays_112 : decode cX11_layWays 112 = .ok (.isub, 1) := by decide +kernel
theorem dX11_layWays_113 : decode cX11_layWays 113 = .ok (.iload 7, 2) := by decide +kernel
theorem dX11_layWays_115 : decode cX11_layWays 115 = .ok (.iload 9, 2) := by decide +kernel
theorem dX11_layWays_117 : decode cX11_layWays 117 = .ok (.invokestatic 476, 3) := by decide +kernel
theorem dX11_layWays_120 : decode cX11_layWays 120 = .ok (.laload, 1) := by decide +kernel
theorem dX11_layWays_121 : decode cX11_layWays 121 = .ok (.goto 4, 3) := by decide +kernel
theorem dX11_layWays_124 : decode cX11_layWays 124 = .ok (.lconst 0, 1) := by decide +kernel
theorem dX11_layWays_125 : decode cX11_layWays 125 = .ok (.ladd, 1) := by decide +kernel
theorem dX11_layWays_126 : decode cX11_layWays 126 = .ok (.lstore 10, 2) := by decide +kernel
theorem dX11_layWays_128 : decode cX11_layWays 128 = .ok (.lload 10, 2) := by decide +kernel
theorem dX11_layWays_130 : decode cX11_layWays 130 = .ok (.iload 7, 2) := by decide +kernel
theorem dX11_layWays_132 : decode cX11_layWays 132 = .ok (.ifCond .le 24, 3) := by decide +kernel
theorem dX11_layWays_135 : decode cX11_layWays 135 = .ok (.aload_n 0, 1) := by decide +kernel
theorem dX11_layWays_136 : decode cX11_layWays 136 = .ok (.getfield 117, 3) := by decide +kernel
theorem dX11_layWays_139 : decode cX11_layWays 139 = .ok (.iload 5, 2) := by decide +kernel
theorem dX11_layWays_141 : decode cX11_layWays 141 = .ok (.iload 6, 2) := by decide +kernel
theorem dX11_layWays_143 : decode cX11_layWays 143 = .ok (.iload 7, 2) := by decide +kernel
theorem dX11_layWays_145 : decode cX11_layWays 145 = .ok (.iconst 1, 1) := by decide +kernel
theorem dX11_layWays_146 : decode cX11_layWays 146 = .ok (.isub, 1) := by decide +kernel
theorem dX11_layWays_147 : decode cX11_layWays 147 = .ok (.iload 9, 2) := by decide +kernel
theorem dX11_layWays_149 : decode cX11_layWays 149 = .ok (.invokestatic 476, 3) := by decide +kernel
theorem dX11_layWays_152 : decode cX11_layWays 152 = .ok (.laload, 1) := by decide +kernel
theorem dX11_layWays_153 : decode cX11_layWays 153 = .ok (.goto 4, 3) := by decide +kernel
theorem dX11_layWays_156 : decode cX11_layWays 156 = .ok (.lconst 0, 1) := by decide +kernel
theorem dX11_layWays_157 : decode cX11_layWays 157 = .ok (.ladd, 1) := by decide +kernel
theorem dX11_layWays_158 : decode cX11_layWays 158 = .ok (.lstore 10, 2) := by decide +kernel
theorem dX11_layWays_160 : decode cX11_layWays 160 = .ok (.aload_n 0, 1) := by decide +kernel
theorem dX11_layWays_161 : decode cX11_layWays 161 = .ok (.getfield 117, 3) := by decide +kernel
theorem dX11_layWays_164 : decode cX11_layWays 164 = .ok (.iload 5, 2) := by decide +kernel
theorem dX11_layWays_166 : decode cX11_layWays 166 = .ok (.iload 6, 2) := by decide +kernel
theorem dX11_layWays_168 : decode cX11_layWays 168 = .ok (.iload 7, 2) := by decide +kernel
theorem dX11_layWays_170 : decode cX11_layWays 170 = .ok (.iload 9, 2) := by decide +kernel
theorem dX11_layWays_172 : decode cX11_layWays 172 = .ok (.invokestatic 476, 3) := by decide +kernel
theorem dX11_layWays_175 : decode cX11_layWays 175 = .ok (.lload 10, 2) := by decide +kernel
theorem dX11_layWays_177 : decode cX11_layWays 177 = .ok (.lastore, 1) := by decide +kernel
theorem dX11_layWays_178 : decode cX11_layWays 178 = .ok (.iinc 9 1, 3) := by decide +kernel
theorem dX11_layWays_181 : decode cX11_layWays 181 = .ok (.goto (-124), 3) := by decide +kernel
theorem dX11_layWays_184 : decode cX11_layWays 184 = .ok (.iconst 0, 1) := by decide +kernel
theorem dX11_layWays_185 : decode cX11_layWays 185 = .ok (.istore 9, 2) := by decide +kernel
theorem dX11_layWays_187 : decode cX11_layWays 187 = .ok (.iload 9, 2) := by decide +kernel
theorem dX11_layWays_189 : decode cX11_layWays 189 = .ok (.bipush 25, 2) := by decide +kernel
theorem dX11_layWays_191 : decode cX11_layWays 191 = .ok (.if_icmp .ge 71, 3) := by decide +kernel
theorem dX11_layWays_194 : decode cX11_layWays 194 = .ok (.iload 5, 2) := by decide +kernel
theorem dX11_layWays_196 : decode cX11_layWays 196 = .ok (.ifCond .le 66, 3) := by decide +kernel
theorem dX11_layWays_199 : decode cX11_layWays 199 = .ok (.aload_n 0, 1) := by decide +kernel
theorem dX11_layWays_200 : decode cX11_layWays 200 = .ok (.getfield 114, 3) := by decide +kernel
theorem dX11_layWays_203 : decode cX11_layWays 203 = .ok (.iconst 4, 1) := by decide +kernel
theorem dX11_layWays_204 : decode cX11_layWays 204 = .ok (.iload 9, 2) := by decide +kernel
theorem dX11_layWays_206 : decode cX11_layWays 206 = .ok (.imul, 1) := by decide +kernel
theorem dX11_layWays_207 : decode cX11_layWays 207 = .ok (.iload 8, 2) := by decide +kernel
theorem dX11_layWays_209 : decode cX11_layWays 209 = .ok (.iadd, 1) := by decide +kernel
theorem dX11_layWays_210 : decode cX11_layWays 210 = .ok (.iaload, 1) := by decide +kernel
theorem dX11_layWays_211 : decode cX11_layWays 211 = .ok (.istore 10, 2) := by decide +kernel
theorem dX11_layWays_213 : decode cX11_layWays 213 = .ok (.iload 10, 2) := by decide +kernel
theorem dX11_layWays_215 : decode cX11_layWays 215 = .ok (.iconst (-1), 1) := by decide +kernel
theorem dX11_layWays_216 : decode cX11_layWays 216 = .ok (.if_icmp .eq 40, 3) := by decide +kernel
theorem dX11_layWays_219 : decode cX11_layWays 219 = .ok (.aload_n 0, 1) := by decide +kernel
theorem dX11_layWays_220 : decode cX11_layWays 220 = .ok (.getfield 117, 3) := by decide +kernel
theorem dX11_layWays_223 : decode cX11_layWays 223 = .ok (.iload 5, 2) := by decide +kernel
theorem dX11_layWays_225 : decode cX11_layWays 225 = .ok (.iload 6, 2) := by decide +kernel
theorem dX11_layWays_227 : decode cX11_layWays 227 = .ok (.iload 7, 2) := by decide +kernel
theorem dX11_layWays_229 : decode cX11_layWays 229 = .ok (.iload 10, 2) := by decide +kernel
theorem dX11_layWays_231 : decode cX11_layWays 231 = .ok (.invokestatic 476, 3) := by decide +kernel
theorem dX11_layWays_234 : decode cX11_layWays 234 = .ok (.dup2, 1) := by decide +kernel
theorem dX11_layWays_235 : decode cX11_layWays 235 = .ok (.laload, 1) := by decide +kernel
theorem dX11_layWays_236 : decode cX11_layWays 236 = .ok (.aload_n 0, 1) := by decide +kernel
theorem dX11_layWays_237 : decode cX11_layWays 237 = .ok (.getfield 117, 3) := by decide +kernel
theorem dX11_layWays_240 : decode cX11_layWays 240 = .ok (.iload 5, 2) := by decide +kernel
theorem dX11_layWays_242 : decode cX11_layWays 242 = .ok (.iconst 1, 1) := by decide +kernel
theorem dX11_layWays_243 : decode cX11_layWays 243 = .ok (.isub, 1) := by decide +kernel
theorem dX11_layWays_244 : decode cX11_layWays 244 = .ok (.iload 6, 2) := by decide +kernel
theorem dX11_layWays_246 : decode cX11_layWays 246 = .ok (.iload 7, 2) := by decide +kernel
theorem dX11_layWays_248 : decode cX11_layWays 248 = .ok (.iload 9, 2) := by decide +kernel
theorem dX11_layWays_250 : decode cX11_layWays 250 = .ok (.invokestatic 476, 3) := by decide +kernel
theorem dX11_layWays_253 : decode cX11_layWays 253 = .ok (.laload, 1) := by decide +kernel
theorem dX11_layWays_254 : decode cX11_layWays 254 = .ok (.ladd, 1) := by decide +kernel
theorem dX11_layWays_255 : decode cX11_layWays 255 = .ok (.lastore, 1) := by decide +kernel
theorem dX11_layWays_256 : decode cX11_layWays 256 = .ok (.iinc 9 1, 3) := by decide +kernel
theorem dX11_layWays_259 : decode cX11_layWays 259 = .ok (.goto (-72), 3) := by decide +kernel
theorem dX11_layWays_262 : decode cX11_layWays 262 = .ok (.iinc 7 1, 3) := by decide +kernel
theorem dX11_layWays_265 : decode cX11_layWays 265 = .ok (.goto (-239), 3) := by decide +kernel
theorem dX11_layWays_268 : decode cX11_layWays 268 = .ok (.iinc 6 1, 3) := by decide +kernel
theorem dX11_layWays_271 : decode cX11_layWays 271 = .ok (.goto (-254), 3) := by decide +kernel
theorem dX11_layWays_274 : decode cX11_layWays 274 = .ok (.iinc 5 1, 3) := by decide +kernel
theorem dX11_layWays_277 : decode cX11_layWays 277 = .ok (.goto (-269), 3) := by decide +kernel
theorem dX11_layWays_280 : decode cX11_layWays 280 = .ok (.return_, 1) := by decide +kernel
def D_X11_layWays_262 (k8 : z_H → Option Nat → Int32 → Int32 → Int32 → Int32 → Int32 → Option z_H) (k17 : z_H → Option Nat → Int32 → Int32 → Int32 → Int32 → Int32 → Int32 → Option z_H) (k26 : z_H → Option Nat → Int32 → Int32 → Int32 → Int32 → Int32 → Int32 → Int32 → Option z_H) (h : z_H) (l0 : Option Nat) (l1 : Int32) (l2 : Int32) (l3 : Int32) (l4 : Int32) (l5 : Int32) (l6 : Int32) (l7 : Int32) : Option z_H :=
  (some (l7 + (1:Int32))).bind fun x2172 =>
  k26 h l0 l1 l2 l3 l4 l5 l6 x2172
set_option maxRecDepth 100000 in
set_option maxHeartbeats 4000000 in
theorem S_X11_layWays_262 {G : z_G} {l : Launch} {k8 : z_H → Option Nat → Int32 → Int32 → Int32 → Int32 → Int32 → Option z_H} {k17 : z_H → Option Nat → Int32 → Int32 → Int32 → Int32 → Int32 → Int32 → Option z_H} {k26 : z_H → Option Nat → Int32 → Int32 → Int32 → Int32 → Int32 → Int32 → Int32 → Option z_H} (hk8 : ∀ {h : z_H} {l0 : Option Nat} {l1 : Int32} {l2 : Int32} {l3 : Int32} {l4 : Int32} {l5 : Int32} {res : z_H}, k8 h l0 l1 l2 l3 l4 l5 = some res → z_Run G l 11 M_X11_layWays 8 [(0, z_r l0), (1, .int l1), (2, .int l2), (3, .int l3), (4, .int l4), (5, .int l5)] [] h res none) (hk17 : ∀ {h : z_H} {l0 : Option Nat} {l1 : Int32} {l2 : Int32} {l3 : Int32} {l4 : Int32} {l5 : Int32} {l6 : Int32} {res : z_H}, k17 h l0 l1 l2 l3 l4 l5 l6 = some res → z_Run G l 11 M_X11_layWays 17 [(0, z_r l0), (1, .int l1), (2, .int l2), (3, .int l3), (4, .int l4), (5, .int l5), (6, .int l6)] [] h res none) (hk26 : ∀ {h : z_H} {l0 : Option Nat} {l1 : Int32} {l2 : Int32} {l3 : Int32} {l4 : Int32} {l5 : Int32} {l6 : Int32} {l7 : Int32} {res : z_H}, k26 h l0 l1 l2 l3 l4 l5 l6 l7 = some res → z_Run G l 11 M_X11_layWays 26 [(0, z_r l0), (1, .int l1), (2, .int l2), (3, .int l3), (4, .int l4), (5, .int l5), (6, .int l6), (7, .int l7)] [] h res none) {h : z_H} {l0 : Option Nat} {l1 : Int32} {l2 : Int32} {l3 : Int32} {l4 : Int32} {l5 : Int32} {l6 : Int32} {l7 : Int32} {res : z_H} (e : D_X11_layWays_262 k8 k17 k26 h l0 l1 l2 l3 l4 l5 l6 l7 = some res) : z_Run G l 11 M_X11_layWays 262 [(0, z_r l0), (1, .int l1), (2, .int l2), (3, .int l3), (4, .int l4), (5, .int l5), (6, .int l6), (7, .int l7)] [] h res none := by
  unfold D_X11_layWays_262 at e
  replace e := z_bd e; obtain ⟨x2172, ex2172, e⟩ := e
  refine z_iinc (q := 7) (v := x2172) (L' := [(7, .int x2172), (0, z_r l0), (1, .int l1), (2, .int l2), (3, .int l3), (4, .int l4), (5, .int l5), (6, .int l6)]) dX11_layWays_262 rfl (Option.some.inj ex2172) (by decide) rfl ?_
  refine z_goto (tgt := 26) dX11_layWays_265 (by decide) ?_
  exact z_weak [1, 2, 3, 4, 5, 6, 7, 0] rfl (hk26 e)
def D_X11_layWays_256 (k8 : z_H → Option Nat → Int32 → Int32 → Int32 → Int32 → Int32 → Option z_H) (k17 : z_H → Option Nat → Int32 → Int32 → Int32 → Int32 → Int32 → Int32 → Option z_H) (k26 : z_H → Option Nat → Int32 → Int32 → Int32 → Int32 → Int32 → Int32 → Int32 → Option z_H) (k187 : z_H → Option Nat → Int32 → Int32 → Int32 → Int32 → Int32 → Int32 → Int32 → Int32 → Int32 → Option z_H) (h : z_H) (l0 : Option Nat) (l1 : Int32) (l2 : Int32) (l3 : Int32) (l4 : Int32) (l5 : Int32) (l6 : Int32) (l7 : Int32) (l8 : Int32) (l9 : Int32) : Option z_H :=
  (some (l9 + (1:Int32))).bind fun x2173 =>
  k187 h l0 l1 l2 l3 l4 l5 l6 l7 l8 x2173
set_option maxRecDepth 100000 in
set_option maxHeartbeats 4000000 in
theorem S_X11_layWays_256 {G : z_G} {l : Launch} {k8 : z_H → Option Nat → Int32 → Int32 → Int32 → Int32 → Int32 → Option z_H} {k17 : z_H → Option Nat → Int32 → Int32 → Int32 → Int32 → Int32 → Int32 → Option z_H} {k26 : z_H → Option Nat → Int32 → Int32 → Int32 → Int32 → Int32 → Int32 → Int32 → Option z_H} {k187 : z_H → Option Nat → Int32 → Int32 → Int32 → Int32 → Int32 → Int32 → Int32 → Int32 → Int32 → Option z_H} (hk8 : ∀ {h : z_H} {l0 : Option Nat} {l1 : Int32} {l2 : Int32} {l3 : Int32} {l4 : Int32} {l5 : Int32} {res : z_H}, k8 h l0 l1 l2 l3 l4 l5 = some res → z_Run G l 11 M_X11_layWays 8 [(0, z_r l0), (1, .int l1), (2, .int l2), (3, .int l3), (4, .int l4), (5, .int l5)] [] h res none) (hk17 : ∀ {h : z_H} {l0 : Option Nat} {l1 : Int32} {l2 : Int32} {l3 : Int32} {l4 : Int32} {l5 : Int32} {l6 : Int32} {res : z_H}, k17 h l0 l1 l2 l3 l4 l5 l6 = some res → z_Run G l 11 M_X11_layWays 17 [(0, z_r l0), (1, .int l1), (2, .int l2), (3, .int l3), (4, .int l4), (5, .int l5), (6, .int l6)] [] h res none) (hk26 : ∀ {h : z_H} {l0 : Option Nat} {l1 : Int32} {l2 : Int32} {l3 : Int32} {l4 : Int32} {l5 : Int32} {l6 : Int32} {l7 : Int32} {res : z_H}, k26 h l0 l1 l2 l3 l4 l5 l6 l7 = some res → z_Run G l 11 M_X11_layWays 26 [(0, z_r l0), (1, .int l1), (2, .int l2), (3, .int l3), (4, .int l4), (5, .int l5), (6, .int l6), (7, .int l7)] [] h res none) (hk187 : ∀ {h : z_H} {l0 : Option Nat} {l1 : Int32} {l2 : Int32} {l3 : Int32} {l4 : Int32} {l5 : Int32} {l6 : Int32} {l7 : Int32} {l8 : Int32} {l9 : Int32} {res : z_H}, k187 h l0 l1 l2 l3 l4 l5 l6 l7 l8 l9 = some res → z_Run G l 11 M_X11_layWays 187 [(0, z_r l0), (1, .int l1), (2, .int l2), (3, .int l3), (4, .int l4), (5, .int l5), (6, .int l6), (7, .int l7), (8, .int l8), (9, .int l9)] [] h res none) {h : z_H} {l0 : Option Nat} {l1 : Int32} {l2 : Int32} {l3 : Int32} {l4 : Int32} {l5 : Int32} {l6 : Int32} {l7 : Int32} {l8 : Int32} {l9 : Int32} {res : z_H} (e : D_X11_layWays_256 k8 k17 k26 k187 h l0 l1 l2 l3 l4 l5 l6 l7 l8 l9 = some res) : z_Run G l 11 M_X11_layWays 256 [(0, z_r l0), (1, .int l1), (2, .int l2), (3, .int l3), (4, .int l4), (5, .int l5), (6, .int l6), (7, .int l7), (8, .int l8), (9, .int l9)] [] h res none := by
  unfold D_X11_layWays_256 at e
  replace e := z_bd e; obtain ⟨x2173, ex2173, e⟩ := e
  refine z_iinc (q := 9) (v := x2173) (L' := [(9, .int x2173), (0, z_r l0), (1, .int l1), (2, .int l2), (3, .int l3), (4, .int l4), (5, .int l5), (6, .int l6), (7, .int l7), (8, .int l8)]) dX11_layWays_256 rfl (Option.some.inj ex2173) (by decide) rfl ?_
  refine z_goto (tgt := 187) dX11_layWays_259 (by decide) ?_
  exact z_weak [1, 2, 3, 4, 5, 6, 7, 8, 9, 0] rfl (hk187 e)
def D_X11_layWays_187b (k8 : z_H → Option Nat → Int32 → Int32 → Int32 → Int32 → Int32 → Option z_H) (k17 : z_H → Option Nat → Int32 → Int32 → Int32 → Int32 → Int32 → Int32 → Option z_H) (k26 : z_H → Option Nat → Int32 → Int32 → Int32 → Int32 → Int32 → Int32 → Int32 → Option z_H) (k187 : z_H → Option Nat → Int32 → Int32 → Int32 → Int32 → Int32 → Int32 → Int32 → Int32 → Int32 → Option z_H) (h : z_H) (l0 : Option Nat) (l1 : Int32) (l2 : Int32) (l3 : Int32) (l4 : Int32) (l5 : Int32) (l6 : Int32) (l7 : Int32) (l8 : Int32) (l9 : Int32) : Option z_H :=
  if (25:Int32) ≤ l9 then
    D_X11_layWays_262  k8 k17 k26 h l0 l1 l2 l3 l4 l5 l6 l7
  else
    if l5 ≤ 0 then
      D_X11_layWays_262  k8 k17 k26 h l0 l1 l2 l3 l4 l5 l6 l7
    else
      (z_gQ 11 h l0 41).bind fun x2176 =>
      (z_aI .int h x2176 (((4:Int32) * l9) + l8)).bind fun x2177 =>
      if x2177 = (-1:Int32) then
        D_X11_layWays_256  k8 k17 k26 k187 h l0 l1 l2 l3 l4 l5 l6 l7 l8 l9
      else
        (z_gQ 11 h l0 42).bind fun x2179 =>
        (D_X11_placeOf  h l5 l6 l7 x2177).bind fun p2180 =>
        (z_aJ p2180.2 x2179 p2180.1).bind fun x2181 =>
        (z_gQ 11 p2180.2 l0 42).bind fun x2182 =>
        (D_X11_placeOf  p2180.2 (l5 - (1:Int32)) l6 l7 l9).bind fun p2183 =>
        (z_aJ p2183.2 x2182 p2183.1).bind fun x2184 =>
        (z_sJ p2183.2 x2179 p2180.1 (x2181 + x2184)).bind fun h2185 =>
        D_X11_layWays_256  k8 k17 k26 k187 h2185 l0 l1 l2 l3 l4 l5 l6 l7 l8 l9
def D_X11_layWays_187 (k8 : z_H → Option Nat → Int32 → Int32 → Int32 → Int32 → Int32 → Option z_H) (k17 : z_H → Option Nat → Int32 → Int32 → Int32 → Int32 → Int32 → Int32 → Option z_H) (k26 : z_H → Option Nat → Int32 → Int32 → Int32 → Int32 → Int32 → Int32 → Int32 → Option z_H) (n : Nat) : z_H → Option Nat → Int32 → Int32 → Int32 → Int32 → Int32 → Int32 → Int32 → Int32 → Int32 → Option z_H := Nat.rec (motive := fun _ => z_H → Option Nat → Int32 → Int32 → Int32 → Int32 → Int32 → Int32 → Int32 → Int32 → Int32 → Option z_H) (fun _ _ _ _ _ _ _ _ _ _ _ => none) (fun _ k => D_X11_layWays_187b k8 k17 k26 k) n
set_option maxRecDepth 100000 in
set_option maxHeartbeats 4000000 in
theorem S_X11_layWays_187 {G : z_G} {l : Launch} {k8 : z_H → Option Nat → Int32 → Int32 → Int32 → Int32 → Int32 → Option z_H} {k17 : z_H → Option Nat → Int32 → Int32 → Int32 → Int32 → Int32 → Int32 → Option z_H} {k26 : z_H → Option Nat → Int32 → Int32 → Int32 → Int32 → Int32 → Int32 → Int32 → Option z_H} (hk8 : ∀ {h : z_H} {l0 : Option Nat} {l1 : Int32} {l2 : Int32} {l3 : Int32} {l4 : Int32} {l5 : Int32} {res : z_H}, k8 h l0 l1 l2 l3 l4 l5 = some res → z_Run G l 11 M_X11_layWays 8 [(0, z_r l0), (1, .int l1), (2, .int l2), (3, .int l3), (4, .int l4), (5, .int l5)] [] h res none) (hk17 : ∀ {h : z_H} {l0 : Option Nat} {l1 : Int32} {l2 : Int32} {l3 : Int32} {l4 : Int32} {l5 : Int32} {l6 : Int32} {res : z_H}, k17 h l0 l1 l2 l3 l4 l5 l6 = some res → z_Run G l 11 M_X11_layWays 17 [(0, z_r l0), (1, .int l1), (2, .int l2), (3, .int l3), (4, .int l4), (5, .int l5), (6, .int l6)] [] h res none) (hk26 : ∀ {h : z_H} {l0 : Option Nat} {l1 : Int32} {l2 : Int32} {l3 : Int32} {l4 : Int32} {l5 : Int32} {l6 : Int32} {l7 : Int32} {res : z_H}, k26 h l0 l1 l2 l3 l4 l5 l6 l7 = some res → z_Run G l 11 M_X11_layWays 26 [(0, z_r l0), (1, .int l1), (2, .int l2), (3, .int l3), (4, .int l4), (5, .int l5), (6, .int l6), (7, .int l7)] [] h res none) (n : Nat) : ∀ {h : z_H} {l0 : Option Nat} {l1 : Int32} {l2 : Int32} {l3 : Int32} {l4 : Int32} {l5 : Int32} {l6 : Int32} {l7 : Int32} {l8 : Int32} {l9 : Int32} {res : z_H}, D_X11_layWays_187 k8 k17 k26 n h l0 l1 l2 l3 l4 l5 l6 l7 l8 l9 = some res → z_Run G l 11 M_X11_layWays 187 [(0, z_r l0), (1, .int l1), (2, .int l2), (3, .int l3), (4, .int l4), (5, .int l5), (6, .int l6), (7, .int l7), (8, .int l8), (9, .int l9)] [] h res none := by
  induction n with
  | zero => intro h l0 l1 l2 l3 l4 l5 l6 l7 l8 l9 res e; cases e
  | succ n hk187 =>
    intro h l0 l1 l2 l3 l4 l5 l6 l7 l8 l9 res e
    replace e : D_X11_layWays_187b k8 k17 k26 (D_X11_layWays_187 k8 k17 k26 n) h l0 l1 l2 l3 l4 l5 l6 l7 l8 l9 = some res := e
    unfold D_X11_layWays_187b at e
    refine z_iload 9 dX11_layWays_187 rfl ?_
    refine z_bipush (v := 25) dX11_layWays_189 (by decide) ?_
    refine z_icmp_ge (tgt := 262) dX11_layWays_191 (by decide) (fun c2174 => ?_) (fun c2174 => ?_)
    · rw [if_pos c2174] at e
      exact z_weak [0, 1, 2, 3, 4, 5, 6, 7] rfl (S_X11_layWays_262  @hk8 @hk17 @hk26 e)
    · rw [if_neg c2174] at e
      refine z_iload 5 dX11_layWays_194 rfl ?_
      refine z_if_le (tgt := 262) dX11_layWays_196 (by decide) (fun c2175 => ?_) (fun c2175 => ?_)
      · rw [if_pos c2175] at e
        exact z_weak [0, 1, 2, 3, 4, 5, 6, 7] rfl (S_X11_layWays_262  @hk8 @hk17 @hk26 e)
      · rw [if_neg c2175] at e
        refine z_aload_n 0 dX11_layWays_199 rfl ?_
        replace e := z_bd e; obtain ⟨x2176, ex2176, e⟩ := e
        refine z_getQ ex2176 lk_X11_114 dX11_layWays_200 ?_
        refine z_iconst (v := 4) dX11_layWays_203 (by decide) ?_
        refine z_iload 9 dX11_layWays_204 rfl ?_
        refine z_imul dX11_layWays_206 ?_
        refine z_iload 8 dX11_layWays_207 rfl ?_
        refine z_iadd dX11_layWays_209 ?_
        replace e := z_bd e; obtain ⟨x2177, ex2177, e⟩ := e
        refine z_iald ex2177 dX11_layWays_210 ?_
        refine z_istore (L' := [(10, .int x2177), (0, z_r l0), (1, .int l1), (2, .int l2), (3, .int l3), (4, .int l4), (5, .int l5), (6, .int l6), (7, .int l7), (8, .int l8), (9, .int l9)]) dX11_layWays_211 (by decide) rfl ?_
        refine z_iload 0 dX11_layWays_213 rfl ?_
        refine z_iconst (v := -1) dX11_layWays_215 (by decide) ?_
        refine z_icmp_eq (tgt := 256) dX11_layWays_216 (by decide) (fun c2178 => ?_) (fun c2178 => ?_)
        · rw [if_pos c2178] at e
          exact z_weak [1, 2, 3, 4, 5, 6, 7, 8, 9, 10] rfl (S_X11_layWays_256  @hk8 @hk17 @hk26 @hk187 e)
        · rw [if_neg c2178] at e
          refine z_aload_n 1 dX11_layWays_219 rfl ?_
          replace e := z_bd e; obtain ⟨x2179, ex2179, e⟩ := e
          refine z_getQ ex2179 lk_X11_117 dX11_layWays_220 ?_
          refine z_iload 6 dX11_layWays_223 rfl ?_
          refine z_iload 7 dX11_layWays_225 rfl ?_
          refine z_iload 8 dX11_layWays_227 rfl ?_
          refine z_iload 0 dX11_layWays_229 rfl ?_
          replace e := z_bd e; obtain ⟨p2180, ep2180, e⟩ := e
          refine z_cS [.int l5, .int l6, .int l7, .int x2177] (S_X11_placeOf  ep2180) ml_X11_476 ck_X11_placeOf st_X11_placeOf dX11_layWays_231 (by decide) rfl (by simp [z_ci, z_cj, z_cr, z_cx]) rfl ?_
          refine z_dup2 dX11_layWays_234 rfl (z_cr _) ?_
          replace e := z_bd e; obtain ⟨x2181, ex2181, e⟩ := e
          refine z_lald ex2181 dX11_layWays_235 ?_
          refine z_aload_n 1 dX11_layWays_236 rfl ?_
          replace e := z_bd e; obtain ⟨x2182, ex2182, e⟩ := e
          refine z_getQ ex2182 lk_X11_117 dX11_layWays_237 ?_
          refine z_iload 6 dX11_layWays_240 rfl ?_
          refine z_iconst (v := 1) dX11_layWays_242 (by decide) ?_
          refine z_isub dX11_layWays_243 ?_
          refine z_iload 7 dX11_layWays_244 rfl ?_
          refine z_iload 8 dX11_layWays_246 rfl ?_
          refine z_iload 10 dX11_layWays_248 rfl ?_
          replace e := z_bd e; obtain ⟨p2183, ep2183, e⟩ := e
          refine z_cS [.int (l5 - (1:Int32)), .int l6, .int l7, .int l9] (S_X11_placeOf  ep2183) ml_X11_476 ck_X11_placeOf st_X11_placeOf dX11_layWays_250 (by decide) rfl (by simp [z_ci, z_cj, z_cr, z_cx]) rfl ?_
          replace e := z_bd e; obtain ⟨x2184, ex2184, e⟩ := e
          refine z_lald ex2184 dX11_layWays_253 ?_
          refine z_ladd dX11_layWays_254 ?_
          replace e := z_bd e; obtain ⟨h2185, eh2185, e⟩ := e
          refine z_last eh2185 dX11_layWays_255 ?_
          exact z_weak [1, 2, 3, 4, 5, 6, 7, 8, 9, 10] rfl (S_X11_layWays_256  @hk8 @hk17 @hk26 @hk187 e)
def D_X11_layWays_157 (k8 : z_H → Option Nat → Int32 → Int32 → Int32 → Int32 → Int32 → Option z_H) (k17 : z_H → Option Nat → Int32 → Int32 → Int32 → Int32 → Int32 → Int32 → Option z_H) (k26 : z_H → Option Nat → Int32 → Int32 → Int32 → Int32 → Int32 → Int32 → Int32 → Option z_H) (k57 : z_H → Option Nat → Int32 → Int32 → Int32 → Int32 → Int32 → Int32 → Int32 → Int32 → Int32 → Option z_H) (h : z_H) (l0 : Option Nat) (l1 : Int32) (l2 : Int32) (l3 : Int32) (l4 : Int32) (l5 : Int32) (l6 : Int32) (l7 : Int32) (l8 : Int32) (l9 : Int32) (s0 : Int64) (s1 : Int64) : Option z_H :=
  (some (s0 + s1)).bind fun x2186 =>
  (z_gQ 11 h l0 42).bind fun x2187 =>
  (D_X11_placeOf  h l5 l6 l7 l9).bind fun p2188 =>
  (z_sJ p2188.2 x2187 p2188.1 x2186).bind fun h2189 =>
  (some (l9 + (1:Int32))).bind fun x2190 =>
  k57 h2189 l0 l1 l2 l3 l4 l5 l6 l7 l8 x2190
set_option maxRecDepth 100000 in
set_option maxHeartbeats 4000000 in
theorem S_X11_layWays_157 {G : z_G} {l : Launch} {k8 : z_H → Option Nat → Int32 → Int32 → Int32 → Int32 → Int32 → Option z_H} {k17 : z_H → Option Nat → Int32 → Int32 → Int32 → Int32 → Int32 → Int32 → Option z_H} {k26 : z_H → Option Nat → Int32 → Int32 → Int32 → Int32 → Int32 → Int32 → Int32 → Option z_H} {k57 : z_H → Option Nat → Int32 → Int32 → Int32 → Int32 → Int32 → Int32 → Int32 → Int32 → Int32 → Option z_H} (hk8 : ∀ {h : z_H} {l0 : Option Nat} {l1 : Int32} {l2 : Int32} {l3 : Int32} {l4 : Int32} {l5 : Int32} {res : z_H}, k8 h l0 l1 l2 l3 l4 l5 = some res → z_Run G l 11 M_X11_layWays 8 [(0, z_r l0), (1, .int l1), (2, .int l2), (3, .int l3), (4, .int l4), (5, .int l5)] [] h res none) (hk17 : ∀ {h : z_H} {l0 : Option Nat} {l1 : Int32} {l2 : Int32} {l3 : Int32} {l4 : Int32} {l5 : Int32} {l6 : Int32} {res : z_H}, k17 h l0 l1 l2 l3 l4 l5 l6 = some res → z_Run G l 11 M_X11_layWays 17 [(0, z_r l0), (1, .int l1), (2, .int l2), (3, .int l3), (4, .int l4), (5, .int l5), (6, .int l6)] [] h res none) (hk26 : ∀ {h : z_H} {l0 : Option Nat} {l1 : Int32} {l2 : Int32} {l3 : Int32} {l4 : Int32} {l5 : Int32} {l6 : Int32} {l7 : Int32} {res : z_H}, k26 h l0 l1 l2 l3 l4 l5 l6 l7 = some res → z_Run G l 11 M_X11_layWays 26 [(0, z_r l0), (1, .int l1), (2, .int l2), (3, .int l3), (4, .int l4), (5, .int l5), (6, .int l6), (7, .int l7)] [] h res none) (hk57 : ∀ {h : z_H} {l0 : Option Nat} {l1 : Int32} {l2 : Int32} {l3 : Int32} {l4 : Int32} {l5 : Int32} {l6 : Int32} {l7 : Int32} {l8 : Int32} {l9 : Int32} {res : z_H}, k57 h l0 l1 l2 l3 l4 l5 l6 l7 l8 l9 = some res → z_Run G l 11 M_X11_layWays 57 [(0, z_r l0), (1, .int l1), (2, .int l2), (3, .int l3), (4, .int l4), (5, .int l5), (6, .int l6), (7, .int l7), (8, .int l8), (9, .int l9)] [] h res none) {h : z_H} {l0 : Option Nat} {l1 : Int32} {l2 : Int32} {l3 : Int32} {l4 : Int32} {l5 : Int32} {l6 : Int32} {l7 : Int32} {l8 : Int32} {l9 : Int32} {s0 : Int64} {s1 : Int64} {res : z_H} (e : D_X11_layWays_157 k8 k17 k26 k57 h l0 l1 l2 l3 l4 l5 l6 l7 l8 l9 s0 s1 = some res) : z_Run G l 11 M_X11_layWays 157 [(0, z_r l0), (1, .int l1), (2, .int l2), (3, .int l3), (4, .int l4), (5, .int l5), (6, .int l6), (7, .int l7), (8, .int l8), (9, .int l9)] [.long s1, .long s0] h res none := by
  unfold D_X11_layWays_157 at e
  refine z_ladd dX11_layWays_157 ?_
  replace e := z_bd e; obtain ⟨x2186, ex2186, e⟩ := e
  refine z_topJ ex2186 ?_
  refine z_lstore (L' := [(10, .long x2186), (0, z_r l0), (1, .int l1), (2, .int l2), (3, .int l3), (4, .int l4), (5, .int l5), (6, .int l6), (7, .int l7), (8, .int l8), (9, .int l9)]) dX11_layWays_158 (by decide) rfl ?_
  refine z_aload_n 1 dX11_layWays_160 rfl ?_
  replace e := z_bd e; obtain ⟨x2187, ex2187, e⟩ := e
  refine z_getQ ex2187 lk_X11_117 dX11_layWays_161 ?_
  refine z_iload 6 dX11_layWays_164 rfl ?_
  refine z_iload 7 dX11_layWays_166 rfl ?_
  refine z_iload 8 dX11_layWays_168 rfl ?_
  refine z_iload 10 dX11_layWays_170 rfl ?_
  replace e := z_bd e; obtain ⟨p2188, ep2188, e⟩ := e
  refine z_cS [.int l5, .int l6, .int l7, .int l9] (S_X11_placeOf  ep2188) ml_X11_476 ck_X11_placeOf st_X11_placeOf dX11_layWays_172 (by decide) rfl (by simp [z_ci, z_cj, z_cr, z_cx]) rfl ?_
  refine z_lload 0 dX11_layWays_175 rfl ?_
  replace e := z_bd e; obtain ⟨h2189, eh2189, e⟩ := e
  refine z_last eh2189 dX11_layWays_177 ?_
  replace e := z_bd e; obtain ⟨x2190, ex2190, e⟩ := e
  refine z_iinc (q := 10) (v := x2190) (L' := [(9, .int x2190), (10, .long x2186), (0, z_r l0), (1, .int l1), (2, .int l2), (3, .int l3), (4, .int l4), (5, .int l5), (6, .int l6), (7, .int l7), (8, .int l8)]) dX11_layWays_178 rfl (Option.some.inj ex2190) (by decide) rfl ?_
  refine z_goto (tgt := 57) dX11_layWays_181 (by decide) ?_
  exact z_weak [2, 3, 4, 5, 6, 7, 8, 9, 10, 0] rfl (hk57 e)
def D_X11_layWays_125 (k8 : z_H → Option Nat → Int32 → Int32 → Int32 → Int32 → Int32 → Option z_H) (k17 : z_H → Option Nat → Int32 → Int32 → Int32 → Int32 → Int32 → Int32 → Option z_H) (k26 : z_H → Option Nat → Int32 → Int32 → Int32 → Int32 → Int32 → Int32 → Int32 → Option z_H) (k57 : z_H → Option Nat → Int32 → Int32 → Int32 → Int32 → Int32 → Int32 → Int32 → Int32 → Int32 → Option z_H) (h : z_H) (l0 : Option Nat) (l1 : Int32) (l2 : Int32) (l3 : Int32) (l4 : Int32) (l5 : Int32) (l6 : Int32) (l7 : Int32) (l8 : Int32) (l9 : Int32) (s0 : Int64) (s1 : Int64) : Option z_H :=
  (some (s0 + s1)).bind fun x2191 =>
  if l7 ≤ 0 then
    D_X11_layWays_157  k8 k17 k26 k57 h l0 l1 l2 l3 l4 l5 l6 l7 l8 l9 x2191 (0:Int64)
  else
    (z_gQ 11 h l0 42).bind fun x2193 =>
    (D_X11_placeOf  h l5 l6 (l7 - (1:Int32)) l9).bind fun p2194 =>
    (z_aJ p2194.2 x2193 p2194.1).bind fun x2195 =>
    D_X11_layWays_157  k8 k17 k26 k57 p2194.2 l0 l1 l2 l3 l4 l5 l6 l7 l8 l9 x2191 x2195
set_option maxRecDepth 100000 in
set_option maxHeartbeats 4000000 in
theorem S_X11_layWays_125 {G : z_G} {l : Launch} {k8 : z_H → Option Nat → Int32 → Int32 → Int32 → Int32 → Int32 → Option z_H} {k17 : z_H → Option Nat → Int32 → Int32 → Int32 → Int32 → Int32 → Int32 → Option z_H} {k26 : z_H → Option Nat → Int32 → Int32 → Int32 → Int32 → Int32 → Int32 → Int32 → Option z_H} {k57 : z_H → Option Nat → Int32 → Int32 → Int32 → Int32 → Int32 → Int32 → Int32 → Int32 → Int32 → Option z_H} (hk8 : ∀ {h : z_H} {l0 : Option Nat} {l1 : Int32} {l2 : Int32} {l3 : Int32} {l4 : Int32} {l5 : Int32} {res : z_H}, k8 h l0 l1 l2 l3 l4 l5 = some res → z_Run G l 11 M_X11_layWays 8 [(0, z_r l0), (1, .int l1), (2, .int l2), (3, .int l3), (4, .int l4), (5, .int l5)] [] h res none) (hk17 : ∀ {h : z_H} {l0 : Option Nat} {l1 : Int32} {l2 : Int32} {l3 : Int32} {l4 : Int32} {l5 : Int32} {l6 : Int32} {res : z_H}, k17 h l0 l1 l2 l3 l4 l5 l6 = some res → z_Run G l 11 M_X11_layWays 17 [(0, z_r l0), (1, .int l1), (2, .int l2), (3, .int l3), (4, .int l4), (5, .int l5), (6, .int l6)] [] h res none) (hk26 : ∀ {h : z_H} {l0 : Option Nat} {l1 : Int32} {l2 : Int32} {l3 : Int32} {l4 : Int32} {l5 : Int32} {l6 : Int32} {l7 : Int32} {res : z_H}, k26 h l0 l1 l2 l3 l4 l5 l6 l7 = some res → z_Run G l 11 M_X11_layWays 26 [(0, z_r l0), (1, .int l1), (2, .int l2), (3, .int l3), (4, .int l4), (5, .int l5), (6, .int l6), (7, .int l7)] [] h res none) (hk57 : ∀ {h : z_H} {l0 : Option Nat} {l1 : Int32} {l2 : Int32} {l3 : Int32} {l4 : Int32} {l5 : Int32} {l6 : Int32} {l7 : Int32} {l8 : Int32} {l9 : Int32} {res : z_H}, k57 h l0 l1 l2 l3 l4 l5 l6 l7 l8 l9 = some res → z_Run G l 11 M_X11_layWays 57 [(0, z_r l0), (1, .int l1), (2, .int l2), (3, .int l3), (4, .int l4), (5, .int l5), (6, .int l6), (7, .int l7), (8, .int l8), (9, .int l9)] [] h res none) {h : z_H} {l0 : Option Nat} {l1 : Int32} {l2 : Int32} {l3 : Int32} {l4 : Int32} {l5 : Int32} {l6 : Int32} {l7 : Int32} {l8 : Int32} {l9 : Int32} {s0 : Int64} {s1 : Int64} {res : z_H} (e : D_X11_layWays_125 k8 k17 k26 k57 h l0 l1 l2 l3 l4 l5 l6 l7 l8 l9 s0 s1 = some res) : z_Run G l 11 M_X11_layWays 125 [(0, z_r l0), (1, .int l1), (2, .int l2), (3, .int l3), (4, .int l4), (5, .int l5), (6, .int l6), (7, .int l7), (8, .int l8), (9, .int l9)] [.long s1, .long s0] h res none := by
  unfold D_X11_layWays_125 at e
  refine z_ladd dX11_layWays_125 ?_
  replace e := z_bd e; obtain ⟨x2191, ex2191, e⟩ := e
  refine z_topJ ex2191 ?_
  refine z_lstore (L' := [(10, .long x2191), (0, z_r l0), (1, .int l1), (2, .int l2), (3, .int l3), (4, .int l4), (5, .int l5), (6, .int l6), (7, .int l7), (8, .int l8), (9, .int l9)]) dX11_layWays_126 (by decide) rfl ?_
  refine z_lload 0 dX11_layWays_128 rfl ?_
  refine z_iload 8 dX11_layWays_130 rfl ?_
  refine z_if_le (tgt := 156) dX11_layWays_132 (by decide) (fun c2192 => ?_) (fun c2192 => ?_)
  · rw [if_pos c2192] at e
    refine z_lconst (v := 0) dX11_layWays_156 (by decide) ?_
    exact z_weak [1, 2, 3, 4, 5, 6, 7, 8, 9, 10] rfl (S_X11_layWays_157  @hk8 @hk17 @hk26 @hk57 e)
  · rw [if_neg c2192] at e
    refine z_aload_n 1 dX11_layWays_135 rfl ?_
    replace e := z_bd e; obtain ⟨x2193, ex2193, e⟩ := e
    refine z_getQ ex2193 lk_X11_117 dX11_layWays_136 ?_
    refine z_iload 6 dX11_layWays_139 rfl ?_
    refine z_iload 7 dX11_layWays_141 rfl ?_
    refine z_iload 8 dX11_layWays_143 rfl ?_
    refine z_iconst (v := 1) dX11_layWays_145 (by decide) ?_
    refine z_isub dX11_layWays_146 ?_
    refine z_iload 10 dX11_layWays_147 rfl ?_
    replace e := z_bd e; obtain ⟨p2194, ep2194, e⟩ := e
    refine z_cS [.int l5, .int l6, .int (l7 - (1:Int32)), .int l9] (S_X11_placeOf  ep2194) ml_X11_476 ck_X11_placeOf st_X11_placeOf dX11_layWays_149 (by decide) rfl (by simp [z_ci, z_cj, z_cr, z_cx]) rfl ?_
    replace e := z_bd e; obtain ⟨x2195, ex2195, e⟩ := e
    refine z_lald ex2195 dX11_layWays_152 ?_
    refine z_goto (tgt := 157) dX11_layWays_153 (by decide) ?_
    exact z_weak [1, 2, 3, 4, 5, 6, 7, 8, 9, 10] rfl (S_X11_layWays_157  @hk8 @hk17 @hk26 @hk57 e)
def D_X11_layWays_94 (k8 : z_H → Option Nat → Int32 → Int32 → Int32 → Int32 → Int32 → Option z_H) (k17 : z_H → Option Nat → Int32 → Int32 → Int32 → Int32 → Int32 → Int32 → Option z_H) (k26 : z_H → Option Nat → Int32 → Int32 → Int32 → Int32 → Int32 → Int32 → Int32 → Option z_H) (k57 : z_H → Option Nat → Int32 → Int32 → Int32 → Int32 → Int32 → Int32 → Int32 → Int32 → Int32 → Option z_H) (h : z_H) (l0 : Option Nat) (l1 : Int32) (l2 : Int32) (l3 : Int32) (l4 : Int32) (l5 : Int32) (l6 : Int32) (l7 : Int32) (l8 : Int32) (l9 : Int32) (s0 : Int64) : Option z_H :=
  if l6 ≤ 0 then
    D_X11_layWays_125  k8 k17 k26 k57 h l0 l1 l2 l3 l4 l5 l6 l7 l8 l9 s0 (0:Int64)
  else
    (z_gQ 11 h l0 42).bind fun x2197 =>
    (D_X11_placeOf  h l5 (l6 - (1:Int32)) l7 l9).bind fun p2198 =>
    (z_aJ p2198.2 x2197 p2198.1).bind fun x2199 =>
    D_X11_layWays_125  k8 k17 k26 k57 p2198.2 l0 l1 l2 l3 l4 l5 l6 l7 l8 l9 s0 x2199
set_option maxRecDepth 100000 in
set_option maxHeartbeats 4000000 in
theorem S_X11_layWays_94 {G : z_G} {l : Launch} {k8 : z_H → Option Nat → Int32 → Int32 → Int32 → Int32 → Int32 → Option z_H} {k17 : z_H → Option Nat → Int32 → Int32 → Int32 → Int32 → Int32 → Int32 → Option z_H} {k26 : z_H → Option Nat → Int32 → Int32 → Int32 → Int32 → Int32 → Int32 → Int32 → Option z_H} {k57 : z_H → Option Nat → Int32 → Int32 → Int32 → Int32 → Int32 → Int32 → Int32 → Int32 → Int32 → Option z_H} (hk8 : ∀ {h : z_H} {l0 : Option Nat} {l1 : Int32} {l2 : Int32} {l3 : Int32} {l4 : Int32} {l5 : Int32} {res : z_H}, k8 h l0 l1 l2 l3 l4 l5 = some res → z_Run G l 11 M_X11_layWays 8 [(0, z_r l0), (1, .int l1), (2, .int l2), (3, .int l3), (4, .int l4), (5, .int l5)] [] h res none) (hk17 : ∀ {h : z_H} {l0 : Option Nat} {l1 : Int32} {l2 : Int32} {l3 : Int32} {l4 : Int32} {l5 : Int32} {l6 : Int32} {res : z_H}, k17 h l0 l1 l2 l3 l4 l5 l6 = some res → z_Run G l 11 M_X11_layWays 17 [(0, z_r l0), (1, .int l1), (2, .int l2), (3, .int l3), (4, .int l4), (5, .int l5), (6, .int l6)] [] h res none) (hk26 : ∀ {h : z_H} {l0 : Option Nat} {l1 : Int32} {l2 : Int32} {l3 : Int32} {l4 : Int32} {l5 : Int32} {l6 : Int32} {l7 : Int32} {res : z_H}, k26 h l0 l1 l2 l3 l4 l5 l6 l7 = some res → z_Run G l 11 M_X11_layWays 26 [(0, z_r l0), (1, .int l1), (2, .int l2), (3, .int l3), (4, .int l4), (5, .int l5), (6, .int l6), (7, .int l7)] [] h res none) (hk57 : ∀ {h : z_H} {l0 : Option Nat} {l1 : Int32} {l2 : Int32} {l3 : Int32} {l4 : Int32} {l5 : Int32} {l6 : Int32} {l7 : Int32} {l8 : Int32} {l9 : Int32} {res : z_H}, k57 h l0 l1 l2 l3 l4 l5 l6 l7 l8 l9 = some res → z_Run G l 11 M_X11_layWays 57 [(0, z_r l0), (1, .int l1), (2, .int l2), (3, .int l3), (4, .int l4), (5, .int l5), (6, .int l6), (7, .int l7), (8, .int l8), (9, .int l9)] [] h res none) {h : z_H} {l0 : Option Nat} {l1 : Int32} {l2 : Int32} {l3 : Int32} {l4 : Int32} {l5 : Int32} {l6 : Int32} {l7 : Int32} {l8 : Int32} {l9 : Int32} {s0 : Int64} {res : z_H} (e : D_X11_layWays_94 k8 k17 k26 k57 h l0 l1 l2 l3 l4 l5 l6 l7 l8 l9 s0 = some res) : z_Run G l 11 M_X11_layWays 94 [(0, z_r l0), (1, .int l1), (2, .int l2), (3, .int l3), (4, .int l4), (5, .int l5), (6, .int l6), (7, .int l7), (8, .int l8), (9, .int l9)] [.long s0] h res none := by
  unfold D_X11_layWays_94 at e
  refine z_lstore (L' := [(10, .long s0), (0, z_r l0), (1, .int l1), (2, .int l2), (3, .int l3), (4, .int l4), (5, .int l5), (6, .int l6), (7, .int l7), (8, .int l8), (9, .int l9)]) dX11_layWays_94 (by decide) rfl ?_
  refine z_lload 0 dX11_layWays_96 rfl ?_
  refine z_iload 7 dX11_layWays_98 rfl ?_
  refine z_if_le (tgt := 124) dX11_layWays_100 (by decide) (fun c2196 => ?_) (fun c2196 => ?_)
  · rw [if_pos c2196] at e
    refine z_lconst (v := 0) dX11_layWays_124 (by decide) ?_
    exact z_weak [1, 2, 3, 4, 5, 6, 7, 8, 9, 10] rfl (S_X11_layWays_125  @hk8 @hk17 @hk26 @hk57 e)
  · rw [if_neg c2196] at e
    refine z_aload_n 1 dX11_layWays_103 rfl ?_
    replace e := z_bd e; obtain ⟨x2197, ex2197, e⟩ := e
    refine z_getQ ex2197 lk_X11_117 dX11_layWays_104 ?_
    refine z_iload 6 dX11_layWays_107 rfl ?_
    refine z_iload 7 dX11_layWays_109 rfl ?_
    refine z_iconst (v := 1) dX11_layWays_111 (by decide) ?_
    refine z_isub dX11_layWays_112 ?_
    refine z_iload 8 dX11_layWays_113 rfl ?_
    refine z_iload 10 dX11_layWays_115 rfl ?_
    replace e := z_bd e; obtain ⟨p2198, ep2198, e⟩ := e
    refine z_cS [.int l5, .int (l6 - (1:Int32)), .int l7, .int l9] (S_X11_placeOf  ep2198) ml_X11_476 ck_X11_placeOf st_X11_placeOf dX11_layWays_117 (by decide) rfl (by simp [z_ci, z_cj, z_cr, z_cx]) rfl ?_
    replace e := z_bd e; obtain ⟨x2199, ex2199, e⟩ := e
    refine z_lald ex2199 dX11_layWays_120 ?_
    refine z_goto (tgt := 125) dX11_layWays_121 (by decide) ?_
    exact z_weak [1, 2, 3, 4, 5, 6, 7, 8, 9, 10] rfl (S_X11_layWays_125  @hk8 @hk17 @hk26 @hk57 e)
def D_X11_layWays_93 (k8 : z_H → Option Nat → Int32 → Int32 → Int32 → Int32 → Int32 → Option z_H) (k17 : z_H → Option Nat → Int32 → Int32 → Int32 → Int32 → Int32 → Int32 → Option z_H) (k26 : z_H → Option Nat → Int32 → Int32 → Int32 → Int32 → Int32 → Int32 → Int32 → Option z_H) (k57 : z_H → Option Nat → Int32 → Int32 → Int32 → Int32 → Int32 → Int32 → Int32 → Int32 → Int32 → Option z_H) (h : z_H) (l0 : Option Nat) (l1 : Int32) (l2 : Int32) (l3 : Int32) (l4 : Int32) (l5 : Int32) (l6 : Int32) (l7 : Int32) (l8 : Int32) (l9 : Int32) : Option z_H :=
  D_X11_layWays_94  k8 k17 k26 k57 h l0 l1 l2 l3 l4 l5 l6 l7 l8 l9 (0:Int64)
set_option maxRecDepth 100000 in
set_option maxHeartbeats 4000000 in
theorem S_X11_layWays_93 {G : z_G} {l : Launch} {k8 : z_H → Option Nat → Int32 → Int32 → Int32 → Int32 → Int32 → Option z_H} {k17 : z_H → Option Nat → Int32 → Int32 → Int32 → Int32 → Int32 → Int32 → Option z_H} {k26 : z_H → Option Nat → Int32 → Int32 → Int32 → Int32 → Int32 → Int32 → Int32 → Option z_H} {k57 : z_H → Option Nat → Int32 → Int32 → Int32 → Int32 → Int32 → Int32 → Int32 → Int32 → Int32 → Option z_H} (hk8 : ∀ {h : z_H} {l0 : Option Nat} {l1 : Int32} {l2 : Int32} {l3 : Int32} {l4 : Int32} {l5 : Int32} {res : z_H}, k8 h l0 l1 l2 l3 l4 l5 = some res → z_Run G l 11 M_X11_layWays 8 [(0, z_r l0), (1, .int l1), (2, .int l2), (3, .int l3), (4, .int l4), (5, .int l5)] [] h res none) (hk17 : ∀ {h : z_H} {l0 : Option Nat} {l1 : Int32} {l2 : Int32} {l3 : Int32} {l4 : Int32} {l5 : Int32} {l6 : Int32} {res : z_H}, k17 h l0 l1 l2 l3 l4 l5 l6 = some res → z_Run G l 11 M_X11_layWays 17 [(0, z_r l0), (1, .int l1), (2, .int l2), (3, .int l3), (4, .int l4), (5, .int l5), (6, .int l6)] [] h res none) (hk26 : ∀ {h : z_H} {l0 : Option Nat} {l1 : Int32} {l2 : Int32} {l3 : Int32} {l4 : Int32} {l5 : Int32} {l6 : Int32} {l7 : Int32} {res : z_H}, k26 h l0 l1 l2 l3 l4 l5 l6 l7 = some res → z_Run G l 11 M_X11_layWays 26 [(0, z_r l0), (1, .int l1), (2, .int l2), (3, .int l3), (4, .int l4), (5, .int l5), (6, .int l6), (7, .int l7)] [] h res none) (hk57 : ∀ {h : z_H} {l0 : Option Nat} {l1 : Int32} {l2 : Int32} {l3 : Int32} {l4 : Int32} {l5 : Int32} {l6 : Int32} {l7 : Int32} {l8 : Int32} {l9 : Int32} {res : z_H}, k57 h l0 l1 l2 l3 l4 l5 l6 l7 l8 l9 = some res → z_Run G l 11 M_X11_layWays 57 [(0, z_r l0), (1, .int l1), (2, .int l2), (3, .int l3), (4, .int l4), (5, .int l5), (6, .int l6), (7, .int l7), (8, .int l8), (9, .int l9)] [] h res none) {h : z_H} {l0 : Option Nat} {l1 : Int32} {l2 : Int32} {l3 : Int32} {l4 : Int32} {l5 : Int32} {l6 : Int32} {l7 : Int32} {l8 : Int32} {l9 : Int32} {res : z_H} (e : D_X11_layWays_93 k8 k17 k26 k57 h l0 l1 l2 l3 l4 l5 l6 l7 l8 l9 = some res) : z_Run G l 11 M_X11_layWays 93 [(0, z_r l0), (1, .int l1), (2, .int l2), (3, .int l3), (4, .int l4), (5, .int l5), (6, .int l6), (7, .int l7), (8, .int l8), (9, .int l9)] [] h res none := by
  unfold D_X11_layWays_93 at e
  refine z_lconst (v := 0) dX11_layWays_93 (by decide) ?_
  exact z_weak [0, 1, 2, 3, 4, 5, 6, 7, 8, 9] rfl (S_X11_layWays_94  @hk8 @hk17 @hk26 @hk57 e)
def D_X11_layWays_57b (k8 : z_H → Option Nat → Int32 → Int32 → Int32 → Int32 → Int32 → Option z_H) (k17 : z_H → Option Nat → Int32 → Int32 → Int32 → Int32 → Int32 → Int32 → Option z_H) (k26 : z_H → Option Nat → Int32 → Int32 → Int32 → Int32 → Int32 → Int32 → Int32 → Option z_H) (k57 : z_H → Option Nat → Int32 → Int32 → Int32 → Int32 → Int32 → Int32 → Int32 → Int32 → Int32 → Option z_H) (h : z_H) (l0 : Option Nat) (l1 : Int32) (l2 : Int32) (l3 : Int32) (l4 : Int32) (l5 : Int32) (l6 : Int32) (l7 : Int32) (l8 : Int32) (l9 : Int32) : Option z_H :=
  if (25:Int32) ≤ l9 then
    D_X11_layWays_187  k8 k17 k26 z_F h l0 l1 l2 l3 l4 l5 l6 l7 l8 (0:Int32)
  else
    if ((l5 + l6) + l7) = 0 then
      (z_gQ 11 h l0 3).bind fun x2202 =>
      (z_aI .int h x2202 ((8:Int32) + l1)).bind fun x2203 =>
      if l9 = x2203 then
        D_X11_layWays_94  k8 k17 k26 k57 h l0 l1 l2 l3 l4 l5 l6 l7 l8 l9 (1:Int64)
      else
        D_X11_layWays_93  k8 k17 k26 k57 h l0 l1 l2 l3 l4 l5 l6 l7 l8 l9
    else
      D_X11_layWays_93  k8 k17 k26 k57 h l0 l1 l2 l3 l4 l5 l6 l7 l8 l9
def D_X11_layWays_57 (k8 : z_H → Option Nat → Int32 → Int32 → Int32 → Int32 → Int32 → Option z_H) (k17 : z_H → Option Nat → Int32 → Int32 → Int32 → Int32 → Int32 → Int32 → Option z_H) (k26 : z_H → Option Nat → Int32 → Int32 → Int32 → Int32 → Int32 → Int32 → Int32 → Option z_H) (n : Nat) : z_H → Option Nat → Int32 → Int32 → Int32 → Int32 → Int32 → Int32 → Int32 → Int32 → Int32 → Option z_H := Nat.rec (motive := fun _ => z_H → Option Nat → Int32 → Int32 → Int32 → Int32 → Int32 → Int32 → Int32 → Int32 → Int32 → Option z_H) (fun _ _ _ _ _ _ _ _ _ _ _ => none) (fun _ k => D_X11_layWays_57b k8 k17 k26 k) n
set_option maxRecDepth 100000 in
set_option maxHeartbeats 4000000 in
theorem S_X11_layWays_57 {G : z_G} {l : Launch} {k8 : z_H → Option Nat → Int32 → Int32 → Int32 → Int32 → Int32 → Option z_H} {k17 : z_H → Option Nat → Int32 → Int32 → Int32 → Int32 → Int32 → Int32 → Option z_H} {k26 : z_H → Option Nat → Int32 → Int32 → Int32 → Int32 → Int32 → Int32 → Int32 → Option z_H} (hk8 : ∀ {h : z_H} {l0 : Option Nat} {l1 : Int32} {l2 : Int32} {l3 : Int32} {l4 : Int32} {l5 : Int32} {res : z_H}, k8 h l0 l1 l2 l3 l4 l5 = some res → z_Run G l 11 M_X11_layWays 8 [(0, z_r l0), (1, .int l1), (2, .int l2), (3, .int l3), (4, .int l4), (5, .int l5)] [] h res none) (hk17 : ∀ {h : z_H} {l0 : Option Nat} {l1 : Int32} {l2 : Int32} {l3 : Int32} {l4 : Int32} {l5 : Int32} {l6 : Int32} {res : z_H}, k17 h l0 l1 l2 l3 l4 l5 l6 = some res → z_Run G l 11 M_X11_layWays 17 [(0, z_r l0), (1, .int l1), (2, .int l2), (3, .int l3), (4, .int l4), (5, .int l5), (6, .int l6)] [] h res none) (hk26 : ∀ {h : z_H} {l0 : Option Nat} {l1 : Int32} {l2 : Int32} {l3 : Int32} {l4 : Int32} {l5 : Int32} {l6 : Int32} {l7 : Int32} {res : z_H}, k26 h l0 l1 l2 l3 l4 l5 l6 l7 = some res → z_Run G l 11 M_X11_layWays 26 [(0, z_r l0), (1, .int l1), (2, .int l2), (3, .int l3), (4, .int l4), (5, .int l5), (6, .int l6), (7, .int l7)] [] h res none) (n : Nat) : ∀ {h : z_H} {l0 : Option Nat} {l1 : Int32} {l2 : Int32} {l3 : Int32} {l4 : Int32} {l5 : Int32} {l6 : Int32} {l7 : Int32} {l8 : Int32} {l9 : Int32} {res : z_H}, D_X11_layWays_57 k8 k17 k26 n h l0 l1 l2 l3 l4 l5 l6 l7 l8 l9 = some res → z_Run G l 11 M_X11_layWays 57 [(0, z_r l0), (1, .int l1), (2, .int l2), (3, .int l3), (4, .int l4), (5, .int l5), (6, .int l6), (7, .int l7), (8, .int l8), (9, .int l9)] [] h res none := by
  induction n with
  | zero => intro h l0 l1 l2 l3 l4 l5 l6 l7 l8 l9 res e; cases e
  | succ n hk57 =>
    intro h l0 l1 l2 l3 l4 l5 l6 l7 l8 l9 res e
    replace e : D_X11_layWays_57b k8 k17 k26 (D_X11_layWays_57 k8 k17 k26 n) h l0 l1 l2 l3 l4 l5 l6 l7 l8 l9 = some res := e
    unfold D_X11_layWays_57b at e
    refine z_iload 9 dX11_layWays_57 rfl ?_
    refine z_bipush (v := 25) dX11_layWays_59 (by decide) ?_
    refine z_icmp_ge (tgt := 184) dX11_layWays_61 (by decide) (fun c2200 => ?_) (fun c2200 => ?_)
    · rw [if_pos c2200] at e
      refine z_iconst (v := 0) dX11_layWays_184 (by decide) ?_
      refine z_istore (L' := [(9, .int (0:Int32)), (0, z_r l0), (1, .int l1), (2, .int l2), (3, .int l3), (4, .int l4), (5, .int l5), (6, .int l6), (7, .int l7), (8, .int l8)]) dX11_layWays_185 (by decide) rfl ?_
      exact z_weak [1, 2, 3, 4, 5, 6, 7, 8, 9, 0] rfl (S_X11_layWays_187  @hk8 @hk17 @hk26 z_F e)
    · rw [if_neg c2200] at e
      refine z_iload 5 dX11_layWays_64 rfl ?_
      refine z_iload 6 dX11_layWays_66 rfl ?_
      refine z_iadd dX11_layWays_68 ?_
      refine z_iload 7 dX11_layWays_69 rfl ?_
      refine z_iadd dX11_layWays_71 ?_
      refine z_if_ne (tgt := 93) dX11_layWays_72 (by decide) (fun c2201 => ?_) (fun c2201 => ?_)
      · rw [if_neg c2201] at e
        exact z_weak [0, 1, 2, 3, 4, 5, 6, 7, 8, 9] rfl (S_X11_layWays_93  @hk8 @hk17 @hk26 @hk57 e)
      · rw [if_pos c2201] at e
        refine z_iload 9 dX11_layWays_75 rfl ?_
        refine z_aload_n 0 dX11_layWays_77 rfl ?_
        replace e := z_bd e; obtain ⟨x2202, ex2202, e⟩ := e
        refine z_getQ ex2202 lk_X11_13 dX11_layWays_78 ?_
        refine z_bipush (v := 8) dX11_layWays_81 (by decide) ?_
        refine z_iload_n 1 dX11_layWays_83 rfl ?_
        refine z_iadd dX11_layWays_84 ?_
        replace e := z_bd e; obtain ⟨x2203, ex2203, e⟩ := e
        refine z_iald ex2203 dX11_layWays_85 ?_
        refine z_icmp_ne (tgt := 93) dX11_layWays_86 (by decide) (fun c2204 => ?_) (fun c2204 => ?_)
        · rw [if_neg c2204] at e
          exact z_weak [0, 1, 2, 3, 4, 5, 6, 7, 8, 9] rfl (S_X11_layWays_93  @hk8 @hk17 @hk26 @hk57 e)
        · rw [if_pos c2204] at e
          refine z_lconst (v := 1) dX11_layWays_89 (by decide) ?_
          refine z_goto (tgt := 94) dX11_layWays_90 (by decide) ?_
          exact z_weak [0, 1, 2, 3, 4, 5, 6, 7, 8, 9] rfl (S_X11_layWays_94  @hk8 @hk17 @hk26 @hk57 e)
def D_X11_layWays_26b (k8 : z_H → Option Nat → Int32 → Int32 → Int32 → Int32 → Int32 → Option z_H) (k17 : z_H → Option Nat → Int32 → Int32 → Int32 → Int32 → Int32 → Int32 → Option z_H) (k26 : z_H → Option Nat → Int32 → Int32 → Int32 → Int32 → Int32 → Int32 → Int32 → Option z_H) (h : z_H) (l0 : Option Nat) (l1 : Int32) (l2 : Int32) (l3 : Int32) (l4 : Int32) (l5 : Int32) (l6 : Int32) (l7 : Int32) : Option z_H :=
  if l4 < l7 then
    (some (l6 + (1:Int32))).bind fun x2206 =>
    k17 h l0 l1 l2 l3 l4 l5 x2206
  else
    (z_gQ 11 h l0 3).bind fun x2207 =>
    (z_aI .int h x2207 ((14:Int32) + l1)).bind fun x2208 =>
    (some (((x2208 + l7) + ((3:Int32) * l6)) - ((x2208 + l7) + ((3:Int32) * l6)) / (4:Int32) * (4:Int32))).bind fun x2209 =>
    D_X11_layWays_57  k8 k17 k26 z_F h l0 l1 l2 l3 l4 l5 l6 l7 x2209 (0:Int32)
def D_X11_layWays_26 (k8 : z_H → Option Nat → Int32 → Int32 → Int32 → Int32 → Int32 → Option z_H) (k17 : z_H → Option Nat → Int32 → Int32 → Int32 → Int32 → Int32 → Int32 → Option z_H) (n : Nat) : z_H → Option Nat → Int32 → Int32 → Int32 → Int32 → Int32 → Int32 → Int32 → Option z_H := Nat.rec (motive := fun _ => z_H → Option Nat → Int32 → Int32 → Int32 → Int32 → Int32 → Int32 → Int32 → Option z_H) (fun _ _ _ _ _ _ _ _ _ => none) (fun _ k => D_X11_layWays_26b k8 k17 k) n
set_option maxRecDepth 100000 in
set_option maxHeartbeats 4000000 in
theorem S_X11_layWays_26 {G : z_G} {l : Launch} {k8 : z_H → Option Nat → Int32 → Int32 → Int32 → Int32 → Int32 → Option z_H} {k17 : z_H → Option Nat → Int32 → Int32 → Int32 → Int32 → Int32 → Int32 → Option z_H} (hk8 : ∀ {h : z_H} {l0 : Option Nat} {l1 : Int32} {l2 : Int32} {l3 : Int32} {l4 : Int32} {l5 : Int32} {res : z_H}, k8 h l0 l1 l2 l3 l4 l5 = some res → z_Run G l 11 M_X11_layWays 8 [(0, z_r l0), (1, .int l1), (2, .int l2), (3, .int l3), (4, .int l4), (5, .int l5)] [] h res none) (hk17 : ∀ {h : z_H} {l0 : Option Nat} {l1 : Int32} {l2 : Int32} {l3 : Int32} {l4 : Int32} {l5 : Int32} {l6 : Int32} {res : z_H}, k17 h l0 l1 l2 l3 l4 l5 l6 = some res → z_Run G l 11 M_X11_layWays 17 [(0, z_r l0), (1, .int l1), (2, .int l2), (3, .int l3), (4, .int l4), (5, .int l5), (6, .int l6)] [] h res none) (n : Nat) : ∀ {h : z_H} {l0 : Option Nat} {l1 : Int32} {l2 : Int32} {l3 : Int32} {l4 : Int32} {l5 : Int32} {l6 : Int32} {l7 : Int32} {res : z_H}, D_X11_layWays_26 k8 k17 n h l0 l1 l2 l3 l4 l5 l6 l7 = some res → z_Run G l 11 M_X11_layWays 26 [(0, z_r l0), (1, .int l1), (2, .int l2), (3, .int l3), (4, .int l4), (5, .int l5), (6, .int l6), (7, .int l7)] [] h res none := by
  induction n with
  | zero => intro h l0 l1 l2 l3 l4 l5 l6 l7 res e; cases e
  | succ n hk26 =>
    intro h l0 l1 l2 l3 l4 l5 l6 l7 res e
    replace e : D_X11_layWays_26b k8 k17 (D_X11_layWays_26 k8 k17 n) h l0 l1 l2 l3 l4 l5 l6 l7 = some res := e
    unfold D_X11_layWays_26b at e
    refine z_iload 7 dX11_layWays_26 rfl ?_
    refine z_iload 4 dX11_layWays_28 rfl ?_
    refine z_icmp_gt (tgt := 268) dX11_layWays_30 (by decide) (fun c2205 => ?_) (fun c2205 => ?_)
    · rw [if_pos c2205] at e
      replace e := z_bd e; obtain ⟨x2206, ex2206, e⟩ := e
      refine z_iinc (q := 6) (v := x2206) (L' := [(6, .int x2206), (0, z_r l0), (1, .int l1), (2, .int l2), (3, .int l3), (4, .int l4), (5, .int l5), (7, .int l7)]) dX11_layWays_268 rfl (Option.some.inj ex2206) (by decide) rfl ?_
      refine z_goto (tgt := 17) dX11_layWays_271 (by decide) ?_
      exact z_weak [1, 2, 3, 4, 5, 6, 0] rfl (hk17 e)
    · rw [if_neg c2205] at e
      refine z_aload_n 0 dX11_layWays_33 rfl ?_
      replace e := z_bd e; obtain ⟨x2207, ex2207, e⟩ := e
      refine z_getQ ex2207 lk_X11_13 dX11_layWays_34 ?_
      refine z_bipush (v := 14) dX11_layWays_37 (by decide) ?_
      refine z_iload_n 1 dX11_layWays_39 rfl ?_
      refine z_iadd dX11_layWays_40 ?_
      replace e := z_bd e; obtain ⟨x2208, ex2208, e⟩ := e
      refine z_iald ex2208 dX11_layWays_41 ?_
      refine z_iload 7 dX11_layWays_42 rfl ?_
      refine z_iadd dX11_layWays_44 ?_
      refine z_iconst (v := 3) dX11_layWays_45 (by decide) ?_
      refine z_iload 6 dX11_layWays_46 rfl ?_
      refine z_imul dX11_layWays_48 ?_
      refine z_iadd dX11_layWays_49 ?_
      refine z_iconst (v := 4) dX11_layWays_50 (by decide) ?_
      refine z_irem dX11_layWays_51 (by decide) ?_
      replace e := z_bd e; obtain ⟨x2209, ex2209, e⟩ := e
      refine z_topI ex2209 ?_
      refine z_istore (L' := [(8, .int x2209), (0, z_r l0), (1, .int l1), (2, .int l2), (3, .int l3), (4, .int l4), (5, .int l5), (6, .int l6), (7, .int l7)]) dX11_layWays_52 (by decide) rfl ?_
      refine z_iconst (v := 0) dX11_layWays_54 (by decide) ?_
      refine z_istore (L' := [(9, .int (0:Int32)), (8, .int x2209), (0, z_r l0), (1, .int l1), (2, .int l2), (3, .int l3), (4, .int l4), (5, .int l5), (6, .int l6), (7, .int l7)]) dX11_layWays_55 (by decide) rfl ?_
      exact z_weak [2, 3, 4, 5, 6, 7, 8, 9, 1, 0] rfl (S_X11_layWays_57  @hk8 @hk17 @hk26 z_F e)
def D_X11_layWays_17b (k8 : z_H → Option Nat → Int32 → Int32 → Int32 → Int32 → Int32 → Option z_H) (k17 : z_H → Option Nat → Int32 → Int32 → Int32 → Int32 → Int32 → Int32 → Option z_H) (h : z_H) (l0 : Option Nat) (l1 : Int32) (l2 : Int32) (l3 : Int32) (l4 : Int32) (l5 : Int32) (l6 : Int32) : Option z_H :=
  if l3 < l6 then
    (some (l5 + (1:Int32))).bind fun x2211 =>
    k8 h l0 l1 l2 l3 l4 x2211
  else
    D_X11_layWays_26  k8 k17 z_F h l0 l1 l2 l3 l4 l5 l6 (0:Int32)
def D_X11_layWays_17 (k8 : z_H → Option Nat → Int32 → Int32 → Int32 → Int32 → Int32 → Option z_H) (n : Nat) : z_H → Option Nat → Int32 → Int32 → Int32 → Int32 → Int32 → Int32 → Option z_H := Nat.rec (motive := fun _ => z_H → Option Nat → Int32 → Int32 → Int32 → Int32 → Int32 → Int32 → Option z_H) (fun _ _ _ _ _ _ _ _ => none) (fun _ k => D_X11_layWays_17b k8 k) n
set_option maxRecDepth 100000 in
set_option maxHeartbeats 4000000 in
theorem S_X11_layWays_17 {G : z_G} {l : Launch} {k8 : z_H → Option Nat → Int32 → Int32 → Int32 → Int32 → Int32 → Option z_H} (hk8 : ∀ {h : z_H} {l0 : Option Nat} {l1 : Int32} {l2 : Int32} {l3 : Int32} {l4 : Int32} {l5 : Int32} {res : z_H}, k8 h l0 l1 l2 l3 l4 l5 = some res → z_Run G l 11 M_X11_layWays 8 [(0, z_r l0), (1, .int l1), (2, .int l2), (3, .int l3), (4, .int l4), (5, .int l5)] [] h res none) (n : Nat) : ∀ {h : z_H} {l0 : Option Nat} {l1 : Int32} {l2 : Int32} {l3 : Int32} {l4 : Int32} {l5 : Int32} {l6 : Int32} {res : z_H}, D_X11_layWays_17 k8 n h l0 l1 l2 l3 l4 l5 l6 = some res → z_Run G l 11 M_X11_layWays 17 [(0, z_r l0), (1, .int l1), (2, .int l2), (3, .int l3), (4, .int l4), (5, .int l5), (6, .int l6)] [] h res none := by
  induction n with
  | zero => intro h l0 l1 l2 l3 l4 l5 l6 res e; cases e
  | succ n hk17 =>
    intro h l0 l1 l2 l3 l4 l5 l6 res e
    replace e : D_X11_layWays_17b k8 (D_X11_layWays_17 k8 n) h l0 l1 l2 l3 l4 l5 l6 = some res := e
    unfold D_X11_layWays_17b at e
    refine z_iload 6 dX11_layWays_17 rfl ?_
    refine z_iload_n 3 dX11_layWays_19 rfl ?_
    refine z_icmp_gt (tgt := 274) dX11_layWays_20 (by decide) (fun c2210 => ?_) (fun c2210 => ?_)
    · rw [if_pos c2210] at e
      replace e := z_bd e; obtain ⟨x2211, ex2211, e⟩ := e
      refine z_iinc (q := 5) (v := x2211) (L' := [(5, .int x2211), (0, z_r l0), (1, .int l1), (2, .int l2), (3, .int l3), (4, .int l4), (6, .int l6)]) dX11_layWays_274 rfl (Option.some.inj ex2211) (by decide) rfl ?_
      refine z_goto (tgt := 8) dX11_layWays_277 (by decide) ?_
      exact z_weak [1, 2, 3, 4, 5, 0] rfl (hk8 e)
    · rw [if_neg c2210] at e
      refine z_iconst (v := 0) dX11_layWays_23 (by decide) ?_
      refine z_istore (L' := [(7, .int (0:Int32)), (0, z_r l0), (1, .int l1), (2, .int l2), (3, .int l3), (4, .int l4), (5, .int l5), (6, .int l6)]) dX11_layWays_24 (by decide) rfl ?_
      exact z_weak [1, 2, 3, 4, 5, 6, 7, 0] rfl (S_X11_layWays_26  @hk8 @hk17 z_F e)
def D_X11_layWays_8b (k8 : z_H → Option Nat → Int32 → Int32 → Int32 → Int32 → Int32 → Option z_H) (h : z_H) (l0 : Option Nat) (l1 : Int32) (l2 : Int32) (l3 : Int32) (l4 : Int32) (l5 : Int32) : Option z_H :=
  if l2 < l5 then
    some h
  else
    D_X11_layWays_17  k8 z_F h l0 l1 l2 l3 l4 l5 (0:Int32)
def D_X11_layWays_8 (n : Nat) : z_H → Option Nat → Int32 → Int32 → Int32 → Int32 → Int32 → Option z_H := Nat.rec (motive := fun _ => z_H → Option Nat → Int32 → Int32 → Int32 → Int32 → Int32 → Option z_H) (fun _ _ _ _ _ _ _ => none) (fun _ k => D_X11_layWays_8b  k) n
set_option maxRecDepth 100000 in
set_option maxHeartbeats 4000000 in
theorem S_X11_layWays_8 {G : z_G} {l : Launch}  (n : Nat) : ∀ {h : z_H} {l0 : Option Nat} {l1 : Int32} {l2 : Int32} {l3 : Int32} {l4 : Int32} {l5 : Int32} {res : z_H}, D_X11_layWays_8  n h l0 l1 l2 l3 l4 l5 = some res → z_Run G l 11 M_X11_layWays 8 [(0, z_r l0), (1, .int l1), (2, .int l2), (3, .int l3), (4, .int l4), (5, .int l5)] [] h res none := by
  induction n with
  | zero => intro h l0 l1 l2 l3 l4 l5 res e; cases e
  | succ n hk8 =>
    intro h l0 l1 l2 l3 l4 l5 res e
    replace e : D_X11_layWays_8b  (D_X11_layWays_8  n) h l0 l1 l2 l3 l4 l5 = some res := e
    unfold D_X11_layWays_8b at e
    refine z_iload 5 dX11_layWays_8 rfl ?_
    refine z_iload_n 2 dX11_layWays_10 rfl ?_
    refine z_icmp_gt (tgt := 280) dX11_layWays_11 (by decide) (fun c2212 => ?_) (fun c2212 => ?_)
    · rw [if_pos c2212] at e
      cases e
      exact z_vret dX11_layWays_280 rfl
    · rw [if_neg c2212] at e
      refine z_iconst (v := 0) dX11_layWays_14 (by decide) ?_
      refine z_istore (L' := [(6, .int (0:Int32)), (0, z_r l0), (1, .int l1), (2, .int l2), (3, .int l3), (4, .int l4), (5, .int l5)]) dX11_layWays_15 (by decide) rfl ?_
      exact z_weak [1, 2, 3, 4, 5, 6, 0] rfl (S_X11_layWays_17  @hk8 z_F e)
def D_X11_layWays (h : z_H) (l0 : Option Nat) (l1 : Int32) (l2 : Int32) (l3 : Int32) (l4 : Int32) : Option z_H :=
  (z_ob 11 h l0).bind fun _ =>
  (D_X11_laySteps  h l0 l1).bind fun p2213 =>
  D_X11_layWays_8   z_F p2213 l0 l1 l2 l3 l4 (0:Int32)
set_option maxRecDepth 100000 in
set_option maxHeartbeats 4000000 in
theorem S_X11_layWays {G : z_G} {l : Launch} {h : z_H} {l0 : Option Nat} {l1 : Int32} {l2 : Int32} {l3 : Int32} {l4 : Int32} {res : z_H} (e : D_X11_layWays h l0 l1 l2 l3 l4 = some res) : z_Meth G l 11 M_X11_layWays [z_r l0, .int l1, .int l2, .int l3, .int l4] h res none := by
  refine z_Meth.of ck_X11_layWays.2.2.2.2 (by simp [lg_sl, z_ci, z_cj, z_cr, z_cx]) ck_X11_layWays.1 ?_
  rw [show lv_args 0 [z_r l0, .int l1, .int l2, .int l3, .int l4] = [(0, z_r l0), (1, .int l1), (2, .int l2), (3, .int l3), (4, .int l4)] from by simp [lv_args, z_ci, z_cj, z_cr, z_cx]]
  unfold D_X11_layWays at e
  refine z_aload_n 0 dX11_layWays_0 rfl ?_
  refine z_iload_n 1 dX11_layWays_1 rfl ?_
  replace e := z_bd e; obtain ⟨o2214, eo2214, e⟩ := e
  replace e := z_bd e; obtain ⟨p2213, ep2213, e⟩ := e
  refine z_cV [.int l1] (S_X11_laySteps  ep2213) eo2214 rfl ml_X11_473 ck_X11_laySteps vk_X11_laySteps dX11_layWays_2 (by decide) rfl (Nat.zero_le _) rfl ?_
  refine z_iconst (v := 0) dX11_layWays_5 (by decide) ?_
  refine z_istore (L' := [(5, .int (0:Int32)), (0, z_r l0), (1, .int l1), (2, .int l2), (3, .int l3), (4, .int l4)]) dX11_layWays_6 (by decide) rfl ?_
  exact z_weak [1, 2, 3, 4, 5, 0] rfl (S_X11_layWays_8   z_F e)
theorem dX11_ends_0 : decode cX11_ends 0 = .ok (.aload_n 0, 1) := by decide +kernel
theorem dX11_ends_1 : decode cX11_ends 1 = .ok (.iconst 0, 1) := by decide +kernel
theorem dX11_ends_2 : decode cX11_ends 2 = .ok (.putfield 166, 3) := by decide +kernel
theorem dX11_ends_5 : decode cX11_ends 5 = .ok (.aload_n 0, 1) := by decide +kernel
theorem dX11_ends_6 : decode cX11_ends 6 = .ok (.iload_n 1, 1) := by decide +kernel
theorem dX11_ends_7 : decode cX11_ends 7 = .ok (.iload_n 2, 1) := by decide +kernel
theorem dX11_ends_8 : decode cX11_ends 8 = .ok (.iload_n 3, 1) := by decide +kernel
theorem dX11_ends_9 : decode cX11_ends 9 = .ok (.iload 4, 2) := by decide +kernel
theorem dX11_ends_11 : decode cX11_ends 11 = .ok (.invokevirtual 481, 3) := by decide +kernel
theorem dX11_ends_14 : decode cX11_ends 14 = .ok (.ifCond .ne 5, 3) := by decide +kernel
theorem dX11_ends_17 : decode cX11_ends 17 = .ok (.iconst (-1), 1) := by decide +kernel
theorem dX11_ends_18 : decode cX11_ends 18 = .ok (.ireturn, 1) := by decide +kernel
theorem dX11_ends_19 : decode cX11_ends 19 = .ok (.aload_n 0, 1) := by decide +kernel
theorem dX11_ends_20 : decode cX11_ends 20 = .ok (.iload_n 1, 1) := by decide +kernel
theorem dX11_ends_21 : decode cX11_ends 21 = .ok (.iload_n 2, 1) := by decide +kernel
theorem dX11_ends_22 : decode cX11_ends 22 = .ok (.iload_n 3, 1) := by decide +kernel
theorem dX11_ends_23 : decode cX11_ends 23 = .ok (.iload 4, 2) := by decide +kernel
theorem dX11_ends_25 : decode cX11_ends 25 = .ok (.invokevirtual 485, 3) := by decide +kernel
theorem dX11_ends_28 : decode cX11_ends 28 = .ok (.iconst 0, 1) := by decide +kernel
theorem dX11_ends_29 : decode cX11_ends 29 = .ok (.istore 5, 2) := by decide +kernel
theorem dX11_ends_31 : decode cX11_ends 31 = .ok (.iconst 0, 1) := by decide +kernel
theorem dX11_ends_32 : decode cX11_ends 32 = .ok (.istore 6, 2) := by decide +kernel
theorem dX11_ends_34 : decode cX11_ends 34 = .ok (.iload 6, 2) := by decide +kernel
theorem dX11_ends_36 : decode cX11_ends 36 = .ok (.bipush 25, 2) := by decide +kernel
theorem dX11_ends_38 : decode cX11_ends 38 = .ok (.if_icmp .ge 41, 3) := by decide +kernel
theorem dX11_ends_41 : decode cX11_ends 41 = .ok (.iload 5, 2) := by decide +kernel
theorem dX11_ends_43 : decode cX11_ends 43 = .ok (.aload_n 0, 1) := by decide +kernel
theorem dX11_ends_44 : decode cX11_ends 44 = .ok (.getfield 117, 3) := by decide +kernel
theorem dX11_ends_47 : decode cX11_ends 47 = .ok (.iload_n 2, 1) := by decide +kernel
theorem dX11_ends_48 : decode cX11_ends 48 = .ok (.iload_n 3, 1) := by decide +kernel
theorem dX11_ends_49 : decode cX11_ends 49 = .ok (.iload 4, 2) := by decide +kernel
theorem dX11_ends_51 : decode cX11_ends 51 = .ok (.iload 6, 2) := by decide +kernel
theorem dX11_ends_53 : decode cX11_ends 53 = .ok (.invokestatic 476, 3) := by decide +kernel
theorem dX11_ends_56 : decode cX11_ends 56 = .ok (.laload, 1) := by decide +kernel
theorem dX11_ends_57 : decode cX11_ends 57 = .ok (.lconst 0, 1) := by decide +kernel
theorem dX11_ends_58 : decode cX11_ends 58 = .ok (.lcmp, 1) := by decide +kernel
theorem dX11_ends_59 : decode cX11_ends 59 = .ok (.ifCond .le 10, 3) := by decide +kernel
theorem dX11_ends_62 : decode cX11_ends 62 = .ok (.iconst 1, 1) := by decide +kernel
theorem dX11_ends_63 : decode cX11_ends 63 = .ok (.iload 6, 2) := by decide +kernel
theorem dX11_ends_65 : decode cX11_ends 65 = .ok (.ishl, 1) := by decide +kernel
theorem dX11_ends_66 : decode cX11_ends 66 = .ok (.goto 4, 3) := by decide +kernel
theorem dX11_ends_69 : decode cX11_ends 69 = .ok (.iconst 0, 1) := by decide +kernel
theorem dX11_ends_70 : decode cX11_ends 70 = .ok (.ior, 1) := by decide +kernel
theorem dX11_ends_71 : decode cX11_ends 71 = .ok (.istore 5, 2) := by decide +kernel
theorem dX11_ends_73 : decode cX11_ends 73 = .ok (.iinc 6 1, 3) := by decide +kernel
theorem dX11_ends_76 : decode cX11_ends 76 = .ok (.goto (-42), 3) := by decide +kernel
theorem dX11_ends_79 : decode cX11_ends 79 = .ok (.iload 5, 2) := by decide +kernel
theorem dX11_ends_81 : decode cX11_ends 81 = .ok (.ireturn, 1) := by decide +kernel
def D_X11_ends_70 (k34 : z_H → Option Nat → Int32 → Int32 → Int32 → Int32 → Int32 → Option (Int32 × z_H)) (h : z_H) (l0 : Option Nat) (l2 : Int32) (l3 : Int32) (l4 : Int32) (l6 : Int32) (s0 : Int32) (s1 : Int32) : Option (Int32 × z_H) :=
  (some (s0 ||| s1)).bind fun x2215 =>
  (some (l6 + (1:Int32))).bind fun x2216 =>
  k34 h l0 l2 l3 l4 x2215 x2216
set_option maxRecDepth 100000 in
set_option maxHeartbeats 4000000 in
theorem S_X11_ends_70 {G : z_G} {l : Launch} {k34 : z_H → Option Nat → Int32 → Int32 → Int32 → Int32 → Int32 → Option (Int32 × z_H)} (hk34 : ∀ {h : z_H} {l0 : Option Nat} {l2 : Int32} {l3 : Int32} {l4 : Int32} {l5 : Int32} {l6 : Int32} {res : (Int32 × z_H)}, k34 h l0 l2 l3 l4 l5 l6 = some res → z_Run G l 12 M_X11_ends 34 [(0, z_r l0), (2, .int l2), (3, .int l3), (4, .int l4), (5, .int l5), (6, .int l6)] [] h res.2 (some (.int res.1))) {h : z_H} {l0 : Option Nat} {l2 : Int32} {l3 : Int32} {l4 : Int32} {l6 : Int32} {s0 : Int32} {s1 : Int32} {res : (Int32 × z_H)} (e : D_X11_ends_70 k34 h l0 l2 l3 l4 l6 s0 s1 = some res) : z_Run G l 12 M_X11_ends 70 [(0, z_r l0), (2, .int l2), (3, .int l3), (4, .int l4), (6, .int l6)] [.int s1, .int s0] h res.2 (some (.int res.1)) := by
  unfold D_X11_ends_70 at e
  refine z_ior dX11_ends_70 ?_
  replace e := z_bd e; obtain ⟨x2215, ex2215, e⟩ := e
  refine z_topI ex2215 ?_
  refine z_istore (L' := [(5, .int x2215), (0, z_r l0), (2, .int l2), (3, .int l3), (4, .int l4), (6, .int l6)]) dX11_ends_71 (by decide) rfl ?_
  replace e := z_bd e; obtain ⟨x2216, ex2216, e⟩ := e
  refine z_iinc (q := 5) (v := x2216) (L' := [(6, .int x2216), (5, .int x2215), (0, z_r l0), (2, .int l2), (3, .int l3), (4, .int l4)]) dX11_ends_73 rfl (Option.some.inj ex2216) (by decide) rfl ?_
  refine z_goto (tgt := 34) dX11_ends_76 (by decide) ?_
  exact z_weak [2, 3, 4, 5, 1, 0] rfl (hk34 e)
def D_X11_ends_34b (k34 : z_H → Option Nat → Int32 → Int32 → Int32 → Int32 → Int32 → Option (Int32 × z_H)) (h : z_H) (l0 : Option Nat) (l2 : Int32) (l3 : Int32) (l4 : Int32) (l5 : Int32) (l6 : Int32) : Option (Int32 × z_H) :=
  if (25:Int32) ≤ l6 then
    some (l5, h)
  else
    (z_gQ 11 h l0 42).bind fun x2218 =>
    (D_X11_placeOf  h l2 l3 l4 l6).bind fun p2219 =>
    (z_aJ p2219.2 x2218 p2219.1).bind fun x2220 =>
    if (lg_cmp x2220 (0:Int64)) ≤ 0 then
      D_X11_ends_70  k34 p2219.2 l0 l2 l3 l4 l6 l5 (0:Int32)
    else
      D_X11_ends_70  k34 p2219.2 l0 l2 l3 l4 l6 l5 ((1:Int32) <<< (l6 &&& 31))
def D_X11_ends_34 (n : Nat) : z_H → Option Nat → Int32 → Int32 → Int32 → Int32 → Int32 → Option (Int32 × z_H) := Nat.rec (motive := fun _ => z_H → Option Nat → Int32 → Int32 → Int32 → Int32 → Int32 → Option (Int32 × z_H)) (fun _ _ _ _ _ _ _ => none) (fun _ k => D_X11_ends_34b  k) n
set_option maxRecDepth 100000 in
set_option maxHeartbeats 4000000 in
theorem S_X11_ends_34 {G : z_G} {l : Launch}  (n : Nat) : ∀ {h : z_H} {l0 : Option Nat} {l2 : Int32} {l3 : Int32} {l4 : Int32} {l5 : Int32} {l6 : Int32} {res : (Int32 × z_H)}, D_X11_ends_34  n h l0 l2 l3 l4 l5 l6 = some res → z_Run G l 12 M_X11_ends 34 [(0, z_r l0), (2, .int l2), (3, .int l3), (4, .int l4), (5, .int l5), (6, .int l6)] [] h res.2 (some (.int res.1)) := by
  induction n with
  | zero => intro h l0 l2 l3 l4 l5 l6 res e; cases e
  | succ n hk34 =>
    intro h l0 l2 l3 l4 l5 l6 res e
    replace e : D_X11_ends_34b  (D_X11_ends_34  n) h l0 l2 l3 l4 l5 l6 = some res := e
    unfold D_X11_ends_34b at e
    refine z_iload 5 dX11_ends_34 rfl ?_
    refine z_bipush (v := 25) dX11_ends_36 (by decide) ?_
    refine z_icmp_ge (tgt := 79) dX11_ends_38 (by decide) (fun c2217 => ?_) (fun c2217 => ?_)
    · rw [if_pos c2217] at e
      refine z_iload 4 dX11_ends_79 rfl ?_
      cases e
      exact z_iret dX11_ends_81 rfl
    · rw [if_neg c2217] at e
      refine z_iload 4 dX11_ends_41 rfl ?_
      refine z_aload_n 0 dX11_ends_43 rfl ?_
      replace e := z_bd e; obtain ⟨x2218, ex2218, e⟩ := e
      refine z_getQ ex2218 lk_X11_117 dX11_ends_44 ?_
      refine z_iload_n 1 dX11_ends_47 rfl ?_
      refine z_iload_n 2 dX11_ends_48 rfl ?_
      refine z_iload 3 dX11_ends_49 rfl ?_
      refine z_iload 5 dX11_ends_51 rfl ?_
      replace e := z_bd e; obtain ⟨p2219, ep2219, e⟩ := e
      refine z_cS [.int l2, .int l3, .int l4, .int l6] (S_X11_placeOf  ep2219) ml_X11_476 ck_X11_placeOf st_X11_placeOf dX11_ends_53 (by decide) rfl (by simp [z_ci, z_cj, z_cr, z_cx]) rfl ?_
      replace e := z_bd e; obtain ⟨x2220, ex2220, e⟩ := e
      refine z_lald ex2220 dX11_ends_56 ?_
      refine z_lconst (v := 0) dX11_ends_57 (by decide) ?_
      refine z_lcmp dX11_ends_58 ?_
      refine z_if_le (tgt := 69) dX11_ends_59 (by decide) (fun c2221 => ?_) (fun c2221 => ?_)
      · rw [if_pos c2221] at e
        refine z_iconst (v := 0) dX11_ends_69 (by decide) ?_
        exact z_weak [0, 1, 2, 3, 5] rfl (S_X11_ends_70  @hk34 e)
      · rw [if_neg c2221] at e
        refine z_iconst (v := 1) dX11_ends_62 (by decide) ?_
        refine z_iload 5 dX11_ends_63 rfl ?_
        refine z_ishl dX11_ends_65 ?_
        refine z_goto (tgt := 70) dX11_ends_66 (by decide) ?_
        exact z_weak [0, 1, 2, 3, 5] rfl (S_X11_ends_70  @hk34 e)
def D_X11_ends (h : z_H) (l0 : Option Nat) (l1 : Int32) (l2 : Int32) (l3 : Int32) (l4 : Int32) : Option (Int32 × z_H) :=
  (z_pV 11 h l0 0 (.int (0:Int32))).bind fun h2222 =>
  (z_ob 11 h2222 l0).bind fun _ =>
  (D_X11_canAsk  h2222 l0 l1 l2 l3 l4).bind fun p2223 =>
  if p2223.1 = 0 then
    some ((-1:Int32), p2223.2)
  else
    (z_ob 11 p2223.2 l0).bind fun _ =>
    (D_X11_layWays  p2223.2 l0 l1 l2 l3 l4).bind fun p2226 =>
    D_X11_ends_34   z_F p2226 l0 l2 l3 l4 (0:Int32) (0:Int32)
set_option maxRecDepth 100000 in
set_option maxHeartbeats 4000000 in
theorem S_X11_ends {G : z_G} {l : Launch} {h : z_H} {l0 : Option Nat} {l1 : Int32} {l2 : Int32} {l3 : Int32} {l4 : Int32} {res : (Int32 × z_H)} (e : D_X11_ends h l0 l1 l2 l3 l4 = some res) : z_Meth G l 12 M_X11_ends [z_r l0, .int l1, .int l2, .int l3, .int l4] h res.2 (some (.int res.1)) := by
  refine z_Meth.of ck_X11_ends.2.2.2.2 (by simp [lg_sl, z_ci, z_cj, z_cr, z_cx]) ck_X11_ends.1 ?_
  rw [show lv_args 0 [z_r l0, .int l1, .int l2, .int l3, .int l4] = [(0, z_r l0), (1, .int l1), (2, .int l2), (3, .int l3), (4, .int l4)] from by simp [lv_args, z_ci, z_cj, z_cr, z_cx]]
  unfold D_X11_ends at e
  refine z_aload_n 0 dX11_ends_0 rfl ?_
  refine z_iconst (v := 0) dX11_ends_1 (by decide) ?_
  replace e := z_bd e; obtain ⟨h2222, eh2222, e⟩ := e
  refine z_putV eh2222 lk_X11_166 wk_11_0 (fun _ => rfl) (fun _ => rfl) dX11_ends_2 ?_
  refine z_aload_n 0 dX11_ends_5 rfl ?_
  refine z_iload_n 1 dX11_ends_6 rfl ?_
  refine z_iload_n 2 dX11_ends_7 rfl ?_
  refine z_iload_n 3 dX11_ends_8 rfl ?_
  refine z_iload 4 dX11_ends_9 rfl ?_
  replace e := z_bd e; obtain ⟨o2224, eo2224, e⟩ := e
  replace e := z_bd e; obtain ⟨p2223, ep2223, e⟩ := e
  refine z_cV [.int l1, .int l2, .int l3, .int l4] (S_X11_canAsk  ep2223) eo2224 rfl ml_X11_481 ck_X11_canAsk vk_X11_canAsk dX11_ends_11 (by decide) rfl (Nat.zero_le _) rfl ?_
  refine z_if_ne (tgt := 19) dX11_ends_14 (by decide) (fun c2225 => ?_) (fun c2225 => ?_)
  · rw [if_neg c2225] at e
    refine z_aload_n 0 dX11_ends_19 rfl ?_
    refine z_iload_n 1 dX11_ends_20 rfl ?_
    refine z_iload_n 2 dX11_ends_21 rfl ?_
    refine z_iload_n 3 dX11_ends_22 rfl ?_
    refine z_iload 4 dX11_ends_23 rfl ?_
    replace e := z_bd e; obtain ⟨o2227, eo2227, e⟩ := e
    replace e := z_bd e; obtain ⟨p2226, ep2226, e⟩ := e
    refine z_cV [.int l1, .int l2, .int l3, .int l4] (S_X11_layWays  ep2226) eo2227 rfl ml_X11_485 ck_X11_layWays vk_X11_layWays dX11_ends_25 (by decide) rfl (Nat.zero_le _) rfl ?_
    refine z_iconst (v := 0) dX11_ends_28 (by decide) ?_
    refine z_istore (L' := [(5, .int (0:Int32)), (0, z_r l0), (1, .int l1), (2, .int l2), (3, .int l3), (4, .int l4)]) dX11_ends_29 (by decide) rfl ?_
    refine z_iconst (v := 0) dX11_ends_31 (by decide) ?_
    refine z_istore (L' := [(6, .int (0:Int32)), (5, .int (0:Int32)), (0, z_r l0), (1, .int l1), (2, .int l2), (3, .int l3), (4, .int l4)]) dX11_ends_32 (by decide) rfl ?_
    exact z_weak [2, 4, 5, 6, 1, 0] rfl (S_X11_ends_34   z_F e)
  · rw [if_pos c2225] at e
    refine z_iconst (v := -1) dX11_ends_17 (by decide) ?_
    cases e
    exact z_iret dX11_ends_18 rfl
theorem dX6_howMany_0 : decode cX6_howMany 0 = .ok (.iload_n 1, 1) := by decide +kernel
theorem dX6_howMany_1 : decode cX6_howMany 1 = .ok (.bipush 7, 2) := by decide +kernel
theorem dX6_howMany_3 : decode cX6_howMany 3 = .ok (.imul, 1) := by decide +kernel
theorem dX6_howMany_4 : decode cX6_howMany 4 = .ok (.iload_n 2, 1) := by decide +kernel
theorem dX6_howMany_5 : decode cX6_howMany 5 = .ok (.iadd, 1) := by decide +kernel
theorem dX6_howMany_6 : decode cX6_howMany 6 = .ok (.bipush 25, 2) := by decide +kernel
theorem dX6_howMany_8 : decode cX6_howMany 8 = .ok (.imul, 1) := by decide +kernel
theorem dX6_howMany_9 : decode cX6_howMany 9 = .ok (.istore_n 3, 1) := by decide +kernel
theorem dX6_howMany_10 : decode cX6_howMany 10 = .ok (.lconst 0, 1) := by decide +kernel
theorem dX6_howMany_11 : decode cX6_howMany 11 = .ok (.lstore 4, 2) := by decide +kernel
theorem dX6_howMany_13 : decode cX6_howMany 13 = .ok (.iconst 0, 1) := by decide +kernel
theorem dX6_howMany_14 : decode cX6_howMany 14 = .ok (.istore 6, 2) := by decide +kernel
theorem dX6_howMany_16 : decode cX6_howMany 16 = .ok (.iload 6, 2) := by decide +kernel
theorem dX6_howMany_18 : decode cX6_howMany 18 = .ok (.bipush 25, 2) := by decide +kernel
theorem dX6_howMany_20 : decode cX6_howMany 20 = .ok (.if_icmp .ge 23, 3) := by decide +kernel
theorem dX6_howMany_23 : decode cX6_howMany 23 = .ok (.lload 4, 2) := by decide +kernel
theorem dX6_howMany_25 : decode cX6_howMany 25 = .ok (.aload_n 0, 1) := by decide +kernel
theorem dX6_howMany_26 : decode cX6_howMany 26 = .ok (.getfield 11, 3) := by decide +kernel
theorem dX6_howMany_29 : decode cX6_howMany 29 = .ok (.iload_n 3, 1) := by decide +kernel
theorem dX6_howMany_30 : decode cX6_howMany 30 = .ok (.iload 6, 2) := by decide +kernel
theorem dX6_howMany_32 : decode cX6_howMany 32 = .ok (.iadd, 1) := by decide +kernel
theorem dX6_howMany_33 : decode cX6_howMany 33 = .ok (.laload, 1) := by decide +kernel
theorem dX6_howMany_34 : decode cX6_howMany 34 = .ok (.ladd, 1) := by decide +kernel
theorem dX6_howMany_35 : decode cX6_howMany 35 = .ok (.lstore 4, 2) := by decide +kernel
theorem dX6_howMany_37 : decode cX6_howMany 37 = .ok (.iinc 6 1, 3) := by decide +kernel
theorem dX6_howMany_40 : decode cX6_howMany 40 = .ok (.goto (-24), 3) := by decide +kernel
theorem dX6_howMany_43 : decode cX6_howMany 43 = .ok (.lload 4, 2) := by decide +kernel
theorem dX6_howMany_45 : decode cX6_howMany 45 = .ok (.lreturn, 1) := by decide +kernel
def D_X6_howMany_16b (k16 : z_H → Option Nat → Int32 → Int64 → Int32 → Option (Int64 × z_H)) (h : z_H) (l0 : Option Nat) (l3 : Int32) (l4 : Int64) (l6 : Int32) : Option (Int64 × z_H) :=
  if (25:Int32) ≤ l6 then
    some (l4, h)
  else
    (z_gQ 6 h l0 1).bind fun x2229 =>
    (z_aJ h x2229 (l3 + l6)).bind fun x2230 =>
    (some (l4 + x2230)).bind fun x2231 =>
    (some (l6 + (1:Int32))).bind fun x2232 =>
    k16 h l0 l3 x2231 x2232
def D_X6_howMany_16 (n : Nat) : z_H → Option Nat → Int32 → Int64 → Int32 → Option (Int64 × z_H) := Nat.rec (motive := fun _ => z_H → Option Nat → Int32 → Int64 → Int32 → Option (Int64 × z_H)) (fun _ _ _ _ _ => none) (fun _ k => D_X6_howMany_16b  k) n
set_option maxRecDepth 100000 in
set_option maxHeartbeats 4000000 in
theorem S_X6_howMany_16 {G : z_G} {l : Launch}  (n : Nat) : ∀ {h : z_H} {l0 : Option Nat} {l3 : Int32} {l4 : Int64} {l6 : Int32} {res : (Int64 × z_H)}, D_X6_howMany_16  n h l0 l3 l4 l6 = some res → z_Run G l 4 M_X6_howMany 16 [(0, z_r l0), (3, .int l3), (4, .long l4), (6, .int l6)] [] h res.2 (some (.long res.1)) := by
  induction n with
  | zero => intro h l0 l3 l4 l6 res e; cases e
  | succ n hk16 =>
    intro h l0 l3 l4 l6 res e
    replace e : D_X6_howMany_16b  (D_X6_howMany_16  n) h l0 l3 l4 l6 = some res := e
    unfold D_X6_howMany_16b at e
    refine z_iload 3 dX6_howMany_16 rfl ?_
    refine z_bipush (v := 25) dX6_howMany_18 (by decide) ?_
    refine z_icmp_ge (tgt := 43) dX6_howMany_20 (by decide) (fun c2228 => ?_) (fun c2228 => ?_)
    · rw [if_pos c2228] at e
      refine z_lload 2 dX6_howMany_43 rfl ?_
      cases e
      exact z_lret dX6_howMany_45 rfl
    · rw [if_neg c2228] at e
      refine z_lload 2 dX6_howMany_23 rfl ?_
      refine z_aload_n 0 dX6_howMany_25 rfl ?_
      replace e := z_bd e; obtain ⟨x2229, ex2229, e⟩ := e
      refine z_getQ ex2229 lk_X6_11 dX6_howMany_26 ?_
      refine z_iload_n 1 dX6_howMany_29 rfl ?_
      refine z_iload 3 dX6_howMany_30 rfl ?_
      refine z_iadd dX6_howMany_32 ?_
      replace e := z_bd e; obtain ⟨x2230, ex2230, e⟩ := e
      refine z_lald ex2230 dX6_howMany_33 ?_
      refine z_ladd dX6_howMany_34 ?_
      replace e := z_bd e; obtain ⟨x2231, ex2231, e⟩ := e
      refine z_topJ ex2231 ?_
      refine z_lstore (L' := [(4, .long x2231), (0, z_r l0), (3, .int l3), (6, .int l6)]) dX6_howMany_35 (by decide) rfl ?_
      replace e := z_bd e; obtain ⟨x2232, ex2232, e⟩ := e
      refine z_iinc (q := 3) (v := x2232) (L' := [(6, .int x2232), (4, .long x2231), (0, z_r l0), (3, .int l3)]) dX6_howMany_37 rfl (Option.some.inj ex2232) (by decide) rfl ?_
      refine z_goto (tgt := 16) dX6_howMany_40 (by decide) ?_
      exact z_weak [2, 3, 1, 0] rfl (hk16 e)
def D_X6_howMany (h : z_H) (l0 : Option Nat) (l1 : Int32) (l2 : Int32) : Option (Int64 × z_H) :=
  (some (((l1 * (7:Int32)) + l2) * (25:Int32))).bind fun x2233 =>
  D_X6_howMany_16   z_F h l0 x2233 (0:Int64) (0:Int32)
set_option maxRecDepth 100000 in
set_option maxHeartbeats 4000000 in
theorem S_X6_howMany {G : z_G} {l : Launch} {h : z_H} {l0 : Option Nat} {l1 : Int32} {l2 : Int32} {res : (Int64 × z_H)} (e : D_X6_howMany h l0 l1 l2 = some res) : z_Meth G l 4 M_X6_howMany [z_r l0, .int l1, .int l2] h res.2 (some (.long res.1)) := by
  refine z_Meth.of ck_X6_howMany.2.2.2.2 (by simp [lg_sl, z_ci, z_cj, z_cr, z_cx]) ck_X6_howMany.1 ?_
  rw [show lv_args 0 [z_r l0, .int l1, .int l2] = [(0, z_r l0), (1, .int l1), (2, .int l2)] from by simp [lv_args, z_ci, z_cj, z_cr, z_cx]]
  unfold D_X6_howMany at e
  refine z_iload_n 1 dX6_howMany_0 rfl ?_
  refine z_bipush (v := 7) dX6_howMany_1 (by decide) ?_
  refine z_imul dX6_howMany_3 ?_
  refine z_iload_n 2 dX6_howMany_4 rfl ?_
  refine z_iadd dX6_howMany_5 ?_
  refine z_bipush (v := 25) dX6_howMany_6 (by decide) ?_
  refine z_imul dX6_howMany_8 ?_
  replace e := z_bd e; obtain ⟨x2233, ex2233, e⟩ := e
  refine z_topI ex2233 ?_
  refine z_istore_n (L' := [(3, .int x2233), (0, z_r l0), (1, .int l1), (2, .int l2)]) dX6_howMany_9 rfl (by decide) rfl ?_
  refine z_lconst (v := 0) dX6_howMany_10 (by decide) ?_
  refine z_lstore (L' := [(4, .long (0:Int64)), (3, .int x2233), (0, z_r l0), (1, .int l1), (2, .int l2)]) dX6_howMany_11 (by decide) rfl ?_
  refine z_iconst (v := 0) dX6_howMany_13 (by decide) ?_
  refine z_istore (L' := [(6, .int (0:Int32)), (4, .long (0:Int64)), (3, .int x2233), (0, z_r l0), (1, .int l1), (2, .int l2)]) dX6_howMany_14 (by decide) rfl ?_
  exact z_weak [3, 2, 1, 0] rfl (S_X6_howMany_16   z_F e)
theorem dX10_ways_0 : decode cX10_ways 0 = .ok (.aload_n 0, 1) := by decide +kernel
theorem dX10_ways_1 : decode cX10_ways 1 = .ok (.iload_n 1, 1) := by decide +kernel
theorem dX10_ways_2 : decode cX10_ways 2 = .ok (.iload_n 2, 1) := by decide +kernel
theorem dX10_ways_3 : decode cX10_ways 3 = .ok (.iload_n 3, 1) := by decide +kernel
theorem dX10_ways_4 : decode cX10_ways 4 = .ok (.iload 4, 2) := by decide +kernel
theorem dX10_ways_6 : decode cX10_ways 6 = .ok (.invokevirtual 225, 3) := by decide +kernel
theorem dX10_ways_9 : decode cX10_ways 9 = .ok (.ifCond .ne 7, 3) := by decide +kernel
theorem dX10_ways_12 : decode cX10_ways 12 = .ok (.ldc2_w 229, 3) := by decide +kernel
theorem dX10_ways_15 : decode cX10_ways 15 = .ok (.lreturn, 1) := by decide +kernel
theorem dX10_ways_16 : decode cX10_ways 16 = .ok (.aload_n 0, 1) := by decide +kernel
theorem dX10_ways_17 : decode cX10_ways 17 = .ok (.getfield 78, 3) := by decide +kernel
theorem dX10_ways_20 : decode cX10_ways 20 = .ok (.aload_n 0, 1) := by decide +kernel
theorem dX10_ways_21 : decode cX10_ways 21 = .ok (.getfield 12, 3) := by decide +kernel
theorem dX10_ways_24 : decode cX10_ways 24 = .ok (.iload_n 1, 1) := by decide +kernel
theorem dX10_ways_25 : decode cX10_ways 25 = .ok (.iload_n 2, 1) := by decide +kernel
theorem dX10_ways_26 : decode cX10_ways 26 = .ok (.iload_n 3, 1) := by decide +kernel
theorem dX10_ways_27 : decode cX10_ways 27 = .ok (.iload 4, 2) := by decide +kernel
theorem dX10_ways_29 : decode cX10_ways 29 = .ok (.invokevirtual 231, 3) := by decide +kernel
theorem dX10_ways_32 : decode cX10_ways 32 = .ok (.aload_n 0, 1) := by decide +kernel
theorem dX10_ways_33 : decode cX10_ways 33 = .ok (.getfield 78, 3) := by decide +kernel
theorem dX10_ways_36 : decode cX10_ways 36 = .ok (.iload_n 3, 1) := by decide +kernel
theorem dX10_ways_37 : decode cX10_ways 37 = .ok (.iload 4, 2) := by decide +kernel
theorem dX10_ways_39 : decode cX10_ways 39 = .ok (.invokevirtual 235, 3) := by decide +kernel
theorem dX10_ways_42 : decode cX10_ways 42 = .ok (.lreturn, 1) := by decide +kernel
def D_X10_ways (h : z_H) (l0 : Option Nat) (l1 : Int32) (l2 : Int32) (l3 : Int32) (l4 : Int32) : Option (Int64 × z_H) :=
  (z_ob 10 h l0).bind fun _ =>
  (D_X10_canCountWays  h l0 l1 l2 l3 l4).bind fun p2234 =>
  if p2234.1 = 0 then
    some ((-1:Int64), p2234.2)
  else
    (z_gQ 10 p2234.2 l0 10).bind fun x2237 =>
    (z_gQ 10 p2234.2 l0 0).bind fun x2238 =>
    (z_ob 6 p2234.2 x2237).bind fun _ =>
    (D_X6_countWays  p2234.2 x2237 x2238 l1 l2 l3 l4).bind fun p2239 =>
    (z_gQ 10 p2239 l0 10).bind fun x2241 =>
    (z_ob 6 p2239 x2241).bind fun _ =>
    (D_X6_howMany  p2239 x2241 l3 l4).bind fun p2242 =>
    some (p2242.1, p2242.2)
set_option maxRecDepth 100000 in
set_option maxHeartbeats 4000000 in
theorem S_X10_ways {G : z_G} {l : Launch} {h : z_H} {l0 : Option Nat} {l1 : Int32} {l2 : Int32} {l3 : Int32} {l4 : Int32} {res : (Int64 × z_H)} (e : D_X10_ways h l0 l1 l2 l3 l4 = some res) : z_Meth G l 10 M_X10_ways [z_r l0, .int l1, .int l2, .int l3, .int l4] h res.2 (some (.long res.1)) := by
  refine z_Meth.of ck_X10_ways.2.2.2.2 (by simp [lg_sl, z_ci, z_cj, z_cr, z_cx]) ck_X10_ways.1 ?_
  rw [show lv_args 0 [z_r l0, .int l1, .int l2, .int l3, .int l4] = [(0, z_r l0), (1, .int l1), (2, .int l2), (3, .int l3), (4, .int l4)] from by simp [lv_args, z_ci, z_cj, z_cr, z_cx]]
  unfold D_X10_ways at e
  refine z_aload_n 0 dX10_ways_0 rfl ?_
  refine z_iload_n 1 dX10_ways_1 rfl ?_
  refine z_iload_n 2 dX10_ways_2 rfl ?_
  refine z_iload_n 3 dX10_ways_3 rfl ?_
  refine z_iload 4 dX10_ways_4 rfl ?_
  replace e := z_bd e; obtain ⟨o2235, eo2235, e⟩ := e
  replace e := z_bd e; obtain ⟨p2234, ep2234, e⟩ := e
  refine z_cV [.int l1, .int l2, .int l3, .int l4] (S_X10_canCountWays  ep2234) eo2235 rfl ml_X10_225 ck_X10_canCountWays vk_X10_canCountWays dX10_ways_6 (by decide) rfl (Nat.zero_le _) rfl ?_
  refine z_if_ne (tgt := 16) dX10_ways_9 (by decide) (fun c2236 => ?_) (fun c2236 => ?_)
  · rw [if_neg c2236] at e
    refine z_aload_n 0 dX10_ways_16 rfl ?_
    replace e := z_bd e; obtain ⟨x2237, ex2237, e⟩ := e
    refine z_getQ ex2237 lk_X10_78 dX10_ways_17 ?_
    refine z_aload_n 0 dX10_ways_20 rfl ?_
    replace e := z_bd e; obtain ⟨x2238, ex2238, e⟩ := e
    refine z_getQ ex2238 lk_X10_12 dX10_ways_21 ?_
    refine z_iload_n 1 dX10_ways_24 rfl ?_
    refine z_iload_n 2 dX10_ways_25 rfl ?_
    refine z_iload_n 3 dX10_ways_26 rfl ?_
    refine z_iload 4 dX10_ways_27 rfl ?_
    replace e := z_bd e; obtain ⟨o2240, eo2240, e⟩ := e
    replace e := z_bd e; obtain ⟨p2239, ep2239, e⟩ := e
    refine z_cV [z_r x2238, .int l1, .int l2, .int l3, .int l4] (S_X6_countWays  ep2239) eo2240 rfl ml_X10_231 ck_X6_countWays vk_X6_countWays dX10_ways_29 (by decide) rfl (Nat.zero_le _) rfl ?_
    refine z_aload_n 0 dX10_ways_32 rfl ?_
    replace e := z_bd e; obtain ⟨x2241, ex2241, e⟩ := e
    refine z_getQ ex2241 lk_X10_78 dX10_ways_33 ?_
    refine z_iload_n 3 dX10_ways_36 rfl ?_
    refine z_iload 4 dX10_ways_37 rfl ?_
    replace e := z_bd e; obtain ⟨o2243, eo2243, e⟩ := e
    replace e := z_bd e; obtain ⟨p2242, ep2242, e⟩ := e
    refine z_cV [.int l3, .int l4] (S_X6_howMany  ep2242) eo2243 rfl ml_X10_235 ck_X6_howMany vk_X6_howMany dX10_ways_39 (by decide) rfl (Nat.zero_le _) rfl ?_
    cases e
    exact z_lret dX10_ways_42 rfl
  · rw [if_pos c2236] at e
    refine z_ldc2 dX10_ways_12 kj_X10_229 ?_
    cases e
    exact z_lret dX10_ways_15 rfl
theorem dX11_ways_0 : decode cX11_ways 0 = .ok (.aload_n 0, 1) := by decide +kernel
theorem dX11_ways_1 : decode cX11_ways 1 = .ok (.iconst 0, 1) := by decide +kernel
theorem dX11_ways_2 : decode cX11_ways 2 = .ok (.putfield 166, 3) := by decide +kernel
theorem dX11_ways_5 : decode cX11_ways 5 = .ok (.aload_n 0, 1) := by decide +kernel
theorem dX11_ways_6 : decode cX11_ways 6 = .ok (.iload_n 1, 1) := by decide +kernel
theorem dX11_ways_7 : decode cX11_ways 7 = .ok (.iload_n 2, 1) := by decide +kernel
theorem dX11_ways_8 : decode cX11_ways 8 = .ok (.iload_n 3, 1) := by decide +kernel
theorem dX11_ways_9 : decode cX11_ways 9 = .ok (.iload 4, 2) := by decide +kernel
theorem dX11_ways_11 : decode cX11_ways 11 = .ok (.invokevirtual 481, 3) := by decide +kernel
theorem dX11_ways_14 : decode cX11_ways 14 = .ok (.ifCond .ne 7, 3) := by decide +kernel
theorem dX11_ways_17 : decode cX11_ways 17 = .ok (.ldc2_w 278, 3) := by decide +kernel
theorem dX11_ways_20 : decode cX11_ways 20 = .ok (.lreturn, 1) := by decide +kernel
theorem dX11_ways_21 : decode cX11_ways 21 = .ok (.aload_n 0, 1) := by decide +kernel
theorem dX11_ways_22 : decode cX11_ways 22 = .ok (.iload_n 1, 1) := by decide +kernel
theorem dX11_ways_23 : decode cX11_ways 23 = .ok (.iload_n 2, 1) := by decide +kernel
theorem dX11_ways_24 : decode cX11_ways 24 = .ok (.iload_n 3, 1) := by decide +kernel
theorem dX11_ways_25 : decode cX11_ways 25 = .ok (.iload 4, 2) := by decide +kernel
theorem dX11_ways_27 : decode cX11_ways 27 = .ok (.invokevirtual 485, 3) := by decide +kernel
theorem dX11_ways_30 : decode cX11_ways 30 = .ok (.lconst 0, 1) := by decide +kernel
theorem dX11_ways_31 : decode cX11_ways 31 = .ok (.lstore 5, 2) := by decide +kernel
theorem dX11_ways_33 : decode cX11_ways 33 = .ok (.iconst 0, 1) := by decide +kernel
theorem dX11_ways_34 : decode cX11_ways 34 = .ok (.istore 7, 2) := by decide +kernel
theorem dX11_ways_36 : decode cX11_ways 36 = .ok (.iload 7, 2) := by decide +kernel
theorem dX11_ways_38 : decode cX11_ways 38 = .ok (.bipush 25, 2) := by decide +kernel
theorem dX11_ways_40 : decode cX11_ways 40 = .ok (.if_icmp .ge 28, 3) := by decide +kernel
theorem dX11_ways_43 : decode cX11_ways 43 = .ok (.lload 5, 2) := by decide +kernel
theorem dX11_ways_45 : decode cX11_ways 45 = .ok (.aload_n 0, 1) := by decide +kernel
theorem dX11_ways_46 : decode cX11_ways 46 = .ok (.getfield 117, 3) := by decide +kernel
theorem dX11_ways_49 : decode cX11_ways 49 = .ok (.iload_n 2, 1) := by decide +kernel
theorem dX11_ways_50 : decode cX11_ways 50 = .ok (.iload_n 3, 1) := by decide +kernel
theorem dX11_ways_51 : decode cX11_ways 51 = .ok (.iload 4, 2) := by decide +kernel
theorem dX11_ways_53 : decode cX11_ways 53 = .ok (.iload 7, 2) := by decide +kernel
theorem dX11_ways_55 : decode cX11_ways 55 = .ok (.invokestatic 476, 3) := by decide +kernel
theorem dX11_ways_58 : decode cX11_ways 58 = .ok (.laload, 1) := by decide +kernel
theorem dX11_ways_59 : decode cX11_ways 59 = .ok (.ladd, 1) := by decide +kernel
theorem dX11_ways_60 : decode cX11_ways 60 = .ok (.lstore 5, 2) := by decide +kernel
theorem dX11_ways_62 : decode cX11_ways 62 = .ok (.iinc 7 1, 3) := by decide +kernel
theorem dX11_ways_65 : decode cX11_ways 65 = .ok (.goto (-29), 3) := by decide +kernel
theorem dX11_ways_68 : decode cX11_ways 68 = .ok (.lload 5, 2) := by decide +kernel
theorem dX11_ways_70 : decode cX11_ways 70 = .ok (.lreturn, 1) := by decide +kernel
def D_X11_ways_36b (k36 : z_H → Option Nat → Int32 → Int32 → Int32 → Int64 → Int32 → Option (Int64 × z_H)) (h : z_H) (l0 : Option Nat) (l2 : Int32) (l3 : Int32) (l4 : Int32) (l5 : Int64) (l7 : Int32) : Option (Int64 × z_H) :=
  if (25:Int32) ≤ l7 then
    some (l5, h)
  else
    (z_gQ 11 h l0 42).bind fun x2245 =>
    (D_X11_placeOf  h l2 l3 l4 l7).bind fun p2246 =>
    (z_aJ p2246.2 x2245 p2246.1).bind fun x2247 =>
    (some (l5 + x2247)).bind fun x2248 =>
    (some (l7 + (1:Int32))).bind fun x2249 =>
    k36 p2246.2 l0 l2 l3 l4 x2248 x2249
def D_X11_ways_36 (n : Nat) : z_H → Option Nat → Int32 → Int32 → Int32 → Int64 → Int32 → Option (Int64 × z_H) := Nat.rec (motive := fun _ => z_H → Option Nat → Int32 → Int32 → Int32 → Int64 → Int32 → Option (Int64 × z_H)) (fun _ _ _ _ _ _ _ => none) (fun _ k => D_X11_ways_36b  k) n
set_option maxRecDepth 100000 in
set_option maxHeartbeats 4000000 in
theorem S_X11_ways_36 {G : z_G} {l : Launch}  (n : Nat) : ∀ {h : z_H} {l0 : Option Nat} {l2 : Int32} {l3 : Int32} {l4 : Int32} {l5 : Int64} {l7 : Int32} {res : (Int64 × z_H)}, D_X11_ways_36  n h l0 l2 l3 l4 l5 l7 = some res → z_Run G l 12 M_X11_ways 36 [(0, z_r l0), (2, .int l2), (3, .int l3), (4, .int l4), (5, .long l5), (7, .int l7)] [] h res.2 (some (.long res.1)) := by
  induction n with
  | zero => intro h l0 l2 l3 l4 l5 l7 res e; cases e
  | succ n hk36 =>
    intro h l0 l2 l3 l4 l5 l7 res e
    replace e : D_X11_ways_36b  (D_X11_ways_36  n) h l0 l2 l3 l4 l5 l7 = some res := e
    unfold D_X11_ways_36b at e
    refine z_iload 5 dX11_ways_36 rfl ?_
    refine z_bipush (v := 25) dX11_ways_38 (by decide) ?_
    refine z_icmp_ge (tgt := 68) dX11_ways_40 (by decide) (fun c2244 => ?_) (fun c2244 => ?_)
    · rw [if_pos c2244] at e
      refine z_lload 4 dX11_ways_68 rfl ?_
      cases e
      exact z_lret dX11_ways_70 rfl
    · rw [if_neg c2244] at e
      refine z_lload 4 dX11_ways_43 rfl ?_
      refine z_aload_n 0 dX11_ways_45 rfl ?_
      replace e := z_bd e; obtain ⟨x2245, ex2245, e⟩ := e
      refine z_getQ ex2245 lk_X11_117 dX11_ways_46 ?_
      refine z_iload_n 1 dX11_ways_49 rfl ?_
      refine z_iload_n 2 dX11_ways_50 rfl ?_
      refine z_iload 3 dX11_ways_51 rfl ?_
      refine z_iload 5 dX11_ways_53 rfl ?_
      replace e := z_bd e; obtain ⟨p2246, ep2246, e⟩ := e
      refine z_cS [.int l2, .int l3, .int l4, .int l7] (S_X11_placeOf  ep2246) ml_X11_476 ck_X11_placeOf st_X11_placeOf dX11_ways_55 (by decide) rfl (by simp [z_ci, z_cj, z_cr, z_cx]) rfl ?_
      replace e := z_bd e; obtain ⟨x2247, ex2247, e⟩ := e
      refine z_lald ex2247 dX11_ways_58 ?_
      refine z_ladd dX11_ways_59 ?_
      replace e := z_bd e; obtain ⟨x2248, ex2248, e⟩ := e
      refine z_topJ ex2248 ?_
      refine z_lstore (L' := [(5, .long x2248), (0, z_r l0), (2, .int l2), (3, .int l3), (4, .int l4), (7, .int l7)]) dX11_ways_60 (by decide) rfl ?_
      replace e := z_bd e; obtain ⟨x2249, ex2249, e⟩ := e
      refine z_iinc (q := 5) (v := x2249) (L' := [(7, .int x2249), (5, .long x2248), (0, z_r l0), (2, .int l2), (3, .int l3), (4, .int l4)]) dX11_ways_62 rfl (Option.some.inj ex2249) (by decide) rfl ?_
      refine z_goto (tgt := 36) dX11_ways_65 (by decide) ?_
      exact z_weak [2, 3, 4, 5, 1, 0] rfl (hk36 e)
def D_X11_ways (h : z_H) (l0 : Option Nat) (l1 : Int32) (l2 : Int32) (l3 : Int32) (l4 : Int32) : Option (Int64 × z_H) :=
  (z_pV 11 h l0 0 (.int (0:Int32))).bind fun h2250 =>
  (z_ob 11 h2250 l0).bind fun _ =>
  (D_X11_canAsk  h2250 l0 l1 l2 l3 l4).bind fun p2251 =>
  if p2251.1 = 0 then
    some ((-1:Int64), p2251.2)
  else
    (z_ob 11 p2251.2 l0).bind fun _ =>
    (D_X11_layWays  p2251.2 l0 l1 l2 l3 l4).bind fun p2254 =>
    D_X11_ways_36   z_F p2254 l0 l2 l3 l4 (0:Int64) (0:Int32)
set_option maxRecDepth 100000 in
set_option maxHeartbeats 4000000 in
theorem S_X11_ways {G : z_G} {l : Launch} {h : z_H} {l0 : Option Nat} {l1 : Int32} {l2 : Int32} {l3 : Int32} {l4 : Int32} {res : (Int64 × z_H)} (e : D_X11_ways h l0 l1 l2 l3 l4 = some res) : z_Meth G l 12 M_X11_ways [z_r l0, .int l1, .int l2, .int l3, .int l4] h res.2 (some (.long res.1)) := by
  refine z_Meth.of ck_X11_ways.2.2.2.2 (by simp [lg_sl, z_ci, z_cj, z_cr, z_cx]) ck_X11_ways.1 ?_
  rw [show lv_args 0 [z_r l0, .int l1, .int l2, .int l3, .int l4] = [(0, z_r l0), (1, .int l1), (2, .int l2), (3, .int l3), (4, .int l4)] from by simp [lv_args, z_ci, z_cj, z_cr, z_cx]]
  unfold D_X11_ways at e
  refine z_aload_n 0 dX11_ways_0 rfl ?_
  refine z_iconst (v := 0) dX11_ways_1 (by decide) ?_
  replace e := z_bd e; obtain ⟨h2250, eh2250, e⟩ := e
  refine z_putV eh2250 lk_X11_166 wk_11_0 (fun _ => rfl) (fun _ => rfl) dX11_ways_2 ?_
  refine z_aload_n 0 dX11_ways_5 rfl ?_
  refine z_iload_n 1 dX11_ways_6 rfl ?_
  refine z_iload_n 2 dX11_ways_7 rfl ?_
  refine z_iload_n 3 dX11_ways_8 rfl ?_
  refine z_iload 4 dX11_ways_9 rfl ?_
  replace e := z_bd e; obtain ⟨o2252, eo2252, e⟩ := e
  replace e := z_bd e; obtain ⟨p2251, ep2251, e⟩ := e
  refine z_cV [.int l1, .int l2, .int l3, .int l4] (S_X11_canAsk  ep2251) eo2252 rfl ml_X11_481 ck_X11_canAsk vk_X11_canAsk dX11_ways_11 (by decide) rfl (Nat.zero_le _) rfl ?_
  refine z_if_ne (tgt := 21) dX11_ways_14 (by decide) (fun c2253 => ?_) (fun c2253 => ?_)
  · rw [if_neg c2253] at e
    refine z_aload_n 0 dX11_ways_21 rfl ?_
    refine z_iload_n 1 dX11_ways_22 rfl ?_
    refine z_iload_n 2 dX11_ways_23 rfl ?_
    refine z_iload_n 3 dX11_ways_24 rfl ?_
    refine z_iload 4 dX11_ways_25 rfl ?_
    replace e := z_bd e; obtain ⟨o2255, eo2255, e⟩ := e
    replace e := z_bd e; obtain ⟨p2254, ep2254, e⟩ := e
    refine z_cV [.int l1, .int l2, .int l3, .int l4] (S_X11_layWays  ep2254) eo2255 rfl ml_X11_485 ck_X11_layWays vk_X11_layWays dX11_ways_27 (by decide) rfl (Nat.zero_le _) rfl ?_
    refine z_lconst (v := 0) dX11_ways_30 (by decide) ?_
    refine z_lstore (L' := [(5, .long (0:Int64)), (0, z_r l0), (1, .int l1), (2, .int l2), (3, .int l3), (4, .int l4)]) dX11_ways_31 (by decide) rfl ?_
    refine z_iconst (v := 0) dX11_ways_33 (by decide) ?_
    refine z_istore (L' := [(7, .int (0:Int32)), (5, .long (0:Int64)), (0, z_r l0), (1, .int l1), (2, .int l2), (3, .int l3), (4, .int l4)]) dX11_ways_34 (by decide) rfl ?_
    exact z_weak [2, 4, 5, 6, 1, 0] rfl (S_X11_ways_36   z_F e)
  · rw [if_pos c2253] at e
    refine z_ldc2 dX11_ways_17 kj_X11_278 ?_
    cases e
    exact z_lret dX11_ways_20 rfl
theorem dX8_takeBack_0 : decode cX8_takeBack 0 = .ok (.aload_n 0, 1) := by decide +kernel
theorem dX8_takeBack_1 : decode cX8_takeBack 1 = .ok (.getfield 15, 3) := by decide +kernel
theorem dX8_takeBack_4 : decode cX8_takeBack 4 = .ok (.ifCond .ne 6, 3) := by decide +kernel
theorem dX8_takeBack_7 : decode cX8_takeBack 7 = .ok (.bipush (-3), 2) := by decide +kernel
theorem dX8_takeBack_9 : decode cX8_takeBack 9 = .ok (.ireturn, 1) := by decide +kernel
theorem dX8_takeBack_10 : decode cX8_takeBack 10 = .ok (.aload_n 0, 1) := by decide +kernel
theorem dX8_takeBack_11 : decode cX8_takeBack 11 = .ok (.dup, 1) := by decide +kernel
theorem dX8_takeBack_12 : decode cX8_takeBack 12 = .ok (.getfield 15, 3) := by decide +kernel
theorem dX8_takeBack_15 : decode cX8_takeBack 15 = .ok (.iconst 1, 1) := by decide +kernel
theorem dX8_takeBack_16 : decode cX8_takeBack 16 = .ok (.isub, 1) := by decide +kernel
theorem dX8_takeBack_17 : decode cX8_takeBack 17 = .ok (.putfield 15, 3) := by decide +kernel
theorem dX8_takeBack_20 : decode cX8_takeBack 20 = .ok (.aload_n 0, 1) := by decide +kernel
theorem dX8_takeBack_21 : decode cX8_takeBack 21 = .ok (.getfield 15, 3) := by decide +kernel
theorem dX8_takeBack_24 : decode cX8_takeBack 24 = .ok (.bipush 7, 2) := by decide +kernel
theorem dX8_takeBack_26 : decode cX8_takeBack 26 = .ok (.imul, 1) := by decide +kernel
theorem dX8_takeBack_27 : decode cX8_takeBack 27 = .ok (.istore_n 2, 1) := by decide +kernel
theorem dX8_takeBack_28 : decode cX8_takeBack 28 = .ok (.aload_n 0, 1) := by decide +kernel
theorem dX8_takeBack_29 : decode cX8_takeBack 29 = .ok (.getfield 11, 3) := by decide +kernel
theorem dX8_takeBack_32 : decode cX8_takeBack 32 = .ok (.iload_n 2, 1) := by decide +kernel
theorem dX8_takeBack_33 : decode cX8_takeBack 33 = .ok (.iconst 1, 1) := by decide +kernel
theorem dX8_takeBack_34 : decode cX8_takeBack 34 = .ok (.iadd, 1) := by decide +kernel
theorem dX8_takeBack_35 : decode cX8_takeBack 35 = .ok (.iaload, 1) := by decide +kernel
theorem dX8_takeBack_36 : decode cX8_takeBack 36 = .ok (.istore_n 3, 1) := by decide +kernel
theorem dX8_takeBack_37 : decode cX8_takeBack 37 = .ok (.aload_n 1, 1) := by decide +kernel
theorem dX8_takeBack_38 : decode cX8_takeBack 38 = .ok (.iload_n 3, 1) := by decide +kernel
theorem dX8_takeBack_39 : decode cX8_takeBack 39 = .ok (.invokevirtual 25, 3) := by decide +kernel
theorem dX8_takeBack_42 : decode cX8_takeBack 42 = .ok (.ifCond .eq 56, 3) := by decide +kernel
theorem dX8_takeBack_45 : decode cX8_takeBack 45 = .ok (.aload_n 1, 1) := by decide +kernel
theorem dX8_takeBack_46 : decode cX8_takeBack 46 = .ok (.getfield 31, 3) := by decide +kernel
theorem dX8_takeBack_49 : decode cX8_takeBack 49 = .ok (.iload_n 3, 1) := by decide +kernel
theorem dX8_takeBack_50 : decode cX8_takeBack 50 = .ok (.aload_n 0, 1) := by decide +kernel
theorem dX8_takeBack_51 : decode cX8_takeBack 51 = .ok (.getfield 11, 3) := by decide +kernel
theorem dX8_takeBack_54 : decode cX8_takeBack 54 = .ok (.iload_n 2, 1) := by decide +kernel
theorem dX8_takeBack_55 : decode cX8_takeBack 55 = .ok (.iconst 2, 1) := by decide +kernel
theorem dX8_takeBack_56 : decode cX8_takeBack 56 = .ok (.iadd, 1) := by decide +kernel
theorem dX8_takeBack_57 : decode cX8_takeBack 57 = .ok (.iaload, 1) := by decide +kernel
theorem dX8_takeBack_58 : decode cX8_takeBack 58 = .ok (.iastore, 1) := by decide +kernel
theorem dX8_takeBack_59 : decode cX8_takeBack 59 = .ok (.aload_n 1, 1) := by decide +kernel
theorem dX8_takeBack_60 : decode cX8_takeBack 60 = .ok (.getfield 34, 3) := by decide +kernel
theorem dX8_takeBack_63 : decode cX8_takeBack 63 = .ok (.iload_n 3, 1) := by decide +kernel
theorem dX8_takeBack_64 : decode cX8_takeBack 64 = .ok (.aload_n 0, 1) := by decide +kernel
theorem dX8_takeBack_65 : decode cX8_takeBack 65 = .ok (.getfield 11, 3) := by decide +kernel
theorem dX8_takeBack_68 : decode cX8_takeBack 68 = .ok (.iload_n 2, 1) := by decide +kernel
theorem dX8_takeBack_69 : decode cX8_takeBack 69 = .ok (.iconst 3, 1) := by decide +kernel
theorem dX8_takeBack_70 : decode cX8_takeBack 70 = .ok (.iadd, 1) := by decide +kernel
theorem dX8_takeBack_71 : decode cX8_takeBack 71 = .ok (.iaload, 1) := by decide +kernel
theorem dX8_takeBack_72 : decode cX8_takeBack 72 = .ok (.iastore, 1) := by decide +kernel
theorem dX8_takeBack_73 : decode cX8_takeBack 73 = .ok (.aload_n 1, 1) := by decide +kernel
theorem dX8_takeBack_74 : decode cX8_takeBack 74 = .ok (.getfield 37, 3) := by decide +kernel
theorem dX8_takeBack_77 : decode cX8_takeBack 77 = .ok (.iload_n 3, 1) := by decide +kernel
theorem dX8_takeBack_78 : decode cX8_takeBack 78 = .ok (.iconst 4, 1) := by decide +kernel
theorem dX8_takeBack_79 : decode cX8_takeBack 79 = .ok (.imul, 1) := by decide +kernel
theorem dX8_takeBack_80 : decode cX8_takeBack 80 = .ok (.aload_n 0, 1) := by decide +kernel
theorem dX8_takeBack_81 : decode cX8_takeBack 81 = .ok (.getfield 11, 3) := by decide +kernel
theorem dX8_takeBack_84 : decode cX8_takeBack 84 = .ok (.iload_n 2, 1) := by decide +kernel
theorem dX8_takeBack_85 : decode cX8_takeBack 85 = .ok (.iconst 4, 1) := by decide +kernel
theorem dX8_takeBack_86 : decode cX8_takeBack 86 = .ok (.iadd, 1) := by decide +kernel
theorem dX8_takeBack_87 : decode cX8_takeBack 87 = .ok (.iaload, 1) := by decide +kernel
theorem dX8_takeBack_88 : decode cX8_takeBack 88 = .ok (.iadd, 1) := by decide +kernel
theorem dX8_takeBack_89 : decode cX8_takeBack 89 = .ok (.aload_n 0, 1) := by decide +kernel
theorem dX8_takeBack_90 : decode cX8_takeBack 90 = .ok (.getfield 11, 3) := by decide +kernel
theorem dX8_takeBack_93 : decode cX8_takeBack 93 = .ok (.iload_n 2, 1) := by decide +kernel
theorem dX8_takeBack_94 : decode cX8_takeBack 94 = .ok (.iconst 5, 1) := by decide +kernel
theorem dX8_takeBack_95 : decode cX8_takeBack 95 = .ok (.iadd, 1) := by decide +kernel
theorem dX8_takeBack_96 : decode cX8_takeBack 96 = .ok (.iaload, 1) := by decide +kernel
theorem dX8_takeBack_97 : decode cX8_takeBack 97 = .ok (.iastore, 1) := by decide +kernel
theorem dX8_takeBack_98 : decode cX8_takeBack 98 = .ok (.aload_n 1, 1) := by decide +kernel
theorem dX8_takeBack_99 : decode cX8_takeBack 99 = .ok (.getfield 40, 3) := by decide +kernel
theorem dX8_takeBack_102 : decode cX8_takeBack 102 = .ok (.iconst 0, 1) := by decide +kernel
theorem dX8_takeBack_103 : decode cX8_takeBack 103 = .ok (.aload_n 0, 1) := by decide +kernel
theorem dX8_takeBack_104 : decode cX8_takeBack 104 = .ok (.getfield 11, 3) := by decide +kernel
theorem dX8_takeBack_107 : decode cX8_takeBack 107 = .ok (.iload_n 2, 1) := by decide +kernel
theorem dX8_takeBack_108 : decode cX8_takeBack 108 = .ok (.bipush 6, 2) := by decide +kernel
theorem dX8_takeBack_110 : decode cX8_takeBack 110 = .ok (.iadd, 1) := by decide +kernel
theorem dX8_takeBack_111 : decode cX8_takeBack 111 = .ok (.iaload, 1) := by decide +kernel
theorem dX8_takeBack_112 : decode cX8_takeBack 112 = .ok (.iastore, 1) := by decide +kernel
theorem dX8_takeBack_113 : decode cX8_takeBack 113 = .ok (.aload_n 0, 1) := by decide +kernel
theorem dX8_takeBack_114 : decode cX8_takeBack 114 = .ok (.getfield 11, 3) := by decide +kernel
theorem dX8_takeBack_117 : decode cX8_takeBack 117 = .ok (.iload_n 2, 1) := by decide +kernel
theorem dX8_takeBack_118 : decode cX8_takeBack 118 = .ok (.iconst 0, 1) := by decide +kernel
theorem dX8_takeBack_119 : decode cX8_takeBack 119 = .ok (.iadd, 1) := by decide +kernel
theorem dX8_takeBack_120 : decode cX8_takeBack 120 = .ok (.iaload, 1) := by decide +kernel
theorem dX8_takeBack_121 : decode cX8_takeBack 121 = .ok (.ireturn, 1) := by decide +kernel
def D_X8_takeBack_98 (h : z_H) (l0 : Option Nat) (l1 : Option Nat) (l2 : Int32) : Option (Int32 × z_H) :=
  (z_gQ 9 h l1 4).bind fun x2256 =>
  (z_gQ 8 h l0 0).bind fun x2257 =>
  (z_aI .int h x2257 (l2 + (6:Int32))).bind fun x2258 =>
  (z_sI h x2256 (0:Int32) x2258).bind fun h2259 =>
  (z_gQ 8 h2259 l0 0).bind fun x2260 =>
  (z_aI .int h2259 x2260 (l2 + (0:Int32))).bind fun x2261 =>
  some (x2261, h2259)
set_option maxRecDepth 100000 in
set_option maxHeartbeats 4000000 in
theorem S_X8_takeBack_98 {G : z_G} {l : Launch}  {h : z_H} {l0 : Option Nat} {l1 : Option Nat} {l2 : Int32} {res : (Int32 × z_H)} (e : D_X8_takeBack_98  h l0 l1 l2 = some res) : z_Run G l 5 M_X8_takeBack 98 [(0, z_r l0), (1, z_r l1), (2, .int l2)] [] h res.2 (some (.int res.1)) := by
  unfold D_X8_takeBack_98 at e
  refine z_aload_n 1 dX8_takeBack_98 rfl ?_
  replace e := z_bd e; obtain ⟨x2256, ex2256, e⟩ := e
  refine z_getQ ex2256 lk_X8_40 dX8_takeBack_99 ?_
  refine z_iconst (v := 0) dX8_takeBack_102 (by decide) ?_
  refine z_aload_n 0 dX8_takeBack_103 rfl ?_
  replace e := z_bd e; obtain ⟨x2257, ex2257, e⟩ := e
  refine z_getQ ex2257 lk_X8_11 dX8_takeBack_104 ?_
  refine z_iload_n 2 dX8_takeBack_107 rfl ?_
  refine z_bipush (v := 6) dX8_takeBack_108 (by decide) ?_
  refine z_iadd dX8_takeBack_110 ?_
  replace e := z_bd e; obtain ⟨x2258, ex2258, e⟩ := e
  refine z_iald ex2258 dX8_takeBack_111 ?_
  replace e := z_bd e; obtain ⟨h2259, eh2259, e⟩ := e
  refine z_iast eh2259 dX8_takeBack_112 ?_
  refine z_aload_n 0 dX8_takeBack_113 rfl ?_
  replace e := z_bd e; obtain ⟨x2260, ex2260, e⟩ := e
  refine z_getQ ex2260 lk_X8_11 dX8_takeBack_114 ?_
  refine z_iload_n 2 dX8_takeBack_117 rfl ?_
  refine z_iconst (v := 0) dX8_takeBack_118 (by decide) ?_
  refine z_iadd dX8_takeBack_119 ?_
  replace e := z_bd e; obtain ⟨x2261, ex2261, e⟩ := e
  refine z_iald ex2261 dX8_takeBack_120 ?_
  cases e
  exact z_iret dX8_takeBack_121 rfl
def D_X8_takeBack (h : z_H) (l0 : Option Nat) (l1 : Option Nat) : Option (Int32 × z_H) :=
  (z_gI 8 h l0 1).bind fun x2262 =>
  if x2262 = 0 then
    some ((-3:Int32), h)
  else
    (z_gI 8 h l0 1).bind fun x2264 =>
    (z_pV 8 h l0 1 (.int (x2264 - (1:Int32)))).bind fun h2265 =>
    (z_gI 8 h2265 l0 1).bind fun x2266 =>
    (some (x2266 * (7:Int32))).bind fun x2267 =>
    (z_gQ 8 h2265 l0 0).bind fun x2268 =>
    (z_aI .int h2265 x2268 (x2267 + (1:Int32))).bind fun x2269 =>
    (z_ob 9 h2265 l1).bind fun _ =>
    (D_X9_hasPair  h2265 l1 x2269).bind fun p2270 =>
    if p2270.1 = 0 then
      D_X8_takeBack_98   p2270.2 l0 l1 x2267
    else
      (z_gQ 9 p2270.2 l1 0).bind fun x2273 =>
      (z_gQ 8 p2270.2 l0 0).bind fun x2274 =>
      (z_aI .int p2270.2 x2274 (x2267 + (2:Int32))).bind fun x2275 =>
      (z_sI p2270.2 x2273 x2269 x2275).bind fun h2276 =>
      (z_gQ 9 h2276 l1 1).bind fun x2277 =>
      (z_gQ 8 h2276 l0 0).bind fun x2278 =>
      (z_aI .int h2276 x2278 (x2267 + (3:Int32))).bind fun x2279 =>
      (z_sI h2276 x2277 x2269 x2279).bind fun h2280 =>
      (z_gQ 9 h2280 l1 3).bind fun x2281 =>
      (z_gQ 8 h2280 l0 0).bind fun x2282 =>
      (z_aI .int h2280 x2282 (x2267 + (4:Int32))).bind fun x2283 =>
      (z_gQ 8 h2280 l0 0).bind fun x2284 =>
      (z_aI .int h2280 x2284 (x2267 + (5:Int32))).bind fun x2285 =>
      (z_sI h2280 x2281 ((x2269 * (4:Int32)) + x2283) x2285).bind fun h2286 =>
      D_X8_takeBack_98   h2286 l0 l1 x2267
set_option maxRecDepth 100000 in
set_option maxHeartbeats 4000000 in
theorem S_X8_takeBack {G : z_G} {l : Launch} {h : z_H} {l0 : Option Nat} {l1 : Option Nat} {res : (Int32 × z_H)} (e : D_X8_takeBack h l0 l1 = some res) : z_Meth G l 5 M_X8_takeBack [z_r l0, z_r l1] h res.2 (some (.int res.1)) := by
  refine z_Meth.of ck_X8_takeBack.2.2.2.2 (by simp [lg_sl, z_ci, z_cj, z_cr, z_cx]) ck_X8_takeBack.1 ?_
  rw [show lv_args 0 [z_r l0, z_r l1] = [(0, z_r l0), (1, z_r l1)] from by simp [lv_args, z_ci, z_cj, z_cr, z_cx]]
  unfold D_X8_takeBack at e
  refine z_aload_n 0 dX8_takeBack_0 rfl ?_
  replace e := z_bd e; obtain ⟨x2262, ex2262, e⟩ := e
  refine z_getI ex2262 lk_X8_15 dX8_takeBack_1 ?_
  refine z_if_ne (tgt := 10) dX8_takeBack_4 (by decide) (fun c2263 => ?_) (fun c2263 => ?_)
  · rw [if_neg c2263] at e
    refine z_aload_n 0 dX8_takeBack_10 rfl ?_
    refine z_dup dX8_takeBack_11 (z_cr _) ?_
    replace e := z_bd e; obtain ⟨x2264, ex2264, e⟩ := e
    refine z_getI ex2264 lk_X8_15 dX8_takeBack_12 ?_
    refine z_iconst (v := 1) dX8_takeBack_15 (by decide) ?_
    refine z_isub dX8_takeBack_16 ?_
    replace e := z_bd e; obtain ⟨h2265, eh2265, e⟩ := e
    refine z_putV eh2265 lk_X8_15 wk_8_1 (fun _ => rfl) (fun _ => rfl) dX8_takeBack_17 ?_
    refine z_aload_n 0 dX8_takeBack_20 rfl ?_
    replace e := z_bd e; obtain ⟨x2266, ex2266, e⟩ := e
    refine z_getI ex2266 lk_X8_15 dX8_takeBack_21 ?_
    refine z_bipush (v := 7) dX8_takeBack_24 (by decide) ?_
    refine z_imul dX8_takeBack_26 ?_
    replace e := z_bd e; obtain ⟨x2267, ex2267, e⟩ := e
    refine z_topI ex2267 ?_
    refine z_istore_n (L' := [(2, .int x2267), (0, z_r l0), (1, z_r l1)]) dX8_takeBack_27 rfl (by decide) (by simp [z_cr]) ?_
    refine z_aload_n 1 dX8_takeBack_28 rfl ?_
    replace e := z_bd e; obtain ⟨x2268, ex2268, e⟩ := e
    refine z_getQ ex2268 lk_X8_11 dX8_takeBack_29 ?_
    refine z_iload_n 0 dX8_takeBack_32 rfl ?_
    refine z_iconst (v := 1) dX8_takeBack_33 (by decide) ?_
    refine z_iadd dX8_takeBack_34 ?_
    replace e := z_bd e; obtain ⟨x2269, ex2269, e⟩ := e
    refine z_iald ex2269 dX8_takeBack_35 ?_
    refine z_istore_n (L' := [(3, .int x2269), (2, .int x2267), (0, z_r l0), (1, z_r l1)]) dX8_takeBack_36 rfl (by decide) rfl ?_
    refine z_aload_n 3 dX8_takeBack_37 rfl ?_
    refine z_iload_n 0 dX8_takeBack_38 rfl ?_
    replace e := z_bd e; obtain ⟨o2271, eo2271, e⟩ := e
    replace e := z_bd e; obtain ⟨p2270, ep2270, e⟩ := e
    refine z_cV [.int x2269] (S_X9_hasPair  ep2270) eo2271 rfl ml_X8_25 ck_X9_hasPair vk_X9_hasPair dX8_takeBack_39 (by decide) rfl (Nat.zero_le _) rfl ?_
    refine z_if_eq (tgt := 98) dX8_takeBack_42 (by decide) (fun c2272 => ?_) (fun c2272 => ?_)
    · rw [if_pos c2272] at e
      exact z_weak [2, 3, 1] rfl (S_X8_takeBack_98   e)
    · rw [if_neg c2272] at e
      refine z_aload_n 3 dX8_takeBack_45 rfl ?_
      replace e := z_bd e; obtain ⟨x2273, ex2273, e⟩ := e
      refine z_getQ ex2273 lk_X8_31 dX8_takeBack_46 ?_
      refine z_iload_n 0 dX8_takeBack_49 rfl ?_
      refine z_aload_n 2 dX8_takeBack_50 rfl ?_
      replace e := z_bd e; obtain ⟨x2274, ex2274, e⟩ := e
      refine z_getQ ex2274 lk_X8_11 dX8_takeBack_51 ?_
      refine z_iload_n 1 dX8_takeBack_54 rfl ?_
      refine z_iconst (v := 2) dX8_takeBack_55 (by decide) ?_
      refine z_iadd dX8_takeBack_56 ?_
      replace e := z_bd e; obtain ⟨x2275, ex2275, e⟩ := e
      refine z_iald ex2275 dX8_takeBack_57 ?_
      replace e := z_bd e; obtain ⟨h2276, eh2276, e⟩ := e
      refine z_iast eh2276 dX8_takeBack_58 ?_
      refine z_aload_n 3 dX8_takeBack_59 rfl ?_
      replace e := z_bd e; obtain ⟨x2277, ex2277, e⟩ := e
      refine z_getQ ex2277 lk_X8_34 dX8_takeBack_60 ?_
      refine z_iload_n 0 dX8_takeBack_63 rfl ?_
      refine z_aload_n 2 dX8_takeBack_64 rfl ?_
      replace e := z_bd e; obtain ⟨x2278, ex2278, e⟩ := e
      refine z_getQ ex2278 lk_X8_11 dX8_takeBack_65 ?_
      refine z_iload_n 1 dX8_takeBack_68 rfl ?_
      refine z_iconst (v := 3) dX8_takeBack_69 (by decide) ?_
      refine z_iadd dX8_takeBack_70 ?_
      replace e := z_bd e; obtain ⟨x2279, ex2279, e⟩ := e
      refine z_iald ex2279 dX8_takeBack_71 ?_
      replace e := z_bd e; obtain ⟨h2280, eh2280, e⟩ := e
      refine z_iast eh2280 dX8_takeBack_72 ?_
      refine z_aload_n 3 dX8_takeBack_73 rfl ?_
      replace e := z_bd e; obtain ⟨x2281, ex2281, e⟩ := e
      refine z_getQ ex2281 lk_X8_37 dX8_takeBack_74 ?_
      refine z_iload_n 0 dX8_takeBack_77 rfl ?_
      refine z_iconst (v := 4) dX8_takeBack_78 (by decide) ?_
      refine z_imul dX8_takeBack_79 ?_
      refine z_aload_n 2 dX8_takeBack_80 rfl ?_
      replace e := z_bd e; obtain ⟨x2282, ex2282, e⟩ := e
      refine z_getQ ex2282 lk_X8_11 dX8_takeBack_81 ?_
      refine z_iload_n 1 dX8_takeBack_84 rfl ?_
      refine z_iconst (v := 4) dX8_takeBack_85 (by decide) ?_
      refine z_iadd dX8_takeBack_86 ?_
      replace e := z_bd e; obtain ⟨x2283, ex2283, e⟩ := e
      refine z_iald ex2283 dX8_takeBack_87 ?_
      refine z_iadd dX8_takeBack_88 ?_
      refine z_aload_n 2 dX8_takeBack_89 rfl ?_
      replace e := z_bd e; obtain ⟨x2284, ex2284, e⟩ := e
      refine z_getQ ex2284 lk_X8_11 dX8_takeBack_90 ?_
      refine z_iload_n 1 dX8_takeBack_93 rfl ?_
      refine z_iconst (v := 5) dX8_takeBack_94 (by decide) ?_
      refine z_iadd dX8_takeBack_95 ?_
      replace e := z_bd e; obtain ⟨x2285, ex2285, e⟩ := e
      refine z_iald ex2285 dX8_takeBack_96 ?_
      replace e := z_bd e; obtain ⟨h2286, eh2286, e⟩ := e
      refine z_iast eh2286 dX8_takeBack_97 ?_
      exact z_weak [2, 3, 1] rfl (S_X8_takeBack_98   e)
  · rw [if_pos c2263] at e
    refine z_bipush (v := -3) dX8_takeBack_7 (by decide) ?_
    cases e
    exact z_iret dX8_takeBack_9 rfl
theorem dX10_undo_0 : decode cX10_undo 0 = .ok (.aload_n 0, 1) := by decide +kernel
theorem dX10_undo_1 : decode cX10_undo 1 = .ok (.getfield 30, 3) := by decide +kernel
theorem dX10_undo_4 : decode cX10_undo 4 = .ok (.getfield 115, 3) := by decide +kernel
theorem dX10_undo_7 : decode cX10_undo 7 = .ok (.ifCond .ne 10, 3) := by decide +kernel
theorem dX10_undo_10 : decode cX10_undo 10 = .ok (.aload_n 0, 1) := by decide +kernel
theorem dX10_undo_11 : decode cX10_undo 11 = .ok (.bipush (-3), 2) := by decide +kernel
theorem dX10_undo_13 : decode cX10_undo 13 = .ok (.invokevirtual 104, 3) := by decide +kernel
theorem dX10_undo_16 : decode cX10_undo 16 = .ok (.ireturn, 1) := by decide +kernel
theorem dX10_undo_17 : decode cX10_undo 17 = .ok (.aload_n 0, 1) := by decide +kernel
theorem dX10_undo_18 : decode cX10_undo 18 = .ok (.aload_n 0, 1) := by decide +kernel
theorem dX10_undo_19 : decode cX10_undo 19 = .ok (.getfield 30, 3) := by decide +kernel
theorem dX10_undo_22 : decode cX10_undo 22 = .ok (.aload_n 0, 1) := by decide +kernel
theorem dX10_undo_23 : decode cX10_undo 23 = .ok (.getfield 12, 3) := by decide +kernel
theorem dX10_undo_26 : decode cX10_undo 26 = .ok (.invokevirtual 221, 3) := by decide +kernel
theorem dX10_undo_29 : decode cX10_undo 29 = .ok (.invokevirtual 118, 3) := by decide +kernel
theorem dX10_undo_32 : decode cX10_undo 32 = .ok (.ireturn, 1) := by decide +kernel
def D_X10_undo (h : z_H) (l0 : Option Nat) : Option (Int32 × z_H) :=
  (z_gQ 10 h l0 4).bind fun x2287 =>
  (z_gI 8 h x2287 1).bind fun x2288 =>
  if x2288 = 0 then
    (z_ob 10 h l0).bind fun _ =>
    (D_X10_refuse  h l0 (-3:Int32)).bind fun p2296 =>
    some (p2296.1, p2296.2)
  else
    (z_gQ 10 h l0 4).bind fun x2290 =>
    (z_gQ 10 h l0 0).bind fun x2291 =>
    (z_ob 8 h x2290).bind fun _ =>
    (D_X8_takeBack  h x2290 x2291).bind fun p2292 =>
    (z_ob 10 p2292.2 l0).bind fun _ =>
    (D_X10_grant  p2292.2 l0 p2292.1).bind fun p2294 =>
    some (p2294.1, p2294.2)
set_option maxRecDepth 100000 in
set_option maxHeartbeats 4000000 in
theorem S_X10_undo {G : z_G} {l : Launch} {h : z_H} {l0 : Option Nat} {res : (Int32 × z_H)} (e : D_X10_undo h l0 = some res) : z_Meth G l 6 M_X10_undo [z_r l0] h res.2 (some (.int res.1)) := by
  refine z_Meth.of ck_X10_undo.2.2.2.2 (by simp [lg_sl, z_ci, z_cj, z_cr, z_cx]) ck_X10_undo.1 ?_
  rw [show lv_args 0 [z_r l0] = [(0, z_r l0)] from by simp [lv_args, z_ci, z_cj, z_cr, z_cx]]
  unfold D_X10_undo at e
  refine z_aload_n 0 dX10_undo_0 rfl ?_
  replace e := z_bd e; obtain ⟨x2287, ex2287, e⟩ := e
  refine z_getQ ex2287 lk_X10_30 dX10_undo_1 ?_
  replace e := z_bd e; obtain ⟨x2288, ex2288, e⟩ := e
  refine z_getI ex2288 lk_X10_115 dX10_undo_4 ?_
  refine z_if_ne (tgt := 17) dX10_undo_7 (by decide) (fun c2289 => ?_) (fun c2289 => ?_)
  · rw [if_neg c2289] at e
    refine z_aload_n 0 dX10_undo_17 rfl ?_
    refine z_aload_n 0 dX10_undo_18 rfl ?_
    replace e := z_bd e; obtain ⟨x2290, ex2290, e⟩ := e
    refine z_getQ ex2290 lk_X10_30 dX10_undo_19 ?_
    refine z_aload_n 0 dX10_undo_22 rfl ?_
    replace e := z_bd e; obtain ⟨x2291, ex2291, e⟩ := e
    refine z_getQ ex2291 lk_X10_12 dX10_undo_23 ?_
    replace e := z_bd e; obtain ⟨o2293, eo2293, e⟩ := e
    replace e := z_bd e; obtain ⟨p2292, ep2292, e⟩ := e
    refine z_cV [z_r x2291] (S_X8_takeBack  ep2292) eo2293 rfl ml_X10_221 ck_X8_takeBack vk_X8_takeBack dX10_undo_26 (by decide) rfl (by simp [z_ci, z_cj, z_cr, z_cx]) rfl ?_
    replace e := z_bd e; obtain ⟨o2295, eo2295, e⟩ := e
    replace e := z_bd e; obtain ⟨p2294, ep2294, e⟩ := e
    refine z_cV [.int p2292.1] (S_X10_grant  ep2294) eo2295 rfl ml_X10_118 ck_X10_grant vk_X10_grant dX10_undo_29 (by decide) rfl (Nat.zero_le _) rfl ?_
    cases e
    exact z_iret dX10_undo_32 rfl
  · rw [if_pos c2289] at e
    refine z_aload_n 0 dX10_undo_10 rfl ?_
    refine z_bipush (v := -3) dX10_undo_11 (by decide) ?_
    replace e := z_bd e; obtain ⟨o2297, eo2297, e⟩ := e
    replace e := z_bd e; obtain ⟨p2296, ep2296, e⟩ := e
    refine z_cV [.int (-3:Int32)] (S_X10_refuse  ep2296) eo2297 rfl ml_X10_104 ck_X10_refuse vk_X10_refuse dX10_undo_13 (by decide) rfl (Nat.zero_le _) rfl ?_
    cases e
    exact z_iret dX10_undo_16 rfl
theorem dX11_undo_0 : decode cX11_undo 0 = .ok (.aload_n 0, 1) := by decide +kernel
theorem dX11_undo_1 : decode cX11_undo 1 = .ok (.iconst 0, 1) := by decide +kernel
theorem dX11_undo_2 : decode cX11_undo 2 = .ok (.putfield 166, 3) := by decide +kernel
theorem dX11_undo_5 : decode cX11_undo 5 = .ok (.aload_n 0, 1) := by decide +kernel
theorem dX11_undo_6 : decode cX11_undo 6 = .ok (.getfield 172, 3) := by decide +kernel
theorem dX11_undo_9 : decode cX11_undo 9 = .ok (.ifCond .ne 10, 3) := by decide +kernel
theorem dX11_undo_12 : decode cX11_undo 12 = .ok (.aload_n 0, 1) := by decide +kernel
theorem dX11_undo_13 : decode cX11_undo 13 = .ok (.bipush (-3), 2) := by decide +kernel
theorem dX11_undo_15 : decode cX11_undo 15 = .ok (.invokevirtual 175, 3) := by decide +kernel
theorem dX11_undo_18 : decode cX11_undo 18 = .ok (.ireturn, 1) := by decide +kernel
theorem dX11_undo_19 : decode cX11_undo 19 = .ok (.aload_n 0, 1) := by decide +kernel
theorem dX11_undo_20 : decode cX11_undo 20 = .ok (.dup, 1) := by decide +kernel
theorem dX11_undo_21 : decode cX11_undo 21 = .ok (.getfield 172, 3) := by decide +kernel
theorem dX11_undo_24 : decode cX11_undo 24 = .ok (.iconst 1, 1) := by decide +kernel
theorem dX11_undo_25 : decode cX11_undo 25 = .ok (.isub, 1) := by decide +kernel
theorem dX11_undo_26 : decode cX11_undo 26 = .ok (.putfield 172, 3) := by decide +kernel
theorem dX11_undo_29 : decode cX11_undo 29 = .ok (.aload_n 0, 1) := by decide +kernel
theorem dX11_undo_30 : decode cX11_undo 30 = .ok (.aload_n 0, 1) := by decide +kernel
theorem dX11_undo_31 : decode cX11_undo 31 = .ok (.getfield 172, 3) := by decide +kernel
theorem dX11_undo_34 : decode cX11_undo 34 = .ok (.invokevirtual 183, 3) := by decide +kernel
theorem dX11_undo_37 : decode cX11_undo 37 = .ok (.aload_n 0, 1) := by decide +kernel
theorem dX11_undo_38 : decode cX11_undo 38 = .ok (.aload_n 0, 1) := by decide +kernel
theorem dX11_undo_39 : decode cX11_undo 39 = .ok (.getfield 26, 3) := by decide +kernel
theorem dX11_undo_42 : decode cX11_undo 42 = .ok (.aload_n 0, 1) := by decide +kernel
theorem dX11_undo_43 : decode cX11_undo 43 = .ok (.getfield 172, 3) := by decide +kernel
theorem dX11_undo_46 : decode cX11_undo 46 = .ok (.iaload, 1) := by decide +kernel
theorem dX11_undo_47 : decode cX11_undo 47 = .ok (.invokevirtual 175, 3) := by decide +kernel
theorem dX11_undo_50 : decode cX11_undo 50 = .ok (.ireturn, 1) := by decide +kernel
def D_X11_undo (h : z_H) (l0 : Option Nat) : Option (Int32 × z_H) :=
  (z_pV 11 h l0 0 (.int (0:Int32))).bind fun h2298 =>
  (z_gI 11 h2298 l0 8).bind fun x2299 =>
  if x2299 = 0 then
    (z_ob 11 h2298 l0).bind fun _ =>
    (D_X11_tell  h2298 l0 (-3:Int32)).bind fun p2311 =>
    some (p2311.1, p2311.2)
  else
    (z_gI 11 h2298 l0 8).bind fun x2301 =>
    (z_pV 11 h2298 l0 8 (.int (x2301 - (1:Int32)))).bind fun h2302 =>
    (z_gI 11 h2302 l0 8).bind fun x2303 =>
    (z_ob 11 h2302 l0).bind fun _ =>
    (D_X11_putBack  h2302 l0 x2303).bind fun p2304 =>
    (z_gQ 11 p2304 l0 7).bind fun x2306 =>
    (z_gI 11 p2304 l0 8).bind fun x2307 =>
    (z_aI .int p2304 x2306 x2307).bind fun x2308 =>
    (z_ob 11 p2304 l0).bind fun _ =>
    (D_X11_tell  p2304 l0 x2308).bind fun p2309 =>
    some (p2309.1, p2309.2)
set_option maxRecDepth 100000 in
set_option maxHeartbeats 4000000 in
theorem S_X11_undo {G : z_G} {l : Launch} {h : z_H} {l0 : Option Nat} {res : (Int32 × z_H)} (e : D_X11_undo h l0 = some res) : z_Meth G l 5 M_X11_undo [z_r l0] h res.2 (some (.int res.1)) := by
  refine z_Meth.of ck_X11_undo.2.2.2.2 (by simp [lg_sl, z_ci, z_cj, z_cr, z_cx]) ck_X11_undo.1 ?_
  rw [show lv_args 0 [z_r l0] = [(0, z_r l0)] from by simp [lv_args, z_ci, z_cj, z_cr, z_cx]]
  unfold D_X11_undo at e
  refine z_aload_n 0 dX11_undo_0 rfl ?_
  refine z_iconst (v := 0) dX11_undo_1 (by decide) ?_
  replace e := z_bd e; obtain ⟨h2298, eh2298, e⟩ := e
  refine z_putV eh2298 lk_X11_166 wk_11_0 (fun _ => rfl) (fun _ => rfl) dX11_undo_2 ?_
  refine z_aload_n 0 dX11_undo_5 rfl ?_
  replace e := z_bd e; obtain ⟨x2299, ex2299, e⟩ := e
  refine z_getI ex2299 lk_X11_172 dX11_undo_6 ?_
  refine z_if_ne (tgt := 19) dX11_undo_9 (by decide) (fun c2300 => ?_) (fun c2300 => ?_)
  · rw [if_neg c2300] at e
    refine z_aload_n 0 dX11_undo_19 rfl ?_
    refine z_dup dX11_undo_20 (z_cr _) ?_
    replace e := z_bd e; obtain ⟨x2301, ex2301, e⟩ := e
    refine z_getI ex2301 lk_X11_172 dX11_undo_21 ?_
    refine z_iconst (v := 1) dX11_undo_24 (by decide) ?_
    refine z_isub dX11_undo_25 ?_
    replace e := z_bd e; obtain ⟨h2302, eh2302, e⟩ := e
    refine z_putV eh2302 lk_X11_172 wk_11_8 (fun _ => rfl) (fun _ => rfl) dX11_undo_26 ?_
    refine z_aload_n 0 dX11_undo_29 rfl ?_
    refine z_aload_n 0 dX11_undo_30 rfl ?_
    replace e := z_bd e; obtain ⟨x2303, ex2303, e⟩ := e
    refine z_getI ex2303 lk_X11_172 dX11_undo_31 ?_
    replace e := z_bd e; obtain ⟨o2305, eo2305, e⟩ := e
    replace e := z_bd e; obtain ⟨p2304, ep2304, e⟩ := e
    refine z_cV [.int x2303] (S_X11_putBack  ep2304) eo2305 rfl ml_X11_183 ck_X11_putBack vk_X11_putBack dX11_undo_34 (by decide) rfl (Nat.zero_le _) rfl ?_
    refine z_aload_n 0 dX11_undo_37 rfl ?_
    refine z_aload_n 0 dX11_undo_38 rfl ?_
    replace e := z_bd e; obtain ⟨x2306, ex2306, e⟩ := e
    refine z_getQ ex2306 lk_X11_26 dX11_undo_39 ?_
    refine z_aload_n 0 dX11_undo_42 rfl ?_
    replace e := z_bd e; obtain ⟨x2307, ex2307, e⟩ := e
    refine z_getI ex2307 lk_X11_172 dX11_undo_43 ?_
    replace e := z_bd e; obtain ⟨x2308, ex2308, e⟩ := e
    refine z_iald ex2308 dX11_undo_46 ?_
    replace e := z_bd e; obtain ⟨o2310, eo2310, e⟩ := e
    replace e := z_bd e; obtain ⟨p2309, ep2309, e⟩ := e
    refine z_cV [.int x2308] (S_X11_tell  ep2309) eo2310 rfl ml_X11_175 ck_X11_tell vk_X11_tell dX11_undo_47 (by decide) rfl (Nat.zero_le _) rfl ?_
    cases e
    exact z_iret dX11_undo_50 rfl
  · rw [if_pos c2300] at e
    refine z_aload_n 0 dX11_undo_12 rfl ?_
    refine z_bipush (v := -3) dX11_undo_13 (by decide) ?_
    replace e := z_bd e; obtain ⟨o2312, eo2312, e⟩ := e
    replace e := z_bd e; obtain ⟨p2311, ep2311, e⟩ := e
    refine z_cV [.int (-3:Int32)] (S_X11_tell  ep2311) eo2312 rfl ml_X11_175 ck_X11_tell vk_X11_tell dX11_undo_15 (by decide) rfl (Nat.zero_le _) rfl ?_
    cases e
    exact z_iret dX11_undo_18 rfl
theorem dX8_add_0 : decode cX8_add 0 = .ok (.aload_n 0, 1) := by decide +kernel
theorem dX8_add_1 : decode cX8_add 1 = .ok (.getfield 15, 3) := by decide +kernel
theorem dX8_add_4 : decode cX8_add 4 = .ok (.bipush 16, 2) := by decide +kernel
theorem dX8_add_6 : decode cX8_add 6 = .ok (.if_icmp .lt 25, 3) := by decide +kernel
theorem dX8_add_9 : decode cX8_add 9 = .ok (.aload_n 0, 1) := by decide +kernel
theorem dX8_add_10 : decode cX8_add 10 = .ok (.getfield 11, 3) := by decide +kernel
theorem dX8_add_13 : decode cX8_add 13 = .ok (.bipush 7, 2) := by decide +kernel
theorem dX8_add_15 : decode cX8_add 15 = .ok (.aload_n 0, 1) := by decide +kernel
theorem dX8_add_16 : decode cX8_add 16 = .ok (.getfield 11, 3) := by decide +kernel
theorem dX8_add_19 : decode cX8_add 19 = .ok (.iconst 0, 1) := by decide +kernel
theorem dX8_add_20 : decode cX8_add 20 = .ok (.bipush 105, 2) := by decide +kernel
theorem dX8_add_22 : decode cX8_add 22 = .ok (.invokestatic 19, 3) := by decide +kernel
theorem dX8_add_25 : decode cX8_add 25 = .ok (.aload_n 0, 1) := by decide +kernel
theorem dX8_add_26 : decode cX8_add 26 = .ok (.bipush 15, 2) := by decide +kernel
theorem dX8_add_28 : decode cX8_add 28 = .ok (.putfield 15, 3) := by decide +kernel
theorem dX8_add_31 : decode cX8_add 31 = .ok (.aload_n 1, 1) := by decide +kernel
theorem dX8_add_32 : decode cX8_add 32 = .ok (.iconst 0, 1) := by decide +kernel
theorem dX8_add_33 : decode cX8_add 33 = .ok (.aload_n 0, 1) := by decide +kernel
theorem dX8_add_34 : decode cX8_add 34 = .ok (.getfield 11, 3) := by decide +kernel
theorem dX8_add_37 : decode cX8_add 37 = .ok (.aload_n 0, 1) := by decide +kernel
theorem dX8_add_38 : decode cX8_add 38 = .ok (.getfield 15, 3) := by decide +kernel
theorem dX8_add_41 : decode cX8_add 41 = .ok (.bipush 7, 2) := by decide +kernel
theorem dX8_add_43 : decode cX8_add 43 = .ok (.imul, 1) := by decide +kernel
theorem dX8_add_44 : decode cX8_add 44 = .ok (.bipush 7, 2) := by decide +kernel
theorem dX8_add_46 : decode cX8_add 46 = .ok (.invokestatic 19, 3) := by decide +kernel
theorem dX8_add_49 : decode cX8_add 49 = .ok (.aload_n 0, 1) := by decide +kernel
theorem dX8_add_50 : decode cX8_add 50 = .ok (.dup, 1) := by decide +kernel
theorem dX8_add_51 : decode cX8_add 51 = .ok (.getfield 15, 3) := by decide +kernel
theorem dX8_add_54 : decode cX8_add 54 = .ok (.iconst 1, 1) := by decide +kernel
theorem dX8_add_55 : decode cX8_add 55 = .ok (.iadd, 1) := by decide +kernel
theorem dX8_add_56 : decode cX8_add 56 = .ok (.putfield 15, 3) := by decide +kernel
theorem dX8_add_59 : decode cX8_add 59 = .ok (.return_, 1) := by decide +kernel
def D_X8_add_31 (h : z_H) (l0 : Option Nat) (l1 : Option Nat) : Option z_H :=
  (z_gQ 8 h l0 0).bind fun x2313 =>
  (z_gI 8 h l0 1).bind fun x2314 =>
  (z_cI h l1 (0:Int32) x2313 (x2314 * (7:Int32)) (7:Int32)).bind fun h2315 =>
  (z_gI 8 h2315 l0 1).bind fun x2316 =>
  (z_pV 8 h2315 l0 1 (.int (x2316 + (1:Int32)))).bind fun h2317 =>
  some h2317
set_option maxRecDepth 100000 in
set_option maxHeartbeats 4000000 in
theorem S_X8_add_31 {G : z_G} {l : Launch}  {h : z_H} {l0 : Option Nat} {l1 : Option Nat} {res : z_H} (e : D_X8_add_31  h l0 l1 = some res) : z_Run G l 4 M_X8_add 31 [(0, z_r l0), (1, z_r l1)] [] h res none := by
  unfold D_X8_add_31 at e
  refine z_aload_n 1 dX8_add_31 rfl ?_
  refine z_iconst (v := 0) dX8_add_32 (by decide) ?_
  refine z_aload_n 0 dX8_add_33 rfl ?_
  replace e := z_bd e; obtain ⟨x2313, ex2313, e⟩ := e
  refine z_getQ ex2313 lk_X8_11 dX8_add_34 ?_
  refine z_aload_n 0 dX8_add_37 rfl ?_
  replace e := z_bd e; obtain ⟨x2314, ex2314, e⟩ := e
  refine z_getI ex2314 lk_X8_15 dX8_add_38 ?_
  refine z_bipush (v := 7) dX8_add_41 (by decide) ?_
  refine z_imul dX8_add_43 ?_
  refine z_bipush (v := 7) dX8_add_44 (by decide) ?_
  replace e := z_bd e; obtain ⟨h2315, eh2315, e⟩ := e
  refine z_cpyI eh2315 ml_X8_19 z_acok (by decide) (Nat.zero_le _) dX8_add_46 ?_
  refine z_aload_n 0 dX8_add_49 rfl ?_
  refine z_dup dX8_add_50 (z_cr _) ?_
  replace e := z_bd e; obtain ⟨x2316, ex2316, e⟩ := e
  refine z_getI ex2316 lk_X8_15 dX8_add_51 ?_
  refine z_iconst (v := 1) dX8_add_54 (by decide) ?_
  refine z_iadd dX8_add_55 ?_
  replace e := z_bd e; obtain ⟨h2317, eh2317, e⟩ := e
  refine z_putV eh2317 lk_X8_15 wk_8_1 (fun _ => rfl) (fun _ => rfl) dX8_add_56 ?_
  cases e
  exact z_vret dX8_add_59 rfl
def D_X8_add (h : z_H) (l0 : Option Nat) (l1 : Option Nat) : Option z_H :=
  (z_gI 8 h l0 1).bind fun x2318 =>
  if x2318 < (16:Int32) then
    D_X8_add_31   h l0 l1
  else
    (z_gQ 8 h l0 0).bind fun x2320 =>
    (z_gQ 8 h l0 0).bind fun x2321 =>
    (z_cI h x2320 (7:Int32) x2321 (0:Int32) (105:Int32)).bind fun h2322 =>
    (z_pV 8 h2322 l0 1 (.int (15:Int32))).bind fun h2323 =>
    D_X8_add_31   h2323 l0 l1
set_option maxRecDepth 100000 in
set_option maxHeartbeats 4000000 in
theorem S_X8_add {G : z_G} {l : Launch} {h : z_H} {l0 : Option Nat} {l1 : Option Nat} {res : z_H} (e : D_X8_add h l0 l1 = some res) : z_Meth G l 4 M_X8_add [z_r l0, z_r l1] h res none := by
  refine z_Meth.of ck_X8_add.2.2.2.2 (by simp [lg_sl, z_ci, z_cj, z_cr, z_cx]) ck_X8_add.1 ?_
  rw [show lv_args 0 [z_r l0, z_r l1] = [(0, z_r l0), (1, z_r l1)] from by simp [lv_args, z_ci, z_cj, z_cr, z_cx]]
  unfold D_X8_add at e
  refine z_aload_n 0 dX8_add_0 rfl ?_
  replace e := z_bd e; obtain ⟨x2318, ex2318, e⟩ := e
  refine z_getI ex2318 lk_X8_15 dX8_add_1 ?_
  refine z_bipush (v := 16) dX8_add_4 (by decide) ?_
  refine z_icmp_lt (tgt := 31) dX8_add_6 (by decide) (fun c2319 => ?_) (fun c2319 => ?_)
  · rw [if_pos c2319] at e
    exact z_weak [0, 1] rfl (S_X8_add_31   e)
  · rw [if_neg c2319] at e
    refine z_aload_n 0 dX8_add_9 rfl ?_
    replace e := z_bd e; obtain ⟨x2320, ex2320, e⟩ := e
    refine z_getQ ex2320 lk_X8_11 dX8_add_10 ?_
    refine z_bipush (v := 7) dX8_add_13 (by decide) ?_
    refine z_aload_n 0 dX8_add_15 rfl ?_
    replace e := z_bd e; obtain ⟨x2321, ex2321, e⟩ := e
    refine z_getQ ex2321 lk_X8_11 dX8_add_16 ?_
    refine z_iconst (v := 0) dX8_add_19 (by decide) ?_
    refine z_bipush (v := 105) dX8_add_20 (by decide) ?_
    replace e := z_bd e; obtain ⟨h2322, eh2322, e⟩ := e
    refine z_cpyI eh2322 ml_X8_19 z_acok (by decide) (Nat.zero_le _) dX8_add_22 ?_
    refine z_aload_n 0 dX8_add_25 rfl ?_
    refine z_bipush (v := 15) dX8_add_26 (by decide) ?_
    replace e := z_bd e; obtain ⟨h2323, eh2323, e⟩ := e
    refine z_putV eh2323 lk_X8_15 wk_8_1 (fun _ => rfl) (fun _ => rfl) dX8_add_28 ?_
    exact z_weak [0, 1] rfl (S_X8_add_31   e)
