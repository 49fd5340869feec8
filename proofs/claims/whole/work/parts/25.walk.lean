theorem dX11_few_0 : decode cX11_few 0 = .ok (.aload_n 0, 1) := by decide +kernel
theorem dX11_few_1 : decode cX11_few 1 = .ok (.iconst 0, 1) := by decide +kernel
theorem dX11_few_2 : decode cX11_few 2 = .ok (.putfield 166, 3) := by decide +kernel
theorem dX11_few_5 : decode cX11_few 5 = .ok (.iload_n 1, 1) := by decide +kernel
theorem dX11_few_6 : decode cX11_few 6 = .ok (.i2l, 1) := by decide +kernel
theorem dX11_few_7 : decode cX11_few 7 = .ok (.lconst 1, 1) := by decide +kernel
theorem dX11_few_8 : decode cX11_few 8 = .ok (.ldc2_w 301, 3) := by decide +kernel
theorem dX11_few_11 : decode cX11_few 11 = .ok (.invokestatic 186, 3) := by decide +kernel
theorem dX11_few_14 : decode cX11_few 14 = .ok (.ifCond .eq 15, 3) := by decide +kernel
theorem dX11_few_17 : decode cX11_few 17 = .ok (.iload_n 2, 1) := by decide +kernel
theorem dX11_few_18 : decode cX11_few 18 = .ok (.i2l, 1) := by decide +kernel
theorem dX11_few_19 : decode cX11_few 19 = .ok (.lconst 0, 1) := by decide +kernel
theorem dX11_few_20 : decode cX11_few 20 = .ok (.ldc2_w 514, 3) := by decide +kernel
theorem dX11_few_23 : decode cX11_few 23 = .ok (.invokestatic 186, 3) := by decide +kernel
theorem dX11_few_26 : decode cX11_few 26 = .ok (.ifCond .ne 7, 3) := by decide +kernel
theorem dX11_few_29 : decode cX11_few 29 = .ok (.ldc2_w 278, 3) := by decide +kernel
theorem dX11_few_32 : decode cX11_few 32 = .ok (.lreturn, 1) := by decide +kernel
theorem dX11_few_33 : decode cX11_few 33 = .ok (.iconst 0, 1) := by decide +kernel
theorem dX11_few_34 : decode cX11_few 34 = .ok (.istore_n 3, 1) := by decide +kernel
theorem dX11_few_35 : decode cX11_few 35 = .ok (.iload_n 3, 1) := by decide +kernel
theorem dX11_few_36 : decode cX11_few 36 = .ok (.bipush 21, 2) := by decide +kernel
theorem dX11_few_38 : decode cX11_few 38 = .ok (.if_icmp .ge 26, 3) := by decide +kernel
theorem dX11_few_41 : decode cX11_few 41 = .ok (.aload_n 0, 1) := by decide +kernel
theorem dX11_few_42 : decode cX11_few 42 = .ok (.getfield 138, 3) := by decide +kernel
theorem dX11_few_45 : decode cX11_few 45 = .ok (.iload_n 3, 1) := by decide +kernel
theorem dX11_few_46 : decode cX11_few 46 = .ok (.iload_n 3, 1) := by decide +kernel
theorem dX11_few_47 : decode cX11_few 47 = .ok (.ifCond .ne 9, 3) := by decide +kernel
theorem dX11_few_50 : decode cX11_few 50 = .ok (.ldc2_w 501, 3) := by decide +kernel
theorem dX11_few_53 : decode cX11_few 53 = .ok (.goto 4, 3) := by decide +kernel
theorem dX11_few_56 : decode cX11_few 56 = .ok (.lconst 0, 1) := by decide +kernel
theorem dX11_few_57 : decode cX11_few 57 = .ok (.lastore, 1) := by decide +kernel
theorem dX11_few_58 : decode cX11_few 58 = .ok (.iinc 3 1, 3) := by decide +kernel
theorem dX11_few_61 : decode cX11_few 61 = .ok (.goto (-26), 3) := by decide +kernel
theorem dX11_few_64 : decode cX11_few 64 = .ok (.aload_n 0, 1) := by decide +kernel
theorem dX11_few_65 : decode cX11_few 65 = .ok (.getfield 13, 3) := by decide +kernel
theorem dX11_few_68 : decode cX11_few 68 = .ok (.bipush 6, 2) := by decide +kernel
theorem dX11_few_70 : decode cX11_few 70 = .ok (.iaload, 1) := by decide +kernel
theorem dX11_few_71 : decode cX11_few 71 = .ok (.istore_n 3, 1) := by decide +kernel
theorem dX11_few_72 : decode cX11_few 72 = .ok (.iconst 0, 1) := by decide +kernel
theorem dX11_few_73 : decode cX11_few 73 = .ok (.istore 4, 2) := by decide +kernel
theorem dX11_few_75 : decode cX11_few 75 = .ok (.iload 4, 2) := by decide +kernel
theorem dX11_few_77 : decode cX11_few 77 = .ok (.iload_n 2, 1) := by decide +kernel
theorem dX11_few_78 : decode cX11_few 78 = .ok (.if_icmp .ge 74, 3) := by decide +kernel
theorem dX11_few_81 : decode cX11_few 81 = .ok (.iload_n 1, 1) := by decide +kernel
theorem dX11_few_82 : decode cX11_few 82 = .ok (.iconst 1, 1) := by decide +kernel
theorem dX11_few_83 : decode cX11_few 83 = .ok (.isub, 1) := by decide +kernel
theorem dX11_few_84 : decode cX11_few 84 = .ok (.istore 5, 2) := by decide +kernel
theorem dX11_few_86 : decode cX11_few 86 = .ok (.iload 5, 2) := by decide +kernel
theorem dX11_few_88 : decode cX11_few 88 = .ok (.ifCond .lt 58, 3) := by decide +kernel
theorem dX11_few_91 : decode cX11_few 91 = .ok (.aload_n 0, 1) := by decide +kernel
theorem dX11_few_92 : decode cX11_few 92 = .ok (.getfield 138, 3) := by decide +kernel
theorem dX11_few_95 : decode cX11_few 95 = .ok (.iload 5, 2) := by decide +kernel
theorem dX11_few_97 : decode cX11_few 97 = .ok (.laload, 1) := by decide +kernel
theorem dX11_few_98 : decode cX11_few 98 = .ok (.lstore 6, 2) := by decide +kernel
theorem dX11_few_100 : decode cX11_few 100 = .ok (.aload_n 0, 1) := by decide +kernel
theorem dX11_few_101 : decode cX11_few 101 = .ok (.getfield 138, 3) := by decide +kernel
theorem dX11_few_104 : decode cX11_few 104 = .ok (.iload 5, 2) := by decide +kernel
theorem dX11_few_106 : decode cX11_few 106 = .ok (.lload 6, 2) := by decide +kernel
theorem dX11_few_108 : decode cX11_few 108 = .ok (.bipush 10, 2) := by decide +kernel
theorem dX11_few_110 : decode cX11_few 110 = .ok (.iload_n 3, 1) := by decide +kernel
theorem dX11_few_111 : decode cX11_few 111 = .ok (.isub, 1) := by decide +kernel
theorem dX11_few_112 : decode cX11_few 112 = .ok (.i2l, 1) := by decide +kernel
theorem dX11_few_113 : decode cX11_few 113 = .ok (.lmul, 1) := by decide +kernel
theorem dX11_few_114 : decode cX11_few 114 = .ok (.ldc2_w 234, 3) := by decide +kernel
theorem dX11_few_117 : decode cX11_few 117 = .ok (.ldiv, 1) := by decide +kernel
theorem dX11_few_118 : decode cX11_few 118 = .ok (.lastore, 1) := by decide +kernel
theorem dX11_few_119 : decode cX11_few 119 = .ok (.aload_n 0, 1) := by decide +kernel
theorem dX11_few_120 : decode cX11_few 120 = .ok (.getfield 138, 3) := by decide +kernel
theorem dX11_few_123 : decode cX11_few 123 = .ok (.iload 5, 2) := by decide +kernel
theorem dX11_few_125 : decode cX11_few 125 = .ok (.iconst 1, 1) := by decide +kernel
theorem dX11_few_126 : decode cX11_few 126 = .ok (.iadd, 1) := by decide +kernel
theorem dX11_few_127 : decode cX11_few 127 = .ok (.dup2, 1) := by decide +kernel
theorem dX11_few_128 : decode cX11_few 128 = .ok (.laload, 1) := by decide +kernel
theorem dX11_few_129 : decode cX11_few 129 = .ok (.lload 6, 2) := by decide +kernel
theorem dX11_few_131 : decode cX11_few 131 = .ok (.iload_n 3, 1) := by decide +kernel
theorem dX11_few_132 : decode cX11_few 132 = .ok (.i2l, 1) := by decide +kernel
theorem dX11_few_133 : decode cX11_few 133 = .ok (.lmul, 1) := by decide +kernel
theorem dX11_few_134 : decode cX11_few 134 = .ok (.ldc2_w 234, 3) := by decide +kernel
theorem dX11_few_137 : decode cX11_few 137 = .ok (.ldiv, 1) := by decide +kernel
theorem dX11_few_138 : decode cX11_few 138 = .ok (.ladd, 1) := by decide +kernel
theorem dX11_few_139 : decode cX11_few 139 = .ok (.lastore, 1) := by decide +kernel
theorem dX11_few_140 : decode cX11_few 140 = .ok (.iinc 5 (-1), 3) := by decide +kernel
theorem dX11_few_143 : decode cX11_few 143 = .ok (.goto (-57), 3) := by decide +kernel
theorem dX11_few_146 : decode cX11_few 146 = .ok (.iinc 4 1, 3) := by decide +kernel
theorem dX11_few_149 : decode cX11_few 149 = .ok (.goto (-74), 3) := by decide +kernel
theorem dX11_few_152 : decode cX11_few 152 = .ok (.lconst 0, 1) := by decide +kernel
theorem dX11_few_153 : decode cX11_few 153 = .ok (.lstore 4, 2) := by decide +kernel
theorem dX11_few_155 : decode cX11_few 155 = .ok (.iconst 0, 1) := by decide +kernel
theorem dX11_few_156 : decode cX11_few 156 = .ok (.istore 6, 2) := by decide +kernel
theorem dX11_few_158 : decode cX11_few 158 = .ok (.iload 6, 2) := by decide +kernel
theorem dX11_few_160 : decode cX11_few 160 = .ok (.iload_n 1, 1) := by decide +kernel
theorem dX11_few_161 : decode cX11_few 161 = .ok (.if_icmp .ge 21, 3) := by decide +kernel
theorem dX11_few_164 : decode cX11_few 164 = .ok (.lload 4, 2) := by decide +kernel
theorem dX11_few_166 : decode cX11_few 166 = .ok (.aload_n 0, 1) := by decide +kernel
theorem dX11_few_167 : decode cX11_few 167 = .ok (.getfield 138, 3) := by decide +kernel
theorem dX11_few_170 : decode cX11_few 170 = .ok (.iload 6, 2) := by decide +kernel
theorem dX11_few_172 : decode cX11_few 172 = .ok (.laload, 1) := by decide +kernel
theorem dX11_few_173 : decode cX11_few 173 = .ok (.ladd, 1) := by decide +kernel
theorem dX11_few_174 : decode cX11_few 174 = .ok (.lstore 4, 2) := by decide +kernel
theorem dX11_few_176 : decode cX11_few 176 = .ok (.iinc 6 1, 3) := by decide +kernel
theorem dX11_few_179 : decode cX11_few 179 = .ok (.goto (-21), 3) := by decide +kernel
theorem dX11_few_182 : decode cX11_few 182 = .ok (.lload 4, 2) := by decide +kernel
theorem dX11_few_184 : decode cX11_few 184 = .ok (.lreturn, 1) := by decide +kernel
def D_X11_few_158b (k158 : z_H → Option Nat → Int32 → Int64 → Int32 → Option (Int64 × z_H)) (h : z_H) (l0 : Option Nat) (l1 : Int32) (l4 : Int64) (l6 : Int32) : Option (Int64 × z_H) :=
  if l1 ≤ l6 then
    some (l4, h)
  else
    (z_gQ 11 h l0 49).bind fun x1224 =>
    (z_aJ h x1224 l6).bind fun x1225 =>
    (some (l4 + x1225)).bind fun x1226 =>
    (some (l6 + (1:Int32))).bind fun x1227 =>
    k158 h l0 l1 x1226 x1227
def D_X11_few_158 (n : Nat) : z_H → Option Nat → Int32 → Int64 → Int32 → Option (Int64 × z_H) := Nat.rec (motive := fun _ => z_H → Option Nat → Int32 → Int64 → Int32 → Option (Int64 × z_H)) (fun _ _ _ _ _ => none) (fun _ k => D_X11_few_158b  k) n
set_option maxRecDepth 100000 in
set_option maxHeartbeats 4000000 in
theorem S_X11_few_158 {G : z_G} {l : Launch}  (n : Nat) : ∀ {h : z_H} {l0 : Option Nat} {l1 : Int32} {l4 : Int64} {l6 : Int32} {res : (Int64 × z_H)}, D_X11_few_158  n h l0 l1 l4 l6 = some res → z_Run G l 5 M_X11_few 158 [(0, z_r l0), (1, .int l1), (4, .long l4), (6, .int l6)] [] h res.2 (some (.long res.1)) := by
  induction n with
  | zero => intro h l0 l1 l4 l6 res e; cases e
  | succ n hk158 =>
    intro h l0 l1 l4 l6 res e
    replace e : D_X11_few_158b  (D_X11_few_158  n) h l0 l1 l4 l6 = some res := e
    unfold D_X11_few_158b at e
    refine z_iload 3 dX11_few_158 rfl ?_
    refine z_iload_n 1 dX11_few_160 rfl ?_
    refine z_icmp_ge (tgt := 182) dX11_few_161 (by decide) (fun c1223 => ?_) (fun c1223 => ?_)
    · rw [if_pos c1223] at e
      refine z_lload 2 dX11_few_182 rfl ?_
      cases e
      exact z_lret dX11_few_184 rfl
    · rw [if_neg c1223] at e
      refine z_lload 2 dX11_few_164 rfl ?_
      refine z_aload_n 0 dX11_few_166 rfl ?_
      replace e := z_bd e; obtain ⟨x1224, ex1224, e⟩ := e
      refine z_getQ ex1224 lk_X11_138 dX11_few_167 ?_
      refine z_iload 3 dX11_few_170 rfl ?_
      replace e := z_bd e; obtain ⟨x1225, ex1225, e⟩ := e
      refine z_lald ex1225 dX11_few_172 ?_
      refine z_ladd dX11_few_173 ?_
      replace e := z_bd e; obtain ⟨x1226, ex1226, e⟩ := e
      refine z_topJ ex1226 ?_
      refine z_lstore (L' := [(4, .long x1226), (0, z_r l0), (1, .int l1), (6, .int l6)]) dX11_few_174 (by decide) rfl ?_
      replace e := z_bd e; obtain ⟨x1227, ex1227, e⟩ := e
      refine z_iinc (q := 3) (v := x1227) (L' := [(6, .int x1227), (4, .long x1226), (0, z_r l0), (1, .int l1)]) dX11_few_176 rfl (Option.some.inj ex1227) (by decide) rfl ?_
      refine z_goto (tgt := 158) dX11_few_179 (by decide) ?_
      exact z_weak [2, 3, 1, 0] rfl (hk158 e)
def D_X11_few_86b (k75 : z_H → Option Nat → Int32 → Int32 → Int32 → Int32 → Option (Int64 × z_H)) (k86 : z_H → Option Nat → Int32 → Int32 → Int32 → Int32 → Int32 → Option (Int64 × z_H)) (h : z_H) (l0 : Option Nat) (l1 : Int32) (l2 : Int32) (l3 : Int32) (l4 : Int32) (l5 : Int32) : Option (Int64 × z_H) :=
  if l5 < 0 then
    (some (l4 + (1:Int32))).bind fun x1229 =>
    k75 h l0 l1 l2 l3 x1229
  else
    (z_gQ 11 h l0 49).bind fun x1230 =>
    (z_aJ h x1230 l5).bind fun x1231 =>
    (z_gQ 11 h l0 49).bind fun x1232 =>
    (z_sJ h x1232 l5 ((x1231 * (Int32.toInt64 ((10:Int32) - l3))) / (10:Int64))).bind fun h1233 =>
    (z_gQ 11 h1233 l0 49).bind fun x1234 =>
    (z_aJ h1233 x1234 (l5 + (1:Int32))).bind fun x1235 =>
    (z_sJ h1233 x1234 (l5 + (1:Int32)) (x1235 + ((x1231 * (Int32.toInt64 l3)) / (10:Int64)))).bind fun h1236 =>
    (some (l5 + (-1:Int32))).bind fun x1237 =>
    k86 h1236 l0 l1 l2 l3 l4 x1237
def D_X11_few_86 (k75 : z_H → Option Nat → Int32 → Int32 → Int32 → Int32 → Option (Int64 × z_H)) (n : Nat) : z_H → Option Nat → Int32 → Int32 → Int32 → Int32 → Int32 → Option (Int64 × z_H) := Nat.rec (motive := fun _ => z_H → Option Nat → Int32 → Int32 → Int32 → Int32 → Int32 → Option (Int64 × z_H)) (fun _ _ _ _ _ _ _ => none) (fun _ k => D_X11_few_86b k75 k) n
set_option maxRecDepth 100000 in
set_option maxHeartbeats 4000000 in
theorem S_X11_few_86 {G : z_G} {l : Launch} {k75 : z_H → Option Nat → Int32 → Int32 → Int32 → Int32 → Option (Int64 × z_H)} (hk75 : ∀ {h : z_H} {l0 : Option Nat} {l1 : Int32} {l2 : Int32} {l3 : Int32} {l4 : Int32} {res : (Int64 × z_H)}, k75 h l0 l1 l2 l3 l4 = some res → z_Run G l 5 M_X11_few 75 [(0, z_r l0), (1, .int l1), (2, .int l2), (3, .int l3), (4, .int l4)] [] h res.2 (some (.long res.1))) (n : Nat) : ∀ {h : z_H} {l0 : Option Nat} {l1 : Int32} {l2 : Int32} {l3 : Int32} {l4 : Int32} {l5 : Int32} {res : (Int64 × z_H)}, D_X11_few_86 k75 n h l0 l1 l2 l3 l4 l5 = some res → z_Run G l 5 M_X11_few 86 [(0, z_r l0), (1, .int l1), (2, .int l2), (3, .int l3), (4, .int l4), (5, .int l5)] [] h res.2 (some (.long res.1)) := by
  induction n with
  | zero => intro h l0 l1 l2 l3 l4 l5 res e; cases e
  | succ n hk86 =>
    intro h l0 l1 l2 l3 l4 l5 res e
    replace e : D_X11_few_86b k75 (D_X11_few_86 k75 n) h l0 l1 l2 l3 l4 l5 = some res := e
    unfold D_X11_few_86b at e
    refine z_iload 5 dX11_few_86 rfl ?_
    refine z_if_lt (tgt := 146) dX11_few_88 (by decide) (fun c1228 => ?_) (fun c1228 => ?_)
    · rw [if_pos c1228] at e
      replace e := z_bd e; obtain ⟨x1229, ex1229, e⟩ := e
      refine z_iinc (q := 4) (v := x1229) (L' := [(4, .int x1229), (0, z_r l0), (1, .int l1), (2, .int l2), (3, .int l3), (5, .int l5)]) dX11_few_146 rfl (Option.some.inj ex1229) (by decide) rfl ?_
      refine z_goto (tgt := 75) dX11_few_149 (by decide) ?_
      exact z_weak [1, 2, 3, 4, 0] rfl (hk75 e)
    · rw [if_neg c1228] at e
      refine z_aload_n 0 dX11_few_91 rfl ?_
      replace e := z_bd e; obtain ⟨x1230, ex1230, e⟩ := e
      refine z_getQ ex1230 lk_X11_138 dX11_few_92 ?_
      refine z_iload 5 dX11_few_95 rfl ?_
      replace e := z_bd e; obtain ⟨x1231, ex1231, e⟩ := e
      refine z_lald ex1231 dX11_few_97 ?_
      refine z_lstore (L' := [(6, .long x1231), (0, z_r l0), (1, .int l1), (2, .int l2), (3, .int l3), (4, .int l4), (5, .int l5)]) dX11_few_98 (by decide) rfl ?_
      refine z_aload_n 1 dX11_few_100 rfl ?_
      replace e := z_bd e; obtain ⟨x1232, ex1232, e⟩ := e
      refine z_getQ ex1232 lk_X11_138 dX11_few_101 ?_
      refine z_iload 6 dX11_few_104 rfl ?_
      refine z_lload 0 dX11_few_106 rfl ?_
      refine z_bipush (v := 10) dX11_few_108 (by decide) ?_
      refine z_iload_n 4 dX11_few_110 rfl ?_
      refine z_isub dX11_few_111 ?_
      refine z_i2l dX11_few_112 ?_
      refine z_lmul dX11_few_113 ?_
      refine z_ldc2 dX11_few_114 kj_X11_234 ?_
      refine z_ldiv dX11_few_117 (by decide) ?_
      replace e := z_bd e; obtain ⟨h1233, eh1233, e⟩ := e
      refine z_last eh1233 dX11_few_118 ?_
      refine z_aload_n 1 dX11_few_119 rfl ?_
      replace e := z_bd e; obtain ⟨x1234, ex1234, e⟩ := e
      refine z_getQ ex1234 lk_X11_138 dX11_few_120 ?_
      refine z_iload 6 dX11_few_123 rfl ?_
      refine z_iconst (v := 1) dX11_few_125 (by decide) ?_
      refine z_iadd dX11_few_126 ?_
      refine z_dup2 dX11_few_127 rfl (z_cr _) ?_
      replace e := z_bd e; obtain ⟨x1235, ex1235, e⟩ := e
      refine z_lald ex1235 dX11_few_128 ?_
      refine z_lload 0 dX11_few_129 rfl ?_
      refine z_iload_n 4 dX11_few_131 rfl ?_
      refine z_i2l dX11_few_132 ?_
      refine z_lmul dX11_few_133 ?_
      refine z_ldc2 dX11_few_134 kj_X11_234 ?_
      refine z_ldiv dX11_few_137 (by decide) ?_
      refine z_ladd dX11_few_138 ?_
      replace e := z_bd e; obtain ⟨h1236, eh1236, e⟩ := e
      refine z_last eh1236 dX11_few_139 ?_
      replace e := z_bd e; obtain ⟨x1237, ex1237, e⟩ := e
      refine z_iinc (q := 6) (v := x1237) (L' := [(5, .int x1237), (6, .long x1231), (0, z_r l0), (1, .int l1), (2, .int l2), (3, .int l3), (4, .int l4)]) dX11_few_140 rfl (Option.some.inj ex1237) (by decide) rfl ?_
      refine z_goto (tgt := 86) dX11_few_143 (by decide) ?_
      exact z_weak [2, 3, 4, 5, 6, 0] rfl (hk86 e)
def D_X11_few_75b (k75 : z_H → Option Nat → Int32 → Int32 → Int32 → Int32 → Option (Int64 × z_H)) (h : z_H) (l0 : Option Nat) (l1 : Int32) (l2 : Int32) (l3 : Int32) (l4 : Int32) : Option (Int64 × z_H) :=
  if l2 ≤ l4 then
    D_X11_few_158   z_F h l0 l1 (0:Int64) (0:Int32)
  else
    (some (l1 - (1:Int32))).bind fun x1239 =>
    D_X11_few_86  k75 z_F h l0 l1 l2 l3 l4 x1239
def D_X11_few_75 (n : Nat) : z_H → Option Nat → Int32 → Int32 → Int32 → Int32 → Option (Int64 × z_H) := Nat.rec (motive := fun _ => z_H → Option Nat → Int32 → Int32 → Int32 → Int32 → Option (Int64 × z_H)) (fun _ _ _ _ _ _ => none) (fun _ k => D_X11_few_75b  k) n
set_option maxRecDepth 100000 in
set_option maxHeartbeats 4000000 in
theorem S_X11_few_75 {G : z_G} {l : Launch}  (n : Nat) : ∀ {h : z_H} {l0 : Option Nat} {l1 : Int32} {l2 : Int32} {l3 : Int32} {l4 : Int32} {res : (Int64 × z_H)}, D_X11_few_75  n h l0 l1 l2 l3 l4 = some res → z_Run G l 5 M_X11_few 75 [(0, z_r l0), (1, .int l1), (2, .int l2), (3, .int l3), (4, .int l4)] [] h res.2 (some (.long res.1)) := by
  induction n with
  | zero => intro h l0 l1 l2 l3 l4 res e; cases e
  | succ n hk75 =>
    intro h l0 l1 l2 l3 l4 res e
    replace e : D_X11_few_75b  (D_X11_few_75  n) h l0 l1 l2 l3 l4 = some res := e
    unfold D_X11_few_75b at e
    refine z_iload 4 dX11_few_75 rfl ?_
    refine z_iload_n 2 dX11_few_77 rfl ?_
    refine z_icmp_ge (tgt := 152) dX11_few_78 (by decide) (fun c1238 => ?_) (fun c1238 => ?_)
    · rw [if_pos c1238] at e
      refine z_lconst (v := 0) dX11_few_152 (by decide) ?_
      refine z_lstore (L' := [(4, .long (0:Int64)), (0, z_r l0), (1, .int l1), (2, .int l2), (3, .int l3)]) dX11_few_153 (by decide) rfl ?_
      refine z_iconst (v := 0) dX11_few_155 (by decide) ?_
      refine z_istore (L' := [(6, .int (0:Int32)), (4, .long (0:Int64)), (0, z_r l0), (1, .int l1), (2, .int l2), (3, .int l3)]) dX11_few_156 (by decide) rfl ?_
      exact z_weak [2, 3, 1, 0] rfl (S_X11_few_158   z_F e)
    · rw [if_neg c1238] at e
      refine z_iload_n 1 dX11_few_81 rfl ?_
      refine z_iconst (v := 1) dX11_few_82 (by decide) ?_
      refine z_isub dX11_few_83 ?_
      replace e := z_bd e; obtain ⟨x1239, ex1239, e⟩ := e
      refine z_topI ex1239 ?_
      refine z_istore (L' := [(5, .int x1239), (0, z_r l0), (1, .int l1), (2, .int l2), (3, .int l3), (4, .int l4)]) dX11_few_84 (by decide) rfl ?_
      exact z_weak [1, 2, 3, 4, 5, 0] rfl (S_X11_few_86  @hk75 z_F e)
def D_X11_few_57 (k35 : z_H → Option Nat → Int32 → Int32 → Int32 → Option (Int64 × z_H)) (h : z_H) (l0 : Option Nat) (l1 : Int32) (l2 : Int32) (l3 : Int32) (s0 : Option Nat) (s1 : Int32) (s2 : Int64) : Option (Int64 × z_H) :=
  (z_sJ h s0 s1 s2).bind fun h1240 =>
  (some (l3 + (1:Int32))).bind fun x1241 =>
  k35 h1240 l0 l1 l2 x1241
set_option maxRecDepth 100000 in
set_option maxHeartbeats 4000000 in
theorem S_X11_few_57 {G : z_G} {l : Launch} {k35 : z_H → Option Nat → Int32 → Int32 → Int32 → Option (Int64 × z_H)} (hk35 : ∀ {h : z_H} {l0 : Option Nat} {l1 : Int32} {l2 : Int32} {l3 : Int32} {res : (Int64 × z_H)}, k35 h l0 l1 l2 l3 = some res → z_Run G l 5 M_X11_few 35 [(0, z_r l0), (1, .int l1), (2, .int l2), (3, .int l3)] [] h res.2 (some (.long res.1))) {h : z_H} {l0 : Option Nat} {l1 : Int32} {l2 : Int32} {l3 : Int32} {s0 : Option Nat} {s1 : Int32} {s2 : Int64} {res : (Int64 × z_H)} (e : D_X11_few_57 k35 h l0 l1 l2 l3 s0 s1 s2 = some res) : z_Run G l 5 M_X11_few 57 [(0, z_r l0), (1, .int l1), (2, .int l2), (3, .int l3)] [.long s2, .int s1, z_r s0] h res.2 (some (.long res.1)) := by
  unfold D_X11_few_57 at e
  replace e := z_bd e; obtain ⟨h1240, eh1240, e⟩ := e
  refine z_last eh1240 dX11_few_57 ?_
  replace e := z_bd e; obtain ⟨x1241, ex1241, e⟩ := e
  refine z_iinc (q := 3) (v := x1241) (L' := [(3, .int x1241), (0, z_r l0), (1, .int l1), (2, .int l2)]) dX11_few_58 rfl (Option.some.inj ex1241) (by decide) rfl ?_
  refine z_goto (tgt := 35) dX11_few_61 (by decide) ?_
  exact z_weak [1, 2, 3, 0] rfl (hk35 e)
def D_X11_few_35b (k35 : z_H → Option Nat → Int32 → Int32 → Int32 → Option (Int64 × z_H)) (h : z_H) (l0 : Option Nat) (l1 : Int32) (l2 : Int32) (l3 : Int32) : Option (Int64 × z_H) :=
  if (21:Int32) ≤ l3 then
    (z_gQ 11 h l0 3).bind fun x1243 =>
    (z_aI .int h x1243 (6:Int32)).bind fun x1244 =>
    D_X11_few_75   z_F h l0 l1 l2 x1244 (0:Int32)
  else
    (z_gQ 11 h l0 49).bind fun x1245 =>
    if l3 = 0 then
      D_X11_few_57  k35 h l0 l1 l2 l3 x1245 l3 (1000000000000:Int64)
    else
      D_X11_few_57  k35 h l0 l1 l2 l3 x1245 l3 (0:Int64)
def D_X11_few_35 (n : Nat) : z_H → Option Nat → Int32 → Int32 → Int32 → Option (Int64 × z_H) := Nat.rec (motive := fun _ => z_H → Option Nat → Int32 → Int32 → Int32 → Option (Int64 × z_H)) (fun _ _ _ _ _ => none) (fun _ k => D_X11_few_35b  k) n
set_option maxRecDepth 100000 in
set_option maxHeartbeats 4000000 in
theorem S_X11_few_35 {G : z_G} {l : Launch}  (n : Nat) : ∀ {h : z_H} {l0 : Option Nat} {l1 : Int32} {l2 : Int32} {l3 : Int32} {res : (Int64 × z_H)}, D_X11_few_35  n h l0 l1 l2 l3 = some res → z_Run G l 5 M_X11_few 35 [(0, z_r l0), (1, .int l1), (2, .int l2), (3, .int l3)] [] h res.2 (some (.long res.1)) := by
  induction n with
  | zero => intro h l0 l1 l2 l3 res e; cases e
  | succ n hk35 =>
    intro h l0 l1 l2 l3 res e
    replace e : D_X11_few_35b  (D_X11_few_35  n) h l0 l1 l2 l3 = some res := e
    unfold D_X11_few_35b at e
    refine z_iload_n 3 dX11_few_35 rfl ?_
    refine z_bipush (v := 21) dX11_few_36 (by decide) ?_
    refine z_icmp_ge (tgt := 64) dX11_few_38 (by decide) (fun c1242 => ?_) (fun c1242 => ?_)
    · rw [if_pos c1242] at e
      refine z_aload_n 0 dX11_few_64 rfl ?_
      replace e := z_bd e; obtain ⟨x1243, ex1243, e⟩ := e
      refine z_getQ ex1243 lk_X11_13 dX11_few_65 ?_
      refine z_bipush (v := 6) dX11_few_68 (by decide) ?_
      replace e := z_bd e; obtain ⟨x1244, ex1244, e⟩ := e
      refine z_iald ex1244 dX11_few_70 ?_
      refine z_istore_n (L' := [(3, .int x1244), (0, z_r l0), (1, .int l1), (2, .int l2)]) dX11_few_71 rfl (by decide) rfl ?_
      refine z_iconst (v := 0) dX11_few_72 (by decide) ?_
      refine z_istore (L' := [(4, .int (0:Int32)), (3, .int x1244), (0, z_r l0), (1, .int l1), (2, .int l2)]) dX11_few_73 (by decide) rfl ?_
      exact z_weak [2, 3, 4, 1, 0] rfl (S_X11_few_75   z_F e)
    · rw [if_neg c1242] at e
      refine z_aload_n 0 dX11_few_41 rfl ?_
      replace e := z_bd e; obtain ⟨x1245, ex1245, e⟩ := e
      refine z_getQ ex1245 lk_X11_138 dX11_few_42 ?_
      refine z_iload_n 3 dX11_few_45 rfl ?_
      refine z_iload_n 3 dX11_few_46 rfl ?_
      refine z_if_ne (tgt := 56) dX11_few_47 (by decide) (fun c1246 => ?_) (fun c1246 => ?_)
      · rw [if_neg c1246] at e
        refine z_lconst (v := 0) dX11_few_56 (by decide) ?_
        exact z_weak [0, 1, 2, 3] rfl (S_X11_few_57  @hk35 e)
      · rw [if_pos c1246] at e
        refine z_ldc2 dX11_few_50 kj_X11_501 ?_
        refine z_goto (tgt := 57) dX11_few_53 (by decide) ?_
        exact z_weak [0, 1, 2, 3] rfl (S_X11_few_57  @hk35 e)
def D_X11_few (h : z_H) (l0 : Option Nat) (l1 : Int32) (l2 : Int32) : Option (Int64 × z_H) :=
  (z_pV 11 h l0 0 (.int (0:Int32))).bind fun h1247 =>
  (D_X11_in  h1247 (Int32.toInt64 l1) (1:Int64) (20:Int64)).bind fun p1248 =>
  if p1248.1 = 0 then
    some ((-1:Int64), p1248.2)
  else
    (D_X11_in  p1248.2 (Int32.toInt64 l2) (0:Int64) (99:Int64)).bind fun p1250 =>
    if p1250.1 = 0 then
      some ((-1:Int64), p1250.2)
    else
      D_X11_few_35   z_F p1250.2 l0 l1 l2 (0:Int32)
set_option maxRecDepth 100000 in
set_option maxHeartbeats 4000000 in
theorem S_X11_few {G : z_G} {l : Launch} {h : z_H} {l0 : Option Nat} {l1 : Int32} {l2 : Int32} {res : (Int64 × z_H)} (e : D_X11_few h l0 l1 l2 = some res) : z_Meth G l 5 M_X11_few [z_r l0, .int l1, .int l2] h res.2 (some (.long res.1)) := by
  refine z_Meth.of ck_X11_few.2.2.2.2 (by simp [lg_sl, z_ci, z_cj, z_cr, z_cx]) ck_X11_few.1 ?_
  rw [show lv_args 0 [z_r l0, .int l1, .int l2] = [(0, z_r l0), (1, .int l1), (2, .int l2)] from by simp [lv_args, z_ci, z_cj, z_cr, z_cx]]
  unfold D_X11_few at e
  refine z_aload_n 0 dX11_few_0 rfl ?_
  refine z_iconst (v := 0) dX11_few_1 (by decide) ?_
  replace e := z_bd e; obtain ⟨h1247, eh1247, e⟩ := e
  refine z_putV eh1247 lk_X11_166 wk_11_0 (fun _ => rfl) (fun _ => rfl) dX11_few_2 ?_
  refine z_iload_n 1 dX11_few_5 rfl ?_
  refine z_i2l dX11_few_6 ?_
  refine z_lconst (v := 1) dX11_few_7 (by decide) ?_
  refine z_ldc2 dX11_few_8 kj_X11_301 ?_
  replace e := z_bd e; obtain ⟨p1248, ep1248, e⟩ := e
  refine z_cS [.long (Int32.toInt64 l1), .long (1:Int64), .long (20:Int64)] (S_X11_in  ep1248) ml_X11_186 ck_X11_in st_X11_in dX11_few_11 (by decide) rfl (Nat.zero_le _) rfl ?_
  refine z_if_eq (tgt := 29) dX11_few_14 (by decide) (fun c1249 => ?_) (fun c1249 => ?_)
  · rw [if_pos c1249] at e
    refine z_ldc2 dX11_few_29 kj_X11_278 ?_
    cases e
    exact z_lret dX11_few_32 rfl
  · rw [if_neg c1249] at e
    refine z_iload_n 2 dX11_few_17 rfl ?_
    refine z_i2l dX11_few_18 ?_
    refine z_lconst (v := 0) dX11_few_19 (by decide) ?_
    refine z_ldc2 dX11_few_20 kj_X11_514 ?_
    replace e := z_bd e; obtain ⟨p1250, ep1250, e⟩ := e
    refine z_cS [.long (Int32.toInt64 l2), .long (0:Int64), .long (99:Int64)] (S_X11_in  ep1250) ml_X11_186 ck_X11_in st_X11_in dX11_few_23 (by decide) rfl (Nat.zero_le _) rfl ?_
    refine z_if_ne (tgt := 33) dX11_few_26 (by decide) (fun c1251 => ?_) (fun c1251 => ?_)
    · rw [if_neg c1251] at e
      refine z_iconst (v := 0) dX11_few_33 (by decide) ?_
      refine z_istore_n (L' := [(3, .int (0:Int32)), (0, z_r l0), (1, .int l1), (2, .int l2)]) dX11_few_34 rfl (by decide) rfl ?_
      exact z_weak [1, 2, 3, 0] rfl (S_X11_few_35   z_F e)
    · rw [if_pos c1251] at e
      refine z_ldc2 dX11_few_29 kj_X11_278 ?_
      cases e
      exact z_lret dX11_few_32 rfl
theorem dX10_cutOff_0 : decode cX10_cutOff 0 = .ok (.ldc_w 291, 3) := by decide +kernel
theorem dX10_cutOff_3 : decode cX10_cutOff 3 = .ok (.aload_n 0, 1) := by decide +kernel
theorem dX10_cutOff_4 : decode cX10_cutOff 4 = .ok (.getfield 12, 3) := by decide +kernel
theorem dX10_cutOff_7 : decode cX10_cutOff 7 = .ok (.getfield 148, 3) := by decide +kernel
theorem dX10_cutOff_10 : decode cX10_cutOff 10 = .ok (.iconst (-1), 1) := by decide +kernel
theorem dX10_cutOff_11 : decode cX10_cutOff 11 = .ok (.ixor, 1) := by decide +kernel
theorem dX10_cutOff_12 : decode cX10_cutOff 12 = .ok (.iand, 1) := by decide +kernel
theorem dX10_cutOff_13 : decode cX10_cutOff 13 = .ok (.istore_n 1, 1) := by decide +kernel
theorem dX10_cutOff_14 : decode cX10_cutOff 14 = .ok (.iload_n 1, 1) := by decide +kernel
theorem dX10_cutOff_15 : decode cX10_cutOff 15 = .ok (.iconst 1, 1) := by decide +kernel
theorem dX10_cutOff_16 : decode cX10_cutOff 16 = .ok (.iand, 1) := by decide +kernel
theorem dX10_cutOff_17 : decode cX10_cutOff 17 = .ok (.istore_n 2, 1) := by decide +kernel
theorem dX10_cutOff_18 : decode cX10_cutOff 18 = .ok (.iconst 0, 1) := by decide +kernel
theorem dX10_cutOff_19 : decode cX10_cutOff 19 = .ok (.istore_n 3, 1) := by decide +kernel
theorem dX10_cutOff_20 : decode cX10_cutOff 20 = .ok (.iload_n 3, 1) := by decide +kernel
theorem dX10_cutOff_21 : decode cX10_cutOff 21 = .ok (.bipush 25, 2) := by decide +kernel
theorem dX10_cutOff_23 : decode cX10_cutOff 23 = .ok (.if_icmp .ge 41, 3) := by decide +kernel
theorem dX10_cutOff_26 : decode cX10_cutOff 26 = .ok (.iload_n 2, 1) := by decide +kernel
theorem dX10_cutOff_27 : decode cX10_cutOff 27 = .ok (.iconst 5, 1) := by decide +kernel
theorem dX10_cutOff_28 : decode cX10_cutOff 28 = .ok (.ishl, 1) := by decide +kernel
theorem dX10_cutOff_29 : decode cX10_cutOff 29 = .ok (.iload_n 2, 1) := by decide +kernel
theorem dX10_cutOff_30 : decode cX10_cutOff 30 = .ok (.iconst 5, 1) := by decide +kernel
theorem dX10_cutOff_31 : decode cX10_cutOff 31 = .ok (.ishr, 1) := by decide +kernel
theorem dX10_cutOff_32 : decode cX10_cutOff 32 = .ok (.ior, 1) := by decide +kernel
theorem dX10_cutOff_33 : decode cX10_cutOff 33 = .ok (.iload_n 2, 1) := by decide +kernel
theorem dX10_cutOff_34 : decode cX10_cutOff 34 = .ok (.ldc_w 292, 3) := by decide +kernel
theorem dX10_cutOff_37 : decode cX10_cutOff 37 = .ok (.iand, 1) := by decide +kernel
theorem dX10_cutOff_38 : decode cX10_cutOff 38 = .ok (.iconst 1, 1) := by decide +kernel
theorem dX10_cutOff_39 : decode cX10_cutOff 39 = .ok (.ishl, 1) := by decide +kernel
theorem dX10_cutOff_40 : decode cX10_cutOff 40 = .ok (.ior, 1) := by decide +kernel
theorem dX10_cutOff_41 : decode cX10_cutOff 41 = .ok (.iload_n 2, 1) := by decide +kernel
theorem dX10_cutOff_42 : decode cX10_cutOff 42 = .ok (.ldc_w 293, 3) := by decide +kernel
theorem dX10_cutOff_45 : decode cX10_cutOff 45 = .ok (.iand, 1) := by decide +kernel
theorem dX10_cutOff_46 : decode cX10_cutOff 46 = .ok (.iconst 1, 1) := by decide +kernel
theorem dX10_cutOff_47 : decode cX10_cutOff 47 = .ok (.ishr, 1) := by decide +kernel
theorem dX10_cutOff_48 : decode cX10_cutOff 48 = .ok (.ior, 1) := by decide +kernel
theorem dX10_cutOff_49 : decode cX10_cutOff 49 = .ok (.istore 4, 2) := by decide +kernel
theorem dX10_cutOff_51 : decode cX10_cutOff 51 = .ok (.iload_n 2, 1) := by decide +kernel
theorem dX10_cutOff_52 : decode cX10_cutOff 52 = .ok (.iload_n 1, 1) := by decide +kernel
theorem dX10_cutOff_53 : decode cX10_cutOff 53 = .ok (.iload 4, 2) := by decide +kernel
theorem dX10_cutOff_55 : decode cX10_cutOff 55 = .ok (.iand, 1) := by decide +kernel
theorem dX10_cutOff_56 : decode cX10_cutOff 56 = .ok (.ior, 1) := by decide +kernel
theorem dX10_cutOff_57 : decode cX10_cutOff 57 = .ok (.istore_n 2, 1) := by decide +kernel
theorem dX10_cutOff_58 : decode cX10_cutOff 58 = .ok (.iinc 3 1, 3) := by decide +kernel
theorem dX10_cutOff_61 : decode cX10_cutOff 61 = .ok (.goto (-41), 3) := by decide +kernel
theorem dX10_cutOff_64 : decode cX10_cutOff 64 = .ok (.iload_n 1, 1) := by decide +kernel
theorem dX10_cutOff_65 : decode cX10_cutOff 65 = .ok (.iload_n 2, 1) := by decide +kernel
theorem dX10_cutOff_66 : decode cX10_cutOff 66 = .ok (.iconst (-1), 1) := by decide +kernel
theorem dX10_cutOff_67 : decode cX10_cutOff 67 = .ok (.ixor, 1) := by decide +kernel
theorem dX10_cutOff_68 : decode cX10_cutOff 68 = .ok (.iand, 1) := by decide +kernel
theorem dX10_cutOff_69 : decode cX10_cutOff 69 = .ok (.ireturn, 1) := by decide +kernel
def D_X10_cutOff_20b (k20 : z_H → Int32 → Int32 → Int32 → Option (Int32 × z_H)) (h : z_H) (l1 : Int32) (l2 : Int32) (l3 : Int32) : Option (Int32 × z_H) :=
  if (25:Int32) ≤ l3 then
    some ((l1 &&& (l2 ^^^ (-1:Int32))), h)
  else
    (some ((((l2 <<< ((5:Int32) &&& 31)) ||| (l2 >>> ((5:Int32) &&& 31))) ||| ((l2 &&& (-17318417:Int32)) <<< ((1:Int32) &&& 31))) ||| ((l2 &&& (-1082402:Int32)) >>> ((1:Int32) &&& 31)))).bind fun x1253 =>
    (some (l2 ||| (l1 &&& x1253))).bind fun x1254 =>
    (some (l3 + (1:Int32))).bind fun x1255 =>
    k20 h l1 x1254 x1255
def D_X10_cutOff_20 (n : Nat) : z_H → Int32 → Int32 → Int32 → Option (Int32 × z_H) := Nat.rec (motive := fun _ => z_H → Int32 → Int32 → Int32 → Option (Int32 × z_H)) (fun _ _ _ _ => none) (fun _ k => D_X10_cutOff_20b  k) n
set_option maxRecDepth 100000 in
set_option maxHeartbeats 4000000 in
theorem S_X10_cutOff_20 {G : z_G} {l : Launch}  (n : Nat) : ∀ {h : z_H} {l1 : Int32} {l2 : Int32} {l3 : Int32} {res : (Int32 × z_H)}, D_X10_cutOff_20  n h l1 l2 l3 = some res → z_Run G l 4 M_X10_cutOff 20 [(1, .int l1), (2, .int l2), (3, .int l3)] [] h res.2 (some (.int res.1)) := by
  induction n with
  | zero => intro h l1 l2 l3 res e; cases e
  | succ n hk20 =>
    intro h l1 l2 l3 res e
    replace e : D_X10_cutOff_20b  (D_X10_cutOff_20  n) h l1 l2 l3 = some res := e
    unfold D_X10_cutOff_20b at e
    refine z_iload_n 2 dX10_cutOff_20 rfl ?_
    refine z_bipush (v := 25) dX10_cutOff_21 (by decide) ?_
    refine z_icmp_ge (tgt := 64) dX10_cutOff_23 (by decide) (fun c1252 => ?_) (fun c1252 => ?_)
    · rw [if_pos c1252] at e
      refine z_iload_n 0 dX10_cutOff_64 rfl ?_
      refine z_iload_n 1 dX10_cutOff_65 rfl ?_
      refine z_iconst (v := -1) dX10_cutOff_66 (by decide) ?_
      refine z_ixor dX10_cutOff_67 ?_
      refine z_iand dX10_cutOff_68 ?_
      cases e
      exact z_iret dX10_cutOff_69 rfl
    · rw [if_neg c1252] at e
      refine z_iload_n 1 dX10_cutOff_26 rfl ?_
      refine z_iconst (v := 5) dX10_cutOff_27 (by decide) ?_
      refine z_ishl dX10_cutOff_28 ?_
      refine z_iload_n 1 dX10_cutOff_29 rfl ?_
      refine z_iconst (v := 5) dX10_cutOff_30 (by decide) ?_
      refine z_ishr dX10_cutOff_31 ?_
      refine z_ior dX10_cutOff_32 ?_
      refine z_iload_n 1 dX10_cutOff_33 rfl ?_
      refine z_ldcw dX10_cutOff_34 kc_X10_292 ?_
      refine z_iand dX10_cutOff_37 ?_
      refine z_iconst (v := 1) dX10_cutOff_38 (by decide) ?_
      refine z_ishl dX10_cutOff_39 ?_
      refine z_ior dX10_cutOff_40 ?_
      refine z_iload_n 1 dX10_cutOff_41 rfl ?_
      refine z_ldcw dX10_cutOff_42 kc_X10_293 ?_
      refine z_iand dX10_cutOff_45 ?_
      refine z_iconst (v := 1) dX10_cutOff_46 (by decide) ?_
      refine z_ishr dX10_cutOff_47 ?_
      refine z_ior dX10_cutOff_48 ?_
      replace e := z_bd e; obtain ⟨x1253, ex1253, e⟩ := e
      refine z_topI ex1253 ?_
      refine z_istore (L' := [(4, .int x1253), (1, .int l1), (2, .int l2), (3, .int l3)]) dX10_cutOff_49 (by decide) rfl ?_
      refine z_iload_n 2 dX10_cutOff_51 rfl ?_
      refine z_iload_n 1 dX10_cutOff_52 rfl ?_
      refine z_iload 0 dX10_cutOff_53 rfl ?_
      refine z_iand dX10_cutOff_55 ?_
      refine z_ior dX10_cutOff_56 ?_
      replace e := z_bd e; obtain ⟨x1254, ex1254, e⟩ := e
      refine z_topI ex1254 ?_
      refine z_istore_n (L' := [(2, .int x1254), (4, .int x1253), (1, .int l1), (3, .int l3)]) dX10_cutOff_57 rfl (by decide) rfl ?_
      replace e := z_bd e; obtain ⟨x1255, ex1255, e⟩ := e
      refine z_iinc (q := 3) (v := x1255) (L' := [(3, .int x1255), (2, .int x1254), (4, .int x1253), (1, .int l1)]) dX10_cutOff_58 rfl (Option.some.inj ex1255) (by decide) rfl ?_
      refine z_goto (tgt := 20) dX10_cutOff_61 (by decide) ?_
      exact z_weak [3, 1, 0] rfl (hk20 e)
def D_X10_cutOff (h : z_H) (l0 : Option Nat) : Option (Int32 × z_H) :=
  (z_gQ 10 h l0 0).bind fun x1256 =>
  (z_gI 9 h x1256 9).bind fun x1257 =>
  (some ((33554431:Int32) &&& (x1257 ^^^ (-1:Int32)))).bind fun x1258 =>
  (some (x1258 &&& (1:Int32))).bind fun x1259 =>
  D_X10_cutOff_20   z_F h x1258 x1259 (0:Int32)
set_option maxRecDepth 100000 in
set_option maxHeartbeats 4000000 in
theorem S_X10_cutOff {G : z_G} {l : Launch} {h : z_H} {l0 : Option Nat} {res : (Int32 × z_H)} (e : D_X10_cutOff h l0 = some res) : z_Meth G l 4 M_X10_cutOff [z_r l0] h res.2 (some (.int res.1)) := by
  refine z_Meth.of ck_X10_cutOff.2.2.2.2 (by simp [lg_sl, z_ci, z_cj, z_cr, z_cx]) ck_X10_cutOff.1 ?_
  rw [show lv_args 0 [z_r l0] = [(0, z_r l0)] from by simp [lv_args, z_ci, z_cj, z_cr, z_cx]]
  unfold D_X10_cutOff at e
  refine z_ldcw dX10_cutOff_0 kc_X10_291 ?_
  refine z_aload_n 0 dX10_cutOff_3 rfl ?_
  replace e := z_bd e; obtain ⟨x1256, ex1256, e⟩ := e
  refine z_getQ ex1256 lk_X10_12 dX10_cutOff_4 ?_
  replace e := z_bd e; obtain ⟨x1257, ex1257, e⟩ := e
  refine z_getI ex1257 lk_X10_148 dX10_cutOff_7 ?_
  refine z_iconst (v := -1) dX10_cutOff_10 (by decide) ?_
  refine z_ixor dX10_cutOff_11 ?_
  refine z_iand dX10_cutOff_12 ?_
  replace e := z_bd e; obtain ⟨x1258, ex1258, e⟩ := e
  refine z_topI ex1258 ?_
  refine z_istore_n (L' := [(1, .int x1258), (0, z_r l0)]) dX10_cutOff_13 rfl (by decide) (by simp [z_cr]) ?_
  refine z_iload_n 0 dX10_cutOff_14 rfl ?_
  refine z_iconst (v := 1) dX10_cutOff_15 (by decide) ?_
  refine z_iand dX10_cutOff_16 ?_
  replace e := z_bd e; obtain ⟨x1259, ex1259, e⟩ := e
  refine z_topI ex1259 ?_
  refine z_istore_n (L' := [(2, .int x1259), (1, .int x1258), (0, z_r l0)]) dX10_cutOff_17 rfl (by decide) rfl ?_
  refine z_iconst (v := 0) dX10_cutOff_18 (by decide) ?_
  refine z_istore_n (L' := [(3, .int (0:Int32)), (2, .int x1259), (1, .int x1258), (0, z_r l0)]) dX10_cutOff_19 rfl (by decide) rfl ?_
  exact z_weak [2, 1, 0] rfl (S_X10_cutOff_20   z_F e)
theorem dX11_cutOff_0 : decode cX11_cutOff 0 = .ok (.aload_n 0, 1) := by decide +kernel
theorem dX11_cutOff_1 : decode cX11_cutOff 1 = .ok (.iconst 0, 1) := by decide +kernel
theorem dX11_cutOff_2 : decode cX11_cutOff 2 = .ok (.putfield 166, 3) := by decide +kernel
theorem dX11_cutOff_5 : decode cX11_cutOff 5 = .ok (.ldc_w 522, 3) := by decide +kernel
theorem dX11_cutOff_8 : decode cX11_cutOff 8 = .ok (.aload_n 0, 1) := by decide +kernel
theorem dX11_cutOff_9 : decode cX11_cutOff 9 = .ok (.getfield 13, 3) := by decide +kernel
theorem dX11_cutOff_12 : decode cX11_cutOff 12 = .ok (.iconst 4, 1) := by decide +kernel
theorem dX11_cutOff_13 : decode cX11_cutOff 13 = .ok (.iaload, 1) := by decide +kernel
theorem dX11_cutOff_14 : decode cX11_cutOff 14 = .ok (.iconst (-1), 1) := by decide +kernel
theorem dX11_cutOff_15 : decode cX11_cutOff 15 = .ok (.ixor, 1) := by decide +kernel
theorem dX11_cutOff_16 : decode cX11_cutOff 16 = .ok (.iand, 1) := by decide +kernel
theorem dX11_cutOff_17 : decode cX11_cutOff 17 = .ok (.istore_n 1, 1) := by decide +kernel
theorem dX11_cutOff_18 : decode cX11_cutOff 18 = .ok (.iload_n 1, 1) := by decide +kernel
theorem dX11_cutOff_19 : decode cX11_cutOff 19 = .ok (.iconst 1, 1) := by decide +kernel
theorem dX11_cutOff_20 : decode cX11_cutOff 20 = .ok (.iand, 1) := by decide +kernel
theorem dX11_cutOff_21 : decode cX11_cutOff 21 = .ok (.istore_n 2, 1) := by decide +kernel
theorem dX11_cutOff_22 : decode cX11_cutOff 22 = .ok (.iconst 0, 1) := by decide +kernel
theorem dX11_cutOff_23 : decode cX11_cutOff 23 = .ok (.istore_n 3, 1) := by decide +kernel
theorem dX11_cutOff_24 : decode cX11_cutOff 24 = .ok (.iload_n 3, 1) := by decide +kernel
theorem dX11_cutOff_25 : decode cX11_cutOff 25 = .ok (.bipush 25, 2) := by decide +kernel
theorem dX11_cutOff_27 : decode cX11_cutOff 27 = .ok (.if_icmp .ge 77, 3) := by decide +kernel
theorem dX11_cutOff_30 : decode cX11_cutOff 30 = .ok (.iconst 0, 1) := by decide +kernel
theorem dX11_cutOff_31 : decode cX11_cutOff 31 = .ok (.istore 4, 2) := by decide +kernel
theorem dX11_cutOff_33 : decode cX11_cutOff 33 = .ok (.iload 4, 2) := by decide +kernel
theorem dX11_cutOff_35 : decode cX11_cutOff 35 = .ok (.bipush 25, 2) := by decide +kernel
theorem dX11_cutOff_37 : decode cX11_cutOff 37 = .ok (.if_icmp .ge 61, 3) := by decide +kernel
theorem dX11_cutOff_40 : decode cX11_cutOff 40 = .ok (.iconst 0, 1) := by decide +kernel
theorem dX11_cutOff_41 : decode cX11_cutOff 41 = .ok (.istore 5, 2) := by decide +kernel
theorem dX11_cutOff_43 : decode cX11_cutOff 43 = .ok (.iload 5, 2) := by decide +kernel
theorem dX11_cutOff_45 : decode cX11_cutOff 45 = .ok (.iconst 4, 1) := by decide +kernel
theorem dX11_cutOff_46 : decode cX11_cutOff 46 = .ok (.if_icmp .ge 46, 3) := by decide +kernel
theorem dX11_cutOff_49 : decode cX11_cutOff 49 = .ok (.iload_n 2, 1) := by decide +kernel
theorem dX11_cutOff_50 : decode cX11_cutOff 50 = .ok (.iload 4, 2) := by decide +kernel
theorem dX11_cutOff_52 : decode cX11_cutOff 52 = .ok (.invokestatic 195, 3) := by decide +kernel
theorem dX11_cutOff_55 : decode cX11_cutOff 55 = .ok (.ifCond .eq 37, 3) := by decide +kernel
theorem dX11_cutOff_58 : decode cX11_cutOff 58 = .ok (.iload 4, 2) := by decide +kernel
theorem dX11_cutOff_60 : decode cX11_cutOff 60 = .ok (.iload 5, 2) := by decide +kernel
theorem dX11_cutOff_62 : decode cX11_cutOff 62 = .ok (.invokestatic 436, 3) := by decide +kernel
theorem dX11_cutOff_65 : decode cX11_cutOff 65 = .ok (.istore 6, 2) := by decide +kernel
theorem dX11_cutOff_67 : decode cX11_cutOff 67 = .ok (.iload_n 2, 1) := by decide +kernel
theorem dX11_cutOff_68 : decode cX11_cutOff 68 = .ok (.iload 6, 2) := by decide +kernel
theorem dX11_cutOff_70 : decode cX11_cutOff 70 = .ok (.iconst (-1), 1) := by decide +kernel
theorem dX11_cutOff_71 : decode cX11_cutOff 71 = .ok (.if_icmp .ne 7, 3) := by decide +kernel
theorem dX11_cutOff_74 : decode cX11_cutOff 74 = .ok (.iconst 0, 1) := by decide +kernel
theorem dX11_cutOff_75 : decode cX11_cutOff 75 = .ok (.goto 9, 3) := by decide +kernel
theorem dX11_cutOff_78 : decode cX11_cutOff 78 = .ok (.iload_n 1, 1) := by decide +kernel
theorem dX11_cutOff_79 : decode cX11_cutOff 79 = .ok (.iconst 1, 1) := by decide +kernel
theorem dX11_cutOff_80 : decode cX11_cutOff 80 = .ok (.iload 6, 2) := by decide +kernel
theorem dX11_cutOff_82 : decode cX11_cutOff 82 = .ok (.ishl, 1) := by decide +kernel
theorem dX11_cutOff_83 : decode cX11_cutOff 83 = .ok (.iand, 1) := by decide +kernel
theorem dX11_cutOff_84 : decode cX11_cutOff 84 = .ok (.ior, 1) := by decide +kernel
theorem dX11_cutOff_85 : decode cX11_cutOff 85 = .ok (.istore_n 2, 1) := by decide +kernel
theorem dX11_cutOff_86 : decode cX11_cutOff 86 = .ok (.iinc 5 1, 3) := by decide +kernel
theorem dX11_cutOff_89 : decode cX11_cutOff 89 = .ok (.goto (-46), 3) := by decide +kernel
theorem dX11_cutOff_92 : decode cX11_cutOff 92 = .ok (.iinc 4 1, 3) := by decide +kernel
theorem dX11_cutOff_95 : decode cX11_cutOff 95 = .ok (.goto (-62), 3) := by decide +kernel
theorem dX11_cutOff_98 : decode cX11_cutOff 98 = .ok (.iinc 3 1, 3) := by decide +kernel
theorem dX11_cutOff_101 : decode cX11_cutOff 101 = .ok (.goto (-77), 3) := by decide +kernel
theorem dX11_cutOff_104 : decode cX11_cutOff 104 = .ok (.iload_n 1, 1) := by decide +kernel
theorem dX11_cutOff_105 : decode cX11_cutOff 105 = .ok (.iload_n 2, 1) := by decide +kernel
theorem dX11_cutOff_106 : decode cX11_cutOff 106 = .ok (.iconst (-1), 1) := by decide +kernel
theorem dX11_cutOff_107 : decode cX11_cutOff 107 = .ok (.ixor, 1) := by decide +kernel
theorem dX11_cutOff_108 : decode cX11_cutOff 108 = .ok (.iand, 1) := by decide +kernel
theorem dX11_cutOff_109 : decode cX11_cutOff 109 = .ok (.ireturn, 1) := by decide +kernel
def D_X11_cutOff_92 (k24 : z_H → Int32 → Int32 → Int32 → Option (Int32 × z_H)) (k33 : z_H → Int32 → Int32 → Int32 → Int32 → Option (Int32 × z_H)) (h : z_H) (l1 : Int32) (l2 : Int32) (l3 : Int32) (l4 : Int32) : Option (Int32 × z_H) :=
  (some (l4 + (1:Int32))).bind fun x1260 =>
  k33 h l1 l2 l3 x1260
set_option maxRecDepth 100000 in
set_option maxHeartbeats 4000000 in
theorem S_X11_cutOff_92 {G : z_G} {l : Launch} {k24 : z_H → Int32 → Int32 → Int32 → Option (Int32 × z_H)} {k33 : z_H → Int32 → Int32 → Int32 → Int32 → Option (Int32 × z_H)} (hk24 : ∀ {h : z_H} {l1 : Int32} {l2 : Int32} {l3 : Int32} {res : (Int32 × z_H)}, k24 h l1 l2 l3 = some res → z_Run G l 6 M_X11_cutOff 24 [(1, .int l1), (2, .int l2), (3, .int l3)] [] h res.2 (some (.int res.1))) (hk33 : ∀ {h : z_H} {l1 : Int32} {l2 : Int32} {l3 : Int32} {l4 : Int32} {res : (Int32 × z_H)}, k33 h l1 l2 l3 l4 = some res → z_Run G l 6 M_X11_cutOff 33 [(1, .int l1), (2, .int l2), (3, .int l3), (4, .int l4)] [] h res.2 (some (.int res.1))) {h : z_H} {l1 : Int32} {l2 : Int32} {l3 : Int32} {l4 : Int32} {res : (Int32 × z_H)} (e : D_X11_cutOff_92 k24 k33 h l1 l2 l3 l4 = some res) : z_Run G l 6 M_X11_cutOff 92 [(1, .int l1), (2, .int l2), (3, .int l3), (4, .int l4)] [] h res.2 (some (.int res.1)) := by
  unfold D_X11_cutOff_92 at e
  replace e := z_bd e; obtain ⟨x1260, ex1260, e⟩ := e
  refine z_iinc (q := 3) (v := x1260) (L' := [(4, .int x1260), (1, .int l1), (2, .int l2), (3, .int l3)]) dX11_cutOff_92 rfl (Option.some.inj ex1260) (by decide) rfl ?_
  refine z_goto (tgt := 33) dX11_cutOff_95 (by decide) ?_
  exact z_weak [1, 2, 3, 0] rfl (hk33 e)
def D_X11_cutOff_84 (k24 : z_H → Int32 → Int32 → Int32 → Option (Int32 × z_H)) (k33 : z_H → Int32 → Int32 → Int32 → Int32 → Option (Int32 × z_H)) (k43 : z_H → Int32 → Int32 → Int32 → Int32 → Int32 → Option (Int32 × z_H)) (h : z_H) (l1 : Int32) (l3 : Int32) (l4 : Int32) (l5 : Int32) (s0 : Int32) (s1 : Int32) : Option (Int32 × z_H) :=
  (some (s0 ||| s1)).bind fun x1261 =>
  (some (l5 + (1:Int32))).bind fun x1262 =>
  k43 h l1 x1261 l3 l4 x1262
set_option maxRecDepth 100000 in
set_option maxHeartbeats 4000000 in
theorem S_X11_cutOff_84 {G : z_G} {l : Launch} {k24 : z_H → Int32 → Int32 → Int32 → Option (Int32 × z_H)} {k33 : z_H → Int32 → Int32 → Int32 → Int32 → Option (Int32 × z_H)} {k43 : z_H → Int32 → Int32 → Int32 → Int32 → Int32 → Option (Int32 × z_H)} (hk24 : ∀ {h : z_H} {l1 : Int32} {l2 : Int32} {l3 : Int32} {res : (Int32 × z_H)}, k24 h l1 l2 l3 = some res → z_Run G l 6 M_X11_cutOff 24 [(1, .int l1), (2, .int l2), (3, .int l3)] [] h res.2 (some (.int res.1))) (hk33 : ∀ {h : z_H} {l1 : Int32} {l2 : Int32} {l3 : Int32} {l4 : Int32} {res : (Int32 × z_H)}, k33 h l1 l2 l3 l4 = some res → z_Run G l 6 M_X11_cutOff 33 [(1, .int l1), (2, .int l2), (3, .int l3), (4, .int l4)] [] h res.2 (some (.int res.1))) (hk43 : ∀ {h : z_H} {l1 : Int32} {l2 : Int32} {l3 : Int32} {l4 : Int32} {l5 : Int32} {res : (Int32 × z_H)}, k43 h l1 l2 l3 l4 l5 = some res → z_Run G l 6 M_X11_cutOff 43 [(1, .int l1), (2, .int l2), (3, .int l3), (4, .int l4), (5, .int l5)] [] h res.2 (some (.int res.1))) {h : z_H} {l1 : Int32} {l3 : Int32} {l4 : Int32} {l5 : Int32} {s0 : Int32} {s1 : Int32} {res : (Int32 × z_H)} (e : D_X11_cutOff_84 k24 k33 k43 h l1 l3 l4 l5 s0 s1 = some res) : z_Run G l 6 M_X11_cutOff 84 [(1, .int l1), (3, .int l3), (4, .int l4), (5, .int l5)] [.int s1, .int s0] h res.2 (some (.int res.1)) := by
  unfold D_X11_cutOff_84 at e
  refine z_ior dX11_cutOff_84 ?_
  replace e := z_bd e; obtain ⟨x1261, ex1261, e⟩ := e
  refine z_topI ex1261 ?_
  refine z_istore_n (L' := [(2, .int x1261), (1, .int l1), (3, .int l3), (4, .int l4), (5, .int l5)]) dX11_cutOff_85 rfl (by decide) rfl ?_
  replace e := z_bd e; obtain ⟨x1262, ex1262, e⟩ := e
  refine z_iinc (q := 4) (v := x1262) (L' := [(5, .int x1262), (2, .int x1261), (1, .int l1), (3, .int l3), (4, .int l4)]) dX11_cutOff_86 rfl (Option.some.inj ex1262) (by decide) rfl ?_
  refine z_goto (tgt := 43) dX11_cutOff_89 (by decide) ?_
  exact z_weak [2, 1, 3, 4, 0] rfl (hk43 e)
def D_X11_cutOff_43b (k24 : z_H → Int32 → Int32 → Int32 → Option (Int32 × z_H)) (k33 : z_H → Int32 → Int32 → Int32 → Int32 → Option (Int32 × z_H)) (k43 : z_H → Int32 → Int32 → Int32 → Int32 → Int32 → Option (Int32 × z_H)) (h : z_H) (l1 : Int32) (l2 : Int32) (l3 : Int32) (l4 : Int32) (l5 : Int32) : Option (Int32 × z_H) :=
  if (4:Int32) ≤ l5 then
    D_X11_cutOff_92  k24 k33 h l1 l2 l3 l4
  else
    (D_X11_is  h l2 l4).bind fun p1264 =>
    if p1264.1 = 0 then
      D_X11_cutOff_92  k24 k33 p1264.2 l1 l2 l3 l4
    else
      (D_X11_beside  p1264.2 l4 l5).bind fun p1266 =>
      if p1266.1 = (-1:Int32) then
        D_X11_cutOff_84  k24 k33 k43 p1266.2 l1 l3 l4 l5 l2 (0:Int32)
      else
        D_X11_cutOff_84  k24 k33 k43 p1266.2 l1 l3 l4 l5 l2 (l1 &&& ((1:Int32) <<< (p1266.1 &&& 31)))
def D_X11_cutOff_43 (k24 : z_H → Int32 → Int32 → Int32 → Option (Int32 × z_H)) (k33 : z_H → Int32 → Int32 → Int32 → Int32 → Option (Int32 × z_H)) (n : Nat) : z_H → Int32 → Int32 → Int32 → Int32 → Int32 → Option (Int32 × z_H) := Nat.rec (motive := fun _ => z_H → Int32 → Int32 → Int32 → Int32 → Int32 → Option (Int32 × z_H)) (fun _ _ _ _ _ _ => none) (fun _ k => D_X11_cutOff_43b k24 k33 k) n
set_option maxRecDepth 100000 in
set_option maxHeartbeats 4000000 in
theorem S_X11_cutOff_43 {G : z_G} {l : Launch} {k24 : z_H → Int32 → Int32 → Int32 → Option (Int32 × z_H)} {k33 : z_H → Int32 → Int32 → Int32 → Int32 → Option (Int32 × z_H)} (hk24 : ∀ {h : z_H} {l1 : Int32} {l2 : Int32} {l3 : Int32} {res : (Int32 × z_H)}, k24 h l1 l2 l3 = some res → z_Run G l 6 M_X11_cutOff 24 [(1, .int l1), (2, .int l2), (3, .int l3)] [] h res.2 (some (.int res.1))) (hk33 : ∀ {h : z_H} {l1 : Int32} {l2 : Int32} {l3 : Int32} {l4 : Int32} {res : (Int32 × z_H)}, k33 h l1 l2 l3 l4 = some res → z_Run G l 6 M_X11_cutOff 33 [(1, .int l1), (2, .int l2), (3, .int l3), (4, .int l4)] [] h res.2 (some (.int res.1))) (n : Nat) : ∀ {h : z_H} {l1 : Int32} {l2 : Int32} {l3 : Int32} {l4 : Int32} {l5 : Int32} {res : (Int32 × z_H)}, D_X11_cutOff_43 k24 k33 n h l1 l2 l3 l4 l5 = some res → z_Run G l 6 M_X11_cutOff 43 [(1, .int l1), (2, .int l2), (3, .int l3), (4, .int l4), (5, .int l5)] [] h res.2 (some (.int res.1)) := by
  induction n with
  | zero => intro h l1 l2 l3 l4 l5 res e; cases e
  | succ n hk43 =>
    intro h l1 l2 l3 l4 l5 res e
    replace e : D_X11_cutOff_43b k24 k33 (D_X11_cutOff_43 k24 k33 n) h l1 l2 l3 l4 l5 = some res := e
    unfold D_X11_cutOff_43b at e
    refine z_iload 4 dX11_cutOff_43 rfl ?_
    refine z_iconst (v := 4) dX11_cutOff_45 (by decide) ?_
    refine z_icmp_ge (tgt := 92) dX11_cutOff_46 (by decide) (fun c1263 => ?_) (fun c1263 => ?_)
    · rw [if_pos c1263] at e
      exact z_weak [0, 1, 2, 3] rfl (S_X11_cutOff_92  @hk24 @hk33 e)
    · rw [if_neg c1263] at e
      refine z_iload_n 1 dX11_cutOff_49 rfl ?_
      refine z_iload 3 dX11_cutOff_50 rfl ?_
      replace e := z_bd e; obtain ⟨p1264, ep1264, e⟩ := e
      refine z_cS [.int l2, .int l4] (S_X11_is  ep1264) ml_X11_195 ck_X11_is st_X11_is dX11_cutOff_52 (by decide) rfl (Nat.zero_le _) rfl ?_
      refine z_if_eq (tgt := 92) dX11_cutOff_55 (by decide) (fun c1265 => ?_) (fun c1265 => ?_)
      · rw [if_pos c1265] at e
        exact z_weak [0, 1, 2, 3] rfl (S_X11_cutOff_92  @hk24 @hk33 e)
      · rw [if_neg c1265] at e
        refine z_iload 3 dX11_cutOff_58 rfl ?_
        refine z_iload 4 dX11_cutOff_60 rfl ?_
        replace e := z_bd e; obtain ⟨p1266, ep1266, e⟩ := e
        refine z_cS [.int l4, .int l5] (S_X11_beside  ep1266) ml_X11_436 ck_X11_beside st_X11_beside dX11_cutOff_62 (by decide) rfl (Nat.zero_le _) rfl ?_
        refine z_istore (L' := [(6, .int p1266.1), (1, .int l1), (2, .int l2), (3, .int l3), (4, .int l4), (5, .int l5)]) dX11_cutOff_65 (by decide) rfl ?_
        refine z_iload_n 2 dX11_cutOff_67 rfl ?_
        refine z_iload 0 dX11_cutOff_68 rfl ?_
        refine z_iconst (v := -1) dX11_cutOff_70 (by decide) ?_
        refine z_icmp_ne (tgt := 78) dX11_cutOff_71 (by decide) (fun c1267 => ?_) (fun c1267 => ?_)
        · rw [if_neg c1267] at e
          refine z_iload_n 1 dX11_cutOff_78 rfl ?_
          refine z_iconst (v := 1) dX11_cutOff_79 (by decide) ?_
          refine z_iload 0 dX11_cutOff_80 rfl ?_
          refine z_ishl dX11_cutOff_82 ?_
          refine z_iand dX11_cutOff_83 ?_
          exact z_weak [1, 3, 4, 5] rfl (S_X11_cutOff_84  @hk24 @hk33 @hk43 e)
        · rw [if_pos c1267] at e
          refine z_iconst (v := 0) dX11_cutOff_74 (by decide) ?_
          refine z_goto (tgt := 84) dX11_cutOff_75 (by decide) ?_
          exact z_weak [1, 3, 4, 5] rfl (S_X11_cutOff_84  @hk24 @hk33 @hk43 e)
def D_X11_cutOff_33b (k24 : z_H → Int32 → Int32 → Int32 → Option (Int32 × z_H)) (k33 : z_H → Int32 → Int32 → Int32 → Int32 → Option (Int32 × z_H)) (h : z_H) (l1 : Int32) (l2 : Int32) (l3 : Int32) (l4 : Int32) : Option (Int32 × z_H) :=
  if (25:Int32) ≤ l4 then
    (some (l3 + (1:Int32))).bind fun x1269 =>
    k24 h l1 l2 x1269
  else
    D_X11_cutOff_43  k24 k33 z_F h l1 l2 l3 l4 (0:Int32)
def D_X11_cutOff_33 (k24 : z_H → Int32 → Int32 → Int32 → Option (Int32 × z_H)) (n : Nat) : z_H → Int32 → Int32 → Int32 → Int32 → Option (Int32 × z_H) := Nat.rec (motive := fun _ => z_H → Int32 → Int32 → Int32 → Int32 → Option (Int32 × z_H)) (fun _ _ _ _ _ => none) (fun _ k => D_X11_cutOff_33b k24 k) n
set_option maxRecDepth 100000 in
set_option maxHeartbeats 4000000 in
theorem S_X11_cutOff_33 {G : z_G} {l : Launch} {k24 : z_H → Int32 → Int32 → Int32 → Option (Int32 × z_H)} (hk24 : ∀ {h : z_H} {l1 : Int32} {l2 : Int32} {l3 : Int32} {res : (Int32 × z_H)}, k24 h l1 l2 l3 = some res → z_Run G l 6 M_X11_cutOff 24 [(1, .int l1), (2, .int l2), (3, .int l3)] [] h res.2 (some (.int res.1))) (n : Nat) : ∀ {h : z_H} {l1 : Int32} {l2 : Int32} {l3 : Int32} {l4 : Int32} {res : (Int32 × z_H)}, D_X11_cutOff_33 k24 n h l1 l2 l3 l4 = some res → z_Run G l 6 M_X11_cutOff 33 [(1, .int l1), (2, .int l2), (3, .int l3), (4, .int l4)] [] h res.2 (some (.int res.1)) := by
  induction n with
  | zero => intro h l1 l2 l3 l4 res e; cases e
  | succ n hk33 =>
    intro h l1 l2 l3 l4 res e
    replace e : D_X11_cutOff_33b k24 (D_X11_cutOff_33 k24 n) h l1 l2 l3 l4 = some res := e
    unfold D_X11_cutOff_33b at e
    refine z_iload 3 dX11_cutOff_33 rfl ?_
    refine z_bipush (v := 25) dX11_cutOff_35 (by decide) ?_
    refine z_icmp_ge (tgt := 98) dX11_cutOff_37 (by decide) (fun c1268 => ?_) (fun c1268 => ?_)
    · rw [if_pos c1268] at e
      replace e := z_bd e; obtain ⟨x1269, ex1269, e⟩ := e
      refine z_iinc (q := 2) (v := x1269) (L' := [(3, .int x1269), (1, .int l1), (2, .int l2), (4, .int l4)]) dX11_cutOff_98 rfl (Option.some.inj ex1269) (by decide) rfl ?_
      refine z_goto (tgt := 24) dX11_cutOff_101 (by decide) ?_
      exact z_weak [1, 2, 0] rfl (hk24 e)
    · rw [if_neg c1268] at e
      refine z_iconst (v := 0) dX11_cutOff_40 (by decide) ?_
      refine z_istore (L' := [(5, .int (0:Int32)), (1, .int l1), (2, .int l2), (3, .int l3), (4, .int l4)]) dX11_cutOff_41 (by decide) rfl ?_
      exact z_weak [1, 2, 3, 4, 0] rfl (S_X11_cutOff_43  @hk24 @hk33 z_F e)
def D_X11_cutOff_24b (k24 : z_H → Int32 → Int32 → Int32 → Option (Int32 × z_H)) (h : z_H) (l1 : Int32) (l2 : Int32) (l3 : Int32) : Option (Int32 × z_H) :=
  if (25:Int32) ≤ l3 then
    some ((l1 &&& (l2 ^^^ (-1:Int32))), h)
  else
    D_X11_cutOff_33  k24 z_F h l1 l2 l3 (0:Int32)
def D_X11_cutOff_24 (n : Nat) : z_H → Int32 → Int32 → Int32 → Option (Int32 × z_H) := Nat.rec (motive := fun _ => z_H → Int32 → Int32 → Int32 → Option (Int32 × z_H)) (fun _ _ _ _ => none) (fun _ k => D_X11_cutOff_24b  k) n
set_option maxRecDepth 100000 in
set_option maxHeartbeats 4000000 in
theorem S_X11_cutOff_24 {G : z_G} {l : Launch}  (n : Nat) : ∀ {h : z_H} {l1 : Int32} {l2 : Int32} {l3 : Int32} {res : (Int32 × z_H)}, D_X11_cutOff_24  n h l1 l2 l3 = some res → z_Run G l 6 M_X11_cutOff 24 [(1, .int l1), (2, .int l2), (3, .int l3)] [] h res.2 (some (.int res.1)) := by
  induction n with
  | zero => intro h l1 l2 l3 res e; cases e
  | succ n hk24 =>
    intro h l1 l2 l3 res e
    replace e : D_X11_cutOff_24b  (D_X11_cutOff_24  n) h l1 l2 l3 = some res := e
    unfold D_X11_cutOff_24b at e
    refine z_iload_n 2 dX11_cutOff_24 rfl ?_
    refine z_bipush (v := 25) dX11_cutOff_25 (by decide) ?_
    refine z_icmp_ge (tgt := 104) dX11_cutOff_27 (by decide) (fun c1270 => ?_) (fun c1270 => ?_)
    · rw [if_pos c1270] at e
      refine z_iload_n 0 dX11_cutOff_104 rfl ?_
      refine z_iload_n 1 dX11_cutOff_105 rfl ?_
      refine z_iconst (v := -1) dX11_cutOff_106 (by decide) ?_
      refine z_ixor dX11_cutOff_107 ?_
      refine z_iand dX11_cutOff_108 ?_
      cases e
      exact z_iret dX11_cutOff_109 rfl
    · rw [if_neg c1270] at e
      refine z_iconst (v := 0) dX11_cutOff_30 (by decide) ?_
      refine z_istore (L' := [(4, .int (0:Int32)), (1, .int l1), (2, .int l2), (3, .int l3)]) dX11_cutOff_31 (by decide) rfl ?_
      exact z_weak [1, 2, 3, 0] rfl (S_X11_cutOff_33  @hk24 z_F e)
def D_X11_cutOff (h : z_H) (l0 : Option Nat) : Option (Int32 × z_H) :=
  (z_pV 11 h l0 0 (.int (0:Int32))).bind fun h1271 =>
  (z_gQ 11 h1271 l0 3).bind fun x1272 =>
  (z_aI .int h1271 x1272 (4:Int32)).bind fun x1273 =>
  (some ((33554431:Int32) &&& (x1273 ^^^ (-1:Int32)))).bind fun x1274 =>
  (some (x1274 &&& (1:Int32))).bind fun x1275 =>
  D_X11_cutOff_24   z_F h1271 x1274 x1275 (0:Int32)
set_option maxRecDepth 100000 in
set_option maxHeartbeats 4000000 in
theorem S_X11_cutOff {G : z_G} {l : Launch} {h : z_H} {l0 : Option Nat} {res : (Int32 × z_H)} (e : D_X11_cutOff h l0 = some res) : z_Meth G l 6 M_X11_cutOff [z_r l0] h res.2 (some (.int res.1)) := by
  refine z_Meth.of ck_X11_cutOff.2.2.2.2 (by simp [lg_sl, z_ci, z_cj, z_cr, z_cx]) ck_X11_cutOff.1 ?_
  rw [show lv_args 0 [z_r l0] = [(0, z_r l0)] from by simp [lv_args, z_ci, z_cj, z_cr, z_cx]]
  unfold D_X11_cutOff at e
  refine z_aload_n 0 dX11_cutOff_0 rfl ?_
  refine z_iconst (v := 0) dX11_cutOff_1 (by decide) ?_
  replace e := z_bd e; obtain ⟨h1271, eh1271, e⟩ := e
  refine z_putV eh1271 lk_X11_166 wk_11_0 (fun _ => rfl) (fun _ => rfl) dX11_cutOff_2 ?_
  refine z_ldcw dX11_cutOff_5 kc_X11_522 ?_
  refine z_aload_n 0 dX11_cutOff_8 rfl ?_
  replace e := z_bd e; obtain ⟨x1272, ex1272, e⟩ := e
  refine z_getQ ex1272 lk_X11_13 dX11_cutOff_9 ?_
  refine z_iconst (v := 4) dX11_cutOff_12 (by decide) ?_
  replace e := z_bd e; obtain ⟨x1273, ex1273, e⟩ := e
  refine z_iald ex1273 dX11_cutOff_13 ?_
  refine z_iconst (v := -1) dX11_cutOff_14 (by decide) ?_
  refine z_ixor dX11_cutOff_15 ?_
  refine z_iand dX11_cutOff_16 ?_
  replace e := z_bd e; obtain ⟨x1274, ex1274, e⟩ := e
  refine z_topI ex1274 ?_
  refine z_istore_n (L' := [(1, .int x1274), (0, z_r l0)]) dX11_cutOff_17 rfl (by decide) (by simp [z_cr]) ?_
  refine z_iload_n 0 dX11_cutOff_18 rfl ?_
  refine z_iconst (v := 1) dX11_cutOff_19 (by decide) ?_
  refine z_iand dX11_cutOff_20 ?_
  replace e := z_bd e; obtain ⟨x1275, ex1275, e⟩ := e
  refine z_topI ex1275 ?_
  refine z_istore_n (L' := [(2, .int x1275), (1, .int x1274), (0, z_r l0)]) dX11_cutOff_21 rfl (by decide) rfl ?_
  refine z_iconst (v := 0) dX11_cutOff_22 (by decide) ?_
  refine z_istore_n (L' := [(3, .int (0:Int32)), (2, .int x1275), (1, .int x1274), (0, z_r l0)]) dX11_cutOff_23 rfl (by decide) rfl ?_
  exact z_weak [2, 1, 0] rfl (S_X11_cutOff_24   z_F e)
theorem dX3_candidates_0 : decode cX3_candidates 0 = .ok (.iconst 0, 1) := by decide +kernel
theorem dX3_candidates_1 : decode cX3_candidates 1 = .ok (.istore_n 2, 1) := by decide +kernel
theorem dX3_candidates_2 : decode cX3_candidates 2 = .ok (.iconst 0, 1) := by decide +kernel
theorem dX3_candidates_3 : decode cX3_candidates 3 = .ok (.istore_n 3, 1) := by decide +kernel
theorem dX3_candidates_4 : decode cX3_candidates 4 = .ok (.iload_n 3, 1) := by decide +kernel
theorem dX3_candidates_5 : decode cX3_candidates 5 = .ok (.aload_n 1, 1) := by decide +kernel
theorem dX3_candidates_6 : decode cX3_candidates 6 = .ok (.getfield 44, 3) := by decide +kernel
theorem dX3_candidates_9 : decode cX3_candidates 9 = .ok (.if_icmp .ge 79, 3) := by decide +kernel
theorem dX3_candidates_12 : decode cX3_candidates 12 = .ok (.iconst 1, 1) := by decide +kernel
theorem dX3_candidates_13 : decode cX3_candidates 13 = .ok (.istore 4, 2) := by decide +kernel
theorem dX3_candidates_15 : decode cX3_candidates 15 = .ok (.iconst 0, 1) := by decide +kernel
theorem dX3_candidates_16 : decode cX3_candidates 16 = .ok (.istore 5, 2) := by decide +kernel
theorem dX3_candidates_18 : decode cX3_candidates 18 = .ok (.iload 5, 2) := by decide +kernel
theorem dX3_candidates_20 : decode cX3_candidates 20 = .ok (.aload_n 1, 1) := by decide +kernel
theorem dX3_candidates_21 : decode cX3_candidates 21 = .ok (.getfield 71, 3) := by decide +kernel
theorem dX3_candidates_24 : decode cX3_candidates 24 = .ok (.if_icmp .ge 43, 3) := by decide +kernel
theorem dX3_candidates_27 : decode cX3_candidates 27 = .ok (.iload 4, 2) := by decide +kernel
theorem dX3_candidates_29 : decode cX3_candidates 29 = .ok (.ifCond .eq 29, 3) := by decide +kernel
theorem dX3_candidates_32 : decode cX3_candidates 32 = .ok (.aload_n 1, 1) := by decide +kernel
theorem dX3_candidates_33 : decode cX3_candidates 33 = .ok (.iload_n 3, 1) := by decide +kernel
theorem dX3_candidates_34 : decode cX3_candidates 34 = .ok (.aload_n 1, 1) := by decide +kernel
theorem dX3_candidates_35 : decode cX3_candidates 35 = .ok (.getfield 74, 3) := by decide +kernel
theorem dX3_candidates_38 : decode cX3_candidates 38 = .ok (.iload 5, 2) := by decide +kernel
theorem dX3_candidates_40 : decode cX3_candidates 40 = .ok (.iaload, 1) := by decide +kernel
theorem dX3_candidates_41 : decode cX3_candidates 41 = .ok (.invokevirtual 32, 3) := by decide +kernel
theorem dX3_candidates_44 : decode cX3_candidates 44 = .ok (.aload_n 1, 1) := by decide +kernel
theorem dX3_candidates_45 : decode cX3_candidates 45 = .ok (.getfield 77, 3) := by decide +kernel
theorem dX3_candidates_48 : decode cX3_candidates 48 = .ok (.iload 5, 2) := by decide +kernel
theorem dX3_candidates_50 : decode cX3_candidates 50 = .ok (.iaload, 1) := by decide +kernel
theorem dX3_candidates_51 : decode cX3_candidates 51 = .ok (.if_icmp .ne 7, 3) := by decide +kernel
theorem dX3_candidates_54 : decode cX3_candidates 54 = .ok (.iconst 1, 1) := by decide +kernel
theorem dX3_candidates_55 : decode cX3_candidates 55 = .ok (.goto 4, 3) := by decide +kernel
theorem dX3_candidates_58 : decode cX3_candidates 58 = .ok (.iconst 0, 1) := by decide +kernel
theorem dX3_candidates_59 : decode cX3_candidates 59 = .ok (.istore 4, 2) := by decide +kernel
theorem dX3_candidates_61 : decode cX3_candidates 61 = .ok (.iinc 5 1, 3) := by decide +kernel
theorem dX3_candidates_64 : decode cX3_candidates 64 = .ok (.goto (-46), 3) := by decide +kernel
theorem dX3_candidates_67 : decode cX3_candidates 67 = .ok (.iload_n 2, 1) := by decide +kernel
theorem dX3_candidates_68 : decode cX3_candidates 68 = .ok (.iload 4, 2) := by decide +kernel
theorem dX3_candidates_70 : decode cX3_candidates 70 = .ok (.ifCond .eq 9, 3) := by decide +kernel
theorem dX3_candidates_73 : decode cX3_candidates 73 = .ok (.iconst 1, 1) := by decide +kernel
theorem dX3_candidates_74 : decode cX3_candidates 74 = .ok (.iload_n 3, 1) := by decide +kernel
theorem dX3_candidates_75 : decode cX3_candidates 75 = .ok (.ishl, 1) := by decide +kernel
theorem dX3_candidates_76 : decode cX3_candidates 76 = .ok (.goto 4, 3) := by decide +kernel
theorem dX3_candidates_79 : decode cX3_candidates 79 = .ok (.iconst 0, 1) := by decide +kernel
theorem dX3_candidates_80 : decode cX3_candidates 80 = .ok (.ior, 1) := by decide +kernel
theorem dX3_candidates_81 : decode cX3_candidates 81 = .ok (.istore_n 2, 1) := by decide +kernel
theorem dX3_candidates_82 : decode cX3_candidates 82 = .ok (.iinc 3 1, 3) := by decide +kernel
theorem dX3_candidates_85 : decode cX3_candidates 85 = .ok (.goto (-81), 3) := by decide +kernel
theorem dX3_candidates_88 : decode cX3_candidates 88 = .ok (.iload_n 2, 1) := by decide +kernel
theorem dX3_candidates_89 : decode cX3_candidates 89 = .ok (.ireturn, 1) := by decide +kernel
def D_X3_candidates_80 (k4 : z_H → Option Nat → Int32 → Int32 → Option (Int32 × z_H)) (h : z_H) (l1 : Option Nat) (l3 : Int32) (s0 : Int32) (s1 : Int32) : Option (Int32 × z_H) :=
  (some (s0 ||| s1)).bind fun x1276 =>
  (some (l3 + (1:Int32))).bind fun x1277 =>
  k4 h l1 x1276 x1277
set_option maxRecDepth 100000 in
set_option maxHeartbeats 4000000 in
theorem S_X3_candidates_80 {G : z_G} {l : Launch} {k4 : z_H → Option Nat → Int32 → Int32 → Option (Int32 × z_H)} (hk4 : ∀ {h : z_H} {l1 : Option Nat} {l2 : Int32} {l3 : Int32} {res : (Int32 × z_H)}, k4 h l1 l2 l3 = some res → z_Run G l 5 M_X3_candidates 4 [(1, z_r l1), (2, .int l2), (3, .int l3)] [] h res.2 (some (.int res.1))) {h : z_H} {l1 : Option Nat} {l3 : Int32} {s0 : Int32} {s1 : Int32} {res : (Int32 × z_H)} (e : D_X3_candidates_80 k4 h l1 l3 s0 s1 = some res) : z_Run G l 5 M_X3_candidates 80 [(1, z_r l1), (3, .int l3)] [.int s1, .int s0] h res.2 (some (.int res.1)) := by
  unfold D_X3_candidates_80 at e
  refine z_ior dX3_candidates_80 ?_
  replace e := z_bd e; obtain ⟨x1276, ex1276, e⟩ := e
  refine z_topI ex1276 ?_
  refine z_istore_n (L' := [(2, .int x1276), (1, z_r l1), (3, .int l3)]) dX3_candidates_81 rfl (by decide) (by simp [z_cr]) ?_
  replace e := z_bd e; obtain ⟨x1277, ex1277, e⟩ := e
  refine z_iinc (q := 2) (v := x1277) (L' := [(3, .int x1277), (2, .int x1276), (1, z_r l1)]) dX3_candidates_82 rfl (Option.some.inj ex1277) (by decide) rfl ?_
  refine z_goto (tgt := 4) dX3_candidates_85 (by decide) ?_
  exact z_weak [2, 1, 0] rfl (hk4 e)
def D_X3_candidates_59 (k4 : z_H → Option Nat → Int32 → Int32 → Option (Int32 × z_H)) (k18 : z_H → Option Nat → Int32 → Int32 → Int32 → Int32 → Option (Int32 × z_H)) (h : z_H) (l1 : Option Nat) (l2 : Int32) (l3 : Int32) (l5 : Int32) (s0 : Int32) : Option (Int32 × z_H) :=
  (some (l5 + (1:Int32))).bind fun x1278 =>
  k18 h l1 l2 l3 s0 x1278
set_option maxRecDepth 100000 in
set_option maxHeartbeats 4000000 in
theorem S_X3_candidates_59 {G : z_G} {l : Launch} {k4 : z_H → Option Nat → Int32 → Int32 → Option (Int32 × z_H)} {k18 : z_H → Option Nat → Int32 → Int32 → Int32 → Int32 → Option (Int32 × z_H)} (hk4 : ∀ {h : z_H} {l1 : Option Nat} {l2 : Int32} {l3 : Int32} {res : (Int32 × z_H)}, k4 h l1 l2 l3 = some res → z_Run G l 5 M_X3_candidates 4 [(1, z_r l1), (2, .int l2), (3, .int l3)] [] h res.2 (some (.int res.1))) (hk18 : ∀ {h : z_H} {l1 : Option Nat} {l2 : Int32} {l3 : Int32} {l4 : Int32} {l5 : Int32} {res : (Int32 × z_H)}, k18 h l1 l2 l3 l4 l5 = some res → z_Run G l 5 M_X3_candidates 18 [(1, z_r l1), (2, .int l2), (3, .int l3), (4, .int l4), (5, .int l5)] [] h res.2 (some (.int res.1))) {h : z_H} {l1 : Option Nat} {l2 : Int32} {l3 : Int32} {l5 : Int32} {s0 : Int32} {res : (Int32 × z_H)} (e : D_X3_candidates_59 k4 k18 h l1 l2 l3 l5 s0 = some res) : z_Run G l 5 M_X3_candidates 59 [(1, z_r l1), (2, .int l2), (3, .int l3), (5, .int l5)] [.int s0] h res.2 (some (.int res.1)) := by
  unfold D_X3_candidates_59 at e
  refine z_istore (L' := [(4, .int s0), (1, z_r l1), (2, .int l2), (3, .int l3), (5, .int l5)]) dX3_candidates_59 (by decide) rfl ?_
  replace e := z_bd e; obtain ⟨x1278, ex1278, e⟩ := e
  refine z_iinc (q := 4) (v := x1278) (L' := [(5, .int x1278), (4, .int s0), (1, z_r l1), (2, .int l2), (3, .int l3)]) dX3_candidates_61 rfl (Option.some.inj ex1278) (by decide) rfl ?_
  refine z_goto (tgt := 18) dX3_candidates_64 (by decide) ?_
  exact z_weak [2, 3, 4, 1, 0] rfl (hk18 e)
def D_X3_candidates_58 (k4 : z_H → Option Nat → Int32 → Int32 → Option (Int32 × z_H)) (k18 : z_H → Option Nat → Int32 → Int32 → Int32 → Int32 → Option (Int32 × z_H)) (h : z_H) (l1 : Option Nat) (l2 : Int32) (l3 : Int32) (l5 : Int32) : Option (Int32 × z_H) :=
  D_X3_candidates_59  k4 k18 h l1 l2 l3 l5 (0:Int32)
set_option maxRecDepth 100000 in
set_option maxHeartbeats 4000000 in
theorem S_X3_candidates_58 {G : z_G} {l : Launch} {k4 : z_H → Option Nat → Int32 → Int32 → Option (Int32 × z_H)} {k18 : z_H → Option Nat → Int32 → Int32 → Int32 → Int32 → Option (Int32 × z_H)} (hk4 : ∀ {h : z_H} {l1 : Option Nat} {l2 : Int32} {l3 : Int32} {res : (Int32 × z_H)}, k4 h l1 l2 l3 = some res → z_Run G l 5 M_X3_candidates 4 [(1, z_r l1), (2, .int l2), (3, .int l3)] [] h res.2 (some (.int res.1))) (hk18 : ∀ {h : z_H} {l1 : Option Nat} {l2 : Int32} {l3 : Int32} {l4 : Int32} {l5 : Int32} {res : (Int32 × z_H)}, k18 h l1 l2 l3 l4 l5 = some res → z_Run G l 5 M_X3_candidates 18 [(1, z_r l1), (2, .int l2), (3, .int l3), (4, .int l4), (5, .int l5)] [] h res.2 (some (.int res.1))) {h : z_H} {l1 : Option Nat} {l2 : Int32} {l3 : Int32} {l5 : Int32} {res : (Int32 × z_H)} (e : D_X3_candidates_58 k4 k18 h l1 l2 l3 l5 = some res) : z_Run G l 5 M_X3_candidates 58 [(1, z_r l1), (2, .int l2), (3, .int l3), (5, .int l5)] [] h res.2 (some (.int res.1)) := by
  unfold D_X3_candidates_58 at e
  refine z_iconst (v := 0) dX3_candidates_58 (by decide) ?_
  exact z_weak [0, 1, 2, 3] rfl (S_X3_candidates_59  @hk4 @hk18 e)
def D_X3_candidates_18b (k4 : z_H → Option Nat → Int32 → Int32 → Option (Int32 × z_H)) (k18 : z_H → Option Nat → Int32 → Int32 → Int32 → Int32 → Option (Int32 × z_H)) (h : z_H) (l1 : Option Nat) (l2 : Int32) (l3 : Int32) (l4 : Int32) (l5 : Int32) : Option (Int32 × z_H) :=
  (z_gI 9 h l1 10).bind fun x1279 =>
  if x1279 ≤ l5 then
    if l4 = 0 then
      D_X3_candidates_80  k4 h l1 l3 l2 (0:Int32)
    else
      D_X3_candidates_80  k4 h l1 l3 l2 ((1:Int32) <<< (l3 &&& 31))
  else
    if l4 = 0 then
      D_X3_candidates_58  k4 k18 h l1 l2 l3 l5
    else
      (z_gQ 9 h l1 5).bind fun x1283 =>
      (z_aI .int h x1283 l5).bind fun x1284 =>
      (z_ob 9 h l1).bind fun _ =>
      (D_X9_wornAt  h l1 l3 x1284).bind fun p1285 =>
      (z_gQ 9 p1285.2 l1 6).bind fun x1287 =>
      (z_aI .int p1285.2 x1287 l5).bind fun x1288 =>
      if p1285.1 = x1288 then
        D_X3_candidates_59  k4 k18 p1285.2 l1 l2 l3 l5 (1:Int32)
      else
        D_X3_candidates_58  k4 k18 p1285.2 l1 l2 l3 l5
def D_X3_candidates_18 (k4 : z_H → Option Nat → Int32 → Int32 → Option (Int32 × z_H)) (n : Nat) : z_H → Option Nat → Int32 → Int32 → Int32 → Int32 → Option (Int32 × z_H) := Nat.rec (motive := fun _ => z_H → Option Nat → Int32 → Int32 → Int32 → Int32 → Option (Int32 × z_H)) (fun _ _ _ _ _ _ => none) (fun _ k => D_X3_candidates_18b k4 k) n
set_option maxRecDepth 100000 in
set_option maxHeartbeats 4000000 in
theorem S_X3_candidates_18 {G : z_G} {l : Launch} {k4 : z_H → Option Nat → Int32 → Int32 → Option (Int32 × z_H)} (hk4 : ∀ {h : z_H} {l1 : Option Nat} {l2 : Int32} {l3 : Int32} {res : (Int32 × z_H)}, k4 h l1 l2 l3 = some res → z_Run G l 5 M_X3_candidates 4 [(1, z_r l1), (2, .int l2), (3, .int l3)] [] h res.2 (some (.int res.1))) (n : Nat) : ∀ {h : z_H} {l1 : Option Nat} {l2 : Int32} {l3 : Int32} {l4 : Int32} {l5 : Int32} {res : (Int32 × z_H)}, D_X3_candidates_18 k4 n h l1 l2 l3 l4 l5 = some res → z_Run G l 5 M_X3_candidates 18 [(1, z_r l1), (2, .int l2), (3, .int l3), (4, .int l4), (5, .int l5)] [] h res.2 (some (.int res.1)) := by
  induction n with
  | zero => intro h l1 l2 l3 l4 l5 res e; cases e
  | succ n hk18 =>
    intro h l1 l2 l3 l4 l5 res e
    replace e : D_X3_candidates_18b k4 (D_X3_candidates_18 k4 n) h l1 l2 l3 l4 l5 = some res := e
    unfold D_X3_candidates_18b at e
    refine z_iload 4 dX3_candidates_18 rfl ?_
    refine z_aload_n 0 dX3_candidates_20 rfl ?_
    replace e := z_bd e; obtain ⟨x1279, ex1279, e⟩ := e
    refine z_getI ex1279 lk_X3_71 dX3_candidates_21 ?_
    refine z_icmp_ge (tgt := 67) dX3_candidates_24 (by decide) (fun c1280 => ?_) (fun c1280 => ?_)
    · rw [if_pos c1280] at e
      refine z_iload_n 1 dX3_candidates_67 rfl ?_
      refine z_iload 3 dX3_candidates_68 rfl ?_
      refine z_if_eq (tgt := 79) dX3_candidates_70 (by decide) (fun c1281 => ?_) (fun c1281 => ?_)
      · rw [if_pos c1281] at e
        refine z_iconst (v := 0) dX3_candidates_79 (by decide) ?_
        exact z_weak [0, 2] rfl (S_X3_candidates_80  @hk4 e)
      · rw [if_neg c1281] at e
        refine z_iconst (v := 1) dX3_candidates_73 (by decide) ?_
        refine z_iload_n 2 dX3_candidates_74 rfl ?_
        refine z_ishl dX3_candidates_75 ?_
        refine z_goto (tgt := 80) dX3_candidates_76 (by decide) ?_
        exact z_weak [0, 2] rfl (S_X3_candidates_80  @hk4 e)
    · rw [if_neg c1280] at e
      refine z_iload 3 dX3_candidates_27 rfl ?_
      refine z_if_eq (tgt := 58) dX3_candidates_29 (by decide) (fun c1282 => ?_) (fun c1282 => ?_)
      · rw [if_pos c1282] at e
        exact z_weak [0, 1, 2, 4] rfl (S_X3_candidates_58  @hk4 @hk18 e)
      · rw [if_neg c1282] at e
        refine z_aload_n 0 dX3_candidates_32 rfl ?_
        refine z_iload_n 2 dX3_candidates_33 rfl ?_
        refine z_aload_n 0 dX3_candidates_34 rfl ?_
        replace e := z_bd e; obtain ⟨x1283, ex1283, e⟩ := e
        refine z_getQ ex1283 lk_X3_74 dX3_candidates_35 ?_
        refine z_iload 4 dX3_candidates_38 rfl ?_
        replace e := z_bd e; obtain ⟨x1284, ex1284, e⟩ := e
        refine z_iald ex1284 dX3_candidates_40 ?_
        replace e := z_bd e; obtain ⟨o1286, eo1286, e⟩ := e
        replace e := z_bd e; obtain ⟨p1285, ep1285, e⟩ := e
        refine z_cV [.int l3, .int x1284] (S_X9_wornAt  ep1285) eo1286 rfl ml_X3_32 ck_X9_wornAt vk_X9_wornAt dX3_candidates_41 (by decide) rfl (Nat.zero_le _) rfl ?_
        refine z_aload_n 0 dX3_candidates_44 rfl ?_
        replace e := z_bd e; obtain ⟨x1287, ex1287, e⟩ := e
        refine z_getQ ex1287 lk_X3_77 dX3_candidates_45 ?_
        refine z_iload 4 dX3_candidates_48 rfl ?_
        replace e := z_bd e; obtain ⟨x1288, ex1288, e⟩ := e
        refine z_iald ex1288 dX3_candidates_50 ?_
        refine z_icmp_ne (tgt := 58) dX3_candidates_51 (by decide) (fun c1289 => ?_) (fun c1289 => ?_)
        · rw [if_neg c1289] at e
          exact z_weak [0, 1, 2, 4] rfl (S_X3_candidates_58  @hk4 @hk18 e)
        · rw [if_pos c1289] at e
          refine z_iconst (v := 1) dX3_candidates_54 (by decide) ?_
          refine z_goto (tgt := 59) dX3_candidates_55 (by decide) ?_
          exact z_weak [0, 1, 2, 4] rfl (S_X3_candidates_59  @hk4 @hk18 e)
def D_X3_candidates_4b (k4 : z_H → Option Nat → Int32 → Int32 → Option (Int32 × z_H)) (h : z_H) (l1 : Option Nat) (l2 : Int32) (l3 : Int32) : Option (Int32 × z_H) :=
  (z_gI 9 h l1 8).bind fun x1290 =>
  if x1290 ≤ l3 then
    some (l2, h)
  else
    D_X3_candidates_18  k4 z_F h l1 l2 l3 (1:Int32) (0:Int32)
def D_X3_candidates_4 (n : Nat) : z_H → Option Nat → Int32 → Int32 → Option (Int32 × z_H) := Nat.rec (motive := fun _ => z_H → Option Nat → Int32 → Int32 → Option (Int32 × z_H)) (fun _ _ _ _ => none) (fun _ k => D_X3_candidates_4b  k) n
set_option maxRecDepth 100000 in
set_option maxHeartbeats 4000000 in
theorem S_X3_candidates_4 {G : z_G} {l : Launch}  (n : Nat) : ∀ {h : z_H} {l1 : Option Nat} {l2 : Int32} {l3 : Int32} {res : (Int32 × z_H)}, D_X3_candidates_4  n h l1 l2 l3 = some res → z_Run G l 5 M_X3_candidates 4 [(1, z_r l1), (2, .int l2), (3, .int l3)] [] h res.2 (some (.int res.1)) := by
  induction n with
  | zero => intro h l1 l2 l3 res e; cases e
  | succ n hk4 =>
    intro h l1 l2 l3 res e
    replace e : D_X3_candidates_4b  (D_X3_candidates_4  n) h l1 l2 l3 = some res := e
    unfold D_X3_candidates_4b at e
    refine z_iload_n 2 dX3_candidates_4 rfl ?_
    refine z_aload_n 0 dX3_candidates_5 rfl ?_
    replace e := z_bd e; obtain ⟨x1290, ex1290, e⟩ := e
    refine z_getI ex1290 lk_X3_44 dX3_candidates_6 ?_
    refine z_icmp_ge (tgt := 88) dX3_candidates_9 (by decide) (fun c1291 => ?_) (fun c1291 => ?_)
    · rw [if_pos c1291] at e
      refine z_iload_n 1 dX3_candidates_88 rfl ?_
      cases e
      exact z_iret dX3_candidates_89 rfl
    · rw [if_neg c1291] at e
      refine z_iconst (v := 1) dX3_candidates_12 (by decide) ?_
      refine z_istore (L' := [(4, .int (1:Int32)), (1, z_r l1), (2, .int l2), (3, .int l3)]) dX3_candidates_13 (by decide) rfl ?_
      refine z_iconst (v := 0) dX3_candidates_15 (by decide) ?_
      refine z_istore (L' := [(5, .int (0:Int32)), (4, .int (1:Int32)), (1, z_r l1), (2, .int l2), (3, .int l3)]) dX3_candidates_16 (by decide) rfl ?_
      exact z_weak [2, 3, 4, 1, 0] rfl (S_X3_candidates_18  @hk4 z_F e)
def D_X3_candidates (h : z_H) (l0 : Option Nat) (l1 : Option Nat) : Option (Int32 × z_H) :=
  D_X3_candidates_4   z_F h l1 (0:Int32) (0:Int32)
set_option maxRecDepth 100000 in
set_option maxHeartbeats 4000000 in
theorem S_X3_candidates {G : z_G} {l : Launch} {h : z_H} {l0 : Option Nat} {l1 : Option Nat} {res : (Int32 × z_H)} (e : D_X3_candidates h l0 l1 = some res) : z_Meth G l 5 M_X3_candidates [z_r l0, z_r l1] h res.2 (some (.int res.1)) := by
  refine z_Meth.of ck_X3_candidates.2.2.2.2 (by simp [lg_sl, z_ci, z_cj, z_cr, z_cx]) ck_X3_candidates.1 ?_
  rw [show lv_args 0 [z_r l0, z_r l1] = [(0, z_r l0), (1, z_r l1)] from by simp [lv_args, z_ci, z_cj, z_cr, z_cx]]
  unfold D_X3_candidates at e
  refine z_iconst (v := 0) dX3_candidates_0 (by decide) ?_
  refine z_istore_n (L' := [(2, .int (0:Int32)), (0, z_r l0), (1, z_r l1)]) dX3_candidates_1 rfl (by decide) (by simp [z_cr]) ?_
  refine z_iconst (v := 0) dX3_candidates_2 (by decide) ?_
  refine z_istore_n (L' := [(3, .int (0:Int32)), (2, .int (0:Int32)), (0, z_r l0), (1, z_r l1)]) dX3_candidates_3 rfl (by decide) rfl ?_
  exact z_weak [3, 1, 0] rfl (S_X3_candidates_4   z_F e)
theorem dX3_mostAlike_0 : decode cX3_mostAlike 0 = .ok (.iconst 0, 1) := by decide +kernel
theorem dX3_mostAlike_1 : decode cX3_mostAlike 1 = .ok (.istore_n 3, 1) := by decide +kernel
theorem dX3_mostAlike_2 : decode cX3_mostAlike 2 = .ok (.iconst 0, 1) := by decide +kernel
theorem dX3_mostAlike_3 : decode cX3_mostAlike 3 = .ok (.istore 4, 2) := by decide +kernel
theorem dX3_mostAlike_5 : decode cX3_mostAlike 5 = .ok (.iload 4, 2) := by decide +kernel
theorem dX3_mostAlike_7 : decode cX3_mostAlike 7 = .ok (.aload_n 0, 1) := by decide +kernel
theorem dX3_mostAlike_8 : decode cX3_mostAlike 8 = .ok (.getfield 44, 3) := by decide +kernel
theorem dX3_mostAlike_11 : decode cX3_mostAlike 11 = .ok (.if_icmp .ge 91, 3) := by decide +kernel
theorem dX3_mostAlike_14 : decode cX3_mostAlike 14 = .ok (.iconst 0, 1) := by decide +kernel
theorem dX3_mostAlike_15 : decode cX3_mostAlike 15 = .ok (.istore 5, 2) := by decide +kernel
theorem dX3_mostAlike_17 : decode cX3_mostAlike 17 = .ok (.iconst 0, 1) := by decide +kernel
theorem dX3_mostAlike_18 : decode cX3_mostAlike 18 = .ok (.istore 6, 2) := by decide +kernel
theorem dX3_mostAlike_20 : decode cX3_mostAlike 20 = .ok (.iload 6, 2) := by decide +kernel
theorem dX3_mostAlike_22 : decode cX3_mostAlike 22 = .ok (.aload_n 0, 1) := by decide +kernel
theorem dX3_mostAlike_23 : decode cX3_mostAlike 23 = .ok (.getfield 44, 3) := by decide +kernel
theorem dX3_mostAlike_26 : decode cX3_mostAlike 26 = .ok (.if_icmp .ge 63, 3) := by decide +kernel
theorem dX3_mostAlike_29 : decode cX3_mostAlike 29 = .ok (.iload_n 1, 1) := by decide +kernel
theorem dX3_mostAlike_30 : decode cX3_mostAlike 30 = .ok (.iload 4, 2) := by decide +kernel
theorem dX3_mostAlike_32 : decode cX3_mostAlike 32 = .ok (.ishr, 1) := by decide +kernel
theorem dX3_mostAlike_33 : decode cX3_mostAlike 33 = .ok (.iload_n 1, 1) := by decide +kernel
theorem dX3_mostAlike_34 : decode cX3_mostAlike 34 = .ok (.iload 6, 2) := by decide +kernel
theorem dX3_mostAlike_36 : decode cX3_mostAlike 36 = .ok (.ishr, 1) := by decide +kernel
theorem dX3_mostAlike_37 : decode cX3_mostAlike 37 = .ok (.iand, 1) := by decide +kernel
theorem dX3_mostAlike_38 : decode cX3_mostAlike 38 = .ok (.iconst 1, 1) := by decide +kernel
theorem dX3_mostAlike_39 : decode cX3_mostAlike 39 = .ok (.iand, 1) := by decide +kernel
theorem dX3_mostAlike_40 : decode cX3_mostAlike 40 = .ok (.iconst 1, 1) := by decide +kernel
theorem dX3_mostAlike_41 : decode cX3_mostAlike 41 = .ok (.if_icmp .ne 7, 3) := by decide +kernel
theorem dX3_mostAlike_44 : decode cX3_mostAlike 44 = .ok (.iconst 1, 1) := by decide +kernel
theorem dX3_mostAlike_45 : decode cX3_mostAlike 45 = .ok (.goto 4, 3) := by decide +kernel
theorem dX3_mostAlike_48 : decode cX3_mostAlike 48 = .ok (.iconst 0, 1) := by decide +kernel
theorem dX3_mostAlike_49 : decode cX3_mostAlike 49 = .ok (.istore 7, 2) := by decide +kernel
theorem dX3_mostAlike_51 : decode cX3_mostAlike 51 = .ok (.iload 5, 2) := by decide +kernel
theorem dX3_mostAlike_53 : decode cX3_mostAlike 53 = .ok (.iload 7, 2) := by decide +kernel
theorem dX3_mostAlike_55 : decode cX3_mostAlike 55 = .ok (.ifCond .eq 24, 3) := by decide +kernel
theorem dX3_mostAlike_58 : decode cX3_mostAlike 58 = .ok (.aload_n 0, 1) := by decide +kernel
theorem dX3_mostAlike_59 : decode cX3_mostAlike 59 = .ok (.iload 4, 2) := by decide +kernel
theorem dX3_mostAlike_61 : decode cX3_mostAlike 61 = .ok (.iload_n 2, 1) := by decide +kernel
theorem dX3_mostAlike_62 : decode cX3_mostAlike 62 = .ok (.invokevirtual 32, 3) := by decide +kernel
theorem dX3_mostAlike_65 : decode cX3_mostAlike 65 = .ok (.aload_n 0, 1) := by decide +kernel
theorem dX3_mostAlike_66 : decode cX3_mostAlike 66 = .ok (.iload 6, 2) := by decide +kernel
theorem dX3_mostAlike_68 : decode cX3_mostAlike 68 = .ok (.iload_n 2, 1) := by decide +kernel
theorem dX3_mostAlike_69 : decode cX3_mostAlike 69 = .ok (.invokevirtual 32, 3) := by decide +kernel
theorem dX3_mostAlike_72 : decode cX3_mostAlike 72 = .ok (.if_icmp .ne 7, 3) := by decide +kernel
theorem dX3_mostAlike_75 : decode cX3_mostAlike 75 = .ok (.iconst 1, 1) := by decide +kernel
theorem dX3_mostAlike_76 : decode cX3_mostAlike 76 = .ok (.goto 4, 3) := by decide +kernel
theorem dX3_mostAlike_79 : decode cX3_mostAlike 79 = .ok (.iconst 0, 1) := by decide +kernel
theorem dX3_mostAlike_80 : decode cX3_mostAlike 80 = .ok (.iadd, 1) := by decide +kernel
theorem dX3_mostAlike_81 : decode cX3_mostAlike 81 = .ok (.istore 5, 2) := by decide +kernel
theorem dX3_mostAlike_83 : decode cX3_mostAlike 83 = .ok (.iinc 6 1, 3) := by decide +kernel
theorem dX3_mostAlike_86 : decode cX3_mostAlike 86 = .ok (.goto (-66), 3) := by decide +kernel
theorem dX3_mostAlike_89 : decode cX3_mostAlike 89 = .ok (.iload_n 3, 1) := by decide +kernel
theorem dX3_mostAlike_90 : decode cX3_mostAlike 90 = .ok (.iload 5, 2) := by decide +kernel
theorem dX3_mostAlike_92 : decode cX3_mostAlike 92 = .ok (.invokestatic 87, 3) := by decide +kernel
theorem dX3_mostAlike_95 : decode cX3_mostAlike 95 = .ok (.istore_n 3, 1) := by decide +kernel
theorem dX3_mostAlike_96 : decode cX3_mostAlike 96 = .ok (.iinc 4 1, 3) := by decide +kernel
theorem dX3_mostAlike_99 : decode cX3_mostAlike 99 = .ok (.goto (-94), 3) := by decide +kernel
theorem dX3_mostAlike_102 : decode cX3_mostAlike 102 = .ok (.iload_n 3, 1) := by decide +kernel
theorem dX3_mostAlike_103 : decode cX3_mostAlike 103 = .ok (.ireturn, 1) := by decide +kernel
def D_X3_mostAlike_80 (k5 : z_H → Option Nat → Int32 → Int32 → Int32 → Int32 → Option (Int32 × z_H)) (k20 : z_H → Option Nat → Int32 → Int32 → Int32 → Int32 → Int32 → Int32 → Option (Int32 × z_H)) (h : z_H) (l0 : Option Nat) (l1 : Int32) (l2 : Int32) (l3 : Int32) (l4 : Int32) (l6 : Int32) (s0 : Int32) (s1 : Int32) : Option (Int32 × z_H) :=
  (some (s0 + s1)).bind fun x1292 =>
  (some (l6 + (1:Int32))).bind fun x1293 =>
  k20 h l0 l1 l2 l3 l4 x1292 x1293
set_option maxRecDepth 100000 in
set_option maxHeartbeats 4000000 in
theorem S_X3_mostAlike_80 {G : z_G} {l : Launch} {k5 : z_H → Option Nat → Int32 → Int32 → Int32 → Int32 → Option (Int32 × z_H)} {k20 : z_H → Option Nat → Int32 → Int32 → Int32 → Int32 → Int32 → Int32 → Option (Int32 × z_H)} (hk5 : ∀ {h : z_H} {l0 : Option Nat} {l1 : Int32} {l2 : Int32} {l3 : Int32} {l4 : Int32} {res : (Int32 × z_H)}, k5 h l0 l1 l2 l3 l4 = some res → z_Run G l 5 M_X3_mostAlike 5 [(0, z_r l0), (1, .int l1), (2, .int l2), (3, .int l3), (4, .int l4)] [] h res.2 (some (.int res.1))) (hk20 : ∀ {h : z_H} {l0 : Option Nat} {l1 : Int32} {l2 : Int32} {l3 : Int32} {l4 : Int32} {l5 : Int32} {l6 : Int32} {res : (Int32 × z_H)}, k20 h l0 l1 l2 l3 l4 l5 l6 = some res → z_Run G l 5 M_X3_mostAlike 20 [(0, z_r l0), (1, .int l1), (2, .int l2), (3, .int l3), (4, .int l4), (5, .int l5), (6, .int l6)] [] h res.2 (some (.int res.1))) {h : z_H} {l0 : Option Nat} {l1 : Int32} {l2 : Int32} {l3 : Int32} {l4 : Int32} {l6 : Int32} {s0 : Int32} {s1 : Int32} {res : (Int32 × z_H)} (e : D_X3_mostAlike_80 k5 k20 h l0 l1 l2 l3 l4 l6 s0 s1 = some res) : z_Run G l 5 M_X3_mostAlike 80 [(0, z_r l0), (1, .int l1), (2, .int l2), (3, .int l3), (4, .int l4), (6, .int l6)] [.int s1, .int s0] h res.2 (some (.int res.1)) := by
  unfold D_X3_mostAlike_80 at e
  refine z_iadd dX3_mostAlike_80 ?_
  replace e := z_bd e; obtain ⟨x1292, ex1292, e⟩ := e
  refine z_topI ex1292 ?_
  refine z_istore (L' := [(5, .int x1292), (0, z_r l0), (1, .int l1), (2, .int l2), (3, .int l3), (4, .int l4), (6, .int l6)]) dX3_mostAlike_81 (by decide) rfl ?_
  replace e := z_bd e; obtain ⟨x1293, ex1293, e⟩ := e
  refine z_iinc (q := 6) (v := x1293) (L' := [(6, .int x1293), (5, .int x1292), (0, z_r l0), (1, .int l1), (2, .int l2), (3, .int l3), (4, .int l4)]) dX3_mostAlike_83 rfl (Option.some.inj ex1293) (by decide) rfl ?_
  refine z_goto (tgt := 20) dX3_mostAlike_86 (by decide) ?_
  exact z_weak [2, 3, 4, 5, 6, 1, 0] rfl (hk20 e)
def D_X3_mostAlike_79 (k5 : z_H → Option Nat → Int32 → Int32 → Int32 → Int32 → Option (Int32 × z_H)) (k20 : z_H → Option Nat → Int32 → Int32 → Int32 → Int32 → Int32 → Int32 → Option (Int32 × z_H)) (h : z_H) (l0 : Option Nat) (l1 : Int32) (l2 : Int32) (l3 : Int32) (l4 : Int32) (l6 : Int32) (s0 : Int32) : Option (Int32 × z_H) :=
  D_X3_mostAlike_80  k5 k20 h l0 l1 l2 l3 l4 l6 s0 (0:Int32)
set_option maxRecDepth 100000 in
set_option maxHeartbeats 4000000 in
theorem S_X3_mostAlike_79 {G : z_G} {l : Launch} {k5 : z_H → Option Nat → Int32 → Int32 → Int32 → Int32 → Option (Int32 × z_H)} {k20 : z_H → Option Nat → Int32 → Int32 → Int32 → Int32 → Int32 → Int32 → Option (Int32 × z_H)} (hk5 : ∀ {h : z_H} {l0 : Option Nat} {l1 : Int32} {l2 : Int32} {l3 : Int32} {l4 : Int32} {res : (Int32 × z_H)}, k5 h l0 l1 l2 l3 l4 = some res → z_Run G l 5 M_X3_mostAlike 5 [(0, z_r l0), (1, .int l1), (2, .int l2), (3, .int l3), (4, .int l4)] [] h res.2 (some (.int res.1))) (hk20 : ∀ {h : z_H} {l0 : Option Nat} {l1 : Int32} {l2 : Int32} {l3 : Int32} {l4 : Int32} {l5 : Int32} {l6 : Int32} {res : (Int32 × z_H)}, k20 h l0 l1 l2 l3 l4 l5 l6 = some res → z_Run G l 5 M_X3_mostAlike 20 [(0, z_r l0), (1, .int l1), (2, .int l2), (3, .int l3), (4, .int l4), (5, .int l5), (6, .int l6)] [] h res.2 (some (.int res.1))) {h : z_H} {l0 : Option Nat} {l1 : Int32} {l2 : Int32} {l3 : Int32} {l4 : Int32} {l6 : Int32} {s0 : Int32} {res : (Int32 × z_H)} (e : D_X3_mostAlike_79 k5 k20 h l0 l1 l2 l3 l4 l6 s0 = some res) : z_Run G l 5 M_X3_mostAlike 79 [(0, z_r l0), (1, .int l1), (2, .int l2), (3, .int l3), (4, .int l4), (6, .int l6)] [.int s0] h res.2 (some (.int res.1)) := by
  unfold D_X3_mostAlike_79 at e
  refine z_iconst (v := 0) dX3_mostAlike_79 (by decide) ?_
  exact z_weak [0, 1, 2, 3, 4, 5] rfl (S_X3_mostAlike_80  @hk5 @hk20 e)
def D_X3_mostAlike_49 (k5 : z_H → Option Nat → Int32 → Int32 → Int32 → Int32 → Option (Int32 × z_H)) (k20 : z_H → Option Nat → Int32 → Int32 → Int32 → Int32 → Int32 → Int32 → Option (Int32 × z_H)) (h : z_H) (l0 : Option Nat) (l1 : Int32) (l2 : Int32) (l3 : Int32) (l4 : Int32) (l5 : Int32) (l6 : Int32) (s0 : Int32) : Option (Int32 × z_H) :=
  if s0 = 0 then
    D_X3_mostAlike_79  k5 k20 h l0 l1 l2 l3 l4 l6 l5
  else
    (z_ob 9 h l0).bind fun _ =>
    (D_X9_wornAt  h l0 l4 l2).bind fun p1295 =>
    (z_ob 9 p1295.2 l0).bind fun _ =>
    (D_X9_wornAt  p1295.2 l0 l6 l2).bind fun p1297 =>
    if p1295.1 = p1297.1 then
      D_X3_mostAlike_80  k5 k20 p1297.2 l0 l1 l2 l3 l4 l6 l5 (1:Int32)
    else
      D_X3_mostAlike_79  k5 k20 p1297.2 l0 l1 l2 l3 l4 l6 l5
set_option maxRecDepth 100000 in
set_option maxHeartbeats 4000000 in
theorem S_X3_mostAlike_49 {G : z_G} {l : Launch} {k5 : z_H → Option Nat → Int32 → Int32 → Int32 → Int32 → Option (Int32 × z_H)} {k20 : z_H → Option Nat → Int32 → Int32 → Int32 → Int32 → Int32 → Int32 → Option (Int32 × z_H)} (hk5 : ∀ {h : z_H} {l0 : Option Nat} {l1 : Int32} {l2 : Int32} {l3 : Int32} {l4 : Int32} {res : (Int32 × z_H)}, k5 h l0 l1 l2 l3 l4 = some res → z_Run G l 5 M_X3_mostAlike 5 [(0, z_r l0), (1, .int l1), (2, .int l2), (3, .int l3), (4, .int l4)] [] h res.2 (some (.int res.1))) (hk20 : ∀ {h : z_H} {l0 : Option Nat} {l1 : Int32} {l2 : Int32} {l3 : Int32} {l4 : Int32} {l5 : Int32} {l6 : Int32} {res : (Int32 × z_H)}, k20 h l0 l1 l2 l3 l4 l5 l6 = some res → z_Run G l 5 M_X3_mostAlike 20 [(0, z_r l0), (1, .int l1), (2, .int l2), (3, .int l3), (4, .int l4), (5, .int l5), (6, .int l6)] [] h res.2 (some (.int res.1))) {h : z_H} {l0 : Option Nat} {l1 : Int32} {l2 : Int32} {l3 : Int32} {l4 : Int32} {l5 : Int32} {l6 : Int32} {s0 : Int32} {res : (Int32 × z_H)} (e : D_X3_mostAlike_49 k5 k20 h l0 l1 l2 l3 l4 l5 l6 s0 = some res) : z_Run G l 5 M_X3_mostAlike 49 [(0, z_r l0), (1, .int l1), (2, .int l2), (3, .int l3), (4, .int l4), (5, .int l5), (6, .int l6)] [.int s0] h res.2 (some (.int res.1)) := by
  unfold D_X3_mostAlike_49 at e
  refine z_istore (L' := [(7, .int s0), (0, z_r l0), (1, .int l1), (2, .int l2), (3, .int l3), (4, .int l4), (5, .int l5), (6, .int l6)]) dX3_mostAlike_49 (by decide) rfl ?_
  refine z_iload 6 dX3_mostAlike_51 rfl ?_
  refine z_iload 0 dX3_mostAlike_53 rfl ?_
  refine z_if_eq (tgt := 79) dX3_mostAlike_55 (by decide) (fun c1294 => ?_) (fun c1294 => ?_)
  · rw [if_pos c1294] at e
    exact z_weak [1, 2, 3, 4, 5, 7] rfl (S_X3_mostAlike_79  @hk5 @hk20 e)
  · rw [if_neg c1294] at e
    refine z_aload_n 1 dX3_mostAlike_58 rfl ?_
    refine z_iload 5 dX3_mostAlike_59 rfl ?_
    refine z_iload_n 3 dX3_mostAlike_61 rfl ?_
    replace e := z_bd e; obtain ⟨o1296, eo1296, e⟩ := e
    replace e := z_bd e; obtain ⟨p1295, ep1295, e⟩ := e
    refine z_cV [.int l4, .int l2] (S_X9_wornAt  ep1295) eo1296 rfl ml_X3_32 ck_X9_wornAt vk_X9_wornAt dX3_mostAlike_62 (by decide) rfl (by simp [z_ci, z_cj, z_cr, z_cx]) rfl ?_
    refine z_aload_n 1 dX3_mostAlike_65 rfl ?_
    refine z_iload 7 dX3_mostAlike_66 rfl ?_
    refine z_iload_n 3 dX3_mostAlike_68 rfl ?_
    replace e := z_bd e; obtain ⟨o1298, eo1298, e⟩ := e
    replace e := z_bd e; obtain ⟨p1297, ep1297, e⟩ := e
    refine z_cV [.int l6, .int l2] (S_X9_wornAt  ep1297) eo1298 rfl ml_X3_32 ck_X9_wornAt vk_X9_wornAt dX3_mostAlike_69 (by decide) rfl (by simp [z_ci, z_cj, z_cr, z_cx]) rfl ?_
    refine z_icmp_ne (tgt := 79) dX3_mostAlike_72 (by decide) (fun c1299 => ?_) (fun c1299 => ?_)
    · rw [if_neg c1299] at e
      exact z_weak [1, 2, 3, 4, 5, 7] rfl (S_X3_mostAlike_79  @hk5 @hk20 e)
    · rw [if_pos c1299] at e
      refine z_iconst (v := 1) dX3_mostAlike_75 (by decide) ?_
      refine z_goto (tgt := 80) dX3_mostAlike_76 (by decide) ?_
      exact z_weak [1, 2, 3, 4, 5, 7] rfl (S_X3_mostAlike_80  @hk5 @hk20 e)
def D_X3_mostAlike_20b (k5 : z_H → Option Nat → Int32 → Int32 → Int32 → Int32 → Option (Int32 × z_H)) (k20 : z_H → Option Nat → Int32 → Int32 → Int32 → Int32 → Int32 → Int32 → Option (Int32 × z_H)) (h : z_H) (l0 : Option Nat) (l1 : Int32) (l2 : Int32) (l3 : Int32) (l4 : Int32) (l5 : Int32) (l6 : Int32) : Option (Int32 × z_H) :=
  (z_gI 9 h l0 8).bind fun x1300 =>
  if x1300 ≤ l6 then
    (some (if l3 < l5 then l5 else l3)).bind fun x1302 =>
    (some (l4 + (1:Int32))).bind fun x1303 =>
    k5 h l0 l1 l2 x1302 x1303
  else
    if (((l1 >>> (l4 &&& 31)) &&& (l1 >>> (l6 &&& 31))) &&& (1:Int32)) = (1:Int32) then
      D_X3_mostAlike_49  k5 k20 h l0 l1 l2 l3 l4 l5 l6 (1:Int32)
    else
      D_X3_mostAlike_49  k5 k20 h l0 l1 l2 l3 l4 l5 l6 (0:Int32)
def D_X3_mostAlike_20 (k5 : z_H → Option Nat → Int32 → Int32 → Int32 → Int32 → Option (Int32 × z_H)) (n : Nat) : z_H → Option Nat → Int32 → Int32 → Int32 → Int32 → Int32 → Int32 → Option (Int32 × z_H) := Nat.rec (motive := fun _ => z_H → Option Nat → Int32 → Int32 → Int32 → Int32 → Int32 → Int32 → Option (Int32 × z_H)) (fun _ _ _ _ _ _ _ _ => none) (fun _ k => D_X3_mostAlike_20b k5 k) n
set_option maxRecDepth 100000 in
set_option maxHeartbeats 4000000 in
theorem S_X3_mostAlike_20 {G : z_G} {l : Launch} {k5 : z_H → Option Nat → Int32 → Int32 → Int32 → Int32 → Option (Int32 × z_H)} (hk5 : ∀ {h : z_H} {l0 : Option Nat} {l1 : Int32} {l2 : Int32} {l3 : Int32} {l4 : Int32} {res : (Int32 × z_H)}, k5 h l0 l1 l2 l3 l4 = some res → z_Run G l 5 M_X3_mostAlike 5 [(0, z_r l0), (1, .int l1), (2, .int l2), (3, .int l3), (4, .int l4)] [] h res.2 (some (.int res.1))) (n : Nat) : ∀ {h : z_H} {l0 : Option Nat} {l1 : Int32} {l2 : Int32} {l3 : Int32} {l4 : Int32} {l5 : Int32} {l6 : Int32} {res : (Int32 × z_H)}, D_X3_mostAlike_20 k5 n h l0 l1 l2 l3 l4 l5 l6 = some res → z_Run G l 5 M_X3_mostAlike 20 [(0, z_r l0), (1, .int l1), (2, .int l2), (3, .int l3), (4, .int l4), (5, .int l5), (6, .int l6)] [] h res.2 (some (.int res.1)) := by
  induction n with
  | zero => intro h l0 l1 l2 l3 l4 l5 l6 res e; cases e
  | succ n hk20 =>
    intro h l0 l1 l2 l3 l4 l5 l6 res e
    replace e : D_X3_mostAlike_20b k5 (D_X3_mostAlike_20 k5 n) h l0 l1 l2 l3 l4 l5 l6 = some res := e
    unfold D_X3_mostAlike_20b at e
    refine z_iload 6 dX3_mostAlike_20 rfl ?_
    refine z_aload_n 0 dX3_mostAlike_22 rfl ?_
    replace e := z_bd e; obtain ⟨x1300, ex1300, e⟩ := e
    refine z_getI ex1300 lk_X3_44 dX3_mostAlike_23 ?_
    refine z_icmp_ge (tgt := 89) dX3_mostAlike_26 (by decide) (fun c1301 => ?_) (fun c1301 => ?_)
    · rw [if_pos c1301] at e
      refine z_iload_n 3 dX3_mostAlike_89 rfl ?_
      refine z_iload 5 dX3_mostAlike_90 rfl ?_
      refine z_mmax ml_X3_87 z_mw_max (by decide) (Nat.zero_le _) dX3_mostAlike_92 ?_
      replace e := z_bd e; obtain ⟨x1302, ex1302, e⟩ := e
      refine z_topI ex1302 ?_
      refine z_istore_n (L' := [(3, .int x1302), (0, z_r l0), (1, .int l1), (2, .int l2), (4, .int l4), (5, .int l5), (6, .int l6)]) dX3_mostAlike_95 rfl (by decide) rfl ?_
      replace e := z_bd e; obtain ⟨x1303, ex1303, e⟩ := e
      refine z_iinc (q := 4) (v := x1303) (L' := [(4, .int x1303), (3, .int x1302), (0, z_r l0), (1, .int l1), (2, .int l2), (5, .int l5), (6, .int l6)]) dX3_mostAlike_96 rfl (Option.some.inj ex1303) (by decide) rfl ?_
      refine z_goto (tgt := 5) dX3_mostAlike_99 (by decide) ?_
      exact z_weak [2, 3, 4, 1, 0] rfl (hk5 e)
    · rw [if_neg c1301] at e
      refine z_iload_n 1 dX3_mostAlike_29 rfl ?_
      refine z_iload 4 dX3_mostAlike_30 rfl ?_
      refine z_ishr dX3_mostAlike_32 ?_
      refine z_iload_n 1 dX3_mostAlike_33 rfl ?_
      refine z_iload 6 dX3_mostAlike_34 rfl ?_
      refine z_ishr dX3_mostAlike_36 ?_
      refine z_iand dX3_mostAlike_37 ?_
      refine z_iconst (v := 1) dX3_mostAlike_38 (by decide) ?_
      refine z_iand dX3_mostAlike_39 ?_
      refine z_iconst (v := 1) dX3_mostAlike_40 (by decide) ?_
      refine z_icmp_ne (tgt := 48) dX3_mostAlike_41 (by decide) (fun c1304 => ?_) (fun c1304 => ?_)
      · rw [if_neg c1304] at e
        refine z_iconst (v := 0) dX3_mostAlike_48 (by decide) ?_
        exact z_weak [0, 1, 2, 3, 4, 5, 6] rfl (S_X3_mostAlike_49  @hk5 @hk20 e)
      · rw [if_pos c1304] at e
        refine z_iconst (v := 1) dX3_mostAlike_44 (by decide) ?_
        refine z_goto (tgt := 49) dX3_mostAlike_45 (by decide) ?_
        exact z_weak [0, 1, 2, 3, 4, 5, 6] rfl (S_X3_mostAlike_49  @hk5 @hk20 e)
def D_X3_mostAlike_5b (k5 : z_H → Option Nat → Int32 → Int32 → Int32 → Int32 → Option (Int32 × z_H)) (h : z_H) (l0 : Option Nat) (l1 : Int32) (l2 : Int32) (l3 : Int32) (l4 : Int32) : Option (Int32 × z_H) :=
  (z_gI 9 h l0 8).bind fun x1305 =>
  if x1305 ≤ l4 then
    some (l3, h)
  else
    D_X3_mostAlike_20  k5 z_F h l0 l1 l2 l3 l4 (0:Int32) (0:Int32)
def D_X3_mostAlike_5 (n : Nat) : z_H → Option Nat → Int32 → Int32 → Int32 → Int32 → Option (Int32 × z_H) := Nat.rec (motive := fun _ => z_H → Option Nat → Int32 → Int32 → Int32 → Int32 → Option (Int32 × z_H)) (fun _ _ _ _ _ _ => none) (fun _ k => D_X3_mostAlike_5b  k) n
set_option maxRecDepth 100000 in
set_option maxHeartbeats 4000000 in
theorem S_X3_mostAlike_5 {G : z_G} {l : Launch}  (n : Nat) : ∀ {h : z_H} {l0 : Option Nat} {l1 : Int32} {l2 : Int32} {l3 : Int32} {l4 : Int32} {res : (Int32 × z_H)}, D_X3_mostAlike_5  n h l0 l1 l2 l3 l4 = some res → z_Run G l 5 M_X3_mostAlike 5 [(0, z_r l0), (1, .int l1), (2, .int l2), (3, .int l3), (4, .int l4)] [] h res.2 (some (.int res.1)) := by
  induction n with
  | zero => intro h l0 l1 l2 l3 l4 res e; cases e
  | succ n hk5 =>
    intro h l0 l1 l2 l3 l4 res e
    replace e : D_X3_mostAlike_5b  (D_X3_mostAlike_5  n) h l0 l1 l2 l3 l4 = some res := e
    unfold D_X3_mostAlike_5b at e
    refine z_iload 4 dX3_mostAlike_5 rfl ?_
    refine z_aload_n 0 dX3_mostAlike_7 rfl ?_
    replace e := z_bd e; obtain ⟨x1305, ex1305, e⟩ := e
    refine z_getI ex1305 lk_X3_44 dX3_mostAlike_8 ?_
    refine z_icmp_ge (tgt := 102) dX3_mostAlike_11 (by decide) (fun c1306 => ?_) (fun c1306 => ?_)
    · rw [if_pos c1306] at e
      refine z_iload_n 3 dX3_mostAlike_102 rfl ?_
      cases e
      exact z_iret dX3_mostAlike_103 rfl
    · rw [if_neg c1306] at e
      refine z_iconst (v := 0) dX3_mostAlike_14 (by decide) ?_
      refine z_istore (L' := [(5, .int (0:Int32)), (0, z_r l0), (1, .int l1), (2, .int l2), (3, .int l3), (4, .int l4)]) dX3_mostAlike_15 (by decide) rfl ?_
      refine z_iconst (v := 0) dX3_mostAlike_17 (by decide) ?_
      refine z_istore (L' := [(6, .int (0:Int32)), (5, .int (0:Int32)), (0, z_r l0), (1, .int l1), (2, .int l2), (3, .int l3), (4, .int l4)]) dX3_mostAlike_18 (by decide) rfl ?_
      exact z_weak [2, 3, 4, 5, 6, 1, 0] rfl (S_X3_mostAlike_20  @hk5 z_F e)
def D_X3_mostAlike (h : z_H) (l0 : Option Nat) (l1 : Int32) (l2 : Int32) : Option (Int32 × z_H) :=
  D_X3_mostAlike_5   z_F h l0 l1 l2 (0:Int32) (0:Int32)
set_option maxRecDepth 100000 in
set_option maxHeartbeats 4000000 in
theorem S_X3_mostAlike {G : z_G} {l : Launch} {h : z_H} {l0 : Option Nat} {l1 : Int32} {l2 : Int32} {res : (Int32 × z_H)} (e : D_X3_mostAlike h l0 l1 l2 = some res) : z_Meth G l 5 M_X3_mostAlike [z_r l0, .int l1, .int l2] h res.2 (some (.int res.1)) := by
  refine z_Meth.of ck_X3_mostAlike.2.2.2.2 (by simp [lg_sl, z_ci, z_cj, z_cr, z_cx]) ck_X3_mostAlike.1 ?_
  rw [show lv_args 0 [z_r l0, .int l1, .int l2] = [(0, z_r l0), (1, .int l1), (2, .int l2)] from by simp [lv_args, z_ci, z_cj, z_cr, z_cx]]
  unfold D_X3_mostAlike at e
  refine z_iconst (v := 0) dX3_mostAlike_0 (by decide) ?_
  refine z_istore_n (L' := [(3, .int (0:Int32)), (0, z_r l0), (1, .int l1), (2, .int l2)]) dX3_mostAlike_1 rfl (by decide) rfl ?_
  refine z_iconst (v := 0) dX3_mostAlike_2 (by decide) ?_
  refine z_istore (L' := [(4, .int (0:Int32)), (3, .int (0:Int32)), (0, z_r l0), (1, .int l1), (2, .int l2)]) dX3_mostAlike_3 (by decide) rfl ?_
  exact z_weak [2, 3, 4, 1, 0] rfl (S_X3_mostAlike_5   z_F e)
theorem dX3_choosePart_0 : decode cX3_choosePart 0 = .ok (.aload_n 0, 1) := by decide +kernel
theorem dX3_choosePart_1 : decode cX3_choosePart 1 = .ok (.aload_n 1, 1) := by decide +kernel
theorem dX3_choosePart_2 : decode cX3_choosePart 2 = .ok (.invokevirtual 80, 3) := by decide +kernel
theorem dX3_choosePart_5 : decode cX3_choosePart 5 = .ok (.istore_n 2, 1) := by decide +kernel
theorem dX3_choosePart_6 : decode cX3_choosePart 6 = .ok (.aload_n 0, 1) := by decide +kernel
theorem dX3_choosePart_7 : decode cX3_choosePart 7 = .ok (.iconst (-1), 1) := by decide +kernel
theorem dX3_choosePart_8 : decode cX3_choosePart 8 = .ok (.putfield 26, 3) := by decide +kernel
theorem dX3_choosePart_11 : decode cX3_choosePart 11 = .ok (.iconst 0, 1) := by decide +kernel
theorem dX3_choosePart_12 : decode cX3_choosePart 12 = .ok (.istore_n 3, 1) := by decide +kernel
theorem dX3_choosePart_13 : decode cX3_choosePart 13 = .ok (.iload_n 3, 1) := by decide +kernel
theorem dX3_choosePart_14 : decode cX3_choosePart 14 = .ok (.iconst 4, 1) := by decide +kernel
theorem dX3_choosePart_15 : decode cX3_choosePart 15 = .ok (.if_icmp .ge 49, 3) := by decide +kernel
theorem dX3_choosePart_18 : decode cX3_choosePart 18 = .ok (.iload_n 2, 1) := by decide +kernel
theorem dX3_choosePart_19 : decode cX3_choosePart 19 = .ok (.ifCond .eq 45, 3) := by decide +kernel
theorem dX3_choosePart_22 : decode cX3_choosePart 22 = .ok (.aload_n 1, 1) := by decide +kernel
theorem dX3_choosePart_23 : decode cX3_choosePart 23 = .ok (.iload_n 2, 1) := by decide +kernel
theorem dX3_choosePart_24 : decode cX3_choosePart 24 = .ok (.iload_n 3, 1) := by decide +kernel
theorem dX3_choosePart_25 : decode cX3_choosePart 25 = .ok (.invokestatic 84, 3) := by decide +kernel
theorem dX3_choosePart_28 : decode cX3_choosePart 28 = .ok (.istore 4, 2) := by decide +kernel
theorem dX3_choosePart_30 : decode cX3_choosePart 30 = .ok (.aload_n 0, 1) := by decide +kernel
theorem dX3_choosePart_31 : decode cX3_choosePart 31 = .ok (.getfield 26, 3) := by decide +kernel
theorem dX3_choosePart_34 : decode cX3_choosePart 34 = .ok (.iconst (-1), 1) := by decide +kernel
theorem dX3_choosePart_35 : decode cX3_choosePart 35 = .ok (.if_icmp .eq 12, 3) := by decide +kernel
theorem dX3_choosePart_38 : decode cX3_choosePart 38 = .ok (.iload 4, 2) := by decide +kernel
theorem dX3_choosePart_40 : decode cX3_choosePart 40 = .ok (.aload_n 0, 1) := by decide +kernel
theorem dX3_choosePart_41 : decode cX3_choosePart 41 = .ok (.getfield 29, 3) := by decide +kernel
theorem dX3_choosePart_44 : decode cX3_choosePart 44 = .ok (.if_icmp .ge 14, 3) := by decide +kernel
theorem dX3_choosePart_47 : decode cX3_choosePart 47 = .ok (.aload_n 0, 1) := by decide +kernel
theorem dX3_choosePart_48 : decode cX3_choosePart 48 = .ok (.iload_n 3, 1) := by decide +kernel
theorem dX3_choosePart_49 : decode cX3_choosePart 49 = .ok (.putfield 26, 3) := by decide +kernel
theorem dX3_choosePart_52 : decode cX3_choosePart 52 = .ok (.aload_n 0, 1) := by decide +kernel
theorem dX3_choosePart_53 : decode cX3_choosePart 53 = .ok (.iload 4, 2) := by decide +kernel
theorem dX3_choosePart_55 : decode cX3_choosePart 55 = .ok (.putfield 29, 3) := by decide +kernel
theorem dX3_choosePart_58 : decode cX3_choosePart 58 = .ok (.iinc 3 1, 3) := by decide +kernel
theorem dX3_choosePart_61 : decode cX3_choosePart 61 = .ok (.goto (-48), 3) := by decide +kernel
theorem dX3_choosePart_64 : decode cX3_choosePart 64 = .ok (.iload_n 2, 1) := by decide +kernel
theorem dX3_choosePart_65 : decode cX3_choosePart 65 = .ok (.ifCond .eq 7, 3) := by decide +kernel
theorem dX3_choosePart_68 : decode cX3_choosePart 68 = .ok (.iconst 1, 1) := by decide +kernel
theorem dX3_choosePart_69 : decode cX3_choosePart 69 = .ok (.goto 4, 3) := by decide +kernel
theorem dX3_choosePart_72 : decode cX3_choosePart 72 = .ok (.iconst 0, 1) := by decide +kernel
theorem dX3_choosePart_73 : decode cX3_choosePart 73 = .ok (.ireturn, 1) := by decide +kernel
def D_X3_choosePart_64 (h : z_H) (l2 : Int32) : Option (Int32 × z_H) :=
  if l2 = 0 then
    some ((0:Int32), h)
  else
    some ((1:Int32), h)
set_option maxRecDepth 100000 in
set_option maxHeartbeats 4000000 in
theorem S_X3_choosePart_64 {G : z_G} {l : Launch}  {h : z_H} {l2 : Int32} {res : (Int32 × z_H)} (e : D_X3_choosePart_64  h l2 = some res) : z_Run G l 6 M_X3_choosePart 64 [(2, .int l2)] [] h res.2 (some (.int res.1)) := by
  unfold D_X3_choosePart_64 at e
  refine z_iload_n 0 dX3_choosePart_64 rfl ?_
  refine z_if_eq (tgt := 72) dX3_choosePart_65 (by decide) (fun c1307 => ?_) (fun c1307 => ?_)
  · rw [if_pos c1307] at e
    refine z_iconst (v := 0) dX3_choosePart_72 (by decide) ?_
    cases e
    exact z_zret dX3_choosePart_73 rfl (by decide)
  · rw [if_neg c1307] at e
    refine z_iconst (v := 1) dX3_choosePart_68 (by decide) ?_
    refine z_goto (tgt := 73) dX3_choosePart_69 (by decide) ?_
    cases e
    exact z_zret dX3_choosePart_73 rfl (by decide)
def D_X3_choosePart_58 (k13 : z_H → Option Nat → Option Nat → Int32 → Int32 → Option (Int32 × z_H)) (h : z_H) (l0 : Option Nat) (l1 : Option Nat) (l2 : Int32) (l3 : Int32) : Option (Int32 × z_H) :=
  (some (l3 + (1:Int32))).bind fun x1308 =>
  k13 h l0 l1 l2 x1308
set_option maxRecDepth 100000 in
set_option maxHeartbeats 4000000 in
theorem S_X3_choosePart_58 {G : z_G} {l : Launch} {k13 : z_H → Option Nat → Option Nat → Int32 → Int32 → Option (Int32 × z_H)} (hk13 : ∀ {h : z_H} {l0 : Option Nat} {l1 : Option Nat} {l2 : Int32} {l3 : Int32} {res : (Int32 × z_H)}, k13 h l0 l1 l2 l3 = some res → z_Run G l 6 M_X3_choosePart 13 [(0, z_r l0), (1, z_r l1), (2, .int l2), (3, .int l3)] [] h res.2 (some (.int res.1))) {h : z_H} {l0 : Option Nat} {l1 : Option Nat} {l2 : Int32} {l3 : Int32} {res : (Int32 × z_H)} (e : D_X3_choosePart_58 k13 h l0 l1 l2 l3 = some res) : z_Run G l 6 M_X3_choosePart 58 [(0, z_r l0), (1, z_r l1), (2, .int l2), (3, .int l3)] [] h res.2 (some (.int res.1)) := by
  unfold D_X3_choosePart_58 at e
  replace e := z_bd e; obtain ⟨x1308, ex1308, e⟩ := e
  refine z_iinc (q := 3) (v := x1308) (L' := [(3, .int x1308), (0, z_r l0), (1, z_r l1), (2, .int l2)]) dX3_choosePart_58 rfl (Option.some.inj ex1308) (by decide) rfl ?_
  refine z_goto (tgt := 13) dX3_choosePart_61 (by decide) ?_
  exact z_weak [1, 2, 3, 0] rfl (hk13 e)
def D_X3_choosePart_47 (k13 : z_H → Option Nat → Option Nat → Int32 → Int32 → Option (Int32 × z_H)) (h : z_H) (l0 : Option Nat) (l1 : Option Nat) (l2 : Int32) (l3 : Int32) (l4 : Int32) : Option (Int32 × z_H) :=
  (z_pV 3 h l0 4 (.int l3)).bind fun h1309 =>
  (z_pV 3 h1309 l0 5 (.int l4)).bind fun h1310 =>
  D_X3_choosePart_58  k13 h1310 l0 l1 l2 l3
set_option maxRecDepth 100000 in
set_option maxHeartbeats 4000000 in
theorem S_X3_choosePart_47 {G : z_G} {l : Launch} {k13 : z_H → Option Nat → Option Nat → Int32 → Int32 → Option (Int32 × z_H)} (hk13 : ∀ {h : z_H} {l0 : Option Nat} {l1 : Option Nat} {l2 : Int32} {l3 : Int32} {res : (Int32 × z_H)}, k13 h l0 l1 l2 l3 = some res → z_Run G l 6 M_X3_choosePart 13 [(0, z_r l0), (1, z_r l1), (2, .int l2), (3, .int l3)] [] h res.2 (some (.int res.1))) {h : z_H} {l0 : Option Nat} {l1 : Option Nat} {l2 : Int32} {l3 : Int32} {l4 : Int32} {res : (Int32 × z_H)} (e : D_X3_choosePart_47 k13 h l0 l1 l2 l3 l4 = some res) : z_Run G l 6 M_X3_choosePart 47 [(0, z_r l0), (1, z_r l1), (2, .int l2), (3, .int l3), (4, .int l4)] [] h res.2 (some (.int res.1)) := by
  unfold D_X3_choosePart_47 at e
  refine z_aload_n 0 dX3_choosePart_47 rfl ?_
  refine z_iload_n 3 dX3_choosePart_48 rfl ?_
  replace e := z_bd e; obtain ⟨h1309, eh1309, e⟩ := e
  refine z_putV eh1309 lk_X3_26 wk_3_4 (fun _ => rfl) (fun _ => rfl) dX3_choosePart_49 ?_
  refine z_aload_n 0 dX3_choosePart_52 rfl ?_
  refine z_iload 4 dX3_choosePart_53 rfl ?_
  replace e := z_bd e; obtain ⟨h1310, eh1310, e⟩ := e
  refine z_putV eh1310 lk_X3_29 wk_3_5 (fun _ => rfl) (fun _ => rfl) dX3_choosePart_55 ?_
  exact z_weak [0, 1, 2, 3] rfl (S_X3_choosePart_58  @hk13 e)
def D_X3_choosePart_13b (k13 : z_H → Option Nat → Option Nat → Int32 → Int32 → Option (Int32 × z_H)) (h : z_H) (l0 : Option Nat) (l1 : Option Nat) (l2 : Int32) (l3 : Int32) : Option (Int32 × z_H) :=
  if (4:Int32) ≤ l3 then
    D_X3_choosePart_64   h l2
  else
    if l2 = 0 then
      D_X3_choosePart_64   h l2
    else
      (D_X3_mostAlike  h l1 l2 l3).bind fun p1313 =>
      (z_gI 3 p1313.2 l0 4).bind fun x1314 =>
      if x1314 = (-1:Int32) then
        D_X3_choosePart_47  k13 p1313.2 l0 l1 l2 l3 p1313.1
      else
        (z_gI 3 p1313.2 l0 5).bind fun x1316 =>
        if x1316 ≤ p1313.1 then
          D_X3_choosePart_58  k13 p1313.2 l0 l1 l2 l3
        else
          D_X3_choosePart_47  k13 p1313.2 l0 l1 l2 l3 p1313.1
def D_X3_choosePart_13 (n : Nat) : z_H → Option Nat → Option Nat → Int32 → Int32 → Option (Int32 × z_H) := Nat.rec (motive := fun _ => z_H → Option Nat → Option Nat → Int32 → Int32 → Option (Int32 × z_H)) (fun _ _ _ _ _ => none) (fun _ k => D_X3_choosePart_13b  k) n
set_option maxRecDepth 100000 in
set_option maxHeartbeats 4000000 in
theorem S_X3_choosePart_13 {G : z_G} {l : Launch}  (n : Nat) : ∀ {h : z_H} {l0 : Option Nat} {l1 : Option Nat} {l2 : Int32} {l3 : Int32} {res : (Int32 × z_H)}, D_X3_choosePart_13  n h l0 l1 l2 l3 = some res → z_Run G l 6 M_X3_choosePart 13 [(0, z_r l0), (1, z_r l1), (2, .int l2), (3, .int l3)] [] h res.2 (some (.int res.1)) := by
  induction n with
  | zero => intro h l0 l1 l2 l3 res e; cases e
  | succ n hk13 =>
    intro h l0 l1 l2 l3 res e
    replace e : D_X3_choosePart_13b  (D_X3_choosePart_13  n) h l0 l1 l2 l3 = some res := e
    unfold D_X3_choosePart_13b at e
    refine z_iload_n 3 dX3_choosePart_13 rfl ?_
    refine z_iconst (v := 4) dX3_choosePart_14 (by decide) ?_
    refine z_icmp_ge (tgt := 64) dX3_choosePart_15 (by decide) (fun c1311 => ?_) (fun c1311 => ?_)
    · rw [if_pos c1311] at e
      exact z_weak [2] rfl (S_X3_choosePart_64   e)
    · rw [if_neg c1311] at e
      refine z_iload_n 2 dX3_choosePart_18 rfl ?_
      refine z_if_eq (tgt := 64) dX3_choosePart_19 (by decide) (fun c1312 => ?_) (fun c1312 => ?_)
      · rw [if_pos c1312] at e
        exact z_weak [2] rfl (S_X3_choosePart_64   e)
      · rw [if_neg c1312] at e
        refine z_aload_n 1 dX3_choosePart_22 rfl ?_
        refine z_iload_n 2 dX3_choosePart_23 rfl ?_
        refine z_iload_n 3 dX3_choosePart_24 rfl ?_
        replace e := z_bd e; obtain ⟨p1313, ep1313, e⟩ := e
        refine z_cS [z_r l1, .int l2, .int l3] (S_X3_mostAlike  ep1313) ml_X3_84 ck_X3_mostAlike st_X3_mostAlike dX3_choosePart_25 (by decide) rfl (Nat.zero_le _) rfl ?_
        refine z_istore (L' := [(4, .int p1313.1), (0, z_r l0), (1, z_r l1), (2, .int l2), (3, .int l3)]) dX3_choosePart_28 (by decide) rfl ?_
        refine z_aload_n 1 dX3_choosePart_30 rfl ?_
        replace e := z_bd e; obtain ⟨x1314, ex1314, e⟩ := e
        refine z_getI ex1314 lk_X3_26 dX3_choosePart_31 ?_
        refine z_iconst (v := -1) dX3_choosePart_34 (by decide) ?_
        refine z_icmp_eq (tgt := 47) dX3_choosePart_35 (by decide) (fun c1315 => ?_) (fun c1315 => ?_)
        · rw [if_pos c1315] at e
          exact z_weak [1, 2, 3, 4, 0] rfl (S_X3_choosePart_47  @hk13 e)
        · rw [if_neg c1315] at e
          refine z_iload 0 dX3_choosePart_38 rfl ?_
          refine z_aload_n 1 dX3_choosePart_40 rfl ?_
          replace e := z_bd e; obtain ⟨x1316, ex1316, e⟩ := e
          refine z_getI ex1316 lk_X3_29 dX3_choosePart_41 ?_
          refine z_icmp_ge (tgt := 58) dX3_choosePart_44 (by decide) (fun c1317 => ?_) (fun c1317 => ?_)
          · rw [if_pos c1317] at e
            exact z_weak [1, 2, 3, 4] rfl (S_X3_choosePart_58  @hk13 e)
          · rw [if_neg c1317] at e
            exact z_weak [1, 2, 3, 4, 0] rfl (S_X3_choosePart_47  @hk13 e)
def D_X3_choosePart (h : z_H) (l0 : Option Nat) (l1 : Option Nat) : Option (Int32 × z_H) :=
  (z_ob 3 h l0).bind fun _ =>
  (D_X3_candidates  h l0 l1).bind fun p1318 =>
  (z_pV 3 p1318.2 l0 4 (.int (-1:Int32))).bind fun h1320 =>
  D_X3_choosePart_13   z_F h1320 l0 l1 p1318.1 (0:Int32)
set_option maxRecDepth 100000 in
set_option maxHeartbeats 4000000 in
theorem S_X3_choosePart {G : z_G} {l : Launch} {h : z_H} {l0 : Option Nat} {l1 : Option Nat} {res : (Int32 × z_H)} (e : D_X3_choosePart h l0 l1 = some res) : z_Meth G l 6 M_X3_choosePart [z_r l0, z_r l1] h res.2 (some (.int res.1)) := by
  refine z_Meth.of ck_X3_choosePart.2.2.2.2 (by simp [lg_sl, z_ci, z_cj, z_cr, z_cx]) ck_X3_choosePart.1 ?_
  rw [show lv_args 0 [z_r l0, z_r l1] = [(0, z_r l0), (1, z_r l1)] from by simp [lv_args, z_ci, z_cj, z_cr, z_cx]]
  unfold D_X3_choosePart at e
  refine z_aload_n 0 dX3_choosePart_0 rfl ?_
  refine z_aload_n 1 dX3_choosePart_1 rfl ?_
  replace e := z_bd e; obtain ⟨o1319, eo1319, e⟩ := e
  replace e := z_bd e; obtain ⟨p1318, ep1318, e⟩ := e
  refine z_cV [z_r l1] (S_X3_candidates  ep1318) eo1319 rfl ml_X3_80 ck_X3_candidates vk_X3_candidates dX3_choosePart_2 (by decide) rfl (Nat.zero_le _) rfl ?_
  refine z_istore_n (L' := [(2, .int p1318.1), (0, z_r l0), (1, z_r l1)]) dX3_choosePart_5 rfl (by decide) (by simp [z_cr]) ?_
  refine z_aload_n 1 dX3_choosePart_6 rfl ?_
  refine z_iconst (v := -1) dX3_choosePart_7 (by decide) ?_
  replace e := z_bd e; obtain ⟨h1320, eh1320, e⟩ := e
  refine z_putV eh1320 lk_X3_26 wk_3_4 (fun _ => rfl) (fun _ => rfl) dX3_choosePart_8 ?_
  refine z_iconst (v := 0) dX3_choosePart_11 (by decide) ?_
  refine z_istore_n (L' := [(3, .int (0:Int32)), (2, .int p1318.1), (0, z_r l0), (1, z_r l1)]) dX3_choosePart_12 rfl (by decide) rfl ?_
  exact z_weak [2, 3, 1, 0] rfl (S_X3_choosePart_13   z_F e)
theorem dX10_look_0 : decode cX10_look 0 = .ok (.iload_n 1, 1) := by decide +kernel
theorem dX10_look_1 : decode cX10_look 1 = .ok (.ifCond .lt 22, 3) := by decide +kernel
theorem dX10_look_4 : decode cX10_look 4 = .ok (.iload_n 1, 1) := by decide +kernel
theorem dX10_look_5 : decode cX10_look 5 = .ok (.iconst 1, 1) := by decide +kernel
theorem dX10_look_6 : decode cX10_look 6 = .ok (.if_icmp .gt 17, 3) := by decide +kernel
theorem dX10_look_9 : decode cX10_look 9 = .ok (.aload_n 0, 1) := by decide +kernel
theorem dX10_look_10 : decode cX10_look 10 = .ok (.getfield 85, 3) := by decide +kernel
theorem dX10_look_13 : decode cX10_look 13 = .ok (.aload_n 0, 1) := by decide +kernel
theorem dX10_look_14 : decode cX10_look 14 = .ok (.getfield 12, 3) := by decide +kernel
theorem dX10_look_17 : decode cX10_look 17 = .ok (.invokevirtual 281, 3) := by decide +kernel
theorem dX10_look_20 : decode cX10_look 20 = .ok (.ifCond .ne 5, 3) := by decide +kernel
theorem dX10_look_23 : decode cX10_look 23 = .ok (.iconst (-1), 1) := by decide +kernel
theorem dX10_look_24 : decode cX10_look 24 = .ok (.ireturn, 1) := by decide +kernel
theorem dX10_look_25 : decode cX10_look 25 = .ok (.iload_n 1, 1) := by decide +kernel
theorem dX10_look_26 : decode cX10_look 26 = .ok (.ifCond .ne 13, 3) := by decide +kernel
theorem dX10_look_29 : decode cX10_look 29 = .ok (.aload_n 0, 1) := by decide +kernel
theorem dX10_look_30 : decode cX10_look 30 = .ok (.getfield 85, 3) := by decide +kernel
theorem dX10_look_33 : decode cX10_look 33 = .ok (.getfield 285, 3) := by decide +kernel
theorem dX10_look_36 : decode cX10_look 36 = .ok (.goto 10, 3) := by decide +kernel
theorem dX10_look_39 : decode cX10_look 39 = .ok (.aload_n 0, 1) := by decide +kernel
theorem dX10_look_40 : decode cX10_look 40 = .ok (.getfield 85, 3) := by decide +kernel
theorem dX10_look_43 : decode cX10_look 43 = .ok (.getfield 288, 3) := by decide +kernel
theorem dX10_look_46 : decode cX10_look 46 = .ok (.ireturn, 1) := by decide +kernel
def D_X10_look (h : z_H) (l0 : Option Nat) (l1 : Int32) : Option (Int32 × z_H) :=
  if l1 < 0 then
    some ((-1:Int32), h)
  else
    if (1:Int32) < l1 then
      some ((-1:Int32), h)
    else
      (z_gQ 10 h l0 11).bind fun x1323 =>
      (z_gQ 10 h l0 0).bind fun x1324 =>
      (z_ob 3 h x1323).bind fun _ =>
      (D_X3_choosePart  h x1323 x1324).bind fun p1325 =>
      if p1325.1 = 0 then
        some ((-1:Int32), p1325.2)
      else
        if l1 = 0 then
          (z_gQ 10 p1325.2 l0 11).bind fun x1331 =>
          (z_gI 3 p1325.2 x1331 4).bind fun x1332 =>
          some (x1332, p1325.2)
        else
          (z_gQ 10 p1325.2 l0 11).bind fun x1329 =>
          (z_gI 3 p1325.2 x1329 5).bind fun x1330 =>
          some (x1330, p1325.2)
set_option maxRecDepth 100000 in
set_option maxHeartbeats 4000000 in
theorem S_X10_look {G : z_G} {l : Launch} {h : z_H} {l0 : Option Nat} {l1 : Int32} {res : (Int32 × z_H)} (e : D_X10_look h l0 l1 = some res) : z_Meth G l 7 M_X10_look [z_r l0, .int l1] h res.2 (some (.int res.1)) := by
  refine z_Meth.of ck_X10_look.2.2.2.2 (by simp [lg_sl, z_ci, z_cj, z_cr, z_cx]) ck_X10_look.1 ?_
  rw [show lv_args 0 [z_r l0, .int l1] = [(0, z_r l0), (1, .int l1)] from by simp [lv_args, z_ci, z_cj, z_cr, z_cx]]
  unfold D_X10_look at e
  refine z_iload_n 1 dX10_look_0 rfl ?_
  refine z_if_lt (tgt := 23) dX10_look_1 (by decide) (fun c1321 => ?_) (fun c1321 => ?_)
  · rw [if_pos c1321] at e
    refine z_iconst (v := -1) dX10_look_23 (by decide) ?_
    cases e
    exact z_iret dX10_look_24 rfl
  · rw [if_neg c1321] at e
    refine z_iload_n 1 dX10_look_4 rfl ?_
    refine z_iconst (v := 1) dX10_look_5 (by decide) ?_
    refine z_icmp_gt (tgt := 23) dX10_look_6 (by decide) (fun c1322 => ?_) (fun c1322 => ?_)
    · rw [if_pos c1322] at e
      refine z_iconst (v := -1) dX10_look_23 (by decide) ?_
      cases e
      exact z_iret dX10_look_24 rfl
    · rw [if_neg c1322] at e
      refine z_aload_n 0 dX10_look_9 rfl ?_
      replace e := z_bd e; obtain ⟨x1323, ex1323, e⟩ := e
      refine z_getQ ex1323 lk_X10_85 dX10_look_10 ?_
      refine z_aload_n 0 dX10_look_13 rfl ?_
      replace e := z_bd e; obtain ⟨x1324, ex1324, e⟩ := e
      refine z_getQ ex1324 lk_X10_12 dX10_look_14 ?_
      replace e := z_bd e; obtain ⟨o1326, eo1326, e⟩ := e
      replace e := z_bd e; obtain ⟨p1325, ep1325, e⟩ := e
      refine z_cV [z_r x1324] (S_X3_choosePart  ep1325) eo1326 rfl ml_X10_281 ck_X3_choosePart vk_X3_choosePart dX10_look_17 (by decide) rfl (Nat.zero_le _) rfl ?_
      refine z_if_ne (tgt := 25) dX10_look_20 (by decide) (fun c1327 => ?_) (fun c1327 => ?_)
      · rw [if_neg c1327] at e
        refine z_iload_n 1 dX10_look_25 rfl ?_
        refine z_if_ne (tgt := 39) dX10_look_26 (by decide) (fun c1328 => ?_) (fun c1328 => ?_)
        · rw [if_neg c1328] at e
          refine z_aload_n 0 dX10_look_39 rfl ?_
          replace e := z_bd e; obtain ⟨x1329, ex1329, e⟩ := e
          refine z_getQ ex1329 lk_X10_85 dX10_look_40 ?_
          replace e := z_bd e; obtain ⟨x1330, ex1330, e⟩ := e
          refine z_getI ex1330 lk_X10_288 dX10_look_43 ?_
          cases e
          exact z_iret dX10_look_46 rfl
        · rw [if_pos c1328] at e
          refine z_aload_n 0 dX10_look_29 rfl ?_
          replace e := z_bd e; obtain ⟨x1331, ex1331, e⟩ := e
          refine z_getQ ex1331 lk_X10_85 dX10_look_30 ?_
          replace e := z_bd e; obtain ⟨x1332, ex1332, e⟩ := e
          refine z_getI ex1332 lk_X10_285 dX10_look_33 ?_
          refine z_goto (tgt := 46) dX10_look_36 (by decide) ?_
          cases e
          exact z_iret dX10_look_46 rfl
      · rw [if_pos c1327] at e
        refine z_iconst (v := -1) dX10_look_23 (by decide) ?_
        cases e
        exact z_iret dX10_look_24 rfl
theorem dX11_thatCanBe_0 : decode cX11_thatCanBe 0 = .ok (.iconst 0, 1) := by decide +kernel
theorem dX11_thatCanBe_1 : decode cX11_thatCanBe 1 = .ok (.istore_n 1, 1) := by decide +kernel
theorem dX11_thatCanBe_2 : decode cX11_thatCanBe 2 = .ok (.iconst 0, 1) := by decide +kernel
theorem dX11_thatCanBe_3 : decode cX11_thatCanBe 3 = .ok (.istore_n 2, 1) := by decide +kernel
theorem dX11_thatCanBe_4 : decode cX11_thatCanBe 4 = .ok (.iload_n 2, 1) := by decide +kernel
theorem dX11_thatCanBe_5 : decode cX11_thatCanBe 5 = .ok (.aload_n 0, 1) := by decide +kernel
theorem dX11_thatCanBe_6 : decode cX11_thatCanBe 6 = .ok (.getfield 13, 3) := by decide +kernel
theorem dX11_thatCanBe_9 : decode cX11_thatCanBe 9 = .ok (.iconst 0, 1) := by decide +kernel
theorem dX11_thatCanBe_10 : decode cX11_thatCanBe 10 = .ok (.iaload, 1) := by decide +kernel
theorem dX11_thatCanBe_11 : decode cX11_thatCanBe 11 = .ok (.if_icmp .ge 89, 3) := by decide +kernel
theorem dX11_thatCanBe_14 : decode cX11_thatCanBe 14 = .ok (.iconst 1, 1) := by decide +kernel
theorem dX11_thatCanBe_15 : decode cX11_thatCanBe 15 = .ok (.istore_n 3, 1) := by decide +kernel
theorem dX11_thatCanBe_16 : decode cX11_thatCanBe 16 = .ok (.iconst 0, 1) := by decide +kernel
theorem dX11_thatCanBe_17 : decode cX11_thatCanBe 17 = .ok (.istore 4, 2) := by decide +kernel
theorem dX11_thatCanBe_19 : decode cX11_thatCanBe 19 = .ok (.iload 4, 2) := by decide +kernel
theorem dX11_thatCanBe_21 : decode cX11_thatCanBe 21 = .ok (.aload_n 0, 1) := by decide +kernel
theorem dX11_thatCanBe_22 : decode cX11_thatCanBe 22 = .ok (.getfield 13, 3) := by decide +kernel
theorem dX11_thatCanBe_25 : decode cX11_thatCanBe 25 = .ok (.iconst 1, 1) := by decide +kernel
theorem dX11_thatCanBe_26 : decode cX11_thatCanBe 26 = .ok (.iaload, 1) := by decide +kernel
theorem dX11_thatCanBe_27 : decode cX11_thatCanBe 27 = .ok (.if_icmp .ge 53, 3) := by decide +kernel
theorem dX11_thatCanBe_30 : decode cX11_thatCanBe 30 = .ok (.iload_n 3, 1) := by decide +kernel
theorem dX11_thatCanBe_31 : decode cX11_thatCanBe 31 = .ok (.ifCond .eq 41, 3) := by decide +kernel
theorem dX11_thatCanBe_34 : decode cX11_thatCanBe 34 = .ok (.aload_n 0, 1) := by decide +kernel
theorem dX11_thatCanBe_35 : decode cX11_thatCanBe 35 = .ok (.iload_n 2, 1) := by decide +kernel
theorem dX11_thatCanBe_36 : decode cX11_thatCanBe 36 = .ok (.aload_n 0, 1) := by decide +kernel
theorem dX11_thatCanBe_37 : decode cX11_thatCanBe 37 = .ok (.getfield 13, 3) := by decide +kernel
theorem dX11_thatCanBe_40 : decode cX11_thatCanBe 40 = .ok (.bipush 50, 2) := by decide +kernel
theorem dX11_thatCanBe_42 : decode cX11_thatCanBe 42 = .ok (.iconst 2, 1) := by decide +kernel
theorem dX11_thatCanBe_43 : decode cX11_thatCanBe 43 = .ok (.iload 4, 2) := by decide +kernel
theorem dX11_thatCanBe_45 : decode cX11_thatCanBe 45 = .ok (.imul, 1) := by decide +kernel
theorem dX11_thatCanBe_46 : decode cX11_thatCanBe 46 = .ok (.iadd, 1) := by decide +kernel
theorem dX11_thatCanBe_47 : decode cX11_thatCanBe 47 = .ok (.iaload, 1) := by decide +kernel
theorem dX11_thatCanBe_48 : decode cX11_thatCanBe 48 = .ok (.invokevirtual 219, 3) := by decide +kernel
theorem dX11_thatCanBe_51 : decode cX11_thatCanBe 51 = .ok (.aload_n 0, 1) := by decide +kernel
theorem dX11_thatCanBe_52 : decode cX11_thatCanBe 52 = .ok (.getfield 13, 3) := by decide +kernel
theorem dX11_thatCanBe_55 : decode cX11_thatCanBe 55 = .ok (.bipush 50, 2) := by decide +kernel
theorem dX11_thatCanBe_57 : decode cX11_thatCanBe 57 = .ok (.iconst 2, 1) := by decide +kernel
theorem dX11_thatCanBe_58 : decode cX11_thatCanBe 58 = .ok (.iload 4, 2) := by decide +kernel
theorem dX11_thatCanBe_60 : decode cX11_thatCanBe 60 = .ok (.imul, 1) := by decide +kernel
theorem dX11_thatCanBe_61 : decode cX11_thatCanBe 61 = .ok (.iadd, 1) := by decide +kernel
theorem dX11_thatCanBe_62 : decode cX11_thatCanBe 62 = .ok (.iconst 1, 1) := by decide +kernel
theorem dX11_thatCanBe_63 : decode cX11_thatCanBe 63 = .ok (.iadd, 1) := by decide +kernel
theorem dX11_thatCanBe_64 : decode cX11_thatCanBe 64 = .ok (.iaload, 1) := by decide +kernel
theorem dX11_thatCanBe_65 : decode cX11_thatCanBe 65 = .ok (.if_icmp .ne 7, 3) := by decide +kernel
theorem dX11_thatCanBe_68 : decode cX11_thatCanBe 68 = .ok (.iconst 1, 1) := by decide +kernel
theorem dX11_thatCanBe_69 : decode cX11_thatCanBe 69 = .ok (.goto 4, 3) := by decide +kernel
theorem dX11_thatCanBe_72 : decode cX11_thatCanBe 72 = .ok (.iconst 0, 1) := by decide +kernel
theorem dX11_thatCanBe_73 : decode cX11_thatCanBe 73 = .ok (.istore_n 3, 1) := by decide +kernel
theorem dX11_thatCanBe_74 : decode cX11_thatCanBe 74 = .ok (.iinc 4 1, 3) := by decide +kernel
theorem dX11_thatCanBe_77 : decode cX11_thatCanBe 77 = .ok (.goto (-58), 3) := by decide +kernel
theorem dX11_thatCanBe_80 : decode cX11_thatCanBe 80 = .ok (.iload_n 1, 1) := by decide +kernel
theorem dX11_thatCanBe_81 : decode cX11_thatCanBe 81 = .ok (.iload_n 3, 1) := by decide +kernel
theorem dX11_thatCanBe_82 : decode cX11_thatCanBe 82 = .ok (.ifCond .eq 9, 3) := by decide +kernel
theorem dX11_thatCanBe_85 : decode cX11_thatCanBe 85 = .ok (.iconst 1, 1) := by decide +kernel
theorem dX11_thatCanBe_86 : decode cX11_thatCanBe 86 = .ok (.iload_n 2, 1) := by decide +kernel
theorem dX11_thatCanBe_87 : decode cX11_thatCanBe 87 = .ok (.ishl, 1) := by decide +kernel
theorem dX11_thatCanBe_88 : decode cX11_thatCanBe 88 = .ok (.goto 4, 3) := by decide +kernel
theorem dX11_thatCanBe_91 : decode cX11_thatCanBe 91 = .ok (.iconst 0, 1) := by decide +kernel
theorem dX11_thatCanBe_92 : decode cX11_thatCanBe 92 = .ok (.ior, 1) := by decide +kernel
theorem dX11_thatCanBe_93 : decode cX11_thatCanBe 93 = .ok (.istore_n 1, 1) := by decide +kernel
theorem dX11_thatCanBe_94 : decode cX11_thatCanBe 94 = .ok (.iinc 2 1, 3) := by decide +kernel
theorem dX11_thatCanBe_97 : decode cX11_thatCanBe 97 = .ok (.goto (-93), 3) := by decide +kernel
theorem dX11_thatCanBe_100 : decode cX11_thatCanBe 100 = .ok (.iload_n 1, 1) := by decide +kernel
theorem dX11_thatCanBe_101 : decode cX11_thatCanBe 101 = .ok (.ireturn, 1) := by decide +kernel
def D_X11_thatCanBe_92 (k4 : z_H → Option Nat → Int32 → Int32 → Option (Int32 × z_H)) (h : z_H) (l0 : Option Nat) (l2 : Int32) (s0 : Int32) (s1 : Int32) : Option (Int32 × z_H) :=
  (some (s0 ||| s1)).bind fun x1333 =>
  (some (l2 + (1:Int32))).bind fun x1334 =>
  k4 h l0 x1333 x1334
set_option maxRecDepth 100000 in
set_option maxHeartbeats 4000000 in
theorem S_X11_thatCanBe_92 {G : z_G} {l : Launch} {k4 : z_H → Option Nat → Int32 → Int32 → Option (Int32 × z_H)} (hk4 : ∀ {h : z_H} {l0 : Option Nat} {l1 : Int32} {l2 : Int32} {res : (Int32 × z_H)}, k4 h l0 l1 l2 = some res → z_Run G l 5 M_X11_thatCanBe 4 [(0, z_r l0), (1, .int l1), (2, .int l2)] [] h res.2 (some (.int res.1))) {h : z_H} {l0 : Option Nat} {l2 : Int32} {s0 : Int32} {s1 : Int32} {res : (Int32 × z_H)} (e : D_X11_thatCanBe_92 k4 h l0 l2 s0 s1 = some res) : z_Run G l 5 M_X11_thatCanBe 92 [(0, z_r l0), (2, .int l2)] [.int s1, .int s0] h res.2 (some (.int res.1)) := by
  unfold D_X11_thatCanBe_92 at e
  refine z_ior dX11_thatCanBe_92 ?_
  replace e := z_bd e; obtain ⟨x1333, ex1333, e⟩ := e
  refine z_topI ex1333 ?_
  refine z_istore_n (L' := [(1, .int x1333), (0, z_r l0), (2, .int l2)]) dX11_thatCanBe_93 rfl (by decide) (by simp [z_cr]) ?_
  replace e := z_bd e; obtain ⟨x1334, ex1334, e⟩ := e
  refine z_iinc (q := 2) (v := x1334) (L' := [(2, .int x1334), (1, .int x1333), (0, z_r l0)]) dX11_thatCanBe_94 rfl (Option.some.inj ex1334) (by decide) rfl ?_
  refine z_goto (tgt := 4) dX11_thatCanBe_97 (by decide) ?_
  exact z_weak [2, 1, 0] rfl (hk4 e)
def D_X11_thatCanBe_73 (k4 : z_H → Option Nat → Int32 → Int32 → Option (Int32 × z_H)) (k19 : z_H → Option Nat → Int32 → Int32 → Int32 → Int32 → Option (Int32 × z_H)) (h : z_H) (l0 : Option Nat) (l1 : Int32) (l2 : Int32) (l4 : Int32) (s0 : Int32) : Option (Int32 × z_H) :=
  (some (l4 + (1:Int32))).bind fun x1335 =>
  k19 h l0 l1 l2 s0 x1335
set_option maxRecDepth 100000 in
set_option maxHeartbeats 4000000 in
theorem S_X11_thatCanBe_73 {G : z_G} {l : Launch} {k4 : z_H → Option Nat → Int32 → Int32 → Option (Int32 × z_H)} {k19 : z_H → Option Nat → Int32 → Int32 → Int32 → Int32 → Option (Int32 × z_H)} (hk4 : ∀ {h : z_H} {l0 : Option Nat} {l1 : Int32} {l2 : Int32} {res : (Int32 × z_H)}, k4 h l0 l1 l2 = some res → z_Run G l 5 M_X11_thatCanBe 4 [(0, z_r l0), (1, .int l1), (2, .int l2)] [] h res.2 (some (.int res.1))) (hk19 : ∀ {h : z_H} {l0 : Option Nat} {l1 : Int32} {l2 : Int32} {l3 : Int32} {l4 : Int32} {res : (Int32 × z_H)}, k19 h l0 l1 l2 l3 l4 = some res → z_Run G l 5 M_X11_thatCanBe 19 [(0, z_r l0), (1, .int l1), (2, .int l2), (3, .int l3), (4, .int l4)] [] h res.2 (some (.int res.1))) {h : z_H} {l0 : Option Nat} {l1 : Int32} {l2 : Int32} {l4 : Int32} {s0 : Int32} {res : (Int32 × z_H)} (e : D_X11_thatCanBe_73 k4 k19 h l0 l1 l2 l4 s0 = some res) : z_Run G l 5 M_X11_thatCanBe 73 [(0, z_r l0), (1, .int l1), (2, .int l2), (4, .int l4)] [.int s0] h res.2 (some (.int res.1)) := by
  unfold D_X11_thatCanBe_73 at e
  refine z_istore_n (L' := [(3, .int s0), (0, z_r l0), (1, .int l1), (2, .int l2), (4, .int l4)]) dX11_thatCanBe_73 rfl (by decide) rfl ?_
  replace e := z_bd e; obtain ⟨x1335, ex1335, e⟩ := e
  refine z_iinc (q := 4) (v := x1335) (L' := [(4, .int x1335), (3, .int s0), (0, z_r l0), (1, .int l1), (2, .int l2)]) dX11_thatCanBe_74 rfl (Option.some.inj ex1335) (by decide) rfl ?_
  refine z_goto (tgt := 19) dX11_thatCanBe_77 (by decide) ?_
  exact z_weak [2, 3, 4, 1, 0] rfl (hk19 e)
def D_X11_thatCanBe_72 (k4 : z_H → Option Nat → Int32 → Int32 → Option (Int32 × z_H)) (k19 : z_H → Option Nat → Int32 → Int32 → Int32 → Int32 → Option (Int32 × z_H)) (h : z_H) (l0 : Option Nat) (l1 : Int32) (l2 : Int32) (l4 : Int32) : Option (Int32 × z_H) :=
  D_X11_thatCanBe_73  k4 k19 h l0 l1 l2 l4 (0:Int32)
set_option maxRecDepth 100000 in
set_option maxHeartbeats 4000000 in
theorem S_X11_thatCanBe_72 {G : z_G} {l : Launch} {k4 : z_H → Option Nat → Int32 → Int32 → Option (Int32 × z_H)} {k19 : z_H → Option Nat → Int32 → Int32 → Int32 → Int32 → Option (Int32 × z_H)} (hk4 : ∀ {h : z_H} {l0 : Option Nat} {l1 : Int32} {l2 : Int32} {res : (Int32 × z_H)}, k4 h l0 l1 l2 = some res → z_Run G l 5 M_X11_thatCanBe 4 [(0, z_r l0), (1, .int l1), (2, .int l2)] [] h res.2 (some (.int res.1))) (hk19 : ∀ {h : z_H} {l0 : Option Nat} {l1 : Int32} {l2 : Int32} {l3 : Int32} {l4 : Int32} {res : (Int32 × z_H)}, k19 h l0 l1 l2 l3 l4 = some res → z_Run G l 5 M_X11_thatCanBe 19 [(0, z_r l0), (1, .int l1), (2, .int l2), (3, .int l3), (4, .int l4)] [] h res.2 (some (.int res.1))) {h : z_H} {l0 : Option Nat} {l1 : Int32} {l2 : Int32} {l4 : Int32} {res : (Int32 × z_H)} (e : D_X11_thatCanBe_72 k4 k19 h l0 l1 l2 l4 = some res) : z_Run G l 5 M_X11_thatCanBe 72 [(0, z_r l0), (1, .int l1), (2, .int l2), (4, .int l4)] [] h res.2 (some (.int res.1)) := by
  unfold D_X11_thatCanBe_72 at e
  refine z_iconst (v := 0) dX11_thatCanBe_72 (by decide) ?_
  exact z_weak [0, 1, 2, 3] rfl (S_X11_thatCanBe_73  @hk4 @hk19 e)
def D_X11_thatCanBe_19b (k4 : z_H → Option Nat → Int32 → Int32 → Option (Int32 × z_H)) (k19 : z_H → Option Nat → Int32 → Int32 → Int32 → Int32 → Option (Int32 × z_H)) (h : z_H) (l0 : Option Nat) (l1 : Int32) (l2 : Int32) (l3 : Int32) (l4 : Int32) : Option (Int32 × z_H) :=
  (z_gQ 11 h l0 3).bind fun x1336 =>
  (z_aI .int h x1336 (1:Int32)).bind fun x1337 =>
  if x1337 ≤ l4 then
    if l3 = 0 then
      D_X11_thatCanBe_92  k4 h l0 l2 l1 (0:Int32)
    else
      D_X11_thatCanBe_92  k4 h l0 l2 l1 ((1:Int32) <<< (l2 &&& 31))
  else
    if l3 = 0 then
      D_X11_thatCanBe_72  k4 k19 h l0 l1 l2 l4
    else
      (z_gQ 11 h l0 3).bind fun x1341 =>
      (z_aI .int h x1341 ((50:Int32) + ((2:Int32) * l4))).bind fun x1342 =>
      (z_ob 11 h l0).bind fun _ =>
      (D_X11_wornOf  h l0 l2 x1342).bind fun p1343 =>
      (z_gQ 11 p1343.2 l0 3).bind fun x1345 =>
      (z_aI .int p1343.2 x1345 (((50:Int32) + ((2:Int32) * l4)) + (1:Int32))).bind fun x1346 =>
      if p1343.1 = x1346 then
        D_X11_thatCanBe_73  k4 k19 p1343.2 l0 l1 l2 l4 (1:Int32)
      else
        D_X11_thatCanBe_72  k4 k19 p1343.2 l0 l1 l2 l4
def D_X11_thatCanBe_19 (k4 : z_H → Option Nat → Int32 → Int32 → Option (Int32 × z_H)) (n : Nat) : z_H → Option Nat → Int32 → Int32 → Int32 → Int32 → Option (Int32 × z_H) := Nat.rec (motive := fun _ => z_H → Option Nat → Int32 → Int32 → Int32 → Int32 → Option (Int32 × z_H)) (fun _ _ _ _ _ _ => none) (fun _ k => D_X11_thatCanBe_19b k4 k) n
set_option maxRecDepth 100000 in
set_option maxHeartbeats 4000000 in
theorem S_X11_thatCanBe_19 {G : z_G} {l : Launch} {k4 : z_H → Option Nat → Int32 → Int32 → Option (Int32 × z_H)} (hk4 : ∀ {h : z_H} {l0 : Option Nat} {l1 : Int32} {l2 : Int32} {res : (Int32 × z_H)}, k4 h l0 l1 l2 = some res → z_Run G l 5 M_X11_thatCanBe 4 [(0, z_r l0), (1, .int l1), (2, .int l2)] [] h res.2 (some (.int res.1))) (n : Nat) : ∀ {h : z_H} {l0 : Option Nat} {l1 : Int32} {l2 : Int32} {l3 : Int32} {l4 : Int32} {res : (Int32 × z_H)}, D_X11_thatCanBe_19 k4 n h l0 l1 l2 l3 l4 = some res → z_Run G l 5 M_X11_thatCanBe 19 [(0, z_r l0), (1, .int l1), (2, .int l2), (3, .int l3), (4, .int l4)] [] h res.2 (some (.int res.1)) := by
  induction n with
  | zero => intro h l0 l1 l2 l3 l4 res e; cases e
  | succ n hk19 =>
    intro h l0 l1 l2 l3 l4 res e
    replace e : D_X11_thatCanBe_19b k4 (D_X11_thatCanBe_19 k4 n) h l0 l1 l2 l3 l4 = some res := e
    unfold D_X11_thatCanBe_19b at e
    refine z_iload 4 dX11_thatCanBe_19 rfl ?_
    refine z_aload_n 0 dX11_thatCanBe_21 rfl ?_
    replace e := z_bd e; obtain ⟨x1336, ex1336, e⟩ := e
    refine z_getQ ex1336 lk_X11_13 dX11_thatCanBe_22 ?_
    refine z_iconst (v := 1) dX11_thatCanBe_25 (by decide) ?_
    replace e := z_bd e; obtain ⟨x1337, ex1337, e⟩ := e
    refine z_iald ex1337 dX11_thatCanBe_26 ?_
    refine z_icmp_ge (tgt := 80) dX11_thatCanBe_27 (by decide) (fun c1338 => ?_) (fun c1338 => ?_)
    · rw [if_pos c1338] at e
      refine z_iload_n 1 dX11_thatCanBe_80 rfl ?_
      refine z_iload_n 3 dX11_thatCanBe_81 rfl ?_
      refine z_if_eq (tgt := 91) dX11_thatCanBe_82 (by decide) (fun c1339 => ?_) (fun c1339 => ?_)
      · rw [if_pos c1339] at e
        refine z_iconst (v := 0) dX11_thatCanBe_91 (by decide) ?_
        exact z_weak [0, 2] rfl (S_X11_thatCanBe_92  @hk4 e)
      · rw [if_neg c1339] at e
        refine z_iconst (v := 1) dX11_thatCanBe_85 (by decide) ?_
        refine z_iload_n 2 dX11_thatCanBe_86 rfl ?_
        refine z_ishl dX11_thatCanBe_87 ?_
        refine z_goto (tgt := 92) dX11_thatCanBe_88 (by decide) ?_
        exact z_weak [0, 2] rfl (S_X11_thatCanBe_92  @hk4 e)
    · rw [if_neg c1338] at e
      refine z_iload_n 3 dX11_thatCanBe_30 rfl ?_
      refine z_if_eq (tgt := 72) dX11_thatCanBe_31 (by decide) (fun c1340 => ?_) (fun c1340 => ?_)
      · rw [if_pos c1340] at e
        exact z_weak [0, 1, 2, 4] rfl (S_X11_thatCanBe_72  @hk4 @hk19 e)
      · rw [if_neg c1340] at e
        refine z_aload_n 0 dX11_thatCanBe_34 rfl ?_
        refine z_iload_n 2 dX11_thatCanBe_35 rfl ?_
        refine z_aload_n 0 dX11_thatCanBe_36 rfl ?_
        replace e := z_bd e; obtain ⟨x1341, ex1341, e⟩ := e
        refine z_getQ ex1341 lk_X11_13 dX11_thatCanBe_37 ?_
        refine z_bipush (v := 50) dX11_thatCanBe_40 (by decide) ?_
        refine z_iconst (v := 2) dX11_thatCanBe_42 (by decide) ?_
        refine z_iload 4 dX11_thatCanBe_43 rfl ?_
        refine z_imul dX11_thatCanBe_45 ?_
        refine z_iadd dX11_thatCanBe_46 ?_
        replace e := z_bd e; obtain ⟨x1342, ex1342, e⟩ := e
        refine z_iald ex1342 dX11_thatCanBe_47 ?_
        replace e := z_bd e; obtain ⟨o1344, eo1344, e⟩ := e
        replace e := z_bd e; obtain ⟨p1343, ep1343, e⟩ := e
        refine z_cV [.int l2, .int x1342] (S_X11_wornOf  ep1343) eo1344 rfl ml_X11_219 ck_X11_wornOf vk_X11_wornOf dX11_thatCanBe_48 (by decide) rfl (Nat.zero_le _) rfl ?_
        refine z_aload_n 0 dX11_thatCanBe_51 rfl ?_
        replace e := z_bd e; obtain ⟨x1345, ex1345, e⟩ := e
        refine z_getQ ex1345 lk_X11_13 dX11_thatCanBe_52 ?_
        refine z_bipush (v := 50) dX11_thatCanBe_55 (by decide) ?_
        refine z_iconst (v := 2) dX11_thatCanBe_57 (by decide) ?_
        refine z_iload 4 dX11_thatCanBe_58 rfl ?_
        refine z_imul dX11_thatCanBe_60 ?_
        refine z_iadd dX11_thatCanBe_61 ?_
        refine z_iconst (v := 1) dX11_thatCanBe_62 (by decide) ?_
        refine z_iadd dX11_thatCanBe_63 ?_
        replace e := z_bd e; obtain ⟨x1346, ex1346, e⟩ := e
        refine z_iald ex1346 dX11_thatCanBe_64 ?_
        refine z_icmp_ne (tgt := 72) dX11_thatCanBe_65 (by decide) (fun c1347 => ?_) (fun c1347 => ?_)
        · rw [if_neg c1347] at e
          exact z_weak [0, 1, 2, 4] rfl (S_X11_thatCanBe_72  @hk4 @hk19 e)
        · rw [if_pos c1347] at e
          refine z_iconst (v := 1) dX11_thatCanBe_68 (by decide) ?_
          refine z_goto (tgt := 73) dX11_thatCanBe_69 (by decide) ?_
          exact z_weak [0, 1, 2, 4] rfl (S_X11_thatCanBe_73  @hk4 @hk19 e)
def D_X11_thatCanBe_4b (k4 : z_H → Option Nat → Int32 → Int32 → Option (Int32 × z_H)) (h : z_H) (l0 : Option Nat) (l1 : Int32) (l2 : Int32) : Option (Int32 × z_H) :=
  (z_gQ 11 h l0 3).bind fun x1348 =>
  (z_aI .int h x1348 (0:Int32)).bind fun x1349 =>
  if x1349 ≤ l2 then
    some (l1, h)
  else
    D_X11_thatCanBe_19  k4 z_F h l0 l1 l2 (1:Int32) (0:Int32)
def D_X11_thatCanBe_4 (n : Nat) : z_H → Option Nat → Int32 → Int32 → Option (Int32 × z_H) := Nat.rec (motive := fun _ => z_H → Option Nat → Int32 → Int32 → Option (Int32 × z_H)) (fun _ _ _ _ => none) (fun _ k => D_X11_thatCanBe_4b  k) n
set_option maxRecDepth 100000 in
set_option maxHeartbeats 4000000 in
theorem S_X11_thatCanBe_4 {G : z_G} {l : Launch}  (n : Nat) : ∀ {h : z_H} {l0 : Option Nat} {l1 : Int32} {l2 : Int32} {res : (Int32 × z_H)}, D_X11_thatCanBe_4  n h l0 l1 l2 = some res → z_Run G l 5 M_X11_thatCanBe 4 [(0, z_r l0), (1, .int l1), (2, .int l2)] [] h res.2 (some (.int res.1)) := by
  induction n with
  | zero => intro h l0 l1 l2 res e; cases e
  | succ n hk4 =>
    intro h l0 l1 l2 res e
    replace e : D_X11_thatCanBe_4b  (D_X11_thatCanBe_4  n) h l0 l1 l2 = some res := e
    unfold D_X11_thatCanBe_4b at e
    refine z_iload_n 2 dX11_thatCanBe_4 rfl ?_
    refine z_aload_n 0 dX11_thatCanBe_5 rfl ?_
    replace e := z_bd e; obtain ⟨x1348, ex1348, e⟩ := e
    refine z_getQ ex1348 lk_X11_13 dX11_thatCanBe_6 ?_
    refine z_iconst (v := 0) dX11_thatCanBe_9 (by decide) ?_
    replace e := z_bd e; obtain ⟨x1349, ex1349, e⟩ := e
    refine z_iald ex1349 dX11_thatCanBe_10 ?_
    refine z_icmp_ge (tgt := 100) dX11_thatCanBe_11 (by decide) (fun c1350 => ?_) (fun c1350 => ?_)
    · rw [if_pos c1350] at e
      refine z_iload_n 1 dX11_thatCanBe_100 rfl ?_
      cases e
      exact z_iret dX11_thatCanBe_101 rfl
    · rw [if_neg c1350] at e
      refine z_iconst (v := 1) dX11_thatCanBe_14 (by decide) ?_
      refine z_istore_n (L' := [(3, .int (1:Int32)), (0, z_r l0), (1, .int l1), (2, .int l2)]) dX11_thatCanBe_15 rfl (by decide) rfl ?_
      refine z_iconst (v := 0) dX11_thatCanBe_16 (by decide) ?_
      refine z_istore (L' := [(4, .int (0:Int32)), (3, .int (1:Int32)), (0, z_r l0), (1, .int l1), (2, .int l2)]) dX11_thatCanBe_17 (by decide) rfl ?_
      exact z_weak [2, 3, 4, 1, 0] rfl (S_X11_thatCanBe_19  @hk4 z_F e)
def D_X11_thatCanBe (h : z_H) (l0 : Option Nat) : Option (Int32 × z_H) :=
  D_X11_thatCanBe_4   z_F h l0 (0:Int32) (0:Int32)
set_option maxRecDepth 100000 in
set_option maxHeartbeats 4000000 in
theorem S_X11_thatCanBe {G : z_G} {l : Launch} {h : z_H} {l0 : Option Nat} {res : (Int32 × z_H)} (e : D_X11_thatCanBe h l0 = some res) : z_Meth G l 5 M_X11_thatCanBe [z_r l0] h res.2 (some (.int res.1)) := by
  refine z_Meth.of ck_X11_thatCanBe.2.2.2.2 (by simp [lg_sl, z_ci, z_cj, z_cr, z_cx]) ck_X11_thatCanBe.1 ?_
  rw [show lv_args 0 [z_r l0] = [(0, z_r l0)] from by simp [lv_args, z_ci, z_cj, z_cr, z_cx]]
  unfold D_X11_thatCanBe at e
  refine z_iconst (v := 0) dX11_thatCanBe_0 (by decide) ?_
  refine z_istore_n (L' := [(1, .int (0:Int32)), (0, z_r l0)]) dX11_thatCanBe_1 rfl (by decide) (by simp [z_cr]) ?_
  refine z_iconst (v := 0) dX11_thatCanBe_2 (by decide) ?_
  refine z_istore_n (L' := [(2, .int (0:Int32)), (1, .int (0:Int32)), (0, z_r l0)]) dX11_thatCanBe_3 rfl (by decide) rfl ?_
  exact z_weak [2, 1, 0] rfl (S_X11_thatCanBe_4   z_F e)
theorem dX11_mostAlike_0 : decode cX11_mostAlike 0 = .ok (.iconst 0, 1) := by decide +kernel
theorem dX11_mostAlike_1 : decode cX11_mostAlike 1 = .ok (.istore_n 3, 1) := by decide +kernel
theorem dX11_mostAlike_2 : decode cX11_mostAlike 2 = .ok (.iconst 0, 1) := by decide +kernel
theorem dX11_mostAlike_3 : decode cX11_mostAlike 3 = .ok (.istore 4, 2) := by decide +kernel
theorem dX11_mostAlike_5 : decode cX11_mostAlike 5 = .ok (.iload 4, 2) := by decide +kernel
theorem dX11_mostAlike_7 : decode cX11_mostAlike 7 = .ok (.aload_n 0, 1) := by decide +kernel
theorem dX11_mostAlike_8 : decode cX11_mostAlike 8 = .ok (.getfield 13, 3) := by decide +kernel
theorem dX11_mostAlike_11 : decode cX11_mostAlike 11 = .ok (.iconst 0, 1) := by decide +kernel
theorem dX11_mostAlike_12 : decode cX11_mostAlike 12 = .ok (.iaload, 1) := by decide +kernel
theorem dX11_mostAlike_13 : decode cX11_mostAlike 13 = .ok (.if_icmp .ge 90, 3) := by decide +kernel
theorem dX11_mostAlike_16 : decode cX11_mostAlike 16 = .ok (.iconst 0, 1) := by decide +kernel
theorem dX11_mostAlike_17 : decode cX11_mostAlike 17 = .ok (.istore 5, 2) := by decide +kernel
theorem dX11_mostAlike_19 : decode cX11_mostAlike 19 = .ok (.iconst 0, 1) := by decide +kernel
theorem dX11_mostAlike_20 : decode cX11_mostAlike 20 = .ok (.istore 6, 2) := by decide +kernel
theorem dX11_mostAlike_22 : decode cX11_mostAlike 22 = .ok (.iload 6, 2) := by decide +kernel
theorem dX11_mostAlike_24 : decode cX11_mostAlike 24 = .ok (.aload_n 0, 1) := by decide +kernel
theorem dX11_mostAlike_25 : decode cX11_mostAlike 25 = .ok (.getfield 13, 3) := by decide +kernel
theorem dX11_mostAlike_28 : decode cX11_mostAlike 28 = .ok (.iconst 0, 1) := by decide +kernel
theorem dX11_mostAlike_29 : decode cX11_mostAlike 29 = .ok (.iaload, 1) := by decide +kernel
theorem dX11_mostAlike_30 : decode cX11_mostAlike 30 = .ok (.if_icmp .ge 54, 3) := by decide +kernel
theorem dX11_mostAlike_33 : decode cX11_mostAlike 33 = .ok (.iload 5, 2) := by decide +kernel
theorem dX11_mostAlike_35 : decode cX11_mostAlike 35 = .ok (.iload_n 1, 1) := by decide +kernel
theorem dX11_mostAlike_36 : decode cX11_mostAlike 36 = .ok (.iload 4, 2) := by decide +kernel
theorem dX11_mostAlike_38 : decode cX11_mostAlike 38 = .ok (.invokestatic 195, 3) := by decide +kernel
theorem dX11_mostAlike_41 : decode cX11_mostAlike 41 = .ok (.ifCond .eq 33, 3) := by decide +kernel
theorem dX11_mostAlike_44 : decode cX11_mostAlike 44 = .ok (.iload_n 1, 1) := by decide +kernel
theorem dX11_mostAlike_45 : decode cX11_mostAlike 45 = .ok (.iload 6, 2) := by decide +kernel
theorem dX11_mostAlike_47 : decode cX11_mostAlike 47 = .ok (.invokestatic 195, 3) := by decide +kernel
theorem dX11_mostAlike_50 : decode cX11_mostAlike 50 = .ok (.ifCond .eq 24, 3) := by decide +kernel
theorem dX11_mostAlike_53 : decode cX11_mostAlike 53 = .ok (.aload_n 0, 1) := by decide +kernel
theorem dX11_mostAlike_54 : decode cX11_mostAlike 54 = .ok (.iload 4, 2) := by decide +kernel
theorem dX11_mostAlike_56 : decode cX11_mostAlike 56 = .ok (.iload_n 2, 1) := by decide +kernel
theorem dX11_mostAlike_57 : decode cX11_mostAlike 57 = .ok (.invokevirtual 219, 3) := by decide +kernel
theorem dX11_mostAlike_60 : decode cX11_mostAlike 60 = .ok (.aload_n 0, 1) := by decide +kernel
theorem dX11_mostAlike_61 : decode cX11_mostAlike 61 = .ok (.iload 6, 2) := by decide +kernel
theorem dX11_mostAlike_63 : decode cX11_mostAlike 63 = .ok (.iload_n 2, 1) := by decide +kernel
theorem dX11_mostAlike_64 : decode cX11_mostAlike 64 = .ok (.invokevirtual 219, 3) := by decide +kernel
theorem dX11_mostAlike_67 : decode cX11_mostAlike 67 = .ok (.if_icmp .ne 7, 3) := by decide +kernel
theorem dX11_mostAlike_70 : decode cX11_mostAlike 70 = .ok (.iconst 1, 1) := by decide +kernel
theorem dX11_mostAlike_71 : decode cX11_mostAlike 71 = .ok (.goto 4, 3) := by decide +kernel
theorem dX11_mostAlike_74 : decode cX11_mostAlike 74 = .ok (.iconst 0, 1) := by decide +kernel
theorem dX11_mostAlike_75 : decode cX11_mostAlike 75 = .ok (.iadd, 1) := by decide +kernel
theorem dX11_mostAlike_76 : decode cX11_mostAlike 76 = .ok (.istore 5, 2) := by decide +kernel
theorem dX11_mostAlike_78 : decode cX11_mostAlike 78 = .ok (.iinc 6 1, 3) := by decide +kernel
theorem dX11_mostAlike_81 : decode cX11_mostAlike 81 = .ok (.goto (-59), 3) := by decide +kernel
theorem dX11_mostAlike_84 : decode cX11_mostAlike 84 = .ok (.iload 5, 2) := by decide +kernel
theorem dX11_mostAlike_86 : decode cX11_mostAlike 86 = .ok (.iload_n 3, 1) := by decide +kernel
theorem dX11_mostAlike_87 : decode cX11_mostAlike 87 = .ok (.if_icmp .le 8, 3) := by decide +kernel
theorem dX11_mostAlike_90 : decode cX11_mostAlike 90 = .ok (.iload 5, 2) := by decide +kernel
theorem dX11_mostAlike_92 : decode cX11_mostAlike 92 = .ok (.goto 4, 3) := by decide +kernel
theorem dX11_mostAlike_95 : decode cX11_mostAlike 95 = .ok (.iload_n 3, 1) := by decide +kernel
theorem dX11_mostAlike_96 : decode cX11_mostAlike 96 = .ok (.istore_n 3, 1) := by decide +kernel
theorem dX11_mostAlike_97 : decode cX11_mostAlike 97 = .ok (.iinc 4 1, 3) := by decide +kernel
theorem dX11_mostAlike_100 : decode cX11_mostAlike 100 = .ok (.goto (-95), 3) := by decide +kernel
theorem dX11_mostAlike_103 : decode cX11_mostAlike 103 = .ok (.iload_n 3, 1) := by decide +kernel
theorem dX11_mostAlike_104 : decode cX11_mostAlike 104 = .ok (.ireturn, 1) := by decide +kernel
def D_X11_mostAlike_96 (k5 : z_H → Option Nat → Int32 → Int32 → Int32 → Int32 → Option (Int32 × z_H)) (h : z_H) (l0 : Option Nat) (l1 : Int32) (l2 : Int32) (l4 : Int32) (s0 : Int32) : Option (Int32 × z_H) :=
  (some (l4 + (1:Int32))).bind fun x1351 =>
  k5 h l0 l1 l2 s0 x1351
set_option maxRecDepth 100000 in
set_option maxHeartbeats 4000000 in
theorem S_X11_mostAlike_96 {G : z_G} {l : Launch} {k5 : z_H → Option Nat → Int32 → Int32 → Int32 → Int32 → Option (Int32 × z_H)} (hk5 : ∀ {h : z_H} {l0 : Option Nat} {l1 : Int32} {l2 : Int32} {l3 : Int32} {l4 : Int32} {res : (Int32 × z_H)}, k5 h l0 l1 l2 l3 l4 = some res → z_Run G l 5 M_X11_mostAlike 5 [(0, z_r l0), (1, .int l1), (2, .int l2), (3, .int l3), (4, .int l4)] [] h res.2 (some (.int res.1))) {h : z_H} {l0 : Option Nat} {l1 : Int32} {l2 : Int32} {l4 : Int32} {s0 : Int32} {res : (Int32 × z_H)} (e : D_X11_mostAlike_96 k5 h l0 l1 l2 l4 s0 = some res) : z_Run G l 5 M_X11_mostAlike 96 [(0, z_r l0), (1, .int l1), (2, .int l2), (4, .int l4)] [.int s0] h res.2 (some (.int res.1)) := by
  unfold D_X11_mostAlike_96 at e
  refine z_istore_n (L' := [(3, .int s0), (0, z_r l0), (1, .int l1), (2, .int l2), (4, .int l4)]) dX11_mostAlike_96 rfl (by decide) rfl ?_
  replace e := z_bd e; obtain ⟨x1351, ex1351, e⟩ := e
  refine z_iinc (q := 4) (v := x1351) (L' := [(4, .int x1351), (3, .int s0), (0, z_r l0), (1, .int l1), (2, .int l2)]) dX11_mostAlike_97 rfl (Option.some.inj ex1351) (by decide) rfl ?_
  refine z_goto (tgt := 5) dX11_mostAlike_100 (by decide) ?_
  exact z_weak [2, 3, 4, 1, 0] rfl (hk5 e)
def D_X11_mostAlike_75 (k5 : z_H → Option Nat → Int32 → Int32 → Int32 → Int32 → Option (Int32 × z_H)) (k22 : z_H → Option Nat → Int32 → Int32 → Int32 → Int32 → Int32 → Int32 → Option (Int32 × z_H)) (h : z_H) (l0 : Option Nat) (l1 : Int32) (l2 : Int32) (l3 : Int32) (l4 : Int32) (l6 : Int32) (s0 : Int32) (s1 : Int32) : Option (Int32 × z_H) :=
  (some (s0 + s1)).bind fun x1352 =>
  (some (l6 + (1:Int32))).bind fun x1353 =>
  k22 h l0 l1 l2 l3 l4 x1352 x1353
set_option maxRecDepth 100000 in
set_option maxHeartbeats 4000000 in
theorem S_X11_mostAlike_75 {G : z_G} {l : Launch} {k5 : z_H → Option Nat → Int32 → Int32 → Int32 → Int32 → Option (Int32 × z_H)} {k22 : z_H → Option Nat → Int32 → Int32 → Int32 → Int32 → Int32 → Int32 → Option (Int32 × z_H)} (hk5 : ∀ {h : z_H} {l0 : Option Nat} {l1 : Int32} {l2 : Int32} {l3 : Int32} {l4 : Int32} {res : (Int32 × z_H)}, k5 h l0 l1 l2 l3 l4 = some res → z_Run G l 5 M_X11_mostAlike 5 [(0, z_r l0), (1, .int l1), (2, .int l2), (3, .int l3), (4, .int l4)] [] h res.2 (some (.int res.1))) (hk22 : ∀ {h : z_H} {l0 : Option Nat} {l1 : Int32} {l2 : Int32} {l3 : Int32} {l4 : Int32} {l5 : Int32} {l6 : Int32} {res : (Int32 × z_H)}, k22 h l0 l1 l2 l3 l4 l5 l6 = some res → z_Run G l 5 M_X11_mostAlike 22 [(0, z_r l0), (1, .int l1), (2, .int l2), (3, .int l3), (4, .int l4), (5, .int l5), (6, .int l6)] [] h res.2 (some (.int res.1))) {h : z_H} {l0 : Option Nat} {l1 : Int32} {l2 : Int32} {l3 : Int32} {l4 : Int32} {l6 : Int32} {s0 : Int32} {s1 : Int32} {res : (Int32 × z_H)} (e : D_X11_mostAlike_75 k5 k22 h l0 l1 l2 l3 l4 l6 s0 s1 = some res) : z_Run G l 5 M_X11_mostAlike 75 [(0, z_r l0), (1, .int l1), (2, .int l2), (3, .int l3), (4, .int l4), (6, .int l6)] [.int s1, .int s0] h res.2 (some (.int res.1)) := by
  unfold D_X11_mostAlike_75 at e
  refine z_iadd dX11_mostAlike_75 ?_
  replace e := z_bd e; obtain ⟨x1352, ex1352, e⟩ := e
  refine z_topI ex1352 ?_
  refine z_istore (L' := [(5, .int x1352), (0, z_r l0), (1, .int l1), (2, .int l2), (3, .int l3), (4, .int l4), (6, .int l6)]) dX11_mostAlike_76 (by decide) rfl ?_
  replace e := z_bd e; obtain ⟨x1353, ex1353, e⟩ := e
  refine z_iinc (q := 6) (v := x1353) (L' := [(6, .int x1353), (5, .int x1352), (0, z_r l0), (1, .int l1), (2, .int l2), (3, .int l3), (4, .int l4)]) dX11_mostAlike_78 rfl (Option.some.inj ex1353) (by decide) rfl ?_
  refine z_goto (tgt := 22) dX11_mostAlike_81 (by decide) ?_
  exact z_weak [2, 3, 4, 5, 6, 1, 0] rfl (hk22 e)
def D_X11_mostAlike_74 (k5 : z_H → Option Nat → Int32 → Int32 → Int32 → Int32 → Option (Int32 × z_H)) (k22 : z_H → Option Nat → Int32 → Int32 → Int32 → Int32 → Int32 → Int32 → Option (Int32 × z_H)) (h : z_H) (l0 : Option Nat) (l1 : Int32) (l2 : Int32) (l3 : Int32) (l4 : Int32) (l6 : Int32) (s0 : Int32) : Option (Int32 × z_H) :=
  D_X11_mostAlike_75  k5 k22 h l0 l1 l2 l3 l4 l6 s0 (0:Int32)
set_option maxRecDepth 100000 in
set_option maxHeartbeats 4000000 in
theorem S_X11_mostAlike_74 {G : z_G} {l : Launch} {k5 : z_H → Option Nat → Int32 → Int32 → Int32 → Int32 → Option (Int32 × z_H)} {k22 : z_H → Option Nat → Int32 → Int32 → Int32 → Int32 → Int32 → Int32 → Option (Int32 × z_H)} (hk5 : ∀ {h : z_H} {l0 : Option Nat} {l1 : Int32} {l2 : Int32} {l3 : Int32} {l4 : Int32} {res : (Int32 × z_H)}, k5 h l0 l1 l2 l3 l4 = some res → z_Run G l 5 M_X11_mostAlike 5 [(0, z_r l0), (1, .int l1), (2, .int l2), (3, .int l3), (4, .int l4)] [] h res.2 (some (.int res.1))) (hk22 : ∀ {h : z_H} {l0 : Option Nat} {l1 : Int32} {l2 : Int32} {l3 : Int32} {l4 : Int32} {l5 : Int32} {l6 : Int32} {res : (Int32 × z_H)}, k22 h l0 l1 l2 l3 l4 l5 l6 = some res → z_Run G l 5 M_X11_mostAlike 22 [(0, z_r l0), (1, .int l1), (2, .int l2), (3, .int l3), (4, .int l4), (5, .int l5), (6, .int l6)] [] h res.2 (some (.int res.1))) {h : z_H} {l0 : Option Nat} {l1 : Int32} {l2 : Int32} {l3 : Int32} {l4 : Int32} {l6 : Int32} {s0 : Int32} {res : (Int32 × z_H)} (e : D_X11_mostAlike_74 k5 k22 h l0 l1 l2 l3 l4 l6 s0 = some res) : z_Run G l 5 M_X11_mostAlike 74 [(0, z_r l0), (1, .int l1), (2, .int l2), (3, .int l3), (4, .int l4), (6, .int l6)] [.int s0] h res.2 (some (.int res.1)) := by
  unfold D_X11_mostAlike_74 at e
  refine z_iconst (v := 0) dX11_mostAlike_74 (by decide) ?_
  exact z_weak [0, 1, 2, 3, 4, 5] rfl (S_X11_mostAlike_75  @hk5 @hk22 e)
def D_X11_mostAlike_22b (k5 : z_H → Option Nat → Int32 → Int32 → Int32 → Int32 → Option (Int32 × z_H)) (k22 : z_H → Option Nat → Int32 → Int32 → Int32 → Int32 → Int32 → Int32 → Option (Int32 × z_H)) (h : z_H) (l0 : Option Nat) (l1 : Int32) (l2 : Int32) (l3 : Int32) (l4 : Int32) (l5 : Int32) (l6 : Int32) : Option (Int32 × z_H) :=
  (z_gQ 11 h l0 3).bind fun x1354 =>
  (z_aI .int h x1354 (0:Int32)).bind fun x1355 =>
  if x1355 ≤ l6 then
    if l5 ≤ l3 then
      D_X11_mostAlike_96  k5 h l0 l1 l2 l4 l3
    else
      D_X11_mostAlike_96  k5 h l0 l1 l2 l4 l5
  else
    (D_X11_is  h l1 l4).bind fun p1358 =>
    if p1358.1 = 0 then
      D_X11_mostAlike_74  k5 k22 p1358.2 l0 l1 l2 l3 l4 l6 l5
    else
      (D_X11_is  p1358.2 l1 l6).bind fun p1360 =>
      if p1360.1 = 0 then
        D_X11_mostAlike_74  k5 k22 p1360.2 l0 l1 l2 l3 l4 l6 l5
      else
        (z_ob 11 p1360.2 l0).bind fun _ =>
        (D_X11_wornOf  p1360.2 l0 l4 l2).bind fun p1362 =>
        (z_ob 11 p1362.2 l0).bind fun _ =>
        (D_X11_wornOf  p1362.2 l0 l6 l2).bind fun p1364 =>
        if p1362.1 = p1364.1 then
          D_X11_mostAlike_75  k5 k22 p1364.2 l0 l1 l2 l3 l4 l6 l5 (1:Int32)
        else
          D_X11_mostAlike_74  k5 k22 p1364.2 l0 l1 l2 l3 l4 l6 l5
def D_X11_mostAlike_22 (k5 : z_H → Option Nat → Int32 → Int32 → Int32 → Int32 → Option (Int32 × z_H)) (n : Nat) : z_H → Option Nat → Int32 → Int32 → Int32 → Int32 → Int32 → Int32 → Option (Int32 × z_H) := Nat.rec (motive := fun _ => z_H → Option Nat → Int32 → Int32 → Int32 → Int32 → Int32 → Int32 → Option (Int32 × z_H)) (fun _ _ _ _ _ _ _ _ => none) (fun _ k => D_X11_mostAlike_22b k5 k) n
set_option maxRecDepth 100000 in
set_option maxHeartbeats 4000000 in
theorem S_X11_mostAlike_22 {G : z_G} {l : Launch} {k5 : z_H → Option Nat → Int32 → Int32 → Int32 → Int32 → Option (Int32 × z_H)} (hk5 : ∀ {h : z_H} {l0 : Option Nat} {l1 : Int32} {l2 : Int32} {l3 : Int32} {l4 : Int32} {res : (Int32 × z_H)}, k5 h l0 l1 l2 l3 l4 = some res → z_Run G l 5 M_X11_mostAlike 5 [(0, z_r l0), (1, .int l1), (2, .int l2), (3, .int l3), (4, .int l4)] [] h res.2 (some (.int res.1))) (n : Nat) : ∀ {h : z_H} {l0 : Option Nat} {l1 : Int32} {l2 : Int32} {l3 : Int32} {l4 : Int32} {l5 : Int32} {l6 : Int32} {res : (Int32 × z_H)}, D_X11_mostAlike_22 k5 n h l0 l1 l2 l3 l4 l5 l6 = some res → z_Run G l 5 M_X11_mostAlike 22 [(0, z_r l0), (1, .int l1), (2, .int l2), (3, .int l3), (4, .int l4), (5, .int l5), (6, .int l6)] [] h res.2 (some (.int res.1)) := by
  induction n with
  | zero => intro h l0 l1 l2 l3 l4 l5 l6 res e; cases e
  | succ n hk22 =>
    intro h l0 l1 l2 l3 l4 l5 l6 res e
    replace e : D_X11_mostAlike_22b k5 (D_X11_mostAlike_22 k5 n) h l0 l1 l2 l3 l4 l5 l6 = some res := e
    unfold D_X11_mostAlike_22b at e
    refine z_iload 6 dX11_mostAlike_22 rfl ?_
    refine z_aload_n 0 dX11_mostAlike_24 rfl ?_
    replace e := z_bd e; obtain ⟨x1354, ex1354, e⟩ := e
    refine z_getQ ex1354 lk_X11_13 dX11_mostAlike_25 ?_
    refine z_iconst (v := 0) dX11_mostAlike_28 (by decide) ?_
    replace e := z_bd e; obtain ⟨x1355, ex1355, e⟩ := e
    refine z_iald ex1355 dX11_mostAlike_29 ?_
    refine z_icmp_ge (tgt := 84) dX11_mostAlike_30 (by decide) (fun c1356 => ?_) (fun c1356 => ?_)
    · rw [if_pos c1356] at e
      refine z_iload 5 dX11_mostAlike_84 rfl ?_
      refine z_iload_n 3 dX11_mostAlike_86 rfl ?_
      refine z_icmp_le (tgt := 95) dX11_mostAlike_87 (by decide) (fun c1357 => ?_) (fun c1357 => ?_)
      · rw [if_pos c1357] at e
        refine z_iload_n 3 dX11_mostAlike_95 rfl ?_
        exact z_weak [0, 1, 2, 4] rfl (S_X11_mostAlike_96  @hk5 e)
      · rw [if_neg c1357] at e
        refine z_iload 5 dX11_mostAlike_90 rfl ?_
        refine z_goto (tgt := 96) dX11_mostAlike_92 (by decide) ?_
        exact z_weak [0, 1, 2, 4] rfl (S_X11_mostAlike_96  @hk5 e)
    · rw [if_neg c1356] at e
      refine z_iload 5 dX11_mostAlike_33 rfl ?_
      refine z_iload_n 1 dX11_mostAlike_35 rfl ?_
      refine z_iload 4 dX11_mostAlike_36 rfl ?_
      replace e := z_bd e; obtain ⟨p1358, ep1358, e⟩ := e
      refine z_cS [.int l1, .int l4] (S_X11_is  ep1358) ml_X11_195 ck_X11_is st_X11_is dX11_mostAlike_38 (by decide) rfl (by simp [z_ci, z_cj, z_cr, z_cx]) rfl ?_
      refine z_if_eq (tgt := 74) dX11_mostAlike_41 (by decide) (fun c1359 => ?_) (fun c1359 => ?_)
      · rw [if_pos c1359] at e
        exact z_weak [0, 1, 2, 3, 4, 6] rfl (S_X11_mostAlike_74  @hk5 @hk22 e)
      · rw [if_neg c1359] at e
        refine z_iload_n 1 dX11_mostAlike_44 rfl ?_
        refine z_iload 6 dX11_mostAlike_45 rfl ?_
        replace e := z_bd e; obtain ⟨p1360, ep1360, e⟩ := e
        refine z_cS [.int l1, .int l6] (S_X11_is  ep1360) ml_X11_195 ck_X11_is st_X11_is dX11_mostAlike_47 (by decide) rfl (by simp [z_ci, z_cj, z_cr, z_cx]) rfl ?_
        refine z_if_eq (tgt := 74) dX11_mostAlike_50 (by decide) (fun c1361 => ?_) (fun c1361 => ?_)
        · rw [if_pos c1361] at e
          exact z_weak [0, 1, 2, 3, 4, 6] rfl (S_X11_mostAlike_74  @hk5 @hk22 e)
        · rw [if_neg c1361] at e
          refine z_aload_n 0 dX11_mostAlike_53 rfl ?_
          refine z_iload 4 dX11_mostAlike_54 rfl ?_
          refine z_iload_n 2 dX11_mostAlike_56 rfl ?_
          replace e := z_bd e; obtain ⟨o1363, eo1363, e⟩ := e
          replace e := z_bd e; obtain ⟨p1362, ep1362, e⟩ := e
          refine z_cV [.int l4, .int l2] (S_X11_wornOf  ep1362) eo1363 rfl ml_X11_219 ck_X11_wornOf vk_X11_wornOf dX11_mostAlike_57 (by decide) rfl (by simp [z_ci, z_cj, z_cr, z_cx]) rfl ?_
          refine z_aload_n 0 dX11_mostAlike_60 rfl ?_
          refine z_iload 6 dX11_mostAlike_61 rfl ?_
          refine z_iload_n 2 dX11_mostAlike_63 rfl ?_
          replace e := z_bd e; obtain ⟨o1365, eo1365, e⟩ := e
          replace e := z_bd e; obtain ⟨p1364, ep1364, e⟩ := e
          refine z_cV [.int l6, .int l2] (S_X11_wornOf  ep1364) eo1365 rfl ml_X11_219 ck_X11_wornOf vk_X11_wornOf dX11_mostAlike_64 (by decide) rfl (by simp [z_ci, z_cj, z_cr, z_cx]) rfl ?_
          refine z_icmp_ne (tgt := 74) dX11_mostAlike_67 (by decide) (fun c1366 => ?_) (fun c1366 => ?_)
          · rw [if_neg c1366] at e
            exact z_weak [0, 1, 2, 3, 4, 6] rfl (S_X11_mostAlike_74  @hk5 @hk22 e)
          · rw [if_pos c1366] at e
            refine z_iconst (v := 1) dX11_mostAlike_70 (by decide) ?_
            refine z_goto (tgt := 75) dX11_mostAlike_71 (by decide) ?_
            exact z_weak [0, 1, 2, 3, 4, 6] rfl (S_X11_mostAlike_75  @hk5 @hk22 e)
def D_X11_mostAlike_5b (k5 : z_H → Option Nat → Int32 → Int32 → Int32 → Int32 → Option (Int32 × z_H)) (h : z_H) (l0 : Option Nat) (l1 : Int32) (l2 : Int32) (l3 : Int32) (l4 : Int32) : Option (Int32 × z_H) :=
  (z_gQ 11 h l0 3).bind fun x1367 =>
  (z_aI .int h x1367 (0:Int32)).bind fun x1368 =>
  if x1368 ≤ l4 then
    some (l3, h)
  else
    D_X11_mostAlike_22  k5 z_F h l0 l1 l2 l3 l4 (0:Int32) (0:Int32)
def D_X11_mostAlike_5 (n : Nat) : z_H → Option Nat → Int32 → Int32 → Int32 → Int32 → Option (Int32 × z_H) := Nat.rec (motive := fun _ => z_H → Option Nat → Int32 → Int32 → Int32 → Int32 → Option (Int32 × z_H)) (fun _ _ _ _ _ _ => none) (fun _ k => D_X11_mostAlike_5b  k) n
set_option maxRecDepth 100000 in
set_option maxHeartbeats 4000000 in
theorem S_X11_mostAlike_5 {G : z_G} {l : Launch}  (n : Nat) : ∀ {h : z_H} {l0 : Option Nat} {l1 : Int32} {l2 : Int32} {l3 : Int32} {l4 : Int32} {res : (Int32 × z_H)}, D_X11_mostAlike_5  n h l0 l1 l2 l3 l4 = some res → z_Run G l 5 M_X11_mostAlike 5 [(0, z_r l0), (1, .int l1), (2, .int l2), (3, .int l3), (4, .int l4)] [] h res.2 (some (.int res.1)) := by
  induction n with
  | zero => intro h l0 l1 l2 l3 l4 res e; cases e
  | succ n hk5 =>
    intro h l0 l1 l2 l3 l4 res e
    replace e : D_X11_mostAlike_5b  (D_X11_mostAlike_5  n) h l0 l1 l2 l3 l4 = some res := e
    unfold D_X11_mostAlike_5b at e
    refine z_iload 4 dX11_mostAlike_5 rfl ?_
    refine z_aload_n 0 dX11_mostAlike_7 rfl ?_
    replace e := z_bd e; obtain ⟨x1367, ex1367, e⟩ := e
    refine z_getQ ex1367 lk_X11_13 dX11_mostAlike_8 ?_
    refine z_iconst (v := 0) dX11_mostAlike_11 (by decide) ?_
    replace e := z_bd e; obtain ⟨x1368, ex1368, e⟩ := e
    refine z_iald ex1368 dX11_mostAlike_12 ?_
    refine z_icmp_ge (tgt := 103) dX11_mostAlike_13 (by decide) (fun c1369 => ?_) (fun c1369 => ?_)
    · rw [if_pos c1369] at e
      refine z_iload_n 3 dX11_mostAlike_103 rfl ?_
      cases e
      exact z_iret dX11_mostAlike_104 rfl
    · rw [if_neg c1369] at e
      refine z_iconst (v := 0) dX11_mostAlike_16 (by decide) ?_
      refine z_istore (L' := [(5, .int (0:Int32)), (0, z_r l0), (1, .int l1), (2, .int l2), (3, .int l3), (4, .int l4)]) dX11_mostAlike_17 (by decide) rfl ?_
      refine z_iconst (v := 0) dX11_mostAlike_19 (by decide) ?_
      refine z_istore (L' := [(6, .int (0:Int32)), (5, .int (0:Int32)), (0, z_r l0), (1, .int l1), (2, .int l2), (3, .int l3), (4, .int l4)]) dX11_mostAlike_20 (by decide) rfl ?_
      exact z_weak [2, 3, 4, 5, 6, 1, 0] rfl (S_X11_mostAlike_22  @hk5 z_F e)
def D_X11_mostAlike (h : z_H) (l0 : Option Nat) (l1 : Int32) (l2 : Int32) : Option (Int32 × z_H) :=
  D_X11_mostAlike_5   z_F h l0 l1 l2 (0:Int32) (0:Int32)
set_option maxRecDepth 100000 in
set_option maxHeartbeats 4000000 in
theorem S_X11_mostAlike {G : z_G} {l : Launch} {h : z_H} {l0 : Option Nat} {l1 : Int32} {l2 : Int32} {res : (Int32 × z_H)} (e : D_X11_mostAlike h l0 l1 l2 = some res) : z_Meth G l 5 M_X11_mostAlike [z_r l0, .int l1, .int l2] h res.2 (some (.int res.1)) := by
  refine z_Meth.of ck_X11_mostAlike.2.2.2.2 (by simp [lg_sl, z_ci, z_cj, z_cr, z_cx]) ck_X11_mostAlike.1 ?_
  rw [show lv_args 0 [z_r l0, .int l1, .int l2] = [(0, z_r l0), (1, .int l1), (2, .int l2)] from by simp [lv_args, z_ci, z_cj, z_cr, z_cx]]
  unfold D_X11_mostAlike at e
  refine z_iconst (v := 0) dX11_mostAlike_0 (by decide) ?_
  refine z_istore_n (L' := [(3, .int (0:Int32)), (0, z_r l0), (1, .int l1), (2, .int l2)]) dX11_mostAlike_1 rfl (by decide) rfl ?_
  refine z_iconst (v := 0) dX11_mostAlike_2 (by decide) ?_
  refine z_istore (L' := [(4, .int (0:Int32)), (3, .int (0:Int32)), (0, z_r l0), (1, .int l1), (2, .int l2)]) dX11_mostAlike_3 (by decide) rfl ?_
  exact z_weak [2, 3, 4, 1, 0] rfl (S_X11_mostAlike_5   z_F e)
theorem dX11_look_0 : decode cX11_look 0 = .ok (.aload_n 0, 1) := by decide +kernel
theorem dX11_look_1 : decode cX11_look 1 = .ok (.iconst 0, 1) := by decide +kernel
theorem dX11_look_2 : decode cX11_look 2 = .ok (.putfield 166, 3) := by decide +kernel
theorem dX11_look_5 : decode cX11_look 5 = .ok (.aload_n 0, 1) := by decide +kernel
theorem dX11_look_6 : decode cX11_look 6 = .ok (.invokevirtual 516, 3) := by decide +kernel
theorem dX11_look_9 : decode cX11_look 9 = .ok (.istore_n 2, 1) := by decide +kernel
theorem dX11_look_10 : decode cX11_look 10 = .ok (.iload_n 1, 1) := by decide +kernel
theorem dX11_look_11 : decode cX11_look 11 = .ok (.i2l, 1) := by decide +kernel
theorem dX11_look_12 : decode cX11_look 12 = .ok (.lconst 0, 1) := by decide +kernel
theorem dX11_look_13 : decode cX11_look 13 = .ok (.lconst 1, 1) := by decide +kernel
theorem dX11_look_14 : decode cX11_look 14 = .ok (.invokestatic 186, 3) := by decide +kernel
theorem dX11_look_17 : decode cX11_look 17 = .ok (.ifCond .eq 7, 3) := by decide +kernel
theorem dX11_look_20 : decode cX11_look 20 = .ok (.iload_n 2, 1) := by decide +kernel
theorem dX11_look_21 : decode cX11_look 21 = .ok (.ifCond .ne 5, 3) := by decide +kernel
theorem dX11_look_24 : decode cX11_look 24 = .ok (.iconst (-1), 1) := by decide +kernel
theorem dX11_look_25 : decode cX11_look 25 = .ok (.ireturn, 1) := by decide +kernel
theorem dX11_look_26 : decode cX11_look 26 = .ok (.ldc_w 489, 3) := by decide +kernel
theorem dX11_look_29 : decode cX11_look 29 = .ok (.istore_n 3, 1) := by decide +kernel
theorem dX11_look_30 : decode cX11_look 30 = .ok (.iconst (-1), 1) := by decide +kernel
theorem dX11_look_31 : decode cX11_look 31 = .ok (.istore 4, 2) := by decide +kernel
theorem dX11_look_33 : decode cX11_look 33 = .ok (.iconst 0, 1) := by decide +kernel
theorem dX11_look_34 : decode cX11_look 34 = .ok (.istore 5, 2) := by decide +kernel
theorem dX11_look_36 : decode cX11_look 36 = .ok (.iload 5, 2) := by decide +kernel
theorem dX11_look_38 : decode cX11_look 38 = .ok (.iconst 4, 1) := by decide +kernel
theorem dX11_look_39 : decode cX11_look 39 = .ok (.if_icmp .ge 46, 3) := by decide +kernel
theorem dX11_look_42 : decode cX11_look 42 = .ok (.aload_n 0, 1) := by decide +kernel
theorem dX11_look_43 : decode cX11_look 43 = .ok (.iload_n 2, 1) := by decide +kernel
theorem dX11_look_44 : decode cX11_look 44 = .ok (.iload 5, 2) := by decide +kernel
theorem dX11_look_46 : decode cX11_look 46 = .ok (.invokevirtual 519, 3) := by decide +kernel
theorem dX11_look_49 : decode cX11_look 49 = .ok (.istore 6, 2) := by decide +kernel
theorem dX11_look_51 : decode cX11_look 51 = .ok (.iload 6, 2) := by decide +kernel
theorem dX11_look_53 : decode cX11_look 53 = .ok (.iload_n 3, 1) := by decide +kernel
theorem dX11_look_54 : decode cX11_look 54 = .ok (.if_icmp .ge 8, 3) := by decide +kernel
theorem dX11_look_57 : decode cX11_look 57 = .ok (.iload 5, 2) := by decide +kernel
theorem dX11_look_59 : decode cX11_look 59 = .ok (.goto 5, 3) := by decide +kernel
theorem dX11_look_62 : decode cX11_look 62 = .ok (.iload 4, 2) := by decide +kernel
theorem dX11_look_64 : decode cX11_look 64 = .ok (.istore 4, 2) := by decide +kernel
theorem dX11_look_66 : decode cX11_look 66 = .ok (.iload 6, 2) := by decide +kernel
theorem dX11_look_68 : decode cX11_look 68 = .ok (.iload_n 3, 1) := by decide +kernel
theorem dX11_look_69 : decode cX11_look 69 = .ok (.if_icmp .ge 8, 3) := by decide +kernel
theorem dX11_look_72 : decode cX11_look 72 = .ok (.iload 6, 2) := by decide +kernel
theorem dX11_look_74 : decode cX11_look 74 = .ok (.goto 4, 3) := by decide +kernel
theorem dX11_look_77 : decode cX11_look 77 = .ok (.iload_n 3, 1) := by decide +kernel
theorem dX11_look_78 : decode cX11_look 78 = .ok (.istore_n 3, 1) := by decide +kernel
theorem dX11_look_79 : decode cX11_look 79 = .ok (.iinc 5 1, 3) := by decide +kernel
theorem dX11_look_82 : decode cX11_look 82 = .ok (.goto (-46), 3) := by decide +kernel
theorem dX11_look_85 : decode cX11_look 85 = .ok (.iload_n 1, 1) := by decide +kernel
theorem dX11_look_86 : decode cX11_look 86 = .ok (.ifCond .ne 8, 3) := by decide +kernel
theorem dX11_look_89 : decode cX11_look 89 = .ok (.iload 4, 2) := by decide +kernel
theorem dX11_look_91 : decode cX11_look 91 = .ok (.goto 4, 3) := by decide +kernel
theorem dX11_look_94 : decode cX11_look 94 = .ok (.iload_n 3, 1) := by decide +kernel
theorem dX11_look_95 : decode cX11_look 95 = .ok (.ireturn, 1) := by decide +kernel
def D_X11_look_78 (k36 : z_H → Option Nat → Int32 → Int32 → Int32 → Int32 → Int32 → Option (Int32 × z_H)) (h : z_H) (l0 : Option Nat) (l1 : Int32) (l2 : Int32) (l4 : Int32) (l5 : Int32) (s0 : Int32) : Option (Int32 × z_H) :=
  (some (l5 + (1:Int32))).bind fun x1370 =>
  k36 h l0 l1 l2 s0 l4 x1370
set_option maxRecDepth 100000 in
set_option maxHeartbeats 4000000 in
theorem S_X11_look_78 {G : z_G} {l : Launch} {k36 : z_H → Option Nat → Int32 → Int32 → Int32 → Int32 → Int32 → Option (Int32 × z_H)} (hk36 : ∀ {h : z_H} {l0 : Option Nat} {l1 : Int32} {l2 : Int32} {l3 : Int32} {l4 : Int32} {l5 : Int32} {res : (Int32 × z_H)}, k36 h l0 l1 l2 l3 l4 l5 = some res → z_Run G l 6 M_X11_look 36 [(0, z_r l0), (1, .int l1), (2, .int l2), (3, .int l3), (4, .int l4), (5, .int l5)] [] h res.2 (some (.int res.1))) {h : z_H} {l0 : Option Nat} {l1 : Int32} {l2 : Int32} {l4 : Int32} {l5 : Int32} {s0 : Int32} {res : (Int32 × z_H)} (e : D_X11_look_78 k36 h l0 l1 l2 l4 l5 s0 = some res) : z_Run G l 6 M_X11_look 78 [(0, z_r l0), (1, .int l1), (2, .int l2), (4, .int l4), (5, .int l5)] [.int s0] h res.2 (some (.int res.1)) := by
  unfold D_X11_look_78 at e
  refine z_istore_n (L' := [(3, .int s0), (0, z_r l0), (1, .int l1), (2, .int l2), (4, .int l4), (5, .int l5)]) dX11_look_78 rfl (by decide) rfl ?_
  replace e := z_bd e; obtain ⟨x1370, ex1370, e⟩ := e
  refine z_iinc (q := 5) (v := x1370) (L' := [(5, .int x1370), (3, .int s0), (0, z_r l0), (1, .int l1), (2, .int l2), (4, .int l4)]) dX11_look_79 rfl (Option.some.inj ex1370) (by decide) rfl ?_
  refine z_goto (tgt := 36) dX11_look_82 (by decide) ?_
  exact z_weak [2, 3, 4, 1, 5, 0] rfl (hk36 e)
def D_X11_look_64 (k36 : z_H → Option Nat → Int32 → Int32 → Int32 → Int32 → Int32 → Option (Int32 × z_H)) (h : z_H) (l0 : Option Nat) (l1 : Int32) (l2 : Int32) (l3 : Int32) (l5 : Int32) (l6 : Int32) (s0 : Int32) : Option (Int32 × z_H) :=
  if l3 ≤ l6 then
    D_X11_look_78  k36 h l0 l1 l2 s0 l5 l3
  else
    D_X11_look_78  k36 h l0 l1 l2 s0 l5 l6
set_option maxRecDepth 100000 in
set_option maxHeartbeats 4000000 in
theorem S_X11_look_64 {G : z_G} {l : Launch} {k36 : z_H → Option Nat → Int32 → Int32 → Int32 → Int32 → Int32 → Option (Int32 × z_H)} (hk36 : ∀ {h : z_H} {l0 : Option Nat} {l1 : Int32} {l2 : Int32} {l3 : Int32} {l4 : Int32} {l5 : Int32} {res : (Int32 × z_H)}, k36 h l0 l1 l2 l3 l4 l5 = some res → z_Run G l 6 M_X11_look 36 [(0, z_r l0), (1, .int l1), (2, .int l2), (3, .int l3), (4, .int l4), (5, .int l5)] [] h res.2 (some (.int res.1))) {h : z_H} {l0 : Option Nat} {l1 : Int32} {l2 : Int32} {l3 : Int32} {l5 : Int32} {l6 : Int32} {s0 : Int32} {res : (Int32 × z_H)} (e : D_X11_look_64 k36 h l0 l1 l2 l3 l5 l6 s0 = some res) : z_Run G l 6 M_X11_look 64 [(0, z_r l0), (1, .int l1), (2, .int l2), (3, .int l3), (5, .int l5), (6, .int l6)] [.int s0] h res.2 (some (.int res.1)) := by
  unfold D_X11_look_64 at e
  refine z_istore (L' := [(4, .int s0), (0, z_r l0), (1, .int l1), (2, .int l2), (3, .int l3), (5, .int l5), (6, .int l6)]) dX11_look_64 (by decide) rfl ?_
  refine z_iload 6 dX11_look_66 rfl ?_
  refine z_iload_n 4 dX11_look_68 rfl ?_
  refine z_icmp_ge (tgt := 77) dX11_look_69 (by decide) (fun c1371 => ?_) (fun c1371 => ?_)
  · rw [if_pos c1371] at e
    refine z_iload_n 4 dX11_look_77 rfl ?_
    exact z_weak [1, 2, 3, 0, 5] rfl (S_X11_look_78  @hk36 e)
  · rw [if_neg c1371] at e
    refine z_iload 6 dX11_look_72 rfl ?_
    refine z_goto (tgt := 78) dX11_look_74 (by decide) ?_
    exact z_weak [1, 2, 3, 0, 5] rfl (S_X11_look_78  @hk36 e)
def D_X11_look_36b (k36 : z_H → Option Nat → Int32 → Int32 → Int32 → Int32 → Int32 → Option (Int32 × z_H)) (h : z_H) (l0 : Option Nat) (l1 : Int32) (l2 : Int32) (l3 : Int32) (l4 : Int32) (l5 : Int32) : Option (Int32 × z_H) :=
  if (4:Int32) ≤ l5 then
    if l1 = 0 then
      some (l4, h)
    else
      some (l3, h)
  else
    (z_ob 11 h l0).bind fun _ =>
    (D_X11_mostAlike  h l0 l2 l5).bind fun p1374 =>
    if l3 ≤ p1374.1 then
      D_X11_look_64  k36 p1374.2 l0 l1 l2 l3 l5 p1374.1 l4
    else
      D_X11_look_64  k36 p1374.2 l0 l1 l2 l3 l5 p1374.1 l5
def D_X11_look_36 (n : Nat) : z_H → Option Nat → Int32 → Int32 → Int32 → Int32 → Int32 → Option (Int32 × z_H) := Nat.rec (motive := fun _ => z_H → Option Nat → Int32 → Int32 → Int32 → Int32 → Int32 → Option (Int32 × z_H)) (fun _ _ _ _ _ _ _ => none) (fun _ k => D_X11_look_36b  k) n
set_option maxRecDepth 100000 in
set_option maxHeartbeats 4000000 in
theorem S_X11_look_36 {G : z_G} {l : Launch}  (n : Nat) : ∀ {h : z_H} {l0 : Option Nat} {l1 : Int32} {l2 : Int32} {l3 : Int32} {l4 : Int32} {l5 : Int32} {res : (Int32 × z_H)}, D_X11_look_36  n h l0 l1 l2 l3 l4 l5 = some res → z_Run G l 6 M_X11_look 36 [(0, z_r l0), (1, .int l1), (2, .int l2), (3, .int l3), (4, .int l4), (5, .int l5)] [] h res.2 (some (.int res.1)) := by
  induction n with
  | zero => intro h l0 l1 l2 l3 l4 l5 res e; cases e
  | succ n hk36 =>
    intro h l0 l1 l2 l3 l4 l5 res e
    replace e : D_X11_look_36b  (D_X11_look_36  n) h l0 l1 l2 l3 l4 l5 = some res := e
    unfold D_X11_look_36b at e
    refine z_iload 5 dX11_look_36 rfl ?_
    refine z_iconst (v := 4) dX11_look_38 (by decide) ?_
    refine z_icmp_ge (tgt := 85) dX11_look_39 (by decide) (fun c1372 => ?_) (fun c1372 => ?_)
    · rw [if_pos c1372] at e
      refine z_iload_n 1 dX11_look_85 rfl ?_
      refine z_if_ne (tgt := 94) dX11_look_86 (by decide) (fun c1373 => ?_) (fun c1373 => ?_)
      · rw [if_neg c1373] at e
        refine z_iload_n 3 dX11_look_94 rfl ?_
        cases e
        exact z_iret dX11_look_95 rfl
      · rw [if_pos c1373] at e
        refine z_iload 4 dX11_look_89 rfl ?_
        refine z_goto (tgt := 95) dX11_look_91 (by decide) ?_
        cases e
        exact z_iret dX11_look_95 rfl
    · rw [if_neg c1372] at e
      refine z_aload_n 0 dX11_look_42 rfl ?_
      refine z_iload_n 2 dX11_look_43 rfl ?_
      refine z_iload 5 dX11_look_44 rfl ?_
      replace e := z_bd e; obtain ⟨o1375, eo1375, e⟩ := e
      replace e := z_bd e; obtain ⟨p1374, ep1374, e⟩ := e
      refine z_cV [.int l2, .int l5] (S_X11_mostAlike  ep1374) eo1375 rfl ml_X11_519 ck_X11_mostAlike vk_X11_mostAlike dX11_look_46 (by decide) rfl (Nat.zero_le _) rfl ?_
      refine z_istore (L' := [(6, .int p1374.1), (0, z_r l0), (1, .int l1), (2, .int l2), (3, .int l3), (4, .int l4), (5, .int l5)]) dX11_look_49 (by decide) rfl ?_
      refine z_iload 0 dX11_look_51 rfl ?_
      refine z_iload_n 4 dX11_look_53 rfl ?_
      refine z_icmp_ge (tgt := 62) dX11_look_54 (by decide) (fun c1376 => ?_) (fun c1376 => ?_)
      · rw [if_pos c1376] at e
        refine z_iload 5 dX11_look_62 rfl ?_
        exact z_weak [1, 2, 3, 4, 6, 0] rfl (S_X11_look_64  @hk36 e)
      · rw [if_neg c1376] at e
        refine z_iload 6 dX11_look_57 rfl ?_
        refine z_goto (tgt := 64) dX11_look_59 (by decide) ?_
        exact z_weak [1, 2, 3, 4, 6, 0] rfl (S_X11_look_64  @hk36 e)
def D_X11_look (h : z_H) (l0 : Option Nat) (l1 : Int32) : Option (Int32 × z_H) :=
  (z_pV 11 h l0 0 (.int (0:Int32))).bind fun h1377 =>
  (z_ob 11 h1377 l0).bind fun _ =>
  (D_X11_thatCanBe  h1377 l0).bind fun p1378 =>
  (D_X11_in  p1378.2 (Int32.toInt64 l1) (0:Int64) (1:Int64)).bind fun p1380 =>
  if p1380.1 = 0 then
    some ((-1:Int32), p1380.2)
  else
    if p1378.1 = 0 then
      some ((-1:Int32), p1380.2)
    else
      D_X11_look_36   z_F p1380.2 l0 l1 p1378.1 (100000000:Int32) (-1:Int32) (0:Int32)
set_option maxRecDepth 100000 in
set_option maxHeartbeats 4000000 in
theorem S_X11_look {G : z_G} {l : Launch} {h : z_H} {l0 : Option Nat} {l1 : Int32} {res : (Int32 × z_H)} (e : D_X11_look h l0 l1 = some res) : z_Meth G l 6 M_X11_look [z_r l0, .int l1] h res.2 (some (.int res.1)) := by
  refine z_Meth.of ck_X11_look.2.2.2.2 (by simp [lg_sl, z_ci, z_cj, z_cr, z_cx]) ck_X11_look.1 ?_
  rw [show lv_args 0 [z_r l0, .int l1] = [(0, z_r l0), (1, .int l1)] from by simp [lv_args, z_ci, z_cj, z_cr, z_cx]]
  unfold D_X11_look at e
  refine z_aload_n 0 dX11_look_0 rfl ?_
  refine z_iconst (v := 0) dX11_look_1 (by decide) ?_
  replace e := z_bd e; obtain ⟨h1377, eh1377, e⟩ := e
  refine z_putV eh1377 lk_X11_166 wk_11_0 (fun _ => rfl) (fun _ => rfl) dX11_look_2 ?_
  refine z_aload_n 0 dX11_look_5 rfl ?_
  replace e := z_bd e; obtain ⟨o1379, eo1379, e⟩ := e
  replace e := z_bd e; obtain ⟨p1378, ep1378, e⟩ := e
  refine z_cV [] (S_X11_thatCanBe  ep1378) eo1379 rfl ml_X11_516 ck_X11_thatCanBe vk_X11_thatCanBe dX11_look_6 (by decide) rfl (Nat.zero_le _) rfl ?_
  refine z_istore_n (L' := [(2, .int p1378.1), (0, z_r l0), (1, .int l1)]) dX11_look_9 rfl (by decide) rfl ?_
  refine z_iload_n 2 dX11_look_10 rfl ?_
  refine z_i2l dX11_look_11 ?_
  refine z_lconst (v := 0) dX11_look_12 (by decide) ?_
  refine z_lconst (v := 1) dX11_look_13 (by decide) ?_
  replace e := z_bd e; obtain ⟨p1380, ep1380, e⟩ := e
  refine z_cS [.long (Int32.toInt64 l1), .long (0:Int64), .long (1:Int64)] (S_X11_in  ep1380) ml_X11_186 ck_X11_in st_X11_in dX11_look_14 (by decide) rfl (Nat.zero_le _) rfl ?_
  refine z_if_eq (tgt := 24) dX11_look_17 (by decide) (fun c1381 => ?_) (fun c1381 => ?_)
  · rw [if_pos c1381] at e
    refine z_iconst (v := -1) dX11_look_24 (by decide) ?_
    cases e
    exact z_iret dX11_look_25 rfl
  · rw [if_neg c1381] at e
    refine z_iload_n 0 dX11_look_20 rfl ?_
    refine z_if_ne (tgt := 26) dX11_look_21 (by decide) (fun c1382 => ?_) (fun c1382 => ?_)
    · rw [if_neg c1382] at e
      refine z_ldcw dX11_look_26 kc_X11_489 ?_
      refine z_istore_n (L' := [(3, .int (100000000:Int32)), (2, .int p1378.1), (0, z_r l0), (1, .int l1)]) dX11_look_29 rfl (by decide) rfl ?_
      refine z_iconst (v := -1) dX11_look_30 (by decide) ?_
      refine z_istore (L' := [(4, .int (-1:Int32)), (3, .int (100000000:Int32)), (2, .int p1378.1), (0, z_r l0), (1, .int l1)]) dX11_look_31 (by decide) rfl ?_
      refine z_iconst (v := 0) dX11_look_33 (by decide) ?_
      refine z_istore (L' := [(5, .int (0:Int32)), (4, .int (-1:Int32)), (3, .int (100000000:Int32)), (2, .int p1378.1), (0, z_r l0), (1, .int l1)]) dX11_look_34 (by decide) rfl ?_
      exact z_weak [4, 5, 3, 2, 1, 0] rfl (S_X11_look_36   z_F e)
    · rw [if_pos c1382] at e
      refine z_iconst (v := -1) dX11_look_24 (by decide) ?_
      cases e
      exact z_iret dX11_look_25 rfl
theorem dX10_canBe_0 : decode cX10_canBe 0 = .ok (.aload_n 0, 1) := by decide +kernel
theorem dX10_canBe_1 : decode cX10_canBe 1 = .ok (.getfield 85, 3) := by decide +kernel
theorem dX10_canBe_4 : decode cX10_canBe 4 = .ok (.aload_n 0, 1) := by decide +kernel
theorem dX10_canBe_5 : decode cX10_canBe 5 = .ok (.getfield 12, 3) := by decide +kernel
theorem dX10_canBe_8 : decode cX10_canBe 8 = .ok (.invokevirtual 278, 3) := by decide +kernel
theorem dX10_canBe_11 : decode cX10_canBe 11 = .ok (.ireturn, 1) := by decide +kernel
def D_X10_canBe (h : z_H) (l0 : Option Nat) : Option (Int32 × z_H) :=
  (z_gQ 10 h l0 11).bind fun x1383 =>
  (z_gQ 10 h l0 0).bind fun x1384 =>
  (z_ob 3 h x1383).bind fun _ =>
  (D_X3_candidates  h x1383 x1384).bind fun p1385 =>
  some (p1385.1, p1385.2)
set_option maxRecDepth 100000 in
set_option maxHeartbeats 4000000 in
theorem S_X10_canBe {G : z_G} {l : Launch} {h : z_H} {l0 : Option Nat} {res : (Int32 × z_H)} (e : D_X10_canBe h l0 = some res) : z_Meth G l 6 M_X10_canBe [z_r l0] h res.2 (some (.int res.1)) := by
  refine z_Meth.of ck_X10_canBe.2.2.2.2 (by simp [lg_sl, z_ci, z_cj, z_cr, z_cx]) ck_X10_canBe.1 ?_
  rw [show lv_args 0 [z_r l0] = [(0, z_r l0)] from by simp [lv_args, z_ci, z_cj, z_cr, z_cx]]
  unfold D_X10_canBe at e
  refine z_aload_n 0 dX10_canBe_0 rfl ?_
  replace e := z_bd e; obtain ⟨x1383, ex1383, e⟩ := e
  refine z_getQ ex1383 lk_X10_85 dX10_canBe_1 ?_
  refine z_aload_n 0 dX10_canBe_4 rfl ?_
  replace e := z_bd e; obtain ⟨x1384, ex1384, e⟩ := e
  refine z_getQ ex1384 lk_X10_12 dX10_canBe_5 ?_
  replace e := z_bd e; obtain ⟨o1386, eo1386, e⟩ := e
  replace e := z_bd e; obtain ⟨p1385, ep1385, e⟩ := e
  refine z_cV [z_r x1384] (S_X3_candidates  ep1385) eo1386 rfl ml_X10_278 ck_X3_candidates vk_X3_candidates dX10_canBe_8 (by decide) rfl (Nat.zero_le _) rfl ?_
  cases e
  exact z_iret dX10_canBe_11 rfl
theorem dX11_canBe_0 : decode cX11_canBe 0 = .ok (.aload_n 0, 1) := by decide +kernel
theorem dX11_canBe_1 : decode cX11_canBe 1 = .ok (.iconst 0, 1) := by decide +kernel
theorem dX11_canBe_2 : decode cX11_canBe 2 = .ok (.putfield 166, 3) := by decide +kernel
theorem dX11_canBe_5 : decode cX11_canBe 5 = .ok (.aload_n 0, 1) := by decide +kernel
theorem dX11_canBe_6 : decode cX11_canBe 6 = .ok (.invokevirtual 516, 3) := by decide +kernel
theorem dX11_canBe_9 : decode cX11_canBe 9 = .ok (.ireturn, 1) := by decide +kernel
def D_X11_canBe (h : z_H) (l0 : Option Nat) : Option (Int32 × z_H) :=
  (z_pV 11 h l0 0 (.int (0:Int32))).bind fun h1387 =>
  (z_ob 11 h1387 l0).bind fun _ =>
  (D_X11_thatCanBe  h1387 l0).bind fun p1388 =>
  some (p1388.1, p1388.2)
set_option maxRecDepth 100000 in
set_option maxHeartbeats 4000000 in
theorem S_X11_canBe {G : z_G} {l : Launch} {h : z_H} {l0 : Option Nat} {res : (Int32 × z_H)} (e : D_X11_canBe h l0 = some res) : z_Meth G l 6 M_X11_canBe [z_r l0] h res.2 (some (.int res.1)) := by
  refine z_Meth.of ck_X11_canBe.2.2.2.2 (by simp [lg_sl, z_ci, z_cj, z_cr, z_cx]) ck_X11_canBe.1 ?_
  rw [show lv_args 0 [z_r l0] = [(0, z_r l0)] from by simp [lv_args, z_ci, z_cj, z_cr, z_cx]]
  unfold D_X11_canBe at e
  refine z_aload_n 0 dX11_canBe_0 rfl ?_
  refine z_iconst (v := 0) dX11_canBe_1 (by decide) ?_
  replace e := z_bd e; obtain ⟨h1387, eh1387, e⟩ := e
  refine z_putV eh1387 lk_X11_166 wk_11_0 (fun _ => rfl) (fun _ => rfl) dX11_canBe_2 ?_
  refine z_aload_n 0 dX11_canBe_5 rfl ?_
  replace e := z_bd e; obtain ⟨o1389, eo1389, e⟩ := e
  replace e := z_bd e; obtain ⟨p1388, ep1388, e⟩ := e
  refine z_cV [] (S_X11_thatCanBe  ep1388) eo1389 rfl ml_X11_516 ck_X11_thatCanBe vk_X11_thatCanBe dX11_canBe_6 (by decide) rfl (Nat.zero_le _) rfl ?_
  cases e
  exact z_iret dX11_canBe_9 rfl
theorem dX10_forget_0 : decode cX10_forget 0 = .ok (.aload_n 0, 1) := by decide +kernel
theorem dX10_forget_1 : decode cX10_forget 1 = .ok (.getfield 12, 3) := by decide +kernel
theorem dX10_forget_4 : decode cX10_forget 4 = .ok (.getfield 269, 3) := by decide +kernel
theorem dX10_forget_7 : decode cX10_forget 7 = .ok (.istore_n 1, 1) := by decide +kernel
theorem dX10_forget_8 : decode cX10_forget 8 = .ok (.aload_n 0, 1) := by decide +kernel
theorem dX10_forget_9 : decode cX10_forget 9 = .ok (.getfield 12, 3) := by decide +kernel
theorem dX10_forget_12 : decode cX10_forget 12 = .ok (.iconst 0, 1) := by decide +kernel
theorem dX10_forget_13 : decode cX10_forget 13 = .ok (.putfield 269, 3) := by decide +kernel
theorem dX10_forget_16 : decode cX10_forget 16 = .ok (.iload_n 1, 1) := by decide +kernel
theorem dX10_forget_17 : decode cX10_forget 17 = .ok (.ireturn, 1) := by decide +kernel
def D_X10_forget (h : z_H) (l0 : Option Nat) : Option (Int32 × z_H) :=
  (z_gQ 10 h l0 0).bind fun x1390 =>
  (z_gI 9 h x1390 10).bind fun x1391 =>
  (z_gQ 10 h l0 0).bind fun x1392 =>
  (z_pV 9 h x1392 10 (.int (0:Int32))).bind fun h1393 =>
  some (x1391, h1393)
set_option maxRecDepth 100000 in
set_option maxHeartbeats 4000000 in
theorem S_X10_forget {G : z_G} {l : Launch} {h : z_H} {l0 : Option Nat} {res : (Int32 × z_H)} (e : D_X10_forget h l0 = some res) : z_Meth G l 4 M_X10_forget [z_r l0] h res.2 (some (.int res.1)) := by
  refine z_Meth.of ck_X10_forget.2.2.2.2 (by simp [lg_sl, z_ci, z_cj, z_cr, z_cx]) ck_X10_forget.1 ?_
  rw [show lv_args 0 [z_r l0] = [(0, z_r l0)] from by simp [lv_args, z_ci, z_cj, z_cr, z_cx]]
  unfold D_X10_forget at e
  refine z_aload_n 0 dX10_forget_0 rfl ?_
  replace e := z_bd e; obtain ⟨x1390, ex1390, e⟩ := e
  refine z_getQ ex1390 lk_X10_12 dX10_forget_1 ?_
  replace e := z_bd e; obtain ⟨x1391, ex1391, e⟩ := e
  refine z_getI ex1391 lk_X10_269 dX10_forget_4 ?_
  refine z_istore_n (L' := [(1, .int x1391), (0, z_r l0)]) dX10_forget_7 rfl (by decide) (by simp [z_cr]) ?_
  refine z_aload_n 1 dX10_forget_8 rfl ?_
  replace e := z_bd e; obtain ⟨x1392, ex1392, e⟩ := e
  refine z_getQ ex1392 lk_X10_12 dX10_forget_9 ?_
  refine z_iconst (v := 0) dX10_forget_12 (by decide) ?_
  replace e := z_bd e; obtain ⟨h1393, eh1393, e⟩ := e
  refine z_putV eh1393 lk_X10_269 wk_9_10 (fun _ => rfl) (fun _ => rfl) dX10_forget_13 ?_
  refine z_iload_n 0 dX10_forget_16 rfl ?_
  cases e
  exact z_iret dX10_forget_17 rfl
theorem dX11_forget_0 : decode cX11_forget 0 = .ok (.aload_n 0, 1) := by decide +kernel
theorem dX11_forget_1 : decode cX11_forget 1 = .ok (.iconst 0, 1) := by decide +kernel
theorem dX11_forget_2 : decode cX11_forget 2 = .ok (.putfield 166, 3) := by decide +kernel
theorem dX11_forget_5 : decode cX11_forget 5 = .ok (.aload_n 0, 1) := by decide +kernel
theorem dX11_forget_6 : decode cX11_forget 6 = .ok (.getfield 13, 3) := by decide +kernel
theorem dX11_forget_9 : decode cX11_forget 9 = .ok (.iconst 1, 1) := by decide +kernel
theorem dX11_forget_10 : decode cX11_forget 10 = .ok (.iaload, 1) := by decide +kernel
theorem dX11_forget_11 : decode cX11_forget 11 = .ok (.istore_n 1, 1) := by decide +kernel
theorem dX11_forget_12 : decode cX11_forget 12 = .ok (.aload_n 0, 1) := by decide +kernel
theorem dX11_forget_13 : decode cX11_forget 13 = .ok (.getfield 13, 3) := by decide +kernel
theorem dX11_forget_16 : decode cX11_forget 16 = .ok (.iconst 1, 1) := by decide +kernel
theorem dX11_forget_17 : decode cX11_forget 17 = .ok (.iconst 0, 1) := by decide +kernel
theorem dX11_forget_18 : decode cX11_forget 18 = .ok (.iastore, 1) := by decide +kernel
theorem dX11_forget_19 : decode cX11_forget 19 = .ok (.iload_n 1, 1) := by decide +kernel
theorem dX11_forget_20 : decode cX11_forget 20 = .ok (.ireturn, 1) := by decide +kernel
def D_X11_forget (h : z_H) (l0 : Option Nat) : Option (Int32 × z_H) :=
  (z_pV 11 h l0 0 (.int (0:Int32))).bind fun h1394 =>
  (z_gQ 11 h1394 l0 3).bind fun x1395 =>
  (z_aI .int h1394 x1395 (1:Int32)).bind fun x1396 =>
  (z_gQ 11 h1394 l0 3).bind fun x1397 =>
  (z_sI h1394 x1397 (1:Int32) (0:Int32)).bind fun h1398 =>
  some (x1396, h1398)
set_option maxRecDepth 100000 in
set_option maxHeartbeats 4000000 in
theorem S_X11_forget {G : z_G} {l : Launch} {h : z_H} {l0 : Option Nat} {res : (Int32 × z_H)} (e : D_X11_forget h l0 = some res) : z_Meth G l 4 M_X11_forget [z_r l0] h res.2 (some (.int res.1)) := by
  refine z_Meth.of ck_X11_forget.2.2.2.2 (by simp [lg_sl, z_ci, z_cj, z_cr, z_cx]) ck_X11_forget.1 ?_
  rw [show lv_args 0 [z_r l0] = [(0, z_r l0)] from by simp [lv_args, z_ci, z_cj, z_cr, z_cx]]
  unfold D_X11_forget at e
  refine z_aload_n 0 dX11_forget_0 rfl ?_
  refine z_iconst (v := 0) dX11_forget_1 (by decide) ?_
  replace e := z_bd e; obtain ⟨h1394, eh1394, e⟩ := e
  refine z_putV eh1394 lk_X11_166 wk_11_0 (fun _ => rfl) (fun _ => rfl) dX11_forget_2 ?_
  refine z_aload_n 0 dX11_forget_5 rfl ?_
  replace e := z_bd e; obtain ⟨x1395, ex1395, e⟩ := e
  refine z_getQ ex1395 lk_X11_13 dX11_forget_6 ?_
  refine z_iconst (v := 1) dX11_forget_9 (by decide) ?_
  replace e := z_bd e; obtain ⟨x1396, ex1396, e⟩ := e
  refine z_iald ex1396 dX11_forget_10 ?_
  refine z_istore_n (L' := [(1, .int x1396), (0, z_r l0)]) dX11_forget_11 rfl (by decide) (by simp [z_cr]) ?_
  refine z_aload_n 1 dX11_forget_12 rfl ?_
  replace e := z_bd e; obtain ⟨x1397, ex1397, e⟩ := e
  refine z_getQ ex1397 lk_X11_13 dX11_forget_13 ?_
  refine z_iconst (v := 1) dX11_forget_16 (by decide) ?_
  refine z_iconst (v := 0) dX11_forget_17 (by decide) ?_
  replace e := z_bd e; obtain ⟨h1398, eh1398, e⟩ := e
  refine z_iast eh1398 dX11_forget_18 ?_
  refine z_iload_n 0 dX11_forget_19 rfl ?_
  cases e
  exact z_iret dX11_forget_20 rfl
theorem dX10_seen_0 : decode cX10_seen 0 = .ok (.iload_n 1, 1) := by decide +kernel
theorem dX10_seen_1 : decode cX10_seen 1 = .ok (.invokestatic 151, 3) := by decide +kernel
theorem dX10_seen_4 : decode cX10_seen 4 = .ok (.ifCond .eq 13, 3) := by decide +kernel
theorem dX10_seen_7 : decode cX10_seen 7 = .ok (.iload_n 2, 1) := by decide +kernel
theorem dX10_seen_8 : decode cX10_seen 8 = .ok (.ifCond .lt 9, 3) := by decide +kernel
theorem dX10_seen_11 : decode cX10_seen 11 = .ok (.iload_n 2, 1) := by decide +kernel
theorem dX10_seen_12 : decode cX10_seen 12 = .ok (.bipush 99, 2) := by decide +kernel
theorem dX10_seen_14 : decode cX10_seen 14 = .ok (.if_icmp .le 9, 3) := by decide +kernel
theorem dX10_seen_17 : decode cX10_seen 17 = .ok (.aload_n 0, 1) := by decide +kernel
theorem dX10_seen_18 : decode cX10_seen 18 = .ok (.iconst (-1), 1) := by decide +kernel
theorem dX10_seen_19 : decode cX10_seen 19 = .ok (.invokevirtual 104, 3) := by decide +kernel
theorem dX10_seen_22 : decode cX10_seen 22 = .ok (.ireturn, 1) := by decide +kernel
theorem dX10_seen_23 : decode cX10_seen 23 = .ok (.aload_n 0, 1) := by decide +kernel
theorem dX10_seen_24 : decode cX10_seen 24 = .ok (.getfield 12, 3) := by decide +kernel
theorem dX10_seen_27 : decode cX10_seen 27 = .ok (.getfield 269, 3) := by decide +kernel
theorem dX10_seen_30 : decode cX10_seen 30 = .ok (.bipush 6, 2) := by decide +kernel
theorem dX10_seen_32 : decode cX10_seen 32 = .ok (.if_icmp .lt 10, 3) := by decide +kernel
theorem dX10_seen_35 : decode cX10_seen 35 = .ok (.aload_n 0, 1) := by decide +kernel
theorem dX10_seen_36 : decode cX10_seen 36 = .ok (.bipush (-5), 2) := by decide +kernel
theorem dX10_seen_38 : decode cX10_seen 38 = .ok (.invokevirtual 104, 3) := by decide +kernel
theorem dX10_seen_41 : decode cX10_seen 41 = .ok (.ireturn, 1) := by decide +kernel
theorem dX10_seen_42 : decode cX10_seen 42 = .ok (.aload_n 0, 1) := by decide +kernel
theorem dX10_seen_43 : decode cX10_seen 43 = .ok (.getfield 12, 3) := by decide +kernel
theorem dX10_seen_46 : decode cX10_seen 46 = .ok (.getfield 272, 3) := by decide +kernel
theorem dX10_seen_49 : decode cX10_seen 49 = .ok (.aload_n 0, 1) := by decide +kernel
theorem dX10_seen_50 : decode cX10_seen 50 = .ok (.getfield 12, 3) := by decide +kernel
theorem dX10_seen_53 : decode cX10_seen 53 = .ok (.getfield 269, 3) := by decide +kernel
theorem dX10_seen_56 : decode cX10_seen 56 = .ok (.iload_n 1, 1) := by decide +kernel
theorem dX10_seen_57 : decode cX10_seen 57 = .ok (.iastore, 1) := by decide +kernel
theorem dX10_seen_58 : decode cX10_seen 58 = .ok (.aload_n 0, 1) := by decide +kernel
theorem dX10_seen_59 : decode cX10_seen 59 = .ok (.getfield 12, 3) := by decide +kernel
theorem dX10_seen_62 : decode cX10_seen 62 = .ok (.getfield 275, 3) := by decide +kernel
theorem dX10_seen_65 : decode cX10_seen 65 = .ok (.aload_n 0, 1) := by decide +kernel
theorem dX10_seen_66 : decode cX10_seen 66 = .ok (.getfield 12, 3) := by decide +kernel
theorem dX10_seen_69 : decode cX10_seen 69 = .ok (.getfield 269, 3) := by decide +kernel
theorem dX10_seen_72 : decode cX10_seen 72 = .ok (.iload_n 2, 1) := by decide +kernel
theorem dX10_seen_73 : decode cX10_seen 73 = .ok (.iastore, 1) := by decide +kernel
theorem dX10_seen_74 : decode cX10_seen 74 = .ok (.aload_n 0, 1) := by decide +kernel
theorem dX10_seen_75 : decode cX10_seen 75 = .ok (.getfield 12, 3) := by decide +kernel
theorem dX10_seen_78 : decode cX10_seen 78 = .ok (.dup, 1) := by decide +kernel
theorem dX10_seen_79 : decode cX10_seen 79 = .ok (.getfield 269, 3) := by decide +kernel
theorem dX10_seen_82 : decode cX10_seen 82 = .ok (.iconst 1, 1) := by decide +kernel
theorem dX10_seen_83 : decode cX10_seen 83 = .ok (.iadd, 1) := by decide +kernel
theorem dX10_seen_84 : decode cX10_seen 84 = .ok (.putfield 269, 3) := by decide +kernel
theorem dX10_seen_87 : decode cX10_seen 87 = .ok (.aload_n 0, 1) := by decide +kernel
theorem dX10_seen_88 : decode cX10_seen 88 = .ok (.aload_n 0, 1) := by decide +kernel
theorem dX10_seen_89 : decode cX10_seen 89 = .ok (.getfield 12, 3) := by decide +kernel
theorem dX10_seen_92 : decode cX10_seen 92 = .ok (.getfield 269, 3) := by decide +kernel
theorem dX10_seen_95 : decode cX10_seen 95 = .ok (.invokevirtual 118, 3) := by decide +kernel
theorem dX10_seen_98 : decode cX10_seen 98 = .ok (.ireturn, 1) := by decide +kernel
def D_X10_seen_17 (h : z_H) (l0 : Option Nat) : Option (Int32 × z_H) :=
  (z_ob 10 h l0).bind fun _ =>
  (D_X10_refuse  h l0 (-1:Int32)).bind fun p1399 =>
  some (p1399.1, p1399.2)
set_option maxRecDepth 100000 in
set_option maxHeartbeats 4000000 in
theorem S_X10_seen_17 {G : z_G} {l : Launch}  {h : z_H} {l0 : Option Nat} {res : (Int32 × z_H)} (e : D_X10_seen_17  h l0 = some res) : z_Run G l 5 M_X10_seen 17 [(0, z_r l0)] [] h res.2 (some (.int res.1)) := by
  unfold D_X10_seen_17 at e
  refine z_aload_n 0 dX10_seen_17 rfl ?_
  refine z_iconst (v := -1) dX10_seen_18 (by decide) ?_
  replace e := z_bd e; obtain ⟨o1400, eo1400, e⟩ := e
  replace e := z_bd e; obtain ⟨p1399, ep1399, e⟩ := e
  refine z_cV [.int (-1:Int32)] (S_X10_refuse  ep1399) eo1400 rfl ml_X10_104 ck_X10_refuse vk_X10_refuse dX10_seen_19 (by decide) rfl (Nat.zero_le _) rfl ?_
  cases e
  exact z_iret dX10_seen_22 rfl
def D_X10_seen (h : z_H) (l0 : Option Nat) (l1 : Int32) (l2 : Int32) : Option (Int32 × z_H) :=
  (D_X10_isPart  h l1).bind fun p1401 =>
  if p1401.1 = 0 then
    D_X10_seen_17   p1401.2 l0
  else
    if l2 < 0 then
      D_X10_seen_17   p1401.2 l0
    else
      if l2 ≤ (99:Int32) then
        (z_gQ 10 p1401.2 l0 0).bind fun x1405 =>
        (z_gI 9 p1401.2 x1405 10).bind fun x1406 =>
        if x1406 < (6:Int32) then
          (z_gQ 10 p1401.2 l0 0).bind fun x1408 =>
          (z_gQ 9 p1401.2 x1408 5).bind fun x1409 =>
          (z_gQ 10 p1401.2 l0 0).bind fun x1410 =>
          (z_gI 9 p1401.2 x1410 10).bind fun x1411 =>
          (z_sI p1401.2 x1409 x1411 l1).bind fun h1412 =>
          (z_gQ 10 h1412 l0 0).bind fun x1413 =>
          (z_gQ 9 h1412 x1413 6).bind fun x1414 =>
          (z_gQ 10 h1412 l0 0).bind fun x1415 =>
          (z_gI 9 h1412 x1415 10).bind fun x1416 =>
          (z_sI h1412 x1414 x1416 l2).bind fun h1417 =>
          (z_gQ 10 h1417 l0 0).bind fun x1418 =>
          (z_gI 9 h1417 x1418 10).bind fun x1419 =>
          (z_pV 9 h1417 x1418 10 (.int (x1419 + (1:Int32)))).bind fun h1420 =>
          (z_gQ 10 h1420 l0 0).bind fun x1421 =>
          (z_gI 9 h1420 x1421 10).bind fun x1422 =>
          (z_ob 10 h1420 l0).bind fun _ =>
          (D_X10_grant  h1420 l0 x1422).bind fun p1423 =>
          some (p1423.1, p1423.2)
        else
          (z_ob 10 p1401.2 l0).bind fun _ =>
          (D_X10_refuse  p1401.2 l0 (-5:Int32)).bind fun p1425 =>
          some (p1425.1, p1425.2)
      else
        D_X10_seen_17   p1401.2 l0
set_option maxRecDepth 100000 in
set_option maxHeartbeats 4000000 in
theorem S_X10_seen {G : z_G} {l : Launch} {h : z_H} {l0 : Option Nat} {l1 : Int32} {l2 : Int32} {res : (Int32 × z_H)} (e : D_X10_seen h l0 l1 l2 = some res) : z_Meth G l 5 M_X10_seen [z_r l0, .int l1, .int l2] h res.2 (some (.int res.1)) := by
  refine z_Meth.of ck_X10_seen.2.2.2.2 (by simp [lg_sl, z_ci, z_cj, z_cr, z_cx]) ck_X10_seen.1 ?_
  rw [show lv_args 0 [z_r l0, .int l1, .int l2] = [(0, z_r l0), (1, .int l1), (2, .int l2)] from by simp [lv_args, z_ci, z_cj, z_cr, z_cx]]
  unfold D_X10_seen at e
  refine z_iload_n 1 dX10_seen_0 rfl ?_
  replace e := z_bd e; obtain ⟨p1401, ep1401, e⟩ := e
  refine z_cS [.int l1] (S_X10_isPart  ep1401) ml_X10_151 ck_X10_isPart st_X10_isPart dX10_seen_1 (by decide) rfl (Nat.zero_le _) rfl ?_
  refine z_if_eq (tgt := 17) dX10_seen_4 (by decide) (fun c1402 => ?_) (fun c1402 => ?_)
  · rw [if_pos c1402] at e
    exact z_weak [0] rfl (S_X10_seen_17   e)
  · rw [if_neg c1402] at e
    refine z_iload_n 2 dX10_seen_7 rfl ?_
    refine z_if_lt (tgt := 17) dX10_seen_8 (by decide) (fun c1403 => ?_) (fun c1403 => ?_)
    · rw [if_pos c1403] at e
      exact z_weak [0] rfl (S_X10_seen_17   e)
    · rw [if_neg c1403] at e
      refine z_iload_n 2 dX10_seen_11 rfl ?_
      refine z_bipush (v := 99) dX10_seen_12 (by decide) ?_
      refine z_icmp_le (tgt := 23) dX10_seen_14 (by decide) (fun c1404 => ?_) (fun c1404 => ?_)
      · rw [if_pos c1404] at e
        refine z_aload_n 0 dX10_seen_23 rfl ?_
        replace e := z_bd e; obtain ⟨x1405, ex1405, e⟩ := e
        refine z_getQ ex1405 lk_X10_12 dX10_seen_24 ?_
        replace e := z_bd e; obtain ⟨x1406, ex1406, e⟩ := e
        refine z_getI ex1406 lk_X10_269 dX10_seen_27 ?_
        refine z_bipush (v := 6) dX10_seen_30 (by decide) ?_
        refine z_icmp_lt (tgt := 42) dX10_seen_32 (by decide) (fun c1407 => ?_) (fun c1407 => ?_)
        · rw [if_pos c1407] at e
          refine z_aload_n 0 dX10_seen_42 rfl ?_
          replace e := z_bd e; obtain ⟨x1408, ex1408, e⟩ := e
          refine z_getQ ex1408 lk_X10_12 dX10_seen_43 ?_
          replace e := z_bd e; obtain ⟨x1409, ex1409, e⟩ := e
          refine z_getQ ex1409 lk_X10_272 dX10_seen_46 ?_
          refine z_aload_n 0 dX10_seen_49 rfl ?_
          replace e := z_bd e; obtain ⟨x1410, ex1410, e⟩ := e
          refine z_getQ ex1410 lk_X10_12 dX10_seen_50 ?_
          replace e := z_bd e; obtain ⟨x1411, ex1411, e⟩ := e
          refine z_getI ex1411 lk_X10_269 dX10_seen_53 ?_
          refine z_iload_n 1 dX10_seen_56 rfl ?_
          replace e := z_bd e; obtain ⟨h1412, eh1412, e⟩ := e
          refine z_iast eh1412 dX10_seen_57 ?_
          refine z_aload_n 0 dX10_seen_58 rfl ?_
          replace e := z_bd e; obtain ⟨x1413, ex1413, e⟩ := e
          refine z_getQ ex1413 lk_X10_12 dX10_seen_59 ?_
          replace e := z_bd e; obtain ⟨x1414, ex1414, e⟩ := e
          refine z_getQ ex1414 lk_X10_275 dX10_seen_62 ?_
          refine z_aload_n 0 dX10_seen_65 rfl ?_
          replace e := z_bd e; obtain ⟨x1415, ex1415, e⟩ := e
          refine z_getQ ex1415 lk_X10_12 dX10_seen_66 ?_
          replace e := z_bd e; obtain ⟨x1416, ex1416, e⟩ := e
          refine z_getI ex1416 lk_X10_269 dX10_seen_69 ?_
          refine z_iload_n 2 dX10_seen_72 rfl ?_
          replace e := z_bd e; obtain ⟨h1417, eh1417, e⟩ := e
          refine z_iast eh1417 dX10_seen_73 ?_
          refine z_aload_n 0 dX10_seen_74 rfl ?_
          replace e := z_bd e; obtain ⟨x1418, ex1418, e⟩ := e
          refine z_getQ ex1418 lk_X10_12 dX10_seen_75 ?_
          refine z_dup dX10_seen_78 (z_cr _) ?_
          replace e := z_bd e; obtain ⟨x1419, ex1419, e⟩ := e
          refine z_getI ex1419 lk_X10_269 dX10_seen_79 ?_
          refine z_iconst (v := 1) dX10_seen_82 (by decide) ?_
          refine z_iadd dX10_seen_83 ?_
          replace e := z_bd e; obtain ⟨h1420, eh1420, e⟩ := e
          refine z_putV eh1420 lk_X10_269 wk_9_10 (fun _ => rfl) (fun _ => rfl) dX10_seen_84 ?_
          refine z_aload_n 0 dX10_seen_87 rfl ?_
          refine z_aload_n 0 dX10_seen_88 rfl ?_
          replace e := z_bd e; obtain ⟨x1421, ex1421, e⟩ := e
          refine z_getQ ex1421 lk_X10_12 dX10_seen_89 ?_
          replace e := z_bd e; obtain ⟨x1422, ex1422, e⟩ := e
          refine z_getI ex1422 lk_X10_269 dX10_seen_92 ?_
          replace e := z_bd e; obtain ⟨o1424, eo1424, e⟩ := e
          replace e := z_bd e; obtain ⟨p1423, ep1423, e⟩ := e
          refine z_cV [.int x1422] (S_X10_grant  ep1423) eo1424 rfl ml_X10_118 ck_X10_grant vk_X10_grant dX10_seen_95 (by decide) rfl (Nat.zero_le _) rfl ?_
          cases e
          exact z_iret dX10_seen_98 rfl
        · rw [if_neg c1407] at e
          refine z_aload_n 0 dX10_seen_35 rfl ?_
          refine z_bipush (v := -5) dX10_seen_36 (by decide) ?_
          replace e := z_bd e; obtain ⟨o1426, eo1426, e⟩ := e
          replace e := z_bd e; obtain ⟨p1425, ep1425, e⟩ := e
          refine z_cV [.int (-5:Int32)] (S_X10_refuse  ep1425) eo1426 rfl ml_X10_104 ck_X10_refuse vk_X10_refuse dX10_seen_38 (by decide) rfl (Nat.zero_le _) rfl ?_
          cases e
          exact z_iret dX10_seen_41 rfl
      · rw [if_neg c1404] at e
        exact z_weak [0] rfl (S_X10_seen_17   e)
