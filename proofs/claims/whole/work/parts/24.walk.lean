theorem dX11_tells_0 : decode cX11_tells 0 = .ok (.aload_n 0, 1) := by decide +kernel
theorem dX11_tells_1 : decode cX11_tells 1 = .ok (.getfield 13, 3) := by decide +kernel
theorem dX11_tells_4 : decode cX11_tells 4 = .ok (.iconst 3, 1) := by decide +kernel
theorem dX11_tells_5 : decode cX11_tells 5 = .ok (.iaload, 1) := by decide +kernel
theorem dX11_tells_6 : decode cX11_tells 6 = .ok (.iconst (-1), 1) := by decide +kernel
theorem dX11_tells_7 : decode cX11_tells 7 = .ok (.if_icmp .ne 6, 3) := by decide +kernel
theorem dX11_tells_10 : decode cX11_tells 10 = .ok (.lload 6, 2) := by decide +kernel
theorem dX11_tells_12 : decode cX11_tells 12 = .ok (.lreturn, 1) := by decide +kernel
theorem dX11_tells_13 : decode cX11_tells 13 = .ok (.aload_n 0, 1) := by decide +kernel
theorem dX11_tells_14 : decode cX11_tells 14 = .ok (.bipush 62, 2) := by decide +kernel
theorem dX11_tells_16 : decode cX11_tells 16 = .ok (.sipush 900, 3) := by decide +kernel
theorem dX11_tells_19 : decode cX11_tells 19 = .ok (.aload_n 0, 1) := by decide +kernel
theorem dX11_tells_20 : decode cX11_tells 20 = .ok (.getfield 13, 3) := by decide +kernel
theorem dX11_tells_23 : decode cX11_tells 23 = .ok (.iconst 3, 1) := by decide +kernel
theorem dX11_tells_24 : decode cX11_tells 24 = .ok (.iaload, 1) := by decide +kernel
theorem dX11_tells_25 : decode cX11_tells 25 = .ok (.imul, 1) := by decide +kernel
theorem dX11_tells_26 : decode cX11_tells 26 = .ok (.iadd, 1) := by decide +kernel
theorem dX11_tells_27 : decode cX11_tells 27 = .ok (.putfield 401, 3) := by decide +kernel
theorem dX11_tells_30 : decode cX11_tells 30 = .ok (.aload_n 0, 1) := by decide +kernel
theorem dX11_tells_31 : decode cX11_tells 31 = .ok (.getfield 105, 3) := by decide +kernel
theorem dX11_tells_34 : decode cX11_tells 34 = .ok (.iconst 1, 1) := by decide +kernel
theorem dX11_tells_35 : decode cX11_tells 35 = .ok (.iload_n 2, 1) := by decide +kernel
theorem dX11_tells_36 : decode cX11_tells 36 = .ok (.i2l, 1) := by decide +kernel
theorem dX11_tells_37 : decode cX11_tells 37 = .ok (.lastore, 1) := by decide +kernel
theorem dX11_tells_38 : decode cX11_tells 38 = .ok (.aload_n 0, 1) := by decide +kernel
theorem dX11_tells_39 : decode cX11_tells 39 = .ok (.getfield 105, 3) := by decide +kernel
theorem dX11_tells_42 : decode cX11_tells 42 = .ok (.iconst 2, 1) := by decide +kernel
theorem dX11_tells_43 : decode cX11_tells 43 = .ok (.aload_n 0, 1) := by decide +kernel
theorem dX11_tells_44 : decode cX11_tells 44 = .ok (.getfield 13, 3) := by decide +kernel
theorem dX11_tells_47 : decode cX11_tells 47 = .ok (.bipush 44, 2) := by decide +kernel
theorem dX11_tells_49 : decode cX11_tells 49 = .ok (.iload_n 2, 1) := by decide +kernel
theorem dX11_tells_50 : decode cX11_tells 50 = .ok (.iadd, 1) := by decide +kernel
theorem dX11_tells_51 : decode cX11_tells 51 = .ok (.iaload, 1) := by decide +kernel
theorem dX11_tells_52 : decode cX11_tells 52 = .ok (.i2l, 1) := by decide +kernel
theorem dX11_tells_53 : decode cX11_tells 53 = .ok (.lastore, 1) := by decide +kernel
theorem dX11_tells_54 : decode cX11_tells 54 = .ok (.aload_n 0, 1) := by decide +kernel
theorem dX11_tells_55 : decode cX11_tells 55 = .ok (.getfield 105, 3) := by decide +kernel
theorem dX11_tells_58 : decode cX11_tells 58 = .ok (.iconst 3, 1) := by decide +kernel
theorem dX11_tells_59 : decode cX11_tells 59 = .ok (.iload_n 3, 1) := by decide +kernel
theorem dX11_tells_60 : decode cX11_tells 60 = .ok (.i2l, 1) := by decide +kernel
theorem dX11_tells_61 : decode cX11_tells 61 = .ok (.lastore, 1) := by decide +kernel
theorem dX11_tells_62 : decode cX11_tells 62 = .ok (.aload_n 0, 1) := by decide +kernel
theorem dX11_tells_63 : decode cX11_tells 63 = .ok (.getfield 105, 3) := by decide +kernel
theorem dX11_tells_66 : decode cX11_tells 66 = .ok (.iconst 4, 1) := by decide +kernel
theorem dX11_tells_67 : decode cX11_tells 67 = .ok (.iload_n 3, 1) := by decide +kernel
theorem dX11_tells_68 : decode cX11_tells 68 = .ok (.iconst (-1), 1) := by decide +kernel
theorem dX11_tells_69 : decode cX11_tells 69 = .ok (.if_icmp .ne 9, 3) := by decide +kernel
theorem dX11_tells_72 : decode cX11_tells 72 = .ok (.ldc2_w 278, 3) := by decide +kernel
theorem dX11_tells_75 : decode cX11_tells 75 = .ok (.goto 10, 3) := by decide +kernel
theorem dX11_tells_78 : decode cX11_tells 78 = .ok (.aload_n 0, 1) := by decide +kernel
theorem dX11_tells_79 : decode cX11_tells 79 = .ok (.iload_n 2, 1) := by decide +kernel
theorem dX11_tells_80 : decode cX11_tells 80 = .ok (.iload_n 3, 1) := by decide +kernel
theorem dX11_tells_81 : decode cX11_tells 81 = .ok (.invokevirtual 219, 3) := by decide +kernel
theorem dX11_tells_84 : decode cX11_tells 84 = .ok (.i2l, 1) := by decide +kernel
theorem dX11_tells_85 : decode cX11_tells 85 = .ok (.lastore, 1) := by decide +kernel
theorem dX11_tells_86 : decode cX11_tells 86 = .ok (.aload_n 0, 1) := by decide +kernel
theorem dX11_tells_87 : decode cX11_tells 87 = .ok (.getfield 105, 3) := by decide +kernel
theorem dX11_tells_90 : decode cX11_tells 90 = .ok (.iconst 5, 1) := by decide +kernel
theorem dX11_tells_91 : decode cX11_tells 91 = .ok (.iload 4, 2) := by decide +kernel
theorem dX11_tells_93 : decode cX11_tells 93 = .ok (.iconst 5, 1) := by decide +kernel
theorem dX11_tells_94 : decode cX11_tells 94 = .ok (.irem, 1) := by decide +kernel
theorem dX11_tells_95 : decode cX11_tells 95 = .ok (.i2l, 1) := by decide +kernel
theorem dX11_tells_96 : decode cX11_tells 96 = .ok (.lastore, 1) := by decide +kernel
theorem dX11_tells_97 : decode cX11_tells 97 = .ok (.aload_n 0, 1) := by decide +kernel
theorem dX11_tells_98 : decode cX11_tells 98 = .ok (.getfield 105, 3) := by decide +kernel
theorem dX11_tells_101 : decode cX11_tells 101 = .ok (.bipush 6, 2) := by decide +kernel
theorem dX11_tells_103 : decode cX11_tells 103 = .ok (.iload 4, 2) := by decide +kernel
theorem dX11_tells_105 : decode cX11_tells 105 = .ok (.iconst 5, 1) := by decide +kernel
theorem dX11_tells_106 : decode cX11_tells 106 = .ok (.idiv, 1) := by decide +kernel
theorem dX11_tells_107 : decode cX11_tells 107 = .ok (.i2l, 1) := by decide +kernel
theorem dX11_tells_108 : decode cX11_tells 108 = .ok (.lastore, 1) := by decide +kernel
theorem dX11_tells_109 : decode cX11_tells 109 = .ok (.aload_n 0, 1) := by decide +kernel
theorem dX11_tells_110 : decode cX11_tells 110 = .ok (.getfield 105, 3) := by decide +kernel
theorem dX11_tells_113 : decode cX11_tells 113 = .ok (.bipush 7, 2) := by decide +kernel
theorem dX11_tells_115 : decode cX11_tells 115 = .ok (.iload 5, 2) := by decide +kernel
theorem dX11_tells_117 : decode cX11_tells 117 = .ok (.i2l, 1) := by decide +kernel
theorem dX11_tells_118 : decode cX11_tells 118 = .ok (.lastore, 1) := by decide +kernel
theorem dX11_tells_119 : decode cX11_tells 119 = .ok (.aload_n 0, 1) := by decide +kernel
theorem dX11_tells_120 : decode cX11_tells 120 = .ok (.getfield 105, 3) := by decide +kernel
theorem dX11_tells_123 : decode cX11_tells 123 = .ok (.bipush 8, 2) := by decide +kernel
theorem dX11_tells_125 : decode cX11_tells 125 = .ok (.aload_n 0, 1) := by decide +kernel
theorem dX11_tells_126 : decode cX11_tells 126 = .ok (.getfield 13, 3) := by decide +kernel
theorem dX11_tells_129 : decode cX11_tells 129 = .ok (.iconst 5, 1) := by decide +kernel
theorem dX11_tells_130 : decode cX11_tells 130 = .ok (.iaload, 1) := by decide +kernel
theorem dX11_tells_131 : decode cX11_tells 131 = .ok (.i2l, 1) := by decide +kernel
theorem dX11_tells_132 : decode cX11_tells 132 = .ok (.lastore, 1) := by decide +kernel
theorem dX11_tells_133 : decode cX11_tells 133 = .ok (.aload_n 0, 1) := by decide +kernel
theorem dX11_tells_134 : decode cX11_tells 134 = .ok (.getfield 105, 3) := by decide +kernel
theorem dX11_tells_137 : decode cX11_tells 137 = .ok (.bipush 9, 2) := by decide +kernel
theorem dX11_tells_139 : decode cX11_tells 139 = .ok (.aload_n 0, 1) := by decide +kernel
theorem dX11_tells_140 : decode cX11_tells 140 = .ok (.getfield 13, 3) := by decide +kernel
theorem dX11_tells_143 : decode cX11_tells 143 = .ok (.bipush 7, 2) := by decide +kernel
theorem dX11_tells_145 : decode cX11_tells 145 = .ok (.iaload, 1) := by decide +kernel
theorem dX11_tells_146 : decode cX11_tells 146 = .ok (.i2l, 1) := by decide +kernel
theorem dX11_tells_147 : decode cX11_tells 147 = .ok (.lastore, 1) := by decide +kernel
theorem dX11_tells_148 : decode cX11_tells 148 = .ok (.lload 6, 2) := by decide +kernel
theorem dX11_tells_150 : decode cX11_tells 150 = .ok (.lstore 8, 2) := by decide +kernel
theorem dX11_tells_152 : decode cX11_tells 152 = .ok (.iconst 0, 1) := by decide +kernel
theorem dX11_tells_153 : decode cX11_tells 153 = .ok (.istore 10, 2) := by decide +kernel
theorem dX11_tells_155 : decode cX11_tells 155 = .ok (.iload 10, 2) := by decide +kernel
theorem dX11_tells_157 : decode cX11_tells 157 = .ok (.aload_n 0, 1) := by decide +kernel
theorem dX11_tells_158 : decode cX11_tells 158 = .ok (.getfield 13, 3) := by decide +kernel
theorem dX11_tells_161 : decode cX11_tells 161 = .ok (.aload_n 0, 1) := by decide +kernel
theorem dX11_tells_162 : decode cX11_tells 162 = .ok (.getfield 401, 3) := by decide +kernel
theorem dX11_tells_165 : decode cX11_tells 165 = .ok (.iconst 1, 1) := by decide +kernel
theorem dX11_tells_166 : decode cX11_tells 166 = .ok (.iadd, 1) := by decide +kernel
theorem dX11_tells_167 : decode cX11_tells 167 = .ok (.iaload, 1) := by decide +kernel
theorem dX11_tells_168 : decode cX11_tells 168 = .ok (.if_icmp .ge 58, 3) := by decide +kernel
theorem dX11_tells_171 : decode cX11_tells 171 = .ok (.aload_n 0, 1) := by decide +kernel
theorem dX11_tells_172 : decode cX11_tells 172 = .ok (.getfield 401, 3) := by decide +kernel
theorem dX11_tells_175 : decode cX11_tells 175 = .ok (.iconst 2, 1) := by decide +kernel
theorem dX11_tells_176 : decode cX11_tells 176 = .ok (.iadd, 1) := by decide +kernel
theorem dX11_tells_177 : decode cX11_tells 177 = .ok (.bipush 8, 2) := by decide +kernel
theorem dX11_tells_179 : decode cX11_tells 179 = .ok (.iload 10, 2) := by decide +kernel
theorem dX11_tells_181 : decode cX11_tells 181 = .ok (.imul, 1) := by decide +kernel
theorem dX11_tells_182 : decode cX11_tells 182 = .ok (.iadd, 1) := by decide +kernel
theorem dX11_tells_183 : decode cX11_tells 183 = .ok (.istore 11, 2) := by decide +kernel
theorem dX11_tells_185 : decode cX11_tells 185 = .ok (.aload_n 0, 1) := by decide +kernel
theorem dX11_tells_186 : decode cX11_tells 186 = .ok (.getfield 13, 3) := by decide +kernel
theorem dX11_tells_189 : decode cX11_tells 189 = .ok (.iload 11, 2) := by decide +kernel
theorem dX11_tells_191 : decode cX11_tells 191 = .ok (.iaload, 1) := by decide +kernel
theorem dX11_tells_192 : decode cX11_tells 192 = .ok (.iload_n 1, 1) := by decide +kernel
theorem dX11_tells_193 : decode cX11_tells 193 = .ok (.if_icmp .ne 27, 3) := by decide +kernel
theorem dX11_tells_196 : decode cX11_tells 196 = .ok (.aload_n 0, 1) := by decide +kernel
theorem dX11_tells_197 : decode cX11_tells 197 = .ok (.iload 11, 2) := by decide +kernel
theorem dX11_tells_199 : decode cX11_tells 199 = .ok (.invokevirtual 421, 3) := by decide +kernel
theorem dX11_tells_202 : decode cX11_tells 202 = .ok (.ifCond .eq 18, 3) := by decide +kernel
theorem dX11_tells_205 : decode cX11_tells 205 = .ok (.iload_n 1, 1) := by decide +kernel
theorem dX11_tells_206 : decode cX11_tells 206 = .ok (.iconst 2, 1) := by decide +kernel
theorem dX11_tells_207 : decode cX11_tells 207 = .ok (.if_icmp .ne 7, 3) := by decide +kernel
theorem dX11_tells_210 : decode cX11_tells 210 = .ok (.lconst 1, 1) := by decide +kernel
theorem dX11_tells_211 : decode cX11_tells 211 = .ok (.goto 7, 3) := by decide +kernel
theorem dX11_tells_214 : decode cX11_tells 214 = .ok (.aload_n 0, 1) := by decide +kernel
theorem dX11_tells_215 : decode cX11_tells 215 = .ok (.getfield 418, 3) := by decide +kernel
theorem dX11_tells_218 : decode cX11_tells 218 = .ok (.lstore 8, 2) := by decide +kernel
theorem dX11_tells_220 : decode cX11_tells 220 = .ok (.iinc 10 1, 3) := by decide +kernel
theorem dX11_tells_223 : decode cX11_tells 223 = .ok (.goto (-68), 3) := by decide +kernel
theorem dX11_tells_226 : decode cX11_tells 226 = .ok (.lload 8, 2) := by decide +kernel
theorem dX11_tells_228 : decode cX11_tells 228 = .ok (.lreturn, 1) := by decide +kernel
def D_X11_tells_220 (k155 : z_H → Option Nat → Int32 → Int64 → Int32 → Option (Int64 × z_H)) (h : z_H) (l0 : Option Nat) (l1 : Int32) (l8 : Int64) (l10 : Int32) : Option (Int64 × z_H) :=
  (some (l10 + (1:Int32))).bind fun x982 =>
  k155 h l0 l1 l8 x982
set_option maxRecDepth 100000 in
set_option maxHeartbeats 4000000 in
theorem S_X11_tells_220 {G : z_G} {l : Launch} {k155 : z_H → Option Nat → Int32 → Int64 → Int32 → Option (Int64 × z_H)} (hk155 : ∀ {h : z_H} {l0 : Option Nat} {l1 : Int32} {l8 : Int64} {l10 : Int32} {res : (Int64 × z_H)}, k155 h l0 l1 l8 l10 = some res → z_Run G l 8 M_X11_tells 155 [(0, z_r l0), (1, .int l1), (8, .long l8), (10, .int l10)] [] h res.2 (some (.long res.1))) {h : z_H} {l0 : Option Nat} {l1 : Int32} {l8 : Int64} {l10 : Int32} {res : (Int64 × z_H)} (e : D_X11_tells_220 k155 h l0 l1 l8 l10 = some res) : z_Run G l 8 M_X11_tells 220 [(0, z_r l0), (1, .int l1), (8, .long l8), (10, .int l10)] [] h res.2 (some (.long res.1)) := by
  unfold D_X11_tells_220 at e
  replace e := z_bd e; obtain ⟨x982, ex982, e⟩ := e
  refine z_iinc (q := 3) (v := x982) (L' := [(10, .int x982), (0, z_r l0), (1, .int l1), (8, .long l8)]) dX11_tells_220 rfl (Option.some.inj ex982) (by decide) rfl ?_
  refine z_goto (tgt := 155) dX11_tells_223 (by decide) ?_
  exact z_weak [1, 2, 3, 0] rfl (hk155 e)
def D_X11_tells_218 (k155 : z_H → Option Nat → Int32 → Int64 → Int32 → Option (Int64 × z_H)) (h : z_H) (l0 : Option Nat) (l1 : Int32) (l10 : Int32) (s0 : Int64) : Option (Int64 × z_H) :=
  D_X11_tells_220  k155 h l0 l1 s0 l10
set_option maxRecDepth 100000 in
set_option maxHeartbeats 4000000 in
theorem S_X11_tells_218 {G : z_G} {l : Launch} {k155 : z_H → Option Nat → Int32 → Int64 → Int32 → Option (Int64 × z_H)} (hk155 : ∀ {h : z_H} {l0 : Option Nat} {l1 : Int32} {l8 : Int64} {l10 : Int32} {res : (Int64 × z_H)}, k155 h l0 l1 l8 l10 = some res → z_Run G l 8 M_X11_tells 155 [(0, z_r l0), (1, .int l1), (8, .long l8), (10, .int l10)] [] h res.2 (some (.long res.1))) {h : z_H} {l0 : Option Nat} {l1 : Int32} {l10 : Int32} {s0 : Int64} {res : (Int64 × z_H)} (e : D_X11_tells_218 k155 h l0 l1 l10 s0 = some res) : z_Run G l 8 M_X11_tells 218 [(0, z_r l0), (1, .int l1), (10, .int l10)] [.long s0] h res.2 (some (.long res.1)) := by
  unfold D_X11_tells_218 at e
  refine z_lstore (L' := [(8, .long s0), (0, z_r l0), (1, .int l1), (10, .int l10)]) dX11_tells_218 (by decide) rfl ?_
  exact z_weak [1, 2, 0, 3] rfl (S_X11_tells_220  @hk155 e)
def D_X11_tells_155b (k155 : z_H → Option Nat → Int32 → Int64 → Int32 → Option (Int64 × z_H)) (h : z_H) (l0 : Option Nat) (l1 : Int32) (l8 : Int64) (l10 : Int32) : Option (Int64 × z_H) :=
  (z_gQ 11 h l0 3).bind fun x983 =>
  (z_gI 11 h l0 34).bind fun x984 =>
  (z_aI .int h x983 (x984 + (1:Int32))).bind fun x985 =>
  if x985 ≤ l10 then
    some (l8, h)
  else
    (z_gI 11 h l0 34).bind fun x987 =>
    (some ((x987 + (2:Int32)) + ((8:Int32) * l10))).bind fun x988 =>
    (z_gQ 11 h l0 3).bind fun x989 =>
    (z_aI .int h x989 x988).bind fun x990 =>
    if x990 = l1 then
      (z_ob 11 h l0).bind fun _ =>
      (D_X11_isSo  h l0 x988).bind fun p992 =>
      if p992.1 = 0 then
        D_X11_tells_220  k155 p992.2 l0 l1 l8 l10
      else
        if l1 = (2:Int32) then
          D_X11_tells_218  k155 p992.2 l0 l1 l10 (1:Int64)
        else
          (z_gJ 11 p992.2 l0 40).bind fun x996 =>
          D_X11_tells_218  k155 p992.2 l0 l1 l10 x996
    else
      D_X11_tells_220  k155 h l0 l1 l8 l10
def D_X11_tells_155 (n : Nat) : z_H → Option Nat → Int32 → Int64 → Int32 → Option (Int64 × z_H) := Nat.rec (motive := fun _ => z_H → Option Nat → Int32 → Int64 → Int32 → Option (Int64 × z_H)) (fun _ _ _ _ _ => none) (fun _ k => D_X11_tells_155b  k) n
set_option maxRecDepth 100000 in
set_option maxHeartbeats 4000000 in
theorem S_X11_tells_155 {G : z_G} {l : Launch}  (n : Nat) : ∀ {h : z_H} {l0 : Option Nat} {l1 : Int32} {l8 : Int64} {l10 : Int32} {res : (Int64 × z_H)}, D_X11_tells_155  n h l0 l1 l8 l10 = some res → z_Run G l 8 M_X11_tells 155 [(0, z_r l0), (1, .int l1), (8, .long l8), (10, .int l10)] [] h res.2 (some (.long res.1)) := by
  induction n with
  | zero => intro h l0 l1 l8 l10 res e; cases e
  | succ n hk155 =>
    intro h l0 l1 l8 l10 res e
    replace e : D_X11_tells_155b  (D_X11_tells_155  n) h l0 l1 l8 l10 = some res := e
    unfold D_X11_tells_155b at e
    refine z_iload 3 dX11_tells_155 rfl ?_
    refine z_aload_n 0 dX11_tells_157 rfl ?_
    replace e := z_bd e; obtain ⟨x983, ex983, e⟩ := e
    refine z_getQ ex983 lk_X11_13 dX11_tells_158 ?_
    refine z_aload_n 0 dX11_tells_161 rfl ?_
    replace e := z_bd e; obtain ⟨x984, ex984, e⟩ := e
    refine z_getI ex984 lk_X11_401 dX11_tells_162 ?_
    refine z_iconst (v := 1) dX11_tells_165 (by decide) ?_
    refine z_iadd dX11_tells_166 ?_
    replace e := z_bd e; obtain ⟨x985, ex985, e⟩ := e
    refine z_iald ex985 dX11_tells_167 ?_
    refine z_icmp_ge (tgt := 226) dX11_tells_168 (by decide) (fun c986 => ?_) (fun c986 => ?_)
    · rw [if_pos c986] at e
      refine z_lload 2 dX11_tells_226 rfl ?_
      cases e
      exact z_lret dX11_tells_228 rfl
    · rw [if_neg c986] at e
      refine z_aload_n 0 dX11_tells_171 rfl ?_
      replace e := z_bd e; obtain ⟨x987, ex987, e⟩ := e
      refine z_getI ex987 lk_X11_401 dX11_tells_172 ?_
      refine z_iconst (v := 2) dX11_tells_175 (by decide) ?_
      refine z_iadd dX11_tells_176 ?_
      refine z_bipush (v := 8) dX11_tells_177 (by decide) ?_
      refine z_iload 3 dX11_tells_179 rfl ?_
      refine z_imul dX11_tells_181 ?_
      refine z_iadd dX11_tells_182 ?_
      replace e := z_bd e; obtain ⟨x988, ex988, e⟩ := e
      refine z_topI ex988 ?_
      refine z_istore (L' := [(11, .int x988), (0, z_r l0), (1, .int l1), (8, .long l8), (10, .int l10)]) dX11_tells_183 (by decide) rfl ?_
      refine z_aload_n 1 dX11_tells_185 rfl ?_
      replace e := z_bd e; obtain ⟨x989, ex989, e⟩ := e
      refine z_getQ ex989 lk_X11_13 dX11_tells_186 ?_
      refine z_iload 0 dX11_tells_189 rfl ?_
      replace e := z_bd e; obtain ⟨x990, ex990, e⟩ := e
      refine z_iald ex990 dX11_tells_191 ?_
      refine z_iload_n 2 dX11_tells_192 rfl ?_
      refine z_icmp_ne (tgt := 220) dX11_tells_193 (by decide) (fun c991 => ?_) (fun c991 => ?_)
      · rw [if_neg c991] at e
        exact z_weak [1, 2, 3, 4] rfl (S_X11_tells_220  @hk155 e)
      · rw [if_pos c991] at e
        refine z_aload_n 1 dX11_tells_196 rfl ?_
        refine z_iload 0 dX11_tells_197 rfl ?_
        replace e := z_bd e; obtain ⟨o993, eo993, e⟩ := e
        replace e := z_bd e; obtain ⟨p992, ep992, e⟩ := e
        refine z_cV [.int x988] (S_X11_isSo  ep992) eo993 rfl ml_X11_421 ck_X11_isSo vk_X11_isSo dX11_tells_199 (by decide) rfl (Nat.zero_le _) rfl ?_
        refine z_if_eq (tgt := 220) dX11_tells_202 (by decide) (fun c994 => ?_) (fun c994 => ?_)
        · rw [if_pos c994] at e
          exact z_weak [1, 2, 3, 4] rfl (S_X11_tells_220  @hk155 e)
        · rw [if_neg c994] at e
          refine z_iload_n 2 dX11_tells_205 rfl ?_
          refine z_iconst (v := 2) dX11_tells_206 (by decide) ?_
          refine z_icmp_ne (tgt := 214) dX11_tells_207 (by decide) (fun c995 => ?_) (fun c995 => ?_)
          · rw [if_neg c995] at e
            refine z_aload_n 1 dX11_tells_214 rfl ?_
            replace e := z_bd e; obtain ⟨x996, ex996, e⟩ := e
            refine z_getJ ex996 lk_X11_418 dX11_tells_215 ?_
            exact z_weak [1, 2, 4] rfl (S_X11_tells_218  @hk155 e)
          · rw [if_pos c995] at e
            refine z_lconst (v := 1) dX11_tells_210 (by decide) ?_
            refine z_goto (tgt := 218) dX11_tells_211 (by decide) ?_
            exact z_weak [1, 2, 4] rfl (S_X11_tells_218  @hk155 e)
def D_X11_tells_85 (h : z_H) (l0 : Option Nat) (l1 : Int32) (l4 : Int32) (l5 : Int32) (l6 : Int64) (s0 : Option Nat) (s1 : Int32) (s2 : Int64) : Option (Int64 × z_H) :=
  (z_sJ h s0 s1 s2).bind fun h997 =>
  (z_gQ 11 h997 l0 35).bind fun x998 =>
  (z_sJ h997 x998 (5:Int32) (Int32.toInt64 (l4 - l4 / (5:Int32) * (5:Int32)))).bind fun h999 =>
  (z_gQ 11 h999 l0 35).bind fun x1000 =>
  (z_sJ h999 x1000 (6:Int32) (Int32.toInt64 (l4 / (5:Int32)))).bind fun h1001 =>
  (z_gQ 11 h1001 l0 35).bind fun x1002 =>
  (z_sJ h1001 x1002 (7:Int32) (Int32.toInt64 l5)).bind fun h1003 =>
  (z_gQ 11 h1003 l0 35).bind fun x1004 =>
  (z_gQ 11 h1003 l0 3).bind fun x1005 =>
  (z_aI .int h1003 x1005 (5:Int32)).bind fun x1006 =>
  (z_sJ h1003 x1004 (8:Int32) (Int32.toInt64 x1006)).bind fun h1007 =>
  (z_gQ 11 h1007 l0 35).bind fun x1008 =>
  (z_gQ 11 h1007 l0 3).bind fun x1009 =>
  (z_aI .int h1007 x1009 (7:Int32)).bind fun x1010 =>
  (z_sJ h1007 x1008 (9:Int32) (Int32.toInt64 x1010)).bind fun h1011 =>
  D_X11_tells_155   z_F h1011 l0 l1 l6 (0:Int32)
set_option maxRecDepth 100000 in
set_option maxHeartbeats 4000000 in
theorem S_X11_tells_85 {G : z_G} {l : Launch}  {h : z_H} {l0 : Option Nat} {l1 : Int32} {l4 : Int32} {l5 : Int32} {l6 : Int64} {s0 : Option Nat} {s1 : Int32} {s2 : Int64} {res : (Int64 × z_H)} (e : D_X11_tells_85  h l0 l1 l4 l5 l6 s0 s1 s2 = some res) : z_Run G l 8 M_X11_tells 85 [(0, z_r l0), (1, .int l1), (4, .int l4), (5, .int l5), (6, .long l6)] [.long s2, .int s1, z_r s0] h res.2 (some (.long res.1)) := by
  unfold D_X11_tells_85 at e
  replace e := z_bd e; obtain ⟨h997, eh997, e⟩ := e
  refine z_last eh997 dX11_tells_85 ?_
  refine z_aload_n 0 dX11_tells_86 rfl ?_
  replace e := z_bd e; obtain ⟨x998, ex998, e⟩ := e
  refine z_getQ ex998 lk_X11_105 dX11_tells_87 ?_
  refine z_iconst (v := 5) dX11_tells_90 (by decide) ?_
  refine z_iload 2 dX11_tells_91 rfl ?_
  refine z_iconst (v := 5) dX11_tells_93 (by decide) ?_
  refine z_irem dX11_tells_94 (by decide) ?_
  refine z_i2l dX11_tells_95 ?_
  replace e := z_bd e; obtain ⟨h999, eh999, e⟩ := e
  refine z_last eh999 dX11_tells_96 ?_
  refine z_aload_n 0 dX11_tells_97 rfl ?_
  replace e := z_bd e; obtain ⟨x1000, ex1000, e⟩ := e
  refine z_getQ ex1000 lk_X11_105 dX11_tells_98 ?_
  refine z_bipush (v := 6) dX11_tells_101 (by decide) ?_
  refine z_iload 2 dX11_tells_103 rfl ?_
  refine z_iconst (v := 5) dX11_tells_105 (by decide) ?_
  refine z_idiv dX11_tells_106 (by decide) ?_
  refine z_i2l dX11_tells_107 ?_
  replace e := z_bd e; obtain ⟨h1001, eh1001, e⟩ := e
  refine z_last eh1001 dX11_tells_108 ?_
  refine z_aload_n 0 dX11_tells_109 rfl ?_
  replace e := z_bd e; obtain ⟨x1002, ex1002, e⟩ := e
  refine z_getQ ex1002 lk_X11_105 dX11_tells_110 ?_
  refine z_bipush (v := 7) dX11_tells_113 (by decide) ?_
  refine z_iload 3 dX11_tells_115 rfl ?_
  refine z_i2l dX11_tells_117 ?_
  replace e := z_bd e; obtain ⟨h1003, eh1003, e⟩ := e
  refine z_last eh1003 dX11_tells_118 ?_
  refine z_aload_n 0 dX11_tells_119 rfl ?_
  replace e := z_bd e; obtain ⟨x1004, ex1004, e⟩ := e
  refine z_getQ ex1004 lk_X11_105 dX11_tells_120 ?_
  refine z_bipush (v := 8) dX11_tells_123 (by decide) ?_
  refine z_aload_n 0 dX11_tells_125 rfl ?_
  replace e := z_bd e; obtain ⟨x1005, ex1005, e⟩ := e
  refine z_getQ ex1005 lk_X11_13 dX11_tells_126 ?_
  refine z_iconst (v := 5) dX11_tells_129 (by decide) ?_
  replace e := z_bd e; obtain ⟨x1006, ex1006, e⟩ := e
  refine z_iald ex1006 dX11_tells_130 ?_
  refine z_i2l dX11_tells_131 ?_
  replace e := z_bd e; obtain ⟨h1007, eh1007, e⟩ := e
  refine z_last eh1007 dX11_tells_132 ?_
  refine z_aload_n 0 dX11_tells_133 rfl ?_
  replace e := z_bd e; obtain ⟨x1008, ex1008, e⟩ := e
  refine z_getQ ex1008 lk_X11_105 dX11_tells_134 ?_
  refine z_bipush (v := 9) dX11_tells_137 (by decide) ?_
  refine z_aload_n 0 dX11_tells_139 rfl ?_
  replace e := z_bd e; obtain ⟨x1009, ex1009, e⟩ := e
  refine z_getQ ex1009 lk_X11_13 dX11_tells_140 ?_
  refine z_bipush (v := 7) dX11_tells_143 (by decide) ?_
  replace e := z_bd e; obtain ⟨x1010, ex1010, e⟩ := e
  refine z_iald ex1010 dX11_tells_145 ?_
  refine z_i2l dX11_tells_146 ?_
  replace e := z_bd e; obtain ⟨h1011, eh1011, e⟩ := e
  refine z_last eh1011 dX11_tells_147 ?_
  refine z_lload 4 dX11_tells_148 rfl ?_
  refine z_lstore (L' := [(8, .long l6), (0, z_r l0), (1, .int l1), (4, .int l4), (5, .int l5), (6, .long l6)]) dX11_tells_150 (by decide) rfl ?_
  refine z_iconst (v := 0) dX11_tells_152 (by decide) ?_
  refine z_istore (L' := [(10, .int (0:Int32)), (8, .long l6), (0, z_r l0), (1, .int l1), (4, .int l4), (5, .int l5), (6, .long l6)]) dX11_tells_153 (by decide) rfl ?_
  exact z_weak [2, 3, 1, 0] rfl (S_X11_tells_155   z_F e)
def D_X11_tells (h : z_H) (l0 : Option Nat) (l1 : Int32) (l2 : Int32) (l3 : Int32) (l4 : Int32) (l5 : Int32) (l6 : Int64) : Option (Int64 × z_H) :=
  (z_gQ 11 h l0 3).bind fun x1012 =>
  (z_aI .int h x1012 (3:Int32)).bind fun x1013 =>
  if x1013 = (-1:Int32) then
    some (l6, h)
  else
    (z_gQ 11 h l0 3).bind fun x1015 =>
    (z_aI .int h x1015 (3:Int32)).bind fun x1016 =>
    (z_pV 11 h l0 34 (.int ((62:Int32) + ((900:Int32) * x1016)))).bind fun h1017 =>
    (z_gQ 11 h1017 l0 35).bind fun x1018 =>
    (z_sJ h1017 x1018 (1:Int32) (Int32.toInt64 l2)).bind fun h1019 =>
    (z_gQ 11 h1019 l0 35).bind fun x1020 =>
    (z_gQ 11 h1019 l0 3).bind fun x1021 =>
    (z_aI .int h1019 x1021 ((44:Int32) + l2)).bind fun x1022 =>
    (z_sJ h1019 x1020 (2:Int32) (Int32.toInt64 x1022)).bind fun h1023 =>
    (z_gQ 11 h1023 l0 35).bind fun x1024 =>
    (z_sJ h1023 x1024 (3:Int32) (Int32.toInt64 l3)).bind fun h1025 =>
    (z_gQ 11 h1025 l0 35).bind fun x1026 =>
    if l3 = (-1:Int32) then
      D_X11_tells_85   h1025 l0 l1 l4 l5 l6 x1026 (4:Int32) (-1:Int64)
    else
      (z_ob 11 h1025 l0).bind fun _ =>
      (D_X11_wornOf  h1025 l0 l2 l3).bind fun p1028 =>
      D_X11_tells_85   p1028.2 l0 l1 l4 l5 l6 x1026 (4:Int32) (Int32.toInt64 p1028.1)
set_option maxRecDepth 100000 in
set_option maxHeartbeats 4000000 in
theorem S_X11_tells {G : z_G} {l : Launch} {h : z_H} {l0 : Option Nat} {l1 : Int32} {l2 : Int32} {l3 : Int32} {l4 : Int32} {l5 : Int32} {l6 : Int64} {res : (Int64 × z_H)} (e : D_X11_tells h l0 l1 l2 l3 l4 l5 l6 = some res) : z_Meth G l 8 M_X11_tells [z_r l0, .int l1, .int l2, .int l3, .int l4, .int l5, .long l6] h res.2 (some (.long res.1)) := by
  refine z_Meth.of ck_X11_tells.2.2.2.2 (by simp [lg_sl, z_ci, z_cj, z_cr, z_cx]) ck_X11_tells.1 ?_
  rw [show lv_args 0 [z_r l0, .int l1, .int l2, .int l3, .int l4, .int l5, .long l6] = [(0, z_r l0), (1, .int l1), (2, .int l2), (3, .int l3), (4, .int l4), (5, .int l5), (6, .long l6)] from by simp [lv_args, z_ci, z_cj, z_cr, z_cx]]
  unfold D_X11_tells at e
  refine z_aload_n 0 dX11_tells_0 rfl ?_
  replace e := z_bd e; obtain ⟨x1012, ex1012, e⟩ := e
  refine z_getQ ex1012 lk_X11_13 dX11_tells_1 ?_
  refine z_iconst (v := 3) dX11_tells_4 (by decide) ?_
  replace e := z_bd e; obtain ⟨x1013, ex1013, e⟩ := e
  refine z_iald ex1013 dX11_tells_5 ?_
  refine z_iconst (v := -1) dX11_tells_6 (by decide) ?_
  refine z_icmp_ne (tgt := 13) dX11_tells_7 (by decide) (fun c1014 => ?_) (fun c1014 => ?_)
  · rw [if_neg c1014] at e
    refine z_aload_n 0 dX11_tells_13 rfl ?_
    refine z_bipush (v := 62) dX11_tells_14 (by decide) ?_
    refine z_sipush (v := 900) dX11_tells_16 (by decide) ?_
    refine z_aload_n 0 dX11_tells_19 rfl ?_
    replace e := z_bd e; obtain ⟨x1015, ex1015, e⟩ := e
    refine z_getQ ex1015 lk_X11_13 dX11_tells_20 ?_
    refine z_iconst (v := 3) dX11_tells_23 (by decide) ?_
    replace e := z_bd e; obtain ⟨x1016, ex1016, e⟩ := e
    refine z_iald ex1016 dX11_tells_24 ?_
    refine z_imul dX11_tells_25 ?_
    refine z_iadd dX11_tells_26 ?_
    replace e := z_bd e; obtain ⟨h1017, eh1017, e⟩ := e
    refine z_putV eh1017 lk_X11_401 wk_11_34 (fun _ => rfl) (fun _ => rfl) dX11_tells_27 ?_
    refine z_aload_n 0 dX11_tells_30 rfl ?_
    replace e := z_bd e; obtain ⟨x1018, ex1018, e⟩ := e
    refine z_getQ ex1018 lk_X11_105 dX11_tells_31 ?_
    refine z_iconst (v := 1) dX11_tells_34 (by decide) ?_
    refine z_iload_n 2 dX11_tells_35 rfl ?_
    refine z_i2l dX11_tells_36 ?_
    replace e := z_bd e; obtain ⟨h1019, eh1019, e⟩ := e
    refine z_last eh1019 dX11_tells_37 ?_
    refine z_aload_n 0 dX11_tells_38 rfl ?_
    replace e := z_bd e; obtain ⟨x1020, ex1020, e⟩ := e
    refine z_getQ ex1020 lk_X11_105 dX11_tells_39 ?_
    refine z_iconst (v := 2) dX11_tells_42 (by decide) ?_
    refine z_aload_n 0 dX11_tells_43 rfl ?_
    replace e := z_bd e; obtain ⟨x1021, ex1021, e⟩ := e
    refine z_getQ ex1021 lk_X11_13 dX11_tells_44 ?_
    refine z_bipush (v := 44) dX11_tells_47 (by decide) ?_
    refine z_iload_n 2 dX11_tells_49 rfl ?_
    refine z_iadd dX11_tells_50 ?_
    replace e := z_bd e; obtain ⟨x1022, ex1022, e⟩ := e
    refine z_iald ex1022 dX11_tells_51 ?_
    refine z_i2l dX11_tells_52 ?_
    replace e := z_bd e; obtain ⟨h1023, eh1023, e⟩ := e
    refine z_last eh1023 dX11_tells_53 ?_
    refine z_aload_n 0 dX11_tells_54 rfl ?_
    replace e := z_bd e; obtain ⟨x1024, ex1024, e⟩ := e
    refine z_getQ ex1024 lk_X11_105 dX11_tells_55 ?_
    refine z_iconst (v := 3) dX11_tells_58 (by decide) ?_
    refine z_iload_n 3 dX11_tells_59 rfl ?_
    refine z_i2l dX11_tells_60 ?_
    replace e := z_bd e; obtain ⟨h1025, eh1025, e⟩ := e
    refine z_last eh1025 dX11_tells_61 ?_
    refine z_aload_n 0 dX11_tells_62 rfl ?_
    replace e := z_bd e; obtain ⟨x1026, ex1026, e⟩ := e
    refine z_getQ ex1026 lk_X11_105 dX11_tells_63 ?_
    refine z_iconst (v := 4) dX11_tells_66 (by decide) ?_
    refine z_iload_n 3 dX11_tells_67 rfl ?_
    refine z_iconst (v := -1) dX11_tells_68 (by decide) ?_
    refine z_icmp_ne (tgt := 78) dX11_tells_69 (by decide) (fun c1027 => ?_) (fun c1027 => ?_)
    · rw [if_neg c1027] at e
      refine z_aload_n 0 dX11_tells_78 rfl ?_
      refine z_iload_n 2 dX11_tells_79 rfl ?_
      refine z_iload_n 3 dX11_tells_80 rfl ?_
      replace e := z_bd e; obtain ⟨o1029, eo1029, e⟩ := e
      replace e := z_bd e; obtain ⟨p1028, ep1028, e⟩ := e
      refine z_cV [.int l2, .int l3] (S_X11_wornOf  ep1028) eo1029 rfl ml_X11_219 ck_X11_wornOf vk_X11_wornOf dX11_tells_81 (by decide) rfl (by simp [z_ci, z_cj, z_cr, z_cx]) rfl ?_
      refine z_i2l dX11_tells_84 ?_
      exact z_weak [0, 1, 4, 5, 6] rfl (S_X11_tells_85   e)
    · rw [if_pos c1027] at e
      refine z_ldc2 dX11_tells_72 kj_X11_278 ?_
      refine z_goto (tgt := 85) dX11_tells_75 (by decide) ?_
      exact z_weak [0, 1, 4, 5, 6] rfl (S_X11_tells_85   e)
  · rw [if_pos c1014] at e
    refine z_lload 6 dX11_tells_10 rfl ?_
    cases e
    exact z_lret dX11_tells_12 rfl
theorem dX11_stepOf_0 : decode cX11_stepOf 0 = .ok (.iload_n 2, 1) := by decide +kernel
theorem dX11_stepOf_1 : decode cX11_stepOf 1 = .ok (.iload_n 3, 1) := by decide +kernel
theorem dX11_stepOf_2 : decode cX11_stepOf 2 = .ok (.invokestatic 436, 3) := by decide +kernel
theorem dX11_stepOf_5 : decode cX11_stepOf 5 = .ok (.istore 4, 2) := by decide +kernel
theorem dX11_stepOf_7 : decode cX11_stepOf 7 = .ok (.iload 4, 2) := by decide +kernel
theorem dX11_stepOf_9 : decode cX11_stepOf 9 = .ok (.iconst (-1), 1) := by decide +kernel
theorem dX11_stepOf_10 : decode cX11_stepOf 10 = .ok (.if_icmp .eq 28, 3) := by decide +kernel
theorem dX11_stepOf_13 : decode cX11_stepOf 13 = .ok (.aload_n 0, 1) := by decide +kernel
theorem dX11_stepOf_14 : decode cX11_stepOf 14 = .ok (.iload 4, 2) := by decide +kernel
theorem dX11_stepOf_16 : decode cX11_stepOf 16 = .ok (.invokevirtual 439, 3) := by decide +kernel
theorem dX11_stepOf_19 : decode cX11_stepOf 19 = .ok (.ifCond .ne 19, 3) := by decide +kernel
theorem dX11_stepOf_22 : decode cX11_stepOf 22 = .ok (.aload_n 0, 1) := by decide +kernel
theorem dX11_stepOf_23 : decode cX11_stepOf 23 = .ok (.iconst 2, 1) := by decide +kernel
theorem dX11_stepOf_24 : decode cX11_stepOf 24 = .ok (.iload_n 1, 1) := by decide +kernel
theorem dX11_stepOf_25 : decode cX11_stepOf 25 = .ok (.iconst (-1), 1) := by decide +kernel
theorem dX11_stepOf_26 : decode cX11_stepOf 26 = .ok (.iload 4, 2) := by decide +kernel
theorem dX11_stepOf_28 : decode cX11_stepOf 28 = .ok (.iload_n 3, 1) := by decide +kernel
theorem dX11_stepOf_29 : decode cX11_stepOf 29 = .ok (.lconst 0, 1) := by decide +kernel
theorem dX11_stepOf_30 : decode cX11_stepOf 30 = .ok (.invokevirtual 424, 3) := by decide +kernel
theorem dX11_stepOf_33 : decode cX11_stepOf 33 = .ok (.lconst 1, 1) := by decide +kernel
theorem dX11_stepOf_34 : decode cX11_stepOf 34 = .ok (.lcmp, 1) := by decide +kernel
theorem dX11_stepOf_35 : decode cX11_stepOf 35 = .ok (.ifCond .ne 7, 3) := by decide +kernel
theorem dX11_stepOf_38 : decode cX11_stepOf 38 = .ok (.iconst (-1), 1) := by decide +kernel
theorem dX11_stepOf_39 : decode cX11_stepOf 39 = .ok (.goto 5, 3) := by decide +kernel
theorem dX11_stepOf_42 : decode cX11_stepOf 42 = .ok (.iload 4, 2) := by decide +kernel
theorem dX11_stepOf_44 : decode cX11_stepOf 44 = .ok (.ireturn, 1) := by decide +kernel
def D_X11_stepOf (h : z_H) (l0 : Option Nat) (l1 : Int32) (l2 : Int32) (l3 : Int32) : Option (Int32 × z_H) :=
  (D_X11_beside  h l2 l3).bind fun p1030 =>
  if p1030.1 = (-1:Int32) then
    some ((-1:Int32), p1030.2)
  else
    (z_ob 11 p1030.2 l0).bind fun _ =>
    (D_X11_isWall  p1030.2 l0 p1030.1).bind fun p1032 =>
    if p1032.1 = 0 then
      (z_ob 11 p1032.2 l0).bind fun _ =>
      (D_X11_tells  p1032.2 l0 (2:Int32) l1 (-1:Int32) p1030.1 l3 (0:Int64)).bind fun p1035 =>
      if (lg_cmp p1035.1 (1:Int64)) = 0 then
        some ((-1:Int32), p1035.2)
      else
        some (p1030.1, p1035.2)
    else
      some ((-1:Int32), p1032.2)
set_option maxRecDepth 100000 in
set_option maxHeartbeats 4000000 in
theorem S_X11_stepOf {G : z_G} {l : Launch} {h : z_H} {l0 : Option Nat} {l1 : Int32} {l2 : Int32} {l3 : Int32} {res : (Int32 × z_H)} (e : D_X11_stepOf h l0 l1 l2 l3 = some res) : z_Meth G l 9 M_X11_stepOf [z_r l0, .int l1, .int l2, .int l3] h res.2 (some (.int res.1)) := by
  refine z_Meth.of ck_X11_stepOf.2.2.2.2 (by simp [lg_sl, z_ci, z_cj, z_cr, z_cx]) ck_X11_stepOf.1 ?_
  rw [show lv_args 0 [z_r l0, .int l1, .int l2, .int l3] = [(0, z_r l0), (1, .int l1), (2, .int l2), (3, .int l3)] from by simp [lv_args, z_ci, z_cj, z_cr, z_cx]]
  unfold D_X11_stepOf at e
  refine z_iload_n 2 dX11_stepOf_0 rfl ?_
  refine z_iload_n 3 dX11_stepOf_1 rfl ?_
  replace e := z_bd e; obtain ⟨p1030, ep1030, e⟩ := e
  refine z_cS [.int l2, .int l3] (S_X11_beside  ep1030) ml_X11_436 ck_X11_beside st_X11_beside dX11_stepOf_2 (by decide) rfl (Nat.zero_le _) rfl ?_
  refine z_istore (L' := [(4, .int p1030.1), (0, z_r l0), (1, .int l1), (2, .int l2), (3, .int l3)]) dX11_stepOf_5 (by decide) rfl ?_
  refine z_iload 0 dX11_stepOf_7 rfl ?_
  refine z_iconst (v := -1) dX11_stepOf_9 (by decide) ?_
  refine z_icmp_eq (tgt := 38) dX11_stepOf_10 (by decide) (fun c1031 => ?_) (fun c1031 => ?_)
  · rw [if_pos c1031] at e
    refine z_iconst (v := -1) dX11_stepOf_38 (by decide) ?_
    refine z_goto (tgt := 44) dX11_stepOf_39 (by decide) ?_
    cases e
    exact z_iret dX11_stepOf_44 rfl
  · rw [if_neg c1031] at e
    refine z_aload_n 1 dX11_stepOf_13 rfl ?_
    refine z_iload 0 dX11_stepOf_14 rfl ?_
    replace e := z_bd e; obtain ⟨o1033, eo1033, e⟩ := e
    replace e := z_bd e; obtain ⟨p1032, ep1032, e⟩ := e
    refine z_cV [.int p1030.1] (S_X11_isWall  ep1032) eo1033 rfl ml_X11_439 ck_X11_isWall vk_X11_isWall dX11_stepOf_16 (by decide) rfl (Nat.zero_le _) rfl ?_
    refine z_if_ne (tgt := 38) dX11_stepOf_19 (by decide) (fun c1034 => ?_) (fun c1034 => ?_)
    · rw [if_neg c1034] at e
      refine z_iconst (v := -1) dX11_stepOf_38 (by decide) ?_
      refine z_goto (tgt := 44) dX11_stepOf_39 (by decide) ?_
      cases e
      exact z_iret dX11_stepOf_44 rfl
    · rw [if_pos c1034] at e
      refine z_aload_n 1 dX11_stepOf_22 rfl ?_
      refine z_iconst (v := 2) dX11_stepOf_23 (by decide) ?_
      refine z_iload_n 2 dX11_stepOf_24 rfl ?_
      refine z_iconst (v := -1) dX11_stepOf_25 (by decide) ?_
      refine z_iload 0 dX11_stepOf_26 rfl ?_
      refine z_iload_n 4 dX11_stepOf_28 rfl ?_
      refine z_lconst (v := 0) dX11_stepOf_29 (by decide) ?_
      replace e := z_bd e; obtain ⟨o1036, eo1036, e⟩ := e
      replace e := z_bd e; obtain ⟨p1035, ep1035, e⟩ := e
      refine z_cV [.int (2:Int32), .int l1, .int (-1:Int32), .int p1030.1, .int l3, .long (0:Int64)] (S_X11_tells  ep1035) eo1036 rfl ml_X11_424 ck_X11_tells vk_X11_tells dX11_stepOf_30 (by decide) rfl (Nat.zero_le _) rfl ?_
      refine z_lconst (v := 1) dX11_stepOf_33 (by decide) ?_
      refine z_lcmp dX11_stepOf_34 ?_
      refine z_if_ne (tgt := 42) dX11_stepOf_35 (by decide) (fun c1037 => ?_) (fun c1037 => ?_)
      · rw [if_neg c1037] at e
        refine z_iload 0 dX11_stepOf_42 rfl ?_
        cases e
        exact z_iret dX11_stepOf_44 rfl
      · rw [if_pos c1037] at e
        refine z_iconst (v := -1) dX11_stepOf_38 (by decide) ?_
        refine z_goto (tgt := 44) dX11_stepOf_39 (by decide) ?_
        cases e
        exact z_iret dX11_stepOf_44 rfl
theorem dX11_bounded_0 : decode cX11_bounded 0 = .ok (.lload_n 0, 1) := by decide +kernel
theorem dX11_bounded_1 : decode cX11_bounded 1 = .ok (.iload_n 2, 1) := by decide +kernel
theorem dX11_bounded_2 : decode cX11_bounded 2 = .ok (.i2l, 1) := by decide +kernel
theorem dX11_bounded_3 : decode cX11_bounded 3 = .ok (.lcmp, 1) := by decide +kernel
theorem dX11_bounded_4 : decode cX11_bounded 4 = .ok (.ifCond .ge 7, 3) := by decide +kernel
theorem dX11_bounded_7 : decode cX11_bounded 7 = .ok (.iload_n 2, 1) := by decide +kernel
theorem dX11_bounded_8 : decode cX11_bounded 8 = .ok (.goto 16, 3) := by decide +kernel
theorem dX11_bounded_11 : decode cX11_bounded 11 = .ok (.lload_n 0, 1) := by decide +kernel
theorem dX11_bounded_12 : decode cX11_bounded 12 = .ok (.iload_n 3, 1) := by decide +kernel
theorem dX11_bounded_13 : decode cX11_bounded 13 = .ok (.i2l, 1) := by decide +kernel
theorem dX11_bounded_14 : decode cX11_bounded 14 = .ok (.lcmp, 1) := by decide +kernel
theorem dX11_bounded_15 : decode cX11_bounded 15 = .ok (.ifCond .le 7, 3) := by decide +kernel
theorem dX11_bounded_18 : decode cX11_bounded 18 = .ok (.iload_n 3, 1) := by decide +kernel
theorem dX11_bounded_19 : decode cX11_bounded 19 = .ok (.goto 5, 3) := by decide +kernel
theorem dX11_bounded_22 : decode cX11_bounded 22 = .ok (.lload_n 0, 1) := by decide +kernel
theorem dX11_bounded_23 : decode cX11_bounded 23 = .ok (.l2i, 1) := by decide +kernel
theorem dX11_bounded_24 : decode cX11_bounded 24 = .ok (.ireturn, 1) := by decide +kernel
def D_X11_bounded (h : z_H) (l0 : Int64) (l2 : Int32) (l3 : Int32) : Option (Int32 × z_H) :=
  if 0 ≤ (lg_cmp l0 (Int32.toInt64 l2)) then
    if (lg_cmp l0 (Int32.toInt64 l3)) ≤ 0 then
      some ((Int64.toInt32 l0), h)
    else
      some (l3, h)
  else
    some (l2, h)
set_option maxRecDepth 100000 in
set_option maxHeartbeats 4000000 in
theorem S_X11_bounded {G : z_G} {l : Launch} {h : z_H} {l0 : Int64} {l2 : Int32} {l3 : Int32} {res : (Int32 × z_H)} (e : D_X11_bounded h l0 l2 l3 = some res) : z_Meth G l 4 M_X11_bounded [.long l0, .int l2, .int l3] h res.2 (some (.int res.1)) := by
  refine z_Meth.of ck_X11_bounded.2.2.2.2 (by simp [lg_sl, z_ci, z_cj, z_cr, z_cx]) ck_X11_bounded.1 ?_
  rw [show lv_args 0 [.long l0, .int l2, .int l3] = [(0, .long l0), (2, .int l2), (3, .int l3)] from rfl]
  unfold D_X11_bounded at e
  refine z_lload_n 0 dX11_bounded_0 rfl ?_
  refine z_iload_n 1 dX11_bounded_1 rfl ?_
  refine z_i2l dX11_bounded_2 ?_
  refine z_lcmp dX11_bounded_3 ?_
  refine z_if_ge (tgt := 11) dX11_bounded_4 (by decide) (fun c1038 => ?_) (fun c1038 => ?_)
  · rw [if_pos c1038] at e
    refine z_lload_n 0 dX11_bounded_11 rfl ?_
    refine z_iload_n 2 dX11_bounded_12 rfl ?_
    refine z_i2l dX11_bounded_13 ?_
    refine z_lcmp dX11_bounded_14 ?_
    refine z_if_le (tgt := 22) dX11_bounded_15 (by decide) (fun c1039 => ?_) (fun c1039 => ?_)
    · rw [if_pos c1039] at e
      refine z_lload_n 0 dX11_bounded_22 rfl ?_
      refine z_l2i dX11_bounded_23 ?_
      cases e
      exact z_iret dX11_bounded_24 rfl
    · rw [if_neg c1039] at e
      refine z_iload_n 2 dX11_bounded_18 rfl ?_
      refine z_goto (tgt := 24) dX11_bounded_19 (by decide) ?_
      cases e
      exact z_iret dX11_bounded_24 rfl
  · rw [if_neg c1038] at e
    refine z_iload_n 1 dX11_bounded_7 rfl ?_
    refine z_goto (tgt := 24) dX11_bounded_8 (by decide) ?_
    cases e
    exact z_iret dX11_bounded_24 rfl
theorem dX11_wearsAt_0 : decode cX11_wearsAt 0 = .ok (.aload_n 0, 1) := by decide +kernel
theorem dX11_wearsAt_1 : decode cX11_wearsAt 1 = .ok (.iconst 0, 1) := by decide +kernel
theorem dX11_wearsAt_2 : decode cX11_wearsAt 2 = .ok (.iload_n 1, 1) := by decide +kernel
theorem dX11_wearsAt_3 : decode cX11_wearsAt 3 = .ok (.iload_n 2, 1) := by decide +kernel
theorem dX11_wearsAt_4 : decode cX11_wearsAt 4 = .ok (.iload_n 3, 1) := by decide +kernel
theorem dX11_wearsAt_5 : decode cX11_wearsAt 5 = .ok (.iload 4, 2) := by decide +kernel
theorem dX11_wearsAt_7 : decode cX11_wearsAt 7 = .ok (.lconst 1, 1) := by decide +kernel
theorem dX11_wearsAt_8 : decode cX11_wearsAt 8 = .ok (.invokevirtual 424, 3) := by decide +kernel
theorem dX11_wearsAt_11 : decode cX11_wearsAt 11 = .ok (.iconst 0, 1) := by decide +kernel
theorem dX11_wearsAt_12 : decode cX11_wearsAt 12 = .ok (.bipush 9, 2) := by decide +kernel
theorem dX11_wearsAt_14 : decode cX11_wearsAt 14 = .ok (.invokestatic 428, 3) := by decide +kernel
theorem dX11_wearsAt_17 : decode cX11_wearsAt 17 = .ok (.ireturn, 1) := by decide +kernel
def D_X11_wearsAt (h : z_H) (l0 : Option Nat) (l1 : Int32) (l2 : Int32) (l3 : Int32) (l4 : Int32) : Option (Int32 × z_H) :=
  (z_ob 11 h l0).bind fun _ =>
  (D_X11_tells  h l0 (0:Int32) l1 l2 l3 l4 (1:Int64)).bind fun p1040 =>
  (D_X11_bounded  p1040.2 p1040.1 (0:Int32) (9:Int32)).bind fun p1042 =>
  some (p1042.1, p1042.2)
set_option maxRecDepth 100000 in
set_option maxHeartbeats 4000000 in
theorem S_X11_wearsAt {G : z_G} {l : Launch} {h : z_H} {l0 : Option Nat} {l1 : Int32} {l2 : Int32} {l3 : Int32} {l4 : Int32} {res : (Int32 × z_H)} (e : D_X11_wearsAt h l0 l1 l2 l3 l4 = some res) : z_Meth G l 9 M_X11_wearsAt [z_r l0, .int l1, .int l2, .int l3, .int l4] h res.2 (some (.int res.1)) := by
  refine z_Meth.of ck_X11_wearsAt.2.2.2.2 (by simp [lg_sl, z_ci, z_cj, z_cr, z_cx]) ck_X11_wearsAt.1 ?_
  rw [show lv_args 0 [z_r l0, .int l1, .int l2, .int l3, .int l4] = [(0, z_r l0), (1, .int l1), (2, .int l2), (3, .int l3), (4, .int l4)] from by simp [lv_args, z_ci, z_cj, z_cr, z_cx]]
  unfold D_X11_wearsAt at e
  refine z_aload_n 0 dX11_wearsAt_0 rfl ?_
  refine z_iconst (v := 0) dX11_wearsAt_1 (by decide) ?_
  refine z_iload_n 1 dX11_wearsAt_2 rfl ?_
  refine z_iload_n 2 dX11_wearsAt_3 rfl ?_
  refine z_iload_n 3 dX11_wearsAt_4 rfl ?_
  refine z_iload 4 dX11_wearsAt_5 rfl ?_
  refine z_lconst (v := 1) dX11_wearsAt_7 (by decide) ?_
  replace e := z_bd e; obtain ⟨o1041, eo1041, e⟩ := e
  replace e := z_bd e; obtain ⟨p1040, ep1040, e⟩ := e
  refine z_cV [.int (0:Int32), .int l1, .int l2, .int l3, .int l4, .long (1:Int64)] (S_X11_tells  ep1040) eo1041 rfl ml_X11_424 ck_X11_tells vk_X11_tells dX11_wearsAt_8 (by decide) rfl (Nat.zero_le _) rfl ?_
  refine z_iconst (v := 0) dX11_wearsAt_11 (by decide) ?_
  refine z_bipush (v := 9) dX11_wearsAt_12 (by decide) ?_
  replace e := z_bd e; obtain ⟨p1042, ep1042, e⟩ := e
  refine z_cS [.long p1040.1, .int (0:Int32), .int (9:Int32)] (S_X11_bounded  ep1042) ml_X11_428 ck_X11_bounded st_X11_bounded dX11_wearsAt_14 (by decide) rfl (Nat.zero_le _) rfl ?_
  cases e
  exact z_iret dX11_wearsAt_17 rfl
theorem dX11_wearsNow_0 : decode cX11_wearsNow 0 = .ok (.aload_n 0, 1) := by decide +kernel
theorem dX11_wearsNow_1 : decode cX11_wearsNow 1 = .ok (.iload_n 1, 1) := by decide +kernel
theorem dX11_wearsNow_2 : decode cX11_wearsNow 2 = .ok (.iload_n 2, 1) := by decide +kernel
theorem dX11_wearsNow_3 : decode cX11_wearsNow 3 = .ok (.aload_n 0, 1) := by decide +kernel
theorem dX11_wearsNow_4 : decode cX11_wearsNow 4 = .ok (.getfield 13, 3) := by decide +kernel
theorem dX11_wearsNow_7 : decode cX11_wearsNow 7 = .ok (.bipush 8, 2) := by decide +kernel
theorem dX11_wearsNow_9 : decode cX11_wearsNow 9 = .ok (.iload_n 1, 1) := by decide +kernel
theorem dX11_wearsNow_10 : decode cX11_wearsNow 10 = .ok (.iadd, 1) := by decide +kernel
theorem dX11_wearsNow_11 : decode cX11_wearsNow 11 = .ok (.iaload, 1) := by decide +kernel
theorem dX11_wearsNow_12 : decode cX11_wearsNow 12 = .ok (.aload_n 0, 1) := by decide +kernel
theorem dX11_wearsNow_13 : decode cX11_wearsNow 13 = .ok (.getfield 13, 3) := by decide +kernel
theorem dX11_wearsNow_16 : decode cX11_wearsNow 16 = .ok (.bipush 14, 2) := by decide +kernel
theorem dX11_wearsNow_18 : decode cX11_wearsNow 18 = .ok (.iload_n 1, 1) := by decide +kernel
theorem dX11_wearsNow_19 : decode cX11_wearsNow 19 = .ok (.iadd, 1) := by decide +kernel
theorem dX11_wearsNow_20 : decode cX11_wearsNow 20 = .ok (.iaload, 1) := by decide +kernel
theorem dX11_wearsNow_21 : decode cX11_wearsNow 21 = .ok (.invokevirtual 432, 3) := by decide +kernel
theorem dX11_wearsNow_24 : decode cX11_wearsNow 24 = .ok (.ireturn, 1) := by decide +kernel
def D_X11_wearsNow (h : z_H) (l0 : Option Nat) (l1 : Int32) (l2 : Int32) : Option (Int32 × z_H) :=
  (z_gQ 11 h l0 3).bind fun x1043 =>
  (z_aI .int h x1043 ((8:Int32) + l1)).bind fun x1044 =>
  (z_gQ 11 h l0 3).bind fun x1045 =>
  (z_aI .int h x1045 ((14:Int32) + l1)).bind fun x1046 =>
  (z_ob 11 h l0).bind fun _ =>
  (D_X11_wearsAt  h l0 l1 l2 x1044 x1046).bind fun p1047 =>
  some (p1047.1, p1047.2)
set_option maxRecDepth 100000 in
set_option maxHeartbeats 4000000 in
theorem S_X11_wearsNow {G : z_G} {l : Launch} {h : z_H} {l0 : Option Nat} {l1 : Int32} {l2 : Int32} {res : (Int32 × z_H)} (e : D_X11_wearsNow h l0 l1 l2 = some res) : z_Meth G l 10 M_X11_wearsNow [z_r l0, .int l1, .int l2] h res.2 (some (.int res.1)) := by
  refine z_Meth.of ck_X11_wearsNow.2.2.2.2 (by simp [lg_sl, z_ci, z_cj, z_cr, z_cx]) ck_X11_wearsNow.1 ?_
  rw [show lv_args 0 [z_r l0, .int l1, .int l2] = [(0, z_r l0), (1, .int l1), (2, .int l2)] from by simp [lv_args, z_ci, z_cj, z_cr, z_cx]]
  unfold D_X11_wearsNow at e
  refine z_aload_n 0 dX11_wearsNow_0 rfl ?_
  refine z_iload_n 1 dX11_wearsNow_1 rfl ?_
  refine z_iload_n 2 dX11_wearsNow_2 rfl ?_
  refine z_aload_n 0 dX11_wearsNow_3 rfl ?_
  replace e := z_bd e; obtain ⟨x1043, ex1043, e⟩ := e
  refine z_getQ ex1043 lk_X11_13 dX11_wearsNow_4 ?_
  refine z_bipush (v := 8) dX11_wearsNow_7 (by decide) ?_
  refine z_iload_n 1 dX11_wearsNow_9 rfl ?_
  refine z_iadd dX11_wearsNow_10 ?_
  replace e := z_bd e; obtain ⟨x1044, ex1044, e⟩ := e
  refine z_iald ex1044 dX11_wearsNow_11 ?_
  refine z_aload_n 0 dX11_wearsNow_12 rfl ?_
  replace e := z_bd e; obtain ⟨x1045, ex1045, e⟩ := e
  refine z_getQ ex1045 lk_X11_13 dX11_wearsNow_13 ?_
  refine z_bipush (v := 14) dX11_wearsNow_16 (by decide) ?_
  refine z_iload_n 1 dX11_wearsNow_18 rfl ?_
  refine z_iadd dX11_wearsNow_19 ?_
  replace e := z_bd e; obtain ⟨x1046, ex1046, e⟩ := e
  refine z_iald ex1046 dX11_wearsNow_20 ?_
  replace e := z_bd e; obtain ⟨o1048, eo1048, e⟩ := e
  replace e := z_bd e; obtain ⟨p1047, ep1047, e⟩ := e
  refine z_cV [.int l1, .int l2, .int x1044, .int x1046] (S_X11_wearsAt  ep1047) eo1048 rfl ml_X11_432 ck_X11_wearsAt vk_X11_wearsAt dX11_wearsNow_21 (by decide) rfl (Nat.zero_le _) rfl ?_
  cases e
  exact z_iret dX11_wearsNow_24 rfl
theorem dX11_wear_0 : decode cX11_wear 0 = .ok (.aload_n 0, 1) := by decide +kernel
theorem dX11_wear_1 : decode cX11_wear 1 = .ok (.getfield 13, 3) := by decide +kernel
theorem dX11_wear_4 : decode cX11_wear 4 = .ok (.bipush 20, 2) := by decide +kernel
theorem dX11_wear_6 : decode cX11_wear 6 = .ok (.iconst 4, 1) := by decide +kernel
theorem dX11_wear_7 : decode cX11_wear 7 = .ok (.iload_n 1, 1) := by decide +kernel
theorem dX11_wear_8 : decode cX11_wear 8 = .ok (.imul, 1) := by decide +kernel
theorem dX11_wear_9 : decode cX11_wear 9 = .ok (.iadd, 1) := by decide +kernel
theorem dX11_wear_10 : decode cX11_wear 10 = .ok (.iload_n 2, 1) := by decide +kernel
theorem dX11_wear_11 : decode cX11_wear 11 = .ok (.iadd, 1) := by decide +kernel
theorem dX11_wear_12 : decode cX11_wear 12 = .ok (.aload_n 0, 1) := by decide +kernel
theorem dX11_wear_13 : decode cX11_wear 13 = .ok (.iload_n 1, 1) := by decide +kernel
theorem dX11_wear_14 : decode cX11_wear 14 = .ok (.iload_n 2, 1) := by decide +kernel
theorem dX11_wear_15 : decode cX11_wear 15 = .ok (.invokevirtual 219, 3) := by decide +kernel
theorem dX11_wear_18 : decode cX11_wear 18 = .ok (.iload_n 3, 1) := by decide +kernel
theorem dX11_wear_19 : decode cX11_wear 19 = .ok (.iadd, 1) := by decide +kernel
theorem dX11_wear_20 : decode cX11_wear 20 = .ok (.i2l, 1) := by decide +kernel
theorem dX11_wear_21 : decode cX11_wear 21 = .ok (.iconst 0, 1) := by decide +kernel
theorem dX11_wear_22 : decode cX11_wear 22 = .ok (.bipush 99, 2) := by decide +kernel
theorem dX11_wear_24 : decode cX11_wear 24 = .ok (.invokestatic 428, 3) := by decide +kernel
theorem dX11_wear_27 : decode cX11_wear 27 = .ok (.iastore, 1) := by decide +kernel
theorem dX11_wear_28 : decode cX11_wear 28 = .ok (.return_, 1) := by decide +kernel
def D_X11_wear (h : z_H) (l0 : Option Nat) (l1 : Int32) (l2 : Int32) (l3 : Int32) : Option z_H :=
  (z_gQ 11 h l0 3).bind fun x1049 =>
  (z_ob 11 h l0).bind fun _ =>
  (D_X11_wornOf  h l0 l1 l2).bind fun p1050 =>
  (D_X11_bounded  p1050.2 (Int32.toInt64 (p1050.1 + l3)) (0:Int32) (99:Int32)).bind fun p1052 =>
  (z_sI p1052.2 x1049 (((20:Int32) + ((4:Int32) * l1)) + l2) p1052.1).bind fun h1053 =>
  some h1053
set_option maxRecDepth 100000 in
set_option maxHeartbeats 4000000 in
theorem S_X11_wear {G : z_G} {l : Launch} {h : z_H} {l0 : Option Nat} {l1 : Int32} {l2 : Int32} {l3 : Int32} {res : z_H} (e : D_X11_wear h l0 l1 l2 l3 = some res) : z_Meth G l 5 M_X11_wear [z_r l0, .int l1, .int l2, .int l3] h res none := by
  refine z_Meth.of ck_X11_wear.2.2.2.2 (by simp [lg_sl, z_ci, z_cj, z_cr, z_cx]) ck_X11_wear.1 ?_
  rw [show lv_args 0 [z_r l0, .int l1, .int l2, .int l3] = [(0, z_r l0), (1, .int l1), (2, .int l2), (3, .int l3)] from by simp [lv_args, z_ci, z_cj, z_cr, z_cx]]
  unfold D_X11_wear at e
  refine z_aload_n 0 dX11_wear_0 rfl ?_
  replace e := z_bd e; obtain ⟨x1049, ex1049, e⟩ := e
  refine z_getQ ex1049 lk_X11_13 dX11_wear_1 ?_
  refine z_bipush (v := 20) dX11_wear_4 (by decide) ?_
  refine z_iconst (v := 4) dX11_wear_6 (by decide) ?_
  refine z_iload_n 1 dX11_wear_7 rfl ?_
  refine z_imul dX11_wear_8 ?_
  refine z_iadd dX11_wear_9 ?_
  refine z_iload_n 2 dX11_wear_10 rfl ?_
  refine z_iadd dX11_wear_11 ?_
  refine z_aload_n 0 dX11_wear_12 rfl ?_
  refine z_iload_n 1 dX11_wear_13 rfl ?_
  refine z_iload_n 2 dX11_wear_14 rfl ?_
  replace e := z_bd e; obtain ⟨o1051, eo1051, e⟩ := e
  replace e := z_bd e; obtain ⟨p1050, ep1050, e⟩ := e
  refine z_cV [.int l1, .int l2] (S_X11_wornOf  ep1050) eo1051 rfl ml_X11_219 ck_X11_wornOf vk_X11_wornOf dX11_wear_15 (by decide) rfl (by simp [z_ci, z_cj, z_cr, z_cx]) rfl ?_
  refine z_iload_n 3 dX11_wear_18 rfl ?_
  refine z_iadd dX11_wear_19 ?_
  refine z_i2l dX11_wear_20 ?_
  refine z_iconst (v := 0) dX11_wear_21 (by decide) ?_
  refine z_bipush (v := 99) dX11_wear_22 (by decide) ?_
  replace e := z_bd e; obtain ⟨p1052, ep1052, e⟩ := e
  refine z_cS [.long (Int32.toInt64 (p1050.1 + l3)), .int (0:Int32), .int (99:Int32)] (S_X11_bounded  ep1052) ml_X11_428 ck_X11_bounded st_X11_bounded dX11_wear_24 (by decide) rfl (by simp [z_ci, z_cj, z_cr, z_cx]) rfl ?_
  replace e := z_bd e; obtain ⟨h1053, eh1053, e⟩ := e
  refine z_iast eh1053 dX11_wear_27 ?_
  cases e
  exact z_vret dX11_wear_28 rfl
theorem dX11_stepIt_0 : decode cX11_stepIt 0 = .ok (.aload_n 0, 1) := by decide +kernel
theorem dX11_stepIt_1 : decode cX11_stepIt 1 = .ok (.iload_n 1, 1) := by decide +kernel
theorem dX11_stepIt_2 : decode cX11_stepIt 2 = .ok (.iconst 0, 1) := by decide +kernel
theorem dX11_stepIt_3 : decode cX11_stepIt 3 = .ok (.aload_n 0, 1) := by decide +kernel
theorem dX11_stepIt_4 : decode cX11_stepIt 4 = .ok (.iload_n 1, 1) := by decide +kernel
theorem dX11_stepIt_5 : decode cX11_stepIt 5 = .ok (.iconst 0, 1) := by decide +kernel
theorem dX11_stepIt_6 : decode cX11_stepIt 6 = .ok (.invokevirtual 226, 3) := by decide +kernel
theorem dX11_stepIt_9 : decode cX11_stepIt 9 = .ok (.invokevirtual 442, 3) := by decide +kernel
theorem dX11_stepIt_12 : decode cX11_stepIt 12 = .ok (.aload_n 0, 1) := by decide +kernel
theorem dX11_stepIt_13 : decode cX11_stepIt 13 = .ok (.getfield 13, 3) := by decide +kernel
theorem dX11_stepIt_16 : decode cX11_stepIt 16 = .ok (.bipush 8, 2) := by decide +kernel
theorem dX11_stepIt_18 : decode cX11_stepIt 18 = .ok (.iload_n 1, 1) := by decide +kernel
theorem dX11_stepIt_19 : decode cX11_stepIt 19 = .ok (.iadd, 1) := by decide +kernel
theorem dX11_stepIt_20 : decode cX11_stepIt 20 = .ok (.iload_n 2, 1) := by decide +kernel
theorem dX11_stepIt_21 : decode cX11_stepIt 21 = .ok (.iastore, 1) := by decide +kernel
theorem dX11_stepIt_22 : decode cX11_stepIt 22 = .ok (.return_, 1) := by decide +kernel
def D_X11_stepIt (h : z_H) (l0 : Option Nat) (l1 : Int32) (l2 : Int32) : Option z_H :=
  (z_ob 11 h l0).bind fun _ =>
  (D_X11_wearsNow  h l0 l1 (0:Int32)).bind fun p1054 =>
  (z_ob 11 p1054.2 l0).bind fun _ =>
  (D_X11_wear  p1054.2 l0 l1 (0:Int32) p1054.1).bind fun p1056 =>
  (z_gQ 11 p1056 l0 3).bind fun x1058 =>
  (z_sI p1056 x1058 ((8:Int32) + l1) l2).bind fun h1059 =>
  some h1059
set_option maxRecDepth 100000 in
set_option maxHeartbeats 4000000 in
theorem S_X11_stepIt {G : z_G} {l : Launch} {h : z_H} {l0 : Option Nat} {l1 : Int32} {l2 : Int32} {res : z_H} (e : D_X11_stepIt h l0 l1 l2 = some res) : z_Meth G l 11 M_X11_stepIt [z_r l0, .int l1, .int l2] h res none := by
  refine z_Meth.of ck_X11_stepIt.2.2.2.2 (by simp [lg_sl, z_ci, z_cj, z_cr, z_cx]) ck_X11_stepIt.1 ?_
  rw [show lv_args 0 [z_r l0, .int l1, .int l2] = [(0, z_r l0), (1, .int l1), (2, .int l2)] from by simp [lv_args, z_ci, z_cj, z_cr, z_cx]]
  unfold D_X11_stepIt at e
  refine z_aload_n 0 dX11_stepIt_0 rfl ?_
  refine z_iload_n 1 dX11_stepIt_1 rfl ?_
  refine z_iconst (v := 0) dX11_stepIt_2 (by decide) ?_
  refine z_aload_n 0 dX11_stepIt_3 rfl ?_
  refine z_iload_n 1 dX11_stepIt_4 rfl ?_
  refine z_iconst (v := 0) dX11_stepIt_5 (by decide) ?_
  replace e := z_bd e; obtain ⟨o1055, eo1055, e⟩ := e
  replace e := z_bd e; obtain ⟨p1054, ep1054, e⟩ := e
  refine z_cV [.int l1, .int (0:Int32)] (S_X11_wearsNow  ep1054) eo1055 rfl ml_X11_226 ck_X11_wearsNow vk_X11_wearsNow dX11_stepIt_6 (by decide) rfl (by simp [z_ci, z_cj, z_cr, z_cx]) rfl ?_
  replace e := z_bd e; obtain ⟨o1057, eo1057, e⟩ := e
  replace e := z_bd e; obtain ⟨p1056, ep1056, e⟩ := e
  refine z_cV [.int l1, .int (0:Int32), .int p1054.1] (S_X11_wear  ep1056) eo1057 rfl ml_X11_442 ck_X11_wear vk_X11_wear dX11_stepIt_9 (by decide) rfl (Nat.zero_le _) rfl ?_
  refine z_aload_n 0 dX11_stepIt_12 rfl ?_
  replace e := z_bd e; obtain ⟨x1058, ex1058, e⟩ := e
  refine z_getQ ex1058 lk_X11_13 dX11_stepIt_13 ?_
  refine z_bipush (v := 8) dX11_stepIt_16 (by decide) ?_
  refine z_iload_n 1 dX11_stepIt_18 rfl ?_
  refine z_iadd dX11_stepIt_19 ?_
  refine z_iload_n 2 dX11_stepIt_20 rfl ?_
  replace e := z_bd e; obtain ⟨h1059, eh1059, e⟩ := e
  refine z_iast eh1059 dX11_stepIt_21 ?_
  cases e
  exact z_vret dX11_stepIt_22 rfl
theorem dX11_turned_0 : decode cX11_turned 0 = .ok (.iload_n 0, 1) := by decide +kernel
theorem dX11_turned_1 : decode cX11_turned 1 = .ok (.iload_n 1, 1) := by decide +kernel
theorem dX11_turned_2 : decode cX11_turned 2 = .ok (.ifCond .ne 7, 3) := by decide +kernel
theorem dX11_turned_5 : decode cX11_turned 5 = .ok (.iconst 3, 1) := by decide +kernel
theorem dX11_turned_6 : decode cX11_turned 6 = .ok (.goto 4, 3) := by decide +kernel
theorem dX11_turned_9 : decode cX11_turned 9 = .ok (.iconst 1, 1) := by decide +kernel
theorem dX11_turned_10 : decode cX11_turned 10 = .ok (.iadd, 1) := by decide +kernel
theorem dX11_turned_11 : decode cX11_turned 11 = .ok (.iconst 4, 1) := by decide +kernel
theorem dX11_turned_12 : decode cX11_turned 12 = .ok (.irem, 1) := by decide +kernel
theorem dX11_turned_13 : decode cX11_turned 13 = .ok (.ireturn, 1) := by decide +kernel
def D_X11_turned_10 (h : z_H) (s0 : Int32) (s1 : Int32) : Option (Int32 × z_H) :=
  some (((s0 + s1) - (s0 + s1) / (4:Int32) * (4:Int32)), h)
set_option maxRecDepth 100000 in
set_option maxHeartbeats 4000000 in
theorem S_X11_turned_10 {G : z_G} {l : Launch}  {h : z_H} {s0 : Int32} {s1 : Int32} {res : (Int32 × z_H)} (e : D_X11_turned_10  h s0 s1 = some res) : z_Run G l 4 M_X11_turned 10 [] [.int s1, .int s0] h res.2 (some (.int res.1)) := by
  unfold D_X11_turned_10 at e
  refine z_iadd dX11_turned_10 ?_
  refine z_iconst (v := 4) dX11_turned_11 (by decide) ?_
  refine z_irem dX11_turned_12 (by decide) ?_
  cases e
  exact z_iret dX11_turned_13 rfl
def D_X11_turned (h : z_H) (l0 : Int32) (l1 : Int32) : Option (Int32 × z_H) :=
  if l1 = 0 then
    D_X11_turned_10   h l0 (3:Int32)
  else
    D_X11_turned_10   h l0 (1:Int32)
set_option maxRecDepth 100000 in
set_option maxHeartbeats 4000000 in
theorem S_X11_turned {G : z_G} {l : Launch} {h : z_H} {l0 : Int32} {l1 : Int32} {res : (Int32 × z_H)} (e : D_X11_turned h l0 l1 = some res) : z_Meth G l 4 M_X11_turned [.int l0, .int l1] h res.2 (some (.int res.1)) := by
  refine z_Meth.of ck_X11_turned.2.2.2.2 (by simp [lg_sl, z_ci, z_cj, z_cr, z_cx]) ck_X11_turned.1 ?_
  rw [show lv_args 0 [.int l0, .int l1] = [(0, .int l0), (1, .int l1)] from rfl]
  unfold D_X11_turned at e
  refine z_iload_n 0 dX11_turned_0 rfl ?_
  refine z_iload_n 1 dX11_turned_1 rfl ?_
  refine z_if_ne (tgt := 9) dX11_turned_2 (by decide) (fun c1060 => ?_) (fun c1060 => ?_)
  · rw [if_neg c1060] at e
    refine z_iconst (v := 1) dX11_turned_9 (by decide) ?_
    exact z_weak [] rfl (S_X11_turned_10   e)
  · rw [if_pos c1060] at e
    refine z_iconst (v := 3) dX11_turned_5 (by decide) ?_
    refine z_goto (tgt := 10) dX11_turned_6 (by decide) ?_
    exact z_weak [] rfl (S_X11_turned_10   e)
theorem dX11_turnIt_0 : decode cX11_turnIt 0 = .ok (.iload_n 2, 1) := by decide +kernel
theorem dX11_turnIt_1 : decode cX11_turnIt 1 = .ok (.ifCond .ne 7, 3) := by decide +kernel
theorem dX11_turnIt_4 : decode cX11_turnIt 4 = .ok (.iconst 2, 1) := by decide +kernel
theorem dX11_turnIt_5 : decode cX11_turnIt 5 = .ok (.goto 4, 3) := by decide +kernel
theorem dX11_turnIt_8 : decode cX11_turnIt 8 = .ok (.iconst 3, 1) := by decide +kernel
theorem dX11_turnIt_9 : decode cX11_turnIt 9 = .ok (.istore_n 3, 1) := by decide +kernel
theorem dX11_turnIt_10 : decode cX11_turnIt 10 = .ok (.aload_n 0, 1) := by decide +kernel
theorem dX11_turnIt_11 : decode cX11_turnIt 11 = .ok (.iload_n 1, 1) := by decide +kernel
theorem dX11_turnIt_12 : decode cX11_turnIt 12 = .ok (.iload_n 3, 1) := by decide +kernel
theorem dX11_turnIt_13 : decode cX11_turnIt 13 = .ok (.aload_n 0, 1) := by decide +kernel
theorem dX11_turnIt_14 : decode cX11_turnIt 14 = .ok (.iload_n 1, 1) := by decide +kernel
theorem dX11_turnIt_15 : decode cX11_turnIt 15 = .ok (.iload_n 3, 1) := by decide +kernel
theorem dX11_turnIt_16 : decode cX11_turnIt 16 = .ok (.invokevirtual 226, 3) := by decide +kernel
theorem dX11_turnIt_19 : decode cX11_turnIt 19 = .ok (.invokevirtual 442, 3) := by decide +kernel
theorem dX11_turnIt_22 : decode cX11_turnIt 22 = .ok (.aload_n 0, 1) := by decide +kernel
theorem dX11_turnIt_23 : decode cX11_turnIt 23 = .ok (.getfield 13, 3) := by decide +kernel
theorem dX11_turnIt_26 : decode cX11_turnIt 26 = .ok (.bipush 14, 2) := by decide +kernel
theorem dX11_turnIt_28 : decode cX11_turnIt 28 = .ok (.iload_n 1, 1) := by decide +kernel
theorem dX11_turnIt_29 : decode cX11_turnIt 29 = .ok (.iadd, 1) := by decide +kernel
theorem dX11_turnIt_30 : decode cX11_turnIt 30 = .ok (.aload_n 0, 1) := by decide +kernel
theorem dX11_turnIt_31 : decode cX11_turnIt 31 = .ok (.getfield 13, 3) := by decide +kernel
theorem dX11_turnIt_34 : decode cX11_turnIt 34 = .ok (.bipush 14, 2) := by decide +kernel
theorem dX11_turnIt_36 : decode cX11_turnIt 36 = .ok (.iload_n 1, 1) := by decide +kernel
theorem dX11_turnIt_37 : decode cX11_turnIt 37 = .ok (.iadd, 1) := by decide +kernel
theorem dX11_turnIt_38 : decode cX11_turnIt 38 = .ok (.iaload, 1) := by decide +kernel
theorem dX11_turnIt_39 : decode cX11_turnIt 39 = .ok (.iload_n 2, 1) := by decide +kernel
theorem dX11_turnIt_40 : decode cX11_turnIt 40 = .ok (.invokestatic 455, 3) := by decide +kernel
theorem dX11_turnIt_43 : decode cX11_turnIt 43 = .ok (.iastore, 1) := by decide +kernel
theorem dX11_turnIt_44 : decode cX11_turnIt 44 = .ok (.return_, 1) := by decide +kernel
def D_X11_turnIt_9 (h : z_H) (l0 : Option Nat) (l1 : Int32) (l2 : Int32) (s0 : Int32) : Option z_H :=
  (z_ob 11 h l0).bind fun _ =>
  (D_X11_wearsNow  h l0 l1 s0).bind fun p1061 =>
  (z_ob 11 p1061.2 l0).bind fun _ =>
  (D_X11_wear  p1061.2 l0 l1 s0 p1061.1).bind fun p1063 =>
  (z_gQ 11 p1063 l0 3).bind fun x1065 =>
  (z_gQ 11 p1063 l0 3).bind fun x1066 =>
  (z_aI .int p1063 x1066 ((14:Int32) + l1)).bind fun x1067 =>
  (D_X11_turned  p1063 x1067 l2).bind fun p1068 =>
  (z_sI p1068.2 x1065 ((14:Int32) + l1) p1068.1).bind fun h1069 =>
  some h1069
set_option maxRecDepth 100000 in
set_option maxHeartbeats 4000000 in
theorem S_X11_turnIt_9 {G : z_G} {l : Launch}  {h : z_H} {l0 : Option Nat} {l1 : Int32} {l2 : Int32} {s0 : Int32} {res : z_H} (e : D_X11_turnIt_9  h l0 l1 l2 s0 = some res) : z_Run G l 11 M_X11_turnIt 9 [(0, z_r l0), (1, .int l1), (2, .int l2)] [.int s0] h res none := by
  unfold D_X11_turnIt_9 at e
  refine z_istore_n (L' := [(3, .int s0), (0, z_r l0), (1, .int l1), (2, .int l2)]) dX11_turnIt_9 rfl (by decide) rfl ?_
  refine z_aload_n 1 dX11_turnIt_10 rfl ?_
  refine z_iload_n 2 dX11_turnIt_11 rfl ?_
  refine z_iload_n 0 dX11_turnIt_12 rfl ?_
  refine z_aload_n 1 dX11_turnIt_13 rfl ?_
  refine z_iload_n 2 dX11_turnIt_14 rfl ?_
  refine z_iload_n 0 dX11_turnIt_15 rfl ?_
  replace e := z_bd e; obtain ⟨o1062, eo1062, e⟩ := e
  replace e := z_bd e; obtain ⟨p1061, ep1061, e⟩ := e
  refine z_cV [.int l1, .int s0] (S_X11_wearsNow  ep1061) eo1062 rfl ml_X11_226 ck_X11_wearsNow vk_X11_wearsNow dX11_turnIt_16 (by decide) rfl (by simp [z_ci, z_cj, z_cr, z_cx]) rfl ?_
  replace e := z_bd e; obtain ⟨o1064, eo1064, e⟩ := e
  replace e := z_bd e; obtain ⟨p1063, ep1063, e⟩ := e
  refine z_cV [.int l1, .int s0, .int p1061.1] (S_X11_wear  ep1063) eo1064 rfl ml_X11_442 ck_X11_wear vk_X11_wear dX11_turnIt_19 (by decide) rfl (Nat.zero_le _) rfl ?_
  refine z_aload_n 1 dX11_turnIt_22 rfl ?_
  replace e := z_bd e; obtain ⟨x1065, ex1065, e⟩ := e
  refine z_getQ ex1065 lk_X11_13 dX11_turnIt_23 ?_
  refine z_bipush (v := 14) dX11_turnIt_26 (by decide) ?_
  refine z_iload_n 2 dX11_turnIt_28 rfl ?_
  refine z_iadd dX11_turnIt_29 ?_
  refine z_aload_n 1 dX11_turnIt_30 rfl ?_
  replace e := z_bd e; obtain ⟨x1066, ex1066, e⟩ := e
  refine z_getQ ex1066 lk_X11_13 dX11_turnIt_31 ?_
  refine z_bipush (v := 14) dX11_turnIt_34 (by decide) ?_
  refine z_iload_n 2 dX11_turnIt_36 rfl ?_
  refine z_iadd dX11_turnIt_37 ?_
  replace e := z_bd e; obtain ⟨x1067, ex1067, e⟩ := e
  refine z_iald ex1067 dX11_turnIt_38 ?_
  refine z_iload_n 3 dX11_turnIt_39 rfl ?_
  replace e := z_bd e; obtain ⟨p1068, ep1068, e⟩ := e
  refine z_cS [.int x1067, .int l2] (S_X11_turned  ep1068) ml_X11_455 ck_X11_turned st_X11_turned dX11_turnIt_40 (by decide) rfl (by simp [z_ci, z_cj, z_cr, z_cx]) rfl ?_
  replace e := z_bd e; obtain ⟨h1069, eh1069, e⟩ := e
  refine z_iast eh1069 dX11_turnIt_43 ?_
  cases e
  exact z_vret dX11_turnIt_44 rfl
def D_X11_turnIt (h : z_H) (l0 : Option Nat) (l1 : Int32) (l2 : Int32) : Option z_H :=
  if l2 = 0 then
    D_X11_turnIt_9   h l0 l1 l2 (2:Int32)
  else
    D_X11_turnIt_9   h l0 l1 l2 (3:Int32)
set_option maxRecDepth 100000 in
set_option maxHeartbeats 4000000 in
theorem S_X11_turnIt {G : z_G} {l : Launch} {h : z_H} {l0 : Option Nat} {l1 : Int32} {l2 : Int32} {res : z_H} (e : D_X11_turnIt h l0 l1 l2 = some res) : z_Meth G l 11 M_X11_turnIt [z_r l0, .int l1, .int l2] h res none := by
  refine z_Meth.of ck_X11_turnIt.2.2.2.2 (by simp [lg_sl, z_ci, z_cj, z_cr, z_cx]) ck_X11_turnIt.1 ?_
  rw [show lv_args 0 [z_r l0, .int l1, .int l2] = [(0, z_r l0), (1, .int l1), (2, .int l2)] from by simp [lv_args, z_ci, z_cj, z_cr, z_cx]]
  unfold D_X11_turnIt at e
  refine z_iload_n 2 dX11_turnIt_0 rfl ?_
  refine z_if_ne (tgt := 8) dX11_turnIt_1 (by decide) (fun c1070 => ?_) (fun c1070 => ?_)
  · rw [if_neg c1070] at e
    refine z_iconst (v := 3) dX11_turnIt_8 (by decide) ?_
    exact z_weak [0, 1, 2] rfl (S_X11_turnIt_9   e)
  · rw [if_pos c1070] at e
    refine z_iconst (v := 2) dX11_turnIt_4 (by decide) ?_
    refine z_goto (tgt := 9) dX11_turnIt_5 (by decide) ?_
    exact z_weak [0, 1, 2] rfl (S_X11_turnIt_9   e)
theorem dX11_putBack_0 : decode cX11_putBack 0 = .ok (.iconst 0, 1) := by decide +kernel
theorem dX11_putBack_1 : decode cX11_putBack 1 = .ok (.istore_n 2, 1) := by decide +kernel
theorem dX11_putBack_2 : decode cX11_putBack 2 = .ok (.iload_n 2, 1) := by decide +kernel
theorem dX11_putBack_3 : decode cX11_putBack 3 = .ok (.bipush 39, 2) := by decide +kernel
theorem dX11_putBack_5 : decode cX11_putBack 5 = .ok (.if_icmp .ge 28, 3) := by decide +kernel
theorem dX11_putBack_8 : decode cX11_putBack 8 = .ok (.aload_n 0, 1) := by decide +kernel
theorem dX11_putBack_9 : decode cX11_putBack 9 = .ok (.getfield 13, 3) := by decide +kernel
theorem dX11_putBack_12 : decode cX11_putBack 12 = .ok (.iconst 5, 1) := by decide +kernel
theorem dX11_putBack_13 : decode cX11_putBack 13 = .ok (.iload_n 2, 1) := by decide +kernel
theorem dX11_putBack_14 : decode cX11_putBack 14 = .ok (.iadd, 1) := by decide +kernel
theorem dX11_putBack_15 : decode cX11_putBack 15 = .ok (.aload_n 0, 1) := by decide +kernel
theorem dX11_putBack_16 : decode cX11_putBack 16 = .ok (.getfield 23, 3) := by decide +kernel
theorem dX11_putBack_19 : decode cX11_putBack 19 = .ok (.bipush 39, 2) := by decide +kernel
theorem dX11_putBack_21 : decode cX11_putBack 21 = .ok (.iload_n 1, 1) := by decide +kernel
theorem dX11_putBack_22 : decode cX11_putBack 22 = .ok (.imul, 1) := by decide +kernel
theorem dX11_putBack_23 : decode cX11_putBack 23 = .ok (.iload_n 2, 1) := by decide +kernel
theorem dX11_putBack_24 : decode cX11_putBack 24 = .ok (.iadd, 1) := by decide +kernel
theorem dX11_putBack_25 : decode cX11_putBack 25 = .ok (.iaload, 1) := by decide +kernel
theorem dX11_putBack_26 : decode cX11_putBack 26 = .ok (.iastore, 1) := by decide +kernel
theorem dX11_putBack_27 : decode cX11_putBack 27 = .ok (.iinc 2 1, 3) := by decide +kernel
theorem dX11_putBack_30 : decode cX11_putBack 30 = .ok (.goto (-28), 3) := by decide +kernel
theorem dX11_putBack_33 : decode cX11_putBack 33 = .ok (.return_, 1) := by decide +kernel
def D_X11_putBack_2b (k2 : z_H → Option Nat → Int32 → Int32 → Option z_H) (h : z_H) (l0 : Option Nat) (l1 : Int32) (l2 : Int32) : Option z_H :=
  if (39:Int32) ≤ l2 then
    some h
  else
    (z_gQ 11 h l0 3).bind fun x1072 =>
    (z_gQ 11 h l0 6).bind fun x1073 =>
    (z_aI .int h x1073 (((39:Int32) * l1) + l2)).bind fun x1074 =>
    (z_sI h x1072 ((5:Int32) + l2) x1074).bind fun h1075 =>
    (some (l2 + (1:Int32))).bind fun x1076 =>
    k2 h1075 l0 l1 x1076
def D_X11_putBack_2 (n : Nat) : z_H → Option Nat → Int32 → Int32 → Option z_H := Nat.rec (motive := fun _ => z_H → Option Nat → Int32 → Int32 → Option z_H) (fun _ _ _ _ => none) (fun _ k => D_X11_putBack_2b  k) n
set_option maxRecDepth 100000 in
set_option maxHeartbeats 4000000 in
theorem S_X11_putBack_2 {G : z_G} {l : Launch}  (n : Nat) : ∀ {h : z_H} {l0 : Option Nat} {l1 : Int32} {l2 : Int32} {res : z_H}, D_X11_putBack_2  n h l0 l1 l2 = some res → z_Run G l 4 M_X11_putBack 2 [(0, z_r l0), (1, .int l1), (2, .int l2)] [] h res none := by
  induction n with
  | zero => intro h l0 l1 l2 res e; cases e
  | succ n hk2 =>
    intro h l0 l1 l2 res e
    replace e : D_X11_putBack_2b  (D_X11_putBack_2  n) h l0 l1 l2 = some res := e
    unfold D_X11_putBack_2b at e
    refine z_iload_n 2 dX11_putBack_2 rfl ?_
    refine z_bipush (v := 39) dX11_putBack_3 (by decide) ?_
    refine z_icmp_ge (tgt := 33) dX11_putBack_5 (by decide) (fun c1071 => ?_) (fun c1071 => ?_)
    · rw [if_pos c1071] at e
      cases e
      exact z_vret dX11_putBack_33 rfl
    · rw [if_neg c1071] at e
      refine z_aload_n 0 dX11_putBack_8 rfl ?_
      replace e := z_bd e; obtain ⟨x1072, ex1072, e⟩ := e
      refine z_getQ ex1072 lk_X11_13 dX11_putBack_9 ?_
      refine z_iconst (v := 5) dX11_putBack_12 (by decide) ?_
      refine z_iload_n 2 dX11_putBack_13 rfl ?_
      refine z_iadd dX11_putBack_14 ?_
      refine z_aload_n 0 dX11_putBack_15 rfl ?_
      replace e := z_bd e; obtain ⟨x1073, ex1073, e⟩ := e
      refine z_getQ ex1073 lk_X11_23 dX11_putBack_16 ?_
      refine z_bipush (v := 39) dX11_putBack_19 (by decide) ?_
      refine z_iload_n 1 dX11_putBack_21 rfl ?_
      refine z_imul dX11_putBack_22 ?_
      refine z_iload_n 2 dX11_putBack_23 rfl ?_
      refine z_iadd dX11_putBack_24 ?_
      replace e := z_bd e; obtain ⟨x1074, ex1074, e⟩ := e
      refine z_iald ex1074 dX11_putBack_25 ?_
      replace e := z_bd e; obtain ⟨h1075, eh1075, e⟩ := e
      refine z_iast eh1075 dX11_putBack_26 ?_
      replace e := z_bd e; obtain ⟨x1076, ex1076, e⟩ := e
      refine z_iinc (q := 2) (v := x1076) (L' := [(2, .int x1076), (0, z_r l0), (1, .int l1)]) dX11_putBack_27 rfl (Option.some.inj ex1076) (by decide) rfl ?_
      refine z_goto (tgt := 2) dX11_putBack_30 (by decide) ?_
      exact z_weak [1, 2, 0] rfl (hk2 e)
def D_X11_putBack (h : z_H) (l0 : Option Nat) (l1 : Int32) : Option z_H :=
  D_X11_putBack_2   z_F h l0 l1 (0:Int32)
set_option maxRecDepth 100000 in
set_option maxHeartbeats 4000000 in
theorem S_X11_putBack {G : z_G} {l : Launch} {h : z_H} {l0 : Option Nat} {l1 : Int32} {res : z_H} (e : D_X11_putBack h l0 l1 = some res) : z_Meth G l 4 M_X11_putBack [z_r l0, .int l1] h res none := by
  refine z_Meth.of ck_X11_putBack.2.2.2.2 (by simp [lg_sl, z_ci, z_cj, z_cr, z_cx]) ck_X11_putBack.1 ?_
  rw [show lv_args 0 [z_r l0, .int l1] = [(0, z_r l0), (1, .int l1)] from by simp [lv_args, z_ci, z_cj, z_cr, z_cx]]
  unfold D_X11_putBack at e
  refine z_iconst (v := 0) dX11_putBack_0 (by decide) ?_
  refine z_istore_n (L' := [(2, .int (0:Int32)), (0, z_r l0), (1, .int l1)]) dX11_putBack_1 rfl (by decide) rfl ?_
  exact z_weak [1, 2, 0] rfl (S_X11_putBack_2   z_F e)
theorem dX11_years_0 : decode cX11_years 0 = .ok (.aload_n 0, 1) := by decide +kernel
theorem dX11_years_1 : decode cX11_years 1 = .ok (.iconst 0, 1) := by decide +kernel
theorem dX11_years_2 : decode cX11_years 2 = .ok (.putfield 166, 3) := by decide +kernel
theorem dX11_years_5 : decode cX11_years 5 = .ok (.iload_n 1, 1) := by decide +kernel
theorem dX11_years_6 : decode cX11_years 6 = .ok (.i2l, 1) := by decide +kernel
theorem dX11_years_7 : decode cX11_years 7 = .ok (.lconst 0, 1) := by decide +kernel
theorem dX11_years_8 : decode cX11_years 8 = .ok (.ldc2_w 280, 3) := by decide +kernel
theorem dX11_years_11 : decode cX11_years 11 = .ok (.invokestatic 186, 3) := by decide +kernel
theorem dX11_years_14 : decode cX11_years 14 = .ok (.ifCond .eq 15, 3) := by decide +kernel
theorem dX11_years_17 : decode cX11_years 17 = .ok (.iload_n 2, 1) := by decide +kernel
theorem dX11_years_18 : decode cX11_years 18 = .ok (.i2l, 1) := by decide +kernel
theorem dX11_years_19 : decode cX11_years 19 = .ok (.lconst 1, 1) := by decide +kernel
theorem dX11_years_20 : decode cX11_years 20 = .ok (.ldc2_w 568, 3) := by decide +kernel
theorem dX11_years_23 : decode cX11_years 23 = .ok (.invokestatic 186, 3) := by decide +kernel
theorem dX11_years_26 : decode cX11_years 26 = .ok (.ifCond .ne 9, 3) := by decide +kernel
theorem dX11_years_29 : decode cX11_years 29 = .ok (.aload_n 0, 1) := by decide +kernel
theorem dX11_years_30 : decode cX11_years 30 = .ok (.iconst (-1), 1) := by decide +kernel
theorem dX11_years_31 : decode cX11_years 31 = .ok (.invokevirtual 175, 3) := by decide +kernel
theorem dX11_years_34 : decode cX11_years 34 = .ok (.ireturn, 1) := by decide +kernel
theorem dX11_years_35 : decode cX11_years 35 = .ok (.aload_n 0, 1) := by decide +kernel
theorem dX11_years_36 : decode cX11_years 36 = .ok (.getfield 13, 3) := by decide +kernel
theorem dX11_years_39 : decode cX11_years 39 = .ok (.iconst 0, 1) := by decide +kernel
theorem dX11_years_40 : decode cX11_years 40 = .ok (.iaload, 1) := by decide +kernel
theorem dX11_years_41 : decode cX11_years 41 = .ok (.ifCond .ne 10, 3) := by decide +kernel
theorem dX11_years_44 : decode cX11_years 44 = .ok (.aload_n 0, 1) := by decide +kernel
theorem dX11_years_45 : decode cX11_years 45 = .ok (.bipush (-3), 2) := by decide +kernel
theorem dX11_years_47 : decode cX11_years 47 = .ok (.invokevirtual 175, 3) := by decide +kernel
theorem dX11_years_50 : decode cX11_years 50 = .ok (.ireturn, 1) := by decide +kernel
theorem dX11_years_51 : decode cX11_years 51 = .ok (.aload_n 0, 1) := by decide +kernel
theorem dX11_years_52 : decode cX11_years 52 = .ok (.bipush 16, 2) := by decide +kernel
theorem dX11_years_54 : decode cX11_years 54 = .ok (.invokevirtual 179, 3) := by decide +kernel
theorem dX11_years_57 : decode cX11_years 57 = .ok (.aload_n 0, 1) := by decide +kernel
theorem dX11_years_58 : decode cX11_years 58 = .ok (.iload_n 1, 1) := by decide +kernel
theorem dX11_years_59 : decode cX11_years 59 = .ok (.i2l, 1) := by decide +kernel
theorem dX11_years_60 : decode cX11_years 60 = .ok (.putfield 559, 3) := by decide +kernel
theorem dX11_years_63 : decode cX11_years 63 = .ok (.iconst 0, 1) := by decide +kernel
theorem dX11_years_64 : decode cX11_years 64 = .ok (.istore_n 3, 1) := by decide +kernel
theorem dX11_years_65 : decode cX11_years 65 = .ok (.iconst 0, 1) := by decide +kernel
theorem dX11_years_66 : decode cX11_years 66 = .ok (.istore 4, 2) := by decide +kernel
theorem dX11_years_68 : decode cX11_years 68 = .ok (.iload 4, 2) := by decide +kernel
theorem dX11_years_70 : decode cX11_years 70 = .ok (.iload_n 2, 1) := by decide +kernel
theorem dX11_years_71 : decode cX11_years 71 = .ok (.if_icmp .ge 146, 3) := by decide +kernel
theorem dX11_years_74 : decode cX11_years 74 = .ok (.aload_n 0, 1) := by decide +kernel
theorem dX11_years_75 : decode cX11_years 75 = .ok (.getfield 13, 3) := by decide +kernel
theorem dX11_years_78 : decode cX11_years 78 = .ok (.iconst 5, 1) := by decide +kernel
theorem dX11_years_79 : decode cX11_years 79 = .ok (.iaload, 1) := by decide +kernel
theorem dX11_years_80 : decode cX11_years 80 = .ok (.sipush 999, 3) := by decide +kernel
theorem dX11_years_83 : decode cX11_years 83 = .ok (.if_icmp .ge 134, 3) := by decide +kernel
theorem dX11_years_86 : decode cX11_years 86 = .ok (.aload_n 0, 1) := by decide +kernel
theorem dX11_years_87 : decode cX11_years 87 = .ok (.aload_n 0, 1) := by decide +kernel
theorem dX11_years_88 : decode cX11_years 88 = .ok (.getfield 13, 3) := by decide +kernel
theorem dX11_years_91 : decode cX11_years 91 = .ok (.iconst 0, 1) := by decide +kernel
theorem dX11_years_92 : decode cX11_years 92 = .ok (.iaload, 1) := by decide +kernel
theorem dX11_years_93 : decode cX11_years 93 = .ok (.invokevirtual 570, 3) := by decide +kernel
theorem dX11_years_96 : decode cX11_years 96 = .ok (.istore 5, 2) := by decide +kernel
theorem dX11_years_98 : decode cX11_years 98 = .ok (.aload_n 0, 1) := by decide +kernel
theorem dX11_years_99 : decode cX11_years 99 = .ok (.iconst 4, 1) := by decide +kernel
theorem dX11_years_100 : decode cX11_years 100 = .ok (.invokevirtual 570, 3) := by decide +kernel
theorem dX11_years_103 : decode cX11_years 103 = .ok (.istore 6, 2) := by decide +kernel
theorem dX11_years_105 : decode cX11_years 105 = .ok (.aload_n 0, 1) := by decide +kernel
theorem dX11_years_106 : decode cX11_years 106 = .ok (.iconst 2, 1) := by decide +kernel
theorem dX11_years_107 : decode cX11_years 107 = .ok (.invokevirtual 570, 3) := by decide +kernel
theorem dX11_years_110 : decode cX11_years 110 = .ok (.istore 7, 2) := by decide +kernel
theorem dX11_years_112 : decode cX11_years 112 = .ok (.iload 6, 2) := by decide +kernel
theorem dX11_years_114 : decode cX11_years 114 = .ok (.iconst 2, 1) := by decide +kernel
theorem dX11_years_115 : decode cX11_years 115 = .ok (.if_icmp .ge 32, 3) := by decide +kernel
theorem dX11_years_118 : decode cX11_years 118 = .ok (.aload_n 0, 1) := by decide +kernel
theorem dX11_years_119 : decode cX11_years 119 = .ok (.iload 5, 2) := by decide +kernel
theorem dX11_years_121 : decode cX11_years 121 = .ok (.aload_n 0, 1) := by decide +kernel
theorem dX11_years_122 : decode cX11_years 122 = .ok (.getfield 13, 3) := by decide +kernel
theorem dX11_years_125 : decode cX11_years 125 = .ok (.bipush 8, 2) := by decide +kernel
theorem dX11_years_127 : decode cX11_years 127 = .ok (.iload 5, 2) := by decide +kernel
theorem dX11_years_129 : decode cX11_years 129 = .ok (.iadd, 1) := by decide +kernel
theorem dX11_years_130 : decode cX11_years 130 = .ok (.iaload, 1) := by decide +kernel
theorem dX11_years_131 : decode cX11_years 131 = .ok (.aload_n 0, 1) := by decide +kernel
theorem dX11_years_132 : decode cX11_years 132 = .ok (.getfield 13, 3) := by decide +kernel
theorem dX11_years_135 : decode cX11_years 135 = .ok (.bipush 14, 2) := by decide +kernel
theorem dX11_years_137 : decode cX11_years 137 = .ok (.iload 5, 2) := by decide +kernel
theorem dX11_years_139 : decode cX11_years 139 = .ok (.iadd, 1) := by decide +kernel
theorem dX11_years_140 : decode cX11_years 140 = .ok (.iaload, 1) := by decide +kernel
theorem dX11_years_141 : decode cX11_years 141 = .ok (.invokevirtual 216, 3) := by decide +kernel
theorem dX11_years_144 : decode cX11_years 144 = .ok (.goto 4, 3) := by decide +kernel
theorem dX11_years_147 : decode cX11_years 147 = .ok (.iconst (-1), 1) := by decide +kernel
theorem dX11_years_148 : decode cX11_years 148 = .ok (.istore 8, 2) := by decide +kernel
theorem dX11_years_150 : decode cX11_years 150 = .ok (.iload 8, 2) := by decide +kernel
theorem dX11_years_152 : decode cX11_years 152 = .ok (.iconst (-1), 1) := by decide +kernel
theorem dX11_years_153 : decode cX11_years 153 = .ok (.if_icmp .eq 14, 3) := by decide +kernel
theorem dX11_years_156 : decode cX11_years 156 = .ok (.aload_n 0, 1) := by decide +kernel
theorem dX11_years_157 : decode cX11_years 157 = .ok (.iload 5, 2) := by decide +kernel
theorem dX11_years_159 : decode cX11_years 159 = .ok (.iload 8, 2) := by decide +kernel
theorem dX11_years_161 : decode cX11_years 161 = .ok (.invokevirtual 449, 3) := by decide +kernel
theorem dX11_years_164 : decode cX11_years 164 = .ok (.iinc 3 1, 3) := by decide +kernel
theorem dX11_years_167 : decode cX11_years 167 = .ok (.iload 6, 2) := by decide +kernel
theorem dX11_years_169 : decode cX11_years 169 = .ok (.iconst 2, 1) := by decide +kernel
theorem dX11_years_170 : decode cX11_years 170 = .ok (.if_icmp .ne 11, 3) := by decide +kernel
theorem dX11_years_173 : decode cX11_years 173 = .ok (.aload_n 0, 1) := by decide +kernel
theorem dX11_years_174 : decode cX11_years 174 = .ok (.iload 5, 2) := by decide +kernel
theorem dX11_years_176 : decode cX11_years 176 = .ok (.iload 7, 2) := by decide +kernel
theorem dX11_years_178 : decode cX11_years 178 = .ok (.invokevirtual 458, 3) := by decide +kernel
theorem dX11_years_181 : decode cX11_years 181 = .ok (.iload 6, 2) := by decide +kernel
theorem dX11_years_183 : decode cX11_years 183 = .ok (.iconst 3, 1) := by decide +kernel
theorem dX11_years_184 : decode cX11_years 184 = .ok (.if_icmp .ne 17, 3) := by decide +kernel
theorem dX11_years_187 : decode cX11_years 187 = .ok (.aload_n 0, 1) := by decide +kernel
theorem dX11_years_188 : decode cX11_years 188 = .ok (.iload 5, 2) := by decide +kernel
theorem dX11_years_190 : decode cX11_years 190 = .ok (.iconst 1, 1) := by decide +kernel
theorem dX11_years_191 : decode cX11_years 191 = .ok (.aload_n 0, 1) := by decide +kernel
theorem dX11_years_192 : decode cX11_years 192 = .ok (.iload 5, 2) := by decide +kernel
theorem dX11_years_194 : decode cX11_years 194 = .ok (.iconst 1, 1) := by decide +kernel
theorem dX11_years_195 : decode cX11_years 195 = .ok (.invokevirtual 226, 3) := by decide +kernel
theorem dX11_years_198 : decode cX11_years 198 = .ok (.invokevirtual 442, 3) := by decide +kernel
theorem dX11_years_201 : decode cX11_years 201 = .ok (.aload_n 0, 1) := by decide +kernel
theorem dX11_years_202 : decode cX11_years 202 = .ok (.getfield 13, 3) := by decide +kernel
theorem dX11_years_205 : decode cX11_years 205 = .ok (.iconst 5, 1) := by decide +kernel
theorem dX11_years_206 : decode cX11_years 206 = .ok (.dup2, 1) := by decide +kernel
theorem dX11_years_207 : decode cX11_years 207 = .ok (.iaload, 1) := by decide +kernel
theorem dX11_years_208 : decode cX11_years 208 = .ok (.iconst 1, 1) := by decide +kernel
theorem dX11_years_209 : decode cX11_years 209 = .ok (.iadd, 1) := by decide +kernel
theorem dX11_years_210 : decode cX11_years 210 = .ok (.iastore, 1) := by decide +kernel
theorem dX11_years_211 : decode cX11_years 211 = .ok (.iinc 4 1, 3) := by decide +kernel
theorem dX11_years_214 : decode cX11_years 214 = .ok (.goto (-146), 3) := by decide +kernel
theorem dX11_years_217 : decode cX11_years 217 = .ok (.iconst 0, 1) := by decide +kernel
theorem dX11_years_218 : decode cX11_years 218 = .ok (.istore 4, 2) := by decide +kernel
theorem dX11_years_220 : decode cX11_years 220 = .ok (.iload 4, 2) := by decide +kernel
theorem dX11_years_222 : decode cX11_years 222 = .ok (.bipush 39, 2) := by decide +kernel
theorem dX11_years_224 : decode cX11_years 224 = .ok (.if_icmp .ge 25, 3) := by decide +kernel
theorem dX11_years_227 : decode cX11_years 227 = .ok (.aload_n 0, 1) := by decide +kernel
theorem dX11_years_228 : decode cX11_years 228 = .ok (.getfield 160, 3) := by decide +kernel
theorem dX11_years_231 : decode cX11_years 231 = .ok (.iload 4, 2) := by decide +kernel
theorem dX11_years_233 : decode cX11_years 233 = .ok (.aload_n 0, 1) := by decide +kernel
theorem dX11_years_234 : decode cX11_years 234 = .ok (.getfield 13, 3) := by decide +kernel
theorem dX11_years_237 : decode cX11_years 237 = .ok (.iconst 5, 1) := by decide +kernel
theorem dX11_years_238 : decode cX11_years 238 = .ok (.iload 4, 2) := by decide +kernel
theorem dX11_years_240 : decode cX11_years 240 = .ok (.iadd, 1) := by decide +kernel
theorem dX11_years_241 : decode cX11_years 241 = .ok (.iaload, 1) := by decide +kernel
theorem dX11_years_242 : decode cX11_years 242 = .ok (.iastore, 1) := by decide +kernel
theorem dX11_years_243 : decode cX11_years 243 = .ok (.iinc 4 1, 3) := by decide +kernel
theorem dX11_years_246 : decode cX11_years 246 = .ok (.goto (-26), 3) := by decide +kernel
theorem dX11_years_249 : decode cX11_years 249 = .ok (.aload_n 0, 1) := by decide +kernel
theorem dX11_years_250 : decode cX11_years 250 = .ok (.aload_n 0, 1) := by decide +kernel
theorem dX11_years_251 : decode cX11_years 251 = .ok (.getfield 13, 3) := by decide +kernel
theorem dX11_years_254 : decode cX11_years 254 = .ok (.iconst 0, 1) := by decide +kernel
theorem dX11_years_255 : decode cX11_years 255 = .ok (.iaload, 1) := by decide +kernel
theorem dX11_years_256 : decode cX11_years 256 = .ok (.putfield 163, 3) := by decide +kernel
theorem dX11_years_259 : decode cX11_years 259 = .ok (.aload_n 0, 1) := by decide +kernel
theorem dX11_years_260 : decode cX11_years 260 = .ok (.bipush 16, 2) := by decide +kernel
theorem dX11_years_262 : decode cX11_years 262 = .ok (.invokevirtual 183, 3) := by decide +kernel
theorem dX11_years_265 : decode cX11_years 265 = .ok (.aload_n 0, 1) := by decide +kernel
theorem dX11_years_266 : decode cX11_years 266 = .ok (.iload_n 3, 1) := by decide +kernel
theorem dX11_years_267 : decode cX11_years 267 = .ok (.invokevirtual 175, 3) := by decide +kernel
theorem dX11_years_270 : decode cX11_years 270 = .ok (.ireturn, 1) := by decide +kernel
def D_X11_years_29 (h : z_H) (l0 : Option Nat) : Option (Int32 × z_H) :=
  (z_ob 11 h l0).bind fun _ =>
  (D_X11_tell  h l0 (-1:Int32)).bind fun p1077 =>
  some (p1077.1, p1077.2)
set_option maxRecDepth 100000 in
set_option maxHeartbeats 4000000 in
theorem S_X11_years_29 {G : z_G} {l : Launch}  {h : z_H} {l0 : Option Nat} {res : (Int32 × z_H)} (e : D_X11_years_29  h l0 = some res) : z_Run G l 12 M_X11_years 29 [(0, z_r l0)] [] h res.2 (some (.int res.1)) := by
  unfold D_X11_years_29 at e
  refine z_aload_n 0 dX11_years_29 rfl ?_
  refine z_iconst (v := -1) dX11_years_30 (by decide) ?_
  replace e := z_bd e; obtain ⟨o1078, eo1078, e⟩ := e
  replace e := z_bd e; obtain ⟨p1077, ep1077, e⟩ := e
  refine z_cV [.int (-1:Int32)] (S_X11_tell  ep1077) eo1078 rfl ml_X11_175 ck_X11_tell vk_X11_tell dX11_years_31 (by decide) rfl (Nat.zero_le _) rfl ?_
  cases e
  exact z_iret dX11_years_34 rfl
def D_X11_years_220b (k220 : z_H → Option Nat → Int32 → Int32 → Option (Int32 × z_H)) (h : z_H) (l0 : Option Nat) (l3 : Int32) (l4 : Int32) : Option (Int32 × z_H) :=
  if (39:Int32) ≤ l4 then
    (z_gQ 11 h l0 3).bind fun x1080 =>
    (z_aI .int h x1080 (0:Int32)).bind fun x1081 =>
    (z_pV 11 h l0 58 (.int x1081)).bind fun h1082 =>
    (z_ob 11 h1082 l0).bind fun _ =>
    (D_X11_putBack  h1082 l0 (16:Int32)).bind fun p1083 =>
    (z_ob 11 p1083 l0).bind fun _ =>
    (D_X11_tell  p1083 l0 l3).bind fun p1085 =>
    some (p1085.1, p1085.2)
  else
    (z_gQ 11 h l0 57).bind fun x1087 =>
    (z_gQ 11 h l0 3).bind fun x1088 =>
    (z_aI .int h x1088 ((5:Int32) + l4)).bind fun x1089 =>
    (z_sI h x1087 l4 x1089).bind fun h1090 =>
    (some (l4 + (1:Int32))).bind fun x1091 =>
    k220 h1090 l0 l3 x1091
def D_X11_years_220 (n : Nat) : z_H → Option Nat → Int32 → Int32 → Option (Int32 × z_H) := Nat.rec (motive := fun _ => z_H → Option Nat → Int32 → Int32 → Option (Int32 × z_H)) (fun _ _ _ _ => none) (fun _ k => D_X11_years_220b  k) n
set_option maxRecDepth 100000 in
set_option maxHeartbeats 4000000 in
theorem S_X11_years_220 {G : z_G} {l : Launch}  (n : Nat) : ∀ {h : z_H} {l0 : Option Nat} {l3 : Int32} {l4 : Int32} {res : (Int32 × z_H)}, D_X11_years_220  n h l0 l3 l4 = some res → z_Run G l 12 M_X11_years 220 [(0, z_r l0), (3, .int l3), (4, .int l4)] [] h res.2 (some (.int res.1)) := by
  induction n with
  | zero => intro h l0 l3 l4 res e; cases e
  | succ n hk220 =>
    intro h l0 l3 l4 res e
    replace e : D_X11_years_220b  (D_X11_years_220  n) h l0 l3 l4 = some res := e
    unfold D_X11_years_220b at e
    refine z_iload 2 dX11_years_220 rfl ?_
    refine z_bipush (v := 39) dX11_years_222 (by decide) ?_
    refine z_icmp_ge (tgt := 249) dX11_years_224 (by decide) (fun c1079 => ?_) (fun c1079 => ?_)
    · rw [if_pos c1079] at e
      refine z_aload_n 0 dX11_years_249 rfl ?_
      refine z_aload_n 0 dX11_years_250 rfl ?_
      replace e := z_bd e; obtain ⟨x1080, ex1080, e⟩ := e
      refine z_getQ ex1080 lk_X11_13 dX11_years_251 ?_
      refine z_iconst (v := 0) dX11_years_254 (by decide) ?_
      replace e := z_bd e; obtain ⟨x1081, ex1081, e⟩ := e
      refine z_iald ex1081 dX11_years_255 ?_
      replace e := z_bd e; obtain ⟨h1082, eh1082, e⟩ := e
      refine z_putV eh1082 lk_X11_163 wk_11_58 (fun _ => rfl) (fun _ => rfl) dX11_years_256 ?_
      refine z_aload_n 0 dX11_years_259 rfl ?_
      refine z_bipush (v := 16) dX11_years_260 (by decide) ?_
      replace e := z_bd e; obtain ⟨o1084, eo1084, e⟩ := e
      replace e := z_bd e; obtain ⟨p1083, ep1083, e⟩ := e
      refine z_cV [.int (16:Int32)] (S_X11_putBack  ep1083) eo1084 rfl ml_X11_183 ck_X11_putBack vk_X11_putBack dX11_years_262 (by decide) rfl (Nat.zero_le _) rfl ?_
      refine z_aload_n 0 dX11_years_265 rfl ?_
      refine z_iload_n 1 dX11_years_266 rfl ?_
      replace e := z_bd e; obtain ⟨o1086, eo1086, e⟩ := e
      replace e := z_bd e; obtain ⟨p1085, ep1085, e⟩ := e
      refine z_cV [.int l3] (S_X11_tell  ep1085) eo1086 rfl ml_X11_175 ck_X11_tell vk_X11_tell dX11_years_267 (by decide) rfl (Nat.zero_le _) rfl ?_
      cases e
      exact z_iret dX11_years_270 rfl
    · rw [if_neg c1079] at e
      refine z_aload_n 0 dX11_years_227 rfl ?_
      replace e := z_bd e; obtain ⟨x1087, ex1087, e⟩ := e
      refine z_getQ ex1087 lk_X11_160 dX11_years_228 ?_
      refine z_iload 2 dX11_years_231 rfl ?_
      refine z_aload_n 0 dX11_years_233 rfl ?_
      replace e := z_bd e; obtain ⟨x1088, ex1088, e⟩ := e
      refine z_getQ ex1088 lk_X11_13 dX11_years_234 ?_
      refine z_iconst (v := 5) dX11_years_237 (by decide) ?_
      refine z_iload 2 dX11_years_238 rfl ?_
      refine z_iadd dX11_years_240 ?_
      replace e := z_bd e; obtain ⟨x1089, ex1089, e⟩ := e
      refine z_iald ex1089 dX11_years_241 ?_
      replace e := z_bd e; obtain ⟨h1090, eh1090, e⟩ := e
      refine z_iast eh1090 dX11_years_242 ?_
      replace e := z_bd e; obtain ⟨x1091, ex1091, e⟩ := e
      refine z_iinc (q := 2) (v := x1091) (L' := [(4, .int x1091), (0, z_r l0), (3, .int l3)]) dX11_years_243 rfl (Option.some.inj ex1091) (by decide) rfl ?_
      refine z_goto (tgt := 220) dX11_years_246 (by decide) ?_
      exact z_weak [1, 2, 0] rfl (hk220 e)
def D_X11_years_217 (h : z_H) (l0 : Option Nat) (l3 : Int32) : Option (Int32 × z_H) :=
  D_X11_years_220   z_F h l0 l3 (0:Int32)
set_option maxRecDepth 100000 in
set_option maxHeartbeats 4000000 in
theorem S_X11_years_217 {G : z_G} {l : Launch}  {h : z_H} {l0 : Option Nat} {l3 : Int32} {res : (Int32 × z_H)} (e : D_X11_years_217  h l0 l3 = some res) : z_Run G l 12 M_X11_years 217 [(0, z_r l0), (3, .int l3)] [] h res.2 (some (.int res.1)) := by
  unfold D_X11_years_217 at e
  refine z_iconst (v := 0) dX11_years_217 (by decide) ?_
  refine z_istore (L' := [(4, .int (0:Int32)), (0, z_r l0), (3, .int l3)]) dX11_years_218 (by decide) rfl ?_
  exact z_weak [1, 2, 0] rfl (S_X11_years_220   z_F e)
def D_X11_years_201 (k68 : z_H → Option Nat → Int32 → Int32 → Int32 → Option (Int32 × z_H)) (h : z_H) (l0 : Option Nat) (l2 : Int32) (l3 : Int32) (l4 : Int32) : Option (Int32 × z_H) :=
  (z_gQ 11 h l0 3).bind fun x1092 =>
  (z_aI .int h x1092 (5:Int32)).bind fun x1093 =>
  (z_sI h x1092 (5:Int32) (x1093 + (1:Int32))).bind fun h1094 =>
  (some (l4 + (1:Int32))).bind fun x1095 =>
  k68 h1094 l0 l2 l3 x1095
set_option maxRecDepth 100000 in
set_option maxHeartbeats 4000000 in
theorem S_X11_years_201 {G : z_G} {l : Launch} {k68 : z_H → Option Nat → Int32 → Int32 → Int32 → Option (Int32 × z_H)} (hk68 : ∀ {h : z_H} {l0 : Option Nat} {l2 : Int32} {l3 : Int32} {l4 : Int32} {res : (Int32 × z_H)}, k68 h l0 l2 l3 l4 = some res → z_Run G l 12 M_X11_years 68 [(0, z_r l0), (2, .int l2), (3, .int l3), (4, .int l4)] [] h res.2 (some (.int res.1))) {h : z_H} {l0 : Option Nat} {l2 : Int32} {l3 : Int32} {l4 : Int32} {res : (Int32 × z_H)} (e : D_X11_years_201 k68 h l0 l2 l3 l4 = some res) : z_Run G l 12 M_X11_years 201 [(0, z_r l0), (2, .int l2), (3, .int l3), (4, .int l4)] [] h res.2 (some (.int res.1)) := by
  unfold D_X11_years_201 at e
  refine z_aload_n 0 dX11_years_201 rfl ?_
  replace e := z_bd e; obtain ⟨x1092, ex1092, e⟩ := e
  refine z_getQ ex1092 lk_X11_13 dX11_years_202 ?_
  refine z_iconst (v := 5) dX11_years_205 (by decide) ?_
  refine z_dup2 dX11_years_206 rfl (z_cr _) ?_
  replace e := z_bd e; obtain ⟨x1093, ex1093, e⟩ := e
  refine z_iald ex1093 dX11_years_207 ?_
  refine z_iconst (v := 1) dX11_years_208 (by decide) ?_
  refine z_iadd dX11_years_209 ?_
  replace e := z_bd e; obtain ⟨h1094, eh1094, e⟩ := e
  refine z_iast eh1094 dX11_years_210 ?_
  replace e := z_bd e; obtain ⟨x1095, ex1095, e⟩ := e
  refine z_iinc (q := 3) (v := x1095) (L' := [(4, .int x1095), (0, z_r l0), (2, .int l2), (3, .int l3)]) dX11_years_211 rfl (Option.some.inj ex1095) (by decide) rfl ?_
  refine z_goto (tgt := 68) dX11_years_214 (by decide) ?_
  exact z_weak [1, 2, 3, 0] rfl (hk68 e)
def D_X11_years_181 (k68 : z_H → Option Nat → Int32 → Int32 → Int32 → Option (Int32 × z_H)) (h : z_H) (l0 : Option Nat) (l2 : Int32) (l3 : Int32) (l4 : Int32) (l5 : Int32) (l6 : Int32) : Option (Int32 × z_H) :=
  if l6 = (3:Int32) then
    (z_ob 11 h l0).bind fun _ =>
    (D_X11_wearsNow  h l0 l5 (1:Int32)).bind fun p1097 =>
    (z_ob 11 p1097.2 l0).bind fun _ =>
    (D_X11_wear  p1097.2 l0 l5 (1:Int32) p1097.1).bind fun p1099 =>
    D_X11_years_201  k68 p1099 l0 l2 l3 l4
  else
    D_X11_years_201  k68 h l0 l2 l3 l4
set_option maxRecDepth 100000 in
set_option maxHeartbeats 4000000 in
theorem S_X11_years_181 {G : z_G} {l : Launch} {k68 : z_H → Option Nat → Int32 → Int32 → Int32 → Option (Int32 × z_H)} (hk68 : ∀ {h : z_H} {l0 : Option Nat} {l2 : Int32} {l3 : Int32} {l4 : Int32} {res : (Int32 × z_H)}, k68 h l0 l2 l3 l4 = some res → z_Run G l 12 M_X11_years 68 [(0, z_r l0), (2, .int l2), (3, .int l3), (4, .int l4)] [] h res.2 (some (.int res.1))) {h : z_H} {l0 : Option Nat} {l2 : Int32} {l3 : Int32} {l4 : Int32} {l5 : Int32} {l6 : Int32} {res : (Int32 × z_H)} (e : D_X11_years_181 k68 h l0 l2 l3 l4 l5 l6 = some res) : z_Run G l 12 M_X11_years 181 [(0, z_r l0), (2, .int l2), (3, .int l3), (4, .int l4), (5, .int l5), (6, .int l6)] [] h res.2 (some (.int res.1)) := by
  unfold D_X11_years_181 at e
  refine z_iload 5 dX11_years_181 rfl ?_
  refine z_iconst (v := 3) dX11_years_183 (by decide) ?_
  refine z_icmp_ne (tgt := 201) dX11_years_184 (by decide) (fun c1096 => ?_) (fun c1096 => ?_)
  · rw [if_neg c1096] at e
    exact z_weak [0, 1, 2, 3] rfl (S_X11_years_201  @hk68 e)
  · rw [if_pos c1096] at e
    refine z_aload_n 0 dX11_years_187 rfl ?_
    refine z_iload 4 dX11_years_188 rfl ?_
    refine z_iconst (v := 1) dX11_years_190 (by decide) ?_
    refine z_aload_n 0 dX11_years_191 rfl ?_
    refine z_iload 4 dX11_years_192 rfl ?_
    refine z_iconst (v := 1) dX11_years_194 (by decide) ?_
    replace e := z_bd e; obtain ⟨o1098, eo1098, e⟩ := e
    replace e := z_bd e; obtain ⟨p1097, ep1097, e⟩ := e
    refine z_cV [.int l5, .int (1:Int32)] (S_X11_wearsNow  ep1097) eo1098 rfl ml_X11_226 ck_X11_wearsNow vk_X11_wearsNow dX11_years_195 (by decide) rfl (by simp [z_ci, z_cj, z_cr, z_cx]) rfl ?_
    replace e := z_bd e; obtain ⟨o1100, eo1100, e⟩ := e
    replace e := z_bd e; obtain ⟨p1099, ep1099, e⟩ := e
    refine z_cV [.int l5, .int (1:Int32), .int p1097.1] (S_X11_wear  ep1099) eo1100 rfl ml_X11_442 ck_X11_wear vk_X11_wear dX11_years_198 (by decide) rfl (Nat.zero_le _) rfl ?_
    exact z_weak [0, 1, 2, 3] rfl (S_X11_years_201  @hk68 e)
def D_X11_years_167 (k68 : z_H → Option Nat → Int32 → Int32 → Int32 → Option (Int32 × z_H)) (h : z_H) (l0 : Option Nat) (l2 : Int32) (l3 : Int32) (l4 : Int32) (l5 : Int32) (l6 : Int32) (l7 : Int32) : Option (Int32 × z_H) :=
  if l6 = (2:Int32) then
    (z_ob 11 h l0).bind fun _ =>
    (D_X11_turnIt  h l0 l5 l7).bind fun p1102 =>
    D_X11_years_181  k68 p1102 l0 l2 l3 l4 l5 l6
  else
    D_X11_years_181  k68 h l0 l2 l3 l4 l5 l6
set_option maxRecDepth 100000 in
set_option maxHeartbeats 4000000 in
theorem S_X11_years_167 {G : z_G} {l : Launch} {k68 : z_H → Option Nat → Int32 → Int32 → Int32 → Option (Int32 × z_H)} (hk68 : ∀ {h : z_H} {l0 : Option Nat} {l2 : Int32} {l3 : Int32} {l4 : Int32} {res : (Int32 × z_H)}, k68 h l0 l2 l3 l4 = some res → z_Run G l 12 M_X11_years 68 [(0, z_r l0), (2, .int l2), (3, .int l3), (4, .int l4)] [] h res.2 (some (.int res.1))) {h : z_H} {l0 : Option Nat} {l2 : Int32} {l3 : Int32} {l4 : Int32} {l5 : Int32} {l6 : Int32} {l7 : Int32} {res : (Int32 × z_H)} (e : D_X11_years_167 k68 h l0 l2 l3 l4 l5 l6 l7 = some res) : z_Run G l 12 M_X11_years 167 [(0, z_r l0), (2, .int l2), (3, .int l3), (4, .int l4), (5, .int l5), (6, .int l6), (7, .int l7)] [] h res.2 (some (.int res.1)) := by
  unfold D_X11_years_167 at e
  refine z_iload 5 dX11_years_167 rfl ?_
  refine z_iconst (v := 2) dX11_years_169 (by decide) ?_
  refine z_icmp_ne (tgt := 181) dX11_years_170 (by decide) (fun c1101 => ?_) (fun c1101 => ?_)
  · rw [if_neg c1101] at e
    exact z_weak [0, 1, 2, 3, 4, 5] rfl (S_X11_years_181  @hk68 e)
  · rw [if_pos c1101] at e
    refine z_aload_n 0 dX11_years_173 rfl ?_
    refine z_iload 4 dX11_years_174 rfl ?_
    refine z_iload 6 dX11_years_176 rfl ?_
    replace e := z_bd e; obtain ⟨o1103, eo1103, e⟩ := e
    replace e := z_bd e; obtain ⟨p1102, ep1102, e⟩ := e
    refine z_cV [.int l5, .int l7] (S_X11_turnIt  ep1102) eo1103 rfl ml_X11_458 ck_X11_turnIt vk_X11_turnIt dX11_years_178 (by decide) rfl (Nat.zero_le _) rfl ?_
    exact z_weak [0, 1, 2, 3, 4, 5] rfl (S_X11_years_181  @hk68 e)
def D_X11_years_148 (k68 : z_H → Option Nat → Int32 → Int32 → Int32 → Option (Int32 × z_H)) (h : z_H) (l0 : Option Nat) (l2 : Int32) (l3 : Int32) (l4 : Int32) (l5 : Int32) (l6 : Int32) (l7 : Int32) (s0 : Int32) : Option (Int32 × z_H) :=
  if s0 = (-1:Int32) then
    D_X11_years_167  k68 h l0 l2 l3 l4 l5 l6 l7
  else
    (z_ob 11 h l0).bind fun _ =>
    (D_X11_stepIt  h l0 l5 s0).bind fun p1105 =>
    (some (l3 + (1:Int32))).bind fun x1107 =>
    D_X11_years_167  k68 p1105 l0 l2 x1107 l4 l5 l6 l7
set_option maxRecDepth 100000 in
set_option maxHeartbeats 4000000 in
theorem S_X11_years_148 {G : z_G} {l : Launch} {k68 : z_H → Option Nat → Int32 → Int32 → Int32 → Option (Int32 × z_H)} (hk68 : ∀ {h : z_H} {l0 : Option Nat} {l2 : Int32} {l3 : Int32} {l4 : Int32} {res : (Int32 × z_H)}, k68 h l0 l2 l3 l4 = some res → z_Run G l 12 M_X11_years 68 [(0, z_r l0), (2, .int l2), (3, .int l3), (4, .int l4)] [] h res.2 (some (.int res.1))) {h : z_H} {l0 : Option Nat} {l2 : Int32} {l3 : Int32} {l4 : Int32} {l5 : Int32} {l6 : Int32} {l7 : Int32} {s0 : Int32} {res : (Int32 × z_H)} (e : D_X11_years_148 k68 h l0 l2 l3 l4 l5 l6 l7 s0 = some res) : z_Run G l 12 M_X11_years 148 [(0, z_r l0), (2, .int l2), (3, .int l3), (4, .int l4), (5, .int l5), (6, .int l6), (7, .int l7)] [.int s0] h res.2 (some (.int res.1)) := by
  unfold D_X11_years_148 at e
  refine z_istore (L' := [(8, .int s0), (0, z_r l0), (2, .int l2), (3, .int l3), (4, .int l4), (5, .int l5), (6, .int l6), (7, .int l7)]) dX11_years_148 (by decide) rfl ?_
  refine z_iload 0 dX11_years_150 rfl ?_
  refine z_iconst (v := -1) dX11_years_152 (by decide) ?_
  refine z_icmp_eq (tgt := 167) dX11_years_153 (by decide) (fun c1104 => ?_) (fun c1104 => ?_)
  · rw [if_pos c1104] at e
    exact z_weak [1, 2, 3, 4, 5, 6, 7] rfl (S_X11_years_167  @hk68 e)
  · rw [if_neg c1104] at e
    refine z_aload_n 1 dX11_years_156 rfl ?_
    refine z_iload 5 dX11_years_157 rfl ?_
    refine z_iload 0 dX11_years_159 rfl ?_
    replace e := z_bd e; obtain ⟨o1106, eo1106, e⟩ := e
    replace e := z_bd e; obtain ⟨p1105, ep1105, e⟩ := e
    refine z_cV [.int l5, .int s0] (S_X11_stepIt  ep1105) eo1106 rfl ml_X11_449 ck_X11_stepIt vk_X11_stepIt dX11_years_161 (by decide) rfl (Nat.zero_le _) rfl ?_
    replace e := z_bd e; obtain ⟨x1107, ex1107, e⟩ := e
    refine z_iinc (q := 3) (v := x1107) (L' := [(3, .int x1107), (8, .int s0), (0, z_r l0), (2, .int l2), (4, .int l4), (5, .int l5), (6, .int l6), (7, .int l7)]) dX11_years_164 rfl (Option.some.inj ex1107) (by decide) rfl ?_
    exact z_weak [2, 3, 0, 4, 5, 6, 7] rfl (S_X11_years_167  @hk68 e)
def D_X11_years_68b (k68 : z_H → Option Nat → Int32 → Int32 → Int32 → Option (Int32 × z_H)) (h : z_H) (l0 : Option Nat) (l2 : Int32) (l3 : Int32) (l4 : Int32) : Option (Int32 × z_H) :=
  if l2 ≤ l4 then
    D_X11_years_217   h l0 l3
  else
    (z_gQ 11 h l0 3).bind fun x1109 =>
    (z_aI .int h x1109 (5:Int32)).bind fun x1110 =>
    if (999:Int32) ≤ x1110 then
      D_X11_years_217   h l0 l3
    else
      (z_gQ 11 h l0 3).bind fun x1112 =>
      (z_aI .int h x1112 (0:Int32)).bind fun x1113 =>
      (z_ob 11 h l0).bind fun _ =>
      (D_X11_draw  h l0 x1113).bind fun p1114 =>
      (z_ob 11 p1114.2 l0).bind fun _ =>
      (D_X11_draw  p1114.2 l0 (4:Int32)).bind fun p1116 =>
      (z_ob 11 p1116.2 l0).bind fun _ =>
      (D_X11_draw  p1116.2 l0 (2:Int32)).bind fun p1118 =>
      if (2:Int32) ≤ p1116.1 then
        D_X11_years_148  k68 p1118.2 l0 l2 l3 l4 p1114.1 p1116.1 p1118.1 (-1:Int32)
      else
        (z_gQ 11 p1118.2 l0 3).bind fun x1121 =>
        (z_aI .int p1118.2 x1121 ((8:Int32) + p1114.1)).bind fun x1122 =>
        (z_gQ 11 p1118.2 l0 3).bind fun x1123 =>
        (z_aI .int p1118.2 x1123 ((14:Int32) + p1114.1)).bind fun x1124 =>
        (z_ob 11 p1118.2 l0).bind fun _ =>
        (D_X11_stepOf  p1118.2 l0 p1114.1 x1122 x1124).bind fun p1125 =>
        D_X11_years_148  k68 p1125.2 l0 l2 l3 l4 p1114.1 p1116.1 p1118.1 p1125.1
def D_X11_years_68 (n : Nat) : z_H → Option Nat → Int32 → Int32 → Int32 → Option (Int32 × z_H) := Nat.rec (motive := fun _ => z_H → Option Nat → Int32 → Int32 → Int32 → Option (Int32 × z_H)) (fun _ _ _ _ _ => none) (fun _ k => D_X11_years_68b  k) n
set_option maxRecDepth 100000 in
set_option maxHeartbeats 4000000 in
theorem S_X11_years_68 {G : z_G} {l : Launch}  (n : Nat) : ∀ {h : z_H} {l0 : Option Nat} {l2 : Int32} {l3 : Int32} {l4 : Int32} {res : (Int32 × z_H)}, D_X11_years_68  n h l0 l2 l3 l4 = some res → z_Run G l 12 M_X11_years 68 [(0, z_r l0), (2, .int l2), (3, .int l3), (4, .int l4)] [] h res.2 (some (.int res.1)) := by
  induction n with
  | zero => intro h l0 l2 l3 l4 res e; cases e
  | succ n hk68 =>
    intro h l0 l2 l3 l4 res e
    replace e : D_X11_years_68b  (D_X11_years_68  n) h l0 l2 l3 l4 = some res := e
    unfold D_X11_years_68b at e
    refine z_iload 3 dX11_years_68 rfl ?_
    refine z_iload_n 1 dX11_years_70 rfl ?_
    refine z_icmp_ge (tgt := 217) dX11_years_71 (by decide) (fun c1108 => ?_) (fun c1108 => ?_)
    · rw [if_pos c1108] at e
      exact z_weak [0, 2] rfl (S_X11_years_217   e)
    · rw [if_neg c1108] at e
      refine z_aload_n 0 dX11_years_74 rfl ?_
      replace e := z_bd e; obtain ⟨x1109, ex1109, e⟩ := e
      refine z_getQ ex1109 lk_X11_13 dX11_years_75 ?_
      refine z_iconst (v := 5) dX11_years_78 (by decide) ?_
      replace e := z_bd e; obtain ⟨x1110, ex1110, e⟩ := e
      refine z_iald ex1110 dX11_years_79 ?_
      refine z_sipush (v := 999) dX11_years_80 (by decide) ?_
      refine z_icmp_ge (tgt := 217) dX11_years_83 (by decide) (fun c1111 => ?_) (fun c1111 => ?_)
      · rw [if_pos c1111] at e
        exact z_weak [0, 2] rfl (S_X11_years_217   e)
      · rw [if_neg c1111] at e
        refine z_aload_n 0 dX11_years_86 rfl ?_
        refine z_aload_n 0 dX11_years_87 rfl ?_
        replace e := z_bd e; obtain ⟨x1112, ex1112, e⟩ := e
        refine z_getQ ex1112 lk_X11_13 dX11_years_88 ?_
        refine z_iconst (v := 0) dX11_years_91 (by decide) ?_
        replace e := z_bd e; obtain ⟨x1113, ex1113, e⟩ := e
        refine z_iald ex1113 dX11_years_92 ?_
        replace e := z_bd e; obtain ⟨o1115, eo1115, e⟩ := e
        replace e := z_bd e; obtain ⟨p1114, ep1114, e⟩ := e
        refine z_cV [.int x1113] (S_X11_draw  ep1114) eo1115 rfl ml_X11_570 ck_X11_draw vk_X11_draw dX11_years_93 (by decide) rfl (Nat.zero_le _) rfl ?_
        refine z_istore (L' := [(5, .int p1114.1), (0, z_r l0), (2, .int l2), (3, .int l3), (4, .int l4)]) dX11_years_96 (by decide) rfl ?_
        refine z_aload_n 1 dX11_years_98 rfl ?_
        refine z_iconst (v := 4) dX11_years_99 (by decide) ?_
        replace e := z_bd e; obtain ⟨o1117, eo1117, e⟩ := e
        replace e := z_bd e; obtain ⟨p1116, ep1116, e⟩ := e
        refine z_cV [.int (4:Int32)] (S_X11_draw  ep1116) eo1117 rfl ml_X11_570 ck_X11_draw vk_X11_draw dX11_years_100 (by decide) rfl (Nat.zero_le _) rfl ?_
        refine z_istore (L' := [(6, .int p1116.1), (5, .int p1114.1), (0, z_r l0), (2, .int l2), (3, .int l3), (4, .int l4)]) dX11_years_103 (by decide) rfl ?_
        refine z_aload_n 2 dX11_years_105 rfl ?_
        refine z_iconst (v := 2) dX11_years_106 (by decide) ?_
        replace e := z_bd e; obtain ⟨o1119, eo1119, e⟩ := e
        replace e := z_bd e; obtain ⟨p1118, ep1118, e⟩ := e
        refine z_cV [.int (2:Int32)] (S_X11_draw  ep1118) eo1119 rfl ml_X11_570 ck_X11_draw vk_X11_draw dX11_years_107 (by decide) rfl (Nat.zero_le _) rfl ?_
        refine z_istore (L' := [(7, .int p1118.1), (6, .int p1116.1), (5, .int p1114.1), (0, z_r l0), (2, .int l2), (3, .int l3), (4, .int l4)]) dX11_years_110 (by decide) rfl ?_
        refine z_iload 1 dX11_years_112 rfl ?_
        refine z_iconst (v := 2) dX11_years_114 (by decide) ?_
        refine z_icmp_ge (tgt := 147) dX11_years_115 (by decide) (fun c1120 => ?_) (fun c1120 => ?_)
        · rw [if_pos c1120] at e
          refine z_iconst (v := -1) dX11_years_147 (by decide) ?_
          exact z_weak [3, 4, 5, 6, 2, 1, 0] rfl (S_X11_years_148  @hk68 e)
        · rw [if_neg c1120] at e
          refine z_aload_n 3 dX11_years_118 rfl ?_
          refine z_iload 2 dX11_years_119 rfl ?_
          refine z_aload_n 3 dX11_years_121 rfl ?_
          replace e := z_bd e; obtain ⟨x1121, ex1121, e⟩ := e
          refine z_getQ ex1121 lk_X11_13 dX11_years_122 ?_
          refine z_bipush (v := 8) dX11_years_125 (by decide) ?_
          refine z_iload 2 dX11_years_127 rfl ?_
          refine z_iadd dX11_years_129 ?_
          replace e := z_bd e; obtain ⟨x1122, ex1122, e⟩ := e
          refine z_iald ex1122 dX11_years_130 ?_
          refine z_aload_n 3 dX11_years_131 rfl ?_
          replace e := z_bd e; obtain ⟨x1123, ex1123, e⟩ := e
          refine z_getQ ex1123 lk_X11_13 dX11_years_132 ?_
          refine z_bipush (v := 14) dX11_years_135 (by decide) ?_
          refine z_iload 2 dX11_years_137 rfl ?_
          refine z_iadd dX11_years_139 ?_
          replace e := z_bd e; obtain ⟨x1124, ex1124, e⟩ := e
          refine z_iald ex1124 dX11_years_140 ?_
          replace e := z_bd e; obtain ⟨o1126, eo1126, e⟩ := e
          replace e := z_bd e; obtain ⟨p1125, ep1125, e⟩ := e
          refine z_cV [.int p1114.1, .int x1122, .int x1124] (S_X11_stepOf  ep1125) eo1126 rfl ml_X11_216 ck_X11_stepOf vk_X11_stepOf dX11_years_141 (by decide) rfl (Nat.zero_le _) rfl ?_
          refine z_goto (tgt := 148) dX11_years_144 (by decide) ?_
          exact z_weak [3, 4, 5, 6, 2, 1, 0] rfl (S_X11_years_148  @hk68 e)
def D_X11_years (h : z_H) (l0 : Option Nat) (l1 : Int32) (l2 : Int32) : Option (Int32 × z_H) :=
  (z_pV 11 h l0 0 (.int (0:Int32))).bind fun h1127 =>
  (D_X11_in  h1127 (Int32.toInt64 l1) (0:Int64) (1000000:Int64)).bind fun p1128 =>
  if p1128.1 = 0 then
    D_X11_years_29   p1128.2 l0
  else
    (D_X11_in  p1128.2 (Int32.toInt64 l2) (1:Int64) (60:Int64)).bind fun p1130 =>
    if p1130.1 = 0 then
      D_X11_years_29   p1130.2 l0
    else
      (z_gQ 11 p1130.2 l0 3).bind fun x1132 =>
      (z_aI .int p1130.2 x1132 (0:Int32)).bind fun x1133 =>
      if x1133 = 0 then
        (z_ob 11 p1130.2 l0).bind fun _ =>
        (D_X11_tell  p1130.2 l0 (-3:Int32)).bind fun p1138 =>
        some (p1138.1, p1138.2)
      else
        (z_ob 11 p1130.2 l0).bind fun _ =>
        (D_X11_keepAll  p1130.2 l0 (16:Int32)).bind fun p1135 =>
        (z_pV 11 p1135 l0 56 (.long (Int32.toInt64 l1))).bind fun h1137 =>
        D_X11_years_68   z_F h1137 l0 l2 (0:Int32) (0:Int32)
set_option maxRecDepth 100000 in
set_option maxHeartbeats 4000000 in
theorem S_X11_years {G : z_G} {l : Launch} {h : z_H} {l0 : Option Nat} {l1 : Int32} {l2 : Int32} {res : (Int32 × z_H)} (e : D_X11_years h l0 l1 l2 = some res) : z_Meth G l 12 M_X11_years [z_r l0, .int l1, .int l2] h res.2 (some (.int res.1)) := by
  refine z_Meth.of ck_X11_years.2.2.2.2 (by simp [lg_sl, z_ci, z_cj, z_cr, z_cx]) ck_X11_years.1 ?_
  rw [show lv_args 0 [z_r l0, .int l1, .int l2] = [(0, z_r l0), (1, .int l1), (2, .int l2)] from by simp [lv_args, z_ci, z_cj, z_cr, z_cx]]
  unfold D_X11_years at e
  refine z_aload_n 0 dX11_years_0 rfl ?_
  refine z_iconst (v := 0) dX11_years_1 (by decide) ?_
  replace e := z_bd e; obtain ⟨h1127, eh1127, e⟩ := e
  refine z_putV eh1127 lk_X11_166 wk_11_0 (fun _ => rfl) (fun _ => rfl) dX11_years_2 ?_
  refine z_iload_n 1 dX11_years_5 rfl ?_
  refine z_i2l dX11_years_6 ?_
  refine z_lconst (v := 0) dX11_years_7 (by decide) ?_
  refine z_ldc2 dX11_years_8 kj_X11_280 ?_
  replace e := z_bd e; obtain ⟨p1128, ep1128, e⟩ := e
  refine z_cS [.long (Int32.toInt64 l1), .long (0:Int64), .long (1000000:Int64)] (S_X11_in  ep1128) ml_X11_186 ck_X11_in st_X11_in dX11_years_11 (by decide) rfl (Nat.zero_le _) rfl ?_
  refine z_if_eq (tgt := 29) dX11_years_14 (by decide) (fun c1129 => ?_) (fun c1129 => ?_)
  · rw [if_pos c1129] at e
    exact z_weak [0] rfl (S_X11_years_29   e)
  · rw [if_neg c1129] at e
    refine z_iload_n 2 dX11_years_17 rfl ?_
    refine z_i2l dX11_years_18 ?_
    refine z_lconst (v := 1) dX11_years_19 (by decide) ?_
    refine z_ldc2 dX11_years_20 kj_X11_568 ?_
    replace e := z_bd e; obtain ⟨p1130, ep1130, e⟩ := e
    refine z_cS [.long (Int32.toInt64 l2), .long (1:Int64), .long (60:Int64)] (S_X11_in  ep1130) ml_X11_186 ck_X11_in st_X11_in dX11_years_23 (by decide) rfl (Nat.zero_le _) rfl ?_
    refine z_if_ne (tgt := 35) dX11_years_26 (by decide) (fun c1131 => ?_) (fun c1131 => ?_)
    · rw [if_neg c1131] at e
      refine z_aload_n 0 dX11_years_35 rfl ?_
      replace e := z_bd e; obtain ⟨x1132, ex1132, e⟩ := e
      refine z_getQ ex1132 lk_X11_13 dX11_years_36 ?_
      refine z_iconst (v := 0) dX11_years_39 (by decide) ?_
      replace e := z_bd e; obtain ⟨x1133, ex1133, e⟩ := e
      refine z_iald ex1133 dX11_years_40 ?_
      refine z_if_ne (tgt := 51) dX11_years_41 (by decide) (fun c1134 => ?_) (fun c1134 => ?_)
      · rw [if_neg c1134] at e
        refine z_aload_n 0 dX11_years_51 rfl ?_
        refine z_bipush (v := 16) dX11_years_52 (by decide) ?_
        replace e := z_bd e; obtain ⟨o1136, eo1136, e⟩ := e
        replace e := z_bd e; obtain ⟨p1135, ep1135, e⟩ := e
        refine z_cV [.int (16:Int32)] (S_X11_keepAll  ep1135) eo1136 rfl ml_X11_179 ck_X11_keepAll vk_X11_keepAll dX11_years_54 (by decide) rfl (Nat.zero_le _) rfl ?_
        refine z_aload_n 0 dX11_years_57 rfl ?_
        refine z_iload_n 1 dX11_years_58 rfl ?_
        refine z_i2l dX11_years_59 ?_
        replace e := z_bd e; obtain ⟨h1137, eh1137, e⟩ := e
        refine z_putV eh1137 lk_X11_559 wk_11_56 (fun _ => rfl) (fun _ => rfl) dX11_years_60 ?_
        refine z_iconst (v := 0) dX11_years_63 (by decide) ?_
        refine z_istore_n (L' := [(3, .int (0:Int32)), (0, z_r l0), (1, .int l1), (2, .int l2)]) dX11_years_64 rfl (by decide) rfl ?_
        refine z_iconst (v := 0) dX11_years_65 (by decide) ?_
        refine z_istore (L' := [(4, .int (0:Int32)), (3, .int (0:Int32)), (0, z_r l0), (1, .int l1), (2, .int l2)]) dX11_years_66 (by decide) rfl ?_
        exact z_weak [2, 4, 1, 0] rfl (S_X11_years_68   z_F e)
      · rw [if_pos c1134] at e
        refine z_aload_n 0 dX11_years_44 rfl ?_
        refine z_bipush (v := -3) dX11_years_45 (by decide) ?_
        replace e := z_bd e; obtain ⟨o1139, eo1139, e⟩ := e
        replace e := z_bd e; obtain ⟨p1138, ep1138, e⟩ := e
        refine z_cV [.int (-3:Int32)] (S_X11_tell  ep1138) eo1139 rfl ml_X11_175 ck_X11_tell vk_X11_tell dX11_years_47 (by decide) rfl (Nat.zero_le _) rfl ?_
        cases e
        exact z_iret dX11_years_50 rfl
    · rw [if_pos c1131] at e
      exact z_weak [0] rfl (S_X11_years_29   e)
theorem dX10_compare_0 : decode cX10_compare 0 = .ok (.iload_n 1, 1) := by decide +kernel
theorem dX10_compare_1 : decode cX10_compare 1 = .ok (.iconst (-1), 1) := by decide +kernel
theorem dX10_compare_2 : decode cX10_compare 2 = .ok (.if_icmp .eq 14, 3) := by decide +kernel
theorem dX10_compare_5 : decode cX10_compare 5 = .ok (.aload_n 0, 1) := by decide +kernel
theorem dX10_compare_6 : decode cX10_compare 6 = .ok (.getfield 12, 3) := by decide +kernel
theorem dX10_compare_9 : decode cX10_compare 9 = .ok (.iload_n 1, 1) := by decide +kernel
theorem dX10_compare_10 : decode cX10_compare 10 = .ok (.invokevirtual 211, 3) := by decide +kernel
theorem dX10_compare_13 : decode cX10_compare 13 = .ok (.ifCond .eq 21, 3) := by decide +kernel
theorem dX10_compare_16 : decode cX10_compare 16 = .ok (.aload_n 0, 1) := by decide +kernel
theorem dX10_compare_17 : decode cX10_compare 17 = .ok (.getfield 12, 3) := by decide +kernel
theorem dX10_compare_20 : decode cX10_compare 20 = .ok (.iload_n 2, 1) := by decide +kernel
theorem dX10_compare_21 : decode cX10_compare 21 = .ok (.invokevirtual 121, 3) := by decide +kernel
theorem dX10_compare_24 : decode cX10_compare 24 = .ok (.ifCond .eq 10, 3) := by decide +kernel
theorem dX10_compare_27 : decode cX10_compare 27 = .ok (.iload_n 3, 1) := by decide +kernel
theorem dX10_compare_28 : decode cX10_compare 28 = .ok (.invokestatic 151, 3) := by decide +kernel
theorem dX10_compare_31 : decode cX10_compare 31 = .ok (.ifCond .ne 5, 3) := by decide +kernel
theorem dX10_compare_34 : decode cX10_compare 34 = .ok (.iconst (-1), 1) := by decide +kernel
theorem dX10_compare_35 : decode cX10_compare 35 = .ok (.ireturn, 1) := by decide +kernel
theorem dX10_compare_36 : decode cX10_compare 36 = .ok (.aload_n 0, 1) := by decide +kernel
theorem dX10_compare_37 : decode cX10_compare 37 = .ok (.getfield 44, 3) := by decide +kernel
theorem dX10_compare_40 : decode cX10_compare 40 = .ok (.aload_n 0, 1) := by decide +kernel
theorem dX10_compare_41 : decode cX10_compare 41 = .ok (.getfield 12, 3) := by decide +kernel
theorem dX10_compare_44 : decode cX10_compare 44 = .ok (.aload_n 0, 1) := by decide +kernel
theorem dX10_compare_45 : decode cX10_compare 45 = .ok (.getfield 12, 3) := by decide +kernel
theorem dX10_compare_48 : decode cX10_compare 48 = .ok (.iload_n 1, 1) := by decide +kernel
theorem dX10_compare_49 : decode cX10_compare 49 = .ok (.invokevirtual 298, 3) := by decide +kernel
theorem dX10_compare_52 : decode cX10_compare 52 = .ok (.iload_n 2, 1) := by decide +kernel
theorem dX10_compare_53 : decode cX10_compare 53 = .ok (.iload_n 3, 1) := by decide +kernel
theorem dX10_compare_54 : decode cX10_compare 54 = .ok (.aload_n 0, 1) := by decide +kernel
theorem dX10_compare_55 : decode cX10_compare 55 = .ok (.getfield 12, 3) := by decide +kernel
theorem dX10_compare_58 : decode cX10_compare 58 = .ok (.iload_n 2, 1) := by decide +kernel
theorem dX10_compare_59 : decode cX10_compare 59 = .ok (.iload_n 3, 1) := by decide +kernel
theorem dX10_compare_60 : decode cX10_compare 60 = .ok (.invokevirtual 125, 3) := by decide +kernel
theorem dX10_compare_63 : decode cX10_compare 63 = .ok (.aload_n 0, 1) := by decide +kernel
theorem dX10_compare_64 : decode cX10_compare 64 = .ok (.getfield 12, 3) := by decide +kernel
theorem dX10_compare_67 : decode cX10_compare 67 = .ok (.iload_n 2, 1) := by decide +kernel
theorem dX10_compare_68 : decode cX10_compare 68 = .ok (.invokevirtual 138, 3) := by decide +kernel
theorem dX10_compare_71 : decode cX10_compare 71 = .ok (.invokevirtual 158, 3) := by decide +kernel
theorem dX10_compare_74 : decode cX10_compare 74 = .ok (.ireturn, 1) := by decide +kernel
def D_X10_compare_16 (h : z_H) (l0 : Option Nat) (l1 : Int32) (l2 : Int32) (l3 : Int32) : Option (Int32 × z_H) :=
  (z_gQ 10 h l0 0).bind fun x1140 =>
  (z_ob 9 h x1140).bind fun _ =>
  (D_X9_hasPair  h x1140 l2).bind fun p1141 =>
  if p1141.1 = 0 then
    some ((-1:Int32), p1141.2)
  else
    (D_X10_isPart  p1141.2 l3).bind fun p1144 =>
    if p1144.1 = 0 then
      some ((-1:Int32), p1144.2)
    else
      (z_gQ 10 p1144.2 l0 6).bind fun x1146 =>
      (z_gQ 10 p1144.2 l0 0).bind fun x1147 =>
      (z_gQ 10 p1144.2 l0 0).bind fun x1148 =>
      (z_ob 9 p1144.2 x1148).bind fun _ =>
      (D_X9_lawAt  p1144.2 x1148 l1).bind fun p1149 =>
      (z_gQ 10 p1149.2 l0 0).bind fun x1151 =>
      (z_ob 9 p1149.2 x1151).bind fun _ =>
      (D_X9_wornAt  p1149.2 x1151 l2 l3).bind fun p1152 =>
      (z_gQ 10 p1152.2 l0 0).bind fun x1154 =>
      (z_ob 9 p1152.2 x1154).bind fun _ =>
      (D_X9_placeOf  p1152.2 x1154 l2).bind fun p1155 =>
      (z_ob 1 p1155.2 x1146).bind fun _ =>
      (D_X1_wears  p1155.2 x1146 x1147 p1149.1 l2 l3 p1152.1 p1155.1).bind fun p1157 =>
      some (p1157.1, p1157.2)
set_option maxRecDepth 100000 in
set_option maxHeartbeats 4000000 in
theorem S_X10_compare_16 {G : z_G} {l : Launch}  {h : z_H} {l0 : Option Nat} {l1 : Int32} {l2 : Int32} {l3 : Int32} {res : (Int32 × z_H)} (e : D_X10_compare_16  h l0 l1 l2 l3 = some res) : z_Run G l 8 M_X10_compare 16 [(0, z_r l0), (1, .int l1), (2, .int l2), (3, .int l3)] [] h res.2 (some (.int res.1)) := by
  unfold D_X10_compare_16 at e
  refine z_aload_n 0 dX10_compare_16 rfl ?_
  replace e := z_bd e; obtain ⟨x1140, ex1140, e⟩ := e
  refine z_getQ ex1140 lk_X10_12 dX10_compare_17 ?_
  refine z_iload_n 2 dX10_compare_20 rfl ?_
  replace e := z_bd e; obtain ⟨o1142, eo1142, e⟩ := e
  replace e := z_bd e; obtain ⟨p1141, ep1141, e⟩ := e
  refine z_cV [.int l2] (S_X9_hasPair  ep1141) eo1142 rfl ml_X10_121 ck_X9_hasPair vk_X9_hasPair dX10_compare_21 (by decide) rfl (Nat.zero_le _) rfl ?_
  refine z_if_eq (tgt := 34) dX10_compare_24 (by decide) (fun c1143 => ?_) (fun c1143 => ?_)
  · rw [if_pos c1143] at e
    refine z_iconst (v := -1) dX10_compare_34 (by decide) ?_
    cases e
    exact z_iret dX10_compare_35 rfl
  · rw [if_neg c1143] at e
    refine z_iload_n 3 dX10_compare_27 rfl ?_
    replace e := z_bd e; obtain ⟨p1144, ep1144, e⟩ := e
    refine z_cS [.int l3] (S_X10_isPart  ep1144) ml_X10_151 ck_X10_isPart st_X10_isPart dX10_compare_28 (by decide) rfl (Nat.zero_le _) rfl ?_
    refine z_if_ne (tgt := 36) dX10_compare_31 (by decide) (fun c1145 => ?_) (fun c1145 => ?_)
    · rw [if_neg c1145] at e
      refine z_aload_n 0 dX10_compare_36 rfl ?_
      replace e := z_bd e; obtain ⟨x1146, ex1146, e⟩ := e
      refine z_getQ ex1146 lk_X10_44 dX10_compare_37 ?_
      refine z_aload_n 0 dX10_compare_40 rfl ?_
      replace e := z_bd e; obtain ⟨x1147, ex1147, e⟩ := e
      refine z_getQ ex1147 lk_X10_12 dX10_compare_41 ?_
      refine z_aload_n 0 dX10_compare_44 rfl ?_
      replace e := z_bd e; obtain ⟨x1148, ex1148, e⟩ := e
      refine z_getQ ex1148 lk_X10_12 dX10_compare_45 ?_
      refine z_iload_n 1 dX10_compare_48 rfl ?_
      replace e := z_bd e; obtain ⟨o1150, eo1150, e⟩ := e
      replace e := z_bd e; obtain ⟨p1149, ep1149, e⟩ := e
      refine z_cV [.int l1] (S_X9_lawAt  ep1149) eo1150 rfl ml_X10_298 ck_X9_lawAt vk_X9_lawAt dX10_compare_49 (by decide) rfl (by simp [z_ci, z_cj, z_cr, z_cx]) rfl ?_
      refine z_iload_n 2 dX10_compare_52 rfl ?_
      refine z_iload_n 3 dX10_compare_53 rfl ?_
      refine z_aload_n 0 dX10_compare_54 rfl ?_
      replace e := z_bd e; obtain ⟨x1151, ex1151, e⟩ := e
      refine z_getQ ex1151 lk_X10_12 dX10_compare_55 ?_
      refine z_iload_n 2 dX10_compare_58 rfl ?_
      refine z_iload_n 3 dX10_compare_59 rfl ?_
      replace e := z_bd e; obtain ⟨o1153, eo1153, e⟩ := e
      replace e := z_bd e; obtain ⟨p1152, ep1152, e⟩ := e
      refine z_cV [.int l2, .int l3] (S_X9_wornAt  ep1152) eo1153 rfl ml_X10_125 ck_X9_wornAt vk_X9_wornAt dX10_compare_60 (by decide) rfl (by simp [z_ci, z_cj, z_cr, z_cx]) rfl ?_
      refine z_aload_n 0 dX10_compare_63 rfl ?_
      replace e := z_bd e; obtain ⟨x1154, ex1154, e⟩ := e
      refine z_getQ ex1154 lk_X10_12 dX10_compare_64 ?_
      refine z_iload_n 2 dX10_compare_67 rfl ?_
      replace e := z_bd e; obtain ⟨o1156, eo1156, e⟩ := e
      replace e := z_bd e; obtain ⟨p1155, ep1155, e⟩ := e
      refine z_cV [.int l2] (S_X9_placeOf  ep1155) eo1156 rfl ml_X10_138 ck_X9_placeOf vk_X9_placeOf dX10_compare_68 (by decide) rfl (by simp [z_ci, z_cj, z_cr, z_cx]) rfl ?_
      replace e := z_bd e; obtain ⟨o1158, eo1158, e⟩ := e
      replace e := z_bd e; obtain ⟨p1157, ep1157, e⟩ := e
      refine z_cV [z_r x1147, z_r p1149.1, .int l2, .int l3, .int p1152.1, .int p1155.1] (S_X1_wears  ep1157) eo1158 rfl ml_X10_158 ck_X1_wears vk_X1_wears dX10_compare_71 (by decide) rfl (Nat.zero_le _) rfl ?_
      cases e
      exact z_iret dX10_compare_74 rfl
    · rw [if_pos c1145] at e
      refine z_iconst (v := -1) dX10_compare_34 (by decide) ?_
      cases e
      exact z_iret dX10_compare_35 rfl
def D_X10_compare (h : z_H) (l0 : Option Nat) (l1 : Int32) (l2 : Int32) (l3 : Int32) : Option (Int32 × z_H) :=
  if l1 = (-1:Int32) then
    D_X10_compare_16   h l0 l1 l2 l3
  else
    (z_gQ 10 h l0 0).bind fun x1160 =>
    (z_ob 9 h x1160).bind fun _ =>
    (D_X9_hasLaw  h x1160 l1).bind fun p1161 =>
    if p1161.1 = 0 then
      some ((-1:Int32), p1161.2)
    else
      D_X10_compare_16   p1161.2 l0 l1 l2 l3
set_option maxRecDepth 100000 in
set_option maxHeartbeats 4000000 in
theorem S_X10_compare {G : z_G} {l : Launch} {h : z_H} {l0 : Option Nat} {l1 : Int32} {l2 : Int32} {l3 : Int32} {res : (Int32 × z_H)} (e : D_X10_compare h l0 l1 l2 l3 = some res) : z_Meth G l 8 M_X10_compare [z_r l0, .int l1, .int l2, .int l3] h res.2 (some (.int res.1)) := by
  refine z_Meth.of ck_X10_compare.2.2.2.2 (by simp [lg_sl, z_ci, z_cj, z_cr, z_cx]) ck_X10_compare.1 ?_
  rw [show lv_args 0 [z_r l0, .int l1, .int l2, .int l3] = [(0, z_r l0), (1, .int l1), (2, .int l2), (3, .int l3)] from by simp [lv_args, z_ci, z_cj, z_cr, z_cx]]
  unfold D_X10_compare at e
  refine z_iload_n 1 dX10_compare_0 rfl ?_
  refine z_iconst (v := -1) dX10_compare_1 (by decide) ?_
  refine z_icmp_eq (tgt := 16) dX10_compare_2 (by decide) (fun c1159 => ?_) (fun c1159 => ?_)
  · rw [if_pos c1159] at e
    exact z_weak [0, 1, 2, 3] rfl (S_X10_compare_16   e)
  · rw [if_neg c1159] at e
    refine z_aload_n 0 dX10_compare_5 rfl ?_
    replace e := z_bd e; obtain ⟨x1160, ex1160, e⟩ := e
    refine z_getQ ex1160 lk_X10_12 dX10_compare_6 ?_
    refine z_iload_n 1 dX10_compare_9 rfl ?_
    replace e := z_bd e; obtain ⟨o1162, eo1162, e⟩ := e
    replace e := z_bd e; obtain ⟨p1161, ep1161, e⟩ := e
    refine z_cV [.int l1] (S_X9_hasLaw  ep1161) eo1162 rfl ml_X10_211 ck_X9_hasLaw vk_X9_hasLaw dX10_compare_10 (by decide) rfl (Nat.zero_le _) rfl ?_
    refine z_if_eq (tgt := 34) dX10_compare_13 (by decide) (fun c1163 => ?_) (fun c1163 => ?_)
    · rw [if_pos c1163] at e
      refine z_iconst (v := -1) dX10_compare_34 (by decide) ?_
      cases e
      exact z_iret dX10_compare_35 rfl
    · rw [if_neg c1163] at e
      exact z_weak [0, 1, 2, 3] rfl (S_X10_compare_16   e)
theorem dX11_isLaw_0 : decode cX11_isLaw 0 = .ok (.iload_n 1, 1) := by decide +kernel
theorem dX11_isLaw_1 : decode cX11_isLaw 1 = .ok (.iconst (-1), 1) := by decide +kernel
theorem dX11_isLaw_2 : decode cX11_isLaw 2 = .ok (.if_icmp .eq 21, 3) := by decide +kernel
theorem dX11_isLaw_5 : decode cX11_isLaw 5 = .ok (.iload_n 1, 1) := by decide +kernel
theorem dX11_isLaw_6 : decode cX11_isLaw 6 = .ok (.i2l, 1) := by decide +kernel
theorem dX11_isLaw_7 : decode cX11_isLaw 7 = .ok (.lconst 0, 1) := by decide +kernel
theorem dX11_isLaw_8 : decode cX11_isLaw 8 = .ok (.aload_n 0, 1) := by decide +kernel
theorem dX11_isLaw_9 : decode cX11_isLaw 9 = .ok (.getfield 13, 3) := by decide +kernel
theorem dX11_isLaw_12 : decode cX11_isLaw 12 = .ok (.iconst 2, 1) := by decide +kernel
theorem dX11_isLaw_13 : decode cX11_isLaw 13 = .ok (.iaload, 1) := by decide +kernel
theorem dX11_isLaw_14 : decode cX11_isLaw 14 = .ok (.i2l, 1) := by decide +kernel
theorem dX11_isLaw_15 : decode cX11_isLaw 15 = .ok (.lconst 1, 1) := by decide +kernel
theorem dX11_isLaw_16 : decode cX11_isLaw 16 = .ok (.lsub, 1) := by decide +kernel
theorem dX11_isLaw_17 : decode cX11_isLaw 17 = .ok (.invokestatic 186, 3) := by decide +kernel
theorem dX11_isLaw_20 : decode cX11_isLaw 20 = .ok (.ifCond .eq 7, 3) := by decide +kernel
theorem dX11_isLaw_23 : decode cX11_isLaw 23 = .ok (.iconst 1, 1) := by decide +kernel
theorem dX11_isLaw_24 : decode cX11_isLaw 24 = .ok (.goto 4, 3) := by decide +kernel
theorem dX11_isLaw_27 : decode cX11_isLaw 27 = .ok (.iconst 0, 1) := by decide +kernel
theorem dX11_isLaw_28 : decode cX11_isLaw 28 = .ok (.ireturn, 1) := by decide +kernel
def D_X11_isLaw (h : z_H) (l0 : Option Nat) (l1 : Int32) : Option (Int32 × z_H) :=
  if l1 = (-1:Int32) then
    some ((1:Int32), h)
  else
    (z_gQ 11 h l0 3).bind fun x1165 =>
    (z_aI .int h x1165 (2:Int32)).bind fun x1166 =>
    (D_X11_in  h (Int32.toInt64 l1) (0:Int64) ((Int32.toInt64 x1166) - (1:Int64))).bind fun p1167 =>
    if p1167.1 = 0 then
      some ((0:Int32), p1167.2)
    else
      some ((1:Int32), p1167.2)
set_option maxRecDepth 100000 in
set_option maxHeartbeats 4000000 in
theorem S_X11_isLaw {G : z_G} {l : Launch} {h : z_H} {l0 : Option Nat} {l1 : Int32} {res : (Int32 × z_H)} (e : D_X11_isLaw h l0 l1 = some res) : z_Meth G l 5 M_X11_isLaw [z_r l0, .int l1] h res.2 (some (.int res.1)) := by
  refine z_Meth.of ck_X11_isLaw.2.2.2.2 (by simp [lg_sl, z_ci, z_cj, z_cr, z_cx]) ck_X11_isLaw.1 ?_
  rw [show lv_args 0 [z_r l0, .int l1] = [(0, z_r l0), (1, .int l1)] from by simp [lv_args, z_ci, z_cj, z_cr, z_cx]]
  unfold D_X11_isLaw at e
  refine z_iload_n 1 dX11_isLaw_0 rfl ?_
  refine z_iconst (v := -1) dX11_isLaw_1 (by decide) ?_
  refine z_icmp_eq (tgt := 23) dX11_isLaw_2 (by decide) (fun c1164 => ?_) (fun c1164 => ?_)
  · rw [if_pos c1164] at e
    refine z_iconst (v := 1) dX11_isLaw_23 (by decide) ?_
    refine z_goto (tgt := 28) dX11_isLaw_24 (by decide) ?_
    cases e
    exact z_zret dX11_isLaw_28 rfl (by decide)
  · rw [if_neg c1164] at e
    refine z_iload_n 1 dX11_isLaw_5 rfl ?_
    refine z_i2l dX11_isLaw_6 ?_
    refine z_lconst (v := 0) dX11_isLaw_7 (by decide) ?_
    refine z_aload_n 0 dX11_isLaw_8 rfl ?_
    replace e := z_bd e; obtain ⟨x1165, ex1165, e⟩ := e
    refine z_getQ ex1165 lk_X11_13 dX11_isLaw_9 ?_
    refine z_iconst (v := 2) dX11_isLaw_12 (by decide) ?_
    replace e := z_bd e; obtain ⟨x1166, ex1166, e⟩ := e
    refine z_iald ex1166 dX11_isLaw_13 ?_
    refine z_i2l dX11_isLaw_14 ?_
    refine z_lconst (v := 1) dX11_isLaw_15 (by decide) ?_
    refine z_lsub dX11_isLaw_16 ?_
    replace e := z_bd e; obtain ⟨p1167, ep1167, e⟩ := e
    refine z_cS [.long (Int32.toInt64 l1), .long (0:Int64), .long ((Int32.toInt64 x1166) - (1:Int64))] (S_X11_in  ep1167) ml_X11_186 ck_X11_in st_X11_in dX11_isLaw_17 (by decide) rfl (Nat.zero_le _) rfl ?_
    refine z_if_eq (tgt := 27) dX11_isLaw_20 (by decide) (fun c1168 => ?_) (fun c1168 => ?_)
    · rw [if_pos c1168] at e
      refine z_iconst (v := 0) dX11_isLaw_27 (by decide) ?_
      cases e
      exact z_zret dX11_isLaw_28 rfl (by decide)
    · rw [if_neg c1168] at e
      refine z_iconst (v := 1) dX11_isLaw_23 (by decide) ?_
      refine z_goto (tgt := 28) dX11_isLaw_24 (by decide) ?_
      cases e
      exact z_zret dX11_isLaw_28 rfl (by decide)
theorem dX11_isPart_0 : decode cX11_isPart 0 = .ok (.iload_n 0, 1) := by decide +kernel
theorem dX11_isPart_1 : decode cX11_isPart 1 = .ok (.i2l, 1) := by decide +kernel
theorem dX11_isPart_2 : decode cX11_isPart 2 = .ok (.lconst 0, 1) := by decide +kernel
theorem dX11_isPart_3 : decode cX11_isPart 3 = .ok (.ldc2_w 193, 3) := by decide +kernel
theorem dX11_isPart_6 : decode cX11_isPart 6 = .ok (.invokestatic 186, 3) := by decide +kernel
theorem dX11_isPart_9 : decode cX11_isPart 9 = .ok (.ireturn, 1) := by decide +kernel
def D_X11_isPart (h : z_H) (l0 : Int32) : Option (Int32 × z_H) :=
  (D_X11_in  h (Int32.toInt64 l0) (0:Int64) (3:Int64)).bind fun p1169 =>
  if p1169.1 = 0 ∨ p1169.1 = 1 then some (p1169.1, p1169.2) else none
set_option maxRecDepth 100000 in
set_option maxHeartbeats 4000000 in
theorem S_X11_isPart {G : z_G} {l : Launch} {h : z_H} {l0 : Int32} {res : (Int32 × z_H)} (e : D_X11_isPart h l0 = some res) : z_Meth G l 5 M_X11_isPart [.int l0] h res.2 (some (.int res.1)) := by
  refine z_Meth.of ck_X11_isPart.2.2.2.2 (by simp [lg_sl, z_ci, z_cj, z_cr, z_cx]) ck_X11_isPart.1 ?_
  rw [show lv_args 0 [.int l0] = [(0, .int l0)] from rfl]
  unfold D_X11_isPart at e
  refine z_iload_n 0 dX11_isPart_0 rfl ?_
  refine z_i2l dX11_isPart_1 ?_
  refine z_lconst (v := 0) dX11_isPart_2 (by decide) ?_
  refine z_ldc2 dX11_isPart_3 kj_X11_193 ?_
  replace e := z_bd e; obtain ⟨p1169, ep1169, e⟩ := e
  refine z_cS [.long (Int32.toInt64 l0), .long (0:Int64), .long (3:Int64)] (S_X11_in  ep1169) ml_X11_186 ck_X11_in st_X11_in dX11_isPart_6 (by decide) rfl (Nat.zero_le _) rfl ?_
  replace e := z_ifs e; obtain ⟨c1170, e⟩ := e
  cases e
  exact z_zret dX11_isPart_9 rfl (z_nz c1170).1
theorem dX11_compare_0 : decode cX11_compare 0 = .ok (.aload_n 0, 1) := by decide +kernel
theorem dX11_compare_1 : decode cX11_compare 1 = .ok (.iconst 0, 1) := by decide +kernel
theorem dX11_compare_2 : decode cX11_compare 2 = .ok (.putfield 166, 3) := by decide +kernel
theorem dX11_compare_5 : decode cX11_compare 5 = .ok (.aload_n 0, 1) := by decide +kernel
theorem dX11_compare_6 : decode cX11_compare 6 = .ok (.iload_n 1, 1) := by decide +kernel
theorem dX11_compare_7 : decode cX11_compare 7 = .ok (.invokevirtual 395, 3) := by decide +kernel
theorem dX11_compare_10 : decode cX11_compare 10 = .ok (.ifCond .eq 18, 3) := by decide +kernel
theorem dX11_compare_13 : decode cX11_compare 13 = .ok (.aload_n 0, 1) := by decide +kernel
theorem dX11_compare_14 : decode cX11_compare 14 = .ok (.iload_n 2, 1) := by decide +kernel
theorem dX11_compare_15 : decode cX11_compare 15 = .ok (.invokevirtual 211, 3) := by decide +kernel
theorem dX11_compare_18 : decode cX11_compare 18 = .ok (.ifCond .eq 10, 3) := by decide +kernel
theorem dX11_compare_21 : decode cX11_compare 21 = .ok (.iload_n 3, 1) := by decide +kernel
theorem dX11_compare_22 : decode cX11_compare 22 = .ok (.invokestatic 223, 3) := by decide +kernel
theorem dX11_compare_25 : decode cX11_compare 25 = .ok (.ifCond .ne 5, 3) := by decide +kernel
theorem dX11_compare_28 : decode cX11_compare 28 = .ok (.iconst (-1), 1) := by decide +kernel
theorem dX11_compare_29 : decode cX11_compare 29 = .ok (.ireturn, 1) := by decide +kernel
theorem dX11_compare_30 : decode cX11_compare 30 = .ok (.aload_n 0, 1) := by decide +kernel
theorem dX11_compare_31 : decode cX11_compare 31 = .ok (.getfield 13, 3) := by decide +kernel
theorem dX11_compare_34 : decode cX11_compare 34 = .ok (.iconst 3, 1) := by decide +kernel
theorem dX11_compare_35 : decode cX11_compare 35 = .ok (.iaload, 1) := by decide +kernel
theorem dX11_compare_36 : decode cX11_compare 36 = .ok (.istore 4, 2) := by decide +kernel
theorem dX11_compare_38 : decode cX11_compare 38 = .ok (.aload_n 0, 1) := by decide +kernel
theorem dX11_compare_39 : decode cX11_compare 39 = .ok (.getfield 13, 3) := by decide +kernel
theorem dX11_compare_42 : decode cX11_compare 42 = .ok (.iconst 3, 1) := by decide +kernel
theorem dX11_compare_43 : decode cX11_compare 43 = .ok (.iload_n 1, 1) := by decide +kernel
theorem dX11_compare_44 : decode cX11_compare 44 = .ok (.iastore, 1) := by decide +kernel
theorem dX11_compare_45 : decode cX11_compare 45 = .ok (.aload_n 0, 1) := by decide +kernel
theorem dX11_compare_46 : decode cX11_compare 46 = .ok (.iload_n 2, 1) := by decide +kernel
theorem dX11_compare_47 : decode cX11_compare 47 = .ok (.iload_n 3, 1) := by decide +kernel
theorem dX11_compare_48 : decode cX11_compare 48 = .ok (.invokevirtual 226, 3) := by decide +kernel
theorem dX11_compare_51 : decode cX11_compare 51 = .ok (.istore 5, 2) := by decide +kernel
theorem dX11_compare_53 : decode cX11_compare 53 = .ok (.aload_n 0, 1) := by decide +kernel
theorem dX11_compare_54 : decode cX11_compare 54 = .ok (.getfield 13, 3) := by decide +kernel
theorem dX11_compare_57 : decode cX11_compare 57 = .ok (.iconst 3, 1) := by decide +kernel
theorem dX11_compare_58 : decode cX11_compare 58 = .ok (.iload 4, 2) := by decide +kernel
theorem dX11_compare_60 : decode cX11_compare 60 = .ok (.iastore, 1) := by decide +kernel
theorem dX11_compare_61 : decode cX11_compare 61 = .ok (.iload 5, 2) := by decide +kernel
theorem dX11_compare_63 : decode cX11_compare 63 = .ok (.ireturn, 1) := by decide +kernel
def D_X11_compare (h : z_H) (l0 : Option Nat) (l1 : Int32) (l2 : Int32) (l3 : Int32) : Option (Int32 × z_H) :=
  (z_pV 11 h l0 0 (.int (0:Int32))).bind fun h1171 =>
  (z_ob 11 h1171 l0).bind fun _ =>
  (D_X11_isLaw  h1171 l0 l1).bind fun p1172 =>
  if p1172.1 = 0 then
    some ((-1:Int32), p1172.2)
  else
    (z_ob 11 p1172.2 l0).bind fun _ =>
    (D_X11_isPair  p1172.2 l0 l2).bind fun p1175 =>
    if p1175.1 = 0 then
      some ((-1:Int32), p1175.2)
    else
      (D_X11_isPart  p1175.2 l3).bind fun p1178 =>
      if p1178.1 = 0 then
        some ((-1:Int32), p1178.2)
      else
        (z_gQ 11 p1178.2 l0 3).bind fun x1180 =>
        (z_aI .int p1178.2 x1180 (3:Int32)).bind fun x1181 =>
        (z_gQ 11 p1178.2 l0 3).bind fun x1182 =>
        (z_sI p1178.2 x1182 (3:Int32) l1).bind fun h1183 =>
        (z_ob 11 h1183 l0).bind fun _ =>
        (D_X11_wearsNow  h1183 l0 l2 l3).bind fun p1184 =>
        (z_gQ 11 p1184.2 l0 3).bind fun x1186 =>
        (z_sI p1184.2 x1186 (3:Int32) x1181).bind fun h1187 =>
        some (p1184.1, h1187)
set_option maxRecDepth 100000 in
set_option maxHeartbeats 4000000 in
theorem S_X11_compare {G : z_G} {l : Launch} {h : z_H} {l0 : Option Nat} {l1 : Int32} {l2 : Int32} {l3 : Int32} {res : (Int32 × z_H)} (e : D_X11_compare h l0 l1 l2 l3 = some res) : z_Meth G l 11 M_X11_compare [z_r l0, .int l1, .int l2, .int l3] h res.2 (some (.int res.1)) := by
  refine z_Meth.of ck_X11_compare.2.2.2.2 (by simp [lg_sl, z_ci, z_cj, z_cr, z_cx]) ck_X11_compare.1 ?_
  rw [show lv_args 0 [z_r l0, .int l1, .int l2, .int l3] = [(0, z_r l0), (1, .int l1), (2, .int l2), (3, .int l3)] from by simp [lv_args, z_ci, z_cj, z_cr, z_cx]]
  unfold D_X11_compare at e
  refine z_aload_n 0 dX11_compare_0 rfl ?_
  refine z_iconst (v := 0) dX11_compare_1 (by decide) ?_
  replace e := z_bd e; obtain ⟨h1171, eh1171, e⟩ := e
  refine z_putV eh1171 lk_X11_166 wk_11_0 (fun _ => rfl) (fun _ => rfl) dX11_compare_2 ?_
  refine z_aload_n 0 dX11_compare_5 rfl ?_
  refine z_iload_n 1 dX11_compare_6 rfl ?_
  replace e := z_bd e; obtain ⟨o1173, eo1173, e⟩ := e
  replace e := z_bd e; obtain ⟨p1172, ep1172, e⟩ := e
  refine z_cV [.int l1] (S_X11_isLaw  ep1172) eo1173 rfl ml_X11_395 ck_X11_isLaw vk_X11_isLaw dX11_compare_7 (by decide) rfl (Nat.zero_le _) rfl ?_
  refine z_if_eq (tgt := 28) dX11_compare_10 (by decide) (fun c1174 => ?_) (fun c1174 => ?_)
  · rw [if_pos c1174] at e
    refine z_iconst (v := -1) dX11_compare_28 (by decide) ?_
    cases e
    exact z_iret dX11_compare_29 rfl
  · rw [if_neg c1174] at e
    refine z_aload_n 0 dX11_compare_13 rfl ?_
    refine z_iload_n 2 dX11_compare_14 rfl ?_
    replace e := z_bd e; obtain ⟨o1176, eo1176, e⟩ := e
    replace e := z_bd e; obtain ⟨p1175, ep1175, e⟩ := e
    refine z_cV [.int l2] (S_X11_isPair  ep1175) eo1176 rfl ml_X11_211 ck_X11_isPair vk_X11_isPair dX11_compare_15 (by decide) rfl (Nat.zero_le _) rfl ?_
    refine z_if_eq (tgt := 28) dX11_compare_18 (by decide) (fun c1177 => ?_) (fun c1177 => ?_)
    · rw [if_pos c1177] at e
      refine z_iconst (v := -1) dX11_compare_28 (by decide) ?_
      cases e
      exact z_iret dX11_compare_29 rfl
    · rw [if_neg c1177] at e
      refine z_iload_n 3 dX11_compare_21 rfl ?_
      replace e := z_bd e; obtain ⟨p1178, ep1178, e⟩ := e
      refine z_cS [.int l3] (S_X11_isPart  ep1178) ml_X11_223 ck_X11_isPart st_X11_isPart dX11_compare_22 (by decide) rfl (Nat.zero_le _) rfl ?_
      refine z_if_ne (tgt := 30) dX11_compare_25 (by decide) (fun c1179 => ?_) (fun c1179 => ?_)
      · rw [if_neg c1179] at e
        refine z_aload_n 0 dX11_compare_30 rfl ?_
        replace e := z_bd e; obtain ⟨x1180, ex1180, e⟩ := e
        refine z_getQ ex1180 lk_X11_13 dX11_compare_31 ?_
        refine z_iconst (v := 3) dX11_compare_34 (by decide) ?_
        replace e := z_bd e; obtain ⟨x1181, ex1181, e⟩ := e
        refine z_iald ex1181 dX11_compare_35 ?_
        refine z_istore (L' := [(4, .int x1181), (0, z_r l0), (1, .int l1), (2, .int l2), (3, .int l3)]) dX11_compare_36 (by decide) rfl ?_
        refine z_aload_n 1 dX11_compare_38 rfl ?_
        replace e := z_bd e; obtain ⟨x1182, ex1182, e⟩ := e
        refine z_getQ ex1182 lk_X11_13 dX11_compare_39 ?_
        refine z_iconst (v := 3) dX11_compare_42 (by decide) ?_
        refine z_iload_n 2 dX11_compare_43 rfl ?_
        replace e := z_bd e; obtain ⟨h1183, eh1183, e⟩ := e
        refine z_iast eh1183 dX11_compare_44 ?_
        refine z_aload_n 1 dX11_compare_45 rfl ?_
        refine z_iload_n 3 dX11_compare_46 rfl ?_
        refine z_iload_n 4 dX11_compare_47 rfl ?_
        replace e := z_bd e; obtain ⟨o1185, eo1185, e⟩ := e
        replace e := z_bd e; obtain ⟨p1184, ep1184, e⟩ := e
        refine z_cV [.int l2, .int l3] (S_X11_wearsNow  ep1184) eo1185 rfl ml_X11_226 ck_X11_wearsNow vk_X11_wearsNow dX11_compare_48 (by decide) rfl (Nat.zero_le _) rfl ?_
        refine z_istore (L' := [(5, .int p1184.1), (4, .int x1181), (0, z_r l0), (1, .int l1), (2, .int l2), (3, .int l3)]) dX11_compare_51 (by decide) rfl ?_
        refine z_aload_n 2 dX11_compare_53 rfl ?_
        replace e := z_bd e; obtain ⟨x1186, ex1186, e⟩ := e
        refine z_getQ ex1186 lk_X11_13 dX11_compare_54 ?_
        refine z_iconst (v := 3) dX11_compare_57 (by decide) ?_
        refine z_iload 1 dX11_compare_58 rfl ?_
        replace e := z_bd e; obtain ⟨h1187, eh1187, e⟩ := e
        refine z_iast eh1187 dX11_compare_60 ?_
        refine z_iload 0 dX11_compare_61 rfl ?_
        cases e
        exact z_iret dX11_compare_63 rfl
      · rw [if_pos c1179] at e
        refine z_iconst (v := -1) dX11_compare_28 (by decide) ?_
        cases e
        exact z_iret dX11_compare_29 rfl
theorem dJ7_fill_d0a16_0 : decode cJ7_fill_d0a16 0 = .ok (.iconst 0, 1) := by decide +kernel
theorem dJ7_fill_d0a16_1 : decode cJ7_fill_d0a16 1 = .ok (.istore_n 3, 1) := by decide +kernel
theorem dJ7_fill_d0a16_2 : decode cJ7_fill_d0a16 2 = .ok (.aload_n 0, 1) := by decide +kernel
theorem dJ7_fill_d0a16_3 : decode cJ7_fill_d0a16 3 = .ok (.arraylength, 1) := by decide +kernel
theorem dJ7_fill_d0a16_4 : decode cJ7_fill_d0a16 4 = .ok (.istore 4, 2) := by decide +kernel
theorem dJ7_fill_d0a16_6 : decode cJ7_fill_d0a16 6 = .ok (.iload_n 3, 1) := by decide +kernel
theorem dJ7_fill_d0a16_7 : decode cJ7_fill_d0a16 7 = .ok (.iload 4, 2) := by decide +kernel
theorem dJ7_fill_d0a16_9 : decode cJ7_fill_d0a16 9 = .ok (.if_icmp .ge 13, 3) := by decide +kernel
theorem dJ7_fill_d0a16_12 : decode cJ7_fill_d0a16 12 = .ok (.aload_n 0, 1) := by decide +kernel
theorem dJ7_fill_d0a16_13 : decode cJ7_fill_d0a16 13 = .ok (.iload_n 3, 1) := by decide +kernel
theorem dJ7_fill_d0a16_14 : decode cJ7_fill_d0a16 14 = .ok (.lload_n 1, 1) := by decide +kernel
theorem dJ7_fill_d0a16_15 : decode cJ7_fill_d0a16 15 = .ok (.lastore, 1) := by decide +kernel
theorem dJ7_fill_d0a16_16 : decode cJ7_fill_d0a16 16 = .ok (.iinc 3 1, 3) := by decide +kernel
theorem dJ7_fill_d0a16_19 : decode cJ7_fill_d0a16 19 = .ok (.goto (-13), 3) := by decide +kernel
theorem dJ7_fill_d0a16_22 : decode cJ7_fill_d0a16 22 = .ok (.return_, 1) := by decide +kernel
def D_J7_fill_d0a16_6b (k6 : z_H → Option Nat → Int64 → Int32 → Int32 → Option z_H) (h : z_H) (l0 : Option Nat) (l1 : Int64) (l3 : Int32) (l4 : Int32) : Option z_H :=
  if l4 ≤ l3 then
    some h
  else
    (z_sJ h l0 l3 l1).bind fun h1189 =>
    (some (l3 + (1:Int32))).bind fun x1190 =>
    k6 h1189 l0 l1 x1190 l4
def D_J7_fill_d0a16_6 (n : Nat) : z_H → Option Nat → Int64 → Int32 → Int32 → Option z_H := Nat.rec (motive := fun _ => z_H → Option Nat → Int64 → Int32 → Int32 → Option z_H) (fun _ _ _ _ _ => none) (fun _ k => D_J7_fill_d0a16_6b  k) n
set_option maxRecDepth 100000 in
set_option maxHeartbeats 4000000 in
theorem S_J7_fill_d0a16_6 {G : z_G} {l : Launch}  (n : Nat) : ∀ {h : z_H} {l0 : Option Nat} {l1 : Int64} {l3 : Int32} {l4 : Int32} {res : z_H}, D_J7_fill_d0a16_6  n h l0 l1 l3 l4 = some res → z_Run G l 4 M_J7_fill_d0a16 6 [(0, z_r l0), (1, .long l1), (3, .int l3), (4, .int l4)] [] h res none := by
  induction n with
  | zero => intro h l0 l1 l3 l4 res e; cases e
  | succ n hk6 =>
    intro h l0 l1 l3 l4 res e
    replace e : D_J7_fill_d0a16_6b  (D_J7_fill_d0a16_6  n) h l0 l1 l3 l4 = some res := e
    unfold D_J7_fill_d0a16_6b at e
    refine z_iload_n 2 dJ7_fill_d0a16_6 rfl ?_
    refine z_iload 3 dJ7_fill_d0a16_7 rfl ?_
    refine z_icmp_ge (tgt := 22) dJ7_fill_d0a16_9 (by decide) (fun c1188 => ?_) (fun c1188 => ?_)
    · rw [if_pos c1188] at e
      cases e
      exact z_vret dJ7_fill_d0a16_22 rfl
    · rw [if_neg c1188] at e
      refine z_aload_n 0 dJ7_fill_d0a16_12 rfl ?_
      refine z_iload_n 2 dJ7_fill_d0a16_13 rfl ?_
      refine z_lload_n 1 dJ7_fill_d0a16_14 rfl ?_
      replace e := z_bd e; obtain ⟨h1189, eh1189, e⟩ := e
      refine z_last eh1189 dJ7_fill_d0a16_15 ?_
      replace e := z_bd e; obtain ⟨x1190, ex1190, e⟩ := e
      refine z_iinc (q := 2) (v := x1190) (L' := [(3, .int x1190), (0, z_r l0), (1, .long l1), (4, .int l4)]) dJ7_fill_d0a16_16 rfl (Option.some.inj ex1190) (by decide) rfl ?_
      refine z_goto (tgt := 6) dJ7_fill_d0a16_19 (by decide) ?_
      exact z_weak [1, 2, 0, 3] rfl (hk6 e)
def D_J7_fill_d0a16 (h : z_H) (l0 : Option Nat) (l1 : Int64) : Option z_H :=
  (z_lJ h l0).bind fun x1191 =>
  D_J7_fill_d0a16_6   z_F h l0 l1 (0:Int32) x1191
set_option maxRecDepth 100000 in
set_option maxHeartbeats 4000000 in
theorem S_J7_fill_d0a16 {G : z_G} {l : Launch} {h : z_H} {l0 : Option Nat} {l1 : Int64} {res : z_H} (e : D_J7_fill_d0a16 h l0 l1 = some res) : z_Meth G l 4 M_J7_fill_d0a16 [z_r l0, .long l1] h res none := by
  refine z_Meth.of ck_J7_fill_d0a16.2.2.2.2 (by simp [lg_sl, z_ci, z_cj, z_cr, z_cx]) ck_J7_fill_d0a16.1 ?_
  rw [show lv_args 0 [z_r l0, .long l1] = [(0, z_r l0), (1, .long l1)] from by simp [lv_args, z_ci, z_cj, z_cr, z_cx]]
  unfold D_J7_fill_d0a16 at e
  refine z_iconst (v := 0) dJ7_fill_d0a16_0 (by decide) ?_
  refine z_istore_n (L' := [(3, .int (0:Int32)), (0, z_r l0), (1, .long l1)]) dJ7_fill_d0a16_1 rfl (by decide) rfl ?_
  refine z_aload_n 1 dJ7_fill_d0a16_2 rfl ?_
  replace e := z_bd e; obtain ⟨x1191, ex1191, e⟩ := e
  refine z_alenJ ex1191 dJ7_fill_d0a16_3 ?_
  refine z_istore (L' := [(4, .int x1191), (3, .int (0:Int32)), (0, z_r l0), (1, .long l1)]) dJ7_fill_d0a16_4 (by decide) rfl ?_
  exact z_weak [2, 3, 1, 0] rfl (S_J7_fill_d0a16_6   z_F e)
theorem dX6_fewSlip_0 : decode cX6_fewSlip 0 = .ok (.aload_n 0, 1) := by decide +kernel
theorem dX6_fewSlip_1 : decode cX6_fewSlip 1 = .ok (.getfield 24, 3) := by decide +kernel
theorem dX6_fewSlip_4 : decode cX6_fewSlip 4 = .ok (.lconst 0, 1) := by decide +kernel
theorem dX6_fewSlip_5 : decode cX6_fewSlip 5 = .ok (.invokestatic 57, 3) := by decide +kernel
theorem dX6_fewSlip_8 : decode cX6_fewSlip 8 = .ok (.aload_n 0, 1) := by decide +kernel
theorem dX6_fewSlip_9 : decode cX6_fewSlip 9 = .ok (.getfield 24, 3) := by decide +kernel
theorem dX6_fewSlip_12 : decode cX6_fewSlip 12 = .ok (.iconst 0, 1) := by decide +kernel
theorem dX6_fewSlip_13 : decode cX6_fewSlip 13 = .ok (.ldc2_w 63, 3) := by decide +kernel
theorem dX6_fewSlip_16 : decode cX6_fewSlip 16 = .ok (.lastore, 1) := by decide +kernel
theorem dX6_fewSlip_17 : decode cX6_fewSlip 17 = .ok (.iconst 0, 1) := by decide +kernel
theorem dX6_fewSlip_18 : decode cX6_fewSlip 18 = .ok (.istore 4, 2) := by decide +kernel
theorem dX6_fewSlip_20 : decode cX6_fewSlip 20 = .ok (.iload 4, 2) := by decide +kernel
theorem dX6_fewSlip_22 : decode cX6_fewSlip 22 = .ok (.iload_n 3, 1) := by decide +kernel
theorem dX6_fewSlip_23 : decode cX6_fewSlip 23 = .ok (.if_icmp .ge 75, 3) := by decide +kernel
theorem dX6_fewSlip_26 : decode cX6_fewSlip 26 = .ok (.iload_n 2, 1) := by decide +kernel
theorem dX6_fewSlip_27 : decode cX6_fewSlip 27 = .ok (.iconst 1, 1) := by decide +kernel
theorem dX6_fewSlip_28 : decode cX6_fewSlip 28 = .ok (.isub, 1) := by decide +kernel
theorem dX6_fewSlip_29 : decode cX6_fewSlip 29 = .ok (.istore 5, 2) := by decide +kernel
theorem dX6_fewSlip_31 : decode cX6_fewSlip 31 = .ok (.iload 5, 2) := by decide +kernel
theorem dX6_fewSlip_33 : decode cX6_fewSlip 33 = .ok (.ifCond .lt 59, 3) := by decide +kernel
theorem dX6_fewSlip_36 : decode cX6_fewSlip 36 = .ok (.aload_n 0, 1) := by decide +kernel
theorem dX6_fewSlip_37 : decode cX6_fewSlip 37 = .ok (.getfield 24, 3) := by decide +kernel
theorem dX6_fewSlip_40 : decode cX6_fewSlip 40 = .ok (.iload 5, 2) := by decide +kernel
theorem dX6_fewSlip_42 : decode cX6_fewSlip 42 = .ok (.aload_n 0, 1) := by decide +kernel
theorem dX6_fewSlip_43 : decode cX6_fewSlip 43 = .ok (.getfield 24, 3) := by decide +kernel
theorem dX6_fewSlip_46 : decode cX6_fewSlip 46 = .ok (.iload 5, 2) := by decide +kernel
theorem dX6_fewSlip_48 : decode cX6_fewSlip 48 = .ok (.laload, 1) := by decide +kernel
theorem dX6_fewSlip_49 : decode cX6_fewSlip 49 = .ok (.bipush 10, 2) := by decide +kernel
theorem dX6_fewSlip_51 : decode cX6_fewSlip 51 = .ok (.iload_n 1, 1) := by decide +kernel
theorem dX6_fewSlip_52 : decode cX6_fewSlip 52 = .ok (.isub, 1) := by decide +kernel
theorem dX6_fewSlip_53 : decode cX6_fewSlip 53 = .ok (.i2l, 1) := by decide +kernel
theorem dX6_fewSlip_54 : decode cX6_fewSlip 54 = .ok (.lmul, 1) := by decide +kernel
theorem dX6_fewSlip_55 : decode cX6_fewSlip 55 = .ok (.ldc2_w 74, 3) := by decide +kernel
theorem dX6_fewSlip_58 : decode cX6_fewSlip 58 = .ok (.ldiv, 1) := by decide +kernel
theorem dX6_fewSlip_59 : decode cX6_fewSlip 59 = .ok (.iload 5, 2) := by decide +kernel
theorem dX6_fewSlip_61 : decode cX6_fewSlip 61 = .ok (.ifCond .le 22, 3) := by decide +kernel
theorem dX6_fewSlip_64 : decode cX6_fewSlip 64 = .ok (.aload_n 0, 1) := by decide +kernel
theorem dX6_fewSlip_65 : decode cX6_fewSlip 65 = .ok (.getfield 24, 3) := by decide +kernel
theorem dX6_fewSlip_68 : decode cX6_fewSlip 68 = .ok (.iload 5, 2) := by decide +kernel
theorem dX6_fewSlip_70 : decode cX6_fewSlip 70 = .ok (.iconst 1, 1) := by decide +kernel
theorem dX6_fewSlip_71 : decode cX6_fewSlip 71 = .ok (.isub, 1) := by decide +kernel
theorem dX6_fewSlip_72 : decode cX6_fewSlip 72 = .ok (.laload, 1) := by decide +kernel
theorem dX6_fewSlip_73 : decode cX6_fewSlip 73 = .ok (.iload_n 1, 1) := by decide +kernel
theorem dX6_fewSlip_74 : decode cX6_fewSlip 74 = .ok (.i2l, 1) := by decide +kernel
theorem dX6_fewSlip_75 : decode cX6_fewSlip 75 = .ok (.lmul, 1) := by decide +kernel
theorem dX6_fewSlip_76 : decode cX6_fewSlip 76 = .ok (.ldc2_w 74, 3) := by decide +kernel
theorem dX6_fewSlip_79 : decode cX6_fewSlip 79 = .ok (.ldiv, 1) := by decide +kernel
theorem dX6_fewSlip_80 : decode cX6_fewSlip 80 = .ok (.goto 4, 3) := by decide +kernel
theorem dX6_fewSlip_83 : decode cX6_fewSlip 83 = .ok (.lconst 0, 1) := by decide +kernel
theorem dX6_fewSlip_84 : decode cX6_fewSlip 84 = .ok (.ladd, 1) := by decide +kernel
theorem dX6_fewSlip_85 : decode cX6_fewSlip 85 = .ok (.lastore, 1) := by decide +kernel
theorem dX6_fewSlip_86 : decode cX6_fewSlip 86 = .ok (.iinc 5 (-1), 3) := by decide +kernel
theorem dX6_fewSlip_89 : decode cX6_fewSlip 89 = .ok (.goto (-58), 3) := by decide +kernel
theorem dX6_fewSlip_92 : decode cX6_fewSlip 92 = .ok (.iinc 4 1, 3) := by decide +kernel
theorem dX6_fewSlip_95 : decode cX6_fewSlip 95 = .ok (.goto (-75), 3) := by decide +kernel
theorem dX6_fewSlip_98 : decode cX6_fewSlip 98 = .ok (.lconst 0, 1) := by decide +kernel
theorem dX6_fewSlip_99 : decode cX6_fewSlip 99 = .ok (.lstore 4, 2) := by decide +kernel
theorem dX6_fewSlip_101 : decode cX6_fewSlip 101 = .ok (.iconst 0, 1) := by decide +kernel
theorem dX6_fewSlip_102 : decode cX6_fewSlip 102 = .ok (.istore 6, 2) := by decide +kernel
theorem dX6_fewSlip_104 : decode cX6_fewSlip 104 = .ok (.iload 6, 2) := by decide +kernel
theorem dX6_fewSlip_106 : decode cX6_fewSlip 106 = .ok (.iload_n 2, 1) := by decide +kernel
theorem dX6_fewSlip_107 : decode cX6_fewSlip 107 = .ok (.if_icmp .ge 21, 3) := by decide +kernel
theorem dX6_fewSlip_110 : decode cX6_fewSlip 110 = .ok (.lload 4, 2) := by decide +kernel
theorem dX6_fewSlip_112 : decode cX6_fewSlip 112 = .ok (.aload_n 0, 1) := by decide +kernel
theorem dX6_fewSlip_113 : decode cX6_fewSlip 113 = .ok (.getfield 24, 3) := by decide +kernel
theorem dX6_fewSlip_116 : decode cX6_fewSlip 116 = .ok (.iload 6, 2) := by decide +kernel
theorem dX6_fewSlip_118 : decode cX6_fewSlip 118 = .ok (.laload, 1) := by decide +kernel
theorem dX6_fewSlip_119 : decode cX6_fewSlip 119 = .ok (.ladd, 1) := by decide +kernel
theorem dX6_fewSlip_120 : decode cX6_fewSlip 120 = .ok (.lstore 4, 2) := by decide +kernel
theorem dX6_fewSlip_122 : decode cX6_fewSlip 122 = .ok (.iinc 6 1, 3) := by decide +kernel
theorem dX6_fewSlip_125 : decode cX6_fewSlip 125 = .ok (.goto (-21), 3) := by decide +kernel
theorem dX6_fewSlip_128 : decode cX6_fewSlip 128 = .ok (.lload 4, 2) := by decide +kernel
theorem dX6_fewSlip_130 : decode cX6_fewSlip 130 = .ok (.lreturn, 1) := by decide +kernel
def D_X6_fewSlip_104b (k104 : z_H → Option Nat → Int32 → Int64 → Int32 → Option (Int64 × z_H)) (h : z_H) (l0 : Option Nat) (l2 : Int32) (l4 : Int64) (l6 : Int32) : Option (Int64 × z_H) :=
  if l2 ≤ l6 then
    some (l4, h)
  else
    (z_gQ 6 h l0 5).bind fun x1193 =>
    (z_aJ h x1193 l6).bind fun x1194 =>
    (some (l4 + x1194)).bind fun x1195 =>
    (some (l6 + (1:Int32))).bind fun x1196 =>
    k104 h l0 l2 x1195 x1196
def D_X6_fewSlip_104 (n : Nat) : z_H → Option Nat → Int32 → Int64 → Int32 → Option (Int64 × z_H) := Nat.rec (motive := fun _ => z_H → Option Nat → Int32 → Int64 → Int32 → Option (Int64 × z_H)) (fun _ _ _ _ _ => none) (fun _ k => D_X6_fewSlip_104b  k) n
set_option maxRecDepth 100000 in
set_option maxHeartbeats 4000000 in
theorem S_X6_fewSlip_104 {G : z_G} {l : Launch}  (n : Nat) : ∀ {h : z_H} {l0 : Option Nat} {l2 : Int32} {l4 : Int64} {l6 : Int32} {res : (Int64 × z_H)}, D_X6_fewSlip_104  n h l0 l2 l4 l6 = some res → z_Run G l 5 M_X6_fewSlip 104 [(0, z_r l0), (2, .int l2), (4, .long l4), (6, .int l6)] [] h res.2 (some (.long res.1)) := by
  induction n with
  | zero => intro h l0 l2 l4 l6 res e; cases e
  | succ n hk104 =>
    intro h l0 l2 l4 l6 res e
    replace e : D_X6_fewSlip_104b  (D_X6_fewSlip_104  n) h l0 l2 l4 l6 = some res := e
    unfold D_X6_fewSlip_104b at e
    refine z_iload 3 dX6_fewSlip_104 rfl ?_
    refine z_iload_n 1 dX6_fewSlip_106 rfl ?_
    refine z_icmp_ge (tgt := 128) dX6_fewSlip_107 (by decide) (fun c1192 => ?_) (fun c1192 => ?_)
    · rw [if_pos c1192] at e
      refine z_lload 2 dX6_fewSlip_128 rfl ?_
      cases e
      exact z_lret dX6_fewSlip_130 rfl
    · rw [if_neg c1192] at e
      refine z_lload 2 dX6_fewSlip_110 rfl ?_
      refine z_aload_n 0 dX6_fewSlip_112 rfl ?_
      replace e := z_bd e; obtain ⟨x1193, ex1193, e⟩ := e
      refine z_getQ ex1193 lk_X6_24 dX6_fewSlip_113 ?_
      refine z_iload 3 dX6_fewSlip_116 rfl ?_
      replace e := z_bd e; obtain ⟨x1194, ex1194, e⟩ := e
      refine z_lald ex1194 dX6_fewSlip_118 ?_
      refine z_ladd dX6_fewSlip_119 ?_
      replace e := z_bd e; obtain ⟨x1195, ex1195, e⟩ := e
      refine z_topJ ex1195 ?_
      refine z_lstore (L' := [(4, .long x1195), (0, z_r l0), (2, .int l2), (6, .int l6)]) dX6_fewSlip_120 (by decide) rfl ?_
      replace e := z_bd e; obtain ⟨x1196, ex1196, e⟩ := e
      refine z_iinc (q := 3) (v := x1196) (L' := [(6, .int x1196), (4, .long x1195), (0, z_r l0), (2, .int l2)]) dX6_fewSlip_122 rfl (Option.some.inj ex1196) (by decide) rfl ?_
      refine z_goto (tgt := 104) dX6_fewSlip_125 (by decide) ?_
      exact z_weak [2, 3, 1, 0] rfl (hk104 e)
def D_X6_fewSlip_84 (k20 : z_H → Option Nat → Int32 → Int32 → Int32 → Int32 → Option (Int64 × z_H)) (k31 : z_H → Option Nat → Int32 → Int32 → Int32 → Int32 → Int32 → Option (Int64 × z_H)) (h : z_H) (l0 : Option Nat) (l1 : Int32) (l2 : Int32) (l3 : Int32) (l4 : Int32) (l5 : Int32) (s0 : Option Nat) (s1 : Int32) (s2 : Int64) (s3 : Int64) : Option (Int64 × z_H) :=
  (z_sJ h s0 s1 (s2 + s3)).bind fun h1197 =>
  (some (l5 + (-1:Int32))).bind fun x1198 =>
  k31 h1197 l0 l1 l2 l3 l4 x1198
set_option maxRecDepth 100000 in
set_option maxHeartbeats 4000000 in
theorem S_X6_fewSlip_84 {G : z_G} {l : Launch} {k20 : z_H → Option Nat → Int32 → Int32 → Int32 → Int32 → Option (Int64 × z_H)} {k31 : z_H → Option Nat → Int32 → Int32 → Int32 → Int32 → Int32 → Option (Int64 × z_H)} (hk20 : ∀ {h : z_H} {l0 : Option Nat} {l1 : Int32} {l2 : Int32} {l3 : Int32} {l4 : Int32} {res : (Int64 × z_H)}, k20 h l0 l1 l2 l3 l4 = some res → z_Run G l 5 M_X6_fewSlip 20 [(0, z_r l0), (1, .int l1), (2, .int l2), (3, .int l3), (4, .int l4)] [] h res.2 (some (.long res.1))) (hk31 : ∀ {h : z_H} {l0 : Option Nat} {l1 : Int32} {l2 : Int32} {l3 : Int32} {l4 : Int32} {l5 : Int32} {res : (Int64 × z_H)}, k31 h l0 l1 l2 l3 l4 l5 = some res → z_Run G l 5 M_X6_fewSlip 31 [(0, z_r l0), (1, .int l1), (2, .int l2), (3, .int l3), (4, .int l4), (5, .int l5)] [] h res.2 (some (.long res.1))) {h : z_H} {l0 : Option Nat} {l1 : Int32} {l2 : Int32} {l3 : Int32} {l4 : Int32} {l5 : Int32} {s0 : Option Nat} {s1 : Int32} {s2 : Int64} {s3 : Int64} {res : (Int64 × z_H)} (e : D_X6_fewSlip_84 k20 k31 h l0 l1 l2 l3 l4 l5 s0 s1 s2 s3 = some res) : z_Run G l 5 M_X6_fewSlip 84 [(0, z_r l0), (1, .int l1), (2, .int l2), (3, .int l3), (4, .int l4), (5, .int l5)] [.long s3, .long s2, .int s1, z_r s0] h res.2 (some (.long res.1)) := by
  unfold D_X6_fewSlip_84 at e
  refine z_ladd dX6_fewSlip_84 ?_
  replace e := z_bd e; obtain ⟨h1197, eh1197, e⟩ := e
  refine z_last eh1197 dX6_fewSlip_85 ?_
  replace e := z_bd e; obtain ⟨x1198, ex1198, e⟩ := e
  refine z_iinc (q := 5) (v := x1198) (L' := [(5, .int x1198), (0, z_r l0), (1, .int l1), (2, .int l2), (3, .int l3), (4, .int l4)]) dX6_fewSlip_86 rfl (Option.some.inj ex1198) (by decide) rfl ?_
  refine z_goto (tgt := 31) dX6_fewSlip_89 (by decide) ?_
  exact z_weak [1, 2, 3, 4, 5, 0] rfl (hk31 e)
def D_X6_fewSlip_31b (k20 : z_H → Option Nat → Int32 → Int32 → Int32 → Int32 → Option (Int64 × z_H)) (k31 : z_H → Option Nat → Int32 → Int32 → Int32 → Int32 → Int32 → Option (Int64 × z_H)) (h : z_H) (l0 : Option Nat) (l1 : Int32) (l2 : Int32) (l3 : Int32) (l4 : Int32) (l5 : Int32) : Option (Int64 × z_H) :=
  if l5 < 0 then
    (some (l4 + (1:Int32))).bind fun x1200 =>
    k20 h l0 l1 l2 l3 x1200
  else
    (z_gQ 6 h l0 5).bind fun x1201 =>
    (z_gQ 6 h l0 5).bind fun x1202 =>
    (z_aJ h x1202 l5).bind fun x1203 =>
    if l5 ≤ 0 then
      D_X6_fewSlip_84  k20 k31 h l0 l1 l2 l3 l4 l5 x1201 l5 ((x1203 * (Int32.toInt64 ((10:Int32) - l1))) / (10:Int64)) (0:Int64)
    else
      (z_gQ 6 h l0 5).bind fun x1205 =>
      (z_aJ h x1205 (l5 - (1:Int32))).bind fun x1206 =>
      D_X6_fewSlip_84  k20 k31 h l0 l1 l2 l3 l4 l5 x1201 l5 ((x1203 * (Int32.toInt64 ((10:Int32) - l1))) / (10:Int64)) ((x1206 * (Int32.toInt64 l1)) / (10:Int64))
def D_X6_fewSlip_31 (k20 : z_H → Option Nat → Int32 → Int32 → Int32 → Int32 → Option (Int64 × z_H)) (n : Nat) : z_H → Option Nat → Int32 → Int32 → Int32 → Int32 → Int32 → Option (Int64 × z_H) := Nat.rec (motive := fun _ => z_H → Option Nat → Int32 → Int32 → Int32 → Int32 → Int32 → Option (Int64 × z_H)) (fun _ _ _ _ _ _ _ => none) (fun _ k => D_X6_fewSlip_31b k20 k) n
set_option maxRecDepth 100000 in
set_option maxHeartbeats 4000000 in
theorem S_X6_fewSlip_31 {G : z_G} {l : Launch} {k20 : z_H → Option Nat → Int32 → Int32 → Int32 → Int32 → Option (Int64 × z_H)} (hk20 : ∀ {h : z_H} {l0 : Option Nat} {l1 : Int32} {l2 : Int32} {l3 : Int32} {l4 : Int32} {res : (Int64 × z_H)}, k20 h l0 l1 l2 l3 l4 = some res → z_Run G l 5 M_X6_fewSlip 20 [(0, z_r l0), (1, .int l1), (2, .int l2), (3, .int l3), (4, .int l4)] [] h res.2 (some (.long res.1))) (n : Nat) : ∀ {h : z_H} {l0 : Option Nat} {l1 : Int32} {l2 : Int32} {l3 : Int32} {l4 : Int32} {l5 : Int32} {res : (Int64 × z_H)}, D_X6_fewSlip_31 k20 n h l0 l1 l2 l3 l4 l5 = some res → z_Run G l 5 M_X6_fewSlip 31 [(0, z_r l0), (1, .int l1), (2, .int l2), (3, .int l3), (4, .int l4), (5, .int l5)] [] h res.2 (some (.long res.1)) := by
  induction n with
  | zero => intro h l0 l1 l2 l3 l4 l5 res e; cases e
  | succ n hk31 =>
    intro h l0 l1 l2 l3 l4 l5 res e
    replace e : D_X6_fewSlip_31b k20 (D_X6_fewSlip_31 k20 n) h l0 l1 l2 l3 l4 l5 = some res := e
    unfold D_X6_fewSlip_31b at e
    refine z_iload 5 dX6_fewSlip_31 rfl ?_
    refine z_if_lt (tgt := 92) dX6_fewSlip_33 (by decide) (fun c1199 => ?_) (fun c1199 => ?_)
    · rw [if_pos c1199] at e
      replace e := z_bd e; obtain ⟨x1200, ex1200, e⟩ := e
      refine z_iinc (q := 4) (v := x1200) (L' := [(4, .int x1200), (0, z_r l0), (1, .int l1), (2, .int l2), (3, .int l3), (5, .int l5)]) dX6_fewSlip_92 rfl (Option.some.inj ex1200) (by decide) rfl ?_
      refine z_goto (tgt := 20) dX6_fewSlip_95 (by decide) ?_
      exact z_weak [1, 2, 3, 4, 0] rfl (hk20 e)
    · rw [if_neg c1199] at e
      refine z_aload_n 0 dX6_fewSlip_36 rfl ?_
      replace e := z_bd e; obtain ⟨x1201, ex1201, e⟩ := e
      refine z_getQ ex1201 lk_X6_24 dX6_fewSlip_37 ?_
      refine z_iload 5 dX6_fewSlip_40 rfl ?_
      refine z_aload_n 0 dX6_fewSlip_42 rfl ?_
      replace e := z_bd e; obtain ⟨x1202, ex1202, e⟩ := e
      refine z_getQ ex1202 lk_X6_24 dX6_fewSlip_43 ?_
      refine z_iload 5 dX6_fewSlip_46 rfl ?_
      replace e := z_bd e; obtain ⟨x1203, ex1203, e⟩ := e
      refine z_lald ex1203 dX6_fewSlip_48 ?_
      refine z_bipush (v := 10) dX6_fewSlip_49 (by decide) ?_
      refine z_iload_n 1 dX6_fewSlip_51 rfl ?_
      refine z_isub dX6_fewSlip_52 ?_
      refine z_i2l dX6_fewSlip_53 ?_
      refine z_lmul dX6_fewSlip_54 ?_
      refine z_ldc2 dX6_fewSlip_55 kj_X6_74 ?_
      refine z_ldiv dX6_fewSlip_58 (by decide) ?_
      refine z_iload 5 dX6_fewSlip_59 rfl ?_
      refine z_if_le (tgt := 83) dX6_fewSlip_61 (by decide) (fun c1204 => ?_) (fun c1204 => ?_)
      · rw [if_pos c1204] at e
        refine z_lconst (v := 0) dX6_fewSlip_83 (by decide) ?_
        exact z_weak [0, 1, 2, 3, 4, 5] rfl (S_X6_fewSlip_84  @hk20 @hk31 e)
      · rw [if_neg c1204] at e
        refine z_aload_n 0 dX6_fewSlip_64 rfl ?_
        replace e := z_bd e; obtain ⟨x1205, ex1205, e⟩ := e
        refine z_getQ ex1205 lk_X6_24 dX6_fewSlip_65 ?_
        refine z_iload 5 dX6_fewSlip_68 rfl ?_
        refine z_iconst (v := 1) dX6_fewSlip_70 (by decide) ?_
        refine z_isub dX6_fewSlip_71 ?_
        replace e := z_bd e; obtain ⟨x1206, ex1206, e⟩ := e
        refine z_lald ex1206 dX6_fewSlip_72 ?_
        refine z_iload_n 1 dX6_fewSlip_73 rfl ?_
        refine z_i2l dX6_fewSlip_74 ?_
        refine z_lmul dX6_fewSlip_75 ?_
        refine z_ldc2 dX6_fewSlip_76 kj_X6_74 ?_
        refine z_ldiv dX6_fewSlip_79 (by decide) ?_
        refine z_goto (tgt := 84) dX6_fewSlip_80 (by decide) ?_
        exact z_weak [0, 1, 2, 3, 4, 5] rfl (S_X6_fewSlip_84  @hk20 @hk31 e)
def D_X6_fewSlip_20b (k20 : z_H → Option Nat → Int32 → Int32 → Int32 → Int32 → Option (Int64 × z_H)) (h : z_H) (l0 : Option Nat) (l1 : Int32) (l2 : Int32) (l3 : Int32) (l4 : Int32) : Option (Int64 × z_H) :=
  if l3 ≤ l4 then
    D_X6_fewSlip_104   z_F h l0 l2 (0:Int64) (0:Int32)
  else
    (some (l2 - (1:Int32))).bind fun x1208 =>
    D_X6_fewSlip_31  k20 z_F h l0 l1 l2 l3 l4 x1208
def D_X6_fewSlip_20 (n : Nat) : z_H → Option Nat → Int32 → Int32 → Int32 → Int32 → Option (Int64 × z_H) := Nat.rec (motive := fun _ => z_H → Option Nat → Int32 → Int32 → Int32 → Int32 → Option (Int64 × z_H)) (fun _ _ _ _ _ _ => none) (fun _ k => D_X6_fewSlip_20b  k) n
set_option maxRecDepth 100000 in
set_option maxHeartbeats 4000000 in
theorem S_X6_fewSlip_20 {G : z_G} {l : Launch}  (n : Nat) : ∀ {h : z_H} {l0 : Option Nat} {l1 : Int32} {l2 : Int32} {l3 : Int32} {l4 : Int32} {res : (Int64 × z_H)}, D_X6_fewSlip_20  n h l0 l1 l2 l3 l4 = some res → z_Run G l 5 M_X6_fewSlip 20 [(0, z_r l0), (1, .int l1), (2, .int l2), (3, .int l3), (4, .int l4)] [] h res.2 (some (.long res.1)) := by
  induction n with
  | zero => intro h l0 l1 l2 l3 l4 res e; cases e
  | succ n hk20 =>
    intro h l0 l1 l2 l3 l4 res e
    replace e : D_X6_fewSlip_20b  (D_X6_fewSlip_20  n) h l0 l1 l2 l3 l4 = some res := e
    unfold D_X6_fewSlip_20b at e
    refine z_iload 4 dX6_fewSlip_20 rfl ?_
    refine z_iload_n 3 dX6_fewSlip_22 rfl ?_
    refine z_icmp_ge (tgt := 98) dX6_fewSlip_23 (by decide) (fun c1207 => ?_) (fun c1207 => ?_)
    · rw [if_pos c1207] at e
      refine z_lconst (v := 0) dX6_fewSlip_98 (by decide) ?_
      refine z_lstore (L' := [(4, .long (0:Int64)), (0, z_r l0), (1, .int l1), (2, .int l2), (3, .int l3)]) dX6_fewSlip_99 (by decide) rfl ?_
      refine z_iconst (v := 0) dX6_fewSlip_101 (by decide) ?_
      refine z_istore (L' := [(6, .int (0:Int32)), (4, .long (0:Int64)), (0, z_r l0), (1, .int l1), (2, .int l2), (3, .int l3)]) dX6_fewSlip_102 (by decide) rfl ?_
      exact z_weak [2, 4, 1, 0] rfl (S_X6_fewSlip_104   z_F e)
    · rw [if_neg c1207] at e
      refine z_iload_n 2 dX6_fewSlip_26 rfl ?_
      refine z_iconst (v := 1) dX6_fewSlip_27 (by decide) ?_
      refine z_isub dX6_fewSlip_28 ?_
      replace e := z_bd e; obtain ⟨x1208, ex1208, e⟩ := e
      refine z_topI ex1208 ?_
      refine z_istore (L' := [(5, .int x1208), (0, z_r l0), (1, .int l1), (2, .int l2), (3, .int l3), (4, .int l4)]) dX6_fewSlip_29 (by decide) rfl ?_
      exact z_weak [1, 2, 3, 4, 5, 0] rfl (S_X6_fewSlip_31  @hk20 z_F e)
def D_X6_fewSlip (h : z_H) (l0 : Option Nat) (l1 : Int32) (l2 : Int32) (l3 : Int32) : Option (Int64 × z_H) :=
  (z_gQ 6 h l0 5).bind fun x1209 =>
  (D_J7_fill_d0a16  h x1209 (0:Int64)).bind fun p1210 =>
  (z_gQ 6 p1210 l0 5).bind fun x1211 =>
  (z_sJ p1210 x1211 (0:Int32) (1000000000000:Int64)).bind fun h1212 =>
  D_X6_fewSlip_20   z_F h1212 l0 l1 l2 l3 (0:Int32)
set_option maxRecDepth 100000 in
set_option maxHeartbeats 4000000 in
theorem S_X6_fewSlip {G : z_G} {l : Launch} {h : z_H} {l0 : Option Nat} {l1 : Int32} {l2 : Int32} {l3 : Int32} {res : (Int64 × z_H)} (e : D_X6_fewSlip h l0 l1 l2 l3 = some res) : z_Meth G l 5 M_X6_fewSlip [z_r l0, .int l1, .int l2, .int l3] h res.2 (some (.long res.1)) := by
  refine z_Meth.of ck_X6_fewSlip.2.2.2.2 (by simp [lg_sl, z_ci, z_cj, z_cr, z_cx]) ck_X6_fewSlip.1 ?_
  rw [show lv_args 0 [z_r l0, .int l1, .int l2, .int l3] = [(0, z_r l0), (1, .int l1), (2, .int l2), (3, .int l3)] from by simp [lv_args, z_ci, z_cj, z_cr, z_cx]]
  unfold D_X6_fewSlip at e
  refine z_aload_n 0 dX6_fewSlip_0 rfl ?_
  replace e := z_bd e; obtain ⟨x1209, ex1209, e⟩ := e
  refine z_getQ ex1209 lk_X6_24 dX6_fewSlip_1 ?_
  refine z_lconst (v := 0) dX6_fewSlip_4 (by decide) ?_
  replace e := z_bd e; obtain ⟨p1210, ep1210, e⟩ := e
  refine z_cS [z_r x1209, .long (0:Int64)] (S_J7_fill_d0a16  ep1210) ml_X6_57 ck_J7_fill_d0a16 st_J7_fill_d0a16 dX6_fewSlip_5 (by decide) rfl (Nat.zero_le _) rfl ?_
  refine z_aload_n 0 dX6_fewSlip_8 rfl ?_
  replace e := z_bd e; obtain ⟨x1211, ex1211, e⟩ := e
  refine z_getQ ex1211 lk_X6_24 dX6_fewSlip_9 ?_
  refine z_iconst (v := 0) dX6_fewSlip_12 (by decide) ?_
  refine z_ldc2 dX6_fewSlip_13 kj_X6_63 ?_
  replace e := z_bd e; obtain ⟨h1212, eh1212, e⟩ := e
  refine z_last eh1212 dX6_fewSlip_16 ?_
  refine z_iconst (v := 0) dX6_fewSlip_17 (by decide) ?_
  refine z_istore (L' := [(4, .int (0:Int32)), (0, z_r l0), (1, .int l1), (2, .int l2), (3, .int l3)]) dX6_fewSlip_18 (by decide) rfl ?_
  exact z_weak [1, 2, 3, 4, 0] rfl (S_X6_fewSlip_20   z_F e)
theorem dX10_few_0 : decode cX10_few 0 = .ok (.iload_n 1, 1) := by decide +kernel
theorem dX10_few_1 : decode cX10_few 1 = .ok (.iconst 1, 1) := by decide +kernel
theorem dX10_few_2 : decode cX10_few 2 = .ok (.if_icmp .lt 19, 3) := by decide +kernel
theorem dX10_few_5 : decode cX10_few 5 = .ok (.iload_n 1, 1) := by decide +kernel
theorem dX10_few_6 : decode cX10_few 6 = .ok (.bipush 20, 2) := by decide +kernel
theorem dX10_few_8 : decode cX10_few 8 = .ok (.if_icmp .gt 13, 3) := by decide +kernel
theorem dX10_few_11 : decode cX10_few 11 = .ok (.iload_n 2, 1) := by decide +kernel
theorem dX10_few_12 : decode cX10_few 12 = .ok (.ifCond .lt 9, 3) := by decide +kernel
theorem dX10_few_15 : decode cX10_few 15 = .ok (.iload_n 2, 1) := by decide +kernel
theorem dX10_few_16 : decode cX10_few 16 = .ok (.bipush 99, 2) := by decide +kernel
theorem dX10_few_18 : decode cX10_few 18 = .ok (.if_icmp .le 7, 3) := by decide +kernel
theorem dX10_few_21 : decode cX10_few 21 = .ok (.ldc2_w 229, 3) := by decide +kernel
theorem dX10_few_24 : decode cX10_few 24 = .ok (.lreturn, 1) := by decide +kernel
theorem dX10_few_25 : decode cX10_few 25 = .ok (.aload_n 0, 1) := by decide +kernel
theorem dX10_few_26 : decode cX10_few 26 = .ok (.getfield 78, 3) := by decide +kernel
theorem dX10_few_29 : decode cX10_few 29 = .ok (.aload_n 0, 1) := by decide +kernel
theorem dX10_few_30 : decode cX10_few 30 = .ok (.getfield 12, 3) := by decide +kernel
theorem dX10_few_33 : decode cX10_few 33 = .ok (.getfield 168, 3) := by decide +kernel
theorem dX10_few_36 : decode cX10_few 36 = .ok (.iconst 1, 1) := by decide +kernel
theorem dX10_few_37 : decode cX10_few 37 = .ok (.iaload, 1) := by decide +kernel
theorem dX10_few_38 : decode cX10_few 38 = .ok (.iload_n 1, 1) := by decide +kernel
theorem dX10_few_39 : decode cX10_few 39 = .ok (.iload_n 2, 1) := by decide +kernel
theorem dX10_few_40 : decode cX10_few 40 = .ok (.invokevirtual 294, 3) := by decide +kernel
theorem dX10_few_43 : decode cX10_few 43 = .ok (.lreturn, 1) := by decide +kernel
def D_X10_few (h : z_H) (l0 : Option Nat) (l1 : Int32) (l2 : Int32) : Option (Int64 × z_H) :=
  if l1 < (1:Int32) then
    some ((-1:Int64), h)
  else
    if (20:Int32) < l1 then
      some ((-1:Int64), h)
    else
      if l2 < 0 then
        some ((-1:Int64), h)
      else
        if l2 ≤ (99:Int32) then
          (z_gQ 10 h l0 10).bind fun x1217 =>
          (z_gQ 10 h l0 0).bind fun x1218 =>
          (z_gQ 9 h x1218 4).bind fun x1219 =>
          (z_aI .int h x1219 (1:Int32)).bind fun x1220 =>
          (z_ob 6 h x1217).bind fun _ =>
          (D_X6_fewSlip  h x1217 x1220 l1 l2).bind fun p1221 =>
          some (p1221.1, p1221.2)
        else
          some ((-1:Int64), h)
set_option maxRecDepth 100000 in
set_option maxHeartbeats 4000000 in
theorem S_X10_few {G : z_G} {l : Launch} {h : z_H} {l0 : Option Nat} {l1 : Int32} {l2 : Int32} {res : (Int64 × z_H)} (e : D_X10_few h l0 l1 l2 = some res) : z_Meth G l 6 M_X10_few [z_r l0, .int l1, .int l2] h res.2 (some (.long res.1)) := by
  refine z_Meth.of ck_X10_few.2.2.2.2 (by simp [lg_sl, z_ci, z_cj, z_cr, z_cx]) ck_X10_few.1 ?_
  rw [show lv_args 0 [z_r l0, .int l1, .int l2] = [(0, z_r l0), (1, .int l1), (2, .int l2)] from by simp [lv_args, z_ci, z_cj, z_cr, z_cx]]
  unfold D_X10_few at e
  refine z_iload_n 1 dX10_few_0 rfl ?_
  refine z_iconst (v := 1) dX10_few_1 (by decide) ?_
  refine z_icmp_lt (tgt := 21) dX10_few_2 (by decide) (fun c1213 => ?_) (fun c1213 => ?_)
  · rw [if_pos c1213] at e
    refine z_ldc2 dX10_few_21 kj_X10_229 ?_
    cases e
    exact z_lret dX10_few_24 rfl
  · rw [if_neg c1213] at e
    refine z_iload_n 1 dX10_few_5 rfl ?_
    refine z_bipush (v := 20) dX10_few_6 (by decide) ?_
    refine z_icmp_gt (tgt := 21) dX10_few_8 (by decide) (fun c1214 => ?_) (fun c1214 => ?_)
    · rw [if_pos c1214] at e
      refine z_ldc2 dX10_few_21 kj_X10_229 ?_
      cases e
      exact z_lret dX10_few_24 rfl
    · rw [if_neg c1214] at e
      refine z_iload_n 2 dX10_few_11 rfl ?_
      refine z_if_lt (tgt := 21) dX10_few_12 (by decide) (fun c1215 => ?_) (fun c1215 => ?_)
      · rw [if_pos c1215] at e
        refine z_ldc2 dX10_few_21 kj_X10_229 ?_
        cases e
        exact z_lret dX10_few_24 rfl
      · rw [if_neg c1215] at e
        refine z_iload_n 2 dX10_few_15 rfl ?_
        refine z_bipush (v := 99) dX10_few_16 (by decide) ?_
        refine z_icmp_le (tgt := 25) dX10_few_18 (by decide) (fun c1216 => ?_) (fun c1216 => ?_)
        · rw [if_pos c1216] at e
          refine z_aload_n 0 dX10_few_25 rfl ?_
          replace e := z_bd e; obtain ⟨x1217, ex1217, e⟩ := e
          refine z_getQ ex1217 lk_X10_78 dX10_few_26 ?_
          refine z_aload_n 0 dX10_few_29 rfl ?_
          replace e := z_bd e; obtain ⟨x1218, ex1218, e⟩ := e
          refine z_getQ ex1218 lk_X10_12 dX10_few_30 ?_
          replace e := z_bd e; obtain ⟨x1219, ex1219, e⟩ := e
          refine z_getQ ex1219 lk_X10_168 dX10_few_33 ?_
          refine z_iconst (v := 1) dX10_few_36 (by decide) ?_
          replace e := z_bd e; obtain ⟨x1220, ex1220, e⟩ := e
          refine z_iald ex1220 dX10_few_37 ?_
          refine z_iload_n 1 dX10_few_38 rfl ?_
          refine z_iload_n 2 dX10_few_39 rfl ?_
          replace e := z_bd e; obtain ⟨o1222, eo1222, e⟩ := e
          replace e := z_bd e; obtain ⟨p1221, ep1221, e⟩ := e
          refine z_cV [.int x1220, .int l1, .int l2] (S_X6_fewSlip  ep1221) eo1222 rfl ml_X10_294 ck_X6_fewSlip vk_X6_fewSlip dX10_few_40 (by decide) rfl (Nat.zero_le _) rfl ?_
          cases e
          exact z_lret dX10_few_43 rfl
        · rw [if_neg c1216] at e
          refine z_ldc2 dX10_few_21 kj_X10_229 ?_
          cases e
          exact z_lret dX10_few_24 rfl
