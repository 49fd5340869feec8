theorem dX11_chance_0 : decode cX11_chance 0 = .ok (.aload_n 0, 1) := by decide +kernel
theorem dX11_chance_1 : decode cX11_chance 1 = .ok (.iconst 0, 1) := by decide +kernel
theorem dX11_chance_2 : decode cX11_chance 2 = .ok (.putfield 166, 3) := by decide +kernel
theorem dX11_chance_5 : decode cX11_chance 5 = .ok (.aload_n 0, 1) := by decide +kernel
theorem dX11_chance_6 : decode cX11_chance 6 = .ok (.iload_n 1, 1) := by decide +kernel
theorem dX11_chance_7 : decode cX11_chance 7 = .ok (.invokevirtual 211, 3) := by decide +kernel
theorem dX11_chance_10 : decode cX11_chance 10 = .ok (.ifCond .eq 22, 3) := by decide +kernel
theorem dX11_chance_13 : decode cX11_chance 13 = .ok (.iload_n 2, 1) := by decide +kernel
theorem dX11_chance_14 : decode cX11_chance 14 = .ok (.invokestatic 201, 3) := by decide +kernel
theorem dX11_chance_17 : decode cX11_chance 17 = .ok (.ifCond .eq 15, 3) := by decide +kernel
theorem dX11_chance_20 : decode cX11_chance 20 = .ok (.iload_n 3, 1) := by decide +kernel
theorem dX11_chance_21 : decode cX11_chance 21 = .ok (.i2l, 1) := by decide +kernel
theorem dX11_chance_22 : decode cX11_chance 22 = .ok (.lconst 0, 1) := by decide +kernel
theorem dX11_chance_23 : decode cX11_chance 23 = .ok (.ldc2_w 499, 3) := by decide +kernel
theorem dX11_chance_26 : decode cX11_chance 26 = .ok (.invokestatic 186, 3) := by decide +kernel
theorem dX11_chance_29 : decode cX11_chance 29 = .ok (.ifCond .ne 7, 3) := by decide +kernel
theorem dX11_chance_32 : decode cX11_chance 32 = .ok (.ldc2_w 278, 3) := by decide +kernel
theorem dX11_chance_35 : decode cX11_chance 35 = .ok (.lreturn, 1) := by decide +kernel
theorem dX11_chance_36 : decode cX11_chance 36 = .ok (.aload_n 0, 1) := by decide +kernel
theorem dX11_chance_37 : decode cX11_chance 37 = .ok (.iload_n 1, 1) := by decide +kernel
theorem dX11_chance_38 : decode cX11_chance 38 = .ok (.invokevirtual 473, 3) := by decide +kernel
theorem dX11_chance_41 : decode cX11_chance 41 = .ok (.iconst 0, 1) := by decide +kernel
theorem dX11_chance_42 : decode cX11_chance 42 = .ok (.istore 4, 2) := by decide +kernel
theorem dX11_chance_44 : decode cX11_chance 44 = .ok (.iload 4, 2) := by decide +kernel
theorem dX11_chance_46 : decode cX11_chance 46 = .ok (.bipush 100, 2) := by decide +kernel
theorem dX11_chance_48 : decode cX11_chance 48 = .ok (.if_icmp .ge 33, 3) := by decide +kernel
theorem dX11_chance_51 : decode cX11_chance 51 = .ok (.aload_n 0, 1) := by decide +kernel
theorem dX11_chance_52 : decode cX11_chance 52 = .ok (.getfield 126, 3) := by decide +kernel
theorem dX11_chance_55 : decode cX11_chance 55 = .ok (.iload 4, 2) := by decide +kernel
theorem dX11_chance_57 : decode cX11_chance 57 = .ok (.iload 4, 2) := by decide +kernel
theorem dX11_chance_59 : decode cX11_chance 59 = .ok (.aload_n 0, 1) := by decide +kernel
theorem dX11_chance_60 : decode cX11_chance 60 = .ok (.iload_n 1, 1) := by decide +kernel
theorem dX11_chance_61 : decode cX11_chance 61 = .ok (.invokevirtual 496, 3) := by decide +kernel
theorem dX11_chance_64 : decode cX11_chance 64 = .ok (.if_icmp .ne 9, 3) := by decide +kernel
theorem dX11_chance_67 : decode cX11_chance 67 = .ok (.ldc2_w 501, 3) := by decide +kernel
theorem dX11_chance_70 : decode cX11_chance 70 = .ok (.goto 4, 3) := by decide +kernel
theorem dX11_chance_73 : decode cX11_chance 73 = .ok (.lconst 0, 1) := by decide +kernel
theorem dX11_chance_74 : decode cX11_chance 74 = .ok (.lastore, 1) := by decide +kernel
theorem dX11_chance_75 : decode cX11_chance 75 = .ok (.iinc 4 1, 3) := by decide +kernel
theorem dX11_chance_78 : decode cX11_chance 78 = .ok (.goto (-34), 3) := by decide +kernel
theorem dX11_chance_81 : decode cX11_chance 81 = .ok (.iconst 0, 1) := by decide +kernel
theorem dX11_chance_82 : decode cX11_chance 82 = .ok (.istore 4, 2) := by decide +kernel
theorem dX11_chance_84 : decode cX11_chance 84 = .ok (.iload 4, 2) := by decide +kernel
theorem dX11_chance_86 : decode cX11_chance 86 = .ok (.iload_n 3, 1) := by decide +kernel
theorem dX11_chance_87 : decode cX11_chance 87 = .ok (.if_icmp .ge 136, 3) := by decide +kernel
theorem dX11_chance_90 : decode cX11_chance 90 = .ok (.iconst 0, 1) := by decide +kernel
theorem dX11_chance_91 : decode cX11_chance 91 = .ok (.istore 5, 2) := by decide +kernel
theorem dX11_chance_93 : decode cX11_chance 93 = .ok (.iload 5, 2) := by decide +kernel
theorem dX11_chance_95 : decode cX11_chance 95 = .ok (.bipush 100, 2) := by decide +kernel
theorem dX11_chance_97 : decode cX11_chance 97 = .ok (.if_icmp .ge 17, 3) := by decide +kernel
theorem dX11_chance_100 : decode cX11_chance 100 = .ok (.aload_n 0, 1) := by decide +kernel
theorem dX11_chance_101 : decode cX11_chance 101 = .ok (.getfield 129, 3) := by decide +kernel
theorem dX11_chance_104 : decode cX11_chance 104 = .ok (.iload 5, 2) := by decide +kernel
theorem dX11_chance_106 : decode cX11_chance 106 = .ok (.lconst 0, 1) := by decide +kernel
theorem dX11_chance_107 : decode cX11_chance 107 = .ok (.lastore, 1) := by decide +kernel
theorem dX11_chance_108 : decode cX11_chance 108 = .ok (.iinc 5 1, 3) := by decide +kernel
theorem dX11_chance_111 : decode cX11_chance 111 = .ok (.goto (-18), 3) := by decide +kernel
theorem dX11_chance_114 : decode cX11_chance 114 = .ok (.iconst 0, 1) := by decide +kernel
theorem dX11_chance_115 : decode cX11_chance 115 = .ok (.istore 5, 2) := by decide +kernel
theorem dX11_chance_117 : decode cX11_chance 117 = .ok (.iload 5, 2) := by decide +kernel
theorem dX11_chance_119 : decode cX11_chance 119 = .ok (.bipush 100, 2) := by decide +kernel
theorem dX11_chance_121 : decode cX11_chance 121 = .ok (.if_icmp .ge 66, 3) := by decide +kernel
theorem dX11_chance_124 : decode cX11_chance 124 = .ok (.iconst 0, 1) := by decide +kernel
theorem dX11_chance_125 : decode cX11_chance 125 = .ok (.istore 6, 2) := by decide +kernel
theorem dX11_chance_127 : decode cX11_chance 127 = .ok (.iload 6, 2) := by decide +kernel
theorem dX11_chance_129 : decode cX11_chance 129 = .ok (.iconst 3, 1) := by decide +kernel
theorem dX11_chance_130 : decode cX11_chance 130 = .ok (.if_icmp .ge 51, 3) := by decide +kernel
theorem dX11_chance_133 : decode cX11_chance 133 = .ok (.aload_n 0, 1) := by decide +kernel
theorem dX11_chance_134 : decode cX11_chance 134 = .ok (.iload 5, 2) := by decide +kernel
theorem dX11_chance_136 : decode cX11_chance 136 = .ok (.iload 6, 2) := by decide +kernel
theorem dX11_chance_138 : decode cX11_chance 138 = .ok (.invokevirtual 490, 3) := by decide +kernel
theorem dX11_chance_141 : decode cX11_chance 141 = .ok (.istore 7, 2) := by decide +kernel
theorem dX11_chance_143 : decode cX11_chance 143 = .ok (.aload_n 0, 1) := by decide +kernel
theorem dX11_chance_144 : decode cX11_chance 144 = .ok (.getfield 129, 3) := by decide +kernel
theorem dX11_chance_147 : decode cX11_chance 147 = .ok (.iload 7, 2) := by decide +kernel
theorem dX11_chance_149 : decode cX11_chance 149 = .ok (.iconst (-1), 1) := by decide +kernel
theorem dX11_chance_150 : decode cX11_chance 150 = .ok (.if_icmp .ne 8, 3) := by decide +kernel
theorem dX11_chance_153 : decode cX11_chance 153 = .ok (.iload 5, 2) := by decide +kernel
theorem dX11_chance_155 : decode cX11_chance 155 = .ok (.goto 5, 3) := by decide +kernel
theorem dX11_chance_158 : decode cX11_chance 158 = .ok (.iload 7, 2) := by decide +kernel
theorem dX11_chance_160 : decode cX11_chance 160 = .ok (.dup2, 1) := by decide +kernel
theorem dX11_chance_161 : decode cX11_chance 161 = .ok (.laload, 1) := by decide +kernel
theorem dX11_chance_162 : decode cX11_chance 162 = .ok (.aload_n 0, 1) := by decide +kernel
theorem dX11_chance_163 : decode cX11_chance 163 = .ok (.getfield 126, 3) := by decide +kernel
theorem dX11_chance_166 : decode cX11_chance 166 = .ok (.iload 5, 2) := by decide +kernel
theorem dX11_chance_168 : decode cX11_chance 168 = .ok (.laload, 1) := by decide +kernel
theorem dX11_chance_169 : decode cX11_chance 169 = .ok (.ldc2_w 193, 3) := by decide +kernel
theorem dX11_chance_172 : decode cX11_chance 172 = .ok (.ldiv, 1) := by decide +kernel
theorem dX11_chance_173 : decode cX11_chance 173 = .ok (.ladd, 1) := by decide +kernel
theorem dX11_chance_174 : decode cX11_chance 174 = .ok (.lastore, 1) := by decide +kernel
theorem dX11_chance_175 : decode cX11_chance 175 = .ok (.iinc 6 1, 3) := by decide +kernel
theorem dX11_chance_178 : decode cX11_chance 178 = .ok (.goto (-51), 3) := by decide +kernel
theorem dX11_chance_181 : decode cX11_chance 181 = .ok (.iinc 5 1, 3) := by decide +kernel
theorem dX11_chance_184 : decode cX11_chance 184 = .ok (.goto (-67), 3) := by decide +kernel
theorem dX11_chance_187 : decode cX11_chance 187 = .ok (.iconst 0, 1) := by decide +kernel
theorem dX11_chance_188 : decode cX11_chance 188 = .ok (.istore 5, 2) := by decide +kernel
theorem dX11_chance_190 : decode cX11_chance 190 = .ok (.iload 5, 2) := by decide +kernel
theorem dX11_chance_192 : decode cX11_chance 192 = .ok (.bipush 100, 2) := by decide +kernel
theorem dX11_chance_194 : decode cX11_chance 194 = .ok (.if_icmp .ge 23, 3) := by decide +kernel
theorem dX11_chance_197 : decode cX11_chance 197 = .ok (.aload_n 0, 1) := by decide +kernel
theorem dX11_chance_198 : decode cX11_chance 198 = .ok (.getfield 126, 3) := by decide +kernel
theorem dX11_chance_201 : decode cX11_chance 201 = .ok (.iload 5, 2) := by decide +kernel
theorem dX11_chance_203 : decode cX11_chance 203 = .ok (.aload_n 0, 1) := by decide +kernel
theorem dX11_chance_204 : decode cX11_chance 204 = .ok (.getfield 129, 3) := by decide +kernel
theorem dX11_chance_207 : decode cX11_chance 207 = .ok (.iload 5, 2) := by decide +kernel
theorem dX11_chance_209 : decode cX11_chance 209 = .ok (.laload, 1) := by decide +kernel
theorem dX11_chance_210 : decode cX11_chance 210 = .ok (.lastore, 1) := by decide +kernel
theorem dX11_chance_211 : decode cX11_chance 211 = .ok (.iinc 5 1, 3) := by decide +kernel
theorem dX11_chance_214 : decode cX11_chance 214 = .ok (.goto (-24), 3) := by decide +kernel
theorem dX11_chance_217 : decode cX11_chance 217 = .ok (.iinc 4 1, 3) := by decide +kernel
theorem dX11_chance_220 : decode cX11_chance 220 = .ok (.goto (-136), 3) := by decide +kernel
theorem dX11_chance_223 : decode cX11_chance 223 = .ok (.lconst 0, 1) := by decide +kernel
theorem dX11_chance_224 : decode cX11_chance 224 = .ok (.lstore 4, 2) := by decide +kernel
theorem dX11_chance_226 : decode cX11_chance 226 = .ok (.iconst 0, 1) := by decide +kernel
theorem dX11_chance_227 : decode cX11_chance 227 = .ok (.istore 6, 2) := by decide +kernel
theorem dX11_chance_229 : decode cX11_chance 229 = .ok (.iload 6, 2) := by decide +kernel
theorem dX11_chance_231 : decode cX11_chance 231 = .ok (.iconst 4, 1) := by decide +kernel
theorem dX11_chance_232 : decode cX11_chance 232 = .ok (.if_icmp .ge 25, 3) := by decide +kernel
theorem dX11_chance_235 : decode cX11_chance 235 = .ok (.lload 4, 2) := by decide +kernel
theorem dX11_chance_237 : decode cX11_chance 237 = .ok (.aload_n 0, 1) := by decide +kernel
theorem dX11_chance_238 : decode cX11_chance 238 = .ok (.getfield 126, 3) := by decide +kernel
theorem dX11_chance_241 : decode cX11_chance 241 = .ok (.iconst 4, 1) := by decide +kernel
theorem dX11_chance_242 : decode cX11_chance 242 = .ok (.iload_n 2, 1) := by decide +kernel
theorem dX11_chance_243 : decode cX11_chance 243 = .ok (.imul, 1) := by decide +kernel
theorem dX11_chance_244 : decode cX11_chance 244 = .ok (.iload 6, 2) := by decide +kernel
theorem dX11_chance_246 : decode cX11_chance 246 = .ok (.iadd, 1) := by decide +kernel
theorem dX11_chance_247 : decode cX11_chance 247 = .ok (.laload, 1) := by decide +kernel
theorem dX11_chance_248 : decode cX11_chance 248 = .ok (.ladd, 1) := by decide +kernel
theorem dX11_chance_249 : decode cX11_chance 249 = .ok (.lstore 4, 2) := by decide +kernel
theorem dX11_chance_251 : decode cX11_chance 251 = .ok (.iinc 6 1, 3) := by decide +kernel
theorem dX11_chance_254 : decode cX11_chance 254 = .ok (.goto (-25), 3) := by decide +kernel
theorem dX11_chance_257 : decode cX11_chance 257 = .ok (.lload 4, 2) := by decide +kernel
theorem dX11_chance_259 : decode cX11_chance 259 = .ok (.lreturn, 1) := by decide +kernel
def D_X11_chance_229b (k229 : z_H → Option Nat → Int32 → Int64 → Int32 → Option (Int64 × z_H)) (h : z_H) (l0 : Option Nat) (l2 : Int32) (l4 : Int64) (l6 : Int32) : Option (Int64 × z_H) :=
  if (4:Int32) ≤ l6 then
    some (l4, h)
  else
    (z_gQ 11 h l0 45).bind fun x1871 =>
    (z_aJ h x1871 (((4:Int32) * l2) + l6)).bind fun x1872 =>
    (some (l4 + x1872)).bind fun x1873 =>
    (some (l6 + (1:Int32))).bind fun x1874 =>
    k229 h l0 l2 x1873 x1874
def D_X11_chance_229 (n : Nat) : z_H → Option Nat → Int32 → Int64 → Int32 → Option (Int64 × z_H) := Nat.rec (motive := fun _ => z_H → Option Nat → Int32 → Int64 → Int32 → Option (Int64 × z_H)) (fun _ _ _ _ _ => none) (fun _ k => D_X11_chance_229b  k) n
set_option maxRecDepth 100000 in
set_option maxHeartbeats 4000000 in
theorem S_X11_chance_229 {G : z_G} {l : Launch}  (n : Nat) : ∀ {h : z_H} {l0 : Option Nat} {l2 : Int32} {l4 : Int64} {l6 : Int32} {res : (Int64 × z_H)}, D_X11_chance_229  n h l0 l2 l4 l6 = some res → z_Run G l 11 M_X11_chance 229 [(0, z_r l0), (2, .int l2), (4, .long l4), (6, .int l6)] [] h res.2 (some (.long res.1)) := by
  induction n with
  | zero => intro h l0 l2 l4 l6 res e; cases e
  | succ n hk229 =>
    intro h l0 l2 l4 l6 res e
    replace e : D_X11_chance_229b  (D_X11_chance_229  n) h l0 l2 l4 l6 = some res := e
    unfold D_X11_chance_229b at e
    refine z_iload 3 dX11_chance_229 rfl ?_
    refine z_iconst (v := 4) dX11_chance_231 (by decide) ?_
    refine z_icmp_ge (tgt := 257) dX11_chance_232 (by decide) (fun c1870 => ?_) (fun c1870 => ?_)
    · rw [if_pos c1870] at e
      refine z_lload 2 dX11_chance_257 rfl ?_
      cases e
      exact z_lret dX11_chance_259 rfl
    · rw [if_neg c1870] at e
      refine z_lload 2 dX11_chance_235 rfl ?_
      refine z_aload_n 0 dX11_chance_237 rfl ?_
      replace e := z_bd e; obtain ⟨x1871, ex1871, e⟩ := e
      refine z_getQ ex1871 lk_X11_126 dX11_chance_238 ?_
      refine z_iconst (v := 4) dX11_chance_241 (by decide) ?_
      refine z_iload_n 1 dX11_chance_242 rfl ?_
      refine z_imul dX11_chance_243 ?_
      refine z_iload 3 dX11_chance_244 rfl ?_
      refine z_iadd dX11_chance_246 ?_
      replace e := z_bd e; obtain ⟨x1872, ex1872, e⟩ := e
      refine z_lald ex1872 dX11_chance_247 ?_
      refine z_ladd dX11_chance_248 ?_
      replace e := z_bd e; obtain ⟨x1873, ex1873, e⟩ := e
      refine z_topJ ex1873 ?_
      refine z_lstore (L' := [(4, .long x1873), (0, z_r l0), (2, .int l2), (6, .int l6)]) dX11_chance_249 (by decide) rfl ?_
      replace e := z_bd e; obtain ⟨x1874, ex1874, e⟩ := e
      refine z_iinc (q := 3) (v := x1874) (L' := [(6, .int x1874), (4, .long x1873), (0, z_r l0), (2, .int l2)]) dX11_chance_251 rfl (Option.some.inj ex1874) (by decide) rfl ?_
      refine z_goto (tgt := 229) dX11_chance_254 (by decide) ?_
      exact z_weak [2, 3, 1, 0] rfl (hk229 e)
def D_X11_chance_190b (k84 : z_H → Option Nat → Int32 → Int32 → Int32 → Option (Int64 × z_H)) (k190 : z_H → Option Nat → Int32 → Int32 → Int32 → Int32 → Option (Int64 × z_H)) (h : z_H) (l0 : Option Nat) (l2 : Int32) (l3 : Int32) (l4 : Int32) (l5 : Int32) : Option (Int64 × z_H) :=
  if (100:Int32) ≤ l5 then
    (some (l4 + (1:Int32))).bind fun x1876 =>
    k84 h l0 l2 l3 x1876
  else
    (z_gQ 11 h l0 45).bind fun x1877 =>
    (z_gQ 11 h l0 46).bind fun x1878 =>
    (z_aJ h x1878 l5).bind fun x1879 =>
    (z_sJ h x1877 l5 x1879).bind fun h1880 =>
    (some (l5 + (1:Int32))).bind fun x1881 =>
    k190 h1880 l0 l2 l3 l4 x1881
def D_X11_chance_190 (k84 : z_H → Option Nat → Int32 → Int32 → Int32 → Option (Int64 × z_H)) (n : Nat) : z_H → Option Nat → Int32 → Int32 → Int32 → Int32 → Option (Int64 × z_H) := Nat.rec (motive := fun _ => z_H → Option Nat → Int32 → Int32 → Int32 → Int32 → Option (Int64 × z_H)) (fun _ _ _ _ _ _ => none) (fun _ k => D_X11_chance_190b k84 k) n
set_option maxRecDepth 100000 in
set_option maxHeartbeats 4000000 in
theorem S_X11_chance_190 {G : z_G} {l : Launch} {k84 : z_H → Option Nat → Int32 → Int32 → Int32 → Option (Int64 × z_H)} (hk84 : ∀ {h : z_H} {l0 : Option Nat} {l2 : Int32} {l3 : Int32} {l4 : Int32} {res : (Int64 × z_H)}, k84 h l0 l2 l3 l4 = some res → z_Run G l 11 M_X11_chance 84 [(0, z_r l0), (2, .int l2), (3, .int l3), (4, .int l4)] [] h res.2 (some (.long res.1))) (n : Nat) : ∀ {h : z_H} {l0 : Option Nat} {l2 : Int32} {l3 : Int32} {l4 : Int32} {l5 : Int32} {res : (Int64 × z_H)}, D_X11_chance_190 k84 n h l0 l2 l3 l4 l5 = some res → z_Run G l 11 M_X11_chance 190 [(0, z_r l0), (2, .int l2), (3, .int l3), (4, .int l4), (5, .int l5)] [] h res.2 (some (.long res.1)) := by
  induction n with
  | zero => intro h l0 l2 l3 l4 l5 res e; cases e
  | succ n hk190 =>
    intro h l0 l2 l3 l4 l5 res e
    replace e : D_X11_chance_190b k84 (D_X11_chance_190 k84 n) h l0 l2 l3 l4 l5 = some res := e
    unfold D_X11_chance_190b at e
    refine z_iload 4 dX11_chance_190 rfl ?_
    refine z_bipush (v := 100) dX11_chance_192 (by decide) ?_
    refine z_icmp_ge (tgt := 217) dX11_chance_194 (by decide) (fun c1875 => ?_) (fun c1875 => ?_)
    · rw [if_pos c1875] at e
      replace e := z_bd e; obtain ⟨x1876, ex1876, e⟩ := e
      refine z_iinc (q := 3) (v := x1876) (L' := [(4, .int x1876), (0, z_r l0), (2, .int l2), (3, .int l3), (5, .int l5)]) dX11_chance_217 rfl (Option.some.inj ex1876) (by decide) rfl ?_
      refine z_goto (tgt := 84) dX11_chance_220 (by decide) ?_
      exact z_weak [1, 2, 3, 0] rfl (hk84 e)
    · rw [if_neg c1875] at e
      refine z_aload_n 0 dX11_chance_197 rfl ?_
      replace e := z_bd e; obtain ⟨x1877, ex1877, e⟩ := e
      refine z_getQ ex1877 lk_X11_126 dX11_chance_198 ?_
      refine z_iload 4 dX11_chance_201 rfl ?_
      refine z_aload_n 0 dX11_chance_203 rfl ?_
      replace e := z_bd e; obtain ⟨x1878, ex1878, e⟩ := e
      refine z_getQ ex1878 lk_X11_129 dX11_chance_204 ?_
      refine z_iload 4 dX11_chance_207 rfl ?_
      replace e := z_bd e; obtain ⟨x1879, ex1879, e⟩ := e
      refine z_lald ex1879 dX11_chance_209 ?_
      replace e := z_bd e; obtain ⟨h1880, eh1880, e⟩ := e
      refine z_last eh1880 dX11_chance_210 ?_
      replace e := z_bd e; obtain ⟨x1881, ex1881, e⟩ := e
      refine z_iinc (q := 4) (v := x1881) (L' := [(5, .int x1881), (0, z_r l0), (2, .int l2), (3, .int l3), (4, .int l4)]) dX11_chance_211 rfl (Option.some.inj ex1881) (by decide) rfl ?_
      refine z_goto (tgt := 190) dX11_chance_214 (by decide) ?_
      exact z_weak [1, 2, 3, 4, 0] rfl (hk190 e)
def D_X11_chance_160 (k84 : z_H → Option Nat → Int32 → Int32 → Int32 → Option (Int64 × z_H)) (k117 : z_H → Option Nat → Int32 → Int32 → Int32 → Int32 → Option (Int64 × z_H)) (k127 : z_H → Option Nat → Int32 → Int32 → Int32 → Int32 → Int32 → Option (Int64 × z_H)) (h : z_H) (l0 : Option Nat) (l2 : Int32) (l3 : Int32) (l4 : Int32) (l5 : Int32) (l6 : Int32) (s0 : Option Nat) (s1 : Int32) : Option (Int64 × z_H) :=
  (z_aJ h s0 s1).bind fun x1882 =>
  (z_gQ 11 h l0 45).bind fun x1883 =>
  (z_aJ h x1883 l5).bind fun x1884 =>
  (z_sJ h s0 s1 (x1882 + (x1884 / (3:Int64)))).bind fun h1885 =>
  (some (l6 + (1:Int32))).bind fun x1886 =>
  k127 h1885 l0 l2 l3 l4 l5 x1886
set_option maxRecDepth 100000 in
set_option maxHeartbeats 4000000 in
theorem S_X11_chance_160 {G : z_G} {l : Launch} {k84 : z_H → Option Nat → Int32 → Int32 → Int32 → Option (Int64 × z_H)} {k117 : z_H → Option Nat → Int32 → Int32 → Int32 → Int32 → Option (Int64 × z_H)} {k127 : z_H → Option Nat → Int32 → Int32 → Int32 → Int32 → Int32 → Option (Int64 × z_H)} (hk84 : ∀ {h : z_H} {l0 : Option Nat} {l2 : Int32} {l3 : Int32} {l4 : Int32} {res : (Int64 × z_H)}, k84 h l0 l2 l3 l4 = some res → z_Run G l 11 M_X11_chance 84 [(0, z_r l0), (2, .int l2), (3, .int l3), (4, .int l4)] [] h res.2 (some (.long res.1))) (hk117 : ∀ {h : z_H} {l0 : Option Nat} {l2 : Int32} {l3 : Int32} {l4 : Int32} {l5 : Int32} {res : (Int64 × z_H)}, k117 h l0 l2 l3 l4 l5 = some res → z_Run G l 11 M_X11_chance 117 [(0, z_r l0), (2, .int l2), (3, .int l3), (4, .int l4), (5, .int l5)] [] h res.2 (some (.long res.1))) (hk127 : ∀ {h : z_H} {l0 : Option Nat} {l2 : Int32} {l3 : Int32} {l4 : Int32} {l5 : Int32} {l6 : Int32} {res : (Int64 × z_H)}, k127 h l0 l2 l3 l4 l5 l6 = some res → z_Run G l 11 M_X11_chance 127 [(0, z_r l0), (2, .int l2), (3, .int l3), (4, .int l4), (5, .int l5), (6, .int l6)] [] h res.2 (some (.long res.1))) {h : z_H} {l0 : Option Nat} {l2 : Int32} {l3 : Int32} {l4 : Int32} {l5 : Int32} {l6 : Int32} {s0 : Option Nat} {s1 : Int32} {res : (Int64 × z_H)} (e : D_X11_chance_160 k84 k117 k127 h l0 l2 l3 l4 l5 l6 s0 s1 = some res) : z_Run G l 11 M_X11_chance 160 [(0, z_r l0), (2, .int l2), (3, .int l3), (4, .int l4), (5, .int l5), (6, .int l6)] [.int s1, z_r s0] h res.2 (some (.long res.1)) := by
  unfold D_X11_chance_160 at e
  refine z_dup2 dX11_chance_160 rfl (z_cr _) ?_
  replace e := z_bd e; obtain ⟨x1882, ex1882, e⟩ := e
  refine z_lald ex1882 dX11_chance_161 ?_
  refine z_aload_n 0 dX11_chance_162 rfl ?_
  replace e := z_bd e; obtain ⟨x1883, ex1883, e⟩ := e
  refine z_getQ ex1883 lk_X11_126 dX11_chance_163 ?_
  refine z_iload 4 dX11_chance_166 rfl ?_
  replace e := z_bd e; obtain ⟨x1884, ex1884, e⟩ := e
  refine z_lald ex1884 dX11_chance_168 ?_
  refine z_ldc2 dX11_chance_169 kj_X11_193 ?_
  refine z_ldiv dX11_chance_172 (by decide) ?_
  refine z_ladd dX11_chance_173 ?_
  replace e := z_bd e; obtain ⟨h1885, eh1885, e⟩ := e
  refine z_last eh1885 dX11_chance_174 ?_
  replace e := z_bd e; obtain ⟨x1886, ex1886, e⟩ := e
  refine z_iinc (q := 5) (v := x1886) (L' := [(6, .int x1886), (0, z_r l0), (2, .int l2), (3, .int l3), (4, .int l4), (5, .int l5)]) dX11_chance_175 rfl (Option.some.inj ex1886) (by decide) rfl ?_
  refine z_goto (tgt := 127) dX11_chance_178 (by decide) ?_
  exact z_weak [1, 2, 3, 4, 5, 0] rfl (hk127 e)
def D_X11_chance_127b (k84 : z_H → Option Nat → Int32 → Int32 → Int32 → Option (Int64 × z_H)) (k117 : z_H → Option Nat → Int32 → Int32 → Int32 → Int32 → Option (Int64 × z_H)) (k127 : z_H → Option Nat → Int32 → Int32 → Int32 → Int32 → Int32 → Option (Int64 × z_H)) (h : z_H) (l0 : Option Nat) (l2 : Int32) (l3 : Int32) (l4 : Int32) (l5 : Int32) (l6 : Int32) : Option (Int64 × z_H) :=
  if (3:Int32) ≤ l6 then
    (some (l5 + (1:Int32))).bind fun x1888 =>
    k117 h l0 l2 l3 l4 x1888
  else
    (z_ob 11 h l0).bind fun _ =>
    (D_X11_acted  h l0 l5 l6).bind fun p1889 =>
    (z_gQ 11 p1889.2 l0 46).bind fun x1891 =>
    if p1889.1 = (-1:Int32) then
      D_X11_chance_160  k84 k117 k127 p1889.2 l0 l2 l3 l4 l5 l6 x1891 l5
    else
      D_X11_chance_160  k84 k117 k127 p1889.2 l0 l2 l3 l4 l5 l6 x1891 p1889.1
def D_X11_chance_127 (k84 : z_H → Option Nat → Int32 → Int32 → Int32 → Option (Int64 × z_H)) (k117 : z_H → Option Nat → Int32 → Int32 → Int32 → Int32 → Option (Int64 × z_H)) (n : Nat) : z_H → Option Nat → Int32 → Int32 → Int32 → Int32 → Int32 → Option (Int64 × z_H) := Nat.rec (motive := fun _ => z_H → Option Nat → Int32 → Int32 → Int32 → Int32 → Int32 → Option (Int64 × z_H)) (fun _ _ _ _ _ _ _ => none) (fun _ k => D_X11_chance_127b k84 k117 k) n
set_option maxRecDepth 100000 in
set_option maxHeartbeats 4000000 in
theorem S_X11_chance_127 {G : z_G} {l : Launch} {k84 : z_H → Option Nat → Int32 → Int32 → Int32 → Option (Int64 × z_H)} {k117 : z_H → Option Nat → Int32 → Int32 → Int32 → Int32 → Option (Int64 × z_H)} (hk84 : ∀ {h : z_H} {l0 : Option Nat} {l2 : Int32} {l3 : Int32} {l4 : Int32} {res : (Int64 × z_H)}, k84 h l0 l2 l3 l4 = some res → z_Run G l 11 M_X11_chance 84 [(0, z_r l0), (2, .int l2), (3, .int l3), (4, .int l4)] [] h res.2 (some (.long res.1))) (hk117 : ∀ {h : z_H} {l0 : Option Nat} {l2 : Int32} {l3 : Int32} {l4 : Int32} {l5 : Int32} {res : (Int64 × z_H)}, k117 h l0 l2 l3 l4 l5 = some res → z_Run G l 11 M_X11_chance 117 [(0, z_r l0), (2, .int l2), (3, .int l3), (4, .int l4), (5, .int l5)] [] h res.2 (some (.long res.1))) (n : Nat) : ∀ {h : z_H} {l0 : Option Nat} {l2 : Int32} {l3 : Int32} {l4 : Int32} {l5 : Int32} {l6 : Int32} {res : (Int64 × z_H)}, D_X11_chance_127 k84 k117 n h l0 l2 l3 l4 l5 l6 = some res → z_Run G l 11 M_X11_chance 127 [(0, z_r l0), (2, .int l2), (3, .int l3), (4, .int l4), (5, .int l5), (6, .int l6)] [] h res.2 (some (.long res.1)) := by
  induction n with
  | zero => intro h l0 l2 l3 l4 l5 l6 res e; cases e
  | succ n hk127 =>
    intro h l0 l2 l3 l4 l5 l6 res e
    replace e : D_X11_chance_127b k84 k117 (D_X11_chance_127 k84 k117 n) h l0 l2 l3 l4 l5 l6 = some res := e
    unfold D_X11_chance_127b at e
    refine z_iload 5 dX11_chance_127 rfl ?_
    refine z_iconst (v := 3) dX11_chance_129 (by decide) ?_
    refine z_icmp_ge (tgt := 181) dX11_chance_130 (by decide) (fun c1887 => ?_) (fun c1887 => ?_)
    · rw [if_pos c1887] at e
      replace e := z_bd e; obtain ⟨x1888, ex1888, e⟩ := e
      refine z_iinc (q := 4) (v := x1888) (L' := [(5, .int x1888), (0, z_r l0), (2, .int l2), (3, .int l3), (4, .int l4), (6, .int l6)]) dX11_chance_181 rfl (Option.some.inj ex1888) (by decide) rfl ?_
      refine z_goto (tgt := 117) dX11_chance_184 (by decide) ?_
      exact z_weak [1, 2, 3, 4, 0] rfl (hk117 e)
    · rw [if_neg c1887] at e
      refine z_aload_n 0 dX11_chance_133 rfl ?_
      refine z_iload 4 dX11_chance_134 rfl ?_
      refine z_iload 5 dX11_chance_136 rfl ?_
      replace e := z_bd e; obtain ⟨o1890, eo1890, e⟩ := e
      replace e := z_bd e; obtain ⟨p1889, ep1889, e⟩ := e
      refine z_cV [.int l5, .int l6] (S_X11_acted  ep1889) eo1890 rfl ml_X11_490 ck_X11_acted vk_X11_acted dX11_chance_138 (by decide) rfl (Nat.zero_le _) rfl ?_
      refine z_istore (L' := [(7, .int p1889.1), (0, z_r l0), (2, .int l2), (3, .int l3), (4, .int l4), (5, .int l5), (6, .int l6)]) dX11_chance_141 (by decide) rfl ?_
      refine z_aload_n 1 dX11_chance_143 rfl ?_
      replace e := z_bd e; obtain ⟨x1891, ex1891, e⟩ := e
      refine z_getQ ex1891 lk_X11_129 dX11_chance_144 ?_
      refine z_iload 0 dX11_chance_147 rfl ?_
      refine z_iconst (v := -1) dX11_chance_149 (by decide) ?_
      refine z_icmp_ne (tgt := 158) dX11_chance_150 (by decide) (fun c1892 => ?_) (fun c1892 => ?_)
      · rw [if_neg c1892] at e
        refine z_iload 0 dX11_chance_158 rfl ?_
        exact z_weak [1, 2, 3, 4, 5, 6] rfl (S_X11_chance_160  @hk84 @hk117 @hk127 e)
      · rw [if_pos c1892] at e
        refine z_iload 5 dX11_chance_153 rfl ?_
        refine z_goto (tgt := 160) dX11_chance_155 (by decide) ?_
        exact z_weak [1, 2, 3, 4, 5, 6] rfl (S_X11_chance_160  @hk84 @hk117 @hk127 e)
def D_X11_chance_117b (k84 : z_H → Option Nat → Int32 → Int32 → Int32 → Option (Int64 × z_H)) (k117 : z_H → Option Nat → Int32 → Int32 → Int32 → Int32 → Option (Int64 × z_H)) (h : z_H) (l0 : Option Nat) (l2 : Int32) (l3 : Int32) (l4 : Int32) (l5 : Int32) : Option (Int64 × z_H) :=
  if (100:Int32) ≤ l5 then
    D_X11_chance_190  k84 z_F h l0 l2 l3 l4 (0:Int32)
  else
    D_X11_chance_127  k84 k117 z_F h l0 l2 l3 l4 l5 (0:Int32)
def D_X11_chance_117 (k84 : z_H → Option Nat → Int32 → Int32 → Int32 → Option (Int64 × z_H)) (n : Nat) : z_H → Option Nat → Int32 → Int32 → Int32 → Int32 → Option (Int64 × z_H) := Nat.rec (motive := fun _ => z_H → Option Nat → Int32 → Int32 → Int32 → Int32 → Option (Int64 × z_H)) (fun _ _ _ _ _ _ => none) (fun _ k => D_X11_chance_117b k84 k) n
set_option maxRecDepth 100000 in
set_option maxHeartbeats 4000000 in
theorem S_X11_chance_117 {G : z_G} {l : Launch} {k84 : z_H → Option Nat → Int32 → Int32 → Int32 → Option (Int64 × z_H)} (hk84 : ∀ {h : z_H} {l0 : Option Nat} {l2 : Int32} {l3 : Int32} {l4 : Int32} {res : (Int64 × z_H)}, k84 h l0 l2 l3 l4 = some res → z_Run G l 11 M_X11_chance 84 [(0, z_r l0), (2, .int l2), (3, .int l3), (4, .int l4)] [] h res.2 (some (.long res.1))) (n : Nat) : ∀ {h : z_H} {l0 : Option Nat} {l2 : Int32} {l3 : Int32} {l4 : Int32} {l5 : Int32} {res : (Int64 × z_H)}, D_X11_chance_117 k84 n h l0 l2 l3 l4 l5 = some res → z_Run G l 11 M_X11_chance 117 [(0, z_r l0), (2, .int l2), (3, .int l3), (4, .int l4), (5, .int l5)] [] h res.2 (some (.long res.1)) := by
  induction n with
  | zero => intro h l0 l2 l3 l4 l5 res e; cases e
  | succ n hk117 =>
    intro h l0 l2 l3 l4 l5 res e
    replace e : D_X11_chance_117b k84 (D_X11_chance_117 k84 n) h l0 l2 l3 l4 l5 = some res := e
    unfold D_X11_chance_117b at e
    refine z_iload 4 dX11_chance_117 rfl ?_
    refine z_bipush (v := 100) dX11_chance_119 (by decide) ?_
    refine z_icmp_ge (tgt := 187) dX11_chance_121 (by decide) (fun c1893 => ?_) (fun c1893 => ?_)
    · rw [if_pos c1893] at e
      refine z_iconst (v := 0) dX11_chance_187 (by decide) ?_
      refine z_istore (L' := [(5, .int (0:Int32)), (0, z_r l0), (2, .int l2), (3, .int l3), (4, .int l4)]) dX11_chance_188 (by decide) rfl ?_
      exact z_weak [1, 2, 3, 4, 0] rfl (S_X11_chance_190  @hk84 z_F e)
    · rw [if_neg c1893] at e
      refine z_iconst (v := 0) dX11_chance_124 (by decide) ?_
      refine z_istore (L' := [(6, .int (0:Int32)), (0, z_r l0), (2, .int l2), (3, .int l3), (4, .int l4), (5, .int l5)]) dX11_chance_125 (by decide) rfl ?_
      exact z_weak [1, 2, 3, 4, 5, 0] rfl (S_X11_chance_127  @hk84 @hk117 z_F e)
def D_X11_chance_93b (k84 : z_H → Option Nat → Int32 → Int32 → Int32 → Option (Int64 × z_H)) (k93 : z_H → Option Nat → Int32 → Int32 → Int32 → Int32 → Option (Int64 × z_H)) (h : z_H) (l0 : Option Nat) (l2 : Int32) (l3 : Int32) (l4 : Int32) (l5 : Int32) : Option (Int64 × z_H) :=
  if (100:Int32) ≤ l5 then
    D_X11_chance_117  k84 z_F h l0 l2 l3 l4 (0:Int32)
  else
    (z_gQ 11 h l0 46).bind fun x1895 =>
    (z_sJ h x1895 l5 (0:Int64)).bind fun h1896 =>
    (some (l5 + (1:Int32))).bind fun x1897 =>
    k93 h1896 l0 l2 l3 l4 x1897
def D_X11_chance_93 (k84 : z_H → Option Nat → Int32 → Int32 → Int32 → Option (Int64 × z_H)) (n : Nat) : z_H → Option Nat → Int32 → Int32 → Int32 → Int32 → Option (Int64 × z_H) := Nat.rec (motive := fun _ => z_H → Option Nat → Int32 → Int32 → Int32 → Int32 → Option (Int64 × z_H)) (fun _ _ _ _ _ _ => none) (fun _ k => D_X11_chance_93b k84 k) n
set_option maxRecDepth 100000 in
set_option maxHeartbeats 4000000 in
theorem S_X11_chance_93 {G : z_G} {l : Launch} {k84 : z_H → Option Nat → Int32 → Int32 → Int32 → Option (Int64 × z_H)} (hk84 : ∀ {h : z_H} {l0 : Option Nat} {l2 : Int32} {l3 : Int32} {l4 : Int32} {res : (Int64 × z_H)}, k84 h l0 l2 l3 l4 = some res → z_Run G l 11 M_X11_chance 84 [(0, z_r l0), (2, .int l2), (3, .int l3), (4, .int l4)] [] h res.2 (some (.long res.1))) (n : Nat) : ∀ {h : z_H} {l0 : Option Nat} {l2 : Int32} {l3 : Int32} {l4 : Int32} {l5 : Int32} {res : (Int64 × z_H)}, D_X11_chance_93 k84 n h l0 l2 l3 l4 l5 = some res → z_Run G l 11 M_X11_chance 93 [(0, z_r l0), (2, .int l2), (3, .int l3), (4, .int l4), (5, .int l5)] [] h res.2 (some (.long res.1)) := by
  induction n with
  | zero => intro h l0 l2 l3 l4 l5 res e; cases e
  | succ n hk93 =>
    intro h l0 l2 l3 l4 l5 res e
    replace e : D_X11_chance_93b k84 (D_X11_chance_93 k84 n) h l0 l2 l3 l4 l5 = some res := e
    unfold D_X11_chance_93b at e
    refine z_iload 4 dX11_chance_93 rfl ?_
    refine z_bipush (v := 100) dX11_chance_95 (by decide) ?_
    refine z_icmp_ge (tgt := 114) dX11_chance_97 (by decide) (fun c1894 => ?_) (fun c1894 => ?_)
    · rw [if_pos c1894] at e
      refine z_iconst (v := 0) dX11_chance_114 (by decide) ?_
      refine z_istore (L' := [(5, .int (0:Int32)), (0, z_r l0), (2, .int l2), (3, .int l3), (4, .int l4)]) dX11_chance_115 (by decide) rfl ?_
      exact z_weak [1, 2, 3, 4, 0] rfl (S_X11_chance_117  @hk84 z_F e)
    · rw [if_neg c1894] at e
      refine z_aload_n 0 dX11_chance_100 rfl ?_
      replace e := z_bd e; obtain ⟨x1895, ex1895, e⟩ := e
      refine z_getQ ex1895 lk_X11_129 dX11_chance_101 ?_
      refine z_iload 4 dX11_chance_104 rfl ?_
      refine z_lconst (v := 0) dX11_chance_106 (by decide) ?_
      replace e := z_bd e; obtain ⟨h1896, eh1896, e⟩ := e
      refine z_last eh1896 dX11_chance_107 ?_
      replace e := z_bd e; obtain ⟨x1897, ex1897, e⟩ := e
      refine z_iinc (q := 4) (v := x1897) (L' := [(5, .int x1897), (0, z_r l0), (2, .int l2), (3, .int l3), (4, .int l4)]) dX11_chance_108 rfl (Option.some.inj ex1897) (by decide) rfl ?_
      refine z_goto (tgt := 93) dX11_chance_111 (by decide) ?_
      exact z_weak [1, 2, 3, 4, 0] rfl (hk93 e)
def D_X11_chance_84b (k84 : z_H → Option Nat → Int32 → Int32 → Int32 → Option (Int64 × z_H)) (h : z_H) (l0 : Option Nat) (l2 : Int32) (l3 : Int32) (l4 : Int32) : Option (Int64 × z_H) :=
  if l3 ≤ l4 then
    D_X11_chance_229   z_F h l0 l2 (0:Int64) (0:Int32)
  else
    D_X11_chance_93  k84 z_F h l0 l2 l3 l4 (0:Int32)
def D_X11_chance_84 (n : Nat) : z_H → Option Nat → Int32 → Int32 → Int32 → Option (Int64 × z_H) := Nat.rec (motive := fun _ => z_H → Option Nat → Int32 → Int32 → Int32 → Option (Int64 × z_H)) (fun _ _ _ _ _ => none) (fun _ k => D_X11_chance_84b  k) n
set_option maxRecDepth 100000 in
set_option maxHeartbeats 4000000 in
theorem S_X11_chance_84 {G : z_G} {l : Launch}  (n : Nat) : ∀ {h : z_H} {l0 : Option Nat} {l2 : Int32} {l3 : Int32} {l4 : Int32} {res : (Int64 × z_H)}, D_X11_chance_84  n h l0 l2 l3 l4 = some res → z_Run G l 11 M_X11_chance 84 [(0, z_r l0), (2, .int l2), (3, .int l3), (4, .int l4)] [] h res.2 (some (.long res.1)) := by
  induction n with
  | zero => intro h l0 l2 l3 l4 res e; cases e
  | succ n hk84 =>
    intro h l0 l2 l3 l4 res e
    replace e : D_X11_chance_84b  (D_X11_chance_84  n) h l0 l2 l3 l4 = some res := e
    unfold D_X11_chance_84b at e
    refine z_iload 3 dX11_chance_84 rfl ?_
    refine z_iload_n 2 dX11_chance_86 rfl ?_
    refine z_icmp_ge (tgt := 223) dX11_chance_87 (by decide) (fun c1898 => ?_) (fun c1898 => ?_)
    · rw [if_pos c1898] at e
      refine z_lconst (v := 0) dX11_chance_223 (by decide) ?_
      refine z_lstore (L' := [(4, .long (0:Int64)), (0, z_r l0), (2, .int l2), (3, .int l3)]) dX11_chance_224 (by decide) rfl ?_
      refine z_iconst (v := 0) dX11_chance_226 (by decide) ?_
      refine z_istore (L' := [(6, .int (0:Int32)), (4, .long (0:Int64)), (0, z_r l0), (2, .int l2), (3, .int l3)]) dX11_chance_227 (by decide) rfl ?_
      exact z_weak [2, 3, 1, 0] rfl (S_X11_chance_229   z_F e)
    · rw [if_neg c1898] at e
      refine z_iconst (v := 0) dX11_chance_90 (by decide) ?_
      refine z_istore (L' := [(5, .int (0:Int32)), (0, z_r l0), (2, .int l2), (3, .int l3), (4, .int l4)]) dX11_chance_91 (by decide) rfl ?_
      exact z_weak [1, 2, 3, 4, 0] rfl (S_X11_chance_93  @hk84 z_F e)
def D_X11_chance_74 (k44 : z_H → Option Nat → Int32 → Int32 → Int32 → Int32 → Option (Int64 × z_H)) (h : z_H) (l0 : Option Nat) (l1 : Int32) (l2 : Int32) (l3 : Int32) (l4 : Int32) (s0 : Option Nat) (s1 : Int32) (s2 : Int64) : Option (Int64 × z_H) :=
  (z_sJ h s0 s1 s2).bind fun h1899 =>
  (some (l4 + (1:Int32))).bind fun x1900 =>
  k44 h1899 l0 l1 l2 l3 x1900
set_option maxRecDepth 100000 in
set_option maxHeartbeats 4000000 in
theorem S_X11_chance_74 {G : z_G} {l : Launch} {k44 : z_H → Option Nat → Int32 → Int32 → Int32 → Int32 → Option (Int64 × z_H)} (hk44 : ∀ {h : z_H} {l0 : Option Nat} {l1 : Int32} {l2 : Int32} {l3 : Int32} {l4 : Int32} {res : (Int64 × z_H)}, k44 h l0 l1 l2 l3 l4 = some res → z_Run G l 11 M_X11_chance 44 [(0, z_r l0), (1, .int l1), (2, .int l2), (3, .int l3), (4, .int l4)] [] h res.2 (some (.long res.1))) {h : z_H} {l0 : Option Nat} {l1 : Int32} {l2 : Int32} {l3 : Int32} {l4 : Int32} {s0 : Option Nat} {s1 : Int32} {s2 : Int64} {res : (Int64 × z_H)} (e : D_X11_chance_74 k44 h l0 l1 l2 l3 l4 s0 s1 s2 = some res) : z_Run G l 11 M_X11_chance 74 [(0, z_r l0), (1, .int l1), (2, .int l2), (3, .int l3), (4, .int l4)] [.long s2, .int s1, z_r s0] h res.2 (some (.long res.1)) := by
  unfold D_X11_chance_74 at e
  replace e := z_bd e; obtain ⟨h1899, eh1899, e⟩ := e
  refine z_last eh1899 dX11_chance_74 ?_
  replace e := z_bd e; obtain ⟨x1900, ex1900, e⟩ := e
  refine z_iinc (q := 4) (v := x1900) (L' := [(4, .int x1900), (0, z_r l0), (1, .int l1), (2, .int l2), (3, .int l3)]) dX11_chance_75 rfl (Option.some.inj ex1900) (by decide) rfl ?_
  refine z_goto (tgt := 44) dX11_chance_78 (by decide) ?_
  exact z_weak [1, 2, 3, 4, 0] rfl (hk44 e)
def D_X11_chance_44b (k44 : z_H → Option Nat → Int32 → Int32 → Int32 → Int32 → Option (Int64 × z_H)) (h : z_H) (l0 : Option Nat) (l1 : Int32) (l2 : Int32) (l3 : Int32) (l4 : Int32) : Option (Int64 × z_H) :=
  if (100:Int32) ≤ l4 then
    D_X11_chance_84   z_F h l0 l2 l3 (0:Int32)
  else
    (z_gQ 11 h l0 45).bind fun x1902 =>
    (z_ob 11 h l0).bind fun _ =>
    (D_X11_stateOf  h l0 l1).bind fun p1903 =>
    if l4 = p1903.1 then
      D_X11_chance_74  k44 p1903.2 l0 l1 l2 l3 l4 x1902 l4 (1000000000000:Int64)
    else
      D_X11_chance_74  k44 p1903.2 l0 l1 l2 l3 l4 x1902 l4 (0:Int64)
def D_X11_chance_44 (n : Nat) : z_H → Option Nat → Int32 → Int32 → Int32 → Int32 → Option (Int64 × z_H) := Nat.rec (motive := fun _ => z_H → Option Nat → Int32 → Int32 → Int32 → Int32 → Option (Int64 × z_H)) (fun _ _ _ _ _ _ => none) (fun _ k => D_X11_chance_44b  k) n
set_option maxRecDepth 100000 in
set_option maxHeartbeats 4000000 in
theorem S_X11_chance_44 {G : z_G} {l : Launch}  (n : Nat) : ∀ {h : z_H} {l0 : Option Nat} {l1 : Int32} {l2 : Int32} {l3 : Int32} {l4 : Int32} {res : (Int64 × z_H)}, D_X11_chance_44  n h l0 l1 l2 l3 l4 = some res → z_Run G l 11 M_X11_chance 44 [(0, z_r l0), (1, .int l1), (2, .int l2), (3, .int l3), (4, .int l4)] [] h res.2 (some (.long res.1)) := by
  induction n with
  | zero => intro h l0 l1 l2 l3 l4 res e; cases e
  | succ n hk44 =>
    intro h l0 l1 l2 l3 l4 res e
    replace e : D_X11_chance_44b  (D_X11_chance_44  n) h l0 l1 l2 l3 l4 = some res := e
    unfold D_X11_chance_44b at e
    refine z_iload 4 dX11_chance_44 rfl ?_
    refine z_bipush (v := 100) dX11_chance_46 (by decide) ?_
    refine z_icmp_ge (tgt := 81) dX11_chance_48 (by decide) (fun c1901 => ?_) (fun c1901 => ?_)
    · rw [if_pos c1901] at e
      refine z_iconst (v := 0) dX11_chance_81 (by decide) ?_
      refine z_istore (L' := [(4, .int (0:Int32)), (0, z_r l0), (1, .int l1), (2, .int l2), (3, .int l3)]) dX11_chance_82 (by decide) rfl ?_
      exact z_weak [1, 3, 4, 0] rfl (S_X11_chance_84   z_F e)
    · rw [if_neg c1901] at e
      refine z_aload_n 0 dX11_chance_51 rfl ?_
      replace e := z_bd e; obtain ⟨x1902, ex1902, e⟩ := e
      refine z_getQ ex1902 lk_X11_126 dX11_chance_52 ?_
      refine z_iload 4 dX11_chance_55 rfl ?_
      refine z_iload 4 dX11_chance_57 rfl ?_
      refine z_aload_n 0 dX11_chance_59 rfl ?_
      refine z_iload_n 1 dX11_chance_60 rfl ?_
      replace e := z_bd e; obtain ⟨o1904, eo1904, e⟩ := e
      replace e := z_bd e; obtain ⟨p1903, ep1903, e⟩ := e
      refine z_cV [.int l1] (S_X11_stateOf  ep1903) eo1904 rfl ml_X11_496 ck_X11_stateOf vk_X11_stateOf dX11_chance_61 (by decide) rfl (by simp [z_ci, z_cj, z_cr, z_cx]) rfl ?_
      refine z_icmp_ne (tgt := 73) dX11_chance_64 (by decide) (fun c1905 => ?_) (fun c1905 => ?_)
      · rw [if_neg c1905] at e
        refine z_lconst (v := 0) dX11_chance_73 (by decide) ?_
        exact z_weak [0, 1, 2, 3, 4] rfl (S_X11_chance_74  @hk44 e)
      · rw [if_pos c1905] at e
        refine z_ldc2 dX11_chance_67 kj_X11_501 ?_
        refine z_goto (tgt := 74) dX11_chance_70 (by decide) ?_
        exact z_weak [0, 1, 2, 3, 4] rfl (S_X11_chance_74  @hk44 e)
def D_X11_chance (h : z_H) (l0 : Option Nat) (l1 : Int32) (l2 : Int32) (l3 : Int32) : Option (Int64 × z_H) :=
  (z_pV 11 h l0 0 (.int (0:Int32))).bind fun h1906 =>
  (z_ob 11 h1906 l0).bind fun _ =>
  (D_X11_isPair  h1906 l0 l1).bind fun p1907 =>
  if p1907.1 = 0 then
    some ((-1:Int64), p1907.2)
  else
    (D_X11_isCell  p1907.2 l2).bind fun p1910 =>
    if p1910.1 = 0 then
      some ((-1:Int64), p1910.2)
    else
      (D_X11_in  p1910.2 (Int32.toInt64 l3) (0:Int64) (30:Int64)).bind fun p1912 =>
      if p1912.1 = 0 then
        some ((-1:Int64), p1912.2)
      else
        (z_ob 11 p1912.2 l0).bind fun _ =>
        (D_X11_laySteps  p1912.2 l0 l1).bind fun p1914 =>
        D_X11_chance_44   z_F p1914 l0 l1 l2 l3 (0:Int32)
set_option maxRecDepth 100000 in
set_option maxHeartbeats 4000000 in
theorem S_X11_chance {G : z_G} {l : Launch} {h : z_H} {l0 : Option Nat} {l1 : Int32} {l2 : Int32} {l3 : Int32} {res : (Int64 × z_H)} (e : D_X11_chance h l0 l1 l2 l3 = some res) : z_Meth G l 11 M_X11_chance [z_r l0, .int l1, .int l2, .int l3] h res.2 (some (.long res.1)) := by
  refine z_Meth.of ck_X11_chance.2.2.2.2 (by simp [lg_sl, z_ci, z_cj, z_cr, z_cx]) ck_X11_chance.1 ?_
  rw [show lv_args 0 [z_r l0, .int l1, .int l2, .int l3] = [(0, z_r l0), (1, .int l1), (2, .int l2), (3, .int l3)] from by simp [lv_args, z_ci, z_cj, z_cr, z_cx]]
  unfold D_X11_chance at e
  refine z_aload_n 0 dX11_chance_0 rfl ?_
  refine z_iconst (v := 0) dX11_chance_1 (by decide) ?_
  replace e := z_bd e; obtain ⟨h1906, eh1906, e⟩ := e
  refine z_putV eh1906 lk_X11_166 wk_11_0 (fun _ => rfl) (fun _ => rfl) dX11_chance_2 ?_
  refine z_aload_n 0 dX11_chance_5 rfl ?_
  refine z_iload_n 1 dX11_chance_6 rfl ?_
  replace e := z_bd e; obtain ⟨o1908, eo1908, e⟩ := e
  replace e := z_bd e; obtain ⟨p1907, ep1907, e⟩ := e
  refine z_cV [.int l1] (S_X11_isPair  ep1907) eo1908 rfl ml_X11_211 ck_X11_isPair vk_X11_isPair dX11_chance_7 (by decide) rfl (Nat.zero_le _) rfl ?_
  refine z_if_eq (tgt := 32) dX11_chance_10 (by decide) (fun c1909 => ?_) (fun c1909 => ?_)
  · rw [if_pos c1909] at e
    refine z_ldc2 dX11_chance_32 kj_X11_278 ?_
    cases e
    exact z_lret dX11_chance_35 rfl
  · rw [if_neg c1909] at e
    refine z_iload_n 2 dX11_chance_13 rfl ?_
    replace e := z_bd e; obtain ⟨p1910, ep1910, e⟩ := e
    refine z_cS [.int l2] (S_X11_isCell  ep1910) ml_X11_201 ck_X11_isCell st_X11_isCell dX11_chance_14 (by decide) rfl (Nat.zero_le _) rfl ?_
    refine z_if_eq (tgt := 32) dX11_chance_17 (by decide) (fun c1911 => ?_) (fun c1911 => ?_)
    · rw [if_pos c1911] at e
      refine z_ldc2 dX11_chance_32 kj_X11_278 ?_
      cases e
      exact z_lret dX11_chance_35 rfl
    · rw [if_neg c1911] at e
      refine z_iload_n 3 dX11_chance_20 rfl ?_
      refine z_i2l dX11_chance_21 ?_
      refine z_lconst (v := 0) dX11_chance_22 (by decide) ?_
      refine z_ldc2 dX11_chance_23 kj_X11_499 ?_
      replace e := z_bd e; obtain ⟨p1912, ep1912, e⟩ := e
      refine z_cS [.long (Int32.toInt64 l3), .long (0:Int64), .long (30:Int64)] (S_X11_in  ep1912) ml_X11_186 ck_X11_in st_X11_in dX11_chance_26 (by decide) rfl (Nat.zero_le _) rfl ?_
      refine z_if_ne (tgt := 36) dX11_chance_29 (by decide) (fun c1913 => ?_) (fun c1913 => ?_)
      · rw [if_neg c1913] at e
        refine z_aload_n 0 dX11_chance_36 rfl ?_
        refine z_iload_n 1 dX11_chance_37 rfl ?_
        replace e := z_bd e; obtain ⟨o1915, eo1915, e⟩ := e
        replace e := z_bd e; obtain ⟨p1914, ep1914, e⟩ := e
        refine z_cV [.int l1] (S_X11_laySteps  ep1914) eo1915 rfl ml_X11_473 ck_X11_laySteps vk_X11_laySteps dX11_chance_38 (by decide) rfl (Nat.zero_le _) rfl ?_
        refine z_iconst (v := 0) dX11_chance_41 (by decide) ?_
        refine z_istore (L' := [(4, .int (0:Int32)), (0, z_r l0), (1, .int l1), (2, .int l2), (3, .int l3)]) dX11_chance_42 (by decide) rfl ?_
        exact z_weak [1, 2, 3, 4, 0] rfl (S_X11_chance_44   z_F e)
      · rw [if_pos c1913] at e
        refine z_ldc2 dX11_chance_32 kj_X11_278 ?_
        cases e
        exact z_lret dX11_chance_35 rfl
theorem dX4_cheapest_0 : decode cX4_cheapest 0 = .ok (.iconst (-1), 1) := by decide +kernel
theorem dX4_cheapest_1 : decode cX4_cheapest 1 = .ok (.istore_n 1, 1) := by decide +kernel
theorem dX4_cheapest_2 : decode cX4_cheapest 2 = .ok (.iconst 0, 1) := by decide +kernel
theorem dX4_cheapest_3 : decode cX4_cheapest 3 = .ok (.istore_n 2, 1) := by decide +kernel
theorem dX4_cheapest_4 : decode cX4_cheapest 4 = .ok (.iload_n 2, 1) := by decide +kernel
theorem dX4_cheapest_5 : decode cX4_cheapest 5 = .ok (.bipush 100, 2) := by decide +kernel
theorem dX4_cheapest_7 : decode cX4_cheapest 7 = .ok (.if_icmp .ge 45, 3) := by decide +kernel
theorem dX4_cheapest_10 : decode cX4_cheapest 10 = .ok (.aload_n 0, 1) := by decide +kernel
theorem dX4_cheapest_11 : decode cX4_cheapest 11 = .ok (.getfield 27, 3) := by decide +kernel
theorem dX4_cheapest_14 : decode cX4_cheapest 14 = .ok (.iload_n 2, 1) := by decide +kernel
theorem dX4_cheapest_15 : decode cX4_cheapest 15 = .ok (.baload, 1) := by decide +kernel
theorem dX4_cheapest_16 : decode cX4_cheapest 16 = .ok (.ifCond .ne 30, 3) := by decide +kernel
theorem dX4_cheapest_19 : decode cX4_cheapest 19 = .ok (.aload_n 0, 1) := by decide +kernel
theorem dX4_cheapest_20 : decode cX4_cheapest 20 = .ok (.getfield 24, 3) := by decide +kernel
theorem dX4_cheapest_23 : decode cX4_cheapest 23 = .ok (.iload_n 2, 1) := by decide +kernel
theorem dX4_cheapest_24 : decode cX4_cheapest 24 = .ok (.iaload, 1) := by decide +kernel
theorem dX4_cheapest_25 : decode cX4_cheapest 25 = .ok (.iload_n 1, 1) := by decide +kernel
theorem dX4_cheapest_26 : decode cX4_cheapest 26 = .ok (.iconst (-1), 1) := by decide +kernel
theorem dX4_cheapest_27 : decode cX4_cheapest 27 = .ok (.if_icmp .ne 8, 3) := by decide +kernel
theorem dX4_cheapest_30 : decode cX4_cheapest 30 = .ok (.ldc 56, 2) := by decide +kernel
theorem dX4_cheapest_32 : decode cX4_cheapest 32 = .ok (.goto 9, 3) := by decide +kernel
theorem dX4_cheapest_35 : decode cX4_cheapest 35 = .ok (.aload_n 0, 1) := by decide +kernel
theorem dX4_cheapest_36 : decode cX4_cheapest 36 = .ok (.getfield 24, 3) := by decide +kernel
theorem dX4_cheapest_39 : decode cX4_cheapest 39 = .ok (.iload_n 1, 1) := by decide +kernel
theorem dX4_cheapest_40 : decode cX4_cheapest 40 = .ok (.iaload, 1) := by decide +kernel
theorem dX4_cheapest_41 : decode cX4_cheapest 41 = .ok (.if_icmp .ge 5, 3) := by decide +kernel
theorem dX4_cheapest_44 : decode cX4_cheapest 44 = .ok (.iload_n 2, 1) := by decide +kernel
theorem dX4_cheapest_45 : decode cX4_cheapest 45 = .ok (.istore_n 1, 1) := by decide +kernel
theorem dX4_cheapest_46 : decode cX4_cheapest 46 = .ok (.iinc 2 1, 3) := by decide +kernel
theorem dX4_cheapest_49 : decode cX4_cheapest 49 = .ok (.goto (-45), 3) := by decide +kernel
theorem dX4_cheapest_52 : decode cX4_cheapest 52 = .ok (.iload_n 1, 1) := by decide +kernel
theorem dX4_cheapest_53 : decode cX4_cheapest 53 = .ok (.ireturn, 1) := by decide +kernel
def D_X4_cheapest_46 (k4 : z_H → Option Nat → Int32 → Int32 → Option (Int32 × z_H)) (h : z_H) (l0 : Option Nat) (l1 : Int32) (l2 : Int32) : Option (Int32 × z_H) :=
  (some (l2 + (1:Int32))).bind fun x1916 =>
  k4 h l0 l1 x1916
set_option maxRecDepth 100000 in
set_option maxHeartbeats 4000000 in
theorem S_X4_cheapest_46 {G : z_G} {l : Launch} {k4 : z_H → Option Nat → Int32 → Int32 → Option (Int32 × z_H)} (hk4 : ∀ {h : z_H} {l0 : Option Nat} {l1 : Int32} {l2 : Int32} {res : (Int32 × z_H)}, k4 h l0 l1 l2 = some res → z_Run G l 4 M_X4_cheapest 4 [(0, z_r l0), (1, .int l1), (2, .int l2)] [] h res.2 (some (.int res.1))) {h : z_H} {l0 : Option Nat} {l1 : Int32} {l2 : Int32} {res : (Int32 × z_H)} (e : D_X4_cheapest_46 k4 h l0 l1 l2 = some res) : z_Run G l 4 M_X4_cheapest 46 [(0, z_r l0), (1, .int l1), (2, .int l2)] [] h res.2 (some (.int res.1)) := by
  unfold D_X4_cheapest_46 at e
  replace e := z_bd e; obtain ⟨x1916, ex1916, e⟩ := e
  refine z_iinc (q := 2) (v := x1916) (L' := [(2, .int x1916), (0, z_r l0), (1, .int l1)]) dX4_cheapest_46 rfl (Option.some.inj ex1916) (by decide) rfl ?_
  refine z_goto (tgt := 4) dX4_cheapest_49 (by decide) ?_
  exact z_weak [1, 2, 0] rfl (hk4 e)
def D_X4_cheapest_41 (k4 : z_H → Option Nat → Int32 → Int32 → Option (Int32 × z_H)) (h : z_H) (l0 : Option Nat) (l1 : Int32) (l2 : Int32) (s0 : Int32) (s1 : Int32) : Option (Int32 × z_H) :=
  if s1 ≤ s0 then
    D_X4_cheapest_46  k4 h l0 l1 l2
  else
    D_X4_cheapest_46  k4 h l0 l2 l2
set_option maxRecDepth 100000 in
set_option maxHeartbeats 4000000 in
theorem S_X4_cheapest_41 {G : z_G} {l : Launch} {k4 : z_H → Option Nat → Int32 → Int32 → Option (Int32 × z_H)} (hk4 : ∀ {h : z_H} {l0 : Option Nat} {l1 : Int32} {l2 : Int32} {res : (Int32 × z_H)}, k4 h l0 l1 l2 = some res → z_Run G l 4 M_X4_cheapest 4 [(0, z_r l0), (1, .int l1), (2, .int l2)] [] h res.2 (some (.int res.1))) {h : z_H} {l0 : Option Nat} {l1 : Int32} {l2 : Int32} {s0 : Int32} {s1 : Int32} {res : (Int32 × z_H)} (e : D_X4_cheapest_41 k4 h l0 l1 l2 s0 s1 = some res) : z_Run G l 4 M_X4_cheapest 41 [(0, z_r l0), (1, .int l1), (2, .int l2)] [.int s1, .int s0] h res.2 (some (.int res.1)) := by
  unfold D_X4_cheapest_41 at e
  refine z_icmp_ge (tgt := 46) dX4_cheapest_41 (by decide) (fun c1917 => ?_) (fun c1917 => ?_)
  · rw [if_pos c1917] at e
    exact z_weak [0, 1, 2] rfl (S_X4_cheapest_46  @hk4 e)
  · rw [if_neg c1917] at e
    refine z_iload_n 2 dX4_cheapest_44 rfl ?_
    refine z_istore_n (L' := [(1, .int l2), (0, z_r l0), (2, .int l2)]) dX4_cheapest_45 rfl (by decide) (by simp [z_cr]) ?_
    exact z_weak [1, 0, 2] rfl (S_X4_cheapest_46  @hk4 e)
def D_X4_cheapest_4b (k4 : z_H → Option Nat → Int32 → Int32 → Option (Int32 × z_H)) (h : z_H) (l0 : Option Nat) (l1 : Int32) (l2 : Int32) : Option (Int32 × z_H) :=
  if (100:Int32) ≤ l2 then
    some (l1, h)
  else
    (z_gQ 4 h l0 6).bind fun x1919 =>
    (z_aI .boolean h x1919 l2).bind fun x1920 =>
    if x1920 = 0 then
      (z_gQ 4 h l0 5).bind fun x1922 =>
      (z_aI .int h x1922 l2).bind fun x1923 =>
      if l1 = (-1:Int32) then
        D_X4_cheapest_41  k4 h l0 l1 l2 x1923 (1000000:Int32)
      else
        (z_gQ 4 h l0 5).bind fun x1925 =>
        (z_aI .int h x1925 l1).bind fun x1926 =>
        D_X4_cheapest_41  k4 h l0 l1 l2 x1923 x1926
    else
      D_X4_cheapest_46  k4 h l0 l1 l2
def D_X4_cheapest_4 (n : Nat) : z_H → Option Nat → Int32 → Int32 → Option (Int32 × z_H) := Nat.rec (motive := fun _ => z_H → Option Nat → Int32 → Int32 → Option (Int32 × z_H)) (fun _ _ _ _ => none) (fun _ k => D_X4_cheapest_4b  k) n
set_option maxRecDepth 100000 in
set_option maxHeartbeats 4000000 in
theorem S_X4_cheapest_4 {G : z_G} {l : Launch}  (n : Nat) : ∀ {h : z_H} {l0 : Option Nat} {l1 : Int32} {l2 : Int32} {res : (Int32 × z_H)}, D_X4_cheapest_4  n h l0 l1 l2 = some res → z_Run G l 4 M_X4_cheapest 4 [(0, z_r l0), (1, .int l1), (2, .int l2)] [] h res.2 (some (.int res.1)) := by
  induction n with
  | zero => intro h l0 l1 l2 res e; cases e
  | succ n hk4 =>
    intro h l0 l1 l2 res e
    replace e : D_X4_cheapest_4b  (D_X4_cheapest_4  n) h l0 l1 l2 = some res := e
    unfold D_X4_cheapest_4b at e
    refine z_iload_n 2 dX4_cheapest_4 rfl ?_
    refine z_bipush (v := 100) dX4_cheapest_5 (by decide) ?_
    refine z_icmp_ge (tgt := 52) dX4_cheapest_7 (by decide) (fun c1918 => ?_) (fun c1918 => ?_)
    · rw [if_pos c1918] at e
      refine z_iload_n 1 dX4_cheapest_52 rfl ?_
      cases e
      exact z_iret dX4_cheapest_53 rfl
    · rw [if_neg c1918] at e
      refine z_aload_n 0 dX4_cheapest_10 rfl ?_
      replace e := z_bd e; obtain ⟨x1919, ex1919, e⟩ := e
      refine z_getQ ex1919 lk_X4_27 dX4_cheapest_11 ?_
      refine z_iload_n 2 dX4_cheapest_14 rfl ?_
      replace e := z_bd e; obtain ⟨x1920, ex1920, e⟩ := e
      refine z_zald ex1920 dX4_cheapest_15 ?_
      refine z_if_ne (tgt := 46) dX4_cheapest_16 (by decide) (fun c1921 => ?_) (fun c1921 => ?_)
      · rw [if_neg c1921] at e
        exact z_weak [0, 1, 2] rfl (S_X4_cheapest_46  @hk4 e)
      · rw [if_pos c1921] at e
        refine z_aload_n 0 dX4_cheapest_19 rfl ?_
        replace e := z_bd e; obtain ⟨x1922, ex1922, e⟩ := e
        refine z_getQ ex1922 lk_X4_24 dX4_cheapest_20 ?_
        refine z_iload_n 2 dX4_cheapest_23 rfl ?_
        replace e := z_bd e; obtain ⟨x1923, ex1923, e⟩ := e
        refine z_iald ex1923 dX4_cheapest_24 ?_
        refine z_iload_n 1 dX4_cheapest_25 rfl ?_
        refine z_iconst (v := -1) dX4_cheapest_26 (by decide) ?_
        refine z_icmp_ne (tgt := 35) dX4_cheapest_27 (by decide) (fun c1924 => ?_) (fun c1924 => ?_)
        · rw [if_neg c1924] at e
          refine z_aload_n 0 dX4_cheapest_35 rfl ?_
          replace e := z_bd e; obtain ⟨x1925, ex1925, e⟩ := e
          refine z_getQ ex1925 lk_X4_24 dX4_cheapest_36 ?_
          refine z_iload_n 1 dX4_cheapest_39 rfl ?_
          replace e := z_bd e; obtain ⟨x1926, ex1926, e⟩ := e
          refine z_iald ex1926 dX4_cheapest_40 ?_
          exact z_weak [0, 1, 2] rfl (S_X4_cheapest_41  @hk4 e)
        · rw [if_pos c1924] at e
          refine z_ldc dX4_cheapest_30 kc_X4_56 ?_
          refine z_goto (tgt := 41) dX4_cheapest_32 (by decide) ?_
          exact z_weak [0, 1, 2] rfl (S_X4_cheapest_41  @hk4 e)
def D_X4_cheapest (h : z_H) (l0 : Option Nat) : Option (Int32 × z_H) :=
  D_X4_cheapest_4   z_F h l0 (-1:Int32) (0:Int32)
set_option maxRecDepth 100000 in
set_option maxHeartbeats 4000000 in
theorem S_X4_cheapest {G : z_G} {l : Launch} {h : z_H} {l0 : Option Nat} {res : (Int32 × z_H)} (e : D_X4_cheapest h l0 = some res) : z_Meth G l 4 M_X4_cheapest [z_r l0] h res.2 (some (.int res.1)) := by
  refine z_Meth.of ck_X4_cheapest.2.2.2.2 (by simp [lg_sl, z_ci, z_cj, z_cr, z_cx]) ck_X4_cheapest.1 ?_
  rw [show lv_args 0 [z_r l0] = [(0, z_r l0)] from by simp [lv_args, z_ci, z_cj, z_cr, z_cx]]
  unfold D_X4_cheapest at e
  refine z_iconst (v := -1) dX4_cheapest_0 (by decide) ?_
  refine z_istore_n (L' := [(1, .int (-1:Int32)), (0, z_r l0)]) dX4_cheapest_1 rfl (by decide) (by simp [z_cr]) ?_
  refine z_iconst (v := 0) dX4_cheapest_2 (by decide) ?_
  refine z_istore_n (L' := [(2, .int (0:Int32)), (1, .int (-1:Int32)), (0, z_r l0)]) dX4_cheapest_3 rfl (by decide) rfl ?_
  exact z_weak [2, 1, 0] rfl (S_X4_cheapest_4   z_F e)
theorem dX4_cheapen_0 : decode cX4_cheapen 0 = .ok (.aload_n 0, 1) := by decide +kernel
theorem dX4_cheapen_1 : decode cX4_cheapen 1 = .ok (.iload_n 3, 1) := by decide +kernel
theorem dX4_cheapen_2 : decode cX4_cheapen 2 = .ok (.iload 4, 2) := by decide +kernel
theorem dX4_cheapen_4 : decode cX4_cheapen 4 = .ok (.invokevirtual 73, 3) := by decide +kernel
theorem dX4_cheapen_7 : decode cX4_cheapen 7 = .ok (.istore 5, 2) := by decide +kernel
theorem dX4_cheapen_9 : decode cX4_cheapen 9 = .ok (.iload 5, 2) := by decide +kernel
theorem dX4_cheapen_11 : decode cX4_cheapen 11 = .ok (.iconst (-1), 1) := by decide +kernel
theorem dX4_cheapen_12 : decode cX4_cheapen 12 = .ok (.if_icmp .eq 13, 3) := by decide +kernel
theorem dX4_cheapen_15 : decode cX4_cheapen 15 = .ok (.aload_n 0, 1) := by decide +kernel
theorem dX4_cheapen_16 : decode cX4_cheapen 16 = .ok (.getfield 27, 3) := by decide +kernel
theorem dX4_cheapen_19 : decode cX4_cheapen 19 = .ok (.iload 5, 2) := by decide +kernel
theorem dX4_cheapen_21 : decode cX4_cheapen 21 = .ok (.baload, 1) := by decide +kernel
theorem dX4_cheapen_22 : decode cX4_cheapen 22 = .ok (.ifCond .eq 4, 3) := by decide +kernel
theorem dX4_cheapen_25 : decode cX4_cheapen 25 = .ok (.return_, 1) := by decide +kernel
theorem dX4_cheapen_26 : decode cX4_cheapen 26 = .ok (.iload 4, 2) := by decide +kernel
theorem dX4_cheapen_28 : decode cX4_cheapen 28 = .ok (.ifCond .ne 7, 3) := by decide +kernel
theorem dX4_cheapen_31 : decode cX4_cheapen 31 = .ok (.iconst 0, 1) := by decide +kernel
theorem dX4_cheapen_32 : decode cX4_cheapen 32 = .ok (.goto 9, 3) := by decide +kernel
theorem dX4_cheapen_35 : decode cX4_cheapen 35 = .ok (.iconst 2, 1) := by decide +kernel
theorem dX4_cheapen_36 : decode cX4_cheapen 36 = .ok (.iload 4, 2) := by decide +kernel
theorem dX4_cheapen_38 : decode cX4_cheapen 38 = .ok (.iadd, 1) := by decide +kernel
theorem dX4_cheapen_39 : decode cX4_cheapen 39 = .ok (.iconst 1, 1) := by decide +kernel
theorem dX4_cheapen_40 : decode cX4_cheapen 40 = .ok (.isub, 1) := by decide +kernel
theorem dX4_cheapen_41 : decode cX4_cheapen 41 = .ok (.istore 6, 2) := by decide +kernel
theorem dX4_cheapen_43 : decode cX4_cheapen 43 = .ok (.aload_n 0, 1) := by decide +kernel
theorem dX4_cheapen_44 : decode cX4_cheapen 44 = .ok (.getfield 38, 3) := by decide +kernel
theorem dX4_cheapen_47 : decode cX4_cheapen 47 = .ok (.aload_n 1, 1) := by decide +kernel
theorem dX4_cheapen_48 : decode cX4_cheapen 48 = .ok (.aload_n 1, 1) := by decide +kernel
theorem dX4_cheapen_49 : decode cX4_cheapen 49 = .ok (.invokevirtual 84, 3) := by decide +kernel
theorem dX4_cheapen_52 : decode cX4_cheapen 52 = .ok (.iload_n 2, 1) := by decide +kernel
theorem dX4_cheapen_53 : decode cX4_cheapen 53 = .ok (.iload 6, 2) := by decide +kernel
theorem dX4_cheapen_55 : decode cX4_cheapen 55 = .ok (.aload_n 1, 1) := by decide +kernel
theorem dX4_cheapen_56 : decode cX4_cheapen 56 = .ok (.iload_n 2, 1) := by decide +kernel
theorem dX4_cheapen_57 : decode cX4_cheapen 57 = .ok (.iload 6, 2) := by decide +kernel
theorem dX4_cheapen_59 : decode cX4_cheapen 59 = .ok (.invokevirtual 88, 3) := by decide +kernel
theorem dX4_cheapen_62 : decode cX4_cheapen 62 = .ok (.iload_n 3, 1) := by decide +kernel
theorem dX4_cheapen_63 : decode cX4_cheapen 63 = .ok (.invokevirtual 91, 3) := by decide +kernel
theorem dX4_cheapen_66 : decode cX4_cheapen 66 = .ok (.istore 7, 2) := by decide +kernel
theorem dX4_cheapen_68 : decode cX4_cheapen 68 = .ok (.aload_n 0, 1) := by decide +kernel
theorem dX4_cheapen_69 : decode cX4_cheapen 69 = .ok (.getfield 24, 3) := by decide +kernel
theorem dX4_cheapen_72 : decode cX4_cheapen 72 = .ok (.iload 5, 2) := by decide +kernel
theorem dX4_cheapen_74 : decode cX4_cheapen 74 = .ok (.aload_n 0, 1) := by decide +kernel
theorem dX4_cheapen_75 : decode cX4_cheapen 75 = .ok (.getfield 24, 3) := by decide +kernel
theorem dX4_cheapen_78 : decode cX4_cheapen 78 = .ok (.iload 5, 2) := by decide +kernel
theorem dX4_cheapen_80 : decode cX4_cheapen 80 = .ok (.iaload, 1) := by decide +kernel
theorem dX4_cheapen_81 : decode cX4_cheapen 81 = .ok (.aload_n 0, 1) := by decide +kernel
theorem dX4_cheapen_82 : decode cX4_cheapen 82 = .ok (.getfield 24, 3) := by decide +kernel
theorem dX4_cheapen_85 : decode cX4_cheapen 85 = .ok (.iload_n 3, 1) := by decide +kernel
theorem dX4_cheapen_86 : decode cX4_cheapen 86 = .ok (.iaload, 1) := by decide +kernel
theorem dX4_cheapen_87 : decode cX4_cheapen 87 = .ok (.iload 7, 2) := by decide +kernel
theorem dX4_cheapen_89 : decode cX4_cheapen 89 = .ok (.iadd, 1) := by decide +kernel
theorem dX4_cheapen_90 : decode cX4_cheapen 90 = .ok (.invokestatic 95, 3) := by decide +kernel
theorem dX4_cheapen_93 : decode cX4_cheapen 93 = .ok (.iastore, 1) := by decide +kernel
theorem dX4_cheapen_94 : decode cX4_cheapen 94 = .ok (.return_, 1) := by decide +kernel
def D_X4_cheapen_41 (h : z_H) (l0 : Option Nat) (l1 : Option Nat) (l2 : Int32) (l3 : Int32) (l5 : Int32) (s0 : Int32) : Option z_H :=
  (z_gQ 4 h l0 0).bind fun x1927 =>
  (z_ob 9 h l1).bind fun _ =>
  (D_X9_lawInForce  h l1).bind fun p1928 =>
  (z_ob 9 p1928.2 l1).bind fun _ =>
  (D_X9_wornAt  p1928.2 l1 l2 s0).bind fun p1930 =>
  (z_ob 1 p1930.2 x1927).bind fun _ =>
  (D_X1_wears  p1930.2 x1927 l1 p1928.1 l2 s0 p1930.1 l3).bind fun p1932 =>
  (z_gQ 4 p1932.2 l0 5).bind fun x1934 =>
  (z_gQ 4 p1932.2 l0 5).bind fun x1935 =>
  (z_aI .int p1932.2 x1935 l5).bind fun x1936 =>
  (z_gQ 4 p1932.2 l0 5).bind fun x1937 =>
  (z_aI .int p1932.2 x1937 l3).bind fun x1938 =>
  (some (if (x1938 + p1932.1) < x1936 then (x1938 + p1932.1) else x1936)).bind fun x1939 =>
  (z_sI p1932.2 x1934 l5 x1939).bind fun h1940 =>
  some h1940
set_option maxRecDepth 100000 in
set_option maxHeartbeats 4000000 in
theorem S_X4_cheapen_41 {G : z_G} {l : Launch}  {h : z_H} {l0 : Option Nat} {l1 : Option Nat} {l2 : Int32} {l3 : Int32} {l5 : Int32} {s0 : Int32} {res : z_H} (e : D_X4_cheapen_41  h l0 l1 l2 l3 l5 s0 = some res) : z_Run G l 8 M_X4_cheapen 41 [(0, z_r l0), (1, z_r l1), (2, .int l2), (3, .int l3), (5, .int l5)] [.int s0] h res none := by
  unfold D_X4_cheapen_41 at e
  refine z_istore (L' := [(6, .int s0), (0, z_r l0), (1, z_r l1), (2, .int l2), (3, .int l3), (5, .int l5)]) dX4_cheapen_41 (by decide) rfl ?_
  refine z_aload_n 1 dX4_cheapen_43 rfl ?_
  replace e := z_bd e; obtain ⟨x1927, ex1927, e⟩ := e
  refine z_getQ ex1927 lk_X4_38 dX4_cheapen_44 ?_
  refine z_aload_n 2 dX4_cheapen_47 rfl ?_
  refine z_aload_n 2 dX4_cheapen_48 rfl ?_
  replace e := z_bd e; obtain ⟨o1929, eo1929, e⟩ := e
  replace e := z_bd e; obtain ⟨p1928, ep1928, e⟩ := e
  refine z_cV [] (S_X9_lawInForce  ep1928) eo1929 rfl ml_X4_84 ck_X9_lawInForce vk_X9_lawInForce dX4_cheapen_49 (by decide) rfl (by simp [z_ci, z_cj, z_cr, z_cx]) rfl ?_
  refine z_iload_n 3 dX4_cheapen_52 rfl ?_
  refine z_iload 0 dX4_cheapen_53 rfl ?_
  refine z_aload_n 2 dX4_cheapen_55 rfl ?_
  refine z_iload_n 3 dX4_cheapen_56 rfl ?_
  refine z_iload 0 dX4_cheapen_57 rfl ?_
  replace e := z_bd e; obtain ⟨o1931, eo1931, e⟩ := e
  replace e := z_bd e; obtain ⟨p1930, ep1930, e⟩ := e
  refine z_cV [.int l2, .int s0] (S_X9_wornAt  ep1930) eo1931 rfl ml_X4_88 ck_X9_wornAt vk_X9_wornAt dX4_cheapen_59 (by decide) rfl (by simp [z_ci, z_cj, z_cr, z_cx]) rfl ?_
  refine z_iload_n 4 dX4_cheapen_62 rfl ?_
  replace e := z_bd e; obtain ⟨o1933, eo1933, e⟩ := e
  replace e := z_bd e; obtain ⟨p1932, ep1932, e⟩ := e
  refine z_cV [z_r l1, z_r p1928.1, .int l2, .int s0, .int p1930.1, .int l3] (S_X1_wears  ep1932) eo1933 rfl ml_X4_91 ck_X1_wears vk_X1_wears dX4_cheapen_63 (by decide) rfl (Nat.zero_le _) rfl ?_
  refine z_istore (L' := [(7, .int p1932.1), (6, .int s0), (0, z_r l0), (1, z_r l1), (2, .int l2), (3, .int l3), (5, .int l5)]) dX4_cheapen_66 (by decide) rfl ?_
  refine z_aload_n 2 dX4_cheapen_68 rfl ?_
  replace e := z_bd e; obtain ⟨x1934, ex1934, e⟩ := e
  refine z_getQ ex1934 lk_X4_24 dX4_cheapen_69 ?_
  refine z_iload 6 dX4_cheapen_72 rfl ?_
  refine z_aload_n 2 dX4_cheapen_74 rfl ?_
  replace e := z_bd e; obtain ⟨x1935, ex1935, e⟩ := e
  refine z_getQ ex1935 lk_X4_24 dX4_cheapen_75 ?_
  refine z_iload 6 dX4_cheapen_78 rfl ?_
  replace e := z_bd e; obtain ⟨x1936, ex1936, e⟩ := e
  refine z_iald ex1936 dX4_cheapen_80 ?_
  refine z_aload_n 2 dX4_cheapen_81 rfl ?_
  replace e := z_bd e; obtain ⟨x1937, ex1937, e⟩ := e
  refine z_getQ ex1937 lk_X4_24 dX4_cheapen_82 ?_
  refine z_iload_n 5 dX4_cheapen_85 rfl ?_
  replace e := z_bd e; obtain ⟨x1938, ex1938, e⟩ := e
  refine z_iald ex1938 dX4_cheapen_86 ?_
  refine z_iload 0 dX4_cheapen_87 rfl ?_
  refine z_iadd dX4_cheapen_89 ?_
  refine z_mmin ml_X4_95 z_mw_min (by decide) (by simp [z_ci, z_cj, z_cr, z_cx]) dX4_cheapen_90 ?_
  replace e := z_bd e; obtain ⟨x1939, ex1939, e⟩ := e
  refine z_topI ex1939 ?_
  replace e := z_bd e; obtain ⟨h1940, eh1940, e⟩ := e
  refine z_iast eh1940 dX4_cheapen_93 ?_
  cases e
  exact z_vret dX4_cheapen_94 rfl
def D_X4_cheapen (h : z_H) (l0 : Option Nat) (l1 : Option Nat) (l2 : Int32) (l3 : Int32) (l4 : Int32) : Option z_H :=
  (z_ob 4 h l0).bind fun _ =>
  (D_X4_behind  h l0 l3 l4).bind fun p1941 =>
  if p1941.1 = (-1:Int32) then
    some p1941.2
  else
    (z_gQ 4 p1941.2 l0 6).bind fun x1944 =>
    (z_aI .boolean p1941.2 x1944 p1941.1).bind fun x1945 =>
    if x1945 = 0 then
      if l4 = 0 then
        D_X4_cheapen_41   p1941.2 l0 l1 l2 l3 p1941.1 (0:Int32)
      else
        D_X4_cheapen_41   p1941.2 l0 l1 l2 l3 p1941.1 (((2:Int32) + l4) - (1:Int32))
    else
      some p1941.2
set_option maxRecDepth 100000 in
set_option maxHeartbeats 4000000 in
theorem S_X4_cheapen {G : z_G} {l : Launch} {h : z_H} {l0 : Option Nat} {l1 : Option Nat} {l2 : Int32} {l3 : Int32} {l4 : Int32} {res : z_H} (e : D_X4_cheapen h l0 l1 l2 l3 l4 = some res) : z_Meth G l 8 M_X4_cheapen [z_r l0, z_r l1, .int l2, .int l3, .int l4] h res none := by
  refine z_Meth.of ck_X4_cheapen.2.2.2.2 (by simp [lg_sl, z_ci, z_cj, z_cr, z_cx]) ck_X4_cheapen.1 ?_
  rw [show lv_args 0 [z_r l0, z_r l1, .int l2, .int l3, .int l4] = [(0, z_r l0), (1, z_r l1), (2, .int l2), (3, .int l3), (4, .int l4)] from by simp [lv_args, z_ci, z_cj, z_cr, z_cx]]
  unfold D_X4_cheapen at e
  refine z_aload_n 0 dX4_cheapen_0 rfl ?_
  refine z_iload_n 3 dX4_cheapen_1 rfl ?_
  refine z_iload 4 dX4_cheapen_2 rfl ?_
  replace e := z_bd e; obtain ⟨o1942, eo1942, e⟩ := e
  replace e := z_bd e; obtain ⟨p1941, ep1941, e⟩ := e
  refine z_cV [.int l3, .int l4] (S_X4_behind  ep1941) eo1942 rfl ml_X4_73 ck_X4_behind vk_X4_behind dX4_cheapen_4 (by decide) rfl (Nat.zero_le _) rfl ?_
  refine z_istore (L' := [(5, .int p1941.1), (0, z_r l0), (1, z_r l1), (2, .int l2), (3, .int l3), (4, .int l4)]) dX4_cheapen_7 (by decide) rfl ?_
  refine z_iload 0 dX4_cheapen_9 rfl ?_
  refine z_iconst (v := -1) dX4_cheapen_11 (by decide) ?_
  refine z_icmp_eq (tgt := 25) dX4_cheapen_12 (by decide) (fun c1943 => ?_) (fun c1943 => ?_)
  · rw [if_pos c1943] at e
    cases e
    exact z_vret dX4_cheapen_25 rfl
  · rw [if_neg c1943] at e
    refine z_aload_n 1 dX4_cheapen_15 rfl ?_
    replace e := z_bd e; obtain ⟨x1944, ex1944, e⟩ := e
    refine z_getQ ex1944 lk_X4_27 dX4_cheapen_16 ?_
    refine z_iload 0 dX4_cheapen_19 rfl ?_
    replace e := z_bd e; obtain ⟨x1945, ex1945, e⟩ := e
    refine z_zald ex1945 dX4_cheapen_21 ?_
    refine z_if_eq (tgt := 26) dX4_cheapen_22 (by decide) (fun c1946 => ?_) (fun c1946 => ?_)
    · rw [if_pos c1946] at e
      refine z_iload 5 dX4_cheapen_26 rfl ?_
      refine z_if_ne (tgt := 35) dX4_cheapen_28 (by decide) (fun c1947 => ?_) (fun c1947 => ?_)
      · rw [if_neg c1947] at e
        refine z_iconst (v := 2) dX4_cheapen_35 (by decide) ?_
        refine z_iload 5 dX4_cheapen_36 rfl ?_
        refine z_iadd dX4_cheapen_38 ?_
        refine z_iconst (v := 1) dX4_cheapen_39 (by decide) ?_
        refine z_isub dX4_cheapen_40 ?_
        exact z_weak [1, 2, 3, 4, 0] rfl (S_X4_cheapen_41   e)
      · rw [if_pos c1947] at e
        refine z_iconst (v := 0) dX4_cheapen_31 (by decide) ?_
        refine z_goto (tgt := 41) dX4_cheapen_32 (by decide) ?_
        exact z_weak [1, 2, 3, 4, 0] rfl (S_X4_cheapen_41   e)
    · rw [if_neg c1946] at e
      cases e
      exact z_vret dX4_cheapen_25 rfl
theorem dX4_leastWorn_0 : decode cX4_leastWorn 0 = .ok (.aload_n 0, 1) := by decide +kernel
theorem dX4_leastWorn_1 : decode cX4_leastWorn 1 = .ok (.aload_n 1, 1) := by decide +kernel
theorem dX4_leastWorn_2 : decode cX4_leastWorn 2 = .ok (.iload_n 2, 1) := by decide +kernel
theorem dX4_leastWorn_3 : decode cX4_leastWorn 3 = .ok (.invokevirtual 52, 3) := by decide +kernel
theorem dX4_leastWorn_6 : decode cX4_leastWorn 6 = .ok (.aload_n 0, 1) := by decide +kernel
theorem dX4_leastWorn_7 : decode cX4_leastWorn 7 = .ok (.getfield 24, 3) := by decide +kernel
theorem dX4_leastWorn_10 : decode cX4_leastWorn 10 = .ok (.ldc 56, 2) := by decide +kernel
theorem dX4_leastWorn_12 : decode cX4_leastWorn 12 = .ok (.invokestatic 57, 3) := by decide +kernel
theorem dX4_leastWorn_15 : decode cX4_leastWorn 15 = .ok (.iconst 0, 1) := by decide +kernel
theorem dX4_leastWorn_16 : decode cX4_leastWorn 16 = .ok (.istore 4, 2) := by decide +kernel
theorem dX4_leastWorn_18 : decode cX4_leastWorn 18 = .ok (.iload 4, 2) := by decide +kernel
theorem dX4_leastWorn_20 : decode cX4_leastWorn 20 = .ok (.bipush 100, 2) := by decide +kernel
theorem dX4_leastWorn_22 : decode cX4_leastWorn 22 = .ok (.if_icmp .ge 17, 3) := by decide +kernel
theorem dX4_leastWorn_25 : decode cX4_leastWorn 25 = .ok (.aload_n 0, 1) := by decide +kernel
theorem dX4_leastWorn_26 : decode cX4_leastWorn 26 = .ok (.getfield 27, 3) := by decide +kernel
theorem dX4_leastWorn_29 : decode cX4_leastWorn 29 = .ok (.iload 4, 2) := by decide +kernel
theorem dX4_leastWorn_31 : decode cX4_leastWorn 31 = .ok (.iconst 0, 1) := by decide +kernel
theorem dX4_leastWorn_32 : decode cX4_leastWorn 32 = .ok (.bastore, 1) := by decide +kernel
theorem dX4_leastWorn_33 : decode cX4_leastWorn 33 = .ok (.iinc 4 1, 3) := by decide +kernel
theorem dX4_leastWorn_36 : decode cX4_leastWorn 36 = .ok (.goto (-18), 3) := by decide +kernel
theorem dX4_leastWorn_39 : decode cX4_leastWorn 39 = .ok (.aload_n 0, 1) := by decide +kernel
theorem dX4_leastWorn_40 : decode cX4_leastWorn 40 = .ok (.getfield 24, 3) := by decide +kernel
theorem dX4_leastWorn_43 : decode cX4_leastWorn 43 = .ok (.aload_n 1, 1) := by decide +kernel
theorem dX4_leastWorn_44 : decode cX4_leastWorn 44 = .ok (.iload_n 2, 1) := by decide +kernel
theorem dX4_leastWorn_45 : decode cX4_leastWorn 45 = .ok (.invokevirtual 63, 3) := by decide +kernel
theorem dX4_leastWorn_48 : decode cX4_leastWorn 48 = .ok (.iconst 0, 1) := by decide +kernel
theorem dX4_leastWorn_49 : decode cX4_leastWorn 49 = .ok (.iastore, 1) := by decide +kernel
theorem dX4_leastWorn_50 : decode cX4_leastWorn 50 = .ok (.iconst 0, 1) := by decide +kernel
theorem dX4_leastWorn_51 : decode cX4_leastWorn 51 = .ok (.istore 4, 2) := by decide +kernel
theorem dX4_leastWorn_53 : decode cX4_leastWorn 53 = .ok (.iload 4, 2) := by decide +kernel
theorem dX4_leastWorn_55 : decode cX4_leastWorn 55 = .ok (.bipush 100, 2) := by decide +kernel
theorem dX4_leastWorn_57 : decode cX4_leastWorn 57 = .ok (.if_icmp .ge 72, 3) := by decide +kernel
theorem dX4_leastWorn_60 : decode cX4_leastWorn 60 = .ok (.aload_n 0, 1) := by decide +kernel
theorem dX4_leastWorn_61 : decode cX4_leastWorn 61 = .ok (.invokevirtual 76, 3) := by decide +kernel
theorem dX4_leastWorn_64 : decode cX4_leastWorn 64 = .ok (.istore 5, 2) := by decide +kernel
theorem dX4_leastWorn_66 : decode cX4_leastWorn 66 = .ok (.iload 5, 2) := by decide +kernel
theorem dX4_leastWorn_68 : decode cX4_leastWorn 68 = .ok (.iconst (-1), 1) := by decide +kernel
theorem dX4_leastWorn_69 : decode cX4_leastWorn 69 = .ok (.if_icmp .ne 5, 3) := by decide +kernel
theorem dX4_leastWorn_72 : decode cX4_leastWorn 72 = .ok (.iconst (-1), 1) := by decide +kernel
theorem dX4_leastWorn_73 : decode cX4_leastWorn 73 = .ok (.ireturn, 1) := by decide +kernel
theorem dX4_leastWorn_74 : decode cX4_leastWorn 74 = .ok (.iload 5, 2) := by decide +kernel
theorem dX4_leastWorn_76 : decode cX4_leastWorn 76 = .ok (.iconst 4, 1) := by decide +kernel
theorem dX4_leastWorn_77 : decode cX4_leastWorn 77 = .ok (.idiv, 1) := by decide +kernel
theorem dX4_leastWorn_78 : decode cX4_leastWorn 78 = .ok (.iload_n 3, 1) := by decide +kernel
theorem dX4_leastWorn_79 : decode cX4_leastWorn 79 = .ok (.if_icmp .ne 11, 3) := by decide +kernel
theorem dX4_leastWorn_82 : decode cX4_leastWorn 82 = .ok (.aload_n 0, 1) := by decide +kernel
theorem dX4_leastWorn_83 : decode cX4_leastWorn 83 = .ok (.getfield 24, 3) := by decide +kernel
theorem dX4_leastWorn_86 : decode cX4_leastWorn 86 = .ok (.iload 5, 2) := by decide +kernel
theorem dX4_leastWorn_88 : decode cX4_leastWorn 88 = .ok (.iaload, 1) := by decide +kernel
theorem dX4_leastWorn_89 : decode cX4_leastWorn 89 = .ok (.ireturn, 1) := by decide +kernel
theorem dX4_leastWorn_90 : decode cX4_leastWorn 90 = .ok (.aload_n 0, 1) := by decide +kernel
theorem dX4_leastWorn_91 : decode cX4_leastWorn 91 = .ok (.getfield 27, 3) := by decide +kernel
theorem dX4_leastWorn_94 : decode cX4_leastWorn 94 = .ok (.iload 5, 2) := by decide +kernel
theorem dX4_leastWorn_96 : decode cX4_leastWorn 96 = .ok (.iconst 1, 1) := by decide +kernel
theorem dX4_leastWorn_97 : decode cX4_leastWorn 97 = .ok (.bastore, 1) := by decide +kernel
theorem dX4_leastWorn_98 : decode cX4_leastWorn 98 = .ok (.iconst 0, 1) := by decide +kernel
theorem dX4_leastWorn_99 : decode cX4_leastWorn 99 = .ok (.istore 6, 2) := by decide +kernel
theorem dX4_leastWorn_101 : decode cX4_leastWorn 101 = .ok (.iload 6, 2) := by decide +kernel
theorem dX4_leastWorn_103 : decode cX4_leastWorn 103 = .ok (.iconst 3, 1) := by decide +kernel
theorem dX4_leastWorn_104 : decode cX4_leastWorn 104 = .ok (.if_icmp .ge 19, 3) := by decide +kernel
theorem dX4_leastWorn_107 : decode cX4_leastWorn 107 = .ok (.aload_n 0, 1) := by decide +kernel
theorem dX4_leastWorn_108 : decode cX4_leastWorn 108 = .ok (.aload_n 1, 1) := by decide +kernel
theorem dX4_leastWorn_109 : decode cX4_leastWorn 109 = .ok (.iload_n 2, 1) := by decide +kernel
theorem dX4_leastWorn_110 : decode cX4_leastWorn 110 = .ok (.iload 5, 2) := by decide +kernel
theorem dX4_leastWorn_112 : decode cX4_leastWorn 112 = .ok (.iload 6, 2) := by decide +kernel
theorem dX4_leastWorn_114 : decode cX4_leastWorn 114 = .ok (.invokevirtual 80, 3) := by decide +kernel
theorem dX4_leastWorn_117 : decode cX4_leastWorn 117 = .ok (.iinc 6 1, 3) := by decide +kernel
theorem dX4_leastWorn_120 : decode cX4_leastWorn 120 = .ok (.goto (-19), 3) := by decide +kernel
theorem dX4_leastWorn_123 : decode cX4_leastWorn 123 = .ok (.iinc 4 1, 3) := by decide +kernel
theorem dX4_leastWorn_126 : decode cX4_leastWorn 126 = .ok (.goto (-73), 3) := by decide +kernel
theorem dX4_leastWorn_129 : decode cX4_leastWorn 129 = .ok (.iconst (-1), 1) := by decide +kernel
theorem dX4_leastWorn_130 : decode cX4_leastWorn 130 = .ok (.ireturn, 1) := by decide +kernel
def D_X4_leastWorn_101b (k53 : z_H → Option Nat → Option Nat → Int32 → Int32 → Int32 → Option (Int32 × z_H)) (k101 : z_H → Option Nat → Option Nat → Int32 → Int32 → Int32 → Int32 → Int32 → Option (Int32 × z_H)) (h : z_H) (l0 : Option Nat) (l1 : Option Nat) (l2 : Int32) (l3 : Int32) (l4 : Int32) (l5 : Int32) (l6 : Int32) : Option (Int32 × z_H) :=
  if (3:Int32) ≤ l6 then
    (some (l4 + (1:Int32))).bind fun x1949 =>
    k53 h l0 l1 l2 l3 x1949
  else
    (z_ob 4 h l0).bind fun _ =>
    (D_X4_cheapen  h l0 l1 l2 l5 l6).bind fun p1950 =>
    (some (l6 + (1:Int32))).bind fun x1952 =>
    k101 p1950 l0 l1 l2 l3 l4 l5 x1952
def D_X4_leastWorn_101 (k53 : z_H → Option Nat → Option Nat → Int32 → Int32 → Int32 → Option (Int32 × z_H)) (n : Nat) : z_H → Option Nat → Option Nat → Int32 → Int32 → Int32 → Int32 → Int32 → Option (Int32 × z_H) := Nat.rec (motive := fun _ => z_H → Option Nat → Option Nat → Int32 → Int32 → Int32 → Int32 → Int32 → Option (Int32 × z_H)) (fun _ _ _ _ _ _ _ _ => none) (fun _ k => D_X4_leastWorn_101b k53 k) n
set_option maxRecDepth 100000 in
set_option maxHeartbeats 4000000 in
theorem S_X4_leastWorn_101 {G : z_G} {l : Launch} {k53 : z_H → Option Nat → Option Nat → Int32 → Int32 → Int32 → Option (Int32 × z_H)} (hk53 : ∀ {h : z_H} {l0 : Option Nat} {l1 : Option Nat} {l2 : Int32} {l3 : Int32} {l4 : Int32} {res : (Int32 × z_H)}, k53 h l0 l1 l2 l3 l4 = some res → z_Run G l 9 M_X4_leastWorn 53 [(0, z_r l0), (1, z_r l1), (2, .int l2), (3, .int l3), (4, .int l4)] [] h res.2 (some (.int res.1))) (n : Nat) : ∀ {h : z_H} {l0 : Option Nat} {l1 : Option Nat} {l2 : Int32} {l3 : Int32} {l4 : Int32} {l5 : Int32} {l6 : Int32} {res : (Int32 × z_H)}, D_X4_leastWorn_101 k53 n h l0 l1 l2 l3 l4 l5 l6 = some res → z_Run G l 9 M_X4_leastWorn 101 [(0, z_r l0), (1, z_r l1), (2, .int l2), (3, .int l3), (4, .int l4), (5, .int l5), (6, .int l6)] [] h res.2 (some (.int res.1)) := by
  induction n with
  | zero => intro h l0 l1 l2 l3 l4 l5 l6 res e; cases e
  | succ n hk101 =>
    intro h l0 l1 l2 l3 l4 l5 l6 res e
    replace e : D_X4_leastWorn_101b k53 (D_X4_leastWorn_101 k53 n) h l0 l1 l2 l3 l4 l5 l6 = some res := e
    unfold D_X4_leastWorn_101b at e
    refine z_iload 6 dX4_leastWorn_101 rfl ?_
    refine z_iconst (v := 3) dX4_leastWorn_103 (by decide) ?_
    refine z_icmp_ge (tgt := 123) dX4_leastWorn_104 (by decide) (fun c1948 => ?_) (fun c1948 => ?_)
    · rw [if_pos c1948] at e
      replace e := z_bd e; obtain ⟨x1949, ex1949, e⟩ := e
      refine z_iinc (q := 4) (v := x1949) (L' := [(4, .int x1949), (0, z_r l0), (1, z_r l1), (2, .int l2), (3, .int l3), (5, .int l5), (6, .int l6)]) dX4_leastWorn_123 rfl (Option.some.inj ex1949) (by decide) rfl ?_
      refine z_goto (tgt := 53) dX4_leastWorn_126 (by decide) ?_
      exact z_weak [1, 2, 3, 4, 0] rfl (hk53 e)
    · rw [if_neg c1948] at e
      refine z_aload_n 0 dX4_leastWorn_107 rfl ?_
      refine z_aload_n 1 dX4_leastWorn_108 rfl ?_
      refine z_iload_n 2 dX4_leastWorn_109 rfl ?_
      refine z_iload 5 dX4_leastWorn_110 rfl ?_
      refine z_iload 6 dX4_leastWorn_112 rfl ?_
      replace e := z_bd e; obtain ⟨o1951, eo1951, e⟩ := e
      replace e := z_bd e; obtain ⟨p1950, ep1950, e⟩ := e
      refine z_cV [z_r l1, .int l2, .int l5, .int l6] (S_X4_cheapen  ep1950) eo1951 rfl ml_X4_80 ck_X4_cheapen vk_X4_cheapen dX4_leastWorn_114 (by decide) rfl (Nat.zero_le _) rfl ?_
      replace e := z_bd e; obtain ⟨x1952, ex1952, e⟩ := e
      refine z_iinc (q := 6) (v := x1952) (L' := [(6, .int x1952), (0, z_r l0), (1, z_r l1), (2, .int l2), (3, .int l3), (4, .int l4), (5, .int l5)]) dX4_leastWorn_117 rfl (Option.some.inj ex1952) (by decide) rfl ?_
      refine z_goto (tgt := 101) dX4_leastWorn_120 (by decide) ?_
      exact z_weak [1, 2, 3, 4, 5, 6, 0] rfl (hk101 e)
def D_X4_leastWorn_53b (k53 : z_H → Option Nat → Option Nat → Int32 → Int32 → Int32 → Option (Int32 × z_H)) (h : z_H) (l0 : Option Nat) (l1 : Option Nat) (l2 : Int32) (l3 : Int32) (l4 : Int32) : Option (Int32 × z_H) :=
  if (100:Int32) ≤ l4 then
    some ((-1:Int32), h)
  else
    (z_ob 4 h l0).bind fun _ =>
    (D_X4_cheapest  h l0).bind fun p1954 =>
    if p1954.1 = (-1:Int32) then
      some ((-1:Int32), p1954.2)
    else
      if (p1954.1 / (4:Int32)) = l3 then
        (z_gQ 4 p1954.2 l0 5).bind fun x1960 =>
        (z_aI .int p1954.2 x1960 p1954.1).bind fun x1961 =>
        some (x1961, p1954.2)
      else
        (z_gQ 4 p1954.2 l0 6).bind fun x1958 =>
        (z_sZ p1954.2 x1958 p1954.1 (1:Int32)).bind fun h1959 =>
        D_X4_leastWorn_101  k53 z_F h1959 l0 l1 l2 l3 l4 p1954.1 (0:Int32)
def D_X4_leastWorn_53 (n : Nat) : z_H → Option Nat → Option Nat → Int32 → Int32 → Int32 → Option (Int32 × z_H) := Nat.rec (motive := fun _ => z_H → Option Nat → Option Nat → Int32 → Int32 → Int32 → Option (Int32 × z_H)) (fun _ _ _ _ _ _ => none) (fun _ k => D_X4_leastWorn_53b  k) n
set_option maxRecDepth 100000 in
set_option maxHeartbeats 4000000 in
theorem S_X4_leastWorn_53 {G : z_G} {l : Launch}  (n : Nat) : ∀ {h : z_H} {l0 : Option Nat} {l1 : Option Nat} {l2 : Int32} {l3 : Int32} {l4 : Int32} {res : (Int32 × z_H)}, D_X4_leastWorn_53  n h l0 l1 l2 l3 l4 = some res → z_Run G l 9 M_X4_leastWorn 53 [(0, z_r l0), (1, z_r l1), (2, .int l2), (3, .int l3), (4, .int l4)] [] h res.2 (some (.int res.1)) := by
  induction n with
  | zero => intro h l0 l1 l2 l3 l4 res e; cases e
  | succ n hk53 =>
    intro h l0 l1 l2 l3 l4 res e
    replace e : D_X4_leastWorn_53b  (D_X4_leastWorn_53  n) h l0 l1 l2 l3 l4 = some res := e
    unfold D_X4_leastWorn_53b at e
    refine z_iload 4 dX4_leastWorn_53 rfl ?_
    refine z_bipush (v := 100) dX4_leastWorn_55 (by decide) ?_
    refine z_icmp_ge (tgt := 129) dX4_leastWorn_57 (by decide) (fun c1953 => ?_) (fun c1953 => ?_)
    · rw [if_pos c1953] at e
      refine z_iconst (v := -1) dX4_leastWorn_129 (by decide) ?_
      cases e
      exact z_iret dX4_leastWorn_130 rfl
    · rw [if_neg c1953] at e
      refine z_aload_n 0 dX4_leastWorn_60 rfl ?_
      replace e := z_bd e; obtain ⟨o1955, eo1955, e⟩ := e
      replace e := z_bd e; obtain ⟨p1954, ep1954, e⟩ := e
      refine z_cV [] (S_X4_cheapest  ep1954) eo1955 rfl ml_X4_76 ck_X4_cheapest vk_X4_cheapest dX4_leastWorn_61 (by decide) rfl (Nat.zero_le _) rfl ?_
      refine z_istore (L' := [(5, .int p1954.1), (0, z_r l0), (1, z_r l1), (2, .int l2), (3, .int l3), (4, .int l4)]) dX4_leastWorn_64 (by decide) rfl ?_
      refine z_iload 0 dX4_leastWorn_66 rfl ?_
      refine z_iconst (v := -1) dX4_leastWorn_68 (by decide) ?_
      refine z_icmp_ne (tgt := 74) dX4_leastWorn_69 (by decide) (fun c1956 => ?_) (fun c1956 => ?_)
      · rw [if_neg c1956] at e
        refine z_iload 0 dX4_leastWorn_74 rfl ?_
        refine z_iconst (v := 4) dX4_leastWorn_76 (by decide) ?_
        refine z_idiv dX4_leastWorn_77 (by decide) ?_
        refine z_iload_n 4 dX4_leastWorn_78 rfl ?_
        refine z_icmp_ne (tgt := 90) dX4_leastWorn_79 (by decide) (fun c1957 => ?_) (fun c1957 => ?_)
        · rw [if_neg c1957] at e
          refine z_aload_n 1 dX4_leastWorn_90 rfl ?_
          replace e := z_bd e; obtain ⟨x1958, ex1958, e⟩ := e
          refine z_getQ ex1958 lk_X4_27 dX4_leastWorn_91 ?_
          refine z_iload 0 dX4_leastWorn_94 rfl ?_
          refine z_iconst (v := 1) dX4_leastWorn_96 (by decide) ?_
          replace e := z_bd e; obtain ⟨h1959, eh1959, e⟩ := e
          refine z_zast eh1959 dX4_leastWorn_97 ?_
          refine z_iconst (v := 0) dX4_leastWorn_98 (by decide) ?_
          refine z_istore (L' := [(6, .int (0:Int32)), (5, .int p1954.1), (0, z_r l0), (1, z_r l1), (2, .int l2), (3, .int l3), (4, .int l4)]) dX4_leastWorn_99 (by decide) rfl ?_
          exact z_weak [2, 3, 4, 5, 6, 1, 0] rfl (S_X4_leastWorn_101  @hk53 z_F e)
        · rw [if_pos c1957] at e
          refine z_aload_n 1 dX4_leastWorn_82 rfl ?_
          replace e := z_bd e; obtain ⟨x1960, ex1960, e⟩ := e
          refine z_getQ ex1960 lk_X4_24 dX4_leastWorn_83 ?_
          refine z_iload 0 dX4_leastWorn_86 rfl ?_
          replace e := z_bd e; obtain ⟨x1961, ex1961, e⟩ := e
          refine z_iald ex1961 dX4_leastWorn_88 ?_
          cases e
          exact z_iret dX4_leastWorn_89 rfl
      · rw [if_pos c1956] at e
        refine z_iconst (v := -1) dX4_leastWorn_72 (by decide) ?_
        cases e
        exact z_iret dX4_leastWorn_73 rfl
def D_X4_leastWorn_18b (k18 : z_H → Option Nat → Option Nat → Int32 → Int32 → Int32 → Option (Int32 × z_H)) (h : z_H) (l0 : Option Nat) (l1 : Option Nat) (l2 : Int32) (l3 : Int32) (l4 : Int32) : Option (Int32 × z_H) :=
  if (100:Int32) ≤ l4 then
    (z_gQ 4 h l0 5).bind fun x1963 =>
    (z_ob 9 h l1).bind fun _ =>
    (D_X9_placeOf  h l1 l2).bind fun p1964 =>
    (z_sI p1964.2 x1963 p1964.1 (0:Int32)).bind fun h1966 =>
    D_X4_leastWorn_53   z_F h1966 l0 l1 l2 l3 (0:Int32)
  else
    (z_gQ 4 h l0 6).bind fun x1967 =>
    (z_sZ h x1967 l4 (0:Int32)).bind fun h1968 =>
    (some (l4 + (1:Int32))).bind fun x1969 =>
    k18 h1968 l0 l1 l2 l3 x1969
def D_X4_leastWorn_18 (n : Nat) : z_H → Option Nat → Option Nat → Int32 → Int32 → Int32 → Option (Int32 × z_H) := Nat.rec (motive := fun _ => z_H → Option Nat → Option Nat → Int32 → Int32 → Int32 → Option (Int32 × z_H)) (fun _ _ _ _ _ _ => none) (fun _ k => D_X4_leastWorn_18b  k) n
set_option maxRecDepth 100000 in
set_option maxHeartbeats 4000000 in
theorem S_X4_leastWorn_18 {G : z_G} {l : Launch}  (n : Nat) : ∀ {h : z_H} {l0 : Option Nat} {l1 : Option Nat} {l2 : Int32} {l3 : Int32} {l4 : Int32} {res : (Int32 × z_H)}, D_X4_leastWorn_18  n h l0 l1 l2 l3 l4 = some res → z_Run G l 9 M_X4_leastWorn 18 [(0, z_r l0), (1, z_r l1), (2, .int l2), (3, .int l3), (4, .int l4)] [] h res.2 (some (.int res.1)) := by
  induction n with
  | zero => intro h l0 l1 l2 l3 l4 res e; cases e
  | succ n hk18 =>
    intro h l0 l1 l2 l3 l4 res e
    replace e : D_X4_leastWorn_18b  (D_X4_leastWorn_18  n) h l0 l1 l2 l3 l4 = some res := e
    unfold D_X4_leastWorn_18b at e
    refine z_iload 4 dX4_leastWorn_18 rfl ?_
    refine z_bipush (v := 100) dX4_leastWorn_20 (by decide) ?_
    refine z_icmp_ge (tgt := 39) dX4_leastWorn_22 (by decide) (fun c1962 => ?_) (fun c1962 => ?_)
    · rw [if_pos c1962] at e
      refine z_aload_n 0 dX4_leastWorn_39 rfl ?_
      replace e := z_bd e; obtain ⟨x1963, ex1963, e⟩ := e
      refine z_getQ ex1963 lk_X4_24 dX4_leastWorn_40 ?_
      refine z_aload_n 1 dX4_leastWorn_43 rfl ?_
      refine z_iload_n 2 dX4_leastWorn_44 rfl ?_
      replace e := z_bd e; obtain ⟨o1965, eo1965, e⟩ := e
      replace e := z_bd e; obtain ⟨p1964, ep1964, e⟩ := e
      refine z_cV [.int l2] (S_X9_placeOf  ep1964) eo1965 rfl ml_X4_63 ck_X9_placeOf vk_X9_placeOf dX4_leastWorn_45 (by decide) rfl (by simp [z_ci, z_cj, z_cr, z_cx]) rfl ?_
      refine z_iconst (v := 0) dX4_leastWorn_48 (by decide) ?_
      replace e := z_bd e; obtain ⟨h1966, eh1966, e⟩ := e
      refine z_iast eh1966 dX4_leastWorn_49 ?_
      refine z_iconst (v := 0) dX4_leastWorn_50 (by decide) ?_
      refine z_istore (L' := [(4, .int (0:Int32)), (0, z_r l0), (1, z_r l1), (2, .int l2), (3, .int l3)]) dX4_leastWorn_51 (by decide) rfl ?_
      exact z_weak [1, 2, 3, 4, 0] rfl (S_X4_leastWorn_53   z_F e)
    · rw [if_neg c1962] at e
      refine z_aload_n 0 dX4_leastWorn_25 rfl ?_
      replace e := z_bd e; obtain ⟨x1967, ex1967, e⟩ := e
      refine z_getQ ex1967 lk_X4_27 dX4_leastWorn_26 ?_
      refine z_iload 4 dX4_leastWorn_29 rfl ?_
      refine z_iconst (v := 0) dX4_leastWorn_31 (by decide) ?_
      replace e := z_bd e; obtain ⟨h1968, eh1968, e⟩ := e
      refine z_zast eh1968 dX4_leastWorn_32 ?_
      replace e := z_bd e; obtain ⟨x1969, ex1969, e⟩ := e
      refine z_iinc (q := 4) (v := x1969) (L' := [(4, .int x1969), (0, z_r l0), (1, z_r l1), (2, .int l2), (3, .int l3)]) dX4_leastWorn_33 rfl (Option.some.inj ex1969) (by decide) rfl ?_
      refine z_goto (tgt := 18) dX4_leastWorn_36 (by decide) ?_
      exact z_weak [1, 2, 3, 4, 0] rfl (hk18 e)
def D_X4_leastWorn (h : z_H) (l0 : Option Nat) (l1 : Option Nat) (l2 : Int32) (l3 : Int32) : Option (Int32 × z_H) :=
  (z_ob 4 h l0).bind fun _ =>
  (D_X4_layOut  h l0 l1 l2).bind fun p1970 =>
  (z_gQ 4 p1970 l0 5).bind fun x1972 =>
  (D_J7_fill_53178  p1970 x1972 (1000000:Int32)).bind fun p1973 =>
  D_X4_leastWorn_18   z_F p1973 l0 l1 l2 l3 (0:Int32)
set_option maxRecDepth 100000 in
set_option maxHeartbeats 4000000 in
theorem S_X4_leastWorn {G : z_G} {l : Launch} {h : z_H} {l0 : Option Nat} {l1 : Option Nat} {l2 : Int32} {l3 : Int32} {res : (Int32 × z_H)} (e : D_X4_leastWorn h l0 l1 l2 l3 = some res) : z_Meth G l 9 M_X4_leastWorn [z_r l0, z_r l1, .int l2, .int l3] h res.2 (some (.int res.1)) := by
  refine z_Meth.of ck_X4_leastWorn.2.2.2.2 (by simp [lg_sl, z_ci, z_cj, z_cr, z_cx]) ck_X4_leastWorn.1 ?_
  rw [show lv_args 0 [z_r l0, z_r l1, .int l2, .int l3] = [(0, z_r l0), (1, z_r l1), (2, .int l2), (3, .int l3)] from by simp [lv_args, z_ci, z_cj, z_cr, z_cx]]
  unfold D_X4_leastWorn at e
  refine z_aload_n 0 dX4_leastWorn_0 rfl ?_
  refine z_aload_n 1 dX4_leastWorn_1 rfl ?_
  refine z_iload_n 2 dX4_leastWorn_2 rfl ?_
  replace e := z_bd e; obtain ⟨o1971, eo1971, e⟩ := e
  replace e := z_bd e; obtain ⟨p1970, ep1970, e⟩ := e
  refine z_cV [z_r l1, .int l2] (S_X4_layOut  ep1970) eo1971 rfl ml_X4_52 ck_X4_layOut vk_X4_layOut dX4_leastWorn_3 (by decide) rfl (Nat.zero_le _) rfl ?_
  refine z_aload_n 0 dX4_leastWorn_6 rfl ?_
  replace e := z_bd e; obtain ⟨x1972, ex1972, e⟩ := e
  refine z_getQ ex1972 lk_X4_24 dX4_leastWorn_7 ?_
  refine z_ldc dX4_leastWorn_10 kc_X4_56 ?_
  replace e := z_bd e; obtain ⟨p1973, ep1973, e⟩ := e
  refine z_cS [z_r x1972, .int (1000000:Int32)] (S_J7_fill_53178  ep1973) ml_X4_57 ck_J7_fill_53178 st_J7_fill_53178 dX4_leastWorn_12 (by decide) rfl (Nat.zero_le _) rfl ?_
  refine z_iconst (v := 0) dX4_leastWorn_15 (by decide) ?_
  refine z_istore (L' := [(4, .int (0:Int32)), (0, z_r l0), (1, z_r l1), (2, .int l2), (3, .int l3)]) dX4_leastWorn_16 (by decide) rfl ?_
  exact z_weak [1, 2, 3, 4, 0] rfl (S_X4_leastWorn_18   z_F e)
theorem dX10_least_0 : decode cX10_least 0 = .ok (.aload_n 0, 1) := by decide +kernel
theorem dX10_least_1 : decode cX10_least 1 = .ok (.getfield 12, 3) := by decide +kernel
theorem dX10_least_4 : decode cX10_least 4 = .ok (.iload_n 1, 1) := by decide +kernel
theorem dX10_least_5 : decode cX10_least 5 = .ok (.invokevirtual 121, 3) := by decide +kernel
theorem dX10_least_8 : decode cX10_least 8 = .ok (.ifCond .eq 10, 3) := by decide +kernel
theorem dX10_least_11 : decode cX10_least 11 = .ok (.iload_n 2, 1) := by decide +kernel
theorem dX10_least_12 : decode cX10_least 12 = .ok (.invokestatic 145, 3) := by decide +kernel
theorem dX10_least_15 : decode cX10_least 15 = .ok (.ifCond .ne 5, 3) := by decide +kernel
theorem dX10_least_18 : decode cX10_least 18 = .ok (.iconst (-1), 1) := by decide +kernel
theorem dX10_least_19 : decode cX10_least 19 = .ok (.ireturn, 1) := by decide +kernel
theorem dX10_least_20 : decode cX10_least 20 = .ok (.aload_n 0, 1) := by decide +kernel
theorem dX10_least_21 : decode cX10_least 21 = .ok (.getfield 69, 3) := by decide +kernel
theorem dX10_least_24 : decode cX10_least 24 = .ok (.aload_n 0, 1) := by decide +kernel
theorem dX10_least_25 : decode cX10_least 25 = .ok (.getfield 12, 3) := by decide +kernel
theorem dX10_least_28 : decode cX10_least 28 = .ok (.iload_n 1, 1) := by decide +kernel
theorem dX10_least_29 : decode cX10_least 29 = .ok (.iload_n 2, 1) := by decide +kernel
theorem dX10_least_30 : decode cX10_least 30 = .ok (.invokevirtual 248, 3) := by decide +kernel
theorem dX10_least_33 : decode cX10_least 33 = .ok (.ireturn, 1) := by decide +kernel
def D_X10_least (h : z_H) (l0 : Option Nat) (l1 : Int32) (l2 : Int32) : Option (Int32 × z_H) :=
  (z_gQ 10 h l0 0).bind fun x1974 =>
  (z_ob 9 h x1974).bind fun _ =>
  (D_X9_hasPair  h x1974 l1).bind fun p1975 =>
  if p1975.1 = 0 then
    some ((-1:Int32), p1975.2)
  else
    (D_X10_isCell  p1975.2 l2).bind fun p1978 =>
    if p1978.1 = 0 then
      some ((-1:Int32), p1978.2)
    else
      (z_gQ 10 p1978.2 l0 9).bind fun x1980 =>
      (z_gQ 10 p1978.2 l0 0).bind fun x1981 =>
      (z_ob 4 p1978.2 x1980).bind fun _ =>
      (D_X4_leastWorn  p1978.2 x1980 x1981 l1 l2).bind fun p1982 =>
      some (p1982.1, p1982.2)
set_option maxRecDepth 100000 in
set_option maxHeartbeats 4000000 in
theorem S_X10_least {G : z_G} {l : Launch} {h : z_H} {l0 : Option Nat} {l1 : Int32} {l2 : Int32} {res : (Int32 × z_H)} (e : D_X10_least h l0 l1 l2 = some res) : z_Meth G l 10 M_X10_least [z_r l0, .int l1, .int l2] h res.2 (some (.int res.1)) := by
  refine z_Meth.of ck_X10_least.2.2.2.2 (by simp [lg_sl, z_ci, z_cj, z_cr, z_cx]) ck_X10_least.1 ?_
  rw [show lv_args 0 [z_r l0, .int l1, .int l2] = [(0, z_r l0), (1, .int l1), (2, .int l2)] from by simp [lv_args, z_ci, z_cj, z_cr, z_cx]]
  unfold D_X10_least at e
  refine z_aload_n 0 dX10_least_0 rfl ?_
  replace e := z_bd e; obtain ⟨x1974, ex1974, e⟩ := e
  refine z_getQ ex1974 lk_X10_12 dX10_least_1 ?_
  refine z_iload_n 1 dX10_least_4 rfl ?_
  replace e := z_bd e; obtain ⟨o1976, eo1976, e⟩ := e
  replace e := z_bd e; obtain ⟨p1975, ep1975, e⟩ := e
  refine z_cV [.int l1] (S_X9_hasPair  ep1975) eo1976 rfl ml_X10_121 ck_X9_hasPair vk_X9_hasPair dX10_least_5 (by decide) rfl (Nat.zero_le _) rfl ?_
  refine z_if_eq (tgt := 18) dX10_least_8 (by decide) (fun c1977 => ?_) (fun c1977 => ?_)
  · rw [if_pos c1977] at e
    refine z_iconst (v := -1) dX10_least_18 (by decide) ?_
    cases e
    exact z_iret dX10_least_19 rfl
  · rw [if_neg c1977] at e
    refine z_iload_n 2 dX10_least_11 rfl ?_
    replace e := z_bd e; obtain ⟨p1978, ep1978, e⟩ := e
    refine z_cS [.int l2] (S_X10_isCell  ep1978) ml_X10_145 ck_X10_isCell st_X10_isCell dX10_least_12 (by decide) rfl (Nat.zero_le _) rfl ?_
    refine z_if_ne (tgt := 20) dX10_least_15 (by decide) (fun c1979 => ?_) (fun c1979 => ?_)
    · rw [if_neg c1979] at e
      refine z_aload_n 0 dX10_least_20 rfl ?_
      replace e := z_bd e; obtain ⟨x1980, ex1980, e⟩ := e
      refine z_getQ ex1980 lk_X10_69 dX10_least_21 ?_
      refine z_aload_n 0 dX10_least_24 rfl ?_
      replace e := z_bd e; obtain ⟨x1981, ex1981, e⟩ := e
      refine z_getQ ex1981 lk_X10_12 dX10_least_25 ?_
      refine z_iload_n 1 dX10_least_28 rfl ?_
      refine z_iload_n 2 dX10_least_29 rfl ?_
      replace e := z_bd e; obtain ⟨o1983, eo1983, e⟩ := e
      replace e := z_bd e; obtain ⟨p1982, ep1982, e⟩ := e
      refine z_cV [z_r x1981, .int l1, .int l2] (S_X4_leastWorn  ep1982) eo1983 rfl ml_X10_248 ck_X4_leastWorn vk_X4_leastWorn dX10_least_30 (by decide) rfl (Nat.zero_le _) rfl ?_
      cases e
      exact z_iret dX10_least_33 rfl
    · rw [if_pos c1979] at e
      refine z_iconst (v := -1) dX10_least_18 (by decide) ?_
      cases e
      exact z_iret dX10_least_19 rfl
theorem dX11_least_0 : decode cX11_least 0 = .ok (.aload_n 0, 1) := by decide +kernel
theorem dX11_least_1 : decode cX11_least 1 = .ok (.iconst 0, 1) := by decide +kernel
theorem dX11_least_2 : decode cX11_least 2 = .ok (.putfield 166, 3) := by decide +kernel
theorem dX11_least_5 : decode cX11_least 5 = .ok (.aload_n 0, 1) := by decide +kernel
theorem dX11_least_6 : decode cX11_least 6 = .ok (.iload_n 1, 1) := by decide +kernel
theorem dX11_least_7 : decode cX11_least 7 = .ok (.invokevirtual 211, 3) := by decide +kernel
theorem dX11_least_10 : decode cX11_least 10 = .ok (.ifCond .eq 10, 3) := by decide +kernel
theorem dX11_least_13 : decode cX11_least 13 = .ok (.iload_n 2, 1) := by decide +kernel
theorem dX11_least_14 : decode cX11_least 14 = .ok (.invokestatic 201, 3) := by decide +kernel
theorem dX11_least_17 : decode cX11_least 17 = .ok (.ifCond .ne 5, 3) := by decide +kernel
theorem dX11_least_20 : decode cX11_least 20 = .ok (.iconst (-1), 1) := by decide +kernel
theorem dX11_least_21 : decode cX11_least 21 = .ok (.ireturn, 1) := by decide +kernel
theorem dX11_least_22 : decode cX11_least 22 = .ok (.aload_n 0, 1) := by decide +kernel
theorem dX11_least_23 : decode cX11_least 23 = .ok (.iload_n 1, 1) := by decide +kernel
theorem dX11_least_24 : decode cX11_least 24 = .ok (.invokevirtual 473, 3) := by decide +kernel
theorem dX11_least_27 : decode cX11_least 27 = .ok (.iconst 0, 1) := by decide +kernel
theorem dX11_least_28 : decode cX11_least 28 = .ok (.istore_n 3, 1) := by decide +kernel
theorem dX11_least_29 : decode cX11_least 29 = .ok (.iload_n 3, 1) := by decide +kernel
theorem dX11_least_30 : decode cX11_least 30 = .ok (.bipush 100, 2) := by decide +kernel
theorem dX11_least_32 : decode cX11_least 32 = .ok (.if_icmp .ge 29, 3) := by decide +kernel
theorem dX11_least_35 : decode cX11_least 35 = .ok (.aload_n 0, 1) := by decide +kernel
theorem dX11_least_36 : decode cX11_least 36 = .ok (.getfield 123, 3) := by decide +kernel
theorem dX11_least_39 : decode cX11_least 39 = .ok (.iload_n 3, 1) := by decide +kernel
theorem dX11_least_40 : decode cX11_least 40 = .ok (.iload_n 3, 1) := by decide +kernel
theorem dX11_least_41 : decode cX11_least 41 = .ok (.iconst 4, 1) := by decide +kernel
theorem dX11_least_42 : decode cX11_least 42 = .ok (.idiv, 1) := by decide +kernel
theorem dX11_least_43 : decode cX11_least 43 = .ok (.iload_n 2, 1) := by decide +kernel
theorem dX11_least_44 : decode cX11_least 44 = .ok (.if_icmp .ne 7, 3) := by decide +kernel
theorem dX11_least_47 : decode cX11_least 47 = .ok (.iconst 0, 1) := by decide +kernel
theorem dX11_least_48 : decode cX11_least 48 = .ok (.goto 6, 3) := by decide +kernel
theorem dX11_least_51 : decode cX11_least 51 = .ok (.ldc_w 489, 3) := by decide +kernel
theorem dX11_least_54 : decode cX11_least 54 = .ok (.iastore, 1) := by decide +kernel
theorem dX11_least_55 : decode cX11_least 55 = .ok (.iinc 3 1, 3) := by decide +kernel
theorem dX11_least_58 : decode cX11_least 58 = .ok (.goto (-29), 3) := by decide +kernel
theorem dX11_least_61 : decode cX11_least 61 = .ok (.iconst 1, 1) := by decide +kernel
theorem dX11_least_62 : decode cX11_least 62 = .ok (.istore_n 3, 1) := by decide +kernel
theorem dX11_least_63 : decode cX11_least 63 = .ok (.iload_n 3, 1) := by decide +kernel
theorem dX11_least_64 : decode cX11_least 64 = .ok (.ifCond .eq 133, 3) := by decide +kernel
theorem dX11_least_67 : decode cX11_least 67 = .ok (.iconst 0, 1) := by decide +kernel
theorem dX11_least_68 : decode cX11_least 68 = .ok (.istore_n 3, 1) := by decide +kernel
theorem dX11_least_69 : decode cX11_least 69 = .ok (.iconst 0, 1) := by decide +kernel
theorem dX11_least_70 : decode cX11_least 70 = .ok (.istore 4, 2) := by decide +kernel
theorem dX11_least_72 : decode cX11_least 72 = .ok (.iload 4, 2) := by decide +kernel
theorem dX11_least_74 : decode cX11_least 74 = .ok (.bipush 100, 2) := by decide +kernel
theorem dX11_least_76 : decode cX11_least 76 = .ok (.if_icmp .ge 118, 3) := by decide +kernel
theorem dX11_least_79 : decode cX11_least 79 = .ok (.iconst 0, 1) := by decide +kernel
theorem dX11_least_80 : decode cX11_least 80 = .ok (.istore 5, 2) := by decide +kernel
theorem dX11_least_82 : decode cX11_least 82 = .ok (.iload 5, 2) := by decide +kernel
theorem dX11_least_84 : decode cX11_least 84 = .ok (.iconst 3, 1) := by decide +kernel
theorem dX11_least_85 : decode cX11_least 85 = .ok (.if_icmp .ge 103, 3) := by decide +kernel
theorem dX11_least_88 : decode cX11_least 88 = .ok (.aload_n 0, 1) := by decide +kernel
theorem dX11_least_89 : decode cX11_least 89 = .ok (.iload 4, 2) := by decide +kernel
theorem dX11_least_91 : decode cX11_least 91 = .ok (.iload 5, 2) := by decide +kernel
theorem dX11_least_93 : decode cX11_least 93 = .ok (.invokevirtual 490, 3) := by decide +kernel
theorem dX11_least_96 : decode cX11_least 96 = .ok (.istore 6, 2) := by decide +kernel
theorem dX11_least_98 : decode cX11_least 98 = .ok (.iload 6, 2) := by decide +kernel
theorem dX11_least_100 : decode cX11_least 100 = .ok (.iconst (-1), 1) := by decide +kernel
theorem dX11_least_101 : decode cX11_least 101 = .ok (.if_icmp .eq 16, 3) := by decide +kernel
theorem dX11_least_104 : decode cX11_least 104 = .ok (.aload_n 0, 1) := by decide +kernel
theorem dX11_least_105 : decode cX11_least 105 = .ok (.getfield 123, 3) := by decide +kernel
theorem dX11_least_108 : decode cX11_least 108 = .ok (.iload 6, 2) := by decide +kernel
theorem dX11_least_110 : decode cX11_least 110 = .ok (.iaload, 1) := by decide +kernel
theorem dX11_least_111 : decode cX11_least 111 = .ok (.ldc_w 489, 3) := by decide +kernel
theorem dX11_least_114 : decode cX11_least 114 = .ok (.if_icmp .ne 9, 3) := by decide +kernel
theorem dX11_least_117 : decode cX11_least 117 = .ok (.ldc_w 489, 3) := by decide +kernel
theorem dX11_least_120 : decode cX11_least 120 = .ok (.goto 37, 3) := by decide +kernel
theorem dX11_least_123 : decode cX11_least 123 = .ok (.aload_n 0, 1) := by decide +kernel
theorem dX11_least_124 : decode cX11_least 124 = .ok (.getfield 123, 3) := by decide +kernel
theorem dX11_least_127 : decode cX11_least 127 = .ok (.iload 6, 2) := by decide +kernel
theorem dX11_least_129 : decode cX11_least 129 = .ok (.iaload, 1) := by decide +kernel
theorem dX11_least_130 : decode cX11_least 130 = .ok (.aload_n 0, 1) := by decide +kernel
theorem dX11_least_131 : decode cX11_least 131 = .ok (.iload_n 1, 1) := by decide +kernel
theorem dX11_least_132 : decode cX11_least 132 = .ok (.iload 5, 2) := by decide +kernel
theorem dX11_least_134 : decode cX11_least 134 = .ok (.ifCond .ne 7, 3) := by decide +kernel
theorem dX11_least_137 : decode cX11_least 137 = .ok (.iconst 0, 1) := by decide +kernel
theorem dX11_least_138 : decode cX11_least 138 = .ok (.goto 7, 3) := by decide +kernel
theorem dX11_least_141 : decode cX11_least 141 = .ok (.iload 5, 2) := by decide +kernel
theorem dX11_least_143 : decode cX11_least 143 = .ok (.iconst 1, 1) := by decide +kernel
theorem dX11_least_144 : decode cX11_least 144 = .ok (.iadd, 1) := by decide +kernel
theorem dX11_least_145 : decode cX11_least 145 = .ok (.iload 4, 2) := by decide +kernel
theorem dX11_least_147 : decode cX11_least 147 = .ok (.iconst 4, 1) := by decide +kernel
theorem dX11_least_148 : decode cX11_least 148 = .ok (.idiv, 1) := by decide +kernel
theorem dX11_least_149 : decode cX11_least 149 = .ok (.iload 4, 2) := by decide +kernel
theorem dX11_least_151 : decode cX11_least 151 = .ok (.iconst 4, 1) := by decide +kernel
theorem dX11_least_152 : decode cX11_least 152 = .ok (.irem, 1) := by decide +kernel
theorem dX11_least_153 : decode cX11_least 153 = .ok (.invokevirtual 432, 3) := by decide +kernel
theorem dX11_least_156 : decode cX11_least 156 = .ok (.iadd, 1) := by decide +kernel
theorem dX11_least_157 : decode cX11_least 157 = .ok (.istore 7, 2) := by decide +kernel
theorem dX11_least_159 : decode cX11_least 159 = .ok (.iload 7, 2) := by decide +kernel
theorem dX11_least_161 : decode cX11_least 161 = .ok (.aload_n 0, 1) := by decide +kernel
theorem dX11_least_162 : decode cX11_least 162 = .ok (.getfield 123, 3) := by decide +kernel
theorem dX11_least_165 : decode cX11_least 165 = .ok (.iload 4, 2) := by decide +kernel
theorem dX11_least_167 : decode cX11_least 167 = .ok (.iaload, 1) := by decide +kernel
theorem dX11_least_168 : decode cX11_least 168 = .ok (.if_icmp .ge 14, 3) := by decide +kernel
theorem dX11_least_171 : decode cX11_least 171 = .ok (.aload_n 0, 1) := by decide +kernel
theorem dX11_least_172 : decode cX11_least 172 = .ok (.getfield 123, 3) := by decide +kernel
theorem dX11_least_175 : decode cX11_least 175 = .ok (.iload 4, 2) := by decide +kernel
theorem dX11_least_177 : decode cX11_least 177 = .ok (.iload 7, 2) := by decide +kernel
theorem dX11_least_179 : decode cX11_least 179 = .ok (.iastore, 1) := by decide +kernel
theorem dX11_least_180 : decode cX11_least 180 = .ok (.iconst 1, 1) := by decide +kernel
theorem dX11_least_181 : decode cX11_least 181 = .ok (.istore_n 3, 1) := by decide +kernel
theorem dX11_least_182 : decode cX11_least 182 = .ok (.iinc 5 1, 3) := by decide +kernel
theorem dX11_least_185 : decode cX11_least 185 = .ok (.goto (-103), 3) := by decide +kernel
theorem dX11_least_188 : decode cX11_least 188 = .ok (.iinc 4 1, 3) := by decide +kernel
theorem dX11_least_191 : decode cX11_least 191 = .ok (.goto (-119), 3) := by decide +kernel
theorem dX11_least_194 : decode cX11_least 194 = .ok (.goto (-131), 3) := by decide +kernel
theorem dX11_least_197 : decode cX11_least 197 = .ok (.aload_n 0, 1) := by decide +kernel
theorem dX11_least_198 : decode cX11_least 198 = .ok (.getfield 123, 3) := by decide +kernel
theorem dX11_least_201 : decode cX11_least 201 = .ok (.aload_n 0, 1) := by decide +kernel
theorem dX11_least_202 : decode cX11_least 202 = .ok (.iload_n 1, 1) := by decide +kernel
theorem dX11_least_203 : decode cX11_least 203 = .ok (.invokevirtual 496, 3) := by decide +kernel
theorem dX11_least_206 : decode cX11_least 206 = .ok (.iaload, 1) := by decide +kernel
theorem dX11_least_207 : decode cX11_least 207 = .ok (.ldc_w 489, 3) := by decide +kernel
theorem dX11_least_210 : decode cX11_least 210 = .ok (.if_icmp .ne 7, 3) := by decide +kernel
theorem dX11_least_213 : decode cX11_least 213 = .ok (.iconst (-1), 1) := by decide +kernel
theorem dX11_least_214 : decode cX11_least 214 = .ok (.goto 13, 3) := by decide +kernel
theorem dX11_least_217 : decode cX11_least 217 = .ok (.aload_n 0, 1) := by decide +kernel
theorem dX11_least_218 : decode cX11_least 218 = .ok (.getfield 123, 3) := by decide +kernel
theorem dX11_least_221 : decode cX11_least 221 = .ok (.aload_n 0, 1) := by decide +kernel
theorem dX11_least_222 : decode cX11_least 222 = .ok (.iload_n 1, 1) := by decide +kernel
theorem dX11_least_223 : decode cX11_least 223 = .ok (.invokevirtual 496, 3) := by decide +kernel
theorem dX11_least_226 : decode cX11_least 226 = .ok (.iaload, 1) := by decide +kernel
theorem dX11_least_227 : decode cX11_least 227 = .ok (.ireturn, 1) := by decide +kernel
def D_X11_least_182 (k63 : z_H → Option Nat → Int32 → Int32 → Option (Int32 × z_H)) (k72 : z_H → Option Nat → Int32 → Int32 → Int32 → Option (Int32 × z_H)) (k82 : z_H → Option Nat → Int32 → Int32 → Int32 → Int32 → Option (Int32 × z_H)) (h : z_H) (l0 : Option Nat) (l1 : Int32) (l3 : Int32) (l4 : Int32) (l5 : Int32) : Option (Int32 × z_H) :=
  (some (l5 + (1:Int32))).bind fun x1984 =>
  k82 h l0 l1 l3 l4 x1984
set_option maxRecDepth 100000 in
set_option maxHeartbeats 4000000 in
theorem S_X11_least_182 {G : z_G} {l : Launch} {k63 : z_H → Option Nat → Int32 → Int32 → Option (Int32 × z_H)} {k72 : z_H → Option Nat → Int32 → Int32 → Int32 → Option (Int32 × z_H)} {k82 : z_H → Option Nat → Int32 → Int32 → Int32 → Int32 → Option (Int32 × z_H)} (hk63 : ∀ {h : z_H} {l0 : Option Nat} {l1 : Int32} {l3 : Int32} {res : (Int32 × z_H)}, k63 h l0 l1 l3 = some res → z_Run G l 11 M_X11_least 63 [(0, z_r l0), (1, .int l1), (3, .int l3)] [] h res.2 (some (.int res.1))) (hk72 : ∀ {h : z_H} {l0 : Option Nat} {l1 : Int32} {l3 : Int32} {l4 : Int32} {res : (Int32 × z_H)}, k72 h l0 l1 l3 l4 = some res → z_Run G l 11 M_X11_least 72 [(0, z_r l0), (1, .int l1), (3, .int l3), (4, .int l4)] [] h res.2 (some (.int res.1))) (hk82 : ∀ {h : z_H} {l0 : Option Nat} {l1 : Int32} {l3 : Int32} {l4 : Int32} {l5 : Int32} {res : (Int32 × z_H)}, k82 h l0 l1 l3 l4 l5 = some res → z_Run G l 11 M_X11_least 82 [(0, z_r l0), (1, .int l1), (3, .int l3), (4, .int l4), (5, .int l5)] [] h res.2 (some (.int res.1))) {h : z_H} {l0 : Option Nat} {l1 : Int32} {l3 : Int32} {l4 : Int32} {l5 : Int32} {res : (Int32 × z_H)} (e : D_X11_least_182 k63 k72 k82 h l0 l1 l3 l4 l5 = some res) : z_Run G l 11 M_X11_least 182 [(0, z_r l0), (1, .int l1), (3, .int l3), (4, .int l4), (5, .int l5)] [] h res.2 (some (.int res.1)) := by
  unfold D_X11_least_182 at e
  replace e := z_bd e; obtain ⟨x1984, ex1984, e⟩ := e
  refine z_iinc (q := 4) (v := x1984) (L' := [(5, .int x1984), (0, z_r l0), (1, .int l1), (3, .int l3), (4, .int l4)]) dX11_least_182 rfl (Option.some.inj ex1984) (by decide) rfl ?_
  refine z_goto (tgt := 82) dX11_least_185 (by decide) ?_
  exact z_weak [1, 2, 3, 4, 0] rfl (hk82 e)
def D_X11_least_157 (k63 : z_H → Option Nat → Int32 → Int32 → Option (Int32 × z_H)) (k72 : z_H → Option Nat → Int32 → Int32 → Int32 → Option (Int32 × z_H)) (k82 : z_H → Option Nat → Int32 → Int32 → Int32 → Int32 → Option (Int32 × z_H)) (h : z_H) (l0 : Option Nat) (l1 : Int32) (l3 : Int32) (l4 : Int32) (l5 : Int32) (s0 : Int32) : Option (Int32 × z_H) :=
  (z_gQ 11 h l0 44).bind fun x1985 =>
  (z_aI .int h x1985 l4).bind fun x1986 =>
  if x1986 ≤ s0 then
    D_X11_least_182  k63 k72 k82 h l0 l1 l3 l4 l5
  else
    (z_gQ 11 h l0 44).bind fun x1988 =>
    (z_sI h x1988 l4 s0).bind fun h1989 =>
    D_X11_least_182  k63 k72 k82 h1989 l0 l1 (1:Int32) l4 l5
set_option maxRecDepth 100000 in
set_option maxHeartbeats 4000000 in
theorem S_X11_least_157 {G : z_G} {l : Launch} {k63 : z_H → Option Nat → Int32 → Int32 → Option (Int32 × z_H)} {k72 : z_H → Option Nat → Int32 → Int32 → Int32 → Option (Int32 × z_H)} {k82 : z_H → Option Nat → Int32 → Int32 → Int32 → Int32 → Option (Int32 × z_H)} (hk63 : ∀ {h : z_H} {l0 : Option Nat} {l1 : Int32} {l3 : Int32} {res : (Int32 × z_H)}, k63 h l0 l1 l3 = some res → z_Run G l 11 M_X11_least 63 [(0, z_r l0), (1, .int l1), (3, .int l3)] [] h res.2 (some (.int res.1))) (hk72 : ∀ {h : z_H} {l0 : Option Nat} {l1 : Int32} {l3 : Int32} {l4 : Int32} {res : (Int32 × z_H)}, k72 h l0 l1 l3 l4 = some res → z_Run G l 11 M_X11_least 72 [(0, z_r l0), (1, .int l1), (3, .int l3), (4, .int l4)] [] h res.2 (some (.int res.1))) (hk82 : ∀ {h : z_H} {l0 : Option Nat} {l1 : Int32} {l3 : Int32} {l4 : Int32} {l5 : Int32} {res : (Int32 × z_H)}, k82 h l0 l1 l3 l4 l5 = some res → z_Run G l 11 M_X11_least 82 [(0, z_r l0), (1, .int l1), (3, .int l3), (4, .int l4), (5, .int l5)] [] h res.2 (some (.int res.1))) {h : z_H} {l0 : Option Nat} {l1 : Int32} {l3 : Int32} {l4 : Int32} {l5 : Int32} {s0 : Int32} {res : (Int32 × z_H)} (e : D_X11_least_157 k63 k72 k82 h l0 l1 l3 l4 l5 s0 = some res) : z_Run G l 11 M_X11_least 157 [(0, z_r l0), (1, .int l1), (3, .int l3), (4, .int l4), (5, .int l5)] [.int s0] h res.2 (some (.int res.1)) := by
  unfold D_X11_least_157 at e
  refine z_istore (L' := [(7, .int s0), (0, z_r l0), (1, .int l1), (3, .int l3), (4, .int l4), (5, .int l5)]) dX11_least_157 (by decide) rfl ?_
  refine z_iload 0 dX11_least_159 rfl ?_
  refine z_aload_n 1 dX11_least_161 rfl ?_
  replace e := z_bd e; obtain ⟨x1985, ex1985, e⟩ := e
  refine z_getQ ex1985 lk_X11_123 dX11_least_162 ?_
  refine z_iload 4 dX11_least_165 rfl ?_
  replace e := z_bd e; obtain ⟨x1986, ex1986, e⟩ := e
  refine z_iald ex1986 dX11_least_167 ?_
  refine z_icmp_ge (tgt := 182) dX11_least_168 (by decide) (fun c1987 => ?_) (fun c1987 => ?_)
  · rw [if_pos c1987] at e
    exact z_weak [1, 2, 3, 4, 5] rfl (S_X11_least_182  @hk63 @hk72 @hk82 e)
  · rw [if_neg c1987] at e
    refine z_aload_n 1 dX11_least_171 rfl ?_
    replace e := z_bd e; obtain ⟨x1988, ex1988, e⟩ := e
    refine z_getQ ex1988 lk_X11_123 dX11_least_172 ?_
    refine z_iload 4 dX11_least_175 rfl ?_
    refine z_iload 0 dX11_least_177 rfl ?_
    replace e := z_bd e; obtain ⟨h1989, eh1989, e⟩ := e
    refine z_iast eh1989 dX11_least_179 ?_
    refine z_iconst (v := 1) dX11_least_180 (by decide) ?_
    refine z_istore_n (L' := [(3, .int (1:Int32)), (7, .int s0), (0, z_r l0), (1, .int l1), (4, .int l4), (5, .int l5)]) dX11_least_181 rfl (by decide) rfl ?_
    exact z_weak [2, 3, 0, 4, 5] rfl (S_X11_least_182  @hk63 @hk72 @hk82 e)
def D_X11_least_117 (k63 : z_H → Option Nat → Int32 → Int32 → Option (Int32 × z_H)) (k72 : z_H → Option Nat → Int32 → Int32 → Int32 → Option (Int32 × z_H)) (k82 : z_H → Option Nat → Int32 → Int32 → Int32 → Int32 → Option (Int32 × z_H)) (h : z_H) (l0 : Option Nat) (l1 : Int32) (l3 : Int32) (l4 : Int32) (l5 : Int32) : Option (Int32 × z_H) :=
  D_X11_least_157  k63 k72 k82 h l0 l1 l3 l4 l5 (100000000:Int32)
set_option maxRecDepth 100000 in
set_option maxHeartbeats 4000000 in
theorem S_X11_least_117 {G : z_G} {l : Launch} {k63 : z_H → Option Nat → Int32 → Int32 → Option (Int32 × z_H)} {k72 : z_H → Option Nat → Int32 → Int32 → Int32 → Option (Int32 × z_H)} {k82 : z_H → Option Nat → Int32 → Int32 → Int32 → Int32 → Option (Int32 × z_H)} (hk63 : ∀ {h : z_H} {l0 : Option Nat} {l1 : Int32} {l3 : Int32} {res : (Int32 × z_H)}, k63 h l0 l1 l3 = some res → z_Run G l 11 M_X11_least 63 [(0, z_r l0), (1, .int l1), (3, .int l3)] [] h res.2 (some (.int res.1))) (hk72 : ∀ {h : z_H} {l0 : Option Nat} {l1 : Int32} {l3 : Int32} {l4 : Int32} {res : (Int32 × z_H)}, k72 h l0 l1 l3 l4 = some res → z_Run G l 11 M_X11_least 72 [(0, z_r l0), (1, .int l1), (3, .int l3), (4, .int l4)] [] h res.2 (some (.int res.1))) (hk82 : ∀ {h : z_H} {l0 : Option Nat} {l1 : Int32} {l3 : Int32} {l4 : Int32} {l5 : Int32} {res : (Int32 × z_H)}, k82 h l0 l1 l3 l4 l5 = some res → z_Run G l 11 M_X11_least 82 [(0, z_r l0), (1, .int l1), (3, .int l3), (4, .int l4), (5, .int l5)] [] h res.2 (some (.int res.1))) {h : z_H} {l0 : Option Nat} {l1 : Int32} {l3 : Int32} {l4 : Int32} {l5 : Int32} {res : (Int32 × z_H)} (e : D_X11_least_117 k63 k72 k82 h l0 l1 l3 l4 l5 = some res) : z_Run G l 11 M_X11_least 117 [(0, z_r l0), (1, .int l1), (3, .int l3), (4, .int l4), (5, .int l5)] [] h res.2 (some (.int res.1)) := by
  unfold D_X11_least_117 at e
  refine z_ldcw dX11_least_117 kc_X11_489 ?_
  refine z_goto (tgt := 157) dX11_least_120 (by decide) ?_
  exact z_weak [0, 1, 2, 3, 4] rfl (S_X11_least_157  @hk63 @hk72 @hk82 e)
def D_X11_least_145 (k63 : z_H → Option Nat → Int32 → Int32 → Option (Int32 × z_H)) (k72 : z_H → Option Nat → Int32 → Int32 → Int32 → Option (Int32 × z_H)) (k82 : z_H → Option Nat → Int32 → Int32 → Int32 → Int32 → Option (Int32 × z_H)) (h : z_H) (l0 : Option Nat) (l1 : Int32) (l3 : Int32) (l4 : Int32) (l5 : Int32) (s0 : Int32) (s1 : Option Nat) (s2 : Int32) (s3 : Int32) : Option (Int32 × z_H) :=
  (z_ob 11 h s1).bind fun _ =>
  (D_X11_wearsAt  h s1 s2 s3 (l4 / (4:Int32)) (l4 - l4 / (4:Int32) * (4:Int32))).bind fun p1990 =>
  D_X11_least_157  k63 k72 k82 p1990.2 l0 l1 l3 l4 l5 (s0 + p1990.1)
set_option maxRecDepth 100000 in
set_option maxHeartbeats 4000000 in
theorem S_X11_least_145 {G : z_G} {l : Launch} {k63 : z_H → Option Nat → Int32 → Int32 → Option (Int32 × z_H)} {k72 : z_H → Option Nat → Int32 → Int32 → Int32 → Option (Int32 × z_H)} {k82 : z_H → Option Nat → Int32 → Int32 → Int32 → Int32 → Option (Int32 × z_H)} (hk63 : ∀ {h : z_H} {l0 : Option Nat} {l1 : Int32} {l3 : Int32} {res : (Int32 × z_H)}, k63 h l0 l1 l3 = some res → z_Run G l 11 M_X11_least 63 [(0, z_r l0), (1, .int l1), (3, .int l3)] [] h res.2 (some (.int res.1))) (hk72 : ∀ {h : z_H} {l0 : Option Nat} {l1 : Int32} {l3 : Int32} {l4 : Int32} {res : (Int32 × z_H)}, k72 h l0 l1 l3 l4 = some res → z_Run G l 11 M_X11_least 72 [(0, z_r l0), (1, .int l1), (3, .int l3), (4, .int l4)] [] h res.2 (some (.int res.1))) (hk82 : ∀ {h : z_H} {l0 : Option Nat} {l1 : Int32} {l3 : Int32} {l4 : Int32} {l5 : Int32} {res : (Int32 × z_H)}, k82 h l0 l1 l3 l4 l5 = some res → z_Run G l 11 M_X11_least 82 [(0, z_r l0), (1, .int l1), (3, .int l3), (4, .int l4), (5, .int l5)] [] h res.2 (some (.int res.1))) {h : z_H} {l0 : Option Nat} {l1 : Int32} {l3 : Int32} {l4 : Int32} {l5 : Int32} {s0 : Int32} {s1 : Option Nat} {s2 : Int32} {s3 : Int32} {res : (Int32 × z_H)} (e : D_X11_least_145 k63 k72 k82 h l0 l1 l3 l4 l5 s0 s1 s2 s3 = some res) : z_Run G l 11 M_X11_least 145 [(0, z_r l0), (1, .int l1), (3, .int l3), (4, .int l4), (5, .int l5)] [.int s3, .int s2, z_r s1, .int s0] h res.2 (some (.int res.1)) := by
  unfold D_X11_least_145 at e
  refine z_iload 3 dX11_least_145 rfl ?_
  refine z_iconst (v := 4) dX11_least_147 (by decide) ?_
  refine z_idiv dX11_least_148 (by decide) ?_
  refine z_iload 3 dX11_least_149 rfl ?_
  refine z_iconst (v := 4) dX11_least_151 (by decide) ?_
  refine z_irem dX11_least_152 (by decide) ?_
  replace e := z_bd e; obtain ⟨o1991, eo1991, e⟩ := e
  replace e := z_bd e; obtain ⟨p1990, ep1990, e⟩ := e
  refine z_cV [.int s2, .int s3, .int (l4 / (4:Int32)), .int (l4 - l4 / (4:Int32) * (4:Int32))] (S_X11_wearsAt  ep1990) eo1991 rfl ml_X11_432 ck_X11_wearsAt vk_X11_wearsAt dX11_least_153 (by decide) rfl (by simp [z_ci, z_cj, z_cr, z_cx]) rfl ?_
  refine z_iadd dX11_least_156 ?_
  exact z_weak [0, 1, 2, 3, 4] rfl (S_X11_least_157  @hk63 @hk72 @hk82 e)
def D_X11_least_82b (k63 : z_H → Option Nat → Int32 → Int32 → Option (Int32 × z_H)) (k72 : z_H → Option Nat → Int32 → Int32 → Int32 → Option (Int32 × z_H)) (k82 : z_H → Option Nat → Int32 → Int32 → Int32 → Int32 → Option (Int32 × z_H)) (h : z_H) (l0 : Option Nat) (l1 : Int32) (l3 : Int32) (l4 : Int32) (l5 : Int32) : Option (Int32 × z_H) :=
  if (3:Int32) ≤ l5 then
    (some (l4 + (1:Int32))).bind fun x1993 =>
    k72 h l0 l1 l3 x1993
  else
    (z_ob 11 h l0).bind fun _ =>
    (D_X11_acted  h l0 l4 l5).bind fun p1994 =>
    if p1994.1 = (-1:Int32) then
      D_X11_least_117  k63 k72 k82 p1994.2 l0 l1 l3 l4 l5
    else
      (z_gQ 11 p1994.2 l0 44).bind fun x1997 =>
      (z_aI .int p1994.2 x1997 p1994.1).bind fun x1998 =>
      if x1998 = (100000000:Int32) then
        D_X11_least_117  k63 k72 k82 p1994.2 l0 l1 l3 l4 l5
      else
        (z_gQ 11 p1994.2 l0 44).bind fun x2000 =>
        (z_aI .int p1994.2 x2000 p1994.1).bind fun x2001 =>
        if l5 = 0 then
          D_X11_least_145  k63 k72 k82 p1994.2 l0 l1 l3 l4 l5 x2001 l0 l1 (0:Int32)
        else
          D_X11_least_145  k63 k72 k82 p1994.2 l0 l1 l3 l4 l5 x2001 l0 l1 (l5 + (1:Int32))
def D_X11_least_82 (k63 : z_H → Option Nat → Int32 → Int32 → Option (Int32 × z_H)) (k72 : z_H → Option Nat → Int32 → Int32 → Int32 → Option (Int32 × z_H)) (n : Nat) : z_H → Option Nat → Int32 → Int32 → Int32 → Int32 → Option (Int32 × z_H) := Nat.rec (motive := fun _ => z_H → Option Nat → Int32 → Int32 → Int32 → Int32 → Option (Int32 × z_H)) (fun _ _ _ _ _ _ => none) (fun _ k => D_X11_least_82b k63 k72 k) n
set_option maxRecDepth 100000 in
set_option maxHeartbeats 4000000 in
theorem S_X11_least_82 {G : z_G} {l : Launch} {k63 : z_H → Option Nat → Int32 → Int32 → Option (Int32 × z_H)} {k72 : z_H → Option Nat → Int32 → Int32 → Int32 → Option (Int32 × z_H)} (hk63 : ∀ {h : z_H} {l0 : Option Nat} {l1 : Int32} {l3 : Int32} {res : (Int32 × z_H)}, k63 h l0 l1 l3 = some res → z_Run G l 11 M_X11_least 63 [(0, z_r l0), (1, .int l1), (3, .int l3)] [] h res.2 (some (.int res.1))) (hk72 : ∀ {h : z_H} {l0 : Option Nat} {l1 : Int32} {l3 : Int32} {l4 : Int32} {res : (Int32 × z_H)}, k72 h l0 l1 l3 l4 = some res → z_Run G l 11 M_X11_least 72 [(0, z_r l0), (1, .int l1), (3, .int l3), (4, .int l4)] [] h res.2 (some (.int res.1))) (n : Nat) : ∀ {h : z_H} {l0 : Option Nat} {l1 : Int32} {l3 : Int32} {l4 : Int32} {l5 : Int32} {res : (Int32 × z_H)}, D_X11_least_82 k63 k72 n h l0 l1 l3 l4 l5 = some res → z_Run G l 11 M_X11_least 82 [(0, z_r l0), (1, .int l1), (3, .int l3), (4, .int l4), (5, .int l5)] [] h res.2 (some (.int res.1)) := by
  induction n with
  | zero => intro h l0 l1 l3 l4 l5 res e; cases e
  | succ n hk82 =>
    intro h l0 l1 l3 l4 l5 res e
    replace e : D_X11_least_82b k63 k72 (D_X11_least_82 k63 k72 n) h l0 l1 l3 l4 l5 = some res := e
    unfold D_X11_least_82b at e
    refine z_iload 4 dX11_least_82 rfl ?_
    refine z_iconst (v := 3) dX11_least_84 (by decide) ?_
    refine z_icmp_ge (tgt := 188) dX11_least_85 (by decide) (fun c1992 => ?_) (fun c1992 => ?_)
    · rw [if_pos c1992] at e
      replace e := z_bd e; obtain ⟨x1993, ex1993, e⟩ := e
      refine z_iinc (q := 3) (v := x1993) (L' := [(4, .int x1993), (0, z_r l0), (1, .int l1), (3, .int l3), (5, .int l5)]) dX11_least_188 rfl (Option.some.inj ex1993) (by decide) rfl ?_
      refine z_goto (tgt := 72) dX11_least_191 (by decide) ?_
      exact z_weak [1, 2, 3, 0] rfl (hk72 e)
    · rw [if_neg c1992] at e
      refine z_aload_n 0 dX11_least_88 rfl ?_
      refine z_iload 3 dX11_least_89 rfl ?_
      refine z_iload 4 dX11_least_91 rfl ?_
      replace e := z_bd e; obtain ⟨o1995, eo1995, e⟩ := e
      replace e := z_bd e; obtain ⟨p1994, ep1994, e⟩ := e
      refine z_cV [.int l4, .int l5] (S_X11_acted  ep1994) eo1995 rfl ml_X11_490 ck_X11_acted vk_X11_acted dX11_least_93 (by decide) rfl (Nat.zero_le _) rfl ?_
      refine z_istore (L' := [(6, .int p1994.1), (0, z_r l0), (1, .int l1), (3, .int l3), (4, .int l4), (5, .int l5)]) dX11_least_96 (by decide) rfl ?_
      refine z_iload 0 dX11_least_98 rfl ?_
      refine z_iconst (v := -1) dX11_least_100 (by decide) ?_
      refine z_icmp_eq (tgt := 117) dX11_least_101 (by decide) (fun c1996 => ?_) (fun c1996 => ?_)
      · rw [if_pos c1996] at e
        exact z_weak [1, 2, 3, 4, 5] rfl (S_X11_least_117  @hk63 @hk72 @hk82 e)
      · rw [if_neg c1996] at e
        refine z_aload_n 1 dX11_least_104 rfl ?_
        replace e := z_bd e; obtain ⟨x1997, ex1997, e⟩ := e
        refine z_getQ ex1997 lk_X11_123 dX11_least_105 ?_
        refine z_iload 0 dX11_least_108 rfl ?_
        replace e := z_bd e; obtain ⟨x1998, ex1998, e⟩ := e
        refine z_iald ex1998 dX11_least_110 ?_
        refine z_ldcw dX11_least_111 kc_X11_489 ?_
        refine z_icmp_ne (tgt := 123) dX11_least_114 (by decide) (fun c1999 => ?_) (fun c1999 => ?_)
        · rw [if_neg c1999] at e
          refine z_aload_n 1 dX11_least_123 rfl ?_
          replace e := z_bd e; obtain ⟨x2000, ex2000, e⟩ := e
          refine z_getQ ex2000 lk_X11_123 dX11_least_124 ?_
          refine z_iload 0 dX11_least_127 rfl ?_
          replace e := z_bd e; obtain ⟨x2001, ex2001, e⟩ := e
          refine z_iald ex2001 dX11_least_129 ?_
          refine z_aload_n 1 dX11_least_130 rfl ?_
          refine z_iload_n 2 dX11_least_131 rfl ?_
          refine z_iload 5 dX11_least_132 rfl ?_
          refine z_if_ne (tgt := 141) dX11_least_134 (by decide) (fun c2002 => ?_) (fun c2002 => ?_)
          · rw [if_neg c2002] at e
            refine z_iload 5 dX11_least_141 rfl ?_
            refine z_iconst (v := 1) dX11_least_143 (by decide) ?_
            refine z_iadd dX11_least_144 ?_
            exact z_weak [1, 2, 3, 4, 5] rfl (S_X11_least_145  @hk63 @hk72 @hk82 e)
          · rw [if_pos c2002] at e
            refine z_iconst (v := 0) dX11_least_137 (by decide) ?_
            refine z_goto (tgt := 145) dX11_least_138 (by decide) ?_
            exact z_weak [1, 2, 3, 4, 5] rfl (S_X11_least_145  @hk63 @hk72 @hk82 e)
        · rw [if_pos c1999] at e
          exact z_weak [1, 2, 3, 4, 5] rfl (S_X11_least_117  @hk63 @hk72 @hk82 e)
def D_X11_least_72b (k63 : z_H → Option Nat → Int32 → Int32 → Option (Int32 × z_H)) (k72 : z_H → Option Nat → Int32 → Int32 → Int32 → Option (Int32 × z_H)) (h : z_H) (l0 : Option Nat) (l1 : Int32) (l3 : Int32) (l4 : Int32) : Option (Int32 × z_H) :=
  if (100:Int32) ≤ l4 then
    k63 h l0 l1 l3
  else
    D_X11_least_82  k63 k72 z_F h l0 l1 l3 l4 (0:Int32)
def D_X11_least_72 (k63 : z_H → Option Nat → Int32 → Int32 → Option (Int32 × z_H)) (n : Nat) : z_H → Option Nat → Int32 → Int32 → Int32 → Option (Int32 × z_H) := Nat.rec (motive := fun _ => z_H → Option Nat → Int32 → Int32 → Int32 → Option (Int32 × z_H)) (fun _ _ _ _ _ => none) (fun _ k => D_X11_least_72b k63 k) n
set_option maxRecDepth 100000 in
set_option maxHeartbeats 4000000 in
theorem S_X11_least_72 {G : z_G} {l : Launch} {k63 : z_H → Option Nat → Int32 → Int32 → Option (Int32 × z_H)} (hk63 : ∀ {h : z_H} {l0 : Option Nat} {l1 : Int32} {l3 : Int32} {res : (Int32 × z_H)}, k63 h l0 l1 l3 = some res → z_Run G l 11 M_X11_least 63 [(0, z_r l0), (1, .int l1), (3, .int l3)] [] h res.2 (some (.int res.1))) (n : Nat) : ∀ {h : z_H} {l0 : Option Nat} {l1 : Int32} {l3 : Int32} {l4 : Int32} {res : (Int32 × z_H)}, D_X11_least_72 k63 n h l0 l1 l3 l4 = some res → z_Run G l 11 M_X11_least 72 [(0, z_r l0), (1, .int l1), (3, .int l3), (4, .int l4)] [] h res.2 (some (.int res.1)) := by
  induction n with
  | zero => intro h l0 l1 l3 l4 res e; cases e
  | succ n hk72 =>
    intro h l0 l1 l3 l4 res e
    replace e : D_X11_least_72b k63 (D_X11_least_72 k63 n) h l0 l1 l3 l4 = some res := e
    unfold D_X11_least_72b at e
    refine z_iload 3 dX11_least_72 rfl ?_
    refine z_bipush (v := 100) dX11_least_74 (by decide) ?_
    refine z_icmp_ge (tgt := 194) dX11_least_76 (by decide) (fun c2003 => ?_) (fun c2003 => ?_)
    · rw [if_pos c2003] at e
      refine z_goto (tgt := 63) dX11_least_194 (by decide) ?_
      exact z_weak [0, 1, 2] rfl (hk63 e)
    · rw [if_neg c2003] at e
      refine z_iconst (v := 0) dX11_least_79 (by decide) ?_
      refine z_istore (L' := [(5, .int (0:Int32)), (0, z_r l0), (1, .int l1), (3, .int l3), (4, .int l4)]) dX11_least_80 (by decide) rfl ?_
      exact z_weak [1, 2, 3, 4, 0] rfl (S_X11_least_82  @hk63 @hk72 z_F e)
def D_X11_least_63b (k63 : z_H → Option Nat → Int32 → Int32 → Option (Int32 × z_H)) (h : z_H) (l0 : Option Nat) (l1 : Int32) (l3 : Int32) : Option (Int32 × z_H) :=
  if l3 = 0 then
    (z_gQ 11 h l0 44).bind fun x2005 =>
    (z_ob 11 h l0).bind fun _ =>
    (D_X11_stateOf  h l0 l1).bind fun p2006 =>
    (z_aI .int p2006.2 x2005 p2006.1).bind fun x2008 =>
    if x2008 = (100000000:Int32) then
      some ((-1:Int32), p2006.2)
    else
      (z_gQ 11 p2006.2 l0 44).bind fun x2010 =>
      (z_ob 11 p2006.2 l0).bind fun _ =>
      (D_X11_stateOf  p2006.2 l0 l1).bind fun p2011 =>
      (z_aI .int p2011.2 x2010 p2011.1).bind fun x2013 =>
      some (x2013, p2011.2)
  else
    D_X11_least_72  k63 z_F h l0 l1 (0:Int32) (0:Int32)
def D_X11_least_63 (n : Nat) : z_H → Option Nat → Int32 → Int32 → Option (Int32 × z_H) := Nat.rec (motive := fun _ => z_H → Option Nat → Int32 → Int32 → Option (Int32 × z_H)) (fun _ _ _ _ => none) (fun _ k => D_X11_least_63b  k) n
set_option maxRecDepth 100000 in
set_option maxHeartbeats 4000000 in
theorem S_X11_least_63 {G : z_G} {l : Launch}  (n : Nat) : ∀ {h : z_H} {l0 : Option Nat} {l1 : Int32} {l3 : Int32} {res : (Int32 × z_H)}, D_X11_least_63  n h l0 l1 l3 = some res → z_Run G l 11 M_X11_least 63 [(0, z_r l0), (1, .int l1), (3, .int l3)] [] h res.2 (some (.int res.1)) := by
  induction n with
  | zero => intro h l0 l1 l3 res e; cases e
  | succ n hk63 =>
    intro h l0 l1 l3 res e
    replace e : D_X11_least_63b  (D_X11_least_63  n) h l0 l1 l3 = some res := e
    unfold D_X11_least_63b at e
    refine z_iload_n 2 dX11_least_63 rfl ?_
    refine z_if_eq (tgt := 197) dX11_least_64 (by decide) (fun c2004 => ?_) (fun c2004 => ?_)
    · rw [if_pos c2004] at e
      refine z_aload_n 0 dX11_least_197 rfl ?_
      replace e := z_bd e; obtain ⟨x2005, ex2005, e⟩ := e
      refine z_getQ ex2005 lk_X11_123 dX11_least_198 ?_
      refine z_aload_n 0 dX11_least_201 rfl ?_
      refine z_iload_n 1 dX11_least_202 rfl ?_
      replace e := z_bd e; obtain ⟨o2007, eo2007, e⟩ := e
      replace e := z_bd e; obtain ⟨p2006, ep2006, e⟩ := e
      refine z_cV [.int l1] (S_X11_stateOf  ep2006) eo2007 rfl ml_X11_496 ck_X11_stateOf vk_X11_stateOf dX11_least_203 (by decide) rfl (by simp [z_ci, z_cj, z_cr, z_cx]) rfl ?_
      replace e := z_bd e; obtain ⟨x2008, ex2008, e⟩ := e
      refine z_iald ex2008 dX11_least_206 ?_
      refine z_ldcw dX11_least_207 kc_X11_489 ?_
      refine z_icmp_ne (tgt := 217) dX11_least_210 (by decide) (fun c2009 => ?_) (fun c2009 => ?_)
      · rw [if_neg c2009] at e
        refine z_aload_n 0 dX11_least_217 rfl ?_
        replace e := z_bd e; obtain ⟨x2010, ex2010, e⟩ := e
        refine z_getQ ex2010 lk_X11_123 dX11_least_218 ?_
        refine z_aload_n 0 dX11_least_221 rfl ?_
        refine z_iload_n 1 dX11_least_222 rfl ?_
        replace e := z_bd e; obtain ⟨o2012, eo2012, e⟩ := e
        replace e := z_bd e; obtain ⟨p2011, ep2011, e⟩ := e
        refine z_cV [.int l1] (S_X11_stateOf  ep2011) eo2012 rfl ml_X11_496 ck_X11_stateOf vk_X11_stateOf dX11_least_223 (by decide) rfl (by simp [z_ci, z_cj, z_cr, z_cx]) rfl ?_
        replace e := z_bd e; obtain ⟨x2013, ex2013, e⟩ := e
        refine z_iald ex2013 dX11_least_226 ?_
        cases e
        exact z_iret dX11_least_227 rfl
      · rw [if_pos c2009] at e
        refine z_iconst (v := -1) dX11_least_213 (by decide) ?_
        refine z_goto (tgt := 227) dX11_least_214 (by decide) ?_
        cases e
        exact z_iret dX11_least_227 rfl
    · rw [if_neg c2004] at e
      refine z_iconst (v := 0) dX11_least_67 (by decide) ?_
      refine z_istore_n (L' := [(3, .int (0:Int32)), (0, z_r l0), (1, .int l1)]) dX11_least_68 rfl (by decide) rfl ?_
      refine z_iconst (v := 0) dX11_least_69 (by decide) ?_
      refine z_istore (L' := [(4, .int (0:Int32)), (3, .int (0:Int32)), (0, z_r l0), (1, .int l1)]) dX11_least_70 (by decide) rfl ?_
      exact z_weak [2, 3, 1, 0] rfl (S_X11_least_72  @hk63 z_F e)
def D_X11_least_54 (k29 : z_H → Option Nat → Int32 → Int32 → Int32 → Option (Int32 × z_H)) (h : z_H) (l0 : Option Nat) (l1 : Int32) (l2 : Int32) (l3 : Int32) (s0 : Option Nat) (s1 : Int32) (s2 : Int32) : Option (Int32 × z_H) :=
  (z_sI h s0 s1 s2).bind fun h2014 =>
  (some (l3 + (1:Int32))).bind fun x2015 =>
  k29 h2014 l0 l1 l2 x2015
set_option maxRecDepth 100000 in
set_option maxHeartbeats 4000000 in
theorem S_X11_least_54 {G : z_G} {l : Launch} {k29 : z_H → Option Nat → Int32 → Int32 → Int32 → Option (Int32 × z_H)} (hk29 : ∀ {h : z_H} {l0 : Option Nat} {l1 : Int32} {l2 : Int32} {l3 : Int32} {res : (Int32 × z_H)}, k29 h l0 l1 l2 l3 = some res → z_Run G l 11 M_X11_least 29 [(0, z_r l0), (1, .int l1), (2, .int l2), (3, .int l3)] [] h res.2 (some (.int res.1))) {h : z_H} {l0 : Option Nat} {l1 : Int32} {l2 : Int32} {l3 : Int32} {s0 : Option Nat} {s1 : Int32} {s2 : Int32} {res : (Int32 × z_H)} (e : D_X11_least_54 k29 h l0 l1 l2 l3 s0 s1 s2 = some res) : z_Run G l 11 M_X11_least 54 [(0, z_r l0), (1, .int l1), (2, .int l2), (3, .int l3)] [.int s2, .int s1, z_r s0] h res.2 (some (.int res.1)) := by
  unfold D_X11_least_54 at e
  replace e := z_bd e; obtain ⟨h2014, eh2014, e⟩ := e
  refine z_iast eh2014 dX11_least_54 ?_
  replace e := z_bd e; obtain ⟨x2015, ex2015, e⟩ := e
  refine z_iinc (q := 3) (v := x2015) (L' := [(3, .int x2015), (0, z_r l0), (1, .int l1), (2, .int l2)]) dX11_least_55 rfl (Option.some.inj ex2015) (by decide) rfl ?_
  refine z_goto (tgt := 29) dX11_least_58 (by decide) ?_
  exact z_weak [1, 2, 3, 0] rfl (hk29 e)
def D_X11_least_29b (k29 : z_H → Option Nat → Int32 → Int32 → Int32 → Option (Int32 × z_H)) (h : z_H) (l0 : Option Nat) (l1 : Int32) (l2 : Int32) (l3 : Int32) : Option (Int32 × z_H) :=
  if (100:Int32) ≤ l3 then
    D_X11_least_63   z_F h l0 l1 (1:Int32)
  else
    (z_gQ 11 h l0 44).bind fun x2017 =>
    if (l3 / (4:Int32)) = l2 then
      D_X11_least_54  k29 h l0 l1 l2 l3 x2017 l3 (0:Int32)
    else
      D_X11_least_54  k29 h l0 l1 l2 l3 x2017 l3 (100000000:Int32)
def D_X11_least_29 (n : Nat) : z_H → Option Nat → Int32 → Int32 → Int32 → Option (Int32 × z_H) := Nat.rec (motive := fun _ => z_H → Option Nat → Int32 → Int32 → Int32 → Option (Int32 × z_H)) (fun _ _ _ _ _ => none) (fun _ k => D_X11_least_29b  k) n
set_option maxRecDepth 100000 in
set_option maxHeartbeats 4000000 in
theorem S_X11_least_29 {G : z_G} {l : Launch}  (n : Nat) : ∀ {h : z_H} {l0 : Option Nat} {l1 : Int32} {l2 : Int32} {l3 : Int32} {res : (Int32 × z_H)}, D_X11_least_29  n h l0 l1 l2 l3 = some res → z_Run G l 11 M_X11_least 29 [(0, z_r l0), (1, .int l1), (2, .int l2), (3, .int l3)] [] h res.2 (some (.int res.1)) := by
  induction n with
  | zero => intro h l0 l1 l2 l3 res e; cases e
  | succ n hk29 =>
    intro h l0 l1 l2 l3 res e
    replace e : D_X11_least_29b  (D_X11_least_29  n) h l0 l1 l2 l3 = some res := e
    unfold D_X11_least_29b at e
    refine z_iload_n 3 dX11_least_29 rfl ?_
    refine z_bipush (v := 100) dX11_least_30 (by decide) ?_
    refine z_icmp_ge (tgt := 61) dX11_least_32 (by decide) (fun c2016 => ?_) (fun c2016 => ?_)
    · rw [if_pos c2016] at e
      refine z_iconst (v := 1) dX11_least_61 (by decide) ?_
      refine z_istore_n (L' := [(3, .int (1:Int32)), (0, z_r l0), (1, .int l1), (2, .int l2)]) dX11_least_62 rfl (by decide) rfl ?_
      exact z_weak [1, 2, 0] rfl (S_X11_least_63   z_F e)
    · rw [if_neg c2016] at e
      refine z_aload_n 0 dX11_least_35 rfl ?_
      replace e := z_bd e; obtain ⟨x2017, ex2017, e⟩ := e
      refine z_getQ ex2017 lk_X11_123 dX11_least_36 ?_
      refine z_iload_n 3 dX11_least_39 rfl ?_
      refine z_iload_n 3 dX11_least_40 rfl ?_
      refine z_iconst (v := 4) dX11_least_41 (by decide) ?_
      refine z_idiv dX11_least_42 (by decide) ?_
      refine z_iload_n 2 dX11_least_43 rfl ?_
      refine z_icmp_ne (tgt := 51) dX11_least_44 (by decide) (fun c2018 => ?_) (fun c2018 => ?_)
      · rw [if_neg c2018] at e
        refine z_ldcw dX11_least_51 kc_X11_489 ?_
        exact z_weak [0, 1, 2, 3] rfl (S_X11_least_54  @hk29 e)
      · rw [if_pos c2018] at e
        refine z_iconst (v := 0) dX11_least_47 (by decide) ?_
        refine z_goto (tgt := 54) dX11_least_48 (by decide) ?_
        exact z_weak [0, 1, 2, 3] rfl (S_X11_least_54  @hk29 e)
def D_X11_least (h : z_H) (l0 : Option Nat) (l1 : Int32) (l2 : Int32) : Option (Int32 × z_H) :=
  (z_pV 11 h l0 0 (.int (0:Int32))).bind fun h2019 =>
  (z_ob 11 h2019 l0).bind fun _ =>
  (D_X11_isPair  h2019 l0 l1).bind fun p2020 =>
  if p2020.1 = 0 then
    some ((-1:Int32), p2020.2)
  else
    (D_X11_isCell  p2020.2 l2).bind fun p2023 =>
    if p2023.1 = 0 then
      some ((-1:Int32), p2023.2)
    else
      (z_ob 11 p2023.2 l0).bind fun _ =>
      (D_X11_laySteps  p2023.2 l0 l1).bind fun p2025 =>
      D_X11_least_29   z_F p2025 l0 l1 l2 (0:Int32)
set_option maxRecDepth 100000 in
set_option maxHeartbeats 4000000 in
theorem S_X11_least {G : z_G} {l : Launch} {h : z_H} {l0 : Option Nat} {l1 : Int32} {l2 : Int32} {res : (Int32 × z_H)} (e : D_X11_least h l0 l1 l2 = some res) : z_Meth G l 11 M_X11_least [z_r l0, .int l1, .int l2] h res.2 (some (.int res.1)) := by
  refine z_Meth.of ck_X11_least.2.2.2.2 (by simp [lg_sl, z_ci, z_cj, z_cr, z_cx]) ck_X11_least.1 ?_
  rw [show lv_args 0 [z_r l0, .int l1, .int l2] = [(0, z_r l0), (1, .int l1), (2, .int l2)] from by simp [lv_args, z_ci, z_cj, z_cr, z_cx]]
  unfold D_X11_least at e
  refine z_aload_n 0 dX11_least_0 rfl ?_
  refine z_iconst (v := 0) dX11_least_1 (by decide) ?_
  replace e := z_bd e; obtain ⟨h2019, eh2019, e⟩ := e
  refine z_putV eh2019 lk_X11_166 wk_11_0 (fun _ => rfl) (fun _ => rfl) dX11_least_2 ?_
  refine z_aload_n 0 dX11_least_5 rfl ?_
  refine z_iload_n 1 dX11_least_6 rfl ?_
  replace e := z_bd e; obtain ⟨o2021, eo2021, e⟩ := e
  replace e := z_bd e; obtain ⟨p2020, ep2020, e⟩ := e
  refine z_cV [.int l1] (S_X11_isPair  ep2020) eo2021 rfl ml_X11_211 ck_X11_isPair vk_X11_isPair dX11_least_7 (by decide) rfl (Nat.zero_le _) rfl ?_
  refine z_if_eq (tgt := 20) dX11_least_10 (by decide) (fun c2022 => ?_) (fun c2022 => ?_)
  · rw [if_pos c2022] at e
    refine z_iconst (v := -1) dX11_least_20 (by decide) ?_
    cases e
    exact z_iret dX11_least_21 rfl
  · rw [if_neg c2022] at e
    refine z_iload_n 2 dX11_least_13 rfl ?_
    replace e := z_bd e; obtain ⟨p2023, ep2023, e⟩ := e
    refine z_cS [.int l2] (S_X11_isCell  ep2023) ml_X11_201 ck_X11_isCell st_X11_isCell dX11_least_14 (by decide) rfl (Nat.zero_le _) rfl ?_
    refine z_if_ne (tgt := 22) dX11_least_17 (by decide) (fun c2024 => ?_) (fun c2024 => ?_)
    · rw [if_neg c2024] at e
      refine z_aload_n 0 dX11_least_22 rfl ?_
      refine z_iload_n 1 dX11_least_23 rfl ?_
      replace e := z_bd e; obtain ⟨o2026, eo2026, e⟩ := e
      replace e := z_bd e; obtain ⟨p2025, ep2025, e⟩ := e
      refine z_cV [.int l1] (S_X11_laySteps  ep2025) eo2026 rfl ml_X11_473 ck_X11_laySteps vk_X11_laySteps dX11_least_24 (by decide) rfl (Nat.zero_le _) rfl ?_
      refine z_iconst (v := 0) dX11_least_27 (by decide) ?_
      refine z_istore_n (L' := [(3, .int (0:Int32)), (0, z_r l0), (1, .int l1), (2, .int l2)]) dX11_least_28 rfl (by decide) rfl ?_
      exact z_weak [1, 2, 3, 0] rfl (S_X11_least_29   z_F e)
    · rw [if_pos c2024] at e
      refine z_iconst (v := -1) dX11_least_20 (by decide) ?_
      cases e
      exact z_iret dX11_least_21 rfl
theorem dX4_actAt_0 : decode cX4_actAt 0 = .ok (.aload_n 0, 1) := by decide +kernel
theorem dX4_actAt_1 : decode cX4_actAt 1 = .ok (.getfield 35, 3) := by decide +kernel
theorem dX4_actAt_4 : decode cX4_actAt 4 = .ok (.istore_n 2, 1) := by decide +kernel
theorem dX4_actAt_5 : decode cX4_actAt 5 = .ok (.iconst 0, 1) := by decide +kernel
theorem dX4_actAt_6 : decode cX4_actAt 6 = .ok (.istore_n 3, 1) := by decide +kernel
theorem dX4_actAt_7 : decode cX4_actAt 7 = .ok (.iload_n 3, 1) := by decide +kernel
theorem dX4_actAt_8 : decode cX4_actAt 8 = .ok (.bipush 100, 2) := by decide +kernel
theorem dX4_actAt_10 : decode cX4_actAt 10 = .ok (.if_icmp .ge 40, 3) := by decide +kernel
theorem dX4_actAt_13 : decode cX4_actAt 13 = .ok (.iload_n 2, 1) := by decide +kernel
theorem dX4_actAt_14 : decode cX4_actAt 14 = .ok (.iconst (-1), 1) := by decide +kernel
theorem dX4_actAt_15 : decode cX4_actAt 15 = .ok (.if_icmp .eq 35, 3) := by decide +kernel
theorem dX4_actAt_18 : decode cX4_actAt 18 = .ok (.aload_n 0, 1) := by decide +kernel
theorem dX4_actAt_19 : decode cX4_actAt 19 = .ok (.getfield 24, 3) := by decide +kernel
theorem dX4_actAt_22 : decode cX4_actAt 22 = .ok (.iload_n 2, 1) := by decide +kernel
theorem dX4_actAt_23 : decode cX4_actAt 23 = .ok (.iaload, 1) := by decide +kernel
theorem dX4_actAt_24 : decode cX4_actAt 24 = .ok (.iload_n 1, 1) := by decide +kernel
theorem dX4_actAt_25 : decode cX4_actAt 25 = .ok (.iconst 1, 1) := by decide +kernel
theorem dX4_actAt_26 : decode cX4_actAt 26 = .ok (.iadd, 1) := by decide +kernel
theorem dX4_actAt_27 : decode cX4_actAt 27 = .ok (.if_icmp .ne 10, 3) := by decide +kernel
theorem dX4_actAt_30 : decode cX4_actAt 30 = .ok (.aload_n 0, 1) := by decide +kernel
theorem dX4_actAt_31 : decode cX4_actAt 31 = .ok (.getfield 21, 3) := by decide +kernel
theorem dX4_actAt_34 : decode cX4_actAt 34 = .ok (.iload_n 2, 1) := by decide +kernel
theorem dX4_actAt_35 : decode cX4_actAt 35 = .ok (.iaload, 1) := by decide +kernel
theorem dX4_actAt_36 : decode cX4_actAt 36 = .ok (.ireturn, 1) := by decide +kernel
theorem dX4_actAt_37 : decode cX4_actAt 37 = .ok (.aload_n 0, 1) := by decide +kernel
theorem dX4_actAt_38 : decode cX4_actAt 38 = .ok (.getfield 18, 3) := by decide +kernel
theorem dX4_actAt_41 : decode cX4_actAt 41 = .ok (.iload_n 2, 1) := by decide +kernel
theorem dX4_actAt_42 : decode cX4_actAt 42 = .ok (.iaload, 1) := by decide +kernel
theorem dX4_actAt_43 : decode cX4_actAt 43 = .ok (.istore_n 2, 1) := by decide +kernel
theorem dX4_actAt_44 : decode cX4_actAt 44 = .ok (.iinc 3 1, 3) := by decide +kernel
theorem dX4_actAt_47 : decode cX4_actAt 47 = .ok (.goto (-40), 3) := by decide +kernel
theorem dX4_actAt_50 : decode cX4_actAt 50 = .ok (.iconst (-1), 1) := by decide +kernel
theorem dX4_actAt_51 : decode cX4_actAt 51 = .ok (.ireturn, 1) := by decide +kernel
def D_X4_actAt_7b (k7 : z_H → Option Nat → Int32 → Int32 → Int32 → Option (Int32 × z_H)) (h : z_H) (l0 : Option Nat) (l1 : Int32) (l2 : Int32) (l3 : Int32) : Option (Int32 × z_H) :=
  if (100:Int32) ≤ l3 then
    some ((-1:Int32), h)
  else
    if l2 = (-1:Int32) then
      some ((-1:Int32), h)
    else
      (z_gQ 4 h l0 5).bind fun x2029 =>
      (z_aI .int h x2029 l2).bind fun x2030 =>
      if x2030 = (l1 + (1:Int32)) then
        (z_gQ 4 h l0 4).bind fun x2035 =>
        (z_aI .int h x2035 l2).bind fun x2036 =>
        some (x2036, h)
      else
        (z_gQ 4 h l0 3).bind fun x2032 =>
        (z_aI .int h x2032 l2).bind fun x2033 =>
        (some (l3 + (1:Int32))).bind fun x2034 =>
        k7 h l0 l1 x2033 x2034
def D_X4_actAt_7 (n : Nat) : z_H → Option Nat → Int32 → Int32 → Int32 → Option (Int32 × z_H) := Nat.rec (motive := fun _ => z_H → Option Nat → Int32 → Int32 → Int32 → Option (Int32 × z_H)) (fun _ _ _ _ _ => none) (fun _ k => D_X4_actAt_7b  k) n
set_option maxRecDepth 100000 in
set_option maxHeartbeats 4000000 in
theorem S_X4_actAt_7 {G : z_G} {l : Launch}  (n : Nat) : ∀ {h : z_H} {l0 : Option Nat} {l1 : Int32} {l2 : Int32} {l3 : Int32} {res : (Int32 × z_H)}, D_X4_actAt_7  n h l0 l1 l2 l3 = some res → z_Run G l 4 M_X4_actAt 7 [(0, z_r l0), (1, .int l1), (2, .int l2), (3, .int l3)] [] h res.2 (some (.int res.1)) := by
  induction n with
  | zero => intro h l0 l1 l2 l3 res e; cases e
  | succ n hk7 =>
    intro h l0 l1 l2 l3 res e
    replace e : D_X4_actAt_7b  (D_X4_actAt_7  n) h l0 l1 l2 l3 = some res := e
    unfold D_X4_actAt_7b at e
    refine z_iload_n 3 dX4_actAt_7 rfl ?_
    refine z_bipush (v := 100) dX4_actAt_8 (by decide) ?_
    refine z_icmp_ge (tgt := 50) dX4_actAt_10 (by decide) (fun c2027 => ?_) (fun c2027 => ?_)
    · rw [if_pos c2027] at e
      refine z_iconst (v := -1) dX4_actAt_50 (by decide) ?_
      cases e
      exact z_iret dX4_actAt_51 rfl
    · rw [if_neg c2027] at e
      refine z_iload_n 2 dX4_actAt_13 rfl ?_
      refine z_iconst (v := -1) dX4_actAt_14 (by decide) ?_
      refine z_icmp_eq (tgt := 50) dX4_actAt_15 (by decide) (fun c2028 => ?_) (fun c2028 => ?_)
      · rw [if_pos c2028] at e
        refine z_iconst (v := -1) dX4_actAt_50 (by decide) ?_
        cases e
        exact z_iret dX4_actAt_51 rfl
      · rw [if_neg c2028] at e
        refine z_aload_n 0 dX4_actAt_18 rfl ?_
        replace e := z_bd e; obtain ⟨x2029, ex2029, e⟩ := e
        refine z_getQ ex2029 lk_X4_24 dX4_actAt_19 ?_
        refine z_iload_n 2 dX4_actAt_22 rfl ?_
        replace e := z_bd e; obtain ⟨x2030, ex2030, e⟩ := e
        refine z_iald ex2030 dX4_actAt_23 ?_
        refine z_iload_n 1 dX4_actAt_24 rfl ?_
        refine z_iconst (v := 1) dX4_actAt_25 (by decide) ?_
        refine z_iadd dX4_actAt_26 ?_
        refine z_icmp_ne (tgt := 37) dX4_actAt_27 (by decide) (fun c2031 => ?_) (fun c2031 => ?_)
        · rw [if_neg c2031] at e
          refine z_aload_n 0 dX4_actAt_37 rfl ?_
          replace e := z_bd e; obtain ⟨x2032, ex2032, e⟩ := e
          refine z_getQ ex2032 lk_X4_18 dX4_actAt_38 ?_
          refine z_iload_n 2 dX4_actAt_41 rfl ?_
          replace e := z_bd e; obtain ⟨x2033, ex2033, e⟩ := e
          refine z_iald ex2033 dX4_actAt_42 ?_
          refine z_istore_n (L' := [(2, .int x2033), (0, z_r l0), (1, .int l1), (3, .int l3)]) dX4_actAt_43 rfl (by decide) rfl ?_
          replace e := z_bd e; obtain ⟨x2034, ex2034, e⟩ := e
          refine z_iinc (q := 3) (v := x2034) (L' := [(3, .int x2034), (2, .int x2033), (0, z_r l0), (1, .int l1)]) dX4_actAt_44 rfl (Option.some.inj ex2034) (by decide) rfl ?_
          refine z_goto (tgt := 7) dX4_actAt_47 (by decide) ?_
          exact z_weak [2, 3, 1, 0] rfl (hk7 e)
        · rw [if_pos c2031] at e
          refine z_aload_n 0 dX4_actAt_30 rfl ?_
          replace e := z_bd e; obtain ⟨x2035, ex2035, e⟩ := e
          refine z_getQ ex2035 lk_X4_21 dX4_actAt_31 ?_
          refine z_iload_n 2 dX4_actAt_34 rfl ?_
          replace e := z_bd e; obtain ⟨x2036, ex2036, e⟩ := e
          refine z_iald ex2036 dX4_actAt_35 ?_
          cases e
          exact z_iret dX4_actAt_36 rfl
def D_X4_actAt (h : z_H) (l0 : Option Nat) (l1 : Int32) : Option (Int32 × z_H) :=
  (z_gI 4 h l0 8).bind fun x2037 =>
  D_X4_actAt_7   z_F h l0 l1 x2037 (0:Int32)
set_option maxRecDepth 100000 in
set_option maxHeartbeats 4000000 in
theorem S_X4_actAt {G : z_G} {l : Launch} {h : z_H} {l0 : Option Nat} {l1 : Int32} {res : (Int32 × z_H)} (e : D_X4_actAt h l0 l1 = some res) : z_Meth G l 4 M_X4_actAt [z_r l0, .int l1] h res.2 (some (.int res.1)) := by
  refine z_Meth.of ck_X4_actAt.2.2.2.2 (by simp [lg_sl, z_ci, z_cj, z_cr, z_cx]) ck_X4_actAt.1 ?_
  rw [show lv_args 0 [z_r l0, .int l1] = [(0, z_r l0), (1, .int l1)] from by simp [lv_args, z_ci, z_cj, z_cr, z_cx]]
  unfold D_X4_actAt at e
  refine z_aload_n 0 dX4_actAt_0 rfl ?_
  replace e := z_bd e; obtain ⟨x2037, ex2037, e⟩ := e
  refine z_getI ex2037 lk_X4_35 dX4_actAt_1 ?_
  refine z_istore_n (L' := [(2, .int x2037), (0, z_r l0), (1, .int l1)]) dX4_actAt_4 rfl (by decide) rfl ?_
  refine z_iconst (v := 0) dX4_actAt_5 (by decide) ?_
  refine z_istore_n (L' := [(3, .int (0:Int32)), (2, .int x2037), (0, z_r l0), (1, .int l1)]) dX4_actAt_6 rfl (by decide) rfl ?_
  exact z_weak [2, 3, 1, 0] rfl (S_X4_actAt_7   z_F e)
theorem dX10_way_0 : decode cX10_way 0 = .ok (.aload_n 0, 1) := by decide +kernel
theorem dX10_way_1 : decode cX10_way 1 = .ok (.getfield 12, 3) := by decide +kernel
theorem dX10_way_4 : decode cX10_way 4 = .ok (.iload_n 1, 1) := by decide +kernel
theorem dX10_way_5 : decode cX10_way 5 = .ok (.invokevirtual 121, 3) := by decide +kernel
theorem dX10_way_8 : decode cX10_way 8 = .ok (.ifCond .eq 15, 3) := by decide +kernel
theorem dX10_way_11 : decode cX10_way 11 = .ok (.iload_n 2, 1) := by decide +kernel
theorem dX10_way_12 : decode cX10_way 12 = .ok (.invokestatic 145, 3) := by decide +kernel
theorem dX10_way_15 : decode cX10_way 15 = .ok (.ifCond .eq 8, 3) := by decide +kernel
theorem dX10_way_18 : decode cX10_way 18 = .ok (.iload_n 3, 1) := by decide +kernel
theorem dX10_way_19 : decode cX10_way 19 = .ok (.iconst (-1), 1) := by decide +kernel
theorem dX10_way_20 : decode cX10_way 20 = .ok (.if_icmp .ge 5, 3) := by decide +kernel
theorem dX10_way_23 : decode cX10_way 23 = .ok (.iconst (-1), 1) := by decide +kernel
theorem dX10_way_24 : decode cX10_way 24 = .ok (.ireturn, 1) := by decide +kernel
theorem dX10_way_25 : decode cX10_way 25 = .ok (.aload_n 0, 1) := by decide +kernel
theorem dX10_way_26 : decode cX10_way 26 = .ok (.getfield 69, 3) := by decide +kernel
theorem dX10_way_29 : decode cX10_way 29 = .ok (.aload_n 0, 1) := by decide +kernel
theorem dX10_way_30 : decode cX10_way 30 = .ok (.getfield 12, 3) := by decide +kernel
theorem dX10_way_33 : decode cX10_way 33 = .ok (.iload_n 1, 1) := by decide +kernel
theorem dX10_way_34 : decode cX10_way 34 = .ok (.iload_n 2, 1) := by decide +kernel
theorem dX10_way_35 : decode cX10_way 35 = .ok (.invokevirtual 242, 3) := by decide +kernel
theorem dX10_way_38 : decode cX10_way 38 = .ok (.istore 4, 2) := by decide +kernel
theorem dX10_way_40 : decode cX10_way 40 = .ok (.iload_n 3, 1) := by decide +kernel
theorem dX10_way_41 : decode cX10_way 41 = .ok (.iconst (-1), 1) := by decide +kernel
theorem dX10_way_42 : decode cX10_way 42 = .ok (.if_icmp .ne 6, 3) := by decide +kernel
theorem dX10_way_45 : decode cX10_way 45 = .ok (.iload 4, 2) := by decide +kernel
theorem dX10_way_47 : decode cX10_way 47 = .ok (.ireturn, 1) := by decide +kernel
theorem dX10_way_48 : decode cX10_way 48 = .ok (.iload_n 3, 1) := by decide +kernel
theorem dX10_way_49 : decode cX10_way 49 = .ok (.iload 4, 2) := by decide +kernel
theorem dX10_way_51 : decode cX10_way 51 = .ok (.if_icmp .ge 14, 3) := by decide +kernel
theorem dX10_way_54 : decode cX10_way 54 = .ok (.aload_n 0, 1) := by decide +kernel
theorem dX10_way_55 : decode cX10_way 55 = .ok (.getfield 69, 3) := by decide +kernel
theorem dX10_way_58 : decode cX10_way 58 = .ok (.iload_n 3, 1) := by decide +kernel
theorem dX10_way_59 : decode cX10_way 59 = .ok (.invokevirtual 245, 3) := by decide +kernel
theorem dX10_way_62 : decode cX10_way 62 = .ok (.goto 4, 3) := by decide +kernel
theorem dX10_way_65 : decode cX10_way 65 = .ok (.iconst (-1), 1) := by decide +kernel
theorem dX10_way_66 : decode cX10_way 66 = .ok (.ireturn, 1) := by decide +kernel
def D_X10_way (h : z_H) (l0 : Option Nat) (l1 : Int32) (l2 : Int32) (l3 : Int32) : Option (Int32 × z_H) :=
  (z_gQ 10 h l0 0).bind fun x2038 =>
  (z_ob 9 h x2038).bind fun _ =>
  (D_X9_hasPair  h x2038 l1).bind fun p2039 =>
  if p2039.1 = 0 then
    some ((-1:Int32), p2039.2)
  else
    (D_X10_isCell  p2039.2 l2).bind fun p2042 =>
    if p2042.1 = 0 then
      some ((-1:Int32), p2042.2)
    else
      if (-1:Int32) ≤ l3 then
        (z_gQ 10 p2042.2 l0 9).bind fun x2045 =>
        (z_gQ 10 p2042.2 l0 0).bind fun x2046 =>
        (z_ob 4 p2042.2 x2045).bind fun _ =>
        (D_X4_shortest  p2042.2 x2045 x2046 l1 l2).bind fun p2047 =>
        if l3 = (-1:Int32) then
          some (p2047.1, p2047.2)
        else
          if p2047.1 ≤ l3 then
            some ((-1:Int32), p2047.2)
          else
            (z_gQ 10 p2047.2 l0 9).bind fun x2051 =>
            (z_ob 4 p2047.2 x2051).bind fun _ =>
            (D_X4_actAt  p2047.2 x2051 l3).bind fun p2052 =>
            some (p2052.1, p2052.2)
      else
        some ((-1:Int32), p2042.2)
set_option maxRecDepth 100000 in
set_option maxHeartbeats 4000000 in
theorem S_X10_way {G : z_G} {l : Launch} {h : z_H} {l0 : Option Nat} {l1 : Int32} {l2 : Int32} {l3 : Int32} {res : (Int32 × z_H)} (e : D_X10_way h l0 l1 l2 l3 = some res) : z_Meth G l 10 M_X10_way [z_r l0, .int l1, .int l2, .int l3] h res.2 (some (.int res.1)) := by
  refine z_Meth.of ck_X10_way.2.2.2.2 (by simp [lg_sl, z_ci, z_cj, z_cr, z_cx]) ck_X10_way.1 ?_
  rw [show lv_args 0 [z_r l0, .int l1, .int l2, .int l3] = [(0, z_r l0), (1, .int l1), (2, .int l2), (3, .int l3)] from by simp [lv_args, z_ci, z_cj, z_cr, z_cx]]
  unfold D_X10_way at e
  refine z_aload_n 0 dX10_way_0 rfl ?_
  replace e := z_bd e; obtain ⟨x2038, ex2038, e⟩ := e
  refine z_getQ ex2038 lk_X10_12 dX10_way_1 ?_
  refine z_iload_n 1 dX10_way_4 rfl ?_
  replace e := z_bd e; obtain ⟨o2040, eo2040, e⟩ := e
  replace e := z_bd e; obtain ⟨p2039, ep2039, e⟩ := e
  refine z_cV [.int l1] (S_X9_hasPair  ep2039) eo2040 rfl ml_X10_121 ck_X9_hasPair vk_X9_hasPair dX10_way_5 (by decide) rfl (Nat.zero_le _) rfl ?_
  refine z_if_eq (tgt := 23) dX10_way_8 (by decide) (fun c2041 => ?_) (fun c2041 => ?_)
  · rw [if_pos c2041] at e
    refine z_iconst (v := -1) dX10_way_23 (by decide) ?_
    cases e
    exact z_iret dX10_way_24 rfl
  · rw [if_neg c2041] at e
    refine z_iload_n 2 dX10_way_11 rfl ?_
    replace e := z_bd e; obtain ⟨p2042, ep2042, e⟩ := e
    refine z_cS [.int l2] (S_X10_isCell  ep2042) ml_X10_145 ck_X10_isCell st_X10_isCell dX10_way_12 (by decide) rfl (Nat.zero_le _) rfl ?_
    refine z_if_eq (tgt := 23) dX10_way_15 (by decide) (fun c2043 => ?_) (fun c2043 => ?_)
    · rw [if_pos c2043] at e
      refine z_iconst (v := -1) dX10_way_23 (by decide) ?_
      cases e
      exact z_iret dX10_way_24 rfl
    · rw [if_neg c2043] at e
      refine z_iload_n 3 dX10_way_18 rfl ?_
      refine z_iconst (v := -1) dX10_way_19 (by decide) ?_
      refine z_icmp_ge (tgt := 25) dX10_way_20 (by decide) (fun c2044 => ?_) (fun c2044 => ?_)
      · rw [if_pos c2044] at e
        refine z_aload_n 0 dX10_way_25 rfl ?_
        replace e := z_bd e; obtain ⟨x2045, ex2045, e⟩ := e
        refine z_getQ ex2045 lk_X10_69 dX10_way_26 ?_
        refine z_aload_n 0 dX10_way_29 rfl ?_
        replace e := z_bd e; obtain ⟨x2046, ex2046, e⟩ := e
        refine z_getQ ex2046 lk_X10_12 dX10_way_30 ?_
        refine z_iload_n 1 dX10_way_33 rfl ?_
        refine z_iload_n 2 dX10_way_34 rfl ?_
        replace e := z_bd e; obtain ⟨o2048, eo2048, e⟩ := e
        replace e := z_bd e; obtain ⟨p2047, ep2047, e⟩ := e
        refine z_cV [z_r x2046, .int l1, .int l2] (S_X4_shortest  ep2047) eo2048 rfl ml_X10_242 ck_X4_shortest vk_X4_shortest dX10_way_35 (by decide) rfl (Nat.zero_le _) rfl ?_
        refine z_istore (L' := [(4, .int p2047.1), (0, z_r l0), (1, .int l1), (2, .int l2), (3, .int l3)]) dX10_way_38 (by decide) rfl ?_
        refine z_iload_n 4 dX10_way_40 rfl ?_
        refine z_iconst (v := -1) dX10_way_41 (by decide) ?_
        refine z_icmp_ne (tgt := 48) dX10_way_42 (by decide) (fun c2049 => ?_) (fun c2049 => ?_)
        · rw [if_neg c2049] at e
          refine z_iload_n 4 dX10_way_48 rfl ?_
          refine z_iload 0 dX10_way_49 rfl ?_
          refine z_icmp_ge (tgt := 65) dX10_way_51 (by decide) (fun c2050 => ?_) (fun c2050 => ?_)
          · rw [if_pos c2050] at e
            refine z_iconst (v := -1) dX10_way_65 (by decide) ?_
            cases e
            exact z_iret dX10_way_66 rfl
          · rw [if_neg c2050] at e
            refine z_aload_n 1 dX10_way_54 rfl ?_
            replace e := z_bd e; obtain ⟨x2051, ex2051, e⟩ := e
            refine z_getQ ex2051 lk_X10_69 dX10_way_55 ?_
            refine z_iload_n 4 dX10_way_58 rfl ?_
            replace e := z_bd e; obtain ⟨o2053, eo2053, e⟩ := e
            replace e := z_bd e; obtain ⟨p2052, ep2052, e⟩ := e
            refine z_cV [.int l3] (S_X4_actAt  ep2052) eo2053 rfl ml_X10_245 ck_X4_actAt vk_X4_actAt dX10_way_59 (by decide) rfl (Nat.zero_le _) rfl ?_
            refine z_goto (tgt := 66) dX10_way_62 (by decide) ?_
            cases e
            exact z_iret dX10_way_66 rfl
        · rw [if_pos c2049] at e
          refine z_iload 0 dX10_way_45 rfl ?_
          cases e
          exact z_iret dX10_way_47 rfl
      · rw [if_neg c2044] at e
        refine z_iconst (v := -1) dX10_way_23 (by decide) ?_
        cases e
        exact z_iret dX10_way_24 rfl
theorem dX11_way_0 : decode cX11_way 0 = .ok (.aload_n 0, 1) := by decide +kernel
theorem dX11_way_1 : decode cX11_way 1 = .ok (.iconst 0, 1) := by decide +kernel
theorem dX11_way_2 : decode cX11_way 2 = .ok (.putfield 166, 3) := by decide +kernel
theorem dX11_way_5 : decode cX11_way 5 = .ok (.aload_n 0, 1) := by decide +kernel
theorem dX11_way_6 : decode cX11_way 6 = .ok (.iload_n 1, 1) := by decide +kernel
theorem dX11_way_7 : decode cX11_way 7 = .ok (.invokevirtual 211, 3) := by decide +kernel
theorem dX11_way_10 : decode cX11_way 10 = .ok (.ifCond .eq 15, 3) := by decide +kernel
theorem dX11_way_13 : decode cX11_way 13 = .ok (.iload_n 2, 1) := by decide +kernel
theorem dX11_way_14 : decode cX11_way 14 = .ok (.invokestatic 201, 3) := by decide +kernel
theorem dX11_way_17 : decode cX11_way 17 = .ok (.ifCond .eq 8, 3) := by decide +kernel
theorem dX11_way_20 : decode cX11_way 20 = .ok (.iload_n 3, 1) := by decide +kernel
theorem dX11_way_21 : decode cX11_way 21 = .ok (.iconst (-1), 1) := by decide +kernel
theorem dX11_way_22 : decode cX11_way 22 = .ok (.if_icmp .ge 5, 3) := by decide +kernel
theorem dX11_way_25 : decode cX11_way 25 = .ok (.iconst (-1), 1) := by decide +kernel
theorem dX11_way_26 : decode cX11_way 26 = .ok (.ireturn, 1) := by decide +kernel
theorem dX11_way_27 : decode cX11_way 27 = .ok (.aload_n 0, 1) := by decide +kernel
theorem dX11_way_28 : decode cX11_way 28 = .ok (.iload_n 1, 1) := by decide +kernel
theorem dX11_way_29 : decode cX11_way 29 = .ok (.iload_n 2, 1) := by decide +kernel
theorem dX11_way_30 : decode cX11_way 30 = .ok (.invokevirtual 493, 3) := by decide +kernel
theorem dX11_way_33 : decode cX11_way 33 = .ok (.aload_n 0, 1) := by decide +kernel
theorem dX11_way_34 : decode cX11_way 34 = .ok (.iload_n 1, 1) := by decide +kernel
theorem dX11_way_35 : decode cX11_way 35 = .ok (.invokevirtual 496, 3) := by decide +kernel
theorem dX11_way_38 : decode cX11_way 38 = .ok (.istore 4, 2) := by decide +kernel
theorem dX11_way_40 : decode cX11_way 40 = .ok (.aload_n 0, 1) := by decide +kernel
theorem dX11_way_41 : decode cX11_way 41 = .ok (.getfield 120, 3) := by decide +kernel
theorem dX11_way_44 : decode cX11_way 44 = .ok (.iload 4, 2) := by decide +kernel
theorem dX11_way_46 : decode cX11_way 46 = .ok (.iaload, 1) := by decide +kernel
theorem dX11_way_47 : decode cX11_way 47 = .ok (.ldc_w 489, 3) := by decide +kernel
theorem dX11_way_50 : decode cX11_way 50 = .ok (.if_icmp .eq 14, 3) := by decide +kernel
theorem dX11_way_53 : decode cX11_way 53 = .ok (.iload_n 3, 1) := by decide +kernel
theorem dX11_way_54 : decode cX11_way 54 = .ok (.aload_n 0, 1) := by decide +kernel
theorem dX11_way_55 : decode cX11_way 55 = .ok (.getfield 120, 3) := by decide +kernel
theorem dX11_way_58 : decode cX11_way 58 = .ok (.iload 4, 2) := by decide +kernel
theorem dX11_way_60 : decode cX11_way 60 = .ok (.iaload, 1) := by decide +kernel
theorem dX11_way_61 : decode cX11_way 61 = .ok (.if_icmp .lt 5, 3) := by decide +kernel
theorem dX11_way_64 : decode cX11_way 64 = .ok (.iconst (-1), 1) := by decide +kernel
theorem dX11_way_65 : decode cX11_way 65 = .ok (.ireturn, 1) := by decide +kernel
theorem dX11_way_66 : decode cX11_way 66 = .ok (.iload_n 3, 1) := by decide +kernel
theorem dX11_way_67 : decode cX11_way 67 = .ok (.iconst (-1), 1) := by decide +kernel
theorem dX11_way_68 : decode cX11_way 68 = .ok (.if_icmp .ne 11, 3) := by decide +kernel
theorem dX11_way_71 : decode cX11_way 71 = .ok (.aload_n 0, 1) := by decide +kernel
theorem dX11_way_72 : decode cX11_way 72 = .ok (.getfield 120, 3) := by decide +kernel
theorem dX11_way_75 : decode cX11_way 75 = .ok (.iload 4, 2) := by decide +kernel
theorem dX11_way_77 : decode cX11_way 77 = .ok (.iaload, 1) := by decide +kernel
theorem dX11_way_78 : decode cX11_way 78 = .ok (.ireturn, 1) := by decide +kernel
theorem dX11_way_79 : decode cX11_way 79 = .ok (.iconst (-1), 1) := by decide +kernel
theorem dX11_way_80 : decode cX11_way 80 = .ok (.istore 5, 2) := by decide +kernel
theorem dX11_way_82 : decode cX11_way 82 = .ok (.iconst 0, 1) := by decide +kernel
theorem dX11_way_83 : decode cX11_way 83 = .ok (.istore 6, 2) := by decide +kernel
theorem dX11_way_85 : decode cX11_way 85 = .ok (.iload 6, 2) := by decide +kernel
theorem dX11_way_87 : decode cX11_way 87 = .ok (.iload_n 3, 1) := by decide +kernel
theorem dX11_way_88 : decode cX11_way 88 = .ok (.if_icmp .gt 65, 3) := by decide +kernel
theorem dX11_way_91 : decode cX11_way 91 = .ok (.iconst 0, 1) := by decide +kernel
theorem dX11_way_92 : decode cX11_way 92 = .ok (.istore 5, 2) := by decide +kernel
theorem dX11_way_94 : decode cX11_way 94 = .ok (.aload_n 0, 1) := by decide +kernel
theorem dX11_way_95 : decode cX11_way 95 = .ok (.iload 4, 2) := by decide +kernel
theorem dX11_way_97 : decode cX11_way 97 = .ok (.iload 5, 2) := by decide +kernel
theorem dX11_way_99 : decode cX11_way 99 = .ok (.invokevirtual 490, 3) := by decide +kernel
theorem dX11_way_102 : decode cX11_way 102 = .ok (.iconst (-1), 1) := by decide +kernel
theorem dX11_way_103 : decode cX11_way 103 = .ok (.if_icmp .eq 28, 3) := by decide +kernel
theorem dX11_way_106 : decode cX11_way 106 = .ok (.aload_n 0, 1) := by decide +kernel
theorem dX11_way_107 : decode cX11_way 107 = .ok (.getfield 120, 3) := by decide +kernel
theorem dX11_way_110 : decode cX11_way 110 = .ok (.aload_n 0, 1) := by decide +kernel
theorem dX11_way_111 : decode cX11_way 111 = .ok (.iload 4, 2) := by decide +kernel
theorem dX11_way_113 : decode cX11_way 113 = .ok (.iload 5, 2) := by decide +kernel
theorem dX11_way_115 : decode cX11_way 115 = .ok (.invokevirtual 490, 3) := by decide +kernel
theorem dX11_way_118 : decode cX11_way 118 = .ok (.iaload, 1) := by decide +kernel
theorem dX11_way_119 : decode cX11_way 119 = .ok (.aload_n 0, 1) := by decide +kernel
theorem dX11_way_120 : decode cX11_way 120 = .ok (.getfield 120, 3) := by decide +kernel
theorem dX11_way_123 : decode cX11_way 123 = .ok (.iload 4, 2) := by decide +kernel
theorem dX11_way_125 : decode cX11_way 125 = .ok (.iaload, 1) := by decide +kernel
theorem dX11_way_126 : decode cX11_way 126 = .ok (.iconst 1, 1) := by decide +kernel
theorem dX11_way_127 : decode cX11_way 127 = .ok (.isub, 1) := by decide +kernel
theorem dX11_way_128 : decode cX11_way 128 = .ok (.if_icmp .eq 9, 3) := by decide +kernel
theorem dX11_way_131 : decode cX11_way 131 = .ok (.iinc 5 1, 3) := by decide +kernel
theorem dX11_way_134 : decode cX11_way 134 = .ok (.goto (-40), 3) := by decide +kernel
theorem dX11_way_137 : decode cX11_way 137 = .ok (.aload_n 0, 1) := by decide +kernel
theorem dX11_way_138 : decode cX11_way 138 = .ok (.iload 4, 2) := by decide +kernel
theorem dX11_way_140 : decode cX11_way 140 = .ok (.iload 5, 2) := by decide +kernel
theorem dX11_way_142 : decode cX11_way 142 = .ok (.invokevirtual 490, 3) := by decide +kernel
theorem dX11_way_145 : decode cX11_way 145 = .ok (.istore 4, 2) := by decide +kernel
theorem dX11_way_147 : decode cX11_way 147 = .ok (.iinc 6 1, 3) := by decide +kernel
theorem dX11_way_150 : decode cX11_way 150 = .ok (.goto (-65), 3) := by decide +kernel
theorem dX11_way_153 : decode cX11_way 153 = .ok (.iload 5, 2) := by decide +kernel
theorem dX11_way_155 : decode cX11_way 155 = .ok (.ireturn, 1) := by decide +kernel
def D_X11_way_131 (k85 : z_H → Option Nat → Int32 → Int32 → Int32 → Int32 → Option (Int32 × z_H)) (k94 : z_H → Option Nat → Int32 → Int32 → Int32 → Int32 → Option (Int32 × z_H)) (h : z_H) (l0 : Option Nat) (l3 : Int32) (l4 : Int32) (l5 : Int32) (l6 : Int32) : Option (Int32 × z_H) :=
  (some (l5 + (1:Int32))).bind fun x2054 =>
  k94 h l0 l3 l4 x2054 l6
set_option maxRecDepth 100000 in
set_option maxHeartbeats 4000000 in
theorem S_X11_way_131 {G : z_G} {l : Launch} {k85 : z_H → Option Nat → Int32 → Int32 → Int32 → Int32 → Option (Int32 × z_H)} {k94 : z_H → Option Nat → Int32 → Int32 → Int32 → Int32 → Option (Int32 × z_H)} (hk85 : ∀ {h : z_H} {l0 : Option Nat} {l3 : Int32} {l4 : Int32} {l5 : Int32} {l6 : Int32} {res : (Int32 × z_H)}, k85 h l0 l3 l4 l5 l6 = some res → z_Run G l 12 M_X11_way 85 [(0, z_r l0), (3, .int l3), (4, .int l4), (5, .int l5), (6, .int l6)] [] h res.2 (some (.int res.1))) (hk94 : ∀ {h : z_H} {l0 : Option Nat} {l3 : Int32} {l4 : Int32} {l5 : Int32} {l6 : Int32} {res : (Int32 × z_H)}, k94 h l0 l3 l4 l5 l6 = some res → z_Run G l 12 M_X11_way 94 [(0, z_r l0), (3, .int l3), (4, .int l4), (5, .int l5), (6, .int l6)] [] h res.2 (some (.int res.1))) {h : z_H} {l0 : Option Nat} {l3 : Int32} {l4 : Int32} {l5 : Int32} {l6 : Int32} {res : (Int32 × z_H)} (e : D_X11_way_131 k85 k94 h l0 l3 l4 l5 l6 = some res) : z_Run G l 12 M_X11_way 131 [(0, z_r l0), (3, .int l3), (4, .int l4), (5, .int l5), (6, .int l6)] [] h res.2 (some (.int res.1)) := by
  unfold D_X11_way_131 at e
  replace e := z_bd e; obtain ⟨x2054, ex2054, e⟩ := e
  refine z_iinc (q := 3) (v := x2054) (L' := [(5, .int x2054), (0, z_r l0), (3, .int l3), (4, .int l4), (6, .int l6)]) dX11_way_131 rfl (Option.some.inj ex2054) (by decide) rfl ?_
  refine z_goto (tgt := 94) dX11_way_134 (by decide) ?_
  exact z_weak [1, 2, 3, 0, 4] rfl (hk94 e)
def D_X11_way_94b (k85 : z_H → Option Nat → Int32 → Int32 → Int32 → Int32 → Option (Int32 × z_H)) (k94 : z_H → Option Nat → Int32 → Int32 → Int32 → Int32 → Option (Int32 × z_H)) (h : z_H) (l0 : Option Nat) (l3 : Int32) (l4 : Int32) (l5 : Int32) (l6 : Int32) : Option (Int32 × z_H) :=
  (z_ob 11 h l0).bind fun _ =>
  (D_X11_acted  h l0 l4 l5).bind fun p2055 =>
  if p2055.1 = (-1:Int32) then
    D_X11_way_131  k85 k94 p2055.2 l0 l3 l4 l5 l6
  else
    (z_gQ 11 p2055.2 l0 43).bind fun x2058 =>
    (z_ob 11 p2055.2 l0).bind fun _ =>
    (D_X11_acted  p2055.2 l0 l4 l5).bind fun p2059 =>
    (z_aI .int p2059.2 x2058 p2059.1).bind fun x2061 =>
    (z_gQ 11 p2059.2 l0 43).bind fun x2062 =>
    (z_aI .int p2059.2 x2062 l4).bind fun x2063 =>
    if x2061 = (x2063 - (1:Int32)) then
      (z_ob 11 p2059.2 l0).bind fun _ =>
      (D_X11_acted  p2059.2 l0 l4 l5).bind fun p2065 =>
      (some (l6 + (1:Int32))).bind fun x2067 =>
      k85 p2065.2 l0 l3 p2065.1 l5 x2067
    else
      D_X11_way_131  k85 k94 p2059.2 l0 l3 l4 l5 l6
def D_X11_way_94 (k85 : z_H → Option Nat → Int32 → Int32 → Int32 → Int32 → Option (Int32 × z_H)) (n : Nat) : z_H → Option Nat → Int32 → Int32 → Int32 → Int32 → Option (Int32 × z_H) := Nat.rec (motive := fun _ => z_H → Option Nat → Int32 → Int32 → Int32 → Int32 → Option (Int32 × z_H)) (fun _ _ _ _ _ _ => none) (fun _ k => D_X11_way_94b k85 k) n
set_option maxRecDepth 100000 in
set_option maxHeartbeats 4000000 in
theorem S_X11_way_94 {G : z_G} {l : Launch} {k85 : z_H → Option Nat → Int32 → Int32 → Int32 → Int32 → Option (Int32 × z_H)} (hk85 : ∀ {h : z_H} {l0 : Option Nat} {l3 : Int32} {l4 : Int32} {l5 : Int32} {l6 : Int32} {res : (Int32 × z_H)}, k85 h l0 l3 l4 l5 l6 = some res → z_Run G l 12 M_X11_way 85 [(0, z_r l0), (3, .int l3), (4, .int l4), (5, .int l5), (6, .int l6)] [] h res.2 (some (.int res.1))) (n : Nat) : ∀ {h : z_H} {l0 : Option Nat} {l3 : Int32} {l4 : Int32} {l5 : Int32} {l6 : Int32} {res : (Int32 × z_H)}, D_X11_way_94 k85 n h l0 l3 l4 l5 l6 = some res → z_Run G l 12 M_X11_way 94 [(0, z_r l0), (3, .int l3), (4, .int l4), (5, .int l5), (6, .int l6)] [] h res.2 (some (.int res.1)) := by
  induction n with
  | zero => intro h l0 l3 l4 l5 l6 res e; cases e
  | succ n hk94 =>
    intro h l0 l3 l4 l5 l6 res e
    replace e : D_X11_way_94b k85 (D_X11_way_94 k85 n) h l0 l3 l4 l5 l6 = some res := e
    unfold D_X11_way_94b at e
    refine z_aload_n 0 dX11_way_94 rfl ?_
    refine z_iload 2 dX11_way_95 rfl ?_
    refine z_iload 3 dX11_way_97 rfl ?_
    replace e := z_bd e; obtain ⟨o2056, eo2056, e⟩ := e
    replace e := z_bd e; obtain ⟨p2055, ep2055, e⟩ := e
    refine z_cV [.int l4, .int l5] (S_X11_acted  ep2055) eo2056 rfl ml_X11_490 ck_X11_acted vk_X11_acted dX11_way_99 (by decide) rfl (Nat.zero_le _) rfl ?_
    refine z_iconst (v := -1) dX11_way_102 (by decide) ?_
    refine z_icmp_eq (tgt := 131) dX11_way_103 (by decide) (fun c2057 => ?_) (fun c2057 => ?_)
    · rw [if_pos c2057] at e
      exact z_weak [0, 1, 2, 3, 4] rfl (S_X11_way_131  @hk85 @hk94 e)
    · rw [if_neg c2057] at e
      refine z_aload_n 0 dX11_way_106 rfl ?_
      replace e := z_bd e; obtain ⟨x2058, ex2058, e⟩ := e
      refine z_getQ ex2058 lk_X11_120 dX11_way_107 ?_
      refine z_aload_n 0 dX11_way_110 rfl ?_
      refine z_iload 2 dX11_way_111 rfl ?_
      refine z_iload 3 dX11_way_113 rfl ?_
      replace e := z_bd e; obtain ⟨o2060, eo2060, e⟩ := e
      replace e := z_bd e; obtain ⟨p2059, ep2059, e⟩ := e
      refine z_cV [.int l4, .int l5] (S_X11_acted  ep2059) eo2060 rfl ml_X11_490 ck_X11_acted vk_X11_acted dX11_way_115 (by decide) rfl (by simp [z_ci, z_cj, z_cr, z_cx]) rfl ?_
      replace e := z_bd e; obtain ⟨x2061, ex2061, e⟩ := e
      refine z_iald ex2061 dX11_way_118 ?_
      refine z_aload_n 0 dX11_way_119 rfl ?_
      replace e := z_bd e; obtain ⟨x2062, ex2062, e⟩ := e
      refine z_getQ ex2062 lk_X11_120 dX11_way_120 ?_
      refine z_iload 2 dX11_way_123 rfl ?_
      replace e := z_bd e; obtain ⟨x2063, ex2063, e⟩ := e
      refine z_iald ex2063 dX11_way_125 ?_
      refine z_iconst (v := 1) dX11_way_126 (by decide) ?_
      refine z_isub dX11_way_127 ?_
      refine z_icmp_eq (tgt := 137) dX11_way_128 (by decide) (fun c2064 => ?_) (fun c2064 => ?_)
      · rw [if_pos c2064] at e
        refine z_aload_n 0 dX11_way_137 rfl ?_
        refine z_iload 2 dX11_way_138 rfl ?_
        refine z_iload 3 dX11_way_140 rfl ?_
        replace e := z_bd e; obtain ⟨o2066, eo2066, e⟩ := e
        replace e := z_bd e; obtain ⟨p2065, ep2065, e⟩ := e
        refine z_cV [.int l4, .int l5] (S_X11_acted  ep2065) eo2066 rfl ml_X11_490 ck_X11_acted vk_X11_acted dX11_way_142 (by decide) rfl (Nat.zero_le _) rfl ?_
        refine z_istore (L' := [(4, .int p2065.1), (0, z_r l0), (3, .int l3), (5, .int l5), (6, .int l6)]) dX11_way_145 (by decide) rfl ?_
        replace e := z_bd e; obtain ⟨x2067, ex2067, e⟩ := e
        refine z_iinc (q := 4) (v := x2067) (L' := [(6, .int x2067), (4, .int p2065.1), (0, z_r l0), (3, .int l3), (5, .int l5)]) dX11_way_147 rfl (Option.some.inj ex2067) (by decide) rfl ?_
        refine z_goto (tgt := 85) dX11_way_150 (by decide) ?_
        exact z_weak [2, 3, 1, 4, 0] rfl (hk85 e)
      · rw [if_neg c2064] at e
        exact z_weak [0, 1, 2, 3, 4] rfl (S_X11_way_131  @hk85 @hk94 e)
def D_X11_way_85b (k85 : z_H → Option Nat → Int32 → Int32 → Int32 → Int32 → Option (Int32 × z_H)) (h : z_H) (l0 : Option Nat) (l3 : Int32) (l4 : Int32) (l5 : Int32) (l6 : Int32) : Option (Int32 × z_H) :=
  if l3 < l6 then
    some (l5, h)
  else
    D_X11_way_94  k85 z_F h l0 l3 l4 (0:Int32) l6
def D_X11_way_85 (n : Nat) : z_H → Option Nat → Int32 → Int32 → Int32 → Int32 → Option (Int32 × z_H) := Nat.rec (motive := fun _ => z_H → Option Nat → Int32 → Int32 → Int32 → Int32 → Option (Int32 × z_H)) (fun _ _ _ _ _ _ => none) (fun _ k => D_X11_way_85b  k) n
set_option maxRecDepth 100000 in
set_option maxHeartbeats 4000000 in
theorem S_X11_way_85 {G : z_G} {l : Launch}  (n : Nat) : ∀ {h : z_H} {l0 : Option Nat} {l3 : Int32} {l4 : Int32} {l5 : Int32} {l6 : Int32} {res : (Int32 × z_H)}, D_X11_way_85  n h l0 l3 l4 l5 l6 = some res → z_Run G l 12 M_X11_way 85 [(0, z_r l0), (3, .int l3), (4, .int l4), (5, .int l5), (6, .int l6)] [] h res.2 (some (.int res.1)) := by
  induction n with
  | zero => intro h l0 l3 l4 l5 l6 res e; cases e
  | succ n hk85 =>
    intro h l0 l3 l4 l5 l6 res e
    replace e : D_X11_way_85b  (D_X11_way_85  n) h l0 l3 l4 l5 l6 = some res := e
    unfold D_X11_way_85b at e
    refine z_iload 4 dX11_way_85 rfl ?_
    refine z_iload_n 1 dX11_way_87 rfl ?_
    refine z_icmp_gt (tgt := 153) dX11_way_88 (by decide) (fun c2068 => ?_) (fun c2068 => ?_)
    · rw [if_pos c2068] at e
      refine z_iload 3 dX11_way_153 rfl ?_
      cases e
      exact z_iret dX11_way_155 rfl
    · rw [if_neg c2068] at e
      refine z_iconst (v := 0) dX11_way_91 (by decide) ?_
      refine z_istore (L' := [(5, .int (0:Int32)), (0, z_r l0), (3, .int l3), (4, .int l4), (6, .int l6)]) dX11_way_92 (by decide) rfl ?_
      exact z_weak [1, 2, 3, 0, 4] rfl (S_X11_way_94  @hk85 z_F e)
def D_X11_way (h : z_H) (l0 : Option Nat) (l1 : Int32) (l2 : Int32) (l3 : Int32) : Option (Int32 × z_H) :=
  (z_pV 11 h l0 0 (.int (0:Int32))).bind fun h2069 =>
  (z_ob 11 h2069 l0).bind fun _ =>
  (D_X11_isPair  h2069 l0 l1).bind fun p2070 =>
  if p2070.1 = 0 then
    some ((-1:Int32), p2070.2)
  else
    (D_X11_isCell  p2070.2 l2).bind fun p2073 =>
    if p2073.1 = 0 then
      some ((-1:Int32), p2073.2)
    else
      if (-1:Int32) ≤ l3 then
        (z_ob 11 p2073.2 l0).bind fun _ =>
        (D_X11_layLeft  p2073.2 l0 l1 l2).bind fun p2076 =>
        (z_ob 11 p2076 l0).bind fun _ =>
        (D_X11_stateOf  p2076 l0 l1).bind fun p2078 =>
        (z_gQ 11 p2078.2 l0 43).bind fun x2080 =>
        (z_aI .int p2078.2 x2080 p2078.1).bind fun x2081 =>
        if x2081 = (100000000:Int32) then
          some ((-1:Int32), p2078.2)
        else
          (z_gQ 11 p2078.2 l0 43).bind fun x2083 =>
          (z_aI .int p2078.2 x2083 p2078.1).bind fun x2084 =>
          if l3 < x2084 then
            if l3 = (-1:Int32) then
              (z_gQ 11 p2078.2 l0 43).bind fun x2087 =>
              (z_aI .int p2078.2 x2087 p2078.1).bind fun x2088 =>
              some (x2088, p2078.2)
            else
              D_X11_way_85   z_F p2078.2 l0 l3 p2078.1 (-1:Int32) (0:Int32)
          else
            some ((-1:Int32), p2078.2)
      else
        some ((-1:Int32), p2073.2)
set_option maxRecDepth 100000 in
set_option maxHeartbeats 4000000 in
theorem S_X11_way {G : z_G} {l : Launch} {h : z_H} {l0 : Option Nat} {l1 : Int32} {l2 : Int32} {l3 : Int32} {res : (Int32 × z_H)} (e : D_X11_way h l0 l1 l2 l3 = some res) : z_Meth G l 12 M_X11_way [z_r l0, .int l1, .int l2, .int l3] h res.2 (some (.int res.1)) := by
  refine z_Meth.of ck_X11_way.2.2.2.2 (by simp [lg_sl, z_ci, z_cj, z_cr, z_cx]) ck_X11_way.1 ?_
  rw [show lv_args 0 [z_r l0, .int l1, .int l2, .int l3] = [(0, z_r l0), (1, .int l1), (2, .int l2), (3, .int l3)] from by simp [lv_args, z_ci, z_cj, z_cr, z_cx]]
  unfold D_X11_way at e
  refine z_aload_n 0 dX11_way_0 rfl ?_
  refine z_iconst (v := 0) dX11_way_1 (by decide) ?_
  replace e := z_bd e; obtain ⟨h2069, eh2069, e⟩ := e
  refine z_putV eh2069 lk_X11_166 wk_11_0 (fun _ => rfl) (fun _ => rfl) dX11_way_2 ?_
  refine z_aload_n 0 dX11_way_5 rfl ?_
  refine z_iload_n 1 dX11_way_6 rfl ?_
  replace e := z_bd e; obtain ⟨o2071, eo2071, e⟩ := e
  replace e := z_bd e; obtain ⟨p2070, ep2070, e⟩ := e
  refine z_cV [.int l1] (S_X11_isPair  ep2070) eo2071 rfl ml_X11_211 ck_X11_isPair vk_X11_isPair dX11_way_7 (by decide) rfl (Nat.zero_le _) rfl ?_
  refine z_if_eq (tgt := 25) dX11_way_10 (by decide) (fun c2072 => ?_) (fun c2072 => ?_)
  · rw [if_pos c2072] at e
    refine z_iconst (v := -1) dX11_way_25 (by decide) ?_
    cases e
    exact z_iret dX11_way_26 rfl
  · rw [if_neg c2072] at e
    refine z_iload_n 2 dX11_way_13 rfl ?_
    replace e := z_bd e; obtain ⟨p2073, ep2073, e⟩ := e
    refine z_cS [.int l2] (S_X11_isCell  ep2073) ml_X11_201 ck_X11_isCell st_X11_isCell dX11_way_14 (by decide) rfl (Nat.zero_le _) rfl ?_
    refine z_if_eq (tgt := 25) dX11_way_17 (by decide) (fun c2074 => ?_) (fun c2074 => ?_)
    · rw [if_pos c2074] at e
      refine z_iconst (v := -1) dX11_way_25 (by decide) ?_
      cases e
      exact z_iret dX11_way_26 rfl
    · rw [if_neg c2074] at e
      refine z_iload_n 3 dX11_way_20 rfl ?_
      refine z_iconst (v := -1) dX11_way_21 (by decide) ?_
      refine z_icmp_ge (tgt := 27) dX11_way_22 (by decide) (fun c2075 => ?_) (fun c2075 => ?_)
      · rw [if_pos c2075] at e
        refine z_aload_n 0 dX11_way_27 rfl ?_
        refine z_iload_n 1 dX11_way_28 rfl ?_
        refine z_iload_n 2 dX11_way_29 rfl ?_
        replace e := z_bd e; obtain ⟨o2077, eo2077, e⟩ := e
        replace e := z_bd e; obtain ⟨p2076, ep2076, e⟩ := e
        refine z_cV [.int l1, .int l2] (S_X11_layLeft  ep2076) eo2077 rfl ml_X11_493 ck_X11_layLeft vk_X11_layLeft dX11_way_30 (by decide) rfl (Nat.zero_le _) rfl ?_
        refine z_aload_n 0 dX11_way_33 rfl ?_
        refine z_iload_n 1 dX11_way_34 rfl ?_
        replace e := z_bd e; obtain ⟨o2079, eo2079, e⟩ := e
        replace e := z_bd e; obtain ⟨p2078, ep2078, e⟩ := e
        refine z_cV [.int l1] (S_X11_stateOf  ep2078) eo2079 rfl ml_X11_496 ck_X11_stateOf vk_X11_stateOf dX11_way_35 (by decide) rfl (Nat.zero_le _) rfl ?_
        refine z_istore (L' := [(4, .int p2078.1), (0, z_r l0), (1, .int l1), (2, .int l2), (3, .int l3)]) dX11_way_38 (by decide) rfl ?_
        refine z_aload_n 1 dX11_way_40 rfl ?_
        replace e := z_bd e; obtain ⟨x2080, ex2080, e⟩ := e
        refine z_getQ ex2080 lk_X11_120 dX11_way_41 ?_
        refine z_iload 0 dX11_way_44 rfl ?_
        replace e := z_bd e; obtain ⟨x2081, ex2081, e⟩ := e
        refine z_iald ex2081 dX11_way_46 ?_
        refine z_ldcw dX11_way_47 kc_X11_489 ?_
        refine z_icmp_eq (tgt := 64) dX11_way_50 (by decide) (fun c2082 => ?_) (fun c2082 => ?_)
        · rw [if_pos c2082] at e
          refine z_iconst (v := -1) dX11_way_64 (by decide) ?_
          cases e
          exact z_iret dX11_way_65 rfl
        · rw [if_neg c2082] at e
          refine z_iload_n 4 dX11_way_53 rfl ?_
          refine z_aload_n 1 dX11_way_54 rfl ?_
          replace e := z_bd e; obtain ⟨x2083, ex2083, e⟩ := e
          refine z_getQ ex2083 lk_X11_120 dX11_way_55 ?_
          refine z_iload 0 dX11_way_58 rfl ?_
          replace e := z_bd e; obtain ⟨x2084, ex2084, e⟩ := e
          refine z_iald ex2084 dX11_way_60 ?_
          refine z_icmp_lt (tgt := 66) dX11_way_61 (by decide) (fun c2085 => ?_) (fun c2085 => ?_)
          · rw [if_pos c2085] at e
            refine z_iload_n 4 dX11_way_66 rfl ?_
            refine z_iconst (v := -1) dX11_way_67 (by decide) ?_
            refine z_icmp_ne (tgt := 79) dX11_way_68 (by decide) (fun c2086 => ?_) (fun c2086 => ?_)
            · rw [if_neg c2086] at e
              refine z_iconst (v := -1) dX11_way_79 (by decide) ?_
              refine z_istore (L' := [(5, .int (-1:Int32)), (4, .int p2078.1), (0, z_r l0), (1, .int l1), (2, .int l2), (3, .int l3)]) dX11_way_80 (by decide) rfl ?_
              refine z_iconst (v := 0) dX11_way_82 (by decide) ?_
              refine z_istore (L' := [(6, .int (0:Int32)), (5, .int (-1:Int32)), (4, .int p2078.1), (0, z_r l0), (1, .int l1), (2, .int l2), (3, .int l3)]) dX11_way_83 (by decide) rfl ?_
              exact z_weak [3, 6, 2, 1, 0] rfl (S_X11_way_85   z_F e)
            · rw [if_pos c2086] at e
              refine z_aload_n 1 dX11_way_71 rfl ?_
              replace e := z_bd e; obtain ⟨x2087, ex2087, e⟩ := e
              refine z_getQ ex2087 lk_X11_120 dX11_way_72 ?_
              refine z_iload 0 dX11_way_75 rfl ?_
              replace e := z_bd e; obtain ⟨x2088, ex2088, e⟩ := e
              refine z_iald ex2088 dX11_way_77 ?_
              cases e
              exact z_iret dX11_way_78 rfl
          · rw [if_neg c2085] at e
            refine z_iconst (v := -1) dX11_way_64 (by decide) ?_
            cases e
            exact z_iret dX11_way_65 rfl
      · rw [if_neg c2075] at e
        refine z_iconst (v := -1) dX11_way_25 (by decide) ?_
        cases e
        exact z_iret dX11_way_26 rfl
theorem dX10_isWaysNumber_0 : decode cX10_isWaysNumber 0 = .ok (.iload_n 0, 1) := by decide +kernel
theorem dX10_isWaysNumber_1 : decode cX10_isWaysNumber 1 = .ok (.ifCond .lt 13, 3) := by decide +kernel
theorem dX10_isWaysNumber_4 : decode cX10_isWaysNumber 4 = .ok (.iload_n 0, 1) := by decide +kernel
theorem dX10_isWaysNumber_5 : decode cX10_isWaysNumber 5 = .ok (.bipush 6, 2) := by decide +kernel
theorem dX10_isWaysNumber_7 : decode cX10_isWaysNumber 7 = .ok (.if_icmp .gt 7, 3) := by decide +kernel
theorem dX10_isWaysNumber_10 : decode cX10_isWaysNumber 10 = .ok (.iconst 1, 1) := by decide +kernel
theorem dX10_isWaysNumber_11 : decode cX10_isWaysNumber 11 = .ok (.goto 4, 3) := by decide +kernel
theorem dX10_isWaysNumber_14 : decode cX10_isWaysNumber 14 = .ok (.iconst 0, 1) := by decide +kernel
theorem dX10_isWaysNumber_15 : decode cX10_isWaysNumber 15 = .ok (.ireturn, 1) := by decide +kernel
def D_X10_isWaysNumber (h : z_H) (l0 : Int32) : Option (Int32 × z_H) :=
  if l0 < 0 then
    some ((0:Int32), h)
  else
    if (6:Int32) < l0 then
      some ((0:Int32), h)
    else
      some ((1:Int32), h)
set_option maxRecDepth 100000 in
set_option maxHeartbeats 4000000 in
theorem S_X10_isWaysNumber {G : z_G} {l : Launch} {h : z_H} {l0 : Int32} {res : (Int32 × z_H)} (e : D_X10_isWaysNumber h l0 = some res) : z_Meth G l 4 M_X10_isWaysNumber [.int l0] h res.2 (some (.int res.1)) := by
  refine z_Meth.of ck_X10_isWaysNumber.2.2.2.2 (by simp [lg_sl, z_ci, z_cj, z_cr, z_cx]) ck_X10_isWaysNumber.1 ?_
  rw [show lv_args 0 [.int l0] = [(0, .int l0)] from rfl]
  unfold D_X10_isWaysNumber at e
  refine z_iload_n 0 dX10_isWaysNumber_0 rfl ?_
  refine z_if_lt (tgt := 14) dX10_isWaysNumber_1 (by decide) (fun c2089 => ?_) (fun c2089 => ?_)
  · rw [if_pos c2089] at e
    refine z_iconst (v := 0) dX10_isWaysNumber_14 (by decide) ?_
    cases e
    exact z_zret dX10_isWaysNumber_15 rfl (by decide)
  · rw [if_neg c2089] at e
    refine z_iload_n 0 dX10_isWaysNumber_4 rfl ?_
    refine z_bipush (v := 6) dX10_isWaysNumber_5 (by decide) ?_
    refine z_icmp_gt (tgt := 14) dX10_isWaysNumber_7 (by decide) (fun c2090 => ?_) (fun c2090 => ?_)
    · rw [if_pos c2090] at e
      refine z_iconst (v := 0) dX10_isWaysNumber_14 (by decide) ?_
      cases e
      exact z_zret dX10_isWaysNumber_15 rfl (by decide)
    · rw [if_neg c2090] at e
      refine z_iconst (v := 1) dX10_isWaysNumber_10 (by decide) ?_
      refine z_goto (tgt := 15) dX10_isWaysNumber_11 (by decide) ?_
      cases e
      exact z_zret dX10_isWaysNumber_15 rfl (by decide)
theorem dX10_canCountWays_0 : decode cX10_canCountWays 0 = .ok (.aload_n 0, 1) := by decide +kernel
theorem dX10_canCountWays_1 : decode cX10_canCountWays 1 = .ok (.getfield 12, 3) := by decide +kernel
theorem dX10_canCountWays_4 : decode cX10_canCountWays 4 = .ok (.iload_n 1, 1) := by decide +kernel
theorem dX10_canCountWays_5 : decode cX10_canCountWays 5 = .ok (.invokevirtual 121, 3) := by decide +kernel
theorem dX10_canCountWays_8 : decode cX10_canCountWays 8 = .ok (.ifCond .eq 29, 3) := by decide +kernel
theorem dX10_canCountWays_11 : decode cX10_canCountWays 11 = .ok (.iload_n 2, 1) := by decide +kernel
theorem dX10_canCountWays_12 : decode cX10_canCountWays 12 = .ok (.invokestatic 328, 3) := by decide +kernel
theorem dX10_canCountWays_15 : decode cX10_canCountWays 15 = .ok (.ifCond .eq 22, 3) := by decide +kernel
theorem dX10_canCountWays_18 : decode cX10_canCountWays 18 = .ok (.iload_n 3, 1) := by decide +kernel
theorem dX10_canCountWays_19 : decode cX10_canCountWays 19 = .ok (.invokestatic 328, 3) := by decide +kernel
theorem dX10_canCountWays_22 : decode cX10_canCountWays 22 = .ok (.ifCond .eq 15, 3) := by decide +kernel
theorem dX10_canCountWays_25 : decode cX10_canCountWays 25 = .ok (.iload 4, 2) := by decide +kernel
theorem dX10_canCountWays_27 : decode cX10_canCountWays 27 = .ok (.invokestatic 328, 3) := by decide +kernel
theorem dX10_canCountWays_30 : decode cX10_canCountWays 30 = .ok (.ifCond .eq 7, 3) := by decide +kernel
theorem dX10_canCountWays_33 : decode cX10_canCountWays 33 = .ok (.iconst 1, 1) := by decide +kernel
theorem dX10_canCountWays_34 : decode cX10_canCountWays 34 = .ok (.goto 4, 3) := by decide +kernel
theorem dX10_canCountWays_37 : decode cX10_canCountWays 37 = .ok (.iconst 0, 1) := by decide +kernel
theorem dX10_canCountWays_38 : decode cX10_canCountWays 38 = .ok (.ireturn, 1) := by decide +kernel
def D_X10_canCountWays (h : z_H) (l0 : Option Nat) (l1 : Int32) (l2 : Int32) (l3 : Int32) (l4 : Int32) : Option (Int32 × z_H) :=
  (z_gQ 10 h l0 0).bind fun x2091 =>
  (z_ob 9 h x2091).bind fun _ =>
  (D_X9_hasPair  h x2091 l1).bind fun p2092 =>
  if p2092.1 = 0 then
    some ((0:Int32), p2092.2)
  else
    (D_X10_isWaysNumber  p2092.2 l2).bind fun p2095 =>
    if p2095.1 = 0 then
      some ((0:Int32), p2095.2)
    else
      (D_X10_isWaysNumber  p2095.2 l3).bind fun p2097 =>
      if p2097.1 = 0 then
        some ((0:Int32), p2097.2)
      else
        (D_X10_isWaysNumber  p2097.2 l4).bind fun p2099 =>
        if p2099.1 = 0 then
          some ((0:Int32), p2099.2)
        else
          some ((1:Int32), p2099.2)
set_option maxRecDepth 100000 in
set_option maxHeartbeats 4000000 in
theorem S_X10_canCountWays {G : z_G} {l : Launch} {h : z_H} {l0 : Option Nat} {l1 : Int32} {l2 : Int32} {l3 : Int32} {l4 : Int32} {res : (Int32 × z_H)} (e : D_X10_canCountWays h l0 l1 l2 l3 l4 = some res) : z_Meth G l 5 M_X10_canCountWays [z_r l0, .int l1, .int l2, .int l3, .int l4] h res.2 (some (.int res.1)) := by
  refine z_Meth.of ck_X10_canCountWays.2.2.2.2 (by simp [lg_sl, z_ci, z_cj, z_cr, z_cx]) ck_X10_canCountWays.1 ?_
  rw [show lv_args 0 [z_r l0, .int l1, .int l2, .int l3, .int l4] = [(0, z_r l0), (1, .int l1), (2, .int l2), (3, .int l3), (4, .int l4)] from by simp [lv_args, z_ci, z_cj, z_cr, z_cx]]
  unfold D_X10_canCountWays at e
  refine z_aload_n 0 dX10_canCountWays_0 rfl ?_
  replace e := z_bd e; obtain ⟨x2091, ex2091, e⟩ := e
  refine z_getQ ex2091 lk_X10_12 dX10_canCountWays_1 ?_
  refine z_iload_n 1 dX10_canCountWays_4 rfl ?_
  replace e := z_bd e; obtain ⟨o2093, eo2093, e⟩ := e
  replace e := z_bd e; obtain ⟨p2092, ep2092, e⟩ := e
  refine z_cV [.int l1] (S_X9_hasPair  ep2092) eo2093 rfl ml_X10_121 ck_X9_hasPair vk_X9_hasPair dX10_canCountWays_5 (by decide) rfl (Nat.zero_le _) rfl ?_
  refine z_if_eq (tgt := 37) dX10_canCountWays_8 (by decide) (fun c2094 => ?_) (fun c2094 => ?_)
  · rw [if_pos c2094] at e
    refine z_iconst (v := 0) dX10_canCountWays_37 (by decide) ?_
    cases e
    exact z_zret dX10_canCountWays_38 rfl (by decide)
  · rw [if_neg c2094] at e
    refine z_iload_n 2 dX10_canCountWays_11 rfl ?_
    replace e := z_bd e; obtain ⟨p2095, ep2095, e⟩ := e
    refine z_cS [.int l2] (S_X10_isWaysNumber  ep2095) ml_X10_328 ck_X10_isWaysNumber st_X10_isWaysNumber dX10_canCountWays_12 (by decide) rfl (Nat.zero_le _) rfl ?_
    refine z_if_eq (tgt := 37) dX10_canCountWays_15 (by decide) (fun c2096 => ?_) (fun c2096 => ?_)
    · rw [if_pos c2096] at e
      refine z_iconst (v := 0) dX10_canCountWays_37 (by decide) ?_
      cases e
      exact z_zret dX10_canCountWays_38 rfl (by decide)
    · rw [if_neg c2096] at e
      refine z_iload_n 3 dX10_canCountWays_18 rfl ?_
      replace e := z_bd e; obtain ⟨p2097, ep2097, e⟩ := e
      refine z_cS [.int l3] (S_X10_isWaysNumber  ep2097) ml_X10_328 ck_X10_isWaysNumber st_X10_isWaysNumber dX10_canCountWays_19 (by decide) rfl (Nat.zero_le _) rfl ?_
      refine z_if_eq (tgt := 37) dX10_canCountWays_22 (by decide) (fun c2098 => ?_) (fun c2098 => ?_)
      · rw [if_pos c2098] at e
        refine z_iconst (v := 0) dX10_canCountWays_37 (by decide) ?_
        cases e
        exact z_zret dX10_canCountWays_38 rfl (by decide)
      · rw [if_neg c2098] at e
        refine z_iload 4 dX10_canCountWays_25 rfl ?_
        replace e := z_bd e; obtain ⟨p2099, ep2099, e⟩ := e
        refine z_cS [.int l4] (S_X10_isWaysNumber  ep2099) ml_X10_328 ck_X10_isWaysNumber st_X10_isWaysNumber dX10_canCountWays_27 (by decide) rfl (Nat.zero_le _) rfl ?_
        refine z_if_eq (tgt := 37) dX10_canCountWays_30 (by decide) (fun c2100 => ?_) (fun c2100 => ?_)
        · rw [if_pos c2100] at e
          refine z_iconst (v := 0) dX10_canCountWays_37 (by decide) ?_
          cases e
          exact z_zret dX10_canCountWays_38 rfl (by decide)
        · rw [if_neg c2100] at e
          refine z_iconst (v := 1) dX10_canCountWays_33 (by decide) ?_
          refine z_goto (tgt := 38) dX10_canCountWays_34 (by decide) ?_
          cases e
          exact z_zret dX10_canCountWays_38 rfl (by decide)
