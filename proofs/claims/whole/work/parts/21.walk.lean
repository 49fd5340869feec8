theorem dX10_count_0 : decode cX10_count 0 = .ok (.iload_n 1, 1) := by decide +kernel
theorem dX10_count_1 : decode cX10_count 1 = .ok (.bipush 6, 2) := by decide +kernel
theorem dX10_count_3 : decode cX10_count 3 = .ok (.if_icmp .lt 28, 3) := by decide +kernel
theorem dX10_count_6 : decode cX10_count 6 = .ok (.iload_n 1, 1) := by decide +kernel
theorem dX10_count_7 : decode cX10_count 7 = .ok (.bipush 6, 2) := by decide +kernel
theorem dX10_count_9 : decode cX10_count 9 = .ok (.getstatic 309, 3) := by decide +kernel
theorem dX10_count_12 : decode cX10_count 12 = .ok (.arraylength, 1) := by decide +kernel
theorem dX10_count_13 : decode cX10_count 13 = .ok (.iadd, 1) := by decide +kernel
theorem dX10_count_14 : decode cX10_count 14 = .ok (.if_icmp .ge 17, 3) := by decide +kernel
theorem dX10_count_17 : decode cX10_count 17 = .ok (.aload_n 0, 1) := by decide +kernel
theorem dX10_count_18 : decode cX10_count 18 = .ok (.getfield 89, 3) := by decide +kernel
theorem dX10_count_21 : decode cX10_count 21 = .ok (.getstatic 309, 3) := by decide +kernel
theorem dX10_count_24 : decode cX10_count 24 = .ok (.iload_n 1, 1) := by decide +kernel
theorem dX10_count_25 : decode cX10_count 25 = .ok (.bipush 6, 2) := by decide +kernel
theorem dX10_count_27 : decode cX10_count 27 = .ok (.isub, 1) := by decide +kernel
theorem dX10_count_28 : decode cX10_count 28 = .ok (.iaload, 1) := by decide +kernel
theorem dX10_count_29 : decode cX10_count 29 = .ok (.iaload, 1) := by decide +kernel
theorem dX10_count_30 : decode cX10_count 30 = .ok (.ireturn, 1) := by decide +kernel
theorem dX10_count_31 : decode cX10_count 31 = .ok (.iload_n 1, 1) := by decide +kernel
theorem dX10_count_32 : decode cX10_count 32 = .ok (.bipush 12, 2) := by decide +kernel
theorem dX10_count_34 : decode cX10_count 34 = .ok (.if_icmp .lt 27, 3) := by decide +kernel
theorem dX10_count_37 : decode cX10_count 37 = .ok (.iload_n 1, 1) := by decide +kernel
theorem dX10_count_38 : decode cX10_count 38 = .ok (.bipush 12, 2) := by decide +kernel
theorem dX10_count_40 : decode cX10_count 40 = .ok (.getstatic 165, 3) := by decide +kernel
theorem dX10_count_43 : decode cX10_count 43 = .ok (.arraylength, 1) := by decide +kernel
theorem dX10_count_44 : decode cX10_count 44 = .ok (.iadd, 1) := by decide +kernel
theorem dX10_count_45 : decode cX10_count 45 = .ok (.if_icmp .ge 16, 3) := by decide +kernel
theorem dX10_count_48 : decode cX10_count 48 = .ok (.aload_n 0, 1) := by decide +kernel
theorem dX10_count_49 : decode cX10_count 49 = .ok (.getfield 12, 3) := by decide +kernel
theorem dX10_count_52 : decode cX10_count 52 = .ok (.getfield 168, 3) := by decide +kernel
theorem dX10_count_55 : decode cX10_count 55 = .ok (.iload_n 1, 1) := by decide +kernel
theorem dX10_count_56 : decode cX10_count 56 = .ok (.bipush 12, 2) := by decide +kernel
theorem dX10_count_58 : decode cX10_count 58 = .ok (.isub, 1) := by decide +kernel
theorem dX10_count_59 : decode cX10_count 59 = .ok (.iaload, 1) := by decide +kernel
theorem dX10_count_60 : decode cX10_count 60 = .ok (.ireturn, 1) := by decide +kernel
theorem dX10_count_61 : decode cX10_count 61 = .ok (.iload_n 1, 1) := by decide +kernel
theorem dX10_count_62 : decode cX10_count 62 = .ok (.tableswitch 121 0 11 #[62, 70, 81, 89, 97, 105, 121, 121, 121, 121, 121, 113], 62) := by decide +kernel
theorem dX10_count_124 : decode cX10_count 124 = .ok (.aload_n 0, 1) := by decide +kernel
theorem dX10_count_125 : decode cX10_count 125 = .ok (.getfield 12, 3) := by decide +kernel
theorem dX10_count_128 : decode cX10_count 128 = .ok (.getfield 108, 3) := by decide +kernel
theorem dX10_count_131 : decode cX10_count 131 = .ok (.ireturn, 1) := by decide +kernel
theorem dX10_count_132 : decode cX10_count 132 = .ok (.aload_n 0, 1) := by decide +kernel
theorem dX10_count_133 : decode cX10_count 133 = .ok (.getfield 12, 3) := by decide +kernel
theorem dX10_count_136 : decode cX10_count 136 = .ok (.getfield 148, 3) := by decide +kernel
theorem dX10_count_139 : decode cX10_count 139 = .ok (.invokestatic 312, 3) := by decide +kernel
theorem dX10_count_142 : decode cX10_count 142 = .ok (.ireturn, 1) := by decide +kernel
theorem dX10_count_143 : decode cX10_count 143 = .ok (.aload_n 0, 1) := by decide +kernel
theorem dX10_count_144 : decode cX10_count 144 = .ok (.getfield 12, 3) := by decide +kernel
theorem dX10_count_147 : decode cX10_count 147 = .ok (.getfield 269, 3) := by decide +kernel
theorem dX10_count_150 : decode cX10_count 150 = .ok (.ireturn, 1) := by decide +kernel
theorem dX10_count_151 : decode cX10_count 151 = .ok (.aload_n 0, 1) := by decide +kernel
theorem dX10_count_152 : decode cX10_count 152 = .ok (.getfield 12, 3) := by decide +kernel
theorem dX10_count_155 : decode cX10_count 155 = .ok (.getfield 181, 3) := by decide +kernel
theorem dX10_count_158 : decode cX10_count 158 = .ok (.ireturn, 1) := by decide +kernel
theorem dX10_count_159 : decode cX10_count 159 = .ok (.aload_n 0, 1) := by decide +kernel
theorem dX10_count_160 : decode cX10_count 160 = .ok (.getfield 30, 3) := by decide +kernel
theorem dX10_count_163 : decode cX10_count 163 = .ok (.getfield 115, 3) := by decide +kernel
theorem dX10_count_166 : decode cX10_count 166 = .ok (.ireturn, 1) := by decide +kernel
theorem dX10_count_167 : decode cX10_count 167 = .ok (.aload_n 0, 1) := by decide +kernel
theorem dX10_count_168 : decode cX10_count 168 = .ok (.getfield 37, 3) := by decide +kernel
theorem dX10_count_171 : decode cX10_count 171 = .ok (.getfield 171, 3) := by decide +kernel
theorem dX10_count_174 : decode cX10_count 174 = .ok (.ireturn, 1) := by decide +kernel
theorem dX10_count_175 : decode cX10_count 175 = .ok (.aload_n 0, 1) := by decide +kernel
theorem dX10_count_176 : decode cX10_count 176 = .ok (.getfield 12, 3) := by decide +kernel
theorem dX10_count_179 : decode cX10_count 179 = .ok (.getfield 214, 3) := by decide +kernel
theorem dX10_count_182 : decode cX10_count 182 = .ok (.ireturn, 1) := by decide +kernel
theorem dX10_count_183 : decode cX10_count 183 = .ok (.iconst (-1), 1) := by decide +kernel
theorem dX10_count_184 : decode cX10_count 184 = .ok (.ireturn, 1) := by decide +kernel
def D_X10_count_61 (h : z_H) (l0 : Option Nat) (l1 : Int32) : Option (Int32 × z_H) :=
  if l1 = 0 then
    (z_gQ 10 h l0 0).bind fun x267 =>
    (z_gI 9 h x267 8).bind fun x268 =>
    some (x268, h)
  else
  if l1 = 1 then
    (z_gQ 10 h l0 0).bind fun x270 =>
    (z_gI 9 h x270 9).bind fun x271 =>
    (D_J6_bitCount_0f7a4  h x271).bind fun p272 =>
    some (p272.1, p272.2)
  else
  if l1 = 2 then
    (z_gQ 10 h l0 0).bind fun x274 =>
    (z_gI 9 h x274 10).bind fun x275 =>
    some (x275, h)
  else
  if l1 = 3 then
    (z_gQ 10 h l0 0).bind fun x277 =>
    (z_gI 9 h x277 11).bind fun x278 =>
    some (x278, h)
  else
  if l1 = 4 then
    (z_gQ 10 h l0 4).bind fun x280 =>
    (z_gI 8 h x280 1).bind fun x281 =>
    some (x281, h)
  else
  if l1 = 5 then
    (z_gQ 10 h l0 5).bind fun x283 =>
    (z_gI 5 h x283 2).bind fun x284 =>
    some (x284, h)
  else
  if l1 = 6 then
    some ((-1:Int32), h)
  else
  if l1 = 7 then
    some ((-1:Int32), h)
  else
  if l1 = 8 then
    some ((-1:Int32), h)
  else
  if l1 = 9 then
    some ((-1:Int32), h)
  else
  if l1 = 10 then
    some ((-1:Int32), h)
  else
  if l1 = 11 then
    (z_gQ 10 h l0 0).bind fun x291 =>
    (z_gI 9 h x291 12).bind fun x292 =>
    some (x292, h)
  else
  some ((-1:Int32), h)
set_option maxRecDepth 100000 in
set_option maxHeartbeats 4000000 in
theorem S_X10_count_61 {G : z_G} {l : Launch}  {h : z_H} {l0 : Option Nat} {l1 : Int32} {res : (Int32 × z_H)} (e : D_X10_count_61  h l0 l1 = some res) : z_Run G l 5 M_X10_count 61 [(0, z_r l0), (1, .int l1)] [] h res.2 (some (.int res.1)) := by
  unfold D_X10_count_61 at e
  refine z_iload_n 1 dX10_count_61 rfl ?_
  by_cases c266 : l1 = 0
  · rw [if_pos c266] at e
    refine z_tableIn (off := 62) (tgt := 124) dX10_count_62 (by rw [c266]; decide) (by rw [c266]; decide) (by rw [c266]; decide) (by decide) ?_
    refine z_aload_n 0 dX10_count_124 rfl ?_
    replace e := z_bd e; obtain ⟨x267, ex267, e⟩ := e
    refine z_getQ ex267 lk_X10_12 dX10_count_125 ?_
    replace e := z_bd e; obtain ⟨x268, ex268, e⟩ := e
    refine z_getI ex268 lk_X10_108 dX10_count_128 ?_
    cases e
    exact z_iret dX10_count_131 rfl
  rw [if_neg c266] at e
  by_cases c269 : l1 = 1
  · rw [if_pos c269] at e
    refine z_tableIn (off := 70) (tgt := 132) dX10_count_62 (by rw [c269]; decide) (by rw [c269]; decide) (by rw [c269]; decide) (by decide) ?_
    refine z_aload_n 0 dX10_count_132 rfl ?_
    replace e := z_bd e; obtain ⟨x270, ex270, e⟩ := e
    refine z_getQ ex270 lk_X10_12 dX10_count_133 ?_
    replace e := z_bd e; obtain ⟨x271, ex271, e⟩ := e
    refine z_getI ex271 lk_X10_148 dX10_count_136 ?_
    replace e := z_bd e; obtain ⟨p272, ep272, e⟩ := e
    refine z_cS [.int x271] (S_J6_bitCount_0f7a4  ep272) ml_X10_312 ck_J6_bitCount_0f7a4 st_J6_bitCount_0f7a4 dX10_count_139 (by decide) rfl (Nat.zero_le _) rfl ?_
    cases e
    exact z_iret dX10_count_142 rfl
  rw [if_neg c269] at e
  by_cases c273 : l1 = 2
  · rw [if_pos c273] at e
    refine z_tableIn (off := 81) (tgt := 143) dX10_count_62 (by rw [c273]; decide) (by rw [c273]; decide) (by rw [c273]; decide) (by decide) ?_
    refine z_aload_n 0 dX10_count_143 rfl ?_
    replace e := z_bd e; obtain ⟨x274, ex274, e⟩ := e
    refine z_getQ ex274 lk_X10_12 dX10_count_144 ?_
    replace e := z_bd e; obtain ⟨x275, ex275, e⟩ := e
    refine z_getI ex275 lk_X10_269 dX10_count_147 ?_
    cases e
    exact z_iret dX10_count_150 rfl
  rw [if_neg c273] at e
  by_cases c276 : l1 = 3
  · rw [if_pos c276] at e
    refine z_tableIn (off := 89) (tgt := 151) dX10_count_62 (by rw [c276]; decide) (by rw [c276]; decide) (by rw [c276]; decide) (by decide) ?_
    refine z_aload_n 0 dX10_count_151 rfl ?_
    replace e := z_bd e; obtain ⟨x277, ex277, e⟩ := e
    refine z_getQ ex277 lk_X10_12 dX10_count_152 ?_
    replace e := z_bd e; obtain ⟨x278, ex278, e⟩ := e
    refine z_getI ex278 lk_X10_181 dX10_count_155 ?_
    cases e
    exact z_iret dX10_count_158 rfl
  rw [if_neg c276] at e
  by_cases c279 : l1 = 4
  · rw [if_pos c279] at e
    refine z_tableIn (off := 97) (tgt := 159) dX10_count_62 (by rw [c279]; decide) (by rw [c279]; decide) (by rw [c279]; decide) (by decide) ?_
    refine z_aload_n 0 dX10_count_159 rfl ?_
    replace e := z_bd e; obtain ⟨x280, ex280, e⟩ := e
    refine z_getQ ex280 lk_X10_30 dX10_count_160 ?_
    replace e := z_bd e; obtain ⟨x281, ex281, e⟩ := e
    refine z_getI ex281 lk_X10_115 dX10_count_163 ?_
    cases e
    exact z_iret dX10_count_166 rfl
  rw [if_neg c279] at e
  by_cases c282 : l1 = 5
  · rw [if_pos c282] at e
    refine z_tableIn (off := 105) (tgt := 167) dX10_count_62 (by rw [c282]; decide) (by rw [c282]; decide) (by rw [c282]; decide) (by decide) ?_
    refine z_aload_n 0 dX10_count_167 rfl ?_
    replace e := z_bd e; obtain ⟨x283, ex283, e⟩ := e
    refine z_getQ ex283 lk_X10_37 dX10_count_168 ?_
    replace e := z_bd e; obtain ⟨x284, ex284, e⟩ := e
    refine z_getI ex284 lk_X10_171 dX10_count_171 ?_
    cases e
    exact z_iret dX10_count_174 rfl
  rw [if_neg c282] at e
  by_cases c285 : l1 = 6
  · rw [if_pos c285] at e
    refine z_tableIn (off := 121) (tgt := 183) dX10_count_62 (by rw [c285]; decide) (by rw [c285]; decide) (by rw [c285]; decide) (by decide) ?_
    refine z_iconst (v := -1) dX10_count_183 (by decide) ?_
    cases e
    exact z_iret dX10_count_184 rfl
  rw [if_neg c285] at e
  by_cases c286 : l1 = 7
  · rw [if_pos c286] at e
    refine z_tableIn (off := 121) (tgt := 183) dX10_count_62 (by rw [c286]; decide) (by rw [c286]; decide) (by rw [c286]; decide) (by decide) ?_
    refine z_iconst (v := -1) dX10_count_183 (by decide) ?_
    cases e
    exact z_iret dX10_count_184 rfl
  rw [if_neg c286] at e
  by_cases c287 : l1 = 8
  · rw [if_pos c287] at e
    refine z_tableIn (off := 121) (tgt := 183) dX10_count_62 (by rw [c287]; decide) (by rw [c287]; decide) (by rw [c287]; decide) (by decide) ?_
    refine z_iconst (v := -1) dX10_count_183 (by decide) ?_
    cases e
    exact z_iret dX10_count_184 rfl
  rw [if_neg c287] at e
  by_cases c288 : l1 = 9
  · rw [if_pos c288] at e
    refine z_tableIn (off := 121) (tgt := 183) dX10_count_62 (by rw [c288]; decide) (by rw [c288]; decide) (by rw [c288]; decide) (by decide) ?_
    refine z_iconst (v := -1) dX10_count_183 (by decide) ?_
    cases e
    exact z_iret dX10_count_184 rfl
  rw [if_neg c288] at e
  by_cases c289 : l1 = 10
  · rw [if_pos c289] at e
    refine z_tableIn (off := 121) (tgt := 183) dX10_count_62 (by rw [c289]; decide) (by rw [c289]; decide) (by rw [c289]; decide) (by decide) ?_
    refine z_iconst (v := -1) dX10_count_183 (by decide) ?_
    cases e
    exact z_iret dX10_count_184 rfl
  rw [if_neg c289] at e
  by_cases c290 : l1 = 11
  · rw [if_pos c290] at e
    refine z_tableIn (off := 113) (tgt := 175) dX10_count_62 (by rw [c290]; decide) (by rw [c290]; decide) (by rw [c290]; decide) (by decide) ?_
    refine z_aload_n 0 dX10_count_175 rfl ?_
    replace e := z_bd e; obtain ⟨x291, ex291, e⟩ := e
    refine z_getQ ex291 lk_X10_12 dX10_count_176 ?_
    replace e := z_bd e; obtain ⟨x292, ex292, e⟩ := e
    refine z_getI ex292 lk_X10_214 dX10_count_179 ?_
    cases e
    exact z_iret dX10_count_182 rfl
  rw [if_neg c290] at e
  have nc266 := lv_neT (a := 0) c266 (by decide)
  have nc269 := lv_neT (a := 1) c269 (by decide)
  have nc273 := lv_neT (a := 2) c273 (by decide)
  have nc276 := lv_neT (a := 3) c276 (by decide)
  have nc279 := lv_neT (a := 4) c279 (by decide)
  have nc282 := lv_neT (a := 5) c282 (by decide)
  have nc285 := lv_neT (a := 6) c285 (by decide)
  have nc286 := lv_neT (a := 7) c286 (by decide)
  have nc287 := lv_neT (a := 8) c287 (by decide)
  have nc288 := lv_neT (a := 9) c288 (by decide)
  have nc289 := lv_neT (a := 10) c289 (by decide)
  have nc290 := lv_neT (a := 11) c290 (by decide)
  refine z_tableOut (tgt := 183) dX10_count_62 (by omega) (by decide) ?_
  refine z_iconst (v := -1) dX10_count_183 (by decide) ?_
  cases e
  exact z_iret dX10_count_184 rfl
def D_X10_count_31 (h : z_H) (l0 : Option Nat) (l1 : Int32) : Option (Int32 × z_H) :=
  if l1 < (12:Int32) then
    D_X10_count_61   h l0 l1
  else
    if ((12:Int32) + (Int32.ofNat (z_xs 1).1)) ≤ l1 then
      D_X10_count_61   h l0 l1
    else
      (z_gQ 10 h l0 0).bind fun x295 =>
      (z_gQ 9 h x295 4).bind fun x296 =>
      (z_aI .int h x296 (l1 - (12:Int32))).bind fun x297 =>
      some (x297, h)
set_option maxRecDepth 100000 in
set_option maxHeartbeats 4000000 in
theorem S_X10_count_31 {G : z_G} {l : Launch}  {h : z_H} {l0 : Option Nat} {l1 : Int32} {res : (Int32 × z_H)} (e : D_X10_count_31  h l0 l1 = some res) : z_Run G l 5 M_X10_count 31 [(0, z_r l0), (1, .int l1)] [] h res.2 (some (.int res.1)) := by
  unfold D_X10_count_31 at e
  refine z_iload_n 1 dX10_count_31 rfl ?_
  refine z_bipush (v := 12) dX10_count_32 (by decide) ?_
  refine z_icmp_lt (tgt := 61) dX10_count_34 (by decide) (fun c293 => ?_) (fun c293 => ?_)
  · rw [if_pos c293] at e
    exact z_weak [0, 1] rfl (S_X10_count_61   e)
  · rw [if_neg c293] at e
    refine z_iload_n 1 dX10_count_37 rfl ?_
    refine z_bipush (v := 12) dX10_count_38 (by decide) ?_
    refine z_gets (q := (1, "TERM_MOST", 0)) (by decide) gs_X10_165 dX10_count_40 ?_
    refine z_xlen (p0 := (z_xs 1)) rfl dX10_count_43 ?_
    refine z_iadd dX10_count_44 ?_
    refine z_icmp_ge (tgt := 61) dX10_count_45 (by decide) (fun c294 => ?_) (fun c294 => ?_)
    · rw [if_pos c294] at e
      exact z_weak [0, 1] rfl (S_X10_count_61   e)
    · rw [if_neg c294] at e
      refine z_aload_n 0 dX10_count_48 rfl ?_
      replace e := z_bd e; obtain ⟨x295, ex295, e⟩ := e
      refine z_getQ ex295 lk_X10_12 dX10_count_49 ?_
      replace e := z_bd e; obtain ⟨x296, ex296, e⟩ := e
      refine z_getQ ex296 lk_X10_168 dX10_count_52 ?_
      refine z_iload_n 1 dX10_count_55 rfl ?_
      refine z_bipush (v := 12) dX10_count_56 (by decide) ?_
      refine z_isub dX10_count_58 ?_
      replace e := z_bd e; obtain ⟨x297, ex297, e⟩ := e
      refine z_iald ex297 dX10_count_59 ?_
      cases e
      exact z_iret dX10_count_60 rfl
def D_X10_count (h : z_H) (l0 : Option Nat) (l1 : Int32) : Option (Int32 × z_H) :=
  if l1 < (6:Int32) then
    D_X10_count_31   h l0 l1
  else
    if ((6:Int32) + (Int32.ofNat (z_xs 2).1)) ≤ l1 then
      D_X10_count_31   h l0 l1
    else
      (z_gQ 10 h l0 12).bind fun x300 =>
      (z_xI (z_xs 2) (l1 - (6:Int32))).bind fun x301 =>
      (z_aI .int h x300 x301).bind fun x302 =>
      some (x302, h)
set_option maxRecDepth 100000 in
set_option maxHeartbeats 4000000 in
theorem S_X10_count {G : z_G} {l : Launch} {h : z_H} {l0 : Option Nat} {l1 : Int32} {res : (Int32 × z_H)} (e : D_X10_count h l0 l1 = some res) : z_Meth G l 5 M_X10_count [z_r l0, .int l1] h res.2 (some (.int res.1)) := by
  refine z_Meth.of ck_X10_count.2.2.2.2 (by simp [lg_sl, z_ci, z_cj, z_cr, z_cx]) ck_X10_count.1 ?_
  rw [show lv_args 0 [z_r l0, .int l1] = [(0, z_r l0), (1, .int l1)] from by simp [lv_args, z_ci, z_cj, z_cr, z_cx]]
  unfold D_X10_count at e
  refine z_iload_n 1 dX10_count_0 rfl ?_
  refine z_bipush (v := 6) dX10_count_1 (by decide) ?_
  refine z_icmp_lt (tgt := 31) dX10_count_3 (by decide) (fun c298 => ?_) (fun c298 => ?_)
  · rw [if_pos c298] at e
    exact z_weak [0, 1] rfl (S_X10_count_31   e)
  · rw [if_neg c298] at e
    refine z_iload_n 1 dX10_count_6 rfl ?_
    refine z_bipush (v := 6) dX10_count_7 (by decide) ?_
    refine z_gets (q := (2, "REFUSALS", 0)) (by decide) gs_X10_309 dX10_count_9 ?_
    refine z_xlen (p0 := (z_xs 2)) rfl dX10_count_12 ?_
    refine z_iadd dX10_count_13 ?_
    refine z_icmp_ge (tgt := 31) dX10_count_14 (by decide) (fun c299 => ?_) (fun c299 => ?_)
    · rw [if_pos c299] at e
      exact z_weak [0, 1] rfl (S_X10_count_31   e)
    · rw [if_neg c299] at e
      refine z_aload_n 0 dX10_count_17 rfl ?_
      replace e := z_bd e; obtain ⟨x300, ex300, e⟩ := e
      refine z_getQ ex300 lk_X10_89 dX10_count_18 ?_
      refine z_gets (q := (2, "REFUSALS", 0)) (by decide) gs_X10_309 dX10_count_21 ?_
      refine z_iload_n 1 dX10_count_24 rfl ?_
      refine z_bipush (v := 6) dX10_count_25 (by decide) ?_
      refine z_isub dX10_count_27 ?_
      replace e := z_bd e; obtain ⟨x301, ex301, e⟩ := e
      refine z_xald (p0 := z_xs 2) rfl ex301 dX10_count_28 ?_
      replace e := z_bd e; obtain ⟨x302, ex302, e⟩ := e
      refine z_iald ex302 dX10_count_29 ?_
      cases e
      exact z_iret dX10_count_30 rfl
theorem dX11_in_0 : decode cX11_in 0 = .ok (.lload_n 0, 1) := by decide +kernel
theorem dX11_in_1 : decode cX11_in 1 = .ok (.lload_n 2, 1) := by decide +kernel
theorem dX11_in_2 : decode cX11_in 2 = .ok (.lcmp, 1) := by decide +kernel
theorem dX11_in_3 : decode cX11_in 3 = .ok (.ifCond .lt 14, 3) := by decide +kernel
theorem dX11_in_6 : decode cX11_in 6 = .ok (.lload_n 0, 1) := by decide +kernel
theorem dX11_in_7 : decode cX11_in 7 = .ok (.lload 4, 2) := by decide +kernel
theorem dX11_in_9 : decode cX11_in 9 = .ok (.lcmp, 1) := by decide +kernel
theorem dX11_in_10 : decode cX11_in 10 = .ok (.ifCond .gt 7, 3) := by decide +kernel
theorem dX11_in_13 : decode cX11_in 13 = .ok (.iconst 1, 1) := by decide +kernel
theorem dX11_in_14 : decode cX11_in 14 = .ok (.goto 4, 3) := by decide +kernel
theorem dX11_in_17 : decode cX11_in 17 = .ok (.iconst 0, 1) := by decide +kernel
theorem dX11_in_18 : decode cX11_in 18 = .ok (.ireturn, 1) := by decide +kernel
def D_X11_in (h : z_H) (l0 : Int64) (l2 : Int64) (l4 : Int64) : Option (Int32 × z_H) :=
  if (lg_cmp l0 l2) < 0 then
    some ((0:Int32), h)
  else
    if 0 < (lg_cmp l0 l4) then
      some ((0:Int32), h)
    else
      some ((1:Int32), h)
set_option maxRecDepth 100000 in
set_option maxHeartbeats 4000000 in
theorem S_X11_in {G : z_G} {l : Launch} {h : z_H} {l0 : Int64} {l2 : Int64} {l4 : Int64} {res : (Int32 × z_H)} (e : D_X11_in h l0 l2 l4 = some res) : z_Meth G l 4 M_X11_in [.long l0, .long l2, .long l4] h res.2 (some (.int res.1)) := by
  refine z_Meth.of ck_X11_in.2.2.2.2 (by simp [lg_sl, z_ci, z_cj, z_cr, z_cx]) ck_X11_in.1 ?_
  rw [show lv_args 0 [.long l0, .long l2, .long l4] = [(0, .long l0), (2, .long l2), (4, .long l4)] from rfl]
  unfold D_X11_in at e
  refine z_lload_n 0 dX11_in_0 rfl ?_
  refine z_lload_n 1 dX11_in_1 rfl ?_
  refine z_lcmp dX11_in_2 ?_
  refine z_if_lt (tgt := 17) dX11_in_3 (by decide) (fun c303 => ?_) (fun c303 => ?_)
  · rw [if_pos c303] at e
    refine z_iconst (v := 0) dX11_in_17 (by decide) ?_
    cases e
    exact z_zret dX11_in_18 rfl (by decide)
  · rw [if_neg c303] at e
    refine z_lload_n 0 dX11_in_6 rfl ?_
    refine z_lload 2 dX11_in_7 rfl ?_
    refine z_lcmp dX11_in_9 ?_
    refine z_if_gt (tgt := 17) dX11_in_10 (by decide) (fun c304 => ?_) (fun c304 => ?_)
    · rw [if_pos c304] at e
      refine z_iconst (v := 0) dX11_in_17 (by decide) ?_
      cases e
      exact z_zret dX11_in_18 rfl (by decide)
    · rw [if_neg c304] at e
      refine z_iconst (v := 1) dX11_in_13 (by decide) ?_
      refine z_goto (tgt := 18) dX11_in_14 (by decide) ?_
      cases e
      exact z_zret dX11_in_18 rfl (by decide)
theorem dX11_wallsThere_0 : decode cX11_wallsThere 0 = .ok (.iconst 0, 1) := by decide +kernel
theorem dX11_wallsThere_1 : decode cX11_wallsThere 1 = .ok (.istore_n 1, 1) := by decide +kernel
theorem dX11_wallsThere_2 : decode cX11_wallsThere 2 = .ok (.iconst 0, 1) := by decide +kernel
theorem dX11_wallsThere_3 : decode cX11_wallsThere 3 = .ok (.istore_n 2, 1) := by decide +kernel
theorem dX11_wallsThere_4 : decode cX11_wallsThere 4 = .ok (.iload_n 2, 1) := by decide +kernel
theorem dX11_wallsThere_5 : decode cX11_wallsThere 5 = .ok (.bipush 25, 2) := by decide +kernel
theorem dX11_wallsThere_7 : decode cX11_wallsThere 7 = .ok (.if_icmp .ge 22, 3) := by decide +kernel
theorem dX11_wallsThere_10 : decode cX11_wallsThere 10 = .ok (.iload_n 1, 1) := by decide +kernel
theorem dX11_wallsThere_11 : decode cX11_wallsThere 11 = .ok (.aload_n 0, 1) := by decide +kernel
theorem dX11_wallsThere_12 : decode cX11_wallsThere 12 = .ok (.getfield 13, 3) := by decide +kernel
theorem dX11_wallsThere_15 : decode cX11_wallsThere 15 = .ok (.iconst 4, 1) := by decide +kernel
theorem dX11_wallsThere_16 : decode cX11_wallsThere 16 = .ok (.iaload, 1) := by decide +kernel
theorem dX11_wallsThere_17 : decode cX11_wallsThere 17 = .ok (.iload_n 2, 1) := by decide +kernel
theorem dX11_wallsThere_18 : decode cX11_wallsThere 18 = .ok (.ishr, 1) := by decide +kernel
theorem dX11_wallsThere_19 : decode cX11_wallsThere 19 = .ok (.iconst 1, 1) := by decide +kernel
theorem dX11_wallsThere_20 : decode cX11_wallsThere 20 = .ok (.iand, 1) := by decide +kernel
theorem dX11_wallsThere_21 : decode cX11_wallsThere 21 = .ok (.iadd, 1) := by decide +kernel
theorem dX11_wallsThere_22 : decode cX11_wallsThere 22 = .ok (.istore_n 1, 1) := by decide +kernel
theorem dX11_wallsThere_23 : decode cX11_wallsThere 23 = .ok (.iinc 2 1, 3) := by decide +kernel
theorem dX11_wallsThere_26 : decode cX11_wallsThere 26 = .ok (.goto (-22), 3) := by decide +kernel
theorem dX11_wallsThere_29 : decode cX11_wallsThere 29 = .ok (.iload_n 1, 1) := by decide +kernel
theorem dX11_wallsThere_30 : decode cX11_wallsThere 30 = .ok (.ireturn, 1) := by decide +kernel
def D_X11_wallsThere_4b (k4 : z_H → Option Nat → Int32 → Int32 → Option (Int32 × z_H)) (h : z_H) (l0 : Option Nat) (l1 : Int32) (l2 : Int32) : Option (Int32 × z_H) :=
  if (25:Int32) ≤ l2 then
    some (l1, h)
  else
    (z_gQ 11 h l0 3).bind fun x306 =>
    (z_aI .int h x306 (4:Int32)).bind fun x307 =>
    (some (l1 + ((x307 >>> (l2 &&& 31)) &&& (1:Int32)))).bind fun x308 =>
    (some (l2 + (1:Int32))).bind fun x309 =>
    k4 h l0 x308 x309
def D_X11_wallsThere_4 (n : Nat) : z_H → Option Nat → Int32 → Int32 → Option (Int32 × z_H) := Nat.rec (motive := fun _ => z_H → Option Nat → Int32 → Int32 → Option (Int32 × z_H)) (fun _ _ _ _ => none) (fun _ k => D_X11_wallsThere_4b  k) n
set_option maxRecDepth 100000 in
set_option maxHeartbeats 4000000 in
theorem S_X11_wallsThere_4 {G : z_G} {l : Launch}  (n : Nat) : ∀ {h : z_H} {l0 : Option Nat} {l1 : Int32} {l2 : Int32} {res : (Int32 × z_H)}, D_X11_wallsThere_4  n h l0 l1 l2 = some res → z_Run G l 4 M_X11_wallsThere 4 [(0, z_r l0), (1, .int l1), (2, .int l2)] [] h res.2 (some (.int res.1)) := by
  induction n with
  | zero => intro h l0 l1 l2 res e; cases e
  | succ n hk4 =>
    intro h l0 l1 l2 res e
    replace e : D_X11_wallsThere_4b  (D_X11_wallsThere_4  n) h l0 l1 l2 = some res := e
    unfold D_X11_wallsThere_4b at e
    refine z_iload_n 2 dX11_wallsThere_4 rfl ?_
    refine z_bipush (v := 25) dX11_wallsThere_5 (by decide) ?_
    refine z_icmp_ge (tgt := 29) dX11_wallsThere_7 (by decide) (fun c305 => ?_) (fun c305 => ?_)
    · rw [if_pos c305] at e
      refine z_iload_n 1 dX11_wallsThere_29 rfl ?_
      cases e
      exact z_iret dX11_wallsThere_30 rfl
    · rw [if_neg c305] at e
      refine z_iload_n 1 dX11_wallsThere_10 rfl ?_
      refine z_aload_n 0 dX11_wallsThere_11 rfl ?_
      replace e := z_bd e; obtain ⟨x306, ex306, e⟩ := e
      refine z_getQ ex306 lk_X11_13 dX11_wallsThere_12 ?_
      refine z_iconst (v := 4) dX11_wallsThere_15 (by decide) ?_
      replace e := z_bd e; obtain ⟨x307, ex307, e⟩ := e
      refine z_iald ex307 dX11_wallsThere_16 ?_
      refine z_iload_n 2 dX11_wallsThere_17 rfl ?_
      refine z_ishr dX11_wallsThere_18 ?_
      refine z_iconst (v := 1) dX11_wallsThere_19 (by decide) ?_
      refine z_iand dX11_wallsThere_20 ?_
      refine z_iadd dX11_wallsThere_21 ?_
      replace e := z_bd e; obtain ⟨x308, ex308, e⟩ := e
      refine z_topI ex308 ?_
      refine z_istore_n (L' := [(1, .int x308), (0, z_r l0), (2, .int l2)]) dX11_wallsThere_22 rfl (by decide) (by simp [z_cr]) ?_
      replace e := z_bd e; obtain ⟨x309, ex309, e⟩ := e
      refine z_iinc (q := 2) (v := x309) (L' := [(2, .int x309), (1, .int x308), (0, z_r l0)]) dX11_wallsThere_23 rfl (Option.some.inj ex309) (by decide) rfl ?_
      refine z_goto (tgt := 4) dX11_wallsThere_26 (by decide) ?_
      exact z_weak [2, 1, 0] rfl (hk4 e)
def D_X11_wallsThere (h : z_H) (l0 : Option Nat) : Option (Int32 × z_H) :=
  D_X11_wallsThere_4   z_F h l0 (0:Int32) (0:Int32)
set_option maxRecDepth 100000 in
set_option maxHeartbeats 4000000 in
theorem S_X11_wallsThere {G : z_G} {l : Launch} {h : z_H} {l0 : Option Nat} {res : (Int32 × z_H)} (e : D_X11_wallsThere h l0 = some res) : z_Meth G l 4 M_X11_wallsThere [z_r l0] h res.2 (some (.int res.1)) := by
  refine z_Meth.of ck_X11_wallsThere.2.2.2.2 (by simp [lg_sl, z_ci, z_cj, z_cr, z_cx]) ck_X11_wallsThere.1 ?_
  rw [show lv_args 0 [z_r l0] = [(0, z_r l0)] from by simp [lv_args, z_ci, z_cj, z_cr, z_cx]]
  unfold D_X11_wallsThere at e
  refine z_iconst (v := 0) dX11_wallsThere_0 (by decide) ?_
  refine z_istore_n (L' := [(1, .int (0:Int32)), (0, z_r l0)]) dX11_wallsThere_1 rfl (by decide) (by simp [z_cr]) ?_
  refine z_iconst (v := 0) dX11_wallsThere_2 (by decide) ?_
  refine z_istore_n (L' := [(2, .int (0:Int32)), (1, .int (0:Int32)), (0, z_r l0)]) dX11_wallsThere_3 rfl (by decide) rfl ?_
  exact z_weak [2, 1, 0] rfl (S_X11_wallsThere_4   z_F e)
theorem dX11_count_0 : decode cX11_count 0 = .ok (.aload_n 0, 1) := by decide +kernel
theorem dX11_count_1 : decode cX11_count 1 = .ok (.iconst 0, 1) := by decide +kernel
theorem dX11_count_2 : decode cX11_count 2 = .ok (.putfield 166, 3) := by decide +kernel
theorem dX11_count_5 : decode cX11_count 5 = .ok (.iload_n 1, 1) := by decide +kernel
theorem dX11_count_6 : decode cX11_count 6 = .ok (.tableswitch 141 0 11 #[62, 69, 74, 81, 88, 93, 98, 105, 112, 119, 126, 134], 62) := by decide +kernel
theorem dX11_count_68 : decode cX11_count 68 = .ok (.aload_n 0, 1) := by decide +kernel
theorem dX11_count_69 : decode cX11_count 69 = .ok (.getfield 13, 3) := by decide +kernel
theorem dX11_count_72 : decode cX11_count 72 = .ok (.iconst 0, 1) := by decide +kernel
theorem dX11_count_73 : decode cX11_count 73 = .ok (.iaload, 1) := by decide +kernel
theorem dX11_count_74 : decode cX11_count 74 = .ok (.ireturn, 1) := by decide +kernel
theorem dX11_count_75 : decode cX11_count 75 = .ok (.aload_n 0, 1) := by decide +kernel
theorem dX11_count_76 : decode cX11_count 76 = .ok (.invokevirtual 541, 3) := by decide +kernel
theorem dX11_count_79 : decode cX11_count 79 = .ok (.ireturn, 1) := by decide +kernel
theorem dX11_count_80 : decode cX11_count 80 = .ok (.aload_n 0, 1) := by decide +kernel
theorem dX11_count_81 : decode cX11_count 81 = .ok (.getfield 13, 3) := by decide +kernel
theorem dX11_count_84 : decode cX11_count 84 = .ok (.iconst 1, 1) := by decide +kernel
theorem dX11_count_85 : decode cX11_count 85 = .ok (.iaload, 1) := by decide +kernel
theorem dX11_count_86 : decode cX11_count 86 = .ok (.ireturn, 1) := by decide +kernel
theorem dX11_count_87 : decode cX11_count 87 = .ok (.aload_n 0, 1) := by decide +kernel
theorem dX11_count_88 : decode cX11_count 88 = .ok (.getfield 13, 3) := by decide +kernel
theorem dX11_count_91 : decode cX11_count 91 = .ok (.iconst 2, 1) := by decide +kernel
theorem dX11_count_92 : decode cX11_count 92 = .ok (.iaload, 1) := by decide +kernel
theorem dX11_count_93 : decode cX11_count 93 = .ok (.ireturn, 1) := by decide +kernel
theorem dX11_count_94 : decode cX11_count 94 = .ok (.aload_n 0, 1) := by decide +kernel
theorem dX11_count_95 : decode cX11_count 95 = .ok (.getfield 172, 3) := by decide +kernel
theorem dX11_count_98 : decode cX11_count 98 = .ok (.ireturn, 1) := by decide +kernel
theorem dX11_count_99 : decode cX11_count 99 = .ok (.aload_n 0, 1) := by decide +kernel
theorem dX11_count_100 : decode cX11_count 100 = .ok (.getfield 239, 3) := by decide +kernel
theorem dX11_count_103 : decode cX11_count 103 = .ok (.ireturn, 1) := by decide +kernel
theorem dX11_count_104 : decode cX11_count 104 = .ok (.aload_n 0, 1) := by decide +kernel
theorem dX11_count_105 : decode cX11_count 105 = .ok (.getfield 7, 3) := by decide +kernel
theorem dX11_count_108 : decode cX11_count 108 = .ok (.iconst 1, 1) := by decide +kernel
theorem dX11_count_109 : decode cX11_count 109 = .ok (.iaload, 1) := by decide +kernel
theorem dX11_count_110 : decode cX11_count 110 = .ok (.ireturn, 1) := by decide +kernel
theorem dX11_count_111 : decode cX11_count 111 = .ok (.aload_n 0, 1) := by decide +kernel
theorem dX11_count_112 : decode cX11_count 112 = .ok (.getfield 7, 3) := by decide +kernel
theorem dX11_count_115 : decode cX11_count 115 = .ok (.iconst 2, 1) := by decide +kernel
theorem dX11_count_116 : decode cX11_count 116 = .ok (.iaload, 1) := by decide +kernel
theorem dX11_count_117 : decode cX11_count 117 = .ok (.ireturn, 1) := by decide +kernel
theorem dX11_count_118 : decode cX11_count 118 = .ok (.aload_n 0, 1) := by decide +kernel
theorem dX11_count_119 : decode cX11_count 119 = .ok (.getfield 7, 3) := by decide +kernel
theorem dX11_count_122 : decode cX11_count 122 = .ok (.iconst 3, 1) := by decide +kernel
theorem dX11_count_123 : decode cX11_count 123 = .ok (.iaload, 1) := by decide +kernel
theorem dX11_count_124 : decode cX11_count 124 = .ok (.ireturn, 1) := by decide +kernel
theorem dX11_count_125 : decode cX11_count 125 = .ok (.aload_n 0, 1) := by decide +kernel
theorem dX11_count_126 : decode cX11_count 126 = .ok (.getfield 7, 3) := by decide +kernel
theorem dX11_count_129 : decode cX11_count 129 = .ok (.iconst 5, 1) := by decide +kernel
theorem dX11_count_130 : decode cX11_count 130 = .ok (.iaload, 1) := by decide +kernel
theorem dX11_count_131 : decode cX11_count 131 = .ok (.ireturn, 1) := by decide +kernel
theorem dX11_count_132 : decode cX11_count 132 = .ok (.aload_n 0, 1) := by decide +kernel
theorem dX11_count_133 : decode cX11_count 133 = .ok (.getfield 7, 3) := by decide +kernel
theorem dX11_count_136 : decode cX11_count 136 = .ok (.bipush 6, 2) := by decide +kernel
theorem dX11_count_138 : decode cX11_count 138 = .ok (.iaload, 1) := by decide +kernel
theorem dX11_count_139 : decode cX11_count 139 = .ok (.ireturn, 1) := by decide +kernel
theorem dX11_count_140 : decode cX11_count 140 = .ok (.aload_n 0, 1) := by decide +kernel
theorem dX11_count_141 : decode cX11_count 141 = .ok (.getfield 13, 3) := by decide +kernel
theorem dX11_count_144 : decode cX11_count 144 = .ok (.iconst 3, 1) := by decide +kernel
theorem dX11_count_145 : decode cX11_count 145 = .ok (.iaload, 1) := by decide +kernel
theorem dX11_count_146 : decode cX11_count 146 = .ok (.ireturn, 1) := by decide +kernel
theorem dX11_count_147 : decode cX11_count 147 = .ok (.iload_n 1, 1) := by decide +kernel
theorem dX11_count_148 : decode cX11_count 148 = .ok (.i2l, 1) := by decide +kernel
theorem dX11_count_149 : decode cX11_count 149 = .ok (.ldc2_w 573, 3) := by decide +kernel
theorem dX11_count_152 : decode cX11_count 152 = .ok (.ldc2_w 575, 3) := by decide +kernel
theorem dX11_count_155 : decode cX11_count 155 = .ok (.invokestatic 186, 3) := by decide +kernel
theorem dX11_count_158 : decode cX11_count 158 = .ok (.ifCond .eq 17, 3) := by decide +kernel
theorem dX11_count_161 : decode cX11_count 161 = .ok (.aload_n 0, 1) := by decide +kernel
theorem dX11_count_162 : decode cX11_count 162 = .ok (.getfield 13, 3) := by decide +kernel
theorem dX11_count_165 : decode cX11_count 165 = .ok (.iconst 5, 1) := by decide +kernel
theorem dX11_count_166 : decode cX11_count 166 = .ok (.iload_n 1, 1) := by decide +kernel
theorem dX11_count_167 : decode cX11_count 167 = .ok (.iadd, 1) := by decide +kernel
theorem dX11_count_168 : decode cX11_count 168 = .ok (.bipush 12, 2) := by decide +kernel
theorem dX11_count_170 : decode cX11_count 170 = .ok (.isub, 1) := by decide +kernel
theorem dX11_count_171 : decode cX11_count 171 = .ok (.iaload, 1) := by decide +kernel
theorem dX11_count_172 : decode cX11_count 172 = .ok (.goto 4, 3) := by decide +kernel
theorem dX11_count_175 : decode cX11_count 175 = .ok (.iconst (-1), 1) := by decide +kernel
theorem dX11_count_176 : decode cX11_count 176 = .ok (.ireturn, 1) := by decide +kernel
def D_X11_count (h : z_H) (l0 : Option Nat) (l1 : Int32) : Option (Int32 × z_H) :=
  (z_pV 11 h l0 0 (.int (0:Int32))).bind fun h310 =>
  if l1 = 0 then
    (z_gQ 11 h310 l0 3).bind fun x312 =>
    (z_aI .int h310 x312 (0:Int32)).bind fun x313 =>
    some (x313, h310)
  else
  if l1 = 1 then
    (z_ob 11 h310 l0).bind fun _ =>
    (D_X11_wallsThere  h310 l0).bind fun p315 =>
    some (p315.1, p315.2)
  else
  if l1 = 2 then
    (z_gQ 11 h310 l0 3).bind fun x318 =>
    (z_aI .int h310 x318 (1:Int32)).bind fun x319 =>
    some (x319, h310)
  else
  if l1 = 3 then
    (z_gQ 11 h310 l0 3).bind fun x321 =>
    (z_aI .int h310 x321 (2:Int32)).bind fun x322 =>
    some (x322, h310)
  else
  if l1 = 4 then
    (z_gI 11 h310 l0 8).bind fun x324 =>
    some (x324, h310)
  else
  if l1 = 5 then
    (z_gI 11 h310 l0 13).bind fun x326 =>
    some (x326, h310)
  else
  if l1 = 6 then
    (z_gQ 11 h310 l0 2).bind fun x328 =>
    (z_aI .int h310 x328 (1:Int32)).bind fun x329 =>
    some (x329, h310)
  else
  if l1 = 7 then
    (z_gQ 11 h310 l0 2).bind fun x331 =>
    (z_aI .int h310 x331 (2:Int32)).bind fun x332 =>
    some (x332, h310)
  else
  if l1 = 8 then
    (z_gQ 11 h310 l0 2).bind fun x334 =>
    (z_aI .int h310 x334 (3:Int32)).bind fun x335 =>
    some (x335, h310)
  else
  if l1 = 9 then
    (z_gQ 11 h310 l0 2).bind fun x337 =>
    (z_aI .int h310 x337 (5:Int32)).bind fun x338 =>
    some (x338, h310)
  else
  if l1 = 10 then
    (z_gQ 11 h310 l0 2).bind fun x340 =>
    (z_aI .int h310 x340 (6:Int32)).bind fun x341 =>
    some (x341, h310)
  else
  if l1 = 11 then
    (z_gQ 11 h310 l0 3).bind fun x343 =>
    (z_aI .int h310 x343 (3:Int32)).bind fun x344 =>
    some (x344, h310)
  else
  (D_X11_in  h310 (Int32.toInt64 l1) (12:Int64) (14:Int64)).bind fun p345 =>
  if p345.1 = 0 then
    some ((-1:Int32), p345.2)
  else
    (z_gQ 11 p345.2 l0 3).bind fun x347 =>
    (z_aI .int p345.2 x347 (((5:Int32) + l1) - (12:Int32))).bind fun x348 =>
    some (x348, p345.2)
set_option maxRecDepth 100000 in
set_option maxHeartbeats 4000000 in
theorem S_X11_count {G : z_G} {l : Launch} {h : z_H} {l0 : Option Nat} {l1 : Int32} {res : (Int32 × z_H)} (e : D_X11_count h l0 l1 = some res) : z_Meth G l 5 M_X11_count [z_r l0, .int l1] h res.2 (some (.int res.1)) := by
  refine z_Meth.of ck_X11_count.2.2.2.2 (by simp [lg_sl, z_ci, z_cj, z_cr, z_cx]) ck_X11_count.1 ?_
  rw [show lv_args 0 [z_r l0, .int l1] = [(0, z_r l0), (1, .int l1)] from by simp [lv_args, z_ci, z_cj, z_cr, z_cx]]
  unfold D_X11_count at e
  refine z_aload_n 0 dX11_count_0 rfl ?_
  refine z_iconst (v := 0) dX11_count_1 (by decide) ?_
  replace e := z_bd e; obtain ⟨h310, eh310, e⟩ := e
  refine z_putV eh310 lk_X11_166 wk_11_0 (fun _ => rfl) (fun _ => rfl) dX11_count_2 ?_
  refine z_iload_n 1 dX11_count_5 rfl ?_
  by_cases c311 : l1 = 0
  · rw [if_pos c311] at e
    refine z_tableIn (off := 62) (tgt := 68) dX11_count_6 (by rw [c311]; decide) (by rw [c311]; decide) (by rw [c311]; decide) (by decide) ?_
    refine z_aload_n 0 dX11_count_68 rfl ?_
    replace e := z_bd e; obtain ⟨x312, ex312, e⟩ := e
    refine z_getQ ex312 lk_X11_13 dX11_count_69 ?_
    refine z_iconst (v := 0) dX11_count_72 (by decide) ?_
    replace e := z_bd e; obtain ⟨x313, ex313, e⟩ := e
    refine z_iald ex313 dX11_count_73 ?_
    cases e
    exact z_iret dX11_count_74 rfl
  rw [if_neg c311] at e
  by_cases c314 : l1 = 1
  · rw [if_pos c314] at e
    refine z_tableIn (off := 69) (tgt := 75) dX11_count_6 (by rw [c314]; decide) (by rw [c314]; decide) (by rw [c314]; decide) (by decide) ?_
    refine z_aload_n 0 dX11_count_75 rfl ?_
    replace e := z_bd e; obtain ⟨o316, eo316, e⟩ := e
    replace e := z_bd e; obtain ⟨p315, ep315, e⟩ := e
    refine z_cV [] (S_X11_wallsThere  ep315) eo316 rfl ml_X11_541 ck_X11_wallsThere vk_X11_wallsThere dX11_count_76 (by decide) rfl (Nat.zero_le _) rfl ?_
    cases e
    exact z_iret dX11_count_79 rfl
  rw [if_neg c314] at e
  by_cases c317 : l1 = 2
  · rw [if_pos c317] at e
    refine z_tableIn (off := 74) (tgt := 80) dX11_count_6 (by rw [c317]; decide) (by rw [c317]; decide) (by rw [c317]; decide) (by decide) ?_
    refine z_aload_n 0 dX11_count_80 rfl ?_
    replace e := z_bd e; obtain ⟨x318, ex318, e⟩ := e
    refine z_getQ ex318 lk_X11_13 dX11_count_81 ?_
    refine z_iconst (v := 1) dX11_count_84 (by decide) ?_
    replace e := z_bd e; obtain ⟨x319, ex319, e⟩ := e
    refine z_iald ex319 dX11_count_85 ?_
    cases e
    exact z_iret dX11_count_86 rfl
  rw [if_neg c317] at e
  by_cases c320 : l1 = 3
  · rw [if_pos c320] at e
    refine z_tableIn (off := 81) (tgt := 87) dX11_count_6 (by rw [c320]; decide) (by rw [c320]; decide) (by rw [c320]; decide) (by decide) ?_
    refine z_aload_n 0 dX11_count_87 rfl ?_
    replace e := z_bd e; obtain ⟨x321, ex321, e⟩ := e
    refine z_getQ ex321 lk_X11_13 dX11_count_88 ?_
    refine z_iconst (v := 2) dX11_count_91 (by decide) ?_
    replace e := z_bd e; obtain ⟨x322, ex322, e⟩ := e
    refine z_iald ex322 dX11_count_92 ?_
    cases e
    exact z_iret dX11_count_93 rfl
  rw [if_neg c320] at e
  by_cases c323 : l1 = 4
  · rw [if_pos c323] at e
    refine z_tableIn (off := 88) (tgt := 94) dX11_count_6 (by rw [c323]; decide) (by rw [c323]; decide) (by rw [c323]; decide) (by decide) ?_
    refine z_aload_n 0 dX11_count_94 rfl ?_
    replace e := z_bd e; obtain ⟨x324, ex324, e⟩ := e
    refine z_getI ex324 lk_X11_172 dX11_count_95 ?_
    cases e
    exact z_iret dX11_count_98 rfl
  rw [if_neg c323] at e
  by_cases c325 : l1 = 5
  · rw [if_pos c325] at e
    refine z_tableIn (off := 93) (tgt := 99) dX11_count_6 (by rw [c325]; decide) (by rw [c325]; decide) (by rw [c325]; decide) (by decide) ?_
    refine z_aload_n 0 dX11_count_99 rfl ?_
    replace e := z_bd e; obtain ⟨x326, ex326, e⟩ := e
    refine z_getI ex326 lk_X11_239 dX11_count_100 ?_
    cases e
    exact z_iret dX11_count_103 rfl
  rw [if_neg c325] at e
  by_cases c327 : l1 = 6
  · rw [if_pos c327] at e
    refine z_tableIn (off := 98) (tgt := 104) dX11_count_6 (by rw [c327]; decide) (by rw [c327]; decide) (by rw [c327]; decide) (by decide) ?_
    refine z_aload_n 0 dX11_count_104 rfl ?_
    replace e := z_bd e; obtain ⟨x328, ex328, e⟩ := e
    refine z_getQ ex328 lk_X11_7 dX11_count_105 ?_
    refine z_iconst (v := 1) dX11_count_108 (by decide) ?_
    replace e := z_bd e; obtain ⟨x329, ex329, e⟩ := e
    refine z_iald ex329 dX11_count_109 ?_
    cases e
    exact z_iret dX11_count_110 rfl
  rw [if_neg c327] at e
  by_cases c330 : l1 = 7
  · rw [if_pos c330] at e
    refine z_tableIn (off := 105) (tgt := 111) dX11_count_6 (by rw [c330]; decide) (by rw [c330]; decide) (by rw [c330]; decide) (by decide) ?_
    refine z_aload_n 0 dX11_count_111 rfl ?_
    replace e := z_bd e; obtain ⟨x331, ex331, e⟩ := e
    refine z_getQ ex331 lk_X11_7 dX11_count_112 ?_
    refine z_iconst (v := 2) dX11_count_115 (by decide) ?_
    replace e := z_bd e; obtain ⟨x332, ex332, e⟩ := e
    refine z_iald ex332 dX11_count_116 ?_
    cases e
    exact z_iret dX11_count_117 rfl
  rw [if_neg c330] at e
  by_cases c333 : l1 = 8
  · rw [if_pos c333] at e
    refine z_tableIn (off := 112) (tgt := 118) dX11_count_6 (by rw [c333]; decide) (by rw [c333]; decide) (by rw [c333]; decide) (by decide) ?_
    refine z_aload_n 0 dX11_count_118 rfl ?_
    replace e := z_bd e; obtain ⟨x334, ex334, e⟩ := e
    refine z_getQ ex334 lk_X11_7 dX11_count_119 ?_
    refine z_iconst (v := 3) dX11_count_122 (by decide) ?_
    replace e := z_bd e; obtain ⟨x335, ex335, e⟩ := e
    refine z_iald ex335 dX11_count_123 ?_
    cases e
    exact z_iret dX11_count_124 rfl
  rw [if_neg c333] at e
  by_cases c336 : l1 = 9
  · rw [if_pos c336] at e
    refine z_tableIn (off := 119) (tgt := 125) dX11_count_6 (by rw [c336]; decide) (by rw [c336]; decide) (by rw [c336]; decide) (by decide) ?_
    refine z_aload_n 0 dX11_count_125 rfl ?_
    replace e := z_bd e; obtain ⟨x337, ex337, e⟩ := e
    refine z_getQ ex337 lk_X11_7 dX11_count_126 ?_
    refine z_iconst (v := 5) dX11_count_129 (by decide) ?_
    replace e := z_bd e; obtain ⟨x338, ex338, e⟩ := e
    refine z_iald ex338 dX11_count_130 ?_
    cases e
    exact z_iret dX11_count_131 rfl
  rw [if_neg c336] at e
  by_cases c339 : l1 = 10
  · rw [if_pos c339] at e
    refine z_tableIn (off := 126) (tgt := 132) dX11_count_6 (by rw [c339]; decide) (by rw [c339]; decide) (by rw [c339]; decide) (by decide) ?_
    refine z_aload_n 0 dX11_count_132 rfl ?_
    replace e := z_bd e; obtain ⟨x340, ex340, e⟩ := e
    refine z_getQ ex340 lk_X11_7 dX11_count_133 ?_
    refine z_bipush (v := 6) dX11_count_136 (by decide) ?_
    replace e := z_bd e; obtain ⟨x341, ex341, e⟩ := e
    refine z_iald ex341 dX11_count_138 ?_
    cases e
    exact z_iret dX11_count_139 rfl
  rw [if_neg c339] at e
  by_cases c342 : l1 = 11
  · rw [if_pos c342] at e
    refine z_tableIn (off := 134) (tgt := 140) dX11_count_6 (by rw [c342]; decide) (by rw [c342]; decide) (by rw [c342]; decide) (by decide) ?_
    refine z_aload_n 0 dX11_count_140 rfl ?_
    replace e := z_bd e; obtain ⟨x343, ex343, e⟩ := e
    refine z_getQ ex343 lk_X11_13 dX11_count_141 ?_
    refine z_iconst (v := 3) dX11_count_144 (by decide) ?_
    replace e := z_bd e; obtain ⟨x344, ex344, e⟩ := e
    refine z_iald ex344 dX11_count_145 ?_
    cases e
    exact z_iret dX11_count_146 rfl
  rw [if_neg c342] at e
  have nc311 := lv_neT (a := 0) c311 (by decide)
  have nc314 := lv_neT (a := 1) c314 (by decide)
  have nc317 := lv_neT (a := 2) c317 (by decide)
  have nc320 := lv_neT (a := 3) c320 (by decide)
  have nc323 := lv_neT (a := 4) c323 (by decide)
  have nc325 := lv_neT (a := 5) c325 (by decide)
  have nc327 := lv_neT (a := 6) c327 (by decide)
  have nc330 := lv_neT (a := 7) c330 (by decide)
  have nc333 := lv_neT (a := 8) c333 (by decide)
  have nc336 := lv_neT (a := 9) c336 (by decide)
  have nc339 := lv_neT (a := 10) c339 (by decide)
  have nc342 := lv_neT (a := 11) c342 (by decide)
  refine z_tableOut (tgt := 147) dX11_count_6 (by omega) (by decide) ?_
  refine z_iload_n 1 dX11_count_147 rfl ?_
  refine z_i2l dX11_count_148 ?_
  refine z_ldc2 dX11_count_149 kj_X11_573 ?_
  refine z_ldc2 dX11_count_152 kj_X11_575 ?_
  replace e := z_bd e; obtain ⟨p345, ep345, e⟩ := e
  refine z_cS [.long (Int32.toInt64 l1), .long (12:Int64), .long (14:Int64)] (S_X11_in  ep345) ml_X11_186 ck_X11_in st_X11_in dX11_count_155 (by decide) rfl (Nat.zero_le _) rfl ?_
  refine z_if_eq (tgt := 175) dX11_count_158 (by decide) (fun c346 => ?_) (fun c346 => ?_)
  · rw [if_pos c346] at e
    refine z_iconst (v := -1) dX11_count_175 (by decide) ?_
    cases e
    exact z_iret dX11_count_176 rfl
  · rw [if_neg c346] at e
    refine z_aload_n 0 dX11_count_161 rfl ?_
    replace e := z_bd e; obtain ⟨x347, ex347, e⟩ := e
    refine z_getQ ex347 lk_X11_13 dX11_count_162 ?_
    refine z_iconst (v := 5) dX11_count_165 (by decide) ?_
    refine z_iload_n 1 dX11_count_166 rfl ?_
    refine z_iadd dX11_count_167 ?_
    refine z_bipush (v := 12) dX11_count_168 (by decide) ?_
    refine z_isub dX11_count_170 ?_
    replace e := z_bd e; obtain ⟨x348, ex348, e⟩ := e
    refine z_iald ex348 dX11_count_171 ?_
    refine z_goto (tgt := 176) dX11_count_172 (by decide) ?_
    cases e
    exact z_iret dX11_count_176 rfl
theorem dX10_refuse_0 : decode cX10_refuse 0 = .ok (.aload_n 0, 1) := by decide +kernel
theorem dX10_refuse_1 : decode cX10_refuse 1 = .ok (.iload_n 1, 1) := by decide +kernel
theorem dX10_refuse_2 : decode cX10_refuse 2 = .ok (.putfield 93, 3) := by decide +kernel
theorem dX10_refuse_5 : decode cX10_refuse 5 = .ok (.aload_n 0, 1) := by decide +kernel
theorem dX10_refuse_6 : decode cX10_refuse 6 = .ok (.getfield 89, 3) := by decide +kernel
theorem dX10_refuse_9 : decode cX10_refuse 9 = .ok (.iload_n 1, 1) := by decide +kernel
theorem dX10_refuse_10 : decode cX10_refuse 10 = .ok (.ineg, 1) := by decide +kernel
theorem dX10_refuse_11 : decode cX10_refuse 11 = .ok (.dup2, 1) := by decide +kernel
theorem dX10_refuse_12 : decode cX10_refuse 12 = .ok (.iaload, 1) := by decide +kernel
theorem dX10_refuse_13 : decode cX10_refuse 13 = .ok (.iconst 1, 1) := by decide +kernel
theorem dX10_refuse_14 : decode cX10_refuse 14 = .ok (.iadd, 1) := by decide +kernel
theorem dX10_refuse_15 : decode cX10_refuse 15 = .ok (.iastore, 1) := by decide +kernel
theorem dX10_refuse_16 : decode cX10_refuse 16 = .ok (.iload_n 1, 1) := by decide +kernel
theorem dX10_refuse_17 : decode cX10_refuse 17 = .ok (.ireturn, 1) := by decide +kernel
def D_X10_refuse (h : z_H) (l0 : Option Nat) (l1 : Int32) : Option (Int32 × z_H) :=
  (z_pV 10 h l0 13 (.int l1)).bind fun h349 =>
  (z_gQ 10 h349 l0 12).bind fun x350 =>
  (z_aI .int h349 x350 (-l1)).bind fun x351 =>
  (z_sI h349 x350 (-l1) (x351 + (1:Int32))).bind fun h352 =>
  some (l1, h352)
set_option maxRecDepth 100000 in
set_option maxHeartbeats 4000000 in
theorem S_X10_refuse {G : z_G} {l : Launch} {h : z_H} {l0 : Option Nat} {l1 : Int32} {res : (Int32 × z_H)} (e : D_X10_refuse h l0 l1 = some res) : z_Meth G l 4 M_X10_refuse [z_r l0, .int l1] h res.2 (some (.int res.1)) := by
  refine z_Meth.of ck_X10_refuse.2.2.2.2 (by simp [lg_sl, z_ci, z_cj, z_cr, z_cx]) ck_X10_refuse.1 ?_
  rw [show lv_args 0 [z_r l0, .int l1] = [(0, z_r l0), (1, .int l1)] from by simp [lv_args, z_ci, z_cj, z_cr, z_cx]]
  unfold D_X10_refuse at e
  refine z_aload_n 0 dX10_refuse_0 rfl ?_
  refine z_iload_n 1 dX10_refuse_1 rfl ?_
  replace e := z_bd e; obtain ⟨h349, eh349, e⟩ := e
  refine z_putV eh349 lk_X10_93 wk_10_13 (fun _ => rfl) (fun _ => rfl) dX10_refuse_2 ?_
  refine z_aload_n 0 dX10_refuse_5 rfl ?_
  replace e := z_bd e; obtain ⟨x350, ex350, e⟩ := e
  refine z_getQ ex350 lk_X10_89 dX10_refuse_6 ?_
  refine z_iload_n 1 dX10_refuse_9 rfl ?_
  refine z_ineg dX10_refuse_10 ?_
  refine z_dup2 dX10_refuse_11 rfl (z_cr _) ?_
  replace e := z_bd e; obtain ⟨x351, ex351, e⟩ := e
  refine z_iald ex351 dX10_refuse_12 ?_
  refine z_iconst (v := 1) dX10_refuse_13 (by decide) ?_
  refine z_iadd dX10_refuse_14 ?_
  replace e := z_bd e; obtain ⟨h352, eh352, e⟩ := e
  refine z_iast eh352 dX10_refuse_15 ?_
  refine z_iload_n 1 dX10_refuse_16 rfl ?_
  cases e
  exact z_iret dX10_refuse_17 rfl
theorem dX9_become_0 : decode cX9_become 0 = .ok (.aload_n 1, 1) := by decide +kernel
theorem dX9_become_1 : decode cX9_become 1 = .ok (.getfield 9, 3) := by decide +kernel
theorem dX9_become_4 : decode cX9_become 4 = .ok (.iconst 0, 1) := by decide +kernel
theorem dX9_become_5 : decode cX9_become 5 = .ok (.aload_n 0, 1) := by decide +kernel
theorem dX9_become_6 : decode cX9_become 6 = .ok (.getfield 9, 3) := by decide +kernel
theorem dX9_become_9 : decode cX9_become 9 = .ok (.iconst 0, 1) := by decide +kernel
theorem dX9_become_10 : decode cX9_become 10 = .ok (.bipush 6, 2) := by decide +kernel
theorem dX9_become_12 : decode cX9_become 12 = .ok (.invokestatic 58, 3) := by decide +kernel
theorem dX9_become_15 : decode cX9_become 15 = .ok (.aload_n 1, 1) := by decide +kernel
theorem dX9_become_16 : decode cX9_become 16 = .ok (.getfield 15, 3) := by decide +kernel
theorem dX9_become_19 : decode cX9_become 19 = .ok (.iconst 0, 1) := by decide +kernel
theorem dX9_become_20 : decode cX9_become 20 = .ok (.aload_n 0, 1) := by decide +kernel
theorem dX9_become_21 : decode cX9_become 21 = .ok (.getfield 15, 3) := by decide +kernel
theorem dX9_become_24 : decode cX9_become 24 = .ok (.iconst 0, 1) := by decide +kernel
theorem dX9_become_25 : decode cX9_become 25 = .ok (.bipush 6, 2) := by decide +kernel
theorem dX9_become_27 : decode cX9_become 27 = .ok (.invokestatic 58, 3) := by decide +kernel
theorem dX9_become_30 : decode cX9_become 30 = .ok (.aload_n 1, 1) := by decide +kernel
theorem dX9_become_31 : decode cX9_become 31 = .ok (.getfield 18, 3) := by decide +kernel
theorem dX9_become_34 : decode cX9_become 34 = .ok (.iconst 0, 1) := by decide +kernel
theorem dX9_become_35 : decode cX9_become 35 = .ok (.aload_n 0, 1) := by decide +kernel
theorem dX9_become_36 : decode cX9_become 36 = .ok (.getfield 18, 3) := by decide +kernel
theorem dX9_become_39 : decode cX9_become 39 = .ok (.iconst 0, 1) := by decide +kernel
theorem dX9_become_40 : decode cX9_become 40 = .ok (.bipush 6, 2) := by decide +kernel
theorem dX9_become_42 : decode cX9_become 42 = .ok (.invokestatic 58, 3) := by decide +kernel
theorem dX9_become_45 : decode cX9_become 45 = .ok (.aload_n 1, 1) := by decide +kernel
theorem dX9_become_46 : decode cX9_become 46 = .ok (.getfield 21, 3) := by decide +kernel
theorem dX9_become_49 : decode cX9_become 49 = .ok (.iconst 0, 1) := by decide +kernel
theorem dX9_become_50 : decode cX9_become 50 = .ok (.aload_n 0, 1) := by decide +kernel
theorem dX9_become_51 : decode cX9_become 51 = .ok (.getfield 21, 3) := by decide +kernel
theorem dX9_become_54 : decode cX9_become 54 = .ok (.iconst 0, 1) := by decide +kernel
theorem dX9_become_55 : decode cX9_become 55 = .ok (.bipush 24, 2) := by decide +kernel
theorem dX9_become_57 : decode cX9_become 57 = .ok (.invokestatic 58, 3) := by decide +kernel
theorem dX9_become_60 : decode cX9_become 60 = .ok (.aload_n 1, 1) := by decide +kernel
theorem dX9_become_61 : decode cX9_become 61 = .ok (.getfield 27, 3) := by decide +kernel
theorem dX9_become_64 : decode cX9_become 64 = .ok (.iconst 0, 1) := by decide +kernel
theorem dX9_become_65 : decode cX9_become 65 = .ok (.aload_n 0, 1) := by decide +kernel
theorem dX9_become_66 : decode cX9_become 66 = .ok (.getfield 27, 3) := by decide +kernel
theorem dX9_become_69 : decode cX9_become 69 = .ok (.iconst 0, 1) := by decide +kernel
theorem dX9_become_70 : decode cX9_become 70 = .ok (.getstatic 24, 3) := by decide +kernel
theorem dX9_become_73 : decode cX9_become 73 = .ok (.arraylength, 1) := by decide +kernel
theorem dX9_become_74 : decode cX9_become 74 = .ok (.invokestatic 58, 3) := by decide +kernel
theorem dX9_become_77 : decode cX9_become 77 = .ok (.aload_n 1, 1) := by decide +kernel
theorem dX9_become_78 : decode cX9_become 78 = .ok (.getfield 30, 3) := by decide +kernel
theorem dX9_become_81 : decode cX9_become 81 = .ok (.iconst 0, 1) := by decide +kernel
theorem dX9_become_82 : decode cX9_become 82 = .ok (.aload_n 0, 1) := by decide +kernel
theorem dX9_become_83 : decode cX9_become 83 = .ok (.getfield 30, 3) := by decide +kernel
theorem dX9_become_86 : decode cX9_become 86 = .ok (.iconst 0, 1) := by decide +kernel
theorem dX9_become_87 : decode cX9_become 87 = .ok (.bipush 6, 2) := by decide +kernel
theorem dX9_become_89 : decode cX9_become 89 = .ok (.invokestatic 58, 3) := by decide +kernel
theorem dX9_become_92 : decode cX9_become 92 = .ok (.aload_n 1, 1) := by decide +kernel
theorem dX9_become_93 : decode cX9_become 93 = .ok (.getfield 33, 3) := by decide +kernel
theorem dX9_become_96 : decode cX9_become 96 = .ok (.iconst 0, 1) := by decide +kernel
theorem dX9_become_97 : decode cX9_become 97 = .ok (.aload_n 0, 1) := by decide +kernel
theorem dX9_become_98 : decode cX9_become 98 = .ok (.getfield 33, 3) := by decide +kernel
theorem dX9_become_101 : decode cX9_become 101 = .ok (.iconst 0, 1) := by decide +kernel
theorem dX9_become_102 : decode cX9_become 102 = .ok (.bipush 6, 2) := by decide +kernel
theorem dX9_become_104 : decode cX9_become 104 = .ok (.invokestatic 58, 3) := by decide +kernel
theorem dX9_become_107 : decode cX9_become 107 = .ok (.iconst 0, 1) := by decide +kernel
theorem dX9_become_108 : decode cX9_become 108 = .ok (.istore_n 2, 1) := by decide +kernel
theorem dX9_become_109 : decode cX9_become 109 = .ok (.iload_n 2, 1) := by decide +kernel
theorem dX9_become_110 : decode cX9_become 110 = .ok (.bipush 6, 2) := by decide +kernel
theorem dX9_become_112 : decode cX9_become 112 = .ok (.if_icmp .ge 21, 3) := by decide +kernel
theorem dX9_become_115 : decode cX9_become 115 = .ok (.aload_n 0, 1) := by decide +kernel
theorem dX9_become_116 : decode cX9_become 116 = .ok (.getfield 38, 3) := by decide +kernel
theorem dX9_become_119 : decode cX9_become 119 = .ok (.iload_n 2, 1) := by decide +kernel
theorem dX9_become_120 : decode cX9_become 120 = .ok (.aload_n 1, 1) := by decide +kernel
theorem dX9_become_121 : decode cX9_become 121 = .ok (.getfield 38, 3) := by decide +kernel
theorem dX9_become_124 : decode cX9_become 124 = .ok (.iload_n 2, 1) := by decide +kernel
theorem dX9_become_125 : decode cX9_become 125 = .ok (.aaload, 1) := by decide +kernel
theorem dX9_become_126 : decode cX9_become 126 = .ok (.aastore, 1) := by decide +kernel
theorem dX9_become_127 : decode cX9_become 127 = .ok (.iinc 2 1, 3) := by decide +kernel
theorem dX9_become_130 : decode cX9_become 130 = .ok (.goto (-21), 3) := by decide +kernel
theorem dX9_become_133 : decode cX9_become 133 = .ok (.aload_n 0, 1) := by decide +kernel
theorem dX9_become_134 : decode cX9_become 134 = .ok (.aload_n 1, 1) := by decide +kernel
theorem dX9_become_135 : decode cX9_become 135 = .ok (.getfield 42, 3) := by decide +kernel
theorem dX9_become_138 : decode cX9_become 138 = .ok (.putfield 42, 3) := by decide +kernel
theorem dX9_become_141 : decode cX9_become 141 = .ok (.aload_n 0, 1) := by decide +kernel
theorem dX9_become_142 : decode cX9_become 142 = .ok (.aload_n 1, 1) := by decide +kernel
theorem dX9_become_143 : decode cX9_become 143 = .ok (.getfield 46, 3) := by decide +kernel
theorem dX9_become_146 : decode cX9_become 146 = .ok (.putfield 46, 3) := by decide +kernel
theorem dX9_become_149 : decode cX9_become 149 = .ok (.aload_n 0, 1) := by decide +kernel
theorem dX9_become_150 : decode cX9_become 150 = .ok (.aload_n 1, 1) := by decide +kernel
theorem dX9_become_151 : decode cX9_become 151 = .ok (.getfield 49, 3) := by decide +kernel
theorem dX9_become_154 : decode cX9_become 154 = .ok (.putfield 49, 3) := by decide +kernel
theorem dX9_become_157 : decode cX9_become 157 = .ok (.aload_n 0, 1) := by decide +kernel
theorem dX9_become_158 : decode cX9_become 158 = .ok (.aload_n 1, 1) := by decide +kernel
theorem dX9_become_159 : decode cX9_become 159 = .ok (.getfield 52, 3) := by decide +kernel
theorem dX9_become_162 : decode cX9_become 162 = .ok (.putfield 52, 3) := by decide +kernel
theorem dX9_become_165 : decode cX9_become 165 = .ok (.aload_n 0, 1) := by decide +kernel
theorem dX9_become_166 : decode cX9_become 166 = .ok (.aload_n 1, 1) := by decide +kernel
theorem dX9_become_167 : decode cX9_become 167 = .ok (.getfield 55, 3) := by decide +kernel
theorem dX9_become_170 : decode cX9_become 170 = .ok (.putfield 55, 3) := by decide +kernel
theorem dX9_become_173 : decode cX9_become 173 = .ok (.return_, 1) := by decide +kernel
def D_X9_become_109b (k109 : z_H → Option Nat → Option Nat → Int32 → Option z_H) (h : z_H) (l0 : Option Nat) (l1 : Option Nat) (l2 : Int32) : Option z_H :=
  if (6:Int32) ≤ l2 then
    (z_gI 9 h l1 8).bind fun x354 =>
    (z_pV 9 h l0 8 (.int x354)).bind fun h355 =>
    (z_gI 9 h355 l1 9).bind fun x356 =>
    (z_pV 9 h355 l0 9 (.int x356)).bind fun h357 =>
    (z_gI 9 h357 l1 10).bind fun x358 =>
    (z_pV 9 h357 l0 10 (.int x358)).bind fun h359 =>
    (z_gI 9 h359 l1 11).bind fun x360 =>
    (z_pV 9 h359 l0 11 (.int x360)).bind fun h361 =>
    (z_gI 9 h361 l1 12).bind fun x362 =>
    (z_pV 9 h361 l0 12 (.int x362)).bind fun h363 =>
    some h363
  else
    (z_gQ 9 h l0 7).bind fun x364 =>
    (z_gQ 9 h l1 7).bind fun x365 =>
    (z_aQ RX7 h x365 l2).bind fun x366 =>
    (z_sQ RX7 7 h x364 l2 x366).bind fun h367 =>
    (some (l2 + (1:Int32))).bind fun x368 =>
    k109 h367 l0 l1 x368
def D_X9_become_109 (n : Nat) : z_H → Option Nat → Option Nat → Int32 → Option z_H := Nat.rec (motive := fun _ => z_H → Option Nat → Option Nat → Int32 → Option z_H) (fun _ _ _ _ => none) (fun _ k => D_X9_become_109b  k) n
set_option maxRecDepth 100000 in
set_option maxHeartbeats 4000000 in
theorem S_X9_become_109 {G : z_G} {l : Launch}  (n : Nat) : ∀ {h : z_H} {l0 : Option Nat} {l1 : Option Nat} {l2 : Int32} {res : z_H}, D_X9_become_109  n h l0 l1 l2 = some res → z_Run G l 4 M_X9_become 109 [(0, z_r l0), (1, z_r l1), (2, .int l2)] [] h res none := by
  induction n with
  | zero => intro h l0 l1 l2 res e; cases e
  | succ n hk109 =>
    intro h l0 l1 l2 res e
    replace e : D_X9_become_109b  (D_X9_become_109  n) h l0 l1 l2 = some res := e
    unfold D_X9_become_109b at e
    refine z_iload_n 2 dX9_become_109 rfl ?_
    refine z_bipush (v := 6) dX9_become_110 (by decide) ?_
    refine z_icmp_ge (tgt := 133) dX9_become_112 (by decide) (fun c353 => ?_) (fun c353 => ?_)
    · rw [if_pos c353] at e
      refine z_aload_n 0 dX9_become_133 rfl ?_
      refine z_aload_n 1 dX9_become_134 rfl ?_
      replace e := z_bd e; obtain ⟨x354, ex354, e⟩ := e
      refine z_getI ex354 lk_X9_42 dX9_become_135 ?_
      replace e := z_bd e; obtain ⟨h355, eh355, e⟩ := e
      refine z_putV eh355 lk_X9_42 wk_9_8 (fun _ => rfl) (fun _ => rfl) dX9_become_138 ?_
      refine z_aload_n 0 dX9_become_141 rfl ?_
      refine z_aload_n 1 dX9_become_142 rfl ?_
      replace e := z_bd e; obtain ⟨x356, ex356, e⟩ := e
      refine z_getI ex356 lk_X9_46 dX9_become_143 ?_
      replace e := z_bd e; obtain ⟨h357, eh357, e⟩ := e
      refine z_putV eh357 lk_X9_46 wk_9_9 (fun _ => rfl) (fun _ => rfl) dX9_become_146 ?_
      refine z_aload_n 0 dX9_become_149 rfl ?_
      refine z_aload_n 1 dX9_become_150 rfl ?_
      replace e := z_bd e; obtain ⟨x358, ex358, e⟩ := e
      refine z_getI ex358 lk_X9_49 dX9_become_151 ?_
      replace e := z_bd e; obtain ⟨h359, eh359, e⟩ := e
      refine z_putV eh359 lk_X9_49 wk_9_10 (fun _ => rfl) (fun _ => rfl) dX9_become_154 ?_
      refine z_aload_n 0 dX9_become_157 rfl ?_
      refine z_aload_n 1 dX9_become_158 rfl ?_
      replace e := z_bd e; obtain ⟨x360, ex360, e⟩ := e
      refine z_getI ex360 lk_X9_52 dX9_become_159 ?_
      replace e := z_bd e; obtain ⟨h361, eh361, e⟩ := e
      refine z_putV eh361 lk_X9_52 wk_9_11 (fun _ => rfl) (fun _ => rfl) dX9_become_162 ?_
      refine z_aload_n 0 dX9_become_165 rfl ?_
      refine z_aload_n 1 dX9_become_166 rfl ?_
      replace e := z_bd e; obtain ⟨x362, ex362, e⟩ := e
      refine z_getI ex362 lk_X9_55 dX9_become_167 ?_
      replace e := z_bd e; obtain ⟨h363, eh363, e⟩ := e
      refine z_putV eh363 lk_X9_55 wk_9_12 (fun _ => rfl) (fun _ => rfl) dX9_become_170 ?_
      cases e
      exact z_vret dX9_become_173 rfl
    · rw [if_neg c353] at e
      refine z_aload_n 0 dX9_become_115 rfl ?_
      replace e := z_bd e; obtain ⟨x364, ex364, e⟩ := e
      refine z_getQ ex364 lk_X9_38 dX9_become_116 ?_
      refine z_iload_n 2 dX9_become_119 rfl ?_
      refine z_aload_n 1 dX9_become_120 rfl ?_
      replace e := z_bd e; obtain ⟨x365, ex365, e⟩ := e
      refine z_getQ ex365 lk_X9_38 dX9_become_121 ?_
      refine z_iload_n 2 dX9_become_124 rfl ?_
      replace e := z_bd e; obtain ⟨x366, ex366, e⟩ := e
      refine z_aald 4 rfl ex366 dX9_become_125 ?_
      replace e := z_bd e; obtain ⟨h367, eh367, e⟩ := e
      refine z_aast 4 rfl rfl eh367 dX9_become_126 ?_
      replace e := z_bd e; obtain ⟨x368, ex368, e⟩ := e
      refine z_iinc (q := 2) (v := x368) (L' := [(2, .int x368), (0, z_r l0), (1, z_r l1)]) dX9_become_127 rfl (Option.some.inj ex368) (by decide) (by simp [z_cr]) ?_
      refine z_goto (tgt := 109) dX9_become_130 (by decide) ?_
      exact z_weak [1, 2, 0] rfl (hk109 e)
def D_X9_become (h : z_H) (l0 : Option Nat) (l1 : Option Nat) : Option z_H :=
  (z_gQ 9 h l1 0).bind fun x369 =>
  (z_gQ 9 h l0 0).bind fun x370 =>
  (z_cI h x369 (0:Int32) x370 (0:Int32) (6:Int32)).bind fun h371 =>
  (z_gQ 9 h371 l1 1).bind fun x372 =>
  (z_gQ 9 h371 l0 1).bind fun x373 =>
  (z_cI h371 x372 (0:Int32) x373 (0:Int32) (6:Int32)).bind fun h374 =>
  (z_gQ 9 h374 l1 2).bind fun x375 =>
  (z_gQ 9 h374 l0 2).bind fun x376 =>
  (z_cI h374 x375 (0:Int32) x376 (0:Int32) (6:Int32)).bind fun h377 =>
  (z_gQ 9 h377 l1 3).bind fun x378 =>
  (z_gQ 9 h377 l0 3).bind fun x379 =>
  (z_cI h377 x378 (0:Int32) x379 (0:Int32) (24:Int32)).bind fun h380 =>
  (z_gQ 9 h380 l1 4).bind fun x381 =>
  (z_gQ 9 h380 l0 4).bind fun x382 =>
  (z_cI h380 x381 (0:Int32) x382 (0:Int32) (Int32.ofNat (z_xs 1).1)).bind fun h383 =>
  (z_gQ 9 h383 l1 5).bind fun x384 =>
  (z_gQ 9 h383 l0 5).bind fun x385 =>
  (z_cI h383 x384 (0:Int32) x385 (0:Int32) (6:Int32)).bind fun h386 =>
  (z_gQ 9 h386 l1 6).bind fun x387 =>
  (z_gQ 9 h386 l0 6).bind fun x388 =>
  (z_cI h386 x387 (0:Int32) x388 (0:Int32) (6:Int32)).bind fun h389 =>
  D_X9_become_109   z_F h389 l0 l1 (0:Int32)
set_option maxRecDepth 100000 in
set_option maxHeartbeats 4000000 in
theorem S_X9_become {G : z_G} {l : Launch} {h : z_H} {l0 : Option Nat} {l1 : Option Nat} {res : z_H} (e : D_X9_become h l0 l1 = some res) : z_Meth G l 4 M_X9_become [z_r l0, z_r l1] h res none := by
  refine z_Meth.of ck_X9_become.2.2.2.2 (by simp [lg_sl, z_ci, z_cj, z_cr, z_cx]) ck_X9_become.1 ?_
  rw [show lv_args 0 [z_r l0, z_r l1] = [(0, z_r l0), (1, z_r l1)] from by simp [lv_args, z_ci, z_cj, z_cr, z_cx]]
  unfold D_X9_become at e
  refine z_aload_n 1 dX9_become_0 rfl ?_
  replace e := z_bd e; obtain ⟨x369, ex369, e⟩ := e
  refine z_getQ ex369 lk_X9_9 dX9_become_1 ?_
  refine z_iconst (v := 0) dX9_become_4 (by decide) ?_
  refine z_aload_n 0 dX9_become_5 rfl ?_
  replace e := z_bd e; obtain ⟨x370, ex370, e⟩ := e
  refine z_getQ ex370 lk_X9_9 dX9_become_6 ?_
  refine z_iconst (v := 0) dX9_become_9 (by decide) ?_
  refine z_bipush (v := 6) dX9_become_10 (by decide) ?_
  replace e := z_bd e; obtain ⟨h371, eh371, e⟩ := e
  refine z_cpyI eh371 ml_X9_58 z_acok (by decide) (Nat.zero_le _) dX9_become_12 ?_
  refine z_aload_n 1 dX9_become_15 rfl ?_
  replace e := z_bd e; obtain ⟨x372, ex372, e⟩ := e
  refine z_getQ ex372 lk_X9_15 dX9_become_16 ?_
  refine z_iconst (v := 0) dX9_become_19 (by decide) ?_
  refine z_aload_n 0 dX9_become_20 rfl ?_
  replace e := z_bd e; obtain ⟨x373, ex373, e⟩ := e
  refine z_getQ ex373 lk_X9_15 dX9_become_21 ?_
  refine z_iconst (v := 0) dX9_become_24 (by decide) ?_
  refine z_bipush (v := 6) dX9_become_25 (by decide) ?_
  replace e := z_bd e; obtain ⟨h374, eh374, e⟩ := e
  refine z_cpyI eh374 ml_X9_58 z_acok (by decide) (Nat.zero_le _) dX9_become_27 ?_
  refine z_aload_n 1 dX9_become_30 rfl ?_
  replace e := z_bd e; obtain ⟨x375, ex375, e⟩ := e
  refine z_getQ ex375 lk_X9_18 dX9_become_31 ?_
  refine z_iconst (v := 0) dX9_become_34 (by decide) ?_
  refine z_aload_n 0 dX9_become_35 rfl ?_
  replace e := z_bd e; obtain ⟨x376, ex376, e⟩ := e
  refine z_getQ ex376 lk_X9_18 dX9_become_36 ?_
  refine z_iconst (v := 0) dX9_become_39 (by decide) ?_
  refine z_bipush (v := 6) dX9_become_40 (by decide) ?_
  replace e := z_bd e; obtain ⟨h377, eh377, e⟩ := e
  refine z_cpyI eh377 ml_X9_58 z_acok (by decide) (Nat.zero_le _) dX9_become_42 ?_
  refine z_aload_n 1 dX9_become_45 rfl ?_
  replace e := z_bd e; obtain ⟨x378, ex378, e⟩ := e
  refine z_getQ ex378 lk_X9_21 dX9_become_46 ?_
  refine z_iconst (v := 0) dX9_become_49 (by decide) ?_
  refine z_aload_n 0 dX9_become_50 rfl ?_
  replace e := z_bd e; obtain ⟨x379, ex379, e⟩ := e
  refine z_getQ ex379 lk_X9_21 dX9_become_51 ?_
  refine z_iconst (v := 0) dX9_become_54 (by decide) ?_
  refine z_bipush (v := 24) dX9_become_55 (by decide) ?_
  replace e := z_bd e; obtain ⟨h380, eh380, e⟩ := e
  refine z_cpyI eh380 ml_X9_58 z_acok (by decide) (Nat.zero_le _) dX9_become_57 ?_
  refine z_aload_n 1 dX9_become_60 rfl ?_
  replace e := z_bd e; obtain ⟨x381, ex381, e⟩ := e
  refine z_getQ ex381 lk_X9_27 dX9_become_61 ?_
  refine z_iconst (v := 0) dX9_become_64 (by decide) ?_
  refine z_aload_n 0 dX9_become_65 rfl ?_
  replace e := z_bd e; obtain ⟨x382, ex382, e⟩ := e
  refine z_getQ ex382 lk_X9_27 dX9_become_66 ?_
  refine z_iconst (v := 0) dX9_become_69 (by decide) ?_
  refine z_getsN (q := (1, "TERM_MOST", 0)) (host := "SoleReader") (by decide) (by decide +kernel) dX9_become_70 ?_
  refine z_xlen (p0 := (z_xs 1)) rfl dX9_become_73 ?_
  replace e := z_bd e; obtain ⟨h383, eh383, e⟩ := e
  refine z_cpyI eh383 ml_X9_58 z_acok (by decide) (Nat.zero_le _) dX9_become_74 ?_
  refine z_aload_n 1 dX9_become_77 rfl ?_
  replace e := z_bd e; obtain ⟨x384, ex384, e⟩ := e
  refine z_getQ ex384 lk_X9_30 dX9_become_78 ?_
  refine z_iconst (v := 0) dX9_become_81 (by decide) ?_
  refine z_aload_n 0 dX9_become_82 rfl ?_
  replace e := z_bd e; obtain ⟨x385, ex385, e⟩ := e
  refine z_getQ ex385 lk_X9_30 dX9_become_83 ?_
  refine z_iconst (v := 0) dX9_become_86 (by decide) ?_
  refine z_bipush (v := 6) dX9_become_87 (by decide) ?_
  replace e := z_bd e; obtain ⟨h386, eh386, e⟩ := e
  refine z_cpyI eh386 ml_X9_58 z_acok (by decide) (Nat.zero_le _) dX9_become_89 ?_
  refine z_aload_n 1 dX9_become_92 rfl ?_
  replace e := z_bd e; obtain ⟨x387, ex387, e⟩ := e
  refine z_getQ ex387 lk_X9_33 dX9_become_93 ?_
  refine z_iconst (v := 0) dX9_become_96 (by decide) ?_
  refine z_aload_n 0 dX9_become_97 rfl ?_
  replace e := z_bd e; obtain ⟨x388, ex388, e⟩ := e
  refine z_getQ ex388 lk_X9_33 dX9_become_98 ?_
  refine z_iconst (v := 0) dX9_become_101 (by decide) ?_
  refine z_bipush (v := 6) dX9_become_102 (by decide) ?_
  replace e := z_bd e; obtain ⟨h389, eh389, e⟩ := e
  refine z_cpyI eh389 ml_X9_58 z_acok (by decide) (Nat.zero_le _) dX9_become_104 ?_
  refine z_iconst (v := 0) dX9_become_107 (by decide) ?_
  refine z_istore_n (L' := [(2, .int (0:Int32)), (0, z_r l0), (1, z_r l1)]) dX9_become_108 rfl (by decide) (by simp [z_cr]) ?_
  exact z_weak [1, 2, 0] rfl (S_X9_become_109   z_F e)
theorem dX10_grant_0 : decode cX10_grant 0 = .ok (.aload_n 0, 1) := by decide +kernel
theorem dX10_grant_1 : decode cX10_grant 1 = .ok (.iconst 0, 1) := by decide +kernel
theorem dX10_grant_2 : decode cX10_grant 2 = .ok (.putfield 93, 3) := by decide +kernel
theorem dX10_grant_5 : decode cX10_grant 5 = .ok (.iload_n 1, 1) := by decide +kernel
theorem dX10_grant_6 : decode cX10_grant 6 = .ok (.ireturn, 1) := by decide +kernel
def D_X10_grant (h : z_H) (l0 : Option Nat) (l1 : Int32) : Option (Int32 × z_H) :=
  (z_pV 10 h l0 13 (.int (0:Int32))).bind fun h390 =>
  some (l1, h390)
set_option maxRecDepth 100000 in
set_option maxHeartbeats 4000000 in
theorem S_X10_grant {G : z_G} {l : Launch} {h : z_H} {l0 : Option Nat} {l1 : Int32} {res : (Int32 × z_H)} (e : D_X10_grant h l0 l1 = some res) : z_Meth G l 4 M_X10_grant [z_r l0, .int l1] h res.2 (some (.int res.1)) := by
  refine z_Meth.of ck_X10_grant.2.2.2.2 (by simp [lg_sl, z_ci, z_cj, z_cr, z_cx]) ck_X10_grant.1 ?_
  rw [show lv_args 0 [z_r l0, .int l1] = [(0, z_r l0), (1, .int l1)] from by simp [lv_args, z_ci, z_cj, z_cr, z_cx]]
  unfold D_X10_grant at e
  refine z_aload_n 0 dX10_grant_0 rfl ?_
  refine z_iconst (v := 0) dX10_grant_1 (by decide) ?_
  replace e := z_bd e; obtain ⟨h390, eh390, e⟩ := e
  refine z_putV eh390 lk_X10_93 wk_10_13 (fun _ => rfl) (fun _ => rfl) dX10_grant_2 ?_
  refine z_iload_n 1 dX10_grant_5 rfl ?_
  cases e
  exact z_iret dX10_grant_6 rfl
theorem dX10_back_0 : decode cX10_back 0 = .ok (.iload_n 1, 1) := by decide +kernel
theorem dX10_back_1 : decode cX10_back 1 = .ok (.ifCond .lt 8, 3) := by decide +kernel
theorem dX10_back_4 : decode cX10_back 4 = .ok (.iload_n 1, 1) := by decide +kernel
theorem dX10_back_5 : decode cX10_back 5 = .ok (.iconst 2, 1) := by decide +kernel
theorem dX10_back_6 : decode cX10_back 6 = .ok (.if_icmp .lt 9, 3) := by decide +kernel
theorem dX10_back_9 : decode cX10_back 9 = .ok (.aload_n 0, 1) := by decide +kernel
theorem dX10_back_10 : decode cX10_back 10 = .ok (.iconst (-1), 1) := by decide +kernel
theorem dX10_back_11 : decode cX10_back 11 = .ok (.invokevirtual 104, 3) := by decide +kernel
theorem dX10_back_14 : decode cX10_back 14 = .ok (.ireturn, 1) := by decide +kernel
theorem dX10_back_15 : decode cX10_back 15 = .ok (.aload_n 0, 1) := by decide +kernel
theorem dX10_back_16 : decode cX10_back 16 = .ok (.getfield 20, 3) := by decide +kernel
theorem dX10_back_19 : decode cX10_back 19 = .ok (.iload_n 1, 1) := by decide +kernel
theorem dX10_back_20 : decode cX10_back 20 = .ok (.baload, 1) := by decide +kernel
theorem dX10_back_21 : decode cX10_back 21 = .ok (.ifCond .ne 10, 3) := by decide +kernel
theorem dX10_back_24 : decode cX10_back 24 = .ok (.aload_n 0, 1) := by decide +kernel
theorem dX10_back_25 : decode cX10_back 25 = .ok (.bipush (-2), 2) := by decide +kernel
theorem dX10_back_27 : decode cX10_back 27 = .ok (.invokevirtual 104, 3) := by decide +kernel
theorem dX10_back_30 : decode cX10_back 30 = .ok (.ireturn, 1) := by decide +kernel
theorem dX10_back_31 : decode cX10_back 31 = .ok (.aload_n 0, 1) := by decide +kernel
theorem dX10_back_32 : decode cX10_back 32 = .ok (.getfield 12, 3) := by decide +kernel
theorem dX10_back_35 : decode cX10_back 35 = .ok (.aload_n 0, 1) := by decide +kernel
theorem dX10_back_36 : decode cX10_back 36 = .ok (.getfield 16, 3) := by decide +kernel
theorem dX10_back_39 : decode cX10_back 39 = .ok (.iload_n 1, 1) := by decide +kernel
theorem dX10_back_40 : decode cX10_back 40 = .ok (.aaload, 1) := by decide +kernel
theorem dX10_back_41 : decode cX10_back 41 = .ok (.invokevirtual 306, 3) := by decide +kernel
theorem dX10_back_44 : decode cX10_back 44 = .ok (.aload_n 0, 1) := by decide +kernel
theorem dX10_back_45 : decode cX10_back 45 = .ok (.getfield 30, 3) := by decide +kernel
theorem dX10_back_48 : decode cX10_back 48 = .ok (.iconst 0, 1) := by decide +kernel
theorem dX10_back_49 : decode cX10_back 49 = .ok (.putfield 115, 3) := by decide +kernel
theorem dX10_back_52 : decode cX10_back 52 = .ok (.aload_n 0, 1) := by decide +kernel
theorem dX10_back_53 : decode cX10_back 53 = .ok (.iconst 0, 1) := by decide +kernel
theorem dX10_back_54 : decode cX10_back 54 = .ok (.invokevirtual 118, 3) := by decide +kernel
theorem dX10_back_57 : decode cX10_back 57 = .ok (.ireturn, 1) := by decide +kernel
def D_X10_back_9 (h : z_H) (l0 : Option Nat) : Option (Int32 × z_H) :=
  (z_ob 10 h l0).bind fun _ =>
  (D_X10_refuse  h l0 (-1:Int32)).bind fun p391 =>
  some (p391.1, p391.2)
set_option maxRecDepth 100000 in
set_option maxHeartbeats 4000000 in
theorem S_X10_back_9 {G : z_G} {l : Launch}  {h : z_H} {l0 : Option Nat} {res : (Int32 × z_H)} (e : D_X10_back_9  h l0 = some res) : z_Run G l 5 M_X10_back 9 [(0, z_r l0)] [] h res.2 (some (.int res.1)) := by
  unfold D_X10_back_9 at e
  refine z_aload_n 0 dX10_back_9 rfl ?_
  refine z_iconst (v := -1) dX10_back_10 (by decide) ?_
  replace e := z_bd e; obtain ⟨o392, eo392, e⟩ := e
  replace e := z_bd e; obtain ⟨p391, ep391, e⟩ := e
  refine z_cV [.int (-1:Int32)] (S_X10_refuse  ep391) eo392 rfl ml_X10_104 ck_X10_refuse vk_X10_refuse dX10_back_11 (by decide) rfl (Nat.zero_le _) rfl ?_
  cases e
  exact z_iret dX10_back_14 rfl
def D_X10_back (h : z_H) (l0 : Option Nat) (l1 : Int32) : Option (Int32 × z_H) :=
  if l1 < 0 then
    D_X10_back_9   h l0
  else
    if l1 < (2:Int32) then
      (z_gQ 10 h l0 2).bind fun x395 =>
      (z_aI .boolean h x395 l1).bind fun x396 =>
      if x396 = 0 then
        (z_ob 10 h l0).bind fun _ =>
        (D_X10_refuse  h l0 (-2:Int32)).bind fun p407 =>
        some (p407.1, p407.2)
      else
        (z_gQ 10 h l0 0).bind fun x398 =>
        (z_gQ 10 h l0 1).bind fun x399 =>
        (z_aQ RX9 h x399 l1).bind fun x400 =>
        (z_ob 9 h x398).bind fun _ =>
        (D_X9_become  h x398 x400).bind fun p401 =>
        (z_gQ 10 p401 l0 4).bind fun x403 =>
        (z_pV 8 p401 x403 1 (.int (0:Int32))).bind fun h404 =>
        (z_ob 10 h404 l0).bind fun _ =>
        (D_X10_grant  h404 l0 (0:Int32)).bind fun p405 =>
        some (p405.1, p405.2)
    else
      D_X10_back_9   h l0
set_option maxRecDepth 100000 in
set_option maxHeartbeats 4000000 in
theorem S_X10_back {G : z_G} {l : Launch} {h : z_H} {l0 : Option Nat} {l1 : Int32} {res : (Int32 × z_H)} (e : D_X10_back h l0 l1 = some res) : z_Meth G l 5 M_X10_back [z_r l0, .int l1] h res.2 (some (.int res.1)) := by
  refine z_Meth.of ck_X10_back.2.2.2.2 (by simp [lg_sl, z_ci, z_cj, z_cr, z_cx]) ck_X10_back.1 ?_
  rw [show lv_args 0 [z_r l0, .int l1] = [(0, z_r l0), (1, .int l1)] from by simp [lv_args, z_ci, z_cj, z_cr, z_cx]]
  unfold D_X10_back at e
  refine z_iload_n 1 dX10_back_0 rfl ?_
  refine z_if_lt (tgt := 9) dX10_back_1 (by decide) (fun c393 => ?_) (fun c393 => ?_)
  · rw [if_pos c393] at e
    exact z_weak [0] rfl (S_X10_back_9   e)
  · rw [if_neg c393] at e
    refine z_iload_n 1 dX10_back_4 rfl ?_
    refine z_iconst (v := 2) dX10_back_5 (by decide) ?_
    refine z_icmp_lt (tgt := 15) dX10_back_6 (by decide) (fun c394 => ?_) (fun c394 => ?_)
    · rw [if_pos c394] at e
      refine z_aload_n 0 dX10_back_15 rfl ?_
      replace e := z_bd e; obtain ⟨x395, ex395, e⟩ := e
      refine z_getQ ex395 lk_X10_20 dX10_back_16 ?_
      refine z_iload_n 1 dX10_back_19 rfl ?_
      replace e := z_bd e; obtain ⟨x396, ex396, e⟩ := e
      refine z_zald ex396 dX10_back_20 ?_
      refine z_if_ne (tgt := 31) dX10_back_21 (by decide) (fun c397 => ?_) (fun c397 => ?_)
      · rw [if_neg c397] at e
        refine z_aload_n 0 dX10_back_31 rfl ?_
        replace e := z_bd e; obtain ⟨x398, ex398, e⟩ := e
        refine z_getQ ex398 lk_X10_12 dX10_back_32 ?_
        refine z_aload_n 0 dX10_back_35 rfl ?_
        replace e := z_bd e; obtain ⟨x399, ex399, e⟩ := e
        refine z_getQ ex399 lk_X10_16 dX10_back_36 ?_
        refine z_iload_n 1 dX10_back_39 rfl ?_
        replace e := z_bd e; obtain ⟨x400, ex400, e⟩ := e
        refine z_aald 3 rfl ex400 dX10_back_40 ?_
        replace e := z_bd e; obtain ⟨o402, eo402, e⟩ := e
        replace e := z_bd e; obtain ⟨p401, ep401, e⟩ := e
        refine z_cV [z_r x400] (S_X9_become  ep401) eo402 rfl ml_X10_306 ck_X9_become vk_X9_become dX10_back_41 (by decide) rfl (Nat.zero_le _) rfl ?_
        refine z_aload_n 0 dX10_back_44 rfl ?_
        replace e := z_bd e; obtain ⟨x403, ex403, e⟩ := e
        refine z_getQ ex403 lk_X10_30 dX10_back_45 ?_
        refine z_iconst (v := 0) dX10_back_48 (by decide) ?_
        replace e := z_bd e; obtain ⟨h404, eh404, e⟩ := e
        refine z_putV eh404 lk_X10_115 wk_8_1 (fun _ => rfl) (fun _ => rfl) dX10_back_49 ?_
        refine z_aload_n 0 dX10_back_52 rfl ?_
        refine z_iconst (v := 0) dX10_back_53 (by decide) ?_
        replace e := z_bd e; obtain ⟨o406, eo406, e⟩ := e
        replace e := z_bd e; obtain ⟨p405, ep405, e⟩ := e
        refine z_cV [.int (0:Int32)] (S_X10_grant  ep405) eo406 rfl ml_X10_118 ck_X10_grant vk_X10_grant dX10_back_54 (by decide) rfl (Nat.zero_le _) rfl ?_
        cases e
        exact z_iret dX10_back_57 rfl
      · rw [if_pos c397] at e
        refine z_aload_n 0 dX10_back_24 rfl ?_
        refine z_bipush (v := -2) dX10_back_25 (by decide) ?_
        replace e := z_bd e; obtain ⟨o408, eo408, e⟩ := e
        replace e := z_bd e; obtain ⟨p407, ep407, e⟩ := e
        refine z_cV [.int (-2:Int32)] (S_X10_refuse  ep407) eo408 rfl ml_X10_104 ck_X10_refuse vk_X10_refuse dX10_back_27 (by decide) rfl (Nat.zero_le _) rfl ?_
        cases e
        exact z_iret dX10_back_30 rfl
    · rw [if_neg c394] at e
      exact z_weak [0] rfl (S_X10_back_9   e)
theorem dX11_tell_0 : decode cX11_tell 0 = .ok (.aload_n 0, 1) := by decide +kernel
theorem dX11_tell_1 : decode cX11_tell 1 = .ok (.iload_n 1, 1) := by decide +kernel
theorem dX11_tell_2 : decode cX11_tell 2 = .ok (.ifCond .ge 7, 3) := by decide +kernel
theorem dX11_tell_5 : decode cX11_tell 5 = .ok (.iload_n 1, 1) := by decide +kernel
theorem dX11_tell_6 : decode cX11_tell 6 = .ok (.goto 4, 3) := by decide +kernel
theorem dX11_tell_9 : decode cX11_tell 9 = .ok (.iconst 0, 1) := by decide +kernel
theorem dX11_tell_10 : decode cX11_tell 10 = .ok (.putfield 169, 3) := by decide +kernel
theorem dX11_tell_13 : decode cX11_tell 13 = .ok (.iload_n 1, 1) := by decide +kernel
theorem dX11_tell_14 : decode cX11_tell 14 = .ok (.ifCond .ge 14, 3) := by decide +kernel
theorem dX11_tell_17 : decode cX11_tell 17 = .ok (.aload_n 0, 1) := by decide +kernel
theorem dX11_tell_18 : decode cX11_tell 18 = .ok (.getfield 7, 3) := by decide +kernel
theorem dX11_tell_21 : decode cX11_tell 21 = .ok (.iload_n 1, 1) := by decide +kernel
theorem dX11_tell_22 : decode cX11_tell 22 = .ok (.ineg, 1) := by decide +kernel
theorem dX11_tell_23 : decode cX11_tell 23 = .ok (.dup2, 1) := by decide +kernel
theorem dX11_tell_24 : decode cX11_tell 24 = .ok (.iaload, 1) := by decide +kernel
theorem dX11_tell_25 : decode cX11_tell 25 = .ok (.iconst 1, 1) := by decide +kernel
theorem dX11_tell_26 : decode cX11_tell 26 = .ok (.iadd, 1) := by decide +kernel
theorem dX11_tell_27 : decode cX11_tell 27 = .ok (.iastore, 1) := by decide +kernel
theorem dX11_tell_28 : decode cX11_tell 28 = .ok (.iload_n 1, 1) := by decide +kernel
theorem dX11_tell_29 : decode cX11_tell 29 = .ok (.ireturn, 1) := by decide +kernel
def D_X11_tell_10 (h : z_H) (l0 : Option Nat) (l1 : Int32) (s0 : Option Nat) (s1 : Int32) : Option (Int32 × z_H) :=
  (z_pV 11 h s0 1 (.int s1)).bind fun h409 =>
  if 0 ≤ l1 then
    some (l1, h409)
  else
    (z_gQ 11 h409 l0 2).bind fun x411 =>
    (z_aI .int h409 x411 (-l1)).bind fun x412 =>
    (z_sI h409 x411 (-l1) (x412 + (1:Int32))).bind fun h413 =>
    some (l1, h413)
set_option maxRecDepth 100000 in
set_option maxHeartbeats 4000000 in
theorem S_X11_tell_10 {G : z_G} {l : Launch}  {h : z_H} {l0 : Option Nat} {l1 : Int32} {s0 : Option Nat} {s1 : Int32} {res : (Int32 × z_H)} (e : D_X11_tell_10  h l0 l1 s0 s1 = some res) : z_Run G l 4 M_X11_tell 10 [(0, z_r l0), (1, .int l1)] [.int s1, z_r s0] h res.2 (some (.int res.1)) := by
  unfold D_X11_tell_10 at e
  replace e := z_bd e; obtain ⟨h409, eh409, e⟩ := e
  refine z_putV eh409 lk_X11_169 wk_11_1 (fun _ => rfl) (fun _ => rfl) dX11_tell_10 ?_
  refine z_iload_n 1 dX11_tell_13 rfl ?_
  refine z_if_ge (tgt := 28) dX11_tell_14 (by decide) (fun c410 => ?_) (fun c410 => ?_)
  · rw [if_pos c410] at e
    refine z_iload_n 1 dX11_tell_28 rfl ?_
    cases e
    exact z_iret dX11_tell_29 rfl
  · rw [if_neg c410] at e
    refine z_aload_n 0 dX11_tell_17 rfl ?_
    replace e := z_bd e; obtain ⟨x411, ex411, e⟩ := e
    refine z_getQ ex411 lk_X11_7 dX11_tell_18 ?_
    refine z_iload_n 1 dX11_tell_21 rfl ?_
    refine z_ineg dX11_tell_22 ?_
    refine z_dup2 dX11_tell_23 rfl (z_cr _) ?_
    replace e := z_bd e; obtain ⟨x412, ex412, e⟩ := e
    refine z_iald ex412 dX11_tell_24 ?_
    refine z_iconst (v := 1) dX11_tell_25 (by decide) ?_
    refine z_iadd dX11_tell_26 ?_
    replace e := z_bd e; obtain ⟨h413, eh413, e⟩ := e
    refine z_iast eh413 dX11_tell_27 ?_
    refine z_iload_n 1 dX11_tell_28 rfl ?_
    cases e
    exact z_iret dX11_tell_29 rfl
def D_X11_tell (h : z_H) (l0 : Option Nat) (l1 : Int32) : Option (Int32 × z_H) :=
  if 0 ≤ l1 then
    D_X11_tell_10   h l0 l1 l0 (0:Int32)
  else
    D_X11_tell_10   h l0 l1 l0 l1
set_option maxRecDepth 100000 in
set_option maxHeartbeats 4000000 in
theorem S_X11_tell {G : z_G} {l : Launch} {h : z_H} {l0 : Option Nat} {l1 : Int32} {res : (Int32 × z_H)} (e : D_X11_tell h l0 l1 = some res) : z_Meth G l 4 M_X11_tell [z_r l0, .int l1] h res.2 (some (.int res.1)) := by
  refine z_Meth.of ck_X11_tell.2.2.2.2 (by simp [lg_sl, z_ci, z_cj, z_cr, z_cx]) ck_X11_tell.1 ?_
  rw [show lv_args 0 [z_r l0, .int l1] = [(0, z_r l0), (1, .int l1)] from by simp [lv_args, z_ci, z_cj, z_cr, z_cx]]
  unfold D_X11_tell at e
  refine z_aload_n 0 dX11_tell_0 rfl ?_
  refine z_iload_n 1 dX11_tell_1 rfl ?_
  refine z_if_ge (tgt := 9) dX11_tell_2 (by decide) (fun c414 => ?_) (fun c414 => ?_)
  · rw [if_pos c414] at e
    refine z_iconst (v := 0) dX11_tell_9 (by decide) ?_
    exact z_weak [0, 1] rfl (S_X11_tell_10   e)
  · rw [if_neg c414] at e
    refine z_iload_n 1 dX11_tell_5 rfl ?_
    refine z_goto (tgt := 10) dX11_tell_6 (by decide) ?_
    exact z_weak [0, 1] rfl (S_X11_tell_10   e)
theorem dX11_lasting_0 : decode cX11_lasting 0 = .ok (.aload_n 0, 1) := by decide +kernel
theorem dX11_lasting_1 : decode cX11_lasting 1 = .ok (.iload_n 1, 1) := by decide +kernel
theorem dX11_lasting_2 : decode cX11_lasting 2 = .ok (.ifCond .ge 10, 3) := by decide +kernel
theorem dX11_lasting_5 : decode cX11_lasting 5 = .ok (.aload_n 0, 1) := by decide +kernel
theorem dX11_lasting_6 : decode cX11_lasting 6 = .ok (.getfield 172, 3) := by decide +kernel
theorem dX11_lasting_9 : decode cX11_lasting 9 = .ok (.goto 4, 3) := by decide +kernel
theorem dX11_lasting_12 : decode cX11_lasting 12 = .ok (.iconst 0, 1) := by decide +kernel
theorem dX11_lasting_13 : decode cX11_lasting 13 = .ok (.putfield 172, 3) := by decide +kernel
theorem dX11_lasting_16 : decode cX11_lasting 16 = .ok (.aload_n 0, 1) := by decide +kernel
theorem dX11_lasting_17 : decode cX11_lasting 17 = .ok (.iload_n 1, 1) := by decide +kernel
theorem dX11_lasting_18 : decode cX11_lasting 18 = .ok (.invokevirtual 175, 3) := by decide +kernel
theorem dX11_lasting_21 : decode cX11_lasting 21 = .ok (.ireturn, 1) := by decide +kernel
def D_X11_lasting_13 (h : z_H) (l0 : Option Nat) (l1 : Int32) (s0 : Option Nat) (s1 : Int32) : Option (Int32 × z_H) :=
  (z_pV 11 h s0 8 (.int s1)).bind fun h415 =>
  (z_ob 11 h415 l0).bind fun _ =>
  (D_X11_tell  h415 l0 l1).bind fun p416 =>
  some (p416.1, p416.2)
set_option maxRecDepth 100000 in
set_option maxHeartbeats 4000000 in
theorem S_X11_lasting_13 {G : z_G} {l : Launch}  {h : z_H} {l0 : Option Nat} {l1 : Int32} {s0 : Option Nat} {s1 : Int32} {res : (Int32 × z_H)} (e : D_X11_lasting_13  h l0 l1 s0 s1 = some res) : z_Run G l 5 M_X11_lasting 13 [(0, z_r l0), (1, .int l1)] [.int s1, z_r s0] h res.2 (some (.int res.1)) := by
  unfold D_X11_lasting_13 at e
  replace e := z_bd e; obtain ⟨h415, eh415, e⟩ := e
  refine z_putV eh415 lk_X11_172 wk_11_8 (fun _ => rfl) (fun _ => rfl) dX11_lasting_13 ?_
  refine z_aload_n 0 dX11_lasting_16 rfl ?_
  refine z_iload_n 1 dX11_lasting_17 rfl ?_
  replace e := z_bd e; obtain ⟨o417, eo417, e⟩ := e
  replace e := z_bd e; obtain ⟨p416, ep416, e⟩ := e
  refine z_cV [.int l1] (S_X11_tell  ep416) eo417 rfl ml_X11_175 ck_X11_tell vk_X11_tell dX11_lasting_18 (by decide) rfl (Nat.zero_le _) rfl ?_
  cases e
  exact z_iret dX11_lasting_21 rfl
def D_X11_lasting (h : z_H) (l0 : Option Nat) (l1 : Int32) : Option (Int32 × z_H) :=
  if 0 ≤ l1 then
    D_X11_lasting_13   h l0 l1 l0 (0:Int32)
  else
    (z_gI 11 h l0 8).bind fun x419 =>
    D_X11_lasting_13   h l0 l1 l0 x419
set_option maxRecDepth 100000 in
set_option maxHeartbeats 4000000 in
theorem S_X11_lasting {G : z_G} {l : Launch} {h : z_H} {l0 : Option Nat} {l1 : Int32} {res : (Int32 × z_H)} (e : D_X11_lasting h l0 l1 = some res) : z_Meth G l 5 M_X11_lasting [z_r l0, .int l1] h res.2 (some (.int res.1)) := by
  refine z_Meth.of ck_X11_lasting.2.2.2.2 (by simp [lg_sl, z_ci, z_cj, z_cr, z_cx]) ck_X11_lasting.1 ?_
  rw [show lv_args 0 [z_r l0, .int l1] = [(0, z_r l0), (1, .int l1)] from by simp [lv_args, z_ci, z_cj, z_cr, z_cx]]
  unfold D_X11_lasting at e
  refine z_aload_n 0 dX11_lasting_0 rfl ?_
  refine z_iload_n 1 dX11_lasting_1 rfl ?_
  refine z_if_ge (tgt := 12) dX11_lasting_2 (by decide) (fun c418 => ?_) (fun c418 => ?_)
  · rw [if_pos c418] at e
    refine z_iconst (v := 0) dX11_lasting_12 (by decide) ?_
    exact z_weak [0, 1] rfl (S_X11_lasting_13   e)
  · rw [if_neg c418] at e
    refine z_aload_n 0 dX11_lasting_5 rfl ?_
    replace e := z_bd e; obtain ⟨x419, ex419, e⟩ := e
    refine z_getI ex419 lk_X11_172 dX11_lasting_6 ?_
    refine z_goto (tgt := 13) dX11_lasting_9 (by decide) ?_
    exact z_weak [0, 1] rfl (S_X11_lasting_13   e)
theorem dX11_back_0 : decode cX11_back 0 = .ok (.aload_n 0, 1) := by decide +kernel
theorem dX11_back_1 : decode cX11_back 1 = .ok (.iconst 0, 1) := by decide +kernel
theorem dX11_back_2 : decode cX11_back 2 = .ok (.putfield 166, 3) := by decide +kernel
theorem dX11_back_5 : decode cX11_back 5 = .ok (.iload_n 1, 1) := by decide +kernel
theorem dX11_back_6 : decode cX11_back 6 = .ok (.i2l, 1) := by decide +kernel
theorem dX11_back_7 : decode cX11_back 7 = .ok (.lconst 0, 1) := by decide +kernel
theorem dX11_back_8 : decode cX11_back 8 = .ok (.lconst 1, 1) := by decide +kernel
theorem dX11_back_9 : decode cX11_back 9 = .ok (.invokestatic 186, 3) := by decide +kernel
theorem dX11_back_12 : decode cX11_back 12 = .ok (.ifCond .ne 9, 3) := by decide +kernel
theorem dX11_back_15 : decode cX11_back 15 = .ok (.aload_n 0, 1) := by decide +kernel
theorem dX11_back_16 : decode cX11_back 16 = .ok (.iconst (-1), 1) := by decide +kernel
theorem dX11_back_17 : decode cX11_back 17 = .ok (.invokevirtual 175, 3) := by decide +kernel
theorem dX11_back_20 : decode cX11_back 20 = .ok (.ireturn, 1) := by decide +kernel
theorem dX11_back_21 : decode cX11_back 21 = .ok (.aload_n 0, 1) := by decide +kernel
theorem dX11_back_22 : decode cX11_back 22 = .ok (.getfield 19, 3) := by decide +kernel
theorem dX11_back_25 : decode cX11_back 25 = .ok (.iload_n 1, 1) := by decide +kernel
theorem dX11_back_26 : decode cX11_back 26 = .ok (.baload, 1) := by decide +kernel
theorem dX11_back_27 : decode cX11_back 27 = .ok (.ifCond .ne 10, 3) := by decide +kernel
theorem dX11_back_30 : decode cX11_back 30 = .ok (.aload_n 0, 1) := by decide +kernel
theorem dX11_back_31 : decode cX11_back 31 = .ok (.bipush (-2), 2) := by decide +kernel
theorem dX11_back_33 : decode cX11_back 33 = .ok (.invokevirtual 175, 3) := by decide +kernel
theorem dX11_back_36 : decode cX11_back 36 = .ok (.ireturn, 1) := by decide +kernel
theorem dX11_back_37 : decode cX11_back 37 = .ok (.iconst 0, 1) := by decide +kernel
theorem dX11_back_38 : decode cX11_back 38 = .ok (.istore_n 2, 1) := by decide +kernel
theorem dX11_back_39 : decode cX11_back 39 = .ok (.iload_n 2, 1) := by decide +kernel
theorem dX11_back_40 : decode cX11_back 40 = .ok (.sipush 5462, 3) := by decide +kernel
theorem dX11_back_43 : decode cX11_back 43 = .ok (.if_icmp .ge 27, 3) := by decide +kernel
theorem dX11_back_46 : decode cX11_back 46 = .ok (.aload_n 0, 1) := by decide +kernel
theorem dX11_back_47 : decode cX11_back 47 = .ok (.getfield 13, 3) := by decide +kernel
theorem dX11_back_50 : decode cX11_back 50 = .ok (.iload_n 2, 1) := by decide +kernel
theorem dX11_back_51 : decode cX11_back 51 = .ok (.aload_n 0, 1) := by decide +kernel
theorem dX11_back_52 : decode cX11_back 52 = .ok (.getfield 16, 3) := by decide +kernel
theorem dX11_back_55 : decode cX11_back 55 = .ok (.sipush 5462, 3) := by decide +kernel
theorem dX11_back_58 : decode cX11_back 58 = .ok (.iload_n 1, 1) := by decide +kernel
theorem dX11_back_59 : decode cX11_back 59 = .ok (.imul, 1) := by decide +kernel
theorem dX11_back_60 : decode cX11_back 60 = .ok (.iload_n 2, 1) := by decide +kernel
theorem dX11_back_61 : decode cX11_back 61 = .ok (.iadd, 1) := by decide +kernel
theorem dX11_back_62 : decode cX11_back 62 = .ok (.iaload, 1) := by decide +kernel
theorem dX11_back_63 : decode cX11_back 63 = .ok (.iastore, 1) := by decide +kernel
theorem dX11_back_64 : decode cX11_back 64 = .ok (.iinc 2 1, 3) := by decide +kernel
theorem dX11_back_67 : decode cX11_back 67 = .ok (.goto (-28), 3) := by decide +kernel
theorem dX11_back_70 : decode cX11_back 70 = .ok (.aload_n 0, 1) := by decide +kernel
theorem dX11_back_71 : decode cX11_back 71 = .ok (.iconst 0, 1) := by decide +kernel
theorem dX11_back_72 : decode cX11_back 72 = .ok (.invokevirtual 190, 3) := by decide +kernel
theorem dX11_back_75 : decode cX11_back 75 = .ok (.ireturn, 1) := by decide +kernel
def D_X11_back_39b (k39 : z_H → Option Nat → Int32 → Int32 → Option (Int32 × z_H)) (h : z_H) (l0 : Option Nat) (l1 : Int32) (l2 : Int32) : Option (Int32 × z_H) :=
  if (5462:Int32) ≤ l2 then
    (z_ob 11 h l0).bind fun _ =>
    (D_X11_lasting  h l0 (0:Int32)).bind fun p421 =>
    some (p421.1, p421.2)
  else
    (z_gQ 11 h l0 3).bind fun x423 =>
    (z_gQ 11 h l0 4).bind fun x424 =>
    (z_aI .int h x424 (((5462:Int32) * l1) + l2)).bind fun x425 =>
    (z_sI h x423 l2 x425).bind fun h426 =>
    (some (l2 + (1:Int32))).bind fun x427 =>
    k39 h426 l0 l1 x427
def D_X11_back_39 (n : Nat) : z_H → Option Nat → Int32 → Int32 → Option (Int32 × z_H) := Nat.rec (motive := fun _ => z_H → Option Nat → Int32 → Int32 → Option (Int32 × z_H)) (fun _ _ _ _ => none) (fun _ k => D_X11_back_39b  k) n
set_option maxRecDepth 100000 in
set_option maxHeartbeats 4000000 in
theorem S_X11_back_39 {G : z_G} {l : Launch}  (n : Nat) : ∀ {h : z_H} {l0 : Option Nat} {l1 : Int32} {l2 : Int32} {res : (Int32 × z_H)}, D_X11_back_39  n h l0 l1 l2 = some res → z_Run G l 6 M_X11_back 39 [(0, z_r l0), (1, .int l1), (2, .int l2)] [] h res.2 (some (.int res.1)) := by
  induction n with
  | zero => intro h l0 l1 l2 res e; cases e
  | succ n hk39 =>
    intro h l0 l1 l2 res e
    replace e : D_X11_back_39b  (D_X11_back_39  n) h l0 l1 l2 = some res := e
    unfold D_X11_back_39b at e
    refine z_iload_n 2 dX11_back_39 rfl ?_
    refine z_sipush (v := 5462) dX11_back_40 (by decide) ?_
    refine z_icmp_ge (tgt := 70) dX11_back_43 (by decide) (fun c420 => ?_) (fun c420 => ?_)
    · rw [if_pos c420] at e
      refine z_aload_n 0 dX11_back_70 rfl ?_
      refine z_iconst (v := 0) dX11_back_71 (by decide) ?_
      replace e := z_bd e; obtain ⟨o422, eo422, e⟩ := e
      replace e := z_bd e; obtain ⟨p421, ep421, e⟩ := e
      refine z_cV [.int (0:Int32)] (S_X11_lasting  ep421) eo422 rfl ml_X11_190 ck_X11_lasting vk_X11_lasting dX11_back_72 (by decide) rfl (Nat.zero_le _) rfl ?_
      cases e
      exact z_iret dX11_back_75 rfl
    · rw [if_neg c420] at e
      refine z_aload_n 0 dX11_back_46 rfl ?_
      replace e := z_bd e; obtain ⟨x423, ex423, e⟩ := e
      refine z_getQ ex423 lk_X11_13 dX11_back_47 ?_
      refine z_iload_n 2 dX11_back_50 rfl ?_
      refine z_aload_n 0 dX11_back_51 rfl ?_
      replace e := z_bd e; obtain ⟨x424, ex424, e⟩ := e
      refine z_getQ ex424 lk_X11_16 dX11_back_52 ?_
      refine z_sipush (v := 5462) dX11_back_55 (by decide) ?_
      refine z_iload_n 1 dX11_back_58 rfl ?_
      refine z_imul dX11_back_59 ?_
      refine z_iload_n 2 dX11_back_60 rfl ?_
      refine z_iadd dX11_back_61 ?_
      replace e := z_bd e; obtain ⟨x425, ex425, e⟩ := e
      refine z_iald ex425 dX11_back_62 ?_
      replace e := z_bd e; obtain ⟨h426, eh426, e⟩ := e
      refine z_iast eh426 dX11_back_63 ?_
      replace e := z_bd e; obtain ⟨x427, ex427, e⟩ := e
      refine z_iinc (q := 2) (v := x427) (L' := [(2, .int x427), (0, z_r l0), (1, .int l1)]) dX11_back_64 rfl (Option.some.inj ex427) (by decide) rfl ?_
      refine z_goto (tgt := 39) dX11_back_67 (by decide) ?_
      exact z_weak [1, 2, 0] rfl (hk39 e)
def D_X11_back (h : z_H) (l0 : Option Nat) (l1 : Int32) : Option (Int32 × z_H) :=
  (z_pV 11 h l0 0 (.int (0:Int32))).bind fun h428 =>
  (D_X11_in  h428 (Int32.toInt64 l1) (0:Int64) (1:Int64)).bind fun p429 =>
  if p429.1 = 0 then
    (z_ob 11 p429.2 l0).bind fun _ =>
    (D_X11_tell  p429.2 l0 (-1:Int32)).bind fun p436 =>
    some (p436.1, p436.2)
  else
    (z_gQ 11 p429.2 l0 5).bind fun x431 =>
    (z_aI .boolean p429.2 x431 l1).bind fun x432 =>
    if x432 = 0 then
      (z_ob 11 p429.2 l0).bind fun _ =>
      (D_X11_tell  p429.2 l0 (-2:Int32)).bind fun p434 =>
      some (p434.1, p434.2)
    else
      D_X11_back_39   z_F p429.2 l0 l1 (0:Int32)
set_option maxRecDepth 100000 in
set_option maxHeartbeats 4000000 in
theorem S_X11_back {G : z_G} {l : Launch} {h : z_H} {l0 : Option Nat} {l1 : Int32} {res : (Int32 × z_H)} (e : D_X11_back h l0 l1 = some res) : z_Meth G l 6 M_X11_back [z_r l0, .int l1] h res.2 (some (.int res.1)) := by
  refine z_Meth.of ck_X11_back.2.2.2.2 (by simp [lg_sl, z_ci, z_cj, z_cr, z_cx]) ck_X11_back.1 ?_
  rw [show lv_args 0 [z_r l0, .int l1] = [(0, z_r l0), (1, .int l1)] from by simp [lv_args, z_ci, z_cj, z_cr, z_cx]]
  unfold D_X11_back at e
  refine z_aload_n 0 dX11_back_0 rfl ?_
  refine z_iconst (v := 0) dX11_back_1 (by decide) ?_
  replace e := z_bd e; obtain ⟨h428, eh428, e⟩ := e
  refine z_putV eh428 lk_X11_166 wk_11_0 (fun _ => rfl) (fun _ => rfl) dX11_back_2 ?_
  refine z_iload_n 1 dX11_back_5 rfl ?_
  refine z_i2l dX11_back_6 ?_
  refine z_lconst (v := 0) dX11_back_7 (by decide) ?_
  refine z_lconst (v := 1) dX11_back_8 (by decide) ?_
  replace e := z_bd e; obtain ⟨p429, ep429, e⟩ := e
  refine z_cS [.long (Int32.toInt64 l1), .long (0:Int64), .long (1:Int64)] (S_X11_in  ep429) ml_X11_186 ck_X11_in st_X11_in dX11_back_9 (by decide) rfl (Nat.zero_le _) rfl ?_
  refine z_if_ne (tgt := 21) dX11_back_12 (by decide) (fun c430 => ?_) (fun c430 => ?_)
  · rw [if_neg c430] at e
    refine z_aload_n 0 dX11_back_21 rfl ?_
    replace e := z_bd e; obtain ⟨x431, ex431, e⟩ := e
    refine z_getQ ex431 lk_X11_19 dX11_back_22 ?_
    refine z_iload_n 1 dX11_back_25 rfl ?_
    replace e := z_bd e; obtain ⟨x432, ex432, e⟩ := e
    refine z_zald ex432 dX11_back_26 ?_
    refine z_if_ne (tgt := 37) dX11_back_27 (by decide) (fun c433 => ?_) (fun c433 => ?_)
    · rw [if_neg c433] at e
      refine z_iconst (v := 0) dX11_back_37 (by decide) ?_
      refine z_istore_n (L' := [(2, .int (0:Int32)), (0, z_r l0), (1, .int l1)]) dX11_back_38 rfl (by decide) rfl ?_
      exact z_weak [1, 2, 0] rfl (S_X11_back_39   z_F e)
    · rw [if_pos c433] at e
      refine z_aload_n 0 dX11_back_30 rfl ?_
      refine z_bipush (v := -2) dX11_back_31 (by decide) ?_
      replace e := z_bd e; obtain ⟨o435, eo435, e⟩ := e
      replace e := z_bd e; obtain ⟨p434, ep434, e⟩ := e
      refine z_cV [.int (-2:Int32)] (S_X11_tell  ep434) eo435 rfl ml_X11_175 ck_X11_tell vk_X11_tell dX11_back_33 (by decide) rfl (Nat.zero_le _) rfl ?_
      cases e
      exact z_iret dX11_back_36 rfl
  · rw [if_pos c430] at e
    refine z_aload_n 0 dX11_back_15 rfl ?_
    refine z_iconst (v := -1) dX11_back_16 (by decide) ?_
    replace e := z_bd e; obtain ⟨o437, eo437, e⟩ := e
    replace e := z_bd e; obtain ⟨p436, ep436, e⟩ := e
    refine z_cV [.int (-1:Int32)] (S_X11_tell  ep436) eo437 rfl ml_X11_175 ck_X11_tell vk_X11_tell dX11_back_17 (by decide) rfl (Nat.zero_le _) rfl ?_
    cases e
    exact z_iret dX11_back_20 rfl
theorem dX10_image_0 : decode cX10_image 0 = .ok (.iload_n 1, 1) := by decide +kernel
theorem dX10_image_1 : decode cX10_image 1 = .ok (.ifCond .lt 8, 3) := by decide +kernel
theorem dX10_image_4 : decode cX10_image 4 = .ok (.iload_n 1, 1) := by decide +kernel
theorem dX10_image_5 : decode cX10_image 5 = .ok (.iconst 2, 1) := by decide +kernel
theorem dX10_image_6 : decode cX10_image 6 = .ok (.if_icmp .lt 9, 3) := by decide +kernel
theorem dX10_image_9 : decode cX10_image 9 = .ok (.aload_n 0, 1) := by decide +kernel
theorem dX10_image_10 : decode cX10_image 10 = .ok (.iconst (-1), 1) := by decide +kernel
theorem dX10_image_11 : decode cX10_image 11 = .ok (.invokevirtual 104, 3) := by decide +kernel
theorem dX10_image_14 : decode cX10_image 14 = .ok (.ireturn, 1) := by decide +kernel
theorem dX10_image_15 : decode cX10_image 15 = .ok (.aload_n 0, 1) := by decide +kernel
theorem dX10_image_16 : decode cX10_image 16 = .ok (.getfield 16, 3) := by decide +kernel
theorem dX10_image_19 : decode cX10_image 19 = .ok (.iload_n 1, 1) := by decide +kernel
theorem dX10_image_20 : decode cX10_image 20 = .ok (.aaload, 1) := by decide +kernel
theorem dX10_image_21 : decode cX10_image 21 = .ok (.aload_n 0, 1) := by decide +kernel
theorem dX10_image_22 : decode cX10_image 22 = .ok (.getfield 12, 3) := by decide +kernel
theorem dX10_image_25 : decode cX10_image 25 = .ok (.invokevirtual 306, 3) := by decide +kernel
theorem dX10_image_28 : decode cX10_image 28 = .ok (.aload_n 0, 1) := by decide +kernel
theorem dX10_image_29 : decode cX10_image 29 = .ok (.getfield 20, 3) := by decide +kernel
theorem dX10_image_32 : decode cX10_image 32 = .ok (.iload_n 1, 1) := by decide +kernel
theorem dX10_image_33 : decode cX10_image 33 = .ok (.iconst 1, 1) := by decide +kernel
theorem dX10_image_34 : decode cX10_image 34 = .ok (.bastore, 1) := by decide +kernel
theorem dX10_image_35 : decode cX10_image 35 = .ok (.aload_n 0, 1) := by decide +kernel
theorem dX10_image_36 : decode cX10_image 36 = .ok (.iconst 0, 1) := by decide +kernel
theorem dX10_image_37 : decode cX10_image 37 = .ok (.invokevirtual 118, 3) := by decide +kernel
theorem dX10_image_40 : decode cX10_image 40 = .ok (.ireturn, 1) := by decide +kernel
def D_X10_image_9 (h : z_H) (l0 : Option Nat) : Option (Int32 × z_H) :=
  (z_ob 10 h l0).bind fun _ =>
  (D_X10_refuse  h l0 (-1:Int32)).bind fun p438 =>
  some (p438.1, p438.2)
set_option maxRecDepth 100000 in
set_option maxHeartbeats 4000000 in
theorem S_X10_image_9 {G : z_G} {l : Launch}  {h : z_H} {l0 : Option Nat} {res : (Int32 × z_H)} (e : D_X10_image_9  h l0 = some res) : z_Run G l 5 M_X10_image 9 [(0, z_r l0)] [] h res.2 (some (.int res.1)) := by
  unfold D_X10_image_9 at e
  refine z_aload_n 0 dX10_image_9 rfl ?_
  refine z_iconst (v := -1) dX10_image_10 (by decide) ?_
  replace e := z_bd e; obtain ⟨o439, eo439, e⟩ := e
  replace e := z_bd e; obtain ⟨p438, ep438, e⟩ := e
  refine z_cV [.int (-1:Int32)] (S_X10_refuse  ep438) eo439 rfl ml_X10_104 ck_X10_refuse vk_X10_refuse dX10_image_11 (by decide) rfl (Nat.zero_le _) rfl ?_
  cases e
  exact z_iret dX10_image_14 rfl
def D_X10_image (h : z_H) (l0 : Option Nat) (l1 : Int32) : Option (Int32 × z_H) :=
  if l1 < 0 then
    D_X10_image_9   h l0
  else
    if l1 < (2:Int32) then
      (z_gQ 10 h l0 1).bind fun x442 =>
      (z_aQ RX9 h x442 l1).bind fun x443 =>
      (z_gQ 10 h l0 0).bind fun x444 =>
      (z_ob 9 h x443).bind fun _ =>
      (D_X9_become  h x443 x444).bind fun p445 =>
      (z_gQ 10 p445 l0 2).bind fun x447 =>
      (z_sZ p445 x447 l1 (1:Int32)).bind fun h448 =>
      (z_ob 10 h448 l0).bind fun _ =>
      (D_X10_grant  h448 l0 (0:Int32)).bind fun p449 =>
      some (p449.1, p449.2)
    else
      D_X10_image_9   h l0
set_option maxRecDepth 100000 in
set_option maxHeartbeats 4000000 in
theorem S_X10_image {G : z_G} {l : Launch} {h : z_H} {l0 : Option Nat} {l1 : Int32} {res : (Int32 × z_H)} (e : D_X10_image h l0 l1 = some res) : z_Meth G l 5 M_X10_image [z_r l0, .int l1] h res.2 (some (.int res.1)) := by
  refine z_Meth.of ck_X10_image.2.2.2.2 (by simp [lg_sl, z_ci, z_cj, z_cr, z_cx]) ck_X10_image.1 ?_
  rw [show lv_args 0 [z_r l0, .int l1] = [(0, z_r l0), (1, .int l1)] from by simp [lv_args, z_ci, z_cj, z_cr, z_cx]]
  unfold D_X10_image at e
  refine z_iload_n 1 dX10_image_0 rfl ?_
  refine z_if_lt (tgt := 9) dX10_image_1 (by decide) (fun c440 => ?_) (fun c440 => ?_)
  · rw [if_pos c440] at e
    exact z_weak [0] rfl (S_X10_image_9   e)
  · rw [if_neg c440] at e
    refine z_iload_n 1 dX10_image_4 rfl ?_
    refine z_iconst (v := 2) dX10_image_5 (by decide) ?_
    refine z_icmp_lt (tgt := 15) dX10_image_6 (by decide) (fun c441 => ?_) (fun c441 => ?_)
    · rw [if_pos c441] at e
      refine z_aload_n 0 dX10_image_15 rfl ?_
      replace e := z_bd e; obtain ⟨x442, ex442, e⟩ := e
      refine z_getQ ex442 lk_X10_16 dX10_image_16 ?_
      refine z_iload_n 1 dX10_image_19 rfl ?_
      replace e := z_bd e; obtain ⟨x443, ex443, e⟩ := e
      refine z_aald 3 rfl ex443 dX10_image_20 ?_
      refine z_aload_n 0 dX10_image_21 rfl ?_
      replace e := z_bd e; obtain ⟨x444, ex444, e⟩ := e
      refine z_getQ ex444 lk_X10_12 dX10_image_22 ?_
      replace e := z_bd e; obtain ⟨o446, eo446, e⟩ := e
      replace e := z_bd e; obtain ⟨p445, ep445, e⟩ := e
      refine z_cV [z_r x444] (S_X9_become  ep445) eo446 rfl ml_X10_306 ck_X9_become vk_X9_become dX10_image_25 (by decide) rfl (Nat.zero_le _) rfl ?_
      refine z_aload_n 0 dX10_image_28 rfl ?_
      replace e := z_bd e; obtain ⟨x447, ex447, e⟩ := e
      refine z_getQ ex447 lk_X10_20 dX10_image_29 ?_
      refine z_iload_n 1 dX10_image_32 rfl ?_
      refine z_iconst (v := 1) dX10_image_33 (by decide) ?_
      replace e := z_bd e; obtain ⟨h448, eh448, e⟩ := e
      refine z_zast eh448 dX10_image_34 ?_
      refine z_aload_n 0 dX10_image_35 rfl ?_
      refine z_iconst (v := 0) dX10_image_36 (by decide) ?_
      replace e := z_bd e; obtain ⟨o450, eo450, e⟩ := e
      replace e := z_bd e; obtain ⟨p449, ep449, e⟩ := e
      refine z_cV [.int (0:Int32)] (S_X10_grant  ep449) eo450 rfl ml_X10_118 ck_X10_grant vk_X10_grant dX10_image_37 (by decide) rfl (Nat.zero_le _) rfl ?_
      cases e
      exact z_iret dX10_image_40 rfl
    · rw [if_neg c441] at e
      exact z_weak [0] rfl (S_X10_image_9   e)
theorem dX11_image_0 : decode cX11_image 0 = .ok (.aload_n 0, 1) := by decide +kernel
theorem dX11_image_1 : decode cX11_image 1 = .ok (.iconst 0, 1) := by decide +kernel
theorem dX11_image_2 : decode cX11_image 2 = .ok (.putfield 166, 3) := by decide +kernel
theorem dX11_image_5 : decode cX11_image 5 = .ok (.iload_n 1, 1) := by decide +kernel
theorem dX11_image_6 : decode cX11_image 6 = .ok (.i2l, 1) := by decide +kernel
theorem dX11_image_7 : decode cX11_image 7 = .ok (.lconst 0, 1) := by decide +kernel
theorem dX11_image_8 : decode cX11_image 8 = .ok (.lconst 1, 1) := by decide +kernel
theorem dX11_image_9 : decode cX11_image 9 = .ok (.invokestatic 186, 3) := by decide +kernel
theorem dX11_image_12 : decode cX11_image 12 = .ok (.ifCond .ne 9, 3) := by decide +kernel
theorem dX11_image_15 : decode cX11_image 15 = .ok (.aload_n 0, 1) := by decide +kernel
theorem dX11_image_16 : decode cX11_image 16 = .ok (.iconst (-1), 1) := by decide +kernel
theorem dX11_image_17 : decode cX11_image 17 = .ok (.invokevirtual 175, 3) := by decide +kernel
theorem dX11_image_20 : decode cX11_image 20 = .ok (.ireturn, 1) := by decide +kernel
theorem dX11_image_21 : decode cX11_image 21 = .ok (.iconst 0, 1) := by decide +kernel
theorem dX11_image_22 : decode cX11_image 22 = .ok (.istore_n 2, 1) := by decide +kernel
theorem dX11_image_23 : decode cX11_image 23 = .ok (.iload_n 2, 1) := by decide +kernel
theorem dX11_image_24 : decode cX11_image 24 = .ok (.sipush 5462, 3) := by decide +kernel
theorem dX11_image_27 : decode cX11_image 27 = .ok (.if_icmp .ge 27, 3) := by decide +kernel
theorem dX11_image_30 : decode cX11_image 30 = .ok (.aload_n 0, 1) := by decide +kernel
theorem dX11_image_31 : decode cX11_image 31 = .ok (.getfield 16, 3) := by decide +kernel
theorem dX11_image_34 : decode cX11_image 34 = .ok (.sipush 5462, 3) := by decide +kernel
theorem dX11_image_37 : decode cX11_image 37 = .ok (.iload_n 1, 1) := by decide +kernel
theorem dX11_image_38 : decode cX11_image 38 = .ok (.imul, 1) := by decide +kernel
theorem dX11_image_39 : decode cX11_image 39 = .ok (.iload_n 2, 1) := by decide +kernel
theorem dX11_image_40 : decode cX11_image 40 = .ok (.iadd, 1) := by decide +kernel
theorem dX11_image_41 : decode cX11_image 41 = .ok (.aload_n 0, 1) := by decide +kernel
theorem dX11_image_42 : decode cX11_image 42 = .ok (.getfield 13, 3) := by decide +kernel
theorem dX11_image_45 : decode cX11_image 45 = .ok (.iload_n 2, 1) := by decide +kernel
theorem dX11_image_46 : decode cX11_image 46 = .ok (.iaload, 1) := by decide +kernel
theorem dX11_image_47 : decode cX11_image 47 = .ok (.iastore, 1) := by decide +kernel
theorem dX11_image_48 : decode cX11_image 48 = .ok (.iinc 2 1, 3) := by decide +kernel
theorem dX11_image_51 : decode cX11_image 51 = .ok (.goto (-28), 3) := by decide +kernel
theorem dX11_image_54 : decode cX11_image 54 = .ok (.aload_n 0, 1) := by decide +kernel
theorem dX11_image_55 : decode cX11_image 55 = .ok (.getfield 19, 3) := by decide +kernel
theorem dX11_image_58 : decode cX11_image 58 = .ok (.iload_n 1, 1) := by decide +kernel
theorem dX11_image_59 : decode cX11_image 59 = .ok (.iconst 1, 1) := by decide +kernel
theorem dX11_image_60 : decode cX11_image 60 = .ok (.bastore, 1) := by decide +kernel
theorem dX11_image_61 : decode cX11_image 61 = .ok (.aload_n 0, 1) := by decide +kernel
theorem dX11_image_62 : decode cX11_image 62 = .ok (.iconst 0, 1) := by decide +kernel
theorem dX11_image_63 : decode cX11_image 63 = .ok (.invokevirtual 175, 3) := by decide +kernel
theorem dX11_image_66 : decode cX11_image 66 = .ok (.ireturn, 1) := by decide +kernel
def D_X11_image_23b (k23 : z_H → Option Nat → Int32 → Int32 → Option (Int32 × z_H)) (h : z_H) (l0 : Option Nat) (l1 : Int32) (l2 : Int32) : Option (Int32 × z_H) :=
  if (5462:Int32) ≤ l2 then
    (z_gQ 11 h l0 5).bind fun x452 =>
    (z_sZ h x452 l1 (1:Int32)).bind fun h453 =>
    (z_ob 11 h453 l0).bind fun _ =>
    (D_X11_tell  h453 l0 (0:Int32)).bind fun p454 =>
    some (p454.1, p454.2)
  else
    (z_gQ 11 h l0 4).bind fun x456 =>
    (z_gQ 11 h l0 3).bind fun x457 =>
    (z_aI .int h x457 l2).bind fun x458 =>
    (z_sI h x456 (((5462:Int32) * l1) + l2) x458).bind fun h459 =>
    (some (l2 + (1:Int32))).bind fun x460 =>
    k23 h459 l0 l1 x460
def D_X11_image_23 (n : Nat) : z_H → Option Nat → Int32 → Int32 → Option (Int32 × z_H) := Nat.rec (motive := fun _ => z_H → Option Nat → Int32 → Int32 → Option (Int32 × z_H)) (fun _ _ _ _ => none) (fun _ k => D_X11_image_23b  k) n
set_option maxRecDepth 100000 in
set_option maxHeartbeats 4000000 in
theorem S_X11_image_23 {G : z_G} {l : Launch}  (n : Nat) : ∀ {h : z_H} {l0 : Option Nat} {l1 : Int32} {l2 : Int32} {res : (Int32 × z_H)}, D_X11_image_23  n h l0 l1 l2 = some res → z_Run G l 5 M_X11_image 23 [(0, z_r l0), (1, .int l1), (2, .int l2)] [] h res.2 (some (.int res.1)) := by
  induction n with
  | zero => intro h l0 l1 l2 res e; cases e
  | succ n hk23 =>
    intro h l0 l1 l2 res e
    replace e : D_X11_image_23b  (D_X11_image_23  n) h l0 l1 l2 = some res := e
    unfold D_X11_image_23b at e
    refine z_iload_n 2 dX11_image_23 rfl ?_
    refine z_sipush (v := 5462) dX11_image_24 (by decide) ?_
    refine z_icmp_ge (tgt := 54) dX11_image_27 (by decide) (fun c451 => ?_) (fun c451 => ?_)
    · rw [if_pos c451] at e
      refine z_aload_n 0 dX11_image_54 rfl ?_
      replace e := z_bd e; obtain ⟨x452, ex452, e⟩ := e
      refine z_getQ ex452 lk_X11_19 dX11_image_55 ?_
      refine z_iload_n 1 dX11_image_58 rfl ?_
      refine z_iconst (v := 1) dX11_image_59 (by decide) ?_
      replace e := z_bd e; obtain ⟨h453, eh453, e⟩ := e
      refine z_zast eh453 dX11_image_60 ?_
      refine z_aload_n 0 dX11_image_61 rfl ?_
      refine z_iconst (v := 0) dX11_image_62 (by decide) ?_
      replace e := z_bd e; obtain ⟨o455, eo455, e⟩ := e
      replace e := z_bd e; obtain ⟨p454, ep454, e⟩ := e
      refine z_cV [.int (0:Int32)] (S_X11_tell  ep454) eo455 rfl ml_X11_175 ck_X11_tell vk_X11_tell dX11_image_63 (by decide) rfl (Nat.zero_le _) rfl ?_
      cases e
      exact z_iret dX11_image_66 rfl
    · rw [if_neg c451] at e
      refine z_aload_n 0 dX11_image_30 rfl ?_
      replace e := z_bd e; obtain ⟨x456, ex456, e⟩ := e
      refine z_getQ ex456 lk_X11_16 dX11_image_31 ?_
      refine z_sipush (v := 5462) dX11_image_34 (by decide) ?_
      refine z_iload_n 1 dX11_image_37 rfl ?_
      refine z_imul dX11_image_38 ?_
      refine z_iload_n 2 dX11_image_39 rfl ?_
      refine z_iadd dX11_image_40 ?_
      refine z_aload_n 0 dX11_image_41 rfl ?_
      replace e := z_bd e; obtain ⟨x457, ex457, e⟩ := e
      refine z_getQ ex457 lk_X11_13 dX11_image_42 ?_
      refine z_iload_n 2 dX11_image_45 rfl ?_
      replace e := z_bd e; obtain ⟨x458, ex458, e⟩ := e
      refine z_iald ex458 dX11_image_46 ?_
      replace e := z_bd e; obtain ⟨h459, eh459, e⟩ := e
      refine z_iast eh459 dX11_image_47 ?_
      replace e := z_bd e; obtain ⟨x460, ex460, e⟩ := e
      refine z_iinc (q := 2) (v := x460) (L' := [(2, .int x460), (0, z_r l0), (1, .int l1)]) dX11_image_48 rfl (Option.some.inj ex460) (by decide) rfl ?_
      refine z_goto (tgt := 23) dX11_image_51 (by decide) ?_
      exact z_weak [1, 2, 0] rfl (hk23 e)
def D_X11_image (h : z_H) (l0 : Option Nat) (l1 : Int32) : Option (Int32 × z_H) :=
  (z_pV 11 h l0 0 (.int (0:Int32))).bind fun h461 =>
  (D_X11_in  h461 (Int32.toInt64 l1) (0:Int64) (1:Int64)).bind fun p462 =>
  if p462.1 = 0 then
    (z_ob 11 p462.2 l0).bind fun _ =>
    (D_X11_tell  p462.2 l0 (-1:Int32)).bind fun p464 =>
    some (p464.1, p464.2)
  else
    D_X11_image_23   z_F p462.2 l0 l1 (0:Int32)
set_option maxRecDepth 100000 in
set_option maxHeartbeats 4000000 in
theorem S_X11_image {G : z_G} {l : Launch} {h : z_H} {l0 : Option Nat} {l1 : Int32} {res : (Int32 × z_H)} (e : D_X11_image h l0 l1 = some res) : z_Meth G l 5 M_X11_image [z_r l0, .int l1] h res.2 (some (.int res.1)) := by
  refine z_Meth.of ck_X11_image.2.2.2.2 (by simp [lg_sl, z_ci, z_cj, z_cr, z_cx]) ck_X11_image.1 ?_
  rw [show lv_args 0 [z_r l0, .int l1] = [(0, z_r l0), (1, .int l1)] from by simp [lv_args, z_ci, z_cj, z_cr, z_cx]]
  unfold D_X11_image at e
  refine z_aload_n 0 dX11_image_0 rfl ?_
  refine z_iconst (v := 0) dX11_image_1 (by decide) ?_
  replace e := z_bd e; obtain ⟨h461, eh461, e⟩ := e
  refine z_putV eh461 lk_X11_166 wk_11_0 (fun _ => rfl) (fun _ => rfl) dX11_image_2 ?_
  refine z_iload_n 1 dX11_image_5 rfl ?_
  refine z_i2l dX11_image_6 ?_
  refine z_lconst (v := 0) dX11_image_7 (by decide) ?_
  refine z_lconst (v := 1) dX11_image_8 (by decide) ?_
  replace e := z_bd e; obtain ⟨p462, ep462, e⟩ := e
  refine z_cS [.long (Int32.toInt64 l1), .long (0:Int64), .long (1:Int64)] (S_X11_in  ep462) ml_X11_186 ck_X11_in st_X11_in dX11_image_9 (by decide) rfl (Nat.zero_le _) rfl ?_
  refine z_if_ne (tgt := 21) dX11_image_12 (by decide) (fun c463 => ?_) (fun c463 => ?_)
  · rw [if_neg c463] at e
    refine z_iconst (v := 0) dX11_image_21 (by decide) ?_
    refine z_istore_n (L' := [(2, .int (0:Int32)), (0, z_r l0), (1, .int l1)]) dX11_image_22 rfl (by decide) rfl ?_
    exact z_weak [1, 2, 0] rfl (S_X11_image_23   z_F e)
  · rw [if_pos c463] at e
    refine z_aload_n 0 dX11_image_15 rfl ?_
    refine z_iconst (v := -1) dX11_image_16 (by decide) ?_
    replace e := z_bd e; obtain ⟨o465, eo465, e⟩ := e
    replace e := z_bd e; obtain ⟨p464, ep464, e⟩ := e
    refine z_cV [.int (-1:Int32)] (S_X11_tell  ep464) eo465 rfl ml_X11_175 ck_X11_tell vk_X11_tell dX11_image_17 (by decide) rfl (Nat.zero_le _) rfl ?_
    cases e
    exact z_iret dX11_image_20 rfl
theorem dX9_hasPair_0 : decode cX9_hasPair 0 = .ok (.iload_n 1, 1) := by decide +kernel
theorem dX9_hasPair_1 : decode cX9_hasPair 1 = .ok (.ifCond .lt 15, 3) := by decide +kernel
theorem dX9_hasPair_4 : decode cX9_hasPair 4 = .ok (.iload_n 1, 1) := by decide +kernel
theorem dX9_hasPair_5 : decode cX9_hasPair 5 = .ok (.aload_n 0, 1) := by decide +kernel
theorem dX9_hasPair_6 : decode cX9_hasPair 6 = .ok (.getfield 42, 3) := by decide +kernel
theorem dX9_hasPair_9 : decode cX9_hasPair 9 = .ok (.if_icmp .ge 7, 3) := by decide +kernel
theorem dX9_hasPair_12 : decode cX9_hasPair 12 = .ok (.iconst 1, 1) := by decide +kernel
theorem dX9_hasPair_13 : decode cX9_hasPair 13 = .ok (.goto 4, 3) := by decide +kernel
theorem dX9_hasPair_16 : decode cX9_hasPair 16 = .ok (.iconst 0, 1) := by decide +kernel
theorem dX9_hasPair_17 : decode cX9_hasPair 17 = .ok (.ireturn, 1) := by decide +kernel
def D_X9_hasPair (h : z_H) (l0 : Option Nat) (l1 : Int32) : Option (Int32 × z_H) :=
  if l1 < 0 then
    some ((0:Int32), h)
  else
    (z_gI 9 h l0 8).bind fun x467 =>
    if x467 ≤ l1 then
      some ((0:Int32), h)
    else
      some ((1:Int32), h)
set_option maxRecDepth 100000 in
set_option maxHeartbeats 4000000 in
theorem S_X9_hasPair {G : z_G} {l : Launch} {h : z_H} {l0 : Option Nat} {l1 : Int32} {res : (Int32 × z_H)} (e : D_X9_hasPair h l0 l1 = some res) : z_Meth G l 4 M_X9_hasPair [z_r l0, .int l1] h res.2 (some (.int res.1)) := by
  refine z_Meth.of ck_X9_hasPair.2.2.2.2 (by simp [lg_sl, z_ci, z_cj, z_cr, z_cx]) ck_X9_hasPair.1 ?_
  rw [show lv_args 0 [z_r l0, .int l1] = [(0, z_r l0), (1, .int l1)] from by simp [lv_args, z_ci, z_cj, z_cr, z_cx]]
  unfold D_X9_hasPair at e
  refine z_iload_n 1 dX9_hasPair_0 rfl ?_
  refine z_if_lt (tgt := 16) dX9_hasPair_1 (by decide) (fun c466 => ?_) (fun c466 => ?_)
  · rw [if_pos c466] at e
    refine z_iconst (v := 0) dX9_hasPair_16 (by decide) ?_
    cases e
    exact z_zret dX9_hasPair_17 rfl (by decide)
  · rw [if_neg c466] at e
    refine z_iload_n 1 dX9_hasPair_4 rfl ?_
    refine z_aload_n 0 dX9_hasPair_5 rfl ?_
    replace e := z_bd e; obtain ⟨x467, ex467, e⟩ := e
    refine z_getI ex467 lk_X9_42 dX9_hasPair_6 ?_
    refine z_icmp_ge (tgt := 16) dX9_hasPair_9 (by decide) (fun c468 => ?_) (fun c468 => ?_)
    · rw [if_pos c468] at e
      refine z_iconst (v := 0) dX9_hasPair_16 (by decide) ?_
      cases e
      exact z_zret dX9_hasPair_17 rfl (by decide)
    · rw [if_neg c468] at e
      refine z_iconst (v := 1) dX9_hasPair_12 (by decide) ?_
      refine z_goto (tgt := 17) dX9_hasPair_13 (by decide) ?_
      cases e
      exact z_zret dX9_hasPair_17 rfl (by decide)
theorem dX9_wornAt_0 : decode cX9_wornAt 0 = .ok (.aload_n 0, 1) := by decide +kernel
theorem dX9_wornAt_1 : decode cX9_wornAt 1 = .ok (.getfield 21, 3) := by decide +kernel
theorem dX9_wornAt_4 : decode cX9_wornAt 4 = .ok (.iload_n 1, 1) := by decide +kernel
theorem dX9_wornAt_5 : decode cX9_wornAt 5 = .ok (.iconst 4, 1) := by decide +kernel
theorem dX9_wornAt_6 : decode cX9_wornAt 6 = .ok (.imul, 1) := by decide +kernel
theorem dX9_wornAt_7 : decode cX9_wornAt 7 = .ok (.iload_n 2, 1) := by decide +kernel
theorem dX9_wornAt_8 : decode cX9_wornAt 8 = .ok (.iadd, 1) := by decide +kernel
theorem dX9_wornAt_9 : decode cX9_wornAt 9 = .ok (.iaload, 1) := by decide +kernel
theorem dX9_wornAt_10 : decode cX9_wornAt 10 = .ok (.ireturn, 1) := by decide +kernel
def D_X9_wornAt (h : z_H) (l0 : Option Nat) (l1 : Int32) (l2 : Int32) : Option (Int32 × z_H) :=
  (z_gQ 9 h l0 3).bind fun x469 =>
  (z_aI .int h x469 ((l1 * (4:Int32)) + l2)).bind fun x470 =>
  some (x470, h)
set_option maxRecDepth 100000 in
set_option maxHeartbeats 4000000 in
theorem S_X9_wornAt {G : z_G} {l : Launch} {h : z_H} {l0 : Option Nat} {l1 : Int32} {l2 : Int32} {res : (Int32 × z_H)} (e : D_X9_wornAt h l0 l1 l2 = some res) : z_Meth G l 4 M_X9_wornAt [z_r l0, .int l1, .int l2] h res.2 (some (.int res.1)) := by
  refine z_Meth.of ck_X9_wornAt.2.2.2.2 (by simp [lg_sl, z_ci, z_cj, z_cr, z_cx]) ck_X9_wornAt.1 ?_
  rw [show lv_args 0 [z_r l0, .int l1, .int l2] = [(0, z_r l0), (1, .int l1), (2, .int l2)] from by simp [lv_args, z_ci, z_cj, z_cr, z_cx]]
  unfold D_X9_wornAt at e
  refine z_aload_n 0 dX9_wornAt_0 rfl ?_
  replace e := z_bd e; obtain ⟨x469, ex469, e⟩ := e
  refine z_getQ ex469 lk_X9_21 dX9_wornAt_1 ?_
  refine z_iload_n 1 dX9_wornAt_4 rfl ?_
  refine z_iconst (v := 4) dX9_wornAt_5 (by decide) ?_
  refine z_imul dX9_wornAt_6 ?_
  refine z_iload_n 2 dX9_wornAt_7 rfl ?_
  refine z_iadd dX9_wornAt_8 ?_
  replace e := z_bd e; obtain ⟨x470, ex470, e⟩ := e
  refine z_iald ex470 dX9_wornAt_9 ?_
  cases e
  exact z_iret dX9_wornAt_10 rfl
theorem dX10_drawn_0 : decode cX10_drawn 0 = .ok (.aload_n 0, 1) := by decide +kernel
theorem dX10_drawn_1 : decode cX10_drawn 1 = .ok (.getfield 24, 3) := by decide +kernel
theorem dX10_drawn_4 : decode cX10_drawn 4 = .ok (.iload_n 1, 1) := by decide +kernel
theorem dX10_drawn_5 : decode cX10_drawn 5 = .ok (.invokevirtual 121, 3) := by decide +kernel
theorem dX10_drawn_8 : decode cX10_drawn 8 = .ok (.ifCond .ne 5, 3) := by decide +kernel
theorem dX10_drawn_11 : decode cX10_drawn 11 = .ok (.iconst (-1), 1) := by decide +kernel
theorem dX10_drawn_12 : decode cX10_drawn 12 = .ok (.ireturn, 1) := by decide +kernel
theorem dX10_drawn_13 : decode cX10_drawn 13 = .ok (.iload_n 2, 1) := by decide +kernel
theorem dX10_drawn_14 : decode cX10_drawn 14 = .ok (.iconst 2, 1) := by decide +kernel
theorem dX10_drawn_15 : decode cX10_drawn 15 = .ok (.if_icmp .lt 21, 3) := by decide +kernel
theorem dX10_drawn_18 : decode cX10_drawn 18 = .ok (.iload_n 2, 1) := by decide +kernel
theorem dX10_drawn_19 : decode cX10_drawn 19 = .ok (.bipush 6, 2) := by decide +kernel
theorem dX10_drawn_21 : decode cX10_drawn 21 = .ok (.if_icmp .ge 15, 3) := by decide +kernel
theorem dX10_drawn_24 : decode cX10_drawn 24 = .ok (.aload_n 0, 1) := by decide +kernel
theorem dX10_drawn_25 : decode cX10_drawn 25 = .ok (.getfield 24, 3) := by decide +kernel
theorem dX10_drawn_28 : decode cX10_drawn 28 = .ok (.iload_n 1, 1) := by decide +kernel
theorem dX10_drawn_29 : decode cX10_drawn 29 = .ok (.iload_n 2, 1) := by decide +kernel
theorem dX10_drawn_30 : decode cX10_drawn 30 = .ok (.iconst 2, 1) := by decide +kernel
theorem dX10_drawn_31 : decode cX10_drawn 31 = .ok (.isub, 1) := by decide +kernel
theorem dX10_drawn_32 : decode cX10_drawn 32 = .ok (.invokevirtual 125, 3) := by decide +kernel
theorem dX10_drawn_35 : decode cX10_drawn 35 = .ok (.ireturn, 1) := by decide +kernel
theorem dX10_drawn_36 : decode cX10_drawn 36 = .ok (.iload_n 2, 1) := by decide +kernel
theorem dX10_drawn_37 : decode cX10_drawn 37 = .ok (.ifCond .ne 13, 3) := by decide +kernel
theorem dX10_drawn_40 : decode cX10_drawn 40 = .ok (.aload_n 0, 1) := by decide +kernel
theorem dX10_drawn_41 : decode cX10_drawn 41 = .ok (.getfield 24, 3) := by decide +kernel
theorem dX10_drawn_44 : decode cX10_drawn 44 = .ok (.getfield 129, 3) := by decide +kernel
theorem dX10_drawn_47 : decode cX10_drawn 47 = .ok (.iload_n 1, 1) := by decide +kernel
theorem dX10_drawn_48 : decode cX10_drawn 48 = .ok (.iaload, 1) := by decide +kernel
theorem dX10_drawn_49 : decode cX10_drawn 49 = .ok (.ireturn, 1) := by decide +kernel
theorem dX10_drawn_50 : decode cX10_drawn 50 = .ok (.iload_n 2, 1) := by decide +kernel
theorem dX10_drawn_51 : decode cX10_drawn 51 = .ok (.iconst 1, 1) := by decide +kernel
theorem dX10_drawn_52 : decode cX10_drawn 52 = .ok (.if_icmp .ne 15, 3) := by decide +kernel
theorem dX10_drawn_55 : decode cX10_drawn 55 = .ok (.aload_n 0, 1) := by decide +kernel
theorem dX10_drawn_56 : decode cX10_drawn 56 = .ok (.getfield 24, 3) := by decide +kernel
theorem dX10_drawn_59 : decode cX10_drawn 59 = .ok (.getfield 132, 3) := by decide +kernel
theorem dX10_drawn_62 : decode cX10_drawn 62 = .ok (.iload_n 1, 1) := by decide +kernel
theorem dX10_drawn_63 : decode cX10_drawn 63 = .ok (.iaload, 1) := by decide +kernel
theorem dX10_drawn_64 : decode cX10_drawn 64 = .ok (.goto 4, 3) := by decide +kernel
theorem dX10_drawn_67 : decode cX10_drawn 67 = .ok (.iconst (-1), 1) := by decide +kernel
theorem dX10_drawn_68 : decode cX10_drawn 68 = .ok (.ireturn, 1) := by decide +kernel
def D_X10_drawn_36 (h : z_H) (l0 : Option Nat) (l1 : Int32) (l2 : Int32) : Option (Int32 × z_H) :=
  if l2 = 0 then
    (z_gQ 10 h l0 3).bind fun x476 =>
    (z_gQ 9 h x476 0).bind fun x477 =>
    (z_aI .int h x477 l1).bind fun x478 =>
    some (x478, h)
  else
    if l2 = (1:Int32) then
      (z_gQ 10 h l0 3).bind fun x473 =>
      (z_gQ 9 h x473 1).bind fun x474 =>
      (z_aI .int h x474 l1).bind fun x475 =>
      some (x475, h)
    else
      some ((-1:Int32), h)
set_option maxRecDepth 100000 in
set_option maxHeartbeats 4000000 in
theorem S_X10_drawn_36 {G : z_G} {l : Launch}  {h : z_H} {l0 : Option Nat} {l1 : Int32} {l2 : Int32} {res : (Int32 × z_H)} (e : D_X10_drawn_36  h l0 l1 l2 = some res) : z_Run G l 5 M_X10_drawn 36 [(0, z_r l0), (1, .int l1), (2, .int l2)] [] h res.2 (some (.int res.1)) := by
  unfold D_X10_drawn_36 at e
  refine z_iload_n 2 dX10_drawn_36 rfl ?_
  refine z_if_ne (tgt := 50) dX10_drawn_37 (by decide) (fun c471 => ?_) (fun c471 => ?_)
  · rw [if_neg c471] at e
    refine z_iload_n 2 dX10_drawn_50 rfl ?_
    refine z_iconst (v := 1) dX10_drawn_51 (by decide) ?_
    refine z_icmp_ne (tgt := 67) dX10_drawn_52 (by decide) (fun c472 => ?_) (fun c472 => ?_)
    · rw [if_neg c472] at e
      refine z_iconst (v := -1) dX10_drawn_67 (by decide) ?_
      cases e
      exact z_iret dX10_drawn_68 rfl
    · rw [if_pos c472] at e
      refine z_aload_n 0 dX10_drawn_55 rfl ?_
      replace e := z_bd e; obtain ⟨x473, ex473, e⟩ := e
      refine z_getQ ex473 lk_X10_24 dX10_drawn_56 ?_
      replace e := z_bd e; obtain ⟨x474, ex474, e⟩ := e
      refine z_getQ ex474 lk_X10_132 dX10_drawn_59 ?_
      refine z_iload_n 1 dX10_drawn_62 rfl ?_
      replace e := z_bd e; obtain ⟨x475, ex475, e⟩ := e
      refine z_iald ex475 dX10_drawn_63 ?_
      refine z_goto (tgt := 68) dX10_drawn_64 (by decide) ?_
      cases e
      exact z_iret dX10_drawn_68 rfl
  · rw [if_pos c471] at e
    refine z_aload_n 0 dX10_drawn_40 rfl ?_
    replace e := z_bd e; obtain ⟨x476, ex476, e⟩ := e
    refine z_getQ ex476 lk_X10_24 dX10_drawn_41 ?_
    replace e := z_bd e; obtain ⟨x477, ex477, e⟩ := e
    refine z_getQ ex477 lk_X10_129 dX10_drawn_44 ?_
    refine z_iload_n 1 dX10_drawn_47 rfl ?_
    replace e := z_bd e; obtain ⟨x478, ex478, e⟩ := e
    refine z_iald ex478 dX10_drawn_48 ?_
    cases e
    exact z_iret dX10_drawn_49 rfl
def D_X10_drawn (h : z_H) (l0 : Option Nat) (l1 : Int32) (l2 : Int32) : Option (Int32 × z_H) :=
  (z_gQ 10 h l0 3).bind fun x479 =>
  (z_ob 9 h x479).bind fun _ =>
  (D_X9_hasPair  h x479 l1).bind fun p480 =>
  if p480.1 = 0 then
    some ((-1:Int32), p480.2)
  else
    if l2 < (2:Int32) then
      D_X10_drawn_36   p480.2 l0 l1 l2
    else
      if (6:Int32) ≤ l2 then
        D_X10_drawn_36   p480.2 l0 l1 l2
      else
        (z_gQ 10 p480.2 l0 3).bind fun x485 =>
        (z_ob 9 p480.2 x485).bind fun _ =>
        (D_X9_wornAt  p480.2 x485 l1 (l2 - (2:Int32))).bind fun p486 =>
        some (p486.1, p486.2)
set_option maxRecDepth 100000 in
set_option maxHeartbeats 4000000 in
theorem S_X10_drawn {G : z_G} {l : Launch} {h : z_H} {l0 : Option Nat} {l1 : Int32} {l2 : Int32} {res : (Int32 × z_H)} (e : D_X10_drawn h l0 l1 l2 = some res) : z_Meth G l 5 M_X10_drawn [z_r l0, .int l1, .int l2] h res.2 (some (.int res.1)) := by
  refine z_Meth.of ck_X10_drawn.2.2.2.2 (by simp [lg_sl, z_ci, z_cj, z_cr, z_cx]) ck_X10_drawn.1 ?_
  rw [show lv_args 0 [z_r l0, .int l1, .int l2] = [(0, z_r l0), (1, .int l1), (2, .int l2)] from by simp [lv_args, z_ci, z_cj, z_cr, z_cx]]
  unfold D_X10_drawn at e
  refine z_aload_n 0 dX10_drawn_0 rfl ?_
  replace e := z_bd e; obtain ⟨x479, ex479, e⟩ := e
  refine z_getQ ex479 lk_X10_24 dX10_drawn_1 ?_
  refine z_iload_n 1 dX10_drawn_4 rfl ?_
  replace e := z_bd e; obtain ⟨o481, eo481, e⟩ := e
  replace e := z_bd e; obtain ⟨p480, ep480, e⟩ := e
  refine z_cV [.int l1] (S_X9_hasPair  ep480) eo481 rfl ml_X10_121 ck_X9_hasPair vk_X9_hasPair dX10_drawn_5 (by decide) rfl (Nat.zero_le _) rfl ?_
  refine z_if_ne (tgt := 13) dX10_drawn_8 (by decide) (fun c482 => ?_) (fun c482 => ?_)
  · rw [if_neg c482] at e
    refine z_iload_n 2 dX10_drawn_13 rfl ?_
    refine z_iconst (v := 2) dX10_drawn_14 (by decide) ?_
    refine z_icmp_lt (tgt := 36) dX10_drawn_15 (by decide) (fun c483 => ?_) (fun c483 => ?_)
    · rw [if_pos c483] at e
      exact z_weak [0, 1, 2] rfl (S_X10_drawn_36   e)
    · rw [if_neg c483] at e
      refine z_iload_n 2 dX10_drawn_18 rfl ?_
      refine z_bipush (v := 6) dX10_drawn_19 (by decide) ?_
      refine z_icmp_ge (tgt := 36) dX10_drawn_21 (by decide) (fun c484 => ?_) (fun c484 => ?_)
      · rw [if_pos c484] at e
        exact z_weak [0, 1, 2] rfl (S_X10_drawn_36   e)
      · rw [if_neg c484] at e
        refine z_aload_n 0 dX10_drawn_24 rfl ?_
        replace e := z_bd e; obtain ⟨x485, ex485, e⟩ := e
        refine z_getQ ex485 lk_X10_24 dX10_drawn_25 ?_
        refine z_iload_n 1 dX10_drawn_28 rfl ?_
        refine z_iload_n 2 dX10_drawn_29 rfl ?_
        refine z_iconst (v := 2) dX10_drawn_30 (by decide) ?_
        refine z_isub dX10_drawn_31 ?_
        replace e := z_bd e; obtain ⟨o487, eo487, e⟩ := e
        replace e := z_bd e; obtain ⟨p486, ep486, e⟩ := e
        refine z_cV [.int l1, .int (l2 - (2:Int32))] (S_X9_wornAt  ep486) eo487 rfl ml_X10_125 ck_X9_wornAt vk_X9_wornAt dX10_drawn_32 (by decide) rfl (Nat.zero_le _) rfl ?_
        cases e
        exact z_iret dX10_drawn_35 rfl
  · rw [if_pos c482] at e
    refine z_iconst (v := -1) dX10_drawn_11 (by decide) ?_
    cases e
    exact z_iret dX10_drawn_12 rfl
theorem dX11_drawn_0 : decode cX11_drawn 0 = .ok (.aload_n 0, 1) := by decide +kernel
theorem dX11_drawn_1 : decode cX11_drawn 1 = .ok (.iconst 0, 1) := by decide +kernel
theorem dX11_drawn_2 : decode cX11_drawn 2 = .ok (.putfield 166, 3) := by decide +kernel
theorem dX11_drawn_5 : decode cX11_drawn 5 = .ok (.iload_n 1, 1) := by decide +kernel
theorem dX11_drawn_6 : decode cX11_drawn 6 = .ok (.i2l, 1) := by decide +kernel
theorem dX11_drawn_7 : decode cX11_drawn 7 = .ok (.lconst 0, 1) := by decide +kernel
theorem dX11_drawn_8 : decode cX11_drawn 8 = .ok (.aload_n 0, 1) := by decide +kernel
theorem dX11_drawn_9 : decode cX11_drawn 9 = .ok (.getfield 163, 3) := by decide +kernel
theorem dX11_drawn_12 : decode cX11_drawn 12 = .ok (.i2l, 1) := by decide +kernel
theorem dX11_drawn_13 : decode cX11_drawn 13 = .ok (.lconst 1, 1) := by decide +kernel
theorem dX11_drawn_14 : decode cX11_drawn 14 = .ok (.lsub, 1) := by decide +kernel
theorem dX11_drawn_15 : decode cX11_drawn 15 = .ok (.invokestatic 186, 3) := by decide +kernel
theorem dX11_drawn_18 : decode cX11_drawn 18 = .ok (.ifCond .eq 15, 3) := by decide +kernel
theorem dX11_drawn_21 : decode cX11_drawn 21 = .ok (.iload_n 2, 1) := by decide +kernel
theorem dX11_drawn_22 : decode cX11_drawn 22 = .ok (.i2l, 1) := by decide +kernel
theorem dX11_drawn_23 : decode cX11_drawn 23 = .ok (.lconst 0, 1) := by decide +kernel
theorem dX11_drawn_24 : decode cX11_drawn 24 = .ok (.ldc2_w 340, 3) := by decide +kernel
theorem dX11_drawn_27 : decode cX11_drawn 27 = .ok (.invokestatic 186, 3) := by decide +kernel
theorem dX11_drawn_30 : decode cX11_drawn 30 = .ok (.ifCond .ne 5, 3) := by decide +kernel
theorem dX11_drawn_33 : decode cX11_drawn 33 = .ok (.iconst (-1), 1) := by decide +kernel
theorem dX11_drawn_34 : decode cX11_drawn 34 = .ok (.ireturn, 1) := by decide +kernel
theorem dX11_drawn_35 : decode cX11_drawn 35 = .ok (.aload_n 0, 1) := by decide +kernel
theorem dX11_drawn_36 : decode cX11_drawn 36 = .ok (.getfield 160, 3) := by decide +kernel
theorem dX11_drawn_39 : decode cX11_drawn 39 = .ok (.iload_n 2, 1) := by decide +kernel
theorem dX11_drawn_40 : decode cX11_drawn 40 = .ok (.ifCond .ne 9, 3) := by decide +kernel
theorem dX11_drawn_43 : decode cX11_drawn 43 = .ok (.iconst 3, 1) := by decide +kernel
theorem dX11_drawn_44 : decode cX11_drawn 44 = .ok (.iload_n 1, 1) := by decide +kernel
theorem dX11_drawn_45 : decode cX11_drawn 45 = .ok (.iadd, 1) := by decide +kernel
theorem dX11_drawn_46 : decode cX11_drawn 46 = .ok (.goto 25, 3) := by decide +kernel
theorem dX11_drawn_49 : decode cX11_drawn 49 = .ok (.iload_n 2, 1) := by decide +kernel
theorem dX11_drawn_50 : decode cX11_drawn 50 = .ok (.iconst 1, 1) := by decide +kernel
theorem dX11_drawn_51 : decode cX11_drawn 51 = .ok (.if_icmp .ne 10, 3) := by decide +kernel
theorem dX11_drawn_54 : decode cX11_drawn 54 = .ok (.bipush 9, 2) := by decide +kernel
theorem dX11_drawn_56 : decode cX11_drawn 56 = .ok (.iload_n 1, 1) := by decide +kernel
theorem dX11_drawn_57 : decode cX11_drawn 57 = .ok (.iadd, 1) := by decide +kernel
theorem dX11_drawn_58 : decode cX11_drawn 58 = .ok (.goto 13, 3) := by decide +kernel
theorem dX11_drawn_61 : decode cX11_drawn 61 = .ok (.bipush 15, 2) := by decide +kernel
theorem dX11_drawn_63 : decode cX11_drawn 63 = .ok (.iconst 4, 1) := by decide +kernel
theorem dX11_drawn_64 : decode cX11_drawn 64 = .ok (.iload_n 1, 1) := by decide +kernel
theorem dX11_drawn_65 : decode cX11_drawn 65 = .ok (.imul, 1) := by decide +kernel
theorem dX11_drawn_66 : decode cX11_drawn 66 = .ok (.iadd, 1) := by decide +kernel
theorem dX11_drawn_67 : decode cX11_drawn 67 = .ok (.iload_n 2, 1) := by decide +kernel
theorem dX11_drawn_68 : decode cX11_drawn 68 = .ok (.iadd, 1) := by decide +kernel
theorem dX11_drawn_69 : decode cX11_drawn 69 = .ok (.iconst 2, 1) := by decide +kernel
theorem dX11_drawn_70 : decode cX11_drawn 70 = .ok (.isub, 1) := by decide +kernel
theorem dX11_drawn_71 : decode cX11_drawn 71 = .ok (.iaload, 1) := by decide +kernel
theorem dX11_drawn_72 : decode cX11_drawn 72 = .ok (.ireturn, 1) := by decide +kernel
def D_X11_drawn_71 (h : z_H) (s0 : Option Nat) (s1 : Int32) : Option (Int32 × z_H) :=
  (z_aI .int h s0 s1).bind fun x488 =>
  some (x488, h)
set_option maxRecDepth 100000 in
set_option maxHeartbeats 4000000 in
theorem S_X11_drawn_71 {G : z_G} {l : Launch}  {h : z_H} {s0 : Option Nat} {s1 : Int32} {res : (Int32 × z_H)} (e : D_X11_drawn_71  h s0 s1 = some res) : z_Run G l 5 M_X11_drawn 71 [] [.int s1, z_r s0] h res.2 (some (.int res.1)) := by
  unfold D_X11_drawn_71 at e
  replace e := z_bd e; obtain ⟨x488, ex488, e⟩ := e
  refine z_iald ex488 dX11_drawn_71 ?_
  cases e
  exact z_iret dX11_drawn_72 rfl
def D_X11_drawn (h : z_H) (l0 : Option Nat) (l1 : Int32) (l2 : Int32) : Option (Int32 × z_H) :=
  (z_pV 11 h l0 0 (.int (0:Int32))).bind fun h489 =>
  (z_gI 11 h489 l0 58).bind fun x490 =>
  (D_X11_in  h489 (Int32.toInt64 l1) (0:Int64) ((Int32.toInt64 x490) - (1:Int64))).bind fun p491 =>
  if p491.1 = 0 then
    some ((-1:Int32), p491.2)
  else
    (D_X11_in  p491.2 (Int32.toInt64 l2) (0:Int64) (5:Int64)).bind fun p493 =>
    if p493.1 = 0 then
      some ((-1:Int32), p493.2)
    else
      (z_gQ 11 p493.2 l0 57).bind fun x495 =>
      if l2 = 0 then
        D_X11_drawn_71   p493.2 x495 ((3:Int32) + l1)
      else
        if l2 = (1:Int32) then
          D_X11_drawn_71   p493.2 x495 ((9:Int32) + l1)
        else
          D_X11_drawn_71   p493.2 x495 ((((15:Int32) + ((4:Int32) * l1)) + l2) - (2:Int32))
set_option maxRecDepth 100000 in
set_option maxHeartbeats 4000000 in
theorem S_X11_drawn {G : z_G} {l : Launch} {h : z_H} {l0 : Option Nat} {l1 : Int32} {l2 : Int32} {res : (Int32 × z_H)} (e : D_X11_drawn h l0 l1 l2 = some res) : z_Meth G l 5 M_X11_drawn [z_r l0, .int l1, .int l2] h res.2 (some (.int res.1)) := by
  refine z_Meth.of ck_X11_drawn.2.2.2.2 (by simp [lg_sl, z_ci, z_cj, z_cr, z_cx]) ck_X11_drawn.1 ?_
  rw [show lv_args 0 [z_r l0, .int l1, .int l2] = [(0, z_r l0), (1, .int l1), (2, .int l2)] from by simp [lv_args, z_ci, z_cj, z_cr, z_cx]]
  unfold D_X11_drawn at e
  refine z_aload_n 0 dX11_drawn_0 rfl ?_
  refine z_iconst (v := 0) dX11_drawn_1 (by decide) ?_
  replace e := z_bd e; obtain ⟨h489, eh489, e⟩ := e
  refine z_putV eh489 lk_X11_166 wk_11_0 (fun _ => rfl) (fun _ => rfl) dX11_drawn_2 ?_
  refine z_iload_n 1 dX11_drawn_5 rfl ?_
  refine z_i2l dX11_drawn_6 ?_
  refine z_lconst (v := 0) dX11_drawn_7 (by decide) ?_
  refine z_aload_n 0 dX11_drawn_8 rfl ?_
  replace e := z_bd e; obtain ⟨x490, ex490, e⟩ := e
  refine z_getI ex490 lk_X11_163 dX11_drawn_9 ?_
  refine z_i2l dX11_drawn_12 ?_
  refine z_lconst (v := 1) dX11_drawn_13 (by decide) ?_
  refine z_lsub dX11_drawn_14 ?_
  replace e := z_bd e; obtain ⟨p491, ep491, e⟩ := e
  refine z_cS [.long (Int32.toInt64 l1), .long (0:Int64), .long ((Int32.toInt64 x490) - (1:Int64))] (S_X11_in  ep491) ml_X11_186 ck_X11_in st_X11_in dX11_drawn_15 (by decide) rfl (Nat.zero_le _) rfl ?_
  refine z_if_eq (tgt := 33) dX11_drawn_18 (by decide) (fun c492 => ?_) (fun c492 => ?_)
  · rw [if_pos c492] at e
    refine z_iconst (v := -1) dX11_drawn_33 (by decide) ?_
    cases e
    exact z_iret dX11_drawn_34 rfl
  · rw [if_neg c492] at e
    refine z_iload_n 2 dX11_drawn_21 rfl ?_
    refine z_i2l dX11_drawn_22 ?_
    refine z_lconst (v := 0) dX11_drawn_23 (by decide) ?_
    refine z_ldc2 dX11_drawn_24 kj_X11_340 ?_
    replace e := z_bd e; obtain ⟨p493, ep493, e⟩ := e
    refine z_cS [.long (Int32.toInt64 l2), .long (0:Int64), .long (5:Int64)] (S_X11_in  ep493) ml_X11_186 ck_X11_in st_X11_in dX11_drawn_27 (by decide) rfl (Nat.zero_le _) rfl ?_
    refine z_if_ne (tgt := 35) dX11_drawn_30 (by decide) (fun c494 => ?_) (fun c494 => ?_)
    · rw [if_neg c494] at e
      refine z_aload_n 0 dX11_drawn_35 rfl ?_
      replace e := z_bd e; obtain ⟨x495, ex495, e⟩ := e
      refine z_getQ ex495 lk_X11_160 dX11_drawn_36 ?_
      refine z_iload_n 2 dX11_drawn_39 rfl ?_
      refine z_if_ne (tgt := 49) dX11_drawn_40 (by decide) (fun c496 => ?_) (fun c496 => ?_)
      · rw [if_neg c496] at e
        refine z_iload_n 2 dX11_drawn_49 rfl ?_
        refine z_iconst (v := 1) dX11_drawn_50 (by decide) ?_
        refine z_icmp_ne (tgt := 61) dX11_drawn_51 (by decide) (fun c497 => ?_) (fun c497 => ?_)
        · rw [if_neg c497] at e
          refine z_bipush (v := 15) dX11_drawn_61 (by decide) ?_
          refine z_iconst (v := 4) dX11_drawn_63 (by decide) ?_
          refine z_iload_n 1 dX11_drawn_64 rfl ?_
          refine z_imul dX11_drawn_65 ?_
          refine z_iadd dX11_drawn_66 ?_
          refine z_iload_n 2 dX11_drawn_67 rfl ?_
          refine z_iadd dX11_drawn_68 ?_
          refine z_iconst (v := 2) dX11_drawn_69 (by decide) ?_
          refine z_isub dX11_drawn_70 ?_
          exact z_weak [] rfl (S_X11_drawn_71   e)
        · rw [if_pos c497] at e
          refine z_bipush (v := 9) dX11_drawn_54 (by decide) ?_
          refine z_iload_n 1 dX11_drawn_56 rfl ?_
          refine z_iadd dX11_drawn_57 ?_
          refine z_goto (tgt := 71) dX11_drawn_58 (by decide) ?_
          exact z_weak [] rfl (S_X11_drawn_71   e)
      · rw [if_pos c496] at e
        refine z_iconst (v := 3) dX11_drawn_43 (by decide) ?_
        refine z_iload_n 1 dX11_drawn_44 rfl ?_
        refine z_iadd dX11_drawn_45 ?_
        refine z_goto (tgt := 71) dX11_drawn_46 (by decide) ?_
        exact z_weak [] rfl (S_X11_drawn_71   e)
    · rw [if_pos c494] at e
      refine z_iconst (v := -1) dX11_drawn_33 (by decide) ?_
      cases e
      exact z_iret dX11_drawn_34 rfl
theorem dX10_drawBehind_0 : decode cX10_drawBehind 0 = .ok (.iload_n 0, 1) := by decide +kernel
theorem dX10_drawBehind_1 : decode cX10_drawBehind 1 = .ok (.i2l, 1) := by decide +kernel
theorem dX10_drawBehind_2 : decode cX10_drawBehind 2 = .ok (.ldc2_w 334, 3) := by decide +kernel
theorem dX10_drawBehind_5 : decode cX10_drawBehind 5 = .ok (.lmul, 1) := by decide +kernel
theorem dX10_drawBehind_6 : decode cX10_drawBehind 6 = .ok (.ldc2_w 336, 3) := by decide +kernel
theorem dX10_drawBehind_9 : decode cX10_drawBehind 9 = .ok (.ladd, 1) := by decide +kernel
theorem dX10_drawBehind_10 : decode cX10_drawBehind 10 = .ok (.ldc2_w 338, 3) := by decide +kernel
theorem dX10_drawBehind_13 : decode cX10_drawBehind 13 = .ok (.lrem, 1) := by decide +kernel
theorem dX10_drawBehind_14 : decode cX10_drawBehind 14 = .ok (.l2i, 1) := by decide +kernel
theorem dX10_drawBehind_15 : decode cX10_drawBehind 15 = .ok (.ireturn, 1) := by decide +kernel
def D_X10_drawBehind (h : z_H) (l0 : Int32) : Option (Int32 × z_H) :=
  some ((Int64.toInt32 ((((Int32.toInt64 l0) * (1103:Int64)) + (12345:Int64)) - (((Int32.toInt64 l0) * (1103:Int64)) + (12345:Int64)) / (1000003:Int64) * (1000003:Int64))), h)
set_option maxRecDepth 100000 in
set_option maxHeartbeats 4000000 in
theorem S_X10_drawBehind {G : z_G} {l : Launch} {h : z_H} {l0 : Int32} {res : (Int32 × z_H)} (e : D_X10_drawBehind h l0 = some res) : z_Meth G l 4 M_X10_drawBehind [.int l0] h res.2 (some (.int res.1)) := by
  refine z_Meth.of ck_X10_drawBehind.2.2.2.2 (by simp [lg_sl, z_ci, z_cj, z_cr, z_cx]) ck_X10_drawBehind.1 ?_
  rw [show lv_args 0 [.int l0] = [(0, .int l0)] from rfl]
  unfold D_X10_drawBehind at e
  refine z_iload_n 0 dX10_drawBehind_0 rfl ?_
  refine z_i2l dX10_drawBehind_1 ?_
  refine z_ldc2 dX10_drawBehind_2 kj_X10_334 ?_
  refine z_lmul dX10_drawBehind_5 ?_
  refine z_ldc2 dX10_drawBehind_6 kj_X10_336 ?_
  refine z_ladd dX10_drawBehind_9 ?_
  refine z_ldc2 dX10_drawBehind_10 kj_X10_338 ?_
  refine z_lrem dX10_drawBehind_13 (by decide) ?_
  refine z_l2i dX10_drawBehind_14 ?_
  cases e
  exact z_iret dX10_drawBehind_15 rfl
theorem dX10_isPart_0 : decode cX10_isPart 0 = .ok (.iload_n 0, 1) := by decide +kernel
theorem dX10_isPart_1 : decode cX10_isPart 1 = .ok (.ifCond .lt 12, 3) := by decide +kernel
theorem dX10_isPart_4 : decode cX10_isPart 4 = .ok (.iload_n 0, 1) := by decide +kernel
theorem dX10_isPart_5 : decode cX10_isPart 5 = .ok (.iconst 4, 1) := by decide +kernel
theorem dX10_isPart_6 : decode cX10_isPart 6 = .ok (.if_icmp .ge 7, 3) := by decide +kernel
theorem dX10_isPart_9 : decode cX10_isPart 9 = .ok (.iconst 1, 1) := by decide +kernel
theorem dX10_isPart_10 : decode cX10_isPart 10 = .ok (.goto 4, 3) := by decide +kernel
theorem dX10_isPart_13 : decode cX10_isPart 13 = .ok (.iconst 0, 1) := by decide +kernel
theorem dX10_isPart_14 : decode cX10_isPart 14 = .ok (.ireturn, 1) := by decide +kernel
def D_X10_isPart (h : z_H) (l0 : Int32) : Option (Int32 × z_H) :=
  if l0 < 0 then
    some ((0:Int32), h)
  else
    if (4:Int32) ≤ l0 then
      some ((0:Int32), h)
    else
      some ((1:Int32), h)
set_option maxRecDepth 100000 in
set_option maxHeartbeats 4000000 in
theorem S_X10_isPart {G : z_G} {l : Launch} {h : z_H} {l0 : Int32} {res : (Int32 × z_H)} (e : D_X10_isPart h l0 = some res) : z_Meth G l 4 M_X10_isPart [.int l0] h res.2 (some (.int res.1)) := by
  refine z_Meth.of ck_X10_isPart.2.2.2.2 (by simp [lg_sl, z_ci, z_cj, z_cr, z_cx]) ck_X10_isPart.1 ?_
  rw [show lv_args 0 [.int l0] = [(0, .int l0)] from rfl]
  unfold D_X10_isPart at e
  refine z_iload_n 0 dX10_isPart_0 rfl ?_
  refine z_if_lt (tgt := 13) dX10_isPart_1 (by decide) (fun c498 => ?_) (fun c498 => ?_)
  · rw [if_pos c498] at e
    refine z_iconst (v := 0) dX10_isPart_13 (by decide) ?_
    cases e
    exact z_zret dX10_isPart_14 rfl (by decide)
  · rw [if_neg c498] at e
    refine z_iload_n 0 dX10_isPart_4 rfl ?_
    refine z_iconst (v := 4) dX10_isPart_5 (by decide) ?_
    refine z_icmp_ge (tgt := 13) dX10_isPart_6 (by decide) (fun c499 => ?_) (fun c499 => ?_)
    · rw [if_pos c499] at e
      refine z_iconst (v := 0) dX10_isPart_13 (by decide) ?_
      cases e
      exact z_zret dX10_isPart_14 rfl (by decide)
    · rw [if_neg c499] at e
      refine z_iconst (v := 1) dX10_isPart_9 (by decide) ?_
      refine z_goto (tgt := 14) dX10_isPart_10 (by decide) ?_
      cases e
      exact z_zret dX10_isPart_14 rfl (by decide)
theorem dX0_passDay_0 : decode cX0_passDay 0 = .ok (.aload_n 1, 1) := by decide +kernel
theorem dX0_passDay_1 : decode cX0_passDay 1 = .ok (.getfield 80, 3) := by decide +kernel
theorem dX0_passDay_4 : decode cX0_passDay 4 = .ok (.iconst 0, 1) := by decide +kernel
theorem dX0_passDay_5 : decode cX0_passDay 5 = .ok (.iaload, 1) := by decide +kernel
theorem dX0_passDay_6 : decode cX0_passDay 6 = .ok (.getstatic 83, 3) := by decide +kernel
theorem dX0_passDay_9 : decode cX0_passDay 9 = .ok (.iconst 0, 1) := by decide +kernel
theorem dX0_passDay_10 : decode cX0_passDay 10 = .ok (.iaload, 1) := by decide +kernel
theorem dX0_passDay_11 : decode cX0_passDay 11 = .ok (.if_icmp .lt 6, 3) := by decide +kernel
theorem dX0_passDay_14 : decode cX0_passDay 14 = .ok (.bipush (-3), 2) := by decide +kernel
theorem dX0_passDay_16 : decode cX0_passDay 16 = .ok (.ireturn, 1) := by decide +kernel
theorem dX0_passDay_17 : decode cX0_passDay 17 = .ok (.aload_n 0, 1) := by decide +kernel
theorem dX0_passDay_18 : decode cX0_passDay 18 = .ok (.getfield 11, 3) := by decide +kernel
theorem dX0_passDay_21 : decode cX0_passDay 21 = .ok (.iconst 0, 1) := by decide +kernel
theorem dX0_passDay_22 : decode cX0_passDay 22 = .ok (.iconst 4, 1) := by decide +kernel
theorem dX0_passDay_23 : decode cX0_passDay 23 = .ok (.iastore, 1) := by decide +kernel
theorem dX0_passDay_24 : decode cX0_passDay 24 = .ok (.aload_n 0, 1) := by decide +kernel
theorem dX0_passDay_25 : decode cX0_passDay 25 = .ok (.getfield 11, 3) := by decide +kernel
theorem dX0_passDay_28 : decode cX0_passDay 28 = .ok (.iconst 1, 1) := by decide +kernel
theorem dX0_passDay_29 : decode cX0_passDay 29 = .ok (.iconst (-1), 1) := by decide +kernel
theorem dX0_passDay_30 : decode cX0_passDay 30 = .ok (.iastore, 1) := by decide +kernel
theorem dX0_passDay_31 : decode cX0_passDay 31 = .ok (.aload_n 0, 1) := by decide +kernel
theorem dX0_passDay_32 : decode cX0_passDay 32 = .ok (.getfield 11, 3) := by decide +kernel
theorem dX0_passDay_35 : decode cX0_passDay 35 = .ok (.bipush 6, 2) := by decide +kernel
theorem dX0_passDay_37 : decode cX0_passDay 37 = .ok (.aload_n 1, 1) := by decide +kernel
theorem dX0_passDay_38 : decode cX0_passDay 38 = .ok (.getfield 80, 3) := by decide +kernel
theorem dX0_passDay_41 : decode cX0_passDay 41 = .ok (.iconst 0, 1) := by decide +kernel
theorem dX0_passDay_42 : decode cX0_passDay 42 = .ok (.iaload, 1) := by decide +kernel
theorem dX0_passDay_43 : decode cX0_passDay 43 = .ok (.iastore, 1) := by decide +kernel
theorem dX0_passDay_44 : decode cX0_passDay 44 = .ok (.aload_n 1, 1) := by decide +kernel
theorem dX0_passDay_45 : decode cX0_passDay 45 = .ok (.getfield 80, 3) := by decide +kernel
theorem dX0_passDay_48 : decode cX0_passDay 48 = .ok (.iconst 0, 1) := by decide +kernel
theorem dX0_passDay_49 : decode cX0_passDay 49 = .ok (.dup2, 1) := by decide +kernel
theorem dX0_passDay_50 : decode cX0_passDay 50 = .ok (.iaload, 1) := by decide +kernel
theorem dX0_passDay_51 : decode cX0_passDay 51 = .ok (.iconst 1, 1) := by decide +kernel
theorem dX0_passDay_52 : decode cX0_passDay 52 = .ok (.iadd, 1) := by decide +kernel
theorem dX0_passDay_53 : decode cX0_passDay 53 = .ok (.iastore, 1) := by decide +kernel
theorem dX0_passDay_54 : decode cX0_passDay 54 = .ok (.aload_n 1, 1) := by decide +kernel
theorem dX0_passDay_55 : decode cX0_passDay 55 = .ok (.getfield 80, 3) := by decide +kernel
theorem dX0_passDay_58 : decode cX0_passDay 58 = .ok (.iconst 0, 1) := by decide +kernel
theorem dX0_passDay_59 : decode cX0_passDay 59 = .ok (.iaload, 1) := by decide +kernel
theorem dX0_passDay_60 : decode cX0_passDay 60 = .ok (.ireturn, 1) := by decide +kernel
def D_X0_passDay (h : z_H) (l0 : Option Nat) (l1 : Option Nat) : Option (Int32 × z_H) :=
  (z_gQ 9 h l1 4).bind fun x500 =>
  (z_aI .int h x500 (0:Int32)).bind fun x501 =>
  (z_xI (z_xs 1) (0:Int32)).bind fun x502 =>
  if x501 < x502 then
    (z_gQ 0 h l0 1).bind fun x504 =>
    (z_sI h x504 (0:Int32) (4:Int32)).bind fun h505 =>
    (z_gQ 0 h505 l0 1).bind fun x506 =>
    (z_sI h505 x506 (1:Int32) (-1:Int32)).bind fun h507 =>
    (z_gQ 0 h507 l0 1).bind fun x508 =>
    (z_gQ 9 h507 l1 4).bind fun x509 =>
    (z_aI .int h507 x509 (0:Int32)).bind fun x510 =>
    (z_sI h507 x508 (6:Int32) x510).bind fun h511 =>
    (z_gQ 9 h511 l1 4).bind fun x512 =>
    (z_aI .int h511 x512 (0:Int32)).bind fun x513 =>
    (z_sI h511 x512 (0:Int32) (x513 + (1:Int32))).bind fun h514 =>
    (z_gQ 9 h514 l1 4).bind fun x515 =>
    (z_aI .int h514 x515 (0:Int32)).bind fun x516 =>
    some (x516, h514)
  else
    some ((-3:Int32), h)
set_option maxRecDepth 100000 in
set_option maxHeartbeats 4000000 in
theorem S_X0_passDay {G : z_G} {l : Launch} {h : z_H} {l0 : Option Nat} {l1 : Option Nat} {res : (Int32 × z_H)} (e : D_X0_passDay h l0 l1 = some res) : z_Meth G l 4 M_X0_passDay [z_r l0, z_r l1] h res.2 (some (.int res.1)) := by
  refine z_Meth.of ck_X0_passDay.2.2.2.2 (by simp [lg_sl, z_ci, z_cj, z_cr, z_cx]) ck_X0_passDay.1 ?_
  rw [show lv_args 0 [z_r l0, z_r l1] = [(0, z_r l0), (1, z_r l1)] from by simp [lv_args, z_ci, z_cj, z_cr, z_cx]]
  unfold D_X0_passDay at e
  refine z_aload_n 1 dX0_passDay_0 rfl ?_
  replace e := z_bd e; obtain ⟨x500, ex500, e⟩ := e
  refine z_getQ ex500 lk_X0_80 dX0_passDay_1 ?_
  refine z_iconst (v := 0) dX0_passDay_4 (by decide) ?_
  replace e := z_bd e; obtain ⟨x501, ex501, e⟩ := e
  refine z_iald ex501 dX0_passDay_5 ?_
  refine z_getsN (q := (1, "TERM_MOST", 0)) (host := "SoleReader") (by decide) (by decide +kernel) dX0_passDay_6 ?_
  refine z_iconst (v := 0) dX0_passDay_9 (by decide) ?_
  replace e := z_bd e; obtain ⟨x502, ex502, e⟩ := e
  refine z_xald (p0 := z_xs 1) rfl ex502 dX0_passDay_10 ?_
  refine z_icmp_lt (tgt := 17) dX0_passDay_11 (by decide) (fun c503 => ?_) (fun c503 => ?_)
  · rw [if_pos c503] at e
    refine z_aload_n 0 dX0_passDay_17 rfl ?_
    replace e := z_bd e; obtain ⟨x504, ex504, e⟩ := e
    refine z_getQ ex504 lk_X0_11 dX0_passDay_18 ?_
    refine z_iconst (v := 0) dX0_passDay_21 (by decide) ?_
    refine z_iconst (v := 4) dX0_passDay_22 (by decide) ?_
    replace e := z_bd e; obtain ⟨h505, eh505, e⟩ := e
    refine z_iast eh505 dX0_passDay_23 ?_
    refine z_aload_n 0 dX0_passDay_24 rfl ?_
    replace e := z_bd e; obtain ⟨x506, ex506, e⟩ := e
    refine z_getQ ex506 lk_X0_11 dX0_passDay_25 ?_
    refine z_iconst (v := 1) dX0_passDay_28 (by decide) ?_
    refine z_iconst (v := -1) dX0_passDay_29 (by decide) ?_
    replace e := z_bd e; obtain ⟨h507, eh507, e⟩ := e
    refine z_iast eh507 dX0_passDay_30 ?_
    refine z_aload_n 0 dX0_passDay_31 rfl ?_
    replace e := z_bd e; obtain ⟨x508, ex508, e⟩ := e
    refine z_getQ ex508 lk_X0_11 dX0_passDay_32 ?_
    refine z_bipush (v := 6) dX0_passDay_35 (by decide) ?_
    refine z_aload_n 1 dX0_passDay_37 rfl ?_
    replace e := z_bd e; obtain ⟨x509, ex509, e⟩ := e
    refine z_getQ ex509 lk_X0_80 dX0_passDay_38 ?_
    refine z_iconst (v := 0) dX0_passDay_41 (by decide) ?_
    replace e := z_bd e; obtain ⟨x510, ex510, e⟩ := e
    refine z_iald ex510 dX0_passDay_42 ?_
    replace e := z_bd e; obtain ⟨h511, eh511, e⟩ := e
    refine z_iast eh511 dX0_passDay_43 ?_
    refine z_aload_n 1 dX0_passDay_44 rfl ?_
    replace e := z_bd e; obtain ⟨x512, ex512, e⟩ := e
    refine z_getQ ex512 lk_X0_80 dX0_passDay_45 ?_
    refine z_iconst (v := 0) dX0_passDay_48 (by decide) ?_
    refine z_dup2 dX0_passDay_49 rfl (z_cr _) ?_
    replace e := z_bd e; obtain ⟨x513, ex513, e⟩ := e
    refine z_iald ex513 dX0_passDay_50 ?_
    refine z_iconst (v := 1) dX0_passDay_51 (by decide) ?_
    refine z_iadd dX0_passDay_52 ?_
    replace e := z_bd e; obtain ⟨h514, eh514, e⟩ := e
    refine z_iast eh514 dX0_passDay_53 ?_
    refine z_aload_n 1 dX0_passDay_54 rfl ?_
    replace e := z_bd e; obtain ⟨x515, ex515, e⟩ := e
    refine z_getQ ex515 lk_X0_80 dX0_passDay_55 ?_
    refine z_iconst (v := 0) dX0_passDay_58 (by decide) ?_
    replace e := z_bd e; obtain ⟨x516, ex516, e⟩ := e
    refine z_iald ex516 dX0_passDay_59 ?_
    cases e
    exact z_iret dX0_passDay_60 rfl
  · rw [if_neg c503] at e
    refine z_bipush (v := -3) dX0_passDay_14 (by decide) ?_
    cases e
    exact z_iret dX0_passDay_16 rfl
theorem dX0_remember_0 : decode cX0_remember 0 = .ok (.aload_n 0, 1) := by decide +kernel
theorem dX0_remember_1 : decode cX0_remember 1 = .ok (.getfield 11, 3) := by decide +kernel
theorem dX0_remember_4 : decode cX0_remember 4 = .ok (.iconst 0, 1) := by decide +kernel
theorem dX0_remember_5 : decode cX0_remember 5 = .ok (.iload_n 2, 1) := by decide +kernel
theorem dX0_remember_6 : decode cX0_remember 6 = .ok (.iastore, 1) := by decide +kernel
theorem dX0_remember_7 : decode cX0_remember 7 = .ok (.aload_n 0, 1) := by decide +kernel
theorem dX0_remember_8 : decode cX0_remember 8 = .ok (.getfield 11, 3) := by decide +kernel
theorem dX0_remember_11 : decode cX0_remember 11 = .ok (.iconst 1, 1) := by decide +kernel
theorem dX0_remember_12 : decode cX0_remember 12 = .ok (.iload_n 3, 1) := by decide +kernel
theorem dX0_remember_13 : decode cX0_remember 13 = .ok (.iastore, 1) := by decide +kernel
theorem dX0_remember_14 : decode cX0_remember 14 = .ok (.aload_n 0, 1) := by decide +kernel
theorem dX0_remember_15 : decode cX0_remember 15 = .ok (.getfield 11, 3) := by decide +kernel
theorem dX0_remember_18 : decode cX0_remember 18 = .ok (.iconst 2, 1) := by decide +kernel
theorem dX0_remember_19 : decode cX0_remember 19 = .ok (.aload_n 1, 1) := by decide +kernel
theorem dX0_remember_20 : decode cX0_remember 20 = .ok (.getfield 52, 3) := by decide +kernel
theorem dX0_remember_23 : decode cX0_remember 23 = .ok (.iload_n 3, 1) := by decide +kernel
theorem dX0_remember_24 : decode cX0_remember 24 = .ok (.iaload, 1) := by decide +kernel
theorem dX0_remember_25 : decode cX0_remember 25 = .ok (.iastore, 1) := by decide +kernel
theorem dX0_remember_26 : decode cX0_remember 26 = .ok (.aload_n 0, 1) := by decide +kernel
theorem dX0_remember_27 : decode cX0_remember 27 = .ok (.getfield 11, 3) := by decide +kernel
theorem dX0_remember_30 : decode cX0_remember 30 = .ok (.iconst 3, 1) := by decide +kernel
theorem dX0_remember_31 : decode cX0_remember 31 = .ok (.aload_n 1, 1) := by decide +kernel
theorem dX0_remember_32 : decode cX0_remember 32 = .ok (.getfield 74, 3) := by decide +kernel
theorem dX0_remember_35 : decode cX0_remember 35 = .ok (.iload_n 3, 1) := by decide +kernel
theorem dX0_remember_36 : decode cX0_remember 36 = .ok (.iaload, 1) := by decide +kernel
theorem dX0_remember_37 : decode cX0_remember 37 = .ok (.iastore, 1) := by decide +kernel
theorem dX0_remember_38 : decode cX0_remember 38 = .ok (.aload_n 0, 1) := by decide +kernel
theorem dX0_remember_39 : decode cX0_remember 39 = .ok (.getfield 11, 3) := by decide +kernel
theorem dX0_remember_42 : decode cX0_remember 42 = .ok (.iconst 4, 1) := by decide +kernel
theorem dX0_remember_43 : decode cX0_remember 43 = .ok (.iload 4, 2) := by decide +kernel
theorem dX0_remember_45 : decode cX0_remember 45 = .ok (.iastore, 1) := by decide +kernel
theorem dX0_remember_46 : decode cX0_remember 46 = .ok (.aload_n 0, 1) := by decide +kernel
theorem dX0_remember_47 : decode cX0_remember 47 = .ok (.getfield 11, 3) := by decide +kernel
theorem dX0_remember_50 : decode cX0_remember 50 = .ok (.iconst 5, 1) := by decide +kernel
theorem dX0_remember_51 : decode cX0_remember 51 = .ok (.aload_n 1, 1) := by decide +kernel
theorem dX0_remember_52 : decode cX0_remember 52 = .ok (.iload_n 3, 1) := by decide +kernel
theorem dX0_remember_53 : decode cX0_remember 53 = .ok (.iload 4, 2) := by decide +kernel
theorem dX0_remember_55 : decode cX0_remember 55 = .ok (.invokevirtual 38, 3) := by decide +kernel
theorem dX0_remember_58 : decode cX0_remember 58 = .ok (.iastore, 1) := by decide +kernel
theorem dX0_remember_59 : decode cX0_remember 59 = .ok (.aload_n 0, 1) := by decide +kernel
theorem dX0_remember_60 : decode cX0_remember 60 = .ok (.getfield 11, 3) := by decide +kernel
theorem dX0_remember_63 : decode cX0_remember 63 = .ok (.bipush 6, 2) := by decide +kernel
theorem dX0_remember_65 : decode cX0_remember 65 = .ok (.aload_n 1, 1) := by decide +kernel
theorem dX0_remember_66 : decode cX0_remember 66 = .ok (.getfield 80, 3) := by decide +kernel
theorem dX0_remember_69 : decode cX0_remember 69 = .ok (.iconst 0, 1) := by decide +kernel
theorem dX0_remember_70 : decode cX0_remember 70 = .ok (.iaload, 1) := by decide +kernel
theorem dX0_remember_71 : decode cX0_remember 71 = .ok (.iastore, 1) := by decide +kernel
theorem dX0_remember_72 : decode cX0_remember 72 = .ok (.return_, 1) := by decide +kernel
def D_X0_remember (h : z_H) (l0 : Option Nat) (l1 : Option Nat) (l2 : Int32) (l3 : Int32) (l4 : Int32) : Option z_H :=
  (z_gQ 0 h l0 1).bind fun x517 =>
  (z_sI h x517 (0:Int32) l2).bind fun h518 =>
  (z_gQ 0 h518 l0 1).bind fun x519 =>
  (z_sI h518 x519 (1:Int32) l3).bind fun h520 =>
  (z_gQ 0 h520 l0 1).bind fun x521 =>
  (z_gQ 9 h520 l1 0).bind fun x522 =>
  (z_aI .int h520 x522 l3).bind fun x523 =>
  (z_sI h520 x521 (2:Int32) x523).bind fun h524 =>
  (z_gQ 0 h524 l0 1).bind fun x525 =>
  (z_gQ 9 h524 l1 1).bind fun x526 =>
  (z_aI .int h524 x526 l3).bind fun x527 =>
  (z_sI h524 x525 (3:Int32) x527).bind fun h528 =>
  (z_gQ 0 h528 l0 1).bind fun x529 =>
  (z_sI h528 x529 (4:Int32) l4).bind fun h530 =>
  (z_gQ 0 h530 l0 1).bind fun x531 =>
  (z_ob 9 h530 l1).bind fun _ =>
  (D_X9_wornAt  h530 l1 l3 l4).bind fun p532 =>
  (z_sI p532.2 x531 (5:Int32) p532.1).bind fun h534 =>
  (z_gQ 0 h534 l0 1).bind fun x535 =>
  (z_gQ 9 h534 l1 4).bind fun x536 =>
  (z_aI .int h534 x536 (0:Int32)).bind fun x537 =>
  (z_sI h534 x535 (6:Int32) x537).bind fun h538 =>
  some h538
set_option maxRecDepth 100000 in
set_option maxHeartbeats 4000000 in
theorem S_X0_remember {G : z_G} {l : Launch} {h : z_H} {l0 : Option Nat} {l1 : Option Nat} {l2 : Int32} {l3 : Int32} {l4 : Int32} {res : z_H} (e : D_X0_remember h l0 l1 l2 l3 l4 = some res) : z_Meth G l 5 M_X0_remember [z_r l0, z_r l1, .int l2, .int l3, .int l4] h res none := by
  refine z_Meth.of ck_X0_remember.2.2.2.2 (by simp [lg_sl, z_ci, z_cj, z_cr, z_cx]) ck_X0_remember.1 ?_
  rw [show lv_args 0 [z_r l0, z_r l1, .int l2, .int l3, .int l4] = [(0, z_r l0), (1, z_r l1), (2, .int l2), (3, .int l3), (4, .int l4)] from by simp [lv_args, z_ci, z_cj, z_cr, z_cx]]
  unfold D_X0_remember at e
  refine z_aload_n 0 dX0_remember_0 rfl ?_
  replace e := z_bd e; obtain ⟨x517, ex517, e⟩ := e
  refine z_getQ ex517 lk_X0_11 dX0_remember_1 ?_
  refine z_iconst (v := 0) dX0_remember_4 (by decide) ?_
  refine z_iload_n 2 dX0_remember_5 rfl ?_
  replace e := z_bd e; obtain ⟨h518, eh518, e⟩ := e
  refine z_iast eh518 dX0_remember_6 ?_
  refine z_aload_n 0 dX0_remember_7 rfl ?_
  replace e := z_bd e; obtain ⟨x519, ex519, e⟩ := e
  refine z_getQ ex519 lk_X0_11 dX0_remember_8 ?_
  refine z_iconst (v := 1) dX0_remember_11 (by decide) ?_
  refine z_iload_n 3 dX0_remember_12 rfl ?_
  replace e := z_bd e; obtain ⟨h520, eh520, e⟩ := e
  refine z_iast eh520 dX0_remember_13 ?_
  refine z_aload_n 0 dX0_remember_14 rfl ?_
  replace e := z_bd e; obtain ⟨x521, ex521, e⟩ := e
  refine z_getQ ex521 lk_X0_11 dX0_remember_15 ?_
  refine z_iconst (v := 2) dX0_remember_18 (by decide) ?_
  refine z_aload_n 1 dX0_remember_19 rfl ?_
  replace e := z_bd e; obtain ⟨x522, ex522, e⟩ := e
  refine z_getQ ex522 lk_X0_52 dX0_remember_20 ?_
  refine z_iload_n 3 dX0_remember_23 rfl ?_
  replace e := z_bd e; obtain ⟨x523, ex523, e⟩ := e
  refine z_iald ex523 dX0_remember_24 ?_
  replace e := z_bd e; obtain ⟨h524, eh524, e⟩ := e
  refine z_iast eh524 dX0_remember_25 ?_
  refine z_aload_n 0 dX0_remember_26 rfl ?_
  replace e := z_bd e; obtain ⟨x525, ex525, e⟩ := e
  refine z_getQ ex525 lk_X0_11 dX0_remember_27 ?_
  refine z_iconst (v := 3) dX0_remember_30 (by decide) ?_
  refine z_aload_n 1 dX0_remember_31 rfl ?_
  replace e := z_bd e; obtain ⟨x526, ex526, e⟩ := e
  refine z_getQ ex526 lk_X0_74 dX0_remember_32 ?_
  refine z_iload_n 3 dX0_remember_35 rfl ?_
  replace e := z_bd e; obtain ⟨x527, ex527, e⟩ := e
  refine z_iald ex527 dX0_remember_36 ?_
  replace e := z_bd e; obtain ⟨h528, eh528, e⟩ := e
  refine z_iast eh528 dX0_remember_37 ?_
  refine z_aload_n 0 dX0_remember_38 rfl ?_
  replace e := z_bd e; obtain ⟨x529, ex529, e⟩ := e
  refine z_getQ ex529 lk_X0_11 dX0_remember_39 ?_
  refine z_iconst (v := 4) dX0_remember_42 (by decide) ?_
  refine z_iload 4 dX0_remember_43 rfl ?_
  replace e := z_bd e; obtain ⟨h530, eh530, e⟩ := e
  refine z_iast eh530 dX0_remember_45 ?_
  refine z_aload_n 0 dX0_remember_46 rfl ?_
  replace e := z_bd e; obtain ⟨x531, ex531, e⟩ := e
  refine z_getQ ex531 lk_X0_11 dX0_remember_47 ?_
  refine z_iconst (v := 5) dX0_remember_50 (by decide) ?_
  refine z_aload_n 1 dX0_remember_51 rfl ?_
  refine z_iload_n 3 dX0_remember_52 rfl ?_
  refine z_iload 4 dX0_remember_53 rfl ?_
  replace e := z_bd e; obtain ⟨o533, eo533, e⟩ := e
  replace e := z_bd e; obtain ⟨p532, ep532, e⟩ := e
  refine z_cV [.int l3, .int l4] (S_X9_wornAt  ep532) eo533 rfl ml_X0_38 ck_X9_wornAt vk_X9_wornAt dX0_remember_55 (by decide) rfl (by simp [z_ci, z_cj, z_cr, z_cx]) rfl ?_
  replace e := z_bd e; obtain ⟨h534, eh534, e⟩ := e
  refine z_iast eh534 dX0_remember_58 ?_
  refine z_aload_n 0 dX0_remember_59 rfl ?_
  replace e := z_bd e; obtain ⟨x535, ex535, e⟩ := e
  refine z_getQ ex535 lk_X0_11 dX0_remember_60 ?_
  refine z_bipush (v := 6) dX0_remember_63 (by decide) ?_
  refine z_aload_n 1 dX0_remember_65 rfl ?_
  replace e := z_bd e; obtain ⟨x536, ex536, e⟩ := e
  refine z_getQ ex536 lk_X0_80 dX0_remember_66 ?_
  refine z_iconst (v := 0) dX0_remember_69 (by decide) ?_
  replace e := z_bd e; obtain ⟨x537, ex537, e⟩ := e
  refine z_iald ex537 dX0_remember_70 ?_
  replace e := z_bd e; obtain ⟨h538, eh538, e⟩ := e
  refine z_iast eh538 dX0_remember_71 ?_
  cases e
  exact z_vret dX0_remember_72 rfl
theorem dX9_placeOf_0 : decode cX9_placeOf 0 = .ok (.aload_n 0, 1) := by decide +kernel
theorem dX9_placeOf_1 : decode cX9_placeOf 1 = .ok (.getfield 9, 3) := by decide +kernel
theorem dX9_placeOf_4 : decode cX9_placeOf 4 = .ok (.iload_n 1, 1) := by decide +kernel
theorem dX9_placeOf_5 : decode cX9_placeOf 5 = .ok (.iaload, 1) := by decide +kernel
theorem dX9_placeOf_6 : decode cX9_placeOf 6 = .ok (.iconst 4, 1) := by decide +kernel
theorem dX9_placeOf_7 : decode cX9_placeOf 7 = .ok (.imul, 1) := by decide +kernel
theorem dX9_placeOf_8 : decode cX9_placeOf 8 = .ok (.aload_n 0, 1) := by decide +kernel
theorem dX9_placeOf_9 : decode cX9_placeOf 9 = .ok (.getfield 15, 3) := by decide +kernel
theorem dX9_placeOf_12 : decode cX9_placeOf 12 = .ok (.iload_n 1, 1) := by decide +kernel
theorem dX9_placeOf_13 : decode cX9_placeOf 13 = .ok (.iaload, 1) := by decide +kernel
theorem dX9_placeOf_14 : decode cX9_placeOf 14 = .ok (.iadd, 1) := by decide +kernel
theorem dX9_placeOf_15 : decode cX9_placeOf 15 = .ok (.ireturn, 1) := by decide +kernel
def D_X9_placeOf (h : z_H) (l0 : Option Nat) (l1 : Int32) : Option (Int32 × z_H) :=
  (z_gQ 9 h l0 0).bind fun x539 =>
  (z_aI .int h x539 l1).bind fun x540 =>
  (z_gQ 9 h l0 1).bind fun x541 =>
  (z_aI .int h x541 l1).bind fun x542 =>
  some (((x540 * (4:Int32)) + x542), h)
set_option maxRecDepth 100000 in
set_option maxHeartbeats 4000000 in
theorem S_X9_placeOf {G : z_G} {l : Launch} {h : z_H} {l0 : Option Nat} {l1 : Int32} {res : (Int32 × z_H)} (e : D_X9_placeOf h l0 l1 = some res) : z_Meth G l 4 M_X9_placeOf [z_r l0, .int l1] h res.2 (some (.int res.1)) := by
  refine z_Meth.of ck_X9_placeOf.2.2.2.2 (by simp [lg_sl, z_ci, z_cj, z_cr, z_cx]) ck_X9_placeOf.1 ?_
  rw [show lv_args 0 [z_r l0, .int l1] = [(0, z_r l0), (1, .int l1)] from by simp [lv_args, z_ci, z_cj, z_cr, z_cx]]
  unfold D_X9_placeOf at e
  refine z_aload_n 0 dX9_placeOf_0 rfl ?_
  replace e := z_bd e; obtain ⟨x539, ex539, e⟩ := e
  refine z_getQ ex539 lk_X9_9 dX9_placeOf_1 ?_
  refine z_iload_n 1 dX9_placeOf_4 rfl ?_
  replace e := z_bd e; obtain ⟨x540, ex540, e⟩ := e
  refine z_iald ex540 dX9_placeOf_5 ?_
  refine z_iconst (v := 4) dX9_placeOf_6 (by decide) ?_
  refine z_imul dX9_placeOf_7 ?_
  refine z_aload_n 0 dX9_placeOf_8 rfl ?_
  replace e := z_bd e; obtain ⟨x541, ex541, e⟩ := e
  refine z_getQ ex541 lk_X9_15 dX9_placeOf_9 ?_
  refine z_iload_n 1 dX9_placeOf_12 rfl ?_
  replace e := z_bd e; obtain ⟨x542, ex542, e⟩ := e
  refine z_iald ex542 dX9_placeOf_13 ?_
  refine z_iadd dX9_placeOf_14 ?_
  cases e
  exact z_iret dX9_placeOf_15 rfl
