theorem dX11_readPart_0 : decode cX11_readPart 0 = .ok (.aload_n 0, 1) := by decide +kernel
theorem dX11_readPart_1 : decode cX11_readPart 1 = .ok (.bipush 91, 2) := by decide +kernel
theorem dX11_readPart_3 : decode cX11_readPart 3 = .ok (.invokevirtual 318, 3) := by decide +kernel
theorem dX11_readPart_6 : decode cX11_readPart 6 = .ok (.ifCond .eq 11, 3) := by decide +kernel
theorem dX11_readPart_9 : decode cX11_readPart 9 = .ok (.aload_n 0, 1) := by decide +kernel
theorem dX11_readPart_10 : decode cX11_readPart 10 = .ok (.bipush 32, 2) := by decide +kernel
theorem dX11_readPart_12 : decode cX11_readPart 12 = .ok (.invokevirtual 321, 3) := by decide +kernel
theorem dX11_readPart_15 : decode cX11_readPart 15 = .ok (.iconst 1, 1) := by decide +kernel
theorem dX11_readPart_16 : decode cX11_readPart 16 = .ok (.ireturn, 1) := by decide +kernel
theorem dX11_readPart_17 : decode cX11_readPart 17 = .ok (.aload_n 0, 1) := by decide +kernel
theorem dX11_readPart_18 : decode cX11_readPart 18 = .ok (.getfield 324, 3) := by decide +kernel
theorem dX11_readPart_21 : decode cX11_readPart 21 = .ok (.ifCond .eq 10, 3) := by decide +kernel
theorem dX11_readPart_24 : decode cX11_readPart 24 = .ok (.aload_n 0, 1) := by decide +kernel
theorem dX11_readPart_25 : decode cX11_readPart 25 = .ok (.invokevirtual 327, 3) := by decide +kernel
theorem dX11_readPart_28 : decode cX11_readPart 28 = .ok (.goto 7, 3) := by decide +kernel
theorem dX11_readPart_31 : decode cX11_readPart 31 = .ok (.aload_n 0, 1) := by decide +kernel
theorem dX11_readPart_32 : decode cX11_readPart 32 = .ok (.invokevirtual 331, 3) := by decide +kernel
theorem dX11_readPart_35 : decode cX11_readPart 35 = .ok (.istore_n 1, 1) := by decide +kernel
theorem dX11_readPart_36 : decode cX11_readPart 36 = .ok (.aload_n 0, 1) := by decide +kernel
theorem dX11_readPart_37 : decode cX11_readPart 37 = .ok (.getfield 271, 3) := by decide +kernel
theorem dX11_readPart_40 : decode cX11_readPart 40 = .ok (.iconst 2, 1) := by decide +kernel
theorem dX11_readPart_41 : decode cX11_readPart 41 = .ok (.if_icmp .ne 18, 3) := by decide +kernel
theorem dX11_readPart_44 : decode cX11_readPart 44 = .ok (.aload_n 0, 1) := by decide +kernel
theorem dX11_readPart_45 : decode cX11_readPart 45 = .ok (.getfield 261, 3) := by decide +kernel
theorem dX11_readPart_48 : decode cX11_readPart 48 = .ok (.ldc2_w 334, 3) := by decide +kernel
theorem dX11_readPart_51 : decode cX11_readPart 51 = .ok (.lcmp, 1) := by decide +kernel
theorem dX11_readPart_52 : decode cX11_readPart 52 = .ok (.ifCond .gt 7, 3) := by decide +kernel
theorem dX11_readPart_55 : decode cX11_readPart 55 = .ok (.iconst 1, 1) := by decide +kernel
theorem dX11_readPart_56 : decode cX11_readPart 56 = .ok (.goto 4, 3) := by decide +kernel
theorem dX11_readPart_59 : decode cX11_readPart 59 = .ok (.iconst 0, 1) := by decide +kernel
theorem dX11_readPart_60 : decode cX11_readPart 60 = .ok (.istore_n 2, 1) := by decide +kernel
theorem dX11_readPart_61 : decode cX11_readPart 61 = .ok (.aload_n 0, 1) := by decide +kernel
theorem dX11_readPart_62 : decode cX11_readPart 62 = .ok (.iload_n 1, 1) := by decide +kernel
theorem dX11_readPart_63 : decode cX11_readPart 63 = .ok (.iconst (-1), 1) := by decide +kernel
theorem dX11_readPart_64 : decode cX11_readPart 64 = .ok (.if_icmp .ne 7, 3) := by decide +kernel
theorem dX11_readPart_67 : decode cX11_readPart 67 = .ok (.iload_n 2, 1) := by decide +kernel
theorem dX11_readPart_68 : decode cX11_readPart 68 = .ok (.ifCond .eq 7, 3) := by decide +kernel
theorem dX11_readPart_71 : decode cX11_readPart 71 = .ok (.iconst 1, 1) := by decide +kernel
theorem dX11_readPart_72 : decode cX11_readPart 72 = .ok (.goto 4, 3) := by decide +kernel
theorem dX11_readPart_75 : decode cX11_readPart 75 = .ok (.iconst 0, 1) := by decide +kernel
theorem dX11_readPart_76 : decode cX11_readPart 76 = .ok (.iload_n 1, 1) := by decide +kernel
theorem dX11_readPart_77 : decode cX11_readPart 77 = .ok (.iconst (-1), 1) := by decide +kernel
theorem dX11_readPart_78 : decode cX11_readPart 78 = .ok (.if_icmp .ne 7, 3) := by decide +kernel
theorem dX11_readPart_81 : decode cX11_readPart 81 = .ok (.iconst 0, 1) := by decide +kernel
theorem dX11_readPart_82 : decode cX11_readPart 82 = .ok (.goto 4, 3) := by decide +kernel
theorem dX11_readPart_85 : decode cX11_readPart 85 = .ok (.iload_n 1, 1) := by decide +kernel
theorem dX11_readPart_86 : decode cX11_readPart 86 = .ok (.iload_n 2, 1) := by decide +kernel
theorem dX11_readPart_87 : decode cX11_readPart 87 = .ok (.ifCond .eq 11, 3) := by decide +kernel
theorem dX11_readPart_90 : decode cX11_readPart 90 = .ok (.aload_n 0, 1) := by decide +kernel
theorem dX11_readPart_91 : decode cX11_readPart 91 = .ok (.getfield 261, 3) := by decide +kernel
theorem dX11_readPart_94 : decode cX11_readPart 94 = .ok (.l2i, 1) := by decide +kernel
theorem dX11_readPart_95 : decode cX11_readPart 95 = .ok (.goto 4, 3) := by decide +kernel
theorem dX11_readPart_98 : decode cX11_readPart 98 = .ok (.iconst 0, 1) := by decide +kernel
theorem dX11_readPart_99 : decode cX11_readPart 99 = .ok (.invokevirtual 336, 3) := by decide +kernel
theorem dX11_readPart_102 : decode cX11_readPart 102 = .ok (.aload_n 0, 1) := by decide +kernel
theorem dX11_readPart_103 : decode cX11_readPart 103 = .ok (.getfield 324, 3) := by decide +kernel
theorem dX11_readPart_106 : decode cX11_readPart 106 = .ok (.ifCond .eq 37, 3) := by decide +kernel
theorem dX11_readPart_109 : decode cX11_readPart 109 = .ok (.iload_n 1, 1) := by decide +kernel
theorem dX11_readPart_110 : decode cX11_readPart 110 = .ok (.bipush 6, 2) := by decide +kernel
theorem dX11_readPart_112 : decode cX11_readPart 112 = .ok (.if_icmp .lt 31, 3) := by decide +kernel
theorem dX11_readPart_115 : decode cX11_readPart 115 = .ok (.aload_n 0, 1) := by decide +kernel
theorem dX11_readPart_116 : decode cX11_readPart 116 = .ok (.getfield 251, 3) := by decide +kernel
theorem dX11_readPart_119 : decode cX11_readPart 119 = .ok (.ifCond .ne 24, 3) := by decide +kernel
theorem dX11_readPart_122 : decode cX11_readPart 122 = .ok (.aload_n 0, 1) := by decide +kernel
theorem dX11_readPart_123 : decode cX11_readPart 123 = .ok (.getfield 288, 3) := by decide +kernel
theorem dX11_readPart_126 : decode cX11_readPart 126 = .ok (.iconst 1, 1) := by decide +kernel
theorem dX11_readPart_127 : decode cX11_readPart 127 = .ok (.isub, 1) := by decide +kernel
theorem dX11_readPart_128 : decode cX11_readPart 128 = .ok (.istore_n 3, 1) := by decide +kernel
theorem dX11_readPart_129 : decode cX11_readPart 129 = .ok (.aload_n 0, 1) := by decide +kernel
theorem dX11_readPart_130 : decode cX11_readPart 130 = .ok (.getfield 48, 3) := by decide +kernel
theorem dX11_readPart_133 : decode cX11_readPart 133 = .ok (.iload_n 3, 1) := by decide +kernel
theorem dX11_readPart_134 : decode cX11_readPart 134 = .ok (.aload_n 0, 1) := by decide +kernel
theorem dX11_readPart_135 : decode cX11_readPart 135 = .ok (.lconst 0, 1) := by decide +kernel
theorem dX11_readPart_136 : decode cX11_readPart 136 = .ok (.ldc2_w 340, 3) := by decide +kernel
theorem dX11_readPart_139 : decode cX11_readPart 139 = .ok (.invokevirtual 342, 3) := by decide +kernel
theorem dX11_readPart_142 : decode cX11_readPart 142 = .ok (.iastore, 1) := by decide +kernel
theorem dX11_readPart_143 : decode cX11_readPart 143 = .ok (.iconst 3, 1) := by decide +kernel
theorem dX11_readPart_144 : decode cX11_readPart 144 = .ok (.ireturn, 1) := by decide +kernel
def D_X11_readPart_99 (h : z_H) (l0 : Option Nat) (l1 : Int32) (s0 : Option Nat) (s1 : Int32) (s2 : Int32) (s3 : Int32) : Option (Int32 × z_H) :=
  (z_ob 11 h s0).bind fun _ =>
  (D_X11_leaf  h s0 s1 s2 s3).bind fun p3244 =>
  (z_gI 11 p3244 l0 20).bind fun x3246 =>
  if x3246 = 0 then
    some ((3:Int32), p3244)
  else
    if l1 < (6:Int32) then
      some ((3:Int32), p3244)
    else
      (z_gI 11 p3244 l0 19).bind fun x3249 =>
      if x3249 = 0 then
        (z_gI 11 p3244 l0 23).bind fun x3251 =>
        (some (x3251 - (1:Int32))).bind fun x3252 =>
        (z_gQ 11 p3244 l0 25).bind fun x3253 =>
        (z_ob 11 p3244 l0).bind fun _ =>
        (D_X11_number  p3244 l0 (0:Int64) (5:Int64)).bind fun p3254 =>
        (z_sI p3254.2 x3253 x3252 p3254.1).bind fun h3256 =>
        some ((3:Int32), h3256)
      else
        some ((3:Int32), p3244)
set_option maxRecDepth 100000 in
set_option maxHeartbeats 4000000 in
theorem S_X11_readPart_99 {G : z_G} {l : Launch}  {h : z_H} {l0 : Option Nat} {l1 : Int32} {s0 : Option Nat} {s1 : Int32} {s2 : Int32} {s3 : Int32} {res : (Int32 × z_H)} (e : D_X11_readPart_99  h l0 l1 s0 s1 s2 s3 = some res) : z_Run G l 8 M_X11_readPart 99 [(0, z_r l0), (1, .int l1)] [.int s3, .int s2, .int s1, z_r s0] h res.2 (some (.int res.1)) := by
  unfold D_X11_readPart_99 at e
  replace e := z_bd e; obtain ⟨o3245, eo3245, e⟩ := e
  replace e := z_bd e; obtain ⟨p3244, ep3244, e⟩ := e
  refine z_cV [.int s1, .int s2, .int s3] (S_X11_leaf  ep3244) eo3245 rfl ml_X11_336 ck_X11_leaf vk_X11_leaf dX11_readPart_99 (by decide) rfl (Nat.zero_le _) rfl ?_
  refine z_aload_n 0 dX11_readPart_102 rfl ?_
  replace e := z_bd e; obtain ⟨x3246, ex3246, e⟩ := e
  refine z_getI ex3246 lk_X11_324 dX11_readPart_103 ?_
  refine z_if_eq (tgt := 143) dX11_readPart_106 (by decide) (fun c3247 => ?_) (fun c3247 => ?_)
  · rw [if_pos c3247] at e
    refine z_iconst (v := 3) dX11_readPart_143 (by decide) ?_
    cases e
    exact z_iret dX11_readPart_144 rfl
  · rw [if_neg c3247] at e
    refine z_iload_n 1 dX11_readPart_109 rfl ?_
    refine z_bipush (v := 6) dX11_readPart_110 (by decide) ?_
    refine z_icmp_lt (tgt := 143) dX11_readPart_112 (by decide) (fun c3248 => ?_) (fun c3248 => ?_)
    · rw [if_pos c3248] at e
      refine z_iconst (v := 3) dX11_readPart_143 (by decide) ?_
      cases e
      exact z_iret dX11_readPart_144 rfl
    · rw [if_neg c3248] at e
      refine z_aload_n 0 dX11_readPart_115 rfl ?_
      replace e := z_bd e; obtain ⟨x3249, ex3249, e⟩ := e
      refine z_getI ex3249 lk_X11_251 dX11_readPart_116 ?_
      refine z_if_ne (tgt := 143) dX11_readPart_119 (by decide) (fun c3250 => ?_) (fun c3250 => ?_)
      · rw [if_neg c3250] at e
        refine z_iconst (v := 3) dX11_readPart_143 (by decide) ?_
        cases e
        exact z_iret dX11_readPart_144 rfl
      · rw [if_pos c3250] at e
        refine z_aload_n 0 dX11_readPart_122 rfl ?_
        replace e := z_bd e; obtain ⟨x3251, ex3251, e⟩ := e
        refine z_getI ex3251 lk_X11_288 dX11_readPart_123 ?_
        refine z_iconst (v := 1) dX11_readPart_126 (by decide) ?_
        refine z_isub dX11_readPart_127 ?_
        replace e := z_bd e; obtain ⟨x3252, ex3252, e⟩ := e
        refine z_topI ex3252 ?_
        refine z_istore_n (L' := [(3, .int x3252), (0, z_r l0), (1, .int l1)]) dX11_readPart_128 rfl (by decide) rfl ?_
        refine z_aload_n 1 dX11_readPart_129 rfl ?_
        replace e := z_bd e; obtain ⟨x3253, ex3253, e⟩ := e
        refine z_getQ ex3253 lk_X11_48 dX11_readPart_130 ?_
        refine z_iload_n 0 dX11_readPart_133 rfl ?_
        refine z_aload_n 1 dX11_readPart_134 rfl ?_
        refine z_lconst (v := 0) dX11_readPart_135 (by decide) ?_
        refine z_ldc2 dX11_readPart_136 kj_X11_340 ?_
        replace e := z_bd e; obtain ⟨o3255, eo3255, e⟩ := e
        replace e := z_bd e; obtain ⟨p3254, ep3254, e⟩ := e
        refine z_cV [.long (0:Int64), .long (5:Int64)] (S_X11_number  ep3254) eo3255 rfl ml_X11_342 ck_X11_number vk_X11_number dX11_readPart_139 (by decide) rfl (by simp [z_ci, z_cj, z_cr, z_cx]) rfl ?_
        replace e := z_bd e; obtain ⟨h3256, eh3256, e⟩ := e
        refine z_iast eh3256 dX11_readPart_142 ?_
        refine z_iconst (v := 3) dX11_readPart_143 (by decide) ?_
        cases e
        exact z_iret dX11_readPart_144 rfl
def D_X11_readPart_86 (h : z_H) (l0 : Option Nat) (l1 : Int32) (l2 : Int32) (s0 : Option Nat) (s1 : Int32) (s2 : Int32) : Option (Int32 × z_H) :=
  if l2 = 0 then
    D_X11_readPart_99   h l0 l1 s0 s1 s2 (0:Int32)
  else
    (z_gJ 11 h l0 17).bind fun x3258 =>
    D_X11_readPart_99   h l0 l1 s0 s1 s2 (Int64.toInt32 x3258)
set_option maxRecDepth 100000 in
set_option maxHeartbeats 4000000 in
theorem S_X11_readPart_86 {G : z_G} {l : Launch}  {h : z_H} {l0 : Option Nat} {l1 : Int32} {l2 : Int32} {s0 : Option Nat} {s1 : Int32} {s2 : Int32} {res : (Int32 × z_H)} (e : D_X11_readPart_86  h l0 l1 l2 s0 s1 s2 = some res) : z_Run G l 8 M_X11_readPart 86 [(0, z_r l0), (1, .int l1), (2, .int l2)] [.int s2, .int s1, z_r s0] h res.2 (some (.int res.1)) := by
  unfold D_X11_readPart_86 at e
  refine z_iload_n 2 dX11_readPart_86 rfl ?_
  refine z_if_eq (tgt := 98) dX11_readPart_87 (by decide) (fun c3257 => ?_) (fun c3257 => ?_)
  · rw [if_pos c3257] at e
    refine z_iconst (v := 0) dX11_readPart_98 (by decide) ?_
    exact z_weak [0, 1] rfl (S_X11_readPart_99   e)
  · rw [if_neg c3257] at e
    refine z_aload_n 0 dX11_readPart_90 rfl ?_
    replace e := z_bd e; obtain ⟨x3258, ex3258, e⟩ := e
    refine z_getJ ex3258 lk_X11_261 dX11_readPart_91 ?_
    refine z_l2i dX11_readPart_94 ?_
    refine z_goto (tgt := 99) dX11_readPart_95 (by decide) ?_
    exact z_weak [0, 1] rfl (S_X11_readPart_99   e)
def D_X11_readPart_76 (h : z_H) (l0 : Option Nat) (l1 : Int32) (l2 : Int32) (s0 : Option Nat) (s1 : Int32) : Option (Int32 × z_H) :=
  if l1 = (-1:Int32) then
    D_X11_readPart_86   h l0 l1 l2 s0 s1 (0:Int32)
  else
    D_X11_readPart_86   h l0 l1 l2 s0 s1 l1
set_option maxRecDepth 100000 in
set_option maxHeartbeats 4000000 in
theorem S_X11_readPart_76 {G : z_G} {l : Launch}  {h : z_H} {l0 : Option Nat} {l1 : Int32} {l2 : Int32} {s0 : Option Nat} {s1 : Int32} {res : (Int32 × z_H)} (e : D_X11_readPart_76  h l0 l1 l2 s0 s1 = some res) : z_Run G l 8 M_X11_readPart 76 [(0, z_r l0), (1, .int l1), (2, .int l2)] [.int s1, z_r s0] h res.2 (some (.int res.1)) := by
  unfold D_X11_readPart_76 at e
  refine z_iload_n 1 dX11_readPart_76 rfl ?_
  refine z_iconst (v := -1) dX11_readPart_77 (by decide) ?_
  refine z_icmp_ne (tgt := 85) dX11_readPart_78 (by decide) (fun c3259 => ?_) (fun c3259 => ?_)
  · rw [if_neg c3259] at e
    refine z_iload_n 1 dX11_readPart_85 rfl ?_
    exact z_weak [0, 1, 2] rfl (S_X11_readPart_86   e)
  · rw [if_pos c3259] at e
    refine z_iconst (v := 0) dX11_readPart_81 (by decide) ?_
    refine z_goto (tgt := 86) dX11_readPart_82 (by decide) ?_
    exact z_weak [0, 1, 2] rfl (S_X11_readPart_86   e)
def D_X11_readPart_71 (h : z_H) (l0 : Option Nat) (l1 : Int32) (l2 : Int32) (s0 : Option Nat) : Option (Int32 × z_H) :=
  D_X11_readPart_76   h l0 l1 l2 s0 (1:Int32)
set_option maxRecDepth 100000 in
set_option maxHeartbeats 4000000 in
theorem S_X11_readPart_71 {G : z_G} {l : Launch}  {h : z_H} {l0 : Option Nat} {l1 : Int32} {l2 : Int32} {s0 : Option Nat} {res : (Int32 × z_H)} (e : D_X11_readPart_71  h l0 l1 l2 s0 = some res) : z_Run G l 8 M_X11_readPart 71 [(0, z_r l0), (1, .int l1), (2, .int l2)] [z_r s0] h res.2 (some (.int res.1)) := by
  unfold D_X11_readPart_71 at e
  refine z_iconst (v := 1) dX11_readPart_71 (by decide) ?_
  refine z_goto (tgt := 76) dX11_readPart_72 (by decide) ?_
  exact z_weak [0, 1, 2] rfl (S_X11_readPart_76   e)
def D_X11_readPart_60 (h : z_H) (l0 : Option Nat) (l1 : Int32) (s0 : Int32) : Option (Int32 × z_H) :=
  if l1 = (-1:Int32) then
    if s0 = 0 then
      D_X11_readPart_76   h l0 l1 s0 l0 (0:Int32)
    else
      D_X11_readPart_71   h l0 l1 s0 l0
  else
    D_X11_readPart_71   h l0 l1 s0 l0
set_option maxRecDepth 100000 in
set_option maxHeartbeats 4000000 in
theorem S_X11_readPart_60 {G : z_G} {l : Launch}  {h : z_H} {l0 : Option Nat} {l1 : Int32} {s0 : Int32} {res : (Int32 × z_H)} (e : D_X11_readPart_60  h l0 l1 s0 = some res) : z_Run G l 8 M_X11_readPart 60 [(0, z_r l0), (1, .int l1)] [.int s0] h res.2 (some (.int res.1)) := by
  unfold D_X11_readPart_60 at e
  refine z_istore_n (L' := [(2, .int s0), (0, z_r l0), (1, .int l1)]) dX11_readPart_60 rfl (by decide) rfl ?_
  refine z_aload_n 1 dX11_readPart_61 rfl ?_
  refine z_iload_n 2 dX11_readPart_62 rfl ?_
  refine z_iconst (v := -1) dX11_readPart_63 (by decide) ?_
  refine z_icmp_ne (tgt := 71) dX11_readPart_64 (by decide) (fun c3260 => ?_) (fun c3260 => ?_)
  · rw [if_neg c3260] at e
    exact z_weak [1, 2, 0] rfl (S_X11_readPart_71   e)
  · rw [if_pos c3260] at e
    refine z_iload_n 0 dX11_readPart_67 rfl ?_
    refine z_if_eq (tgt := 75) dX11_readPart_68 (by decide) (fun c3261 => ?_) (fun c3261 => ?_)
    · rw [if_pos c3261] at e
      refine z_iconst (v := 0) dX11_readPart_75 (by decide) ?_
      exact z_weak [1, 2, 0] rfl (S_X11_readPart_76   e)
    · rw [if_neg c3261] at e
      exact z_weak [1, 2, 0] rfl (S_X11_readPart_71   e)
def D_X11_readPart_59 (h : z_H) (l0 : Option Nat) (l1 : Int32) : Option (Int32 × z_H) :=
  D_X11_readPart_60   h l0 l1 (0:Int32)
set_option maxRecDepth 100000 in
set_option maxHeartbeats 4000000 in
theorem S_X11_readPart_59 {G : z_G} {l : Launch}  {h : z_H} {l0 : Option Nat} {l1 : Int32} {res : (Int32 × z_H)} (e : D_X11_readPart_59  h l0 l1 = some res) : z_Run G l 8 M_X11_readPart 59 [(0, z_r l0), (1, .int l1)] [] h res.2 (some (.int res.1)) := by
  unfold D_X11_readPart_59 at e
  refine z_iconst (v := 0) dX11_readPart_59 (by decide) ?_
  exact z_weak [0, 1] rfl (S_X11_readPart_60   e)
def D_X11_readPart_35 (h : z_H) (l0 : Option Nat) (s0 : Int32) : Option (Int32 × z_H) :=
  (z_gI 11 h l0 16).bind fun x3262 =>
  if x3262 = (2:Int32) then
    (z_gJ 11 h l0 17).bind fun x3264 =>
    if 0 < (lg_cmp x3264 (1000:Int64)) then
      D_X11_readPart_59   h l0 s0
    else
      D_X11_readPart_60   h l0 s0 (1:Int32)
  else
    D_X11_readPart_59   h l0 s0
set_option maxRecDepth 100000 in
set_option maxHeartbeats 4000000 in
theorem S_X11_readPart_35 {G : z_G} {l : Launch}  {h : z_H} {l0 : Option Nat} {s0 : Int32} {res : (Int32 × z_H)} (e : D_X11_readPart_35  h l0 s0 = some res) : z_Run G l 8 M_X11_readPart 35 [(0, z_r l0)] [.int s0] h res.2 (some (.int res.1)) := by
  unfold D_X11_readPart_35 at e
  refine z_istore_n (L' := [(1, .int s0), (0, z_r l0)]) dX11_readPart_35 rfl (by decide) (by simp [z_cr]) ?_
  refine z_aload_n 1 dX11_readPart_36 rfl ?_
  replace e := z_bd e; obtain ⟨x3262, ex3262, e⟩ := e
  refine z_getI ex3262 lk_X11_271 dX11_readPart_37 ?_
  refine z_iconst (v := 2) dX11_readPart_40 (by decide) ?_
  refine z_icmp_ne (tgt := 59) dX11_readPart_41 (by decide) (fun c3263 => ?_) (fun c3263 => ?_)
  · rw [if_neg c3263] at e
    exact z_weak [1, 0] rfl (S_X11_readPart_59   e)
  · rw [if_pos c3263] at e
    refine z_aload_n 1 dX11_readPart_44 rfl ?_
    replace e := z_bd e; obtain ⟨x3264, ex3264, e⟩ := e
    refine z_getJ ex3264 lk_X11_261 dX11_readPart_45 ?_
    refine z_ldc2 dX11_readPart_48 kj_X11_334 ?_
    refine z_lcmp dX11_readPart_51 ?_
    refine z_if_gt (tgt := 59) dX11_readPart_52 (by decide) (fun c3265 => ?_) (fun c3265 => ?_)
    · rw [if_pos c3265] at e
      exact z_weak [1, 0] rfl (S_X11_readPart_59   e)
    · rw [if_neg c3265] at e
      refine z_iconst (v := 1) dX11_readPart_55 (by decide) ?_
      refine z_goto (tgt := 60) dX11_readPart_56 (by decide) ?_
      exact z_weak [1, 0] rfl (S_X11_readPart_60   e)
def D_X11_readPart (h : z_H) (l0 : Option Nat) : Option (Int32 × z_H) :=
  (z_ob 11 h l0).bind fun _ =>
  (D_X11_isSign  h l0 (91:Int32)).bind fun p3266 =>
  if p3266.1 = 0 then
    (z_gI 11 p3266.2 l0 20).bind fun x3269 =>
    if x3269 = 0 then
      (z_ob 11 p3266.2 l0).bind fun _ =>
      (D_X11_partAt  p3266.2 l0).bind fun p3271 =>
      D_X11_readPart_35   p3271.2 l0 p3271.1
    else
      (z_ob 11 p3266.2 l0).bind fun _ =>
      (D_X11_orderPartAt  p3266.2 l0).bind fun p3273 =>
      D_X11_readPart_35   p3273.2 l0 p3273.1
  else
    (z_ob 11 p3266.2 l0).bind fun _ =>
    (D_X11_openBracket  p3266.2 l0 (32:Int32)).bind fun p3275 =>
    some ((1:Int32), p3275)
set_option maxRecDepth 100000 in
set_option maxHeartbeats 4000000 in
theorem S_X11_readPart {G : z_G} {l : Launch} {h : z_H} {l0 : Option Nat} {res : (Int32 × z_H)} (e : D_X11_readPart h l0 = some res) : z_Meth G l 8 M_X11_readPart [z_r l0] h res.2 (some (.int res.1)) := by
  refine z_Meth.of ck_X11_readPart.2.2.2.2 (by simp [lg_sl, z_ci, z_cj, z_cr, z_cx]) ck_X11_readPart.1 ?_
  rw [show lv_args 0 [z_r l0] = [(0, z_r l0)] from by simp [lv_args, z_ci, z_cj, z_cr, z_cx]]
  unfold D_X11_readPart at e
  refine z_aload_n 0 dX11_readPart_0 rfl ?_
  refine z_bipush (v := 91) dX11_readPart_1 (by decide) ?_
  replace e := z_bd e; obtain ⟨o3267, eo3267, e⟩ := e
  replace e := z_bd e; obtain ⟨p3266, ep3266, e⟩ := e
  refine z_cV [.int (91:Int32)] (S_X11_isSign  ep3266) eo3267 rfl ml_X11_318 ck_X11_isSign vk_X11_isSign dX11_readPart_3 (by decide) rfl (Nat.zero_le _) rfl ?_
  refine z_if_eq (tgt := 17) dX11_readPart_6 (by decide) (fun c3268 => ?_) (fun c3268 => ?_)
  · rw [if_pos c3268] at e
    refine z_aload_n 0 dX11_readPart_17 rfl ?_
    replace e := z_bd e; obtain ⟨x3269, ex3269, e⟩ := e
    refine z_getI ex3269 lk_X11_324 dX11_readPart_18 ?_
    refine z_if_eq (tgt := 31) dX11_readPart_21 (by decide) (fun c3270 => ?_) (fun c3270 => ?_)
    · rw [if_pos c3270] at e
      refine z_aload_n 0 dX11_readPart_31 rfl ?_
      replace e := z_bd e; obtain ⟨o3272, eo3272, e⟩ := e
      replace e := z_bd e; obtain ⟨p3271, ep3271, e⟩ := e
      refine z_cV [] (S_X11_partAt  ep3271) eo3272 rfl ml_X11_331 ck_X11_partAt vk_X11_partAt dX11_readPart_32 (by decide) rfl (Nat.zero_le _) rfl ?_
      exact z_weak [0] rfl (S_X11_readPart_35   e)
    · rw [if_neg c3270] at e
      refine z_aload_n 0 dX11_readPart_24 rfl ?_
      replace e := z_bd e; obtain ⟨o3274, eo3274, e⟩ := e
      replace e := z_bd e; obtain ⟨p3273, ep3273, e⟩ := e
      refine z_cV [] (S_X11_orderPartAt  ep3273) eo3274 rfl ml_X11_327 ck_X11_orderPartAt vk_X11_orderPartAt dX11_readPart_25 (by decide) rfl (Nat.zero_le _) rfl ?_
      refine z_goto (tgt := 35) dX11_readPart_28 (by decide) ?_
      exact z_weak [0] rfl (S_X11_readPart_35   e)
  · rw [if_neg c3268] at e
    refine z_aload_n 0 dX11_readPart_9 rfl ?_
    refine z_bipush (v := 32) dX11_readPart_10 (by decide) ?_
    replace e := z_bd e; obtain ⟨o3276, eo3276, e⟩ := e
    replace e := z_bd e; obtain ⟨p3275, ep3275, e⟩ := e
    refine z_cV [.int (32:Int32)] (S_X11_openBracket  ep3275) eo3276 rfl ml_X11_321 ck_X11_openBracket vk_X11_openBracket dX11_readPart_12 (by decide) rfl (Nat.zero_le _) rfl ?_
    refine z_iconst (v := 1) dX11_readPart_15 (by decide) ?_
    cases e
    exact z_iret dX11_readPart_16 rfl
theorem dX11_readPlain_0 : decode cX11_readPlain 0 = .ok (.aload_n 0, 1) := by decide +kernel
theorem dX11_readPlain_1 : decode cX11_readPlain 1 = .ok (.ldc2_w 346, 3) := by decide +kernel
theorem dX11_readPlain_4 : decode cX11_readPlain 4 = .ok (.invokevirtual 305, 3) := by decide +kernel
theorem dX11_readPlain_7 : decode cX11_readPlain 7 = .ok (.ifCond .eq 16, 3) := by decide +kernel
theorem dX11_readPlain_10 : decode cX11_readPlain 10 = .ok (.aload_n 0, 1) := by decide +kernel
theorem dX11_readPlain_11 : decode cX11_readPlain 11 = .ok (.bipush 28, 2) := by decide +kernel
theorem dX11_readPlain_13 : decode cX11_readPlain 13 = .ok (.iconst 0, 1) := by decide +kernel
theorem dX11_readPlain_14 : decode cX11_readPlain 14 = .ok (.invokevirtual 312, 3) := by decide +kernel
theorem dX11_readPlain_17 : decode cX11_readPlain 17 = .ok (.aload_n 0, 1) := by decide +kernel
theorem dX11_readPlain_18 : decode cX11_readPlain 18 = .ok (.invokevirtual 255, 3) := by decide +kernel
theorem dX11_readPlain_21 : decode cX11_readPlain 21 = .ok (.iconst 0, 1) := by decide +kernel
theorem dX11_readPlain_22 : decode cX11_readPlain 22 = .ok (.ireturn, 1) := by decide +kernel
theorem dX11_readPlain_23 : decode cX11_readPlain 23 = .ok (.aload_n 0, 1) := by decide +kernel
theorem dX11_readPlain_24 : decode cX11_readPlain 24 = .ok (.bipush 40, 2) := by decide +kernel
theorem dX11_readPlain_26 : decode cX11_readPlain 26 = .ok (.invokevirtual 318, 3) := by decide +kernel
theorem dX11_readPlain_29 : decode cX11_readPlain 29 = .ok (.ifCond .eq 11, 3) := by decide +kernel
theorem dX11_readPlain_32 : decode cX11_readPlain 32 = .ok (.aload_n 0, 1) := by decide +kernel
theorem dX11_readPlain_33 : decode cX11_readPlain 33 = .ok (.bipush 31, 2) := by decide +kernel
theorem dX11_readPlain_35 : decode cX11_readPlain 35 = .ok (.invokevirtual 321, 3) := by decide +kernel
theorem dX11_readPlain_38 : decode cX11_readPlain 38 = .ok (.iconst 0, 1) := by decide +kernel
theorem dX11_readPlain_39 : decode cX11_readPlain 39 = .ok (.ireturn, 1) := by decide +kernel
theorem dX11_readPlain_40 : decode cX11_readPlain 40 = .ok (.aload_n 0, 1) := by decide +kernel
theorem dX11_readPlain_41 : decode cX11_readPlain 41 = .ok (.invokevirtual 348, 3) := by decide +kernel
theorem dX11_readPlain_44 : decode cX11_readPlain 44 = .ok (.ireturn, 1) := by decide +kernel
def D_X11_readPlain (h : z_H) (l0 : Option Nat) : Option (Int32 × z_H) :=
  (z_ob 11 h l0).bind fun _ =>
  (D_X11_isWord  h l0 (14836:Int64)).bind fun p3277 =>
  if p3277.1 = 0 then
    (z_ob 11 p3277.2 l0).bind fun _ =>
    (D_X11_isSign  p3277.2 l0 (40:Int32)).bind fun p3280 =>
    if p3280.1 = 0 then
      (z_ob 11 p3280.2 l0).bind fun _ =>
      (D_X11_readPart  p3280.2 l0).bind fun p3283 =>
      some (p3283.1, p3283.2)
    else
      (z_ob 11 p3280.2 l0).bind fun _ =>
      (D_X11_openBracket  p3280.2 l0 (31:Int32)).bind fun p3285 =>
      some ((0:Int32), p3285)
  else
    (z_ob 11 p3277.2 l0).bind fun _ =>
    (D_X11_push  p3277.2 l0 (28:Int32) (0:Int32)).bind fun p3287 =>
    (z_ob 11 p3287 l0).bind fun _ =>
    (D_X11_next  p3287 l0).bind fun p3289 =>
    some ((0:Int32), p3289)
set_option maxRecDepth 100000 in
set_option maxHeartbeats 4000000 in
theorem S_X11_readPlain {G : z_G} {l : Launch} {h : z_H} {l0 : Option Nat} {res : (Int32 × z_H)} (e : D_X11_readPlain h l0 = some res) : z_Meth G l 9 M_X11_readPlain [z_r l0] h res.2 (some (.int res.1)) := by
  refine z_Meth.of ck_X11_readPlain.2.2.2.2 (by simp [lg_sl, z_ci, z_cj, z_cr, z_cx]) ck_X11_readPlain.1 ?_
  rw [show lv_args 0 [z_r l0] = [(0, z_r l0)] from by simp [lv_args, z_ci, z_cj, z_cr, z_cx]]
  unfold D_X11_readPlain at e
  refine z_aload_n 0 dX11_readPlain_0 rfl ?_
  refine z_ldc2 dX11_readPlain_1 kj_X11_346 ?_
  replace e := z_bd e; obtain ⟨o3278, eo3278, e⟩ := e
  replace e := z_bd e; obtain ⟨p3277, ep3277, e⟩ := e
  refine z_cV [.long (14836:Int64)] (S_X11_isWord  ep3277) eo3278 rfl ml_X11_305 ck_X11_isWord vk_X11_isWord dX11_readPlain_4 (by decide) rfl (Nat.zero_le _) rfl ?_
  refine z_if_eq (tgt := 23) dX11_readPlain_7 (by decide) (fun c3279 => ?_) (fun c3279 => ?_)
  · rw [if_pos c3279] at e
    refine z_aload_n 0 dX11_readPlain_23 rfl ?_
    refine z_bipush (v := 40) dX11_readPlain_24 (by decide) ?_
    replace e := z_bd e; obtain ⟨o3281, eo3281, e⟩ := e
    replace e := z_bd e; obtain ⟨p3280, ep3280, e⟩ := e
    refine z_cV [.int (40:Int32)] (S_X11_isSign  ep3280) eo3281 rfl ml_X11_318 ck_X11_isSign vk_X11_isSign dX11_readPlain_26 (by decide) rfl (Nat.zero_le _) rfl ?_
    refine z_if_eq (tgt := 40) dX11_readPlain_29 (by decide) (fun c3282 => ?_) (fun c3282 => ?_)
    · rw [if_pos c3282] at e
      refine z_aload_n 0 dX11_readPlain_40 rfl ?_
      replace e := z_bd e; obtain ⟨o3284, eo3284, e⟩ := e
      replace e := z_bd e; obtain ⟨p3283, ep3283, e⟩ := e
      refine z_cV [] (S_X11_readPart  ep3283) eo3284 rfl ml_X11_348 ck_X11_readPart vk_X11_readPart dX11_readPlain_41 (by decide) rfl (Nat.zero_le _) rfl ?_
      cases e
      exact z_iret dX11_readPlain_44 rfl
    · rw [if_neg c3282] at e
      refine z_aload_n 0 dX11_readPlain_32 rfl ?_
      refine z_bipush (v := 31) dX11_readPlain_33 (by decide) ?_
      replace e := z_bd e; obtain ⟨o3286, eo3286, e⟩ := e
      replace e := z_bd e; obtain ⟨p3285, ep3285, e⟩ := e
      refine z_cV [.int (31:Int32)] (S_X11_openBracket  ep3285) eo3286 rfl ml_X11_321 ck_X11_openBracket vk_X11_openBracket dX11_readPlain_35 (by decide) rfl (Nat.zero_le _) rfl ?_
      refine z_iconst (v := 0) dX11_readPlain_38 (by decide) ?_
      cases e
      exact z_iret dX11_readPlain_39 rfl
  · rw [if_neg c3279] at e
    refine z_aload_n 0 dX11_readPlain_10 rfl ?_
    refine z_bipush (v := 28) dX11_readPlain_11 (by decide) ?_
    refine z_iconst (v := 0) dX11_readPlain_13 (by decide) ?_
    replace e := z_bd e; obtain ⟨o3288, eo3288, e⟩ := e
    replace e := z_bd e; obtain ⟨p3287, ep3287, e⟩ := e
    refine z_cV [.int (28:Int32), .int (0:Int32)] (S_X11_push  ep3287) eo3288 rfl ml_X11_312 ck_X11_push vk_X11_push dX11_readPlain_14 (by decide) rfl (Nat.zero_le _) rfl ?_
    refine z_aload_n 0 dX11_readPlain_17 rfl ?_
    replace e := z_bd e; obtain ⟨o3290, eo3290, e⟩ := e
    replace e := z_bd e; obtain ⟨p3289, ep3289, e⟩ := e
    refine z_cV [] (S_X11_next  ep3289) eo3290 rfl ml_X11_255 ck_X11_next vk_X11_next dX11_readPlain_18 (by decide) rfl (Nat.zero_le _) rfl ?_
    refine z_iconst (v := 0) dX11_readPlain_21 (by decide) ?_
    cases e
    exact z_iret dX11_readPlain_22 rfl
theorem dX11_binds_0 : decode cX11_binds 0 = .ok (.iload_n 0, 1) := by decide +kernel
theorem dX11_binds_1 : decode cX11_binds 1 = .ok (.bipush 31, 2) := by decide +kernel
theorem dX11_binds_3 : decode cX11_binds 3 = .ok (.if_icmp .lt 7, 3) := by decide +kernel
theorem dX11_binds_6 : decode cX11_binds 6 = .ok (.iconst 0, 1) := by decide +kernel
theorem dX11_binds_7 : decode cX11_binds 7 = .ok (.goto 55, 3) := by decide +kernel
theorem dX11_binds_10 : decode cX11_binds 10 = .ok (.iload_n 0, 1) := by decide +kernel
theorem dX11_binds_11 : decode cX11_binds 11 = .ok (.bipush 30, 2) := by decide +kernel
theorem dX11_binds_13 : decode cX11_binds 13 = .ok (.if_icmp .ne 7, 3) := by decide +kernel
theorem dX11_binds_16 : decode cX11_binds 16 = .ok (.iconst 1, 1) := by decide +kernel
theorem dX11_binds_17 : decode cX11_binds 17 = .ok (.goto 45, 3) := by decide +kernel
theorem dX11_binds_20 : decode cX11_binds 20 = .ok (.iload_n 0, 1) := by decide +kernel
theorem dX11_binds_21 : decode cX11_binds 21 = .ok (.bipush 29, 2) := by decide +kernel
theorem dX11_binds_23 : decode cX11_binds 23 = .ok (.if_icmp .ne 7, 3) := by decide +kernel
theorem dX11_binds_26 : decode cX11_binds 26 = .ok (.iconst 2, 1) := by decide +kernel
theorem dX11_binds_27 : decode cX11_binds 27 = .ok (.goto 35, 3) := by decide +kernel
theorem dX11_binds_30 : decode cX11_binds 30 = .ok (.iload_n 0, 1) := by decide +kernel
theorem dX11_binds_31 : decode cX11_binds 31 = .ok (.bipush 28, 2) := by decide +kernel
theorem dX11_binds_33 : decode cX11_binds 33 = .ok (.if_icmp .ne 7, 3) := by decide +kernel
theorem dX11_binds_36 : decode cX11_binds 36 = .ok (.iconst 3, 1) := by decide +kernel
theorem dX11_binds_37 : decode cX11_binds 37 = .ok (.goto 25, 3) := by decide +kernel
theorem dX11_binds_40 : decode cX11_binds 40 = .ok (.iload_n 0, 1) := by decide +kernel
theorem dX11_binds_41 : decode cX11_binds 41 = .ok (.bipush 25, 2) := by decide +kernel
theorem dX11_binds_43 : decode cX11_binds 43 = .ok (.if_icmp .lt 7, 3) := by decide +kernel
theorem dX11_binds_46 : decode cX11_binds 46 = .ok (.iconst 4, 1) := by decide +kernel
theorem dX11_binds_47 : decode cX11_binds 47 = .ok (.goto 15, 3) := by decide +kernel
theorem dX11_binds_50 : decode cX11_binds 50 = .ok (.iload_n 0, 1) := by decide +kernel
theorem dX11_binds_51 : decode cX11_binds 51 = .ok (.bipush 22, 2) := by decide +kernel
theorem dX11_binds_53 : decode cX11_binds 53 = .ok (.if_icmp .lt 8, 3) := by decide +kernel
theorem dX11_binds_56 : decode cX11_binds 56 = .ok (.bipush 6, 2) := by decide +kernel
theorem dX11_binds_58 : decode cX11_binds 58 = .ok (.goto 4, 3) := by decide +kernel
theorem dX11_binds_61 : decode cX11_binds 61 = .ok (.iconst 5, 1) := by decide +kernel
theorem dX11_binds_62 : decode cX11_binds 62 = .ok (.ireturn, 1) := by decide +kernel
def D_X11_binds (h : z_H) (l0 : Int32) : Option (Int32 × z_H) :=
  if l0 < (31:Int32) then
    if l0 = (30:Int32) then
      some ((1:Int32), h)
    else
      if l0 = (29:Int32) then
        some ((2:Int32), h)
      else
        if l0 = (28:Int32) then
          some ((3:Int32), h)
        else
          if l0 < (25:Int32) then
            if l0 < (22:Int32) then
              some ((5:Int32), h)
            else
              some ((6:Int32), h)
          else
            some ((4:Int32), h)
  else
    some ((0:Int32), h)
set_option maxRecDepth 100000 in
set_option maxHeartbeats 4000000 in
theorem S_X11_binds {G : z_G} {l : Launch} {h : z_H} {l0 : Int32} {res : (Int32 × z_H)} (e : D_X11_binds h l0 = some res) : z_Meth G l 4 M_X11_binds [.int l0] h res.2 (some (.int res.1)) := by
  refine z_Meth.of ck_X11_binds.2.2.2.2 (by simp [lg_sl, z_ci, z_cj, z_cr, z_cx]) ck_X11_binds.1 ?_
  rw [show lv_args 0 [.int l0] = [(0, .int l0)] from rfl]
  unfold D_X11_binds at e
  refine z_iload_n 0 dX11_binds_0 rfl ?_
  refine z_bipush (v := 31) dX11_binds_1 (by decide) ?_
  refine z_icmp_lt (tgt := 10) dX11_binds_3 (by decide) (fun c3291 => ?_) (fun c3291 => ?_)
  · rw [if_pos c3291] at e
    refine z_iload_n 0 dX11_binds_10 rfl ?_
    refine z_bipush (v := 30) dX11_binds_11 (by decide) ?_
    refine z_icmp_ne (tgt := 20) dX11_binds_13 (by decide) (fun c3292 => ?_) (fun c3292 => ?_)
    · rw [if_neg c3292] at e
      refine z_iload_n 0 dX11_binds_20 rfl ?_
      refine z_bipush (v := 29) dX11_binds_21 (by decide) ?_
      refine z_icmp_ne (tgt := 30) dX11_binds_23 (by decide) (fun c3293 => ?_) (fun c3293 => ?_)
      · rw [if_neg c3293] at e
        refine z_iload_n 0 dX11_binds_30 rfl ?_
        refine z_bipush (v := 28) dX11_binds_31 (by decide) ?_
        refine z_icmp_ne (tgt := 40) dX11_binds_33 (by decide) (fun c3294 => ?_) (fun c3294 => ?_)
        · rw [if_neg c3294] at e
          refine z_iload_n 0 dX11_binds_40 rfl ?_
          refine z_bipush (v := 25) dX11_binds_41 (by decide) ?_
          refine z_icmp_lt (tgt := 50) dX11_binds_43 (by decide) (fun c3295 => ?_) (fun c3295 => ?_)
          · rw [if_pos c3295] at e
            refine z_iload_n 0 dX11_binds_50 rfl ?_
            refine z_bipush (v := 22) dX11_binds_51 (by decide) ?_
            refine z_icmp_lt (tgt := 61) dX11_binds_53 (by decide) (fun c3296 => ?_) (fun c3296 => ?_)
            · rw [if_pos c3296] at e
              refine z_iconst (v := 5) dX11_binds_61 (by decide) ?_
              cases e
              exact z_iret dX11_binds_62 rfl
            · rw [if_neg c3296] at e
              refine z_bipush (v := 6) dX11_binds_56 (by decide) ?_
              refine z_goto (tgt := 62) dX11_binds_58 (by decide) ?_
              cases e
              exact z_iret dX11_binds_62 rfl
          · rw [if_neg c3295] at e
            refine z_iconst (v := 4) dX11_binds_46 (by decide) ?_
            refine z_goto (tgt := 62) dX11_binds_47 (by decide) ?_
            cases e
            exact z_iret dX11_binds_62 rfl
        · rw [if_pos c3294] at e
          refine z_iconst (v := 3) dX11_binds_36 (by decide) ?_
          refine z_goto (tgt := 62) dX11_binds_37 (by decide) ?_
          cases e
          exact z_iret dX11_binds_62 rfl
      · rw [if_pos c3293] at e
        refine z_iconst (v := 2) dX11_binds_26 (by decide) ?_
        refine z_goto (tgt := 62) dX11_binds_27 (by decide) ?_
        cases e
        exact z_iret dX11_binds_62 rfl
    · rw [if_pos c3292] at e
      refine z_iconst (v := 1) dX11_binds_16 (by decide) ?_
      refine z_goto (tgt := 62) dX11_binds_17 (by decide) ?_
      cases e
      exact z_iret dX11_binds_62 rfl
  · rw [if_neg c3291] at e
    refine z_iconst (v := 0) dX11_binds_6 (by decide) ?_
    refine z_goto (tgt := 62) dX11_binds_7 (by decide) ?_
    cases e
    exact z_iret dX11_binds_62 rfl
theorem dX11_settle_0 : decode cX11_settle 0 = .ok (.aload_n 0, 1) := by decide +kernel
theorem dX11_settle_1 : decode cX11_settle 1 = .ok (.getfield 291, 3) := by decide +kernel
theorem dX11_settle_4 : decode cX11_settle 4 = .ok (.ifCond .le 97, 3) := by decide +kernel
theorem dX11_settle_7 : decode cX11_settle 7 = .ok (.aload_n 0, 1) := by decide +kernel
theorem dX11_settle_8 : decode cX11_settle 8 = .ok (.getfield 51, 3) := by decide +kernel
theorem dX11_settle_11 : decode cX11_settle 11 = .ok (.aload_n 0, 1) := by decide +kernel
theorem dX11_settle_12 : decode cX11_settle 12 = .ok (.getfield 291, 3) := by decide +kernel
theorem dX11_settle_15 : decode cX11_settle 15 = .ok (.iconst 1, 1) := by decide +kernel
theorem dX11_settle_16 : decode cX11_settle 16 = .ok (.isub, 1) := by decide +kernel
theorem dX11_settle_17 : decode cX11_settle 17 = .ok (.iaload, 1) := by decide +kernel
theorem dX11_settle_18 : decode cX11_settle 18 = .ok (.invokestatic 294, 3) := by decide +kernel
theorem dX11_settle_21 : decode cX11_settle 21 = .ok (.iload_n 1, 1) := by decide +kernel
theorem dX11_settle_22 : decode cX11_settle 22 = .ok (.if_icmp .lt 79, 3) := by decide +kernel
theorem dX11_settle_25 : decode cX11_settle 25 = .ok (.aload_n 0, 1) := by decide +kernel
theorem dX11_settle_26 : decode cX11_settle 26 = .ok (.dup, 1) := by decide +kernel
theorem dX11_settle_27 : decode cX11_settle 27 = .ok (.getfield 291, 3) := by decide +kernel
theorem dX11_settle_30 : decode cX11_settle 30 = .ok (.iconst 1, 1) := by decide +kernel
theorem dX11_settle_31 : decode cX11_settle 31 = .ok (.isub, 1) := by decide +kernel
theorem dX11_settle_32 : decode cX11_settle 32 = .ok (.putfield 291, 3) := by decide +kernel
theorem dX11_settle_35 : decode cX11_settle 35 = .ok (.aload_n 0, 1) := by decide +kernel
theorem dX11_settle_36 : decode cX11_settle 36 = .ok (.getfield 51, 3) := by decide +kernel
theorem dX11_settle_39 : decode cX11_settle 39 = .ok (.aload_n 0, 1) := by decide +kernel
theorem dX11_settle_40 : decode cX11_settle 40 = .ok (.getfield 291, 3) := by decide +kernel
theorem dX11_settle_43 : decode cX11_settle 43 = .ok (.iaload, 1) := by decide +kernel
theorem dX11_settle_44 : decode cX11_settle 44 = .ok (.bipush 29, 2) := by decide +kernel
theorem dX11_settle_46 : decode cX11_settle 46 = .ok (.if_icmp .eq 17, 3) := by decide +kernel
theorem dX11_settle_49 : decode cX11_settle 49 = .ok (.aload_n 0, 1) := by decide +kernel
theorem dX11_settle_50 : decode cX11_settle 50 = .ok (.getfield 51, 3) := by decide +kernel
theorem dX11_settle_53 : decode cX11_settle 53 = .ok (.aload_n 0, 1) := by decide +kernel
theorem dX11_settle_54 : decode cX11_settle 54 = .ok (.getfield 291, 3) := by decide +kernel
theorem dX11_settle_57 : decode cX11_settle 57 = .ok (.iaload, 1) := by decide +kernel
theorem dX11_settle_58 : decode cX11_settle 58 = .ok (.bipush 30, 2) := by decide +kernel
theorem dX11_settle_60 : decode cX11_settle 60 = .ok (.if_icmp .ne 24, 3) := by decide +kernel
theorem dX11_settle_63 : decode cX11_settle 63 = .ok (.aload_n 0, 1) := by decide +kernel
theorem dX11_settle_64 : decode cX11_settle 64 = .ok (.getfield 48, 3) := by decide +kernel
theorem dX11_settle_67 : decode cX11_settle 67 = .ok (.aload_n 0, 1) := by decide +kernel
theorem dX11_settle_68 : decode cX11_settle 68 = .ok (.getfield 54, 3) := by decide +kernel
theorem dX11_settle_71 : decode cX11_settle 71 = .ok (.aload_n 0, 1) := by decide +kernel
theorem dX11_settle_72 : decode cX11_settle 72 = .ok (.getfield 291, 3) := by decide +kernel
theorem dX11_settle_75 : decode cX11_settle 75 = .ok (.iaload, 1) := by decide +kernel
theorem dX11_settle_76 : decode cX11_settle 76 = .ok (.aload_n 0, 1) := by decide +kernel
theorem dX11_settle_77 : decode cX11_settle 77 = .ok (.getfield 288, 3) := by decide +kernel
theorem dX11_settle_80 : decode cX11_settle 80 = .ok (.iastore, 1) := by decide +kernel
theorem dX11_settle_81 : decode cX11_settle 81 = .ok (.goto (-81), 3) := by decide +kernel
theorem dX11_settle_84 : decode cX11_settle 84 = .ok (.aload_n 0, 1) := by decide +kernel
theorem dX11_settle_85 : decode cX11_settle 85 = .ok (.aload_n 0, 1) := by decide +kernel
theorem dX11_settle_86 : decode cX11_settle 86 = .ok (.getfield 51, 3) := by decide +kernel
theorem dX11_settle_89 : decode cX11_settle 89 = .ok (.aload_n 0, 1) := by decide +kernel
theorem dX11_settle_90 : decode cX11_settle 90 = .ok (.getfield 291, 3) := by decide +kernel
theorem dX11_settle_93 : decode cX11_settle 93 = .ok (.iaload, 1) := by decide +kernel
theorem dX11_settle_94 : decode cX11_settle 94 = .ok (.iconst 0, 1) := by decide +kernel
theorem dX11_settle_95 : decode cX11_settle 95 = .ok (.invokevirtual 297, 3) := by decide +kernel
theorem dX11_settle_98 : decode cX11_settle 98 = .ok (.goto (-98), 3) := by decide +kernel
theorem dX11_settle_101 : decode cX11_settle 101 = .ok (.return_, 1) := by decide +kernel
def D_X11_settle_63 (k0 : z_H → Option Nat → Int32 → Option z_H) (h : z_H) (l0 : Option Nat) (l1 : Int32) : Option z_H :=
  (z_gQ 11 h l0 25).bind fun x3297 =>
  (z_gQ 11 h l0 28).bind fun x3298 =>
  (z_gI 11 h l0 29).bind fun x3299 =>
  (z_aI .int h x3298 x3299).bind fun x3300 =>
  (z_gI 11 h l0 23).bind fun x3301 =>
  (z_sI h x3297 x3300 x3301).bind fun h3302 =>
  k0 h3302 l0 l1
set_option maxRecDepth 100000 in
set_option maxHeartbeats 4000000 in
theorem S_X11_settle_63 {G : z_G} {l : Launch} {k0 : z_H → Option Nat → Int32 → Option z_H} (hk0 : ∀ {h : z_H} {l0 : Option Nat} {l1 : Int32} {res : z_H}, k0 h l0 l1 = some res → z_Run G l 5 M_X11_settle 0 [(0, z_r l0), (1, .int l1)] [] h res none) {h : z_H} {l0 : Option Nat} {l1 : Int32} {res : z_H} (e : D_X11_settle_63 k0 h l0 l1 = some res) : z_Run G l 5 M_X11_settle 63 [(0, z_r l0), (1, .int l1)] [] h res none := by
  unfold D_X11_settle_63 at e
  refine z_aload_n 0 dX11_settle_63 rfl ?_
  replace e := z_bd e; obtain ⟨x3297, ex3297, e⟩ := e
  refine z_getQ ex3297 lk_X11_48 dX11_settle_64 ?_
  refine z_aload_n 0 dX11_settle_67 rfl ?_
  replace e := z_bd e; obtain ⟨x3298, ex3298, e⟩ := e
  refine z_getQ ex3298 lk_X11_54 dX11_settle_68 ?_
  refine z_aload_n 0 dX11_settle_71 rfl ?_
  replace e := z_bd e; obtain ⟨x3299, ex3299, e⟩ := e
  refine z_getI ex3299 lk_X11_291 dX11_settle_72 ?_
  replace e := z_bd e; obtain ⟨x3300, ex3300, e⟩ := e
  refine z_iald ex3300 dX11_settle_75 ?_
  refine z_aload_n 0 dX11_settle_76 rfl ?_
  replace e := z_bd e; obtain ⟨x3301, ex3301, e⟩ := e
  refine z_getI ex3301 lk_X11_288 dX11_settle_77 ?_
  replace e := z_bd e; obtain ⟨h3302, eh3302, e⟩ := e
  refine z_iast eh3302 dX11_settle_80 ?_
  refine z_goto (tgt := 0) dX11_settle_81 (by decide) ?_
  exact z_weak [0, 1] rfl (hk0 e)
def D_X11_settle_0b (k0 : z_H → Option Nat → Int32 → Option z_H) (h : z_H) (l0 : Option Nat) (l1 : Int32) : Option z_H :=
  (z_gI 11 h l0 29).bind fun x3303 =>
  if x3303 ≤ 0 then
    some h
  else
    (z_gQ 11 h l0 27).bind fun x3305 =>
    (z_gI 11 h l0 29).bind fun x3306 =>
    (z_aI .int h x3305 (x3306 - (1:Int32))).bind fun x3307 =>
    (D_X11_binds  h x3307).bind fun p3308 =>
    if p3308.1 < l1 then
      some p3308.2
    else
      (z_gI 11 p3308.2 l0 29).bind fun x3310 =>
      (z_pV 11 p3308.2 l0 29 (.int (x3310 - (1:Int32)))).bind fun h3311 =>
      (z_gQ 11 h3311 l0 27).bind fun x3312 =>
      (z_gI 11 h3311 l0 29).bind fun x3313 =>
      (z_aI .int h3311 x3312 x3313).bind fun x3314 =>
      if x3314 = (29:Int32) then
        D_X11_settle_63  k0 h3311 l0 l1
      else
        (z_gQ 11 h3311 l0 27).bind fun x3316 =>
        (z_gI 11 h3311 l0 29).bind fun x3317 =>
        (z_aI .int h3311 x3316 x3317).bind fun x3318 =>
        if x3318 = (30:Int32) then
          D_X11_settle_63  k0 h3311 l0 l1
        else
          (z_gQ 11 h3311 l0 27).bind fun x3320 =>
          (z_gI 11 h3311 l0 29).bind fun x3321 =>
          (z_aI .int h3311 x3320 x3321).bind fun x3322 =>
          (z_ob 11 h3311 l0).bind fun _ =>
          (D_X11_emit  h3311 l0 x3322 (0:Int32)).bind fun p3323 =>
          k0 p3323 l0 l1
def D_X11_settle_0 (n : Nat) : z_H → Option Nat → Int32 → Option z_H := Nat.rec (motive := fun _ => z_H → Option Nat → Int32 → Option z_H) (fun _ _ _ => none) (fun _ k => D_X11_settle_0b  k) n
set_option maxRecDepth 100000 in
set_option maxHeartbeats 4000000 in
theorem S_X11_settle_0 {G : z_G} {l : Launch}  (n : Nat) : ∀ {h : z_H} {l0 : Option Nat} {l1 : Int32} {res : z_H}, D_X11_settle_0  n h l0 l1 = some res → z_Run G l 5 M_X11_settle 0 [(0, z_r l0), (1, .int l1)] [] h res none := by
  induction n with
  | zero => intro h l0 l1 res e; cases e
  | succ n hk0 =>
    intro h l0 l1 res e
    replace e : D_X11_settle_0b  (D_X11_settle_0  n) h l0 l1 = some res := e
    unfold D_X11_settle_0b at e
    refine z_aload_n 0 dX11_settle_0 rfl ?_
    replace e := z_bd e; obtain ⟨x3303, ex3303, e⟩ := e
    refine z_getI ex3303 lk_X11_291 dX11_settle_1 ?_
    refine z_if_le (tgt := 101) dX11_settle_4 (by decide) (fun c3304 => ?_) (fun c3304 => ?_)
    · rw [if_pos c3304] at e
      cases e
      exact z_vret dX11_settle_101 rfl
    · rw [if_neg c3304] at e
      refine z_aload_n 0 dX11_settle_7 rfl ?_
      replace e := z_bd e; obtain ⟨x3305, ex3305, e⟩ := e
      refine z_getQ ex3305 lk_X11_51 dX11_settle_8 ?_
      refine z_aload_n 0 dX11_settle_11 rfl ?_
      replace e := z_bd e; obtain ⟨x3306, ex3306, e⟩ := e
      refine z_getI ex3306 lk_X11_291 dX11_settle_12 ?_
      refine z_iconst (v := 1) dX11_settle_15 (by decide) ?_
      refine z_isub dX11_settle_16 ?_
      replace e := z_bd e; obtain ⟨x3307, ex3307, e⟩ := e
      refine z_iald ex3307 dX11_settle_17 ?_
      replace e := z_bd e; obtain ⟨p3308, ep3308, e⟩ := e
      refine z_cS [.int x3307] (S_X11_binds  ep3308) ml_X11_294 ck_X11_binds st_X11_binds dX11_settle_18 (by decide) rfl (Nat.zero_le _) rfl ?_
      refine z_iload_n 1 dX11_settle_21 rfl ?_
      refine z_icmp_lt (tgt := 101) dX11_settle_22 (by decide) (fun c3309 => ?_) (fun c3309 => ?_)
      · rw [if_pos c3309] at e
        cases e
        exact z_vret dX11_settle_101 rfl
      · rw [if_neg c3309] at e
        refine z_aload_n 0 dX11_settle_25 rfl ?_
        refine z_dup dX11_settle_26 (z_cr _) ?_
        replace e := z_bd e; obtain ⟨x3310, ex3310, e⟩ := e
        refine z_getI ex3310 lk_X11_291 dX11_settle_27 ?_
        refine z_iconst (v := 1) dX11_settle_30 (by decide) ?_
        refine z_isub dX11_settle_31 ?_
        replace e := z_bd e; obtain ⟨h3311, eh3311, e⟩ := e
        refine z_putV eh3311 lk_X11_291 wk_11_29 (fun _ => rfl) (fun _ => rfl) dX11_settle_32 ?_
        refine z_aload_n 0 dX11_settle_35 rfl ?_
        replace e := z_bd e; obtain ⟨x3312, ex3312, e⟩ := e
        refine z_getQ ex3312 lk_X11_51 dX11_settle_36 ?_
        refine z_aload_n 0 dX11_settle_39 rfl ?_
        replace e := z_bd e; obtain ⟨x3313, ex3313, e⟩ := e
        refine z_getI ex3313 lk_X11_291 dX11_settle_40 ?_
        replace e := z_bd e; obtain ⟨x3314, ex3314, e⟩ := e
        refine z_iald ex3314 dX11_settle_43 ?_
        refine z_bipush (v := 29) dX11_settle_44 (by decide) ?_
        refine z_icmp_eq (tgt := 63) dX11_settle_46 (by decide) (fun c3315 => ?_) (fun c3315 => ?_)
        · rw [if_pos c3315] at e
          exact z_weak [0, 1] rfl (S_X11_settle_63  @hk0 e)
        · rw [if_neg c3315] at e
          refine z_aload_n 0 dX11_settle_49 rfl ?_
          replace e := z_bd e; obtain ⟨x3316, ex3316, e⟩ := e
          refine z_getQ ex3316 lk_X11_51 dX11_settle_50 ?_
          refine z_aload_n 0 dX11_settle_53 rfl ?_
          replace e := z_bd e; obtain ⟨x3317, ex3317, e⟩ := e
          refine z_getI ex3317 lk_X11_291 dX11_settle_54 ?_
          replace e := z_bd e; obtain ⟨x3318, ex3318, e⟩ := e
          refine z_iald ex3318 dX11_settle_57 ?_
          refine z_bipush (v := 30) dX11_settle_58 (by decide) ?_
          refine z_icmp_ne (tgt := 84) dX11_settle_60 (by decide) (fun c3319 => ?_) (fun c3319 => ?_)
          · rw [if_neg c3319] at e
            refine z_aload_n 0 dX11_settle_84 rfl ?_
            refine z_aload_n 0 dX11_settle_85 rfl ?_
            replace e := z_bd e; obtain ⟨x3320, ex3320, e⟩ := e
            refine z_getQ ex3320 lk_X11_51 dX11_settle_86 ?_
            refine z_aload_n 0 dX11_settle_89 rfl ?_
            replace e := z_bd e; obtain ⟨x3321, ex3321, e⟩ := e
            refine z_getI ex3321 lk_X11_291 dX11_settle_90 ?_
            replace e := z_bd e; obtain ⟨x3322, ex3322, e⟩ := e
            refine z_iald ex3322 dX11_settle_93 ?_
            refine z_iconst (v := 0) dX11_settle_94 (by decide) ?_
            replace e := z_bd e; obtain ⟨o3324, eo3324, e⟩ := e
            replace e := z_bd e; obtain ⟨p3323, ep3323, e⟩ := e
            refine z_cV [.int x3322, .int (0:Int32)] (S_X11_emit  ep3323) eo3324 rfl ml_X11_297 ck_X11_emit vk_X11_emit dX11_settle_95 (by decide) rfl (Nat.zero_le _) rfl ?_
            refine z_goto (tgt := 0) dX11_settle_98 (by decide) ?_
            exact z_weak [0, 1] rfl (hk0 e)
          · rw [if_pos c3319] at e
            exact z_weak [0, 1] rfl (S_X11_settle_63  @hk0 e)
def D_X11_settle (h : z_H) (l0 : Option Nat) (l1 : Int32) : Option z_H :=
  D_X11_settle_0   z_F h l0 l1
set_option maxRecDepth 100000 in
set_option maxHeartbeats 4000000 in
theorem S_X11_settle {G : z_G} {l : Launch} {h : z_H} {l0 : Option Nat} {l1 : Int32} {res : z_H} (e : D_X11_settle h l0 l1 = some res) : z_Meth G l 5 M_X11_settle [z_r l0, .int l1] h res none := by
  refine z_Meth.of ck_X11_settle.2.2.2.2 (by simp [lg_sl, z_ci, z_cj, z_cr, z_cx]) ck_X11_settle.1 ?_
  rw [show lv_args 0 [z_r l0, .int l1] = [(0, z_r l0), (1, .int l1)] from by simp [lv_args, z_ci, z_cj, z_cr, z_cx]]
  unfold D_X11_settle at e
  exact z_weak [0, 1] rfl (S_X11_settle_0   z_F e)
theorem dX11_inner_0 : decode cX11_inner 0 = .ok (.iconst (-1), 1) := by decide +kernel
theorem dX11_inner_1 : decode cX11_inner 1 = .ok (.istore_n 1, 1) := by decide +kernel
theorem dX11_inner_2 : decode cX11_inner 2 = .ok (.iconst 0, 1) := by decide +kernel
theorem dX11_inner_3 : decode cX11_inner 3 = .ok (.istore_n 2, 1) := by decide +kernel
theorem dX11_inner_4 : decode cX11_inner 4 = .ok (.iload_n 2, 1) := by decide +kernel
theorem dX11_inner_5 : decode cX11_inner 5 = .ok (.aload_n 0, 1) := by decide +kernel
theorem dX11_inner_6 : decode cX11_inner 6 = .ok (.getfield 291, 3) := by decide +kernel
theorem dX11_inner_9 : decode cX11_inner 9 = .ok (.if_icmp .ge 31, 3) := by decide +kernel
theorem dX11_inner_12 : decode cX11_inner 12 = .ok (.aload_n 0, 1) := by decide +kernel
theorem dX11_inner_13 : decode cX11_inner 13 = .ok (.getfield 51, 3) := by decide +kernel
theorem dX11_inner_16 : decode cX11_inner 16 = .ok (.iload_n 2, 1) := by decide +kernel
theorem dX11_inner_17 : decode cX11_inner 17 = .ok (.iaload, 1) := by decide +kernel
theorem dX11_inner_18 : decode cX11_inner 18 = .ok (.bipush 31, 2) := by decide +kernel
theorem dX11_inner_20 : decode cX11_inner 20 = .ok (.if_icmp .lt 12, 3) := by decide +kernel
theorem dX11_inner_23 : decode cX11_inner 23 = .ok (.aload_n 0, 1) := by decide +kernel
theorem dX11_inner_24 : decode cX11_inner 24 = .ok (.getfield 51, 3) := by decide +kernel
theorem dX11_inner_27 : decode cX11_inner 27 = .ok (.iload_n 2, 1) := by decide +kernel
theorem dX11_inner_28 : decode cX11_inner 28 = .ok (.iaload, 1) := by decide +kernel
theorem dX11_inner_29 : decode cX11_inner 29 = .ok (.goto 4, 3) := by decide +kernel
theorem dX11_inner_32 : decode cX11_inner 32 = .ok (.iload_n 1, 1) := by decide +kernel
theorem dX11_inner_33 : decode cX11_inner 33 = .ok (.istore_n 1, 1) := by decide +kernel
theorem dX11_inner_34 : decode cX11_inner 34 = .ok (.iinc 2 1, 3) := by decide +kernel
theorem dX11_inner_37 : decode cX11_inner 37 = .ok (.goto (-33), 3) := by decide +kernel
theorem dX11_inner_40 : decode cX11_inner 40 = .ok (.iload_n 1, 1) := by decide +kernel
theorem dX11_inner_41 : decode cX11_inner 41 = .ok (.ireturn, 1) := by decide +kernel
def D_X11_inner_33 (k4 : z_H → Option Nat → Int32 → Int32 → Option (Int32 × z_H)) (h : z_H) (l0 : Option Nat) (l2 : Int32) (s0 : Int32) : Option (Int32 × z_H) :=
  (some (l2 + (1:Int32))).bind fun x3325 =>
  k4 h l0 s0 x3325
set_option maxRecDepth 100000 in
set_option maxHeartbeats 4000000 in
theorem S_X11_inner_33 {G : z_G} {l : Launch} {k4 : z_H → Option Nat → Int32 → Int32 → Option (Int32 × z_H)} (hk4 : ∀ {h : z_H} {l0 : Option Nat} {l1 : Int32} {l2 : Int32} {res : (Int32 × z_H)}, k4 h l0 l1 l2 = some res → z_Run G l 4 M_X11_inner 4 [(0, z_r l0), (1, .int l1), (2, .int l2)] [] h res.2 (some (.int res.1))) {h : z_H} {l0 : Option Nat} {l2 : Int32} {s0 : Int32} {res : (Int32 × z_H)} (e : D_X11_inner_33 k4 h l0 l2 s0 = some res) : z_Run G l 4 M_X11_inner 33 [(0, z_r l0), (2, .int l2)] [.int s0] h res.2 (some (.int res.1)) := by
  unfold D_X11_inner_33 at e
  refine z_istore_n (L' := [(1, .int s0), (0, z_r l0), (2, .int l2)]) dX11_inner_33 rfl (by decide) (by simp [z_cr]) ?_
  replace e := z_bd e; obtain ⟨x3325, ex3325, e⟩ := e
  refine z_iinc (q := 2) (v := x3325) (L' := [(2, .int x3325), (1, .int s0), (0, z_r l0)]) dX11_inner_34 rfl (Option.some.inj ex3325) (by decide) rfl ?_
  refine z_goto (tgt := 4) dX11_inner_37 (by decide) ?_
  exact z_weak [2, 1, 0] rfl (hk4 e)
def D_X11_inner_4b (k4 : z_H → Option Nat → Int32 → Int32 → Option (Int32 × z_H)) (h : z_H) (l0 : Option Nat) (l1 : Int32) (l2 : Int32) : Option (Int32 × z_H) :=
  (z_gI 11 h l0 29).bind fun x3326 =>
  if x3326 ≤ l2 then
    some (l1, h)
  else
    (z_gQ 11 h l0 27).bind fun x3328 =>
    (z_aI .int h x3328 l2).bind fun x3329 =>
    if x3329 < (31:Int32) then
      D_X11_inner_33  k4 h l0 l2 l1
    else
      (z_gQ 11 h l0 27).bind fun x3331 =>
      (z_aI .int h x3331 l2).bind fun x3332 =>
      D_X11_inner_33  k4 h l0 l2 x3332
def D_X11_inner_4 (n : Nat) : z_H → Option Nat → Int32 → Int32 → Option (Int32 × z_H) := Nat.rec (motive := fun _ => z_H → Option Nat → Int32 → Int32 → Option (Int32 × z_H)) (fun _ _ _ _ => none) (fun _ k => D_X11_inner_4b  k) n
set_option maxRecDepth 100000 in
set_option maxHeartbeats 4000000 in
theorem S_X11_inner_4 {G : z_G} {l : Launch}  (n : Nat) : ∀ {h : z_H} {l0 : Option Nat} {l1 : Int32} {l2 : Int32} {res : (Int32 × z_H)}, D_X11_inner_4  n h l0 l1 l2 = some res → z_Run G l 4 M_X11_inner 4 [(0, z_r l0), (1, .int l1), (2, .int l2)] [] h res.2 (some (.int res.1)) := by
  induction n with
  | zero => intro h l0 l1 l2 res e; cases e
  | succ n hk4 =>
    intro h l0 l1 l2 res e
    replace e : D_X11_inner_4b  (D_X11_inner_4  n) h l0 l1 l2 = some res := e
    unfold D_X11_inner_4b at e
    refine z_iload_n 2 dX11_inner_4 rfl ?_
    refine z_aload_n 0 dX11_inner_5 rfl ?_
    replace e := z_bd e; obtain ⟨x3326, ex3326, e⟩ := e
    refine z_getI ex3326 lk_X11_291 dX11_inner_6 ?_
    refine z_icmp_ge (tgt := 40) dX11_inner_9 (by decide) (fun c3327 => ?_) (fun c3327 => ?_)
    · rw [if_pos c3327] at e
      refine z_iload_n 1 dX11_inner_40 rfl ?_
      cases e
      exact z_iret dX11_inner_41 rfl
    · rw [if_neg c3327] at e
      refine z_aload_n 0 dX11_inner_12 rfl ?_
      replace e := z_bd e; obtain ⟨x3328, ex3328, e⟩ := e
      refine z_getQ ex3328 lk_X11_51 dX11_inner_13 ?_
      refine z_iload_n 2 dX11_inner_16 rfl ?_
      replace e := z_bd e; obtain ⟨x3329, ex3329, e⟩ := e
      refine z_iald ex3329 dX11_inner_17 ?_
      refine z_bipush (v := 31) dX11_inner_18 (by decide) ?_
      refine z_icmp_lt (tgt := 32) dX11_inner_20 (by decide) (fun c3330 => ?_) (fun c3330 => ?_)
      · rw [if_pos c3330] at e
        refine z_iload_n 1 dX11_inner_32 rfl ?_
        exact z_weak [0, 2] rfl (S_X11_inner_33  @hk4 e)
      · rw [if_neg c3330] at e
        refine z_aload_n 0 dX11_inner_23 rfl ?_
        replace e := z_bd e; obtain ⟨x3331, ex3331, e⟩ := e
        refine z_getQ ex3331 lk_X11_51 dX11_inner_24 ?_
        refine z_iload_n 2 dX11_inner_27 rfl ?_
        replace e := z_bd e; obtain ⟨x3332, ex3332, e⟩ := e
        refine z_iald ex3332 dX11_inner_28 ?_
        refine z_goto (tgt := 33) dX11_inner_29 (by decide) ?_
        exact z_weak [0, 2] rfl (S_X11_inner_33  @hk4 e)
def D_X11_inner (h : z_H) (l0 : Option Nat) : Option (Int32 × z_H) :=
  D_X11_inner_4   z_F h l0 (-1:Int32) (0:Int32)
set_option maxRecDepth 100000 in
set_option maxHeartbeats 4000000 in
theorem S_X11_inner {G : z_G} {l : Launch} {h : z_H} {l0 : Option Nat} {res : (Int32 × z_H)} (e : D_X11_inner h l0 = some res) : z_Meth G l 4 M_X11_inner [z_r l0] h res.2 (some (.int res.1)) := by
  refine z_Meth.of ck_X11_inner.2.2.2.2 (by simp [lg_sl, z_ci, z_cj, z_cr, z_cx]) ck_X11_inner.1 ?_
  rw [show lv_args 0 [z_r l0] = [(0, z_r l0)] from by simp [lv_args, z_ci, z_cj, z_cr, z_cx]]
  unfold D_X11_inner at e
  refine z_iconst (v := -1) dX11_inner_0 (by decide) ?_
  refine z_istore_n (L' := [(1, .int (-1:Int32)), (0, z_r l0)]) dX11_inner_1 rfl (by decide) (by simp [z_cr]) ?_
  refine z_iconst (v := 0) dX11_inner_2 (by decide) ?_
  refine z_istore_n (L' := [(2, .int (0:Int32)), (1, .int (-1:Int32)), (0, z_r l0)]) dX11_inner_3 rfl (by decide) rfl ?_
  exact z_weak [2, 1, 0] rfl (S_X11_inner_4   z_F e)
theorem dX11_isCompared_0 : decode cX11_isCompared 0 = .ok (.aload_n 0, 1) := by decide +kernel
theorem dX11_isCompared_1 : decode cX11_isCompared 1 = .ok (.getfield 291, 3) := by decide +kernel
theorem dX11_isCompared_4 : decode cX11_isCompared 4 = .ok (.iconst 1, 1) := by decide +kernel
theorem dX11_isCompared_5 : decode cX11_isCompared 5 = .ok (.isub, 1) := by decide +kernel
theorem dX11_isCompared_6 : decode cX11_isCompared 6 = .ok (.istore_n 1, 1) := by decide +kernel
theorem dX11_isCompared_7 : decode cX11_isCompared 7 = .ok (.iload_n 1, 1) := by decide +kernel
theorem dX11_isCompared_8 : decode cX11_isCompared 8 = .ok (.ifCond .lt 28, 3) := by decide +kernel
theorem dX11_isCompared_11 : decode cX11_isCompared 11 = .ok (.aload_n 0, 1) := by decide +kernel
theorem dX11_isCompared_12 : decode cX11_isCompared 12 = .ok (.getfield 51, 3) := by decide +kernel
theorem dX11_isCompared_15 : decode cX11_isCompared 15 = .ok (.iload_n 1, 1) := by decide +kernel
theorem dX11_isCompared_16 : decode cX11_isCompared 16 = .ok (.iaload, 1) := by decide +kernel
theorem dX11_isCompared_17 : decode cX11_isCompared 17 = .ok (.i2l, 1) := by decide +kernel
theorem dX11_isCompared_18 : decode cX11_isCompared 18 = .ok (.ldc2_w 301, 3) := by decide +kernel
theorem dX11_isCompared_21 : decode cX11_isCompared 21 = .ok (.ldc2_w 65, 3) := by decide +kernel
theorem dX11_isCompared_24 : decode cX11_isCompared 24 = .ok (.invokestatic 186, 3) := by decide +kernel
theorem dX11_isCompared_27 : decode cX11_isCompared 27 = .ok (.ifCond .eq 9, 3) := by decide +kernel
theorem dX11_isCompared_30 : decode cX11_isCompared 30 = .ok (.iinc 1 (-1), 3) := by decide +kernel
theorem dX11_isCompared_33 : decode cX11_isCompared 33 = .ok (.goto (-26), 3) := by decide +kernel
theorem dX11_isCompared_36 : decode cX11_isCompared 36 = .ok (.iload_n 1, 1) := by decide +kernel
theorem dX11_isCompared_37 : decode cX11_isCompared 37 = .ok (.ifCond .lt 26, 3) := by decide +kernel
theorem dX11_isCompared_40 : decode cX11_isCompared 40 = .ok (.aload_n 0, 1) := by decide +kernel
theorem dX11_isCompared_41 : decode cX11_isCompared 41 = .ok (.getfield 51, 3) := by decide +kernel
theorem dX11_isCompared_44 : decode cX11_isCompared 44 = .ok (.iload_n 1, 1) := by decide +kernel
theorem dX11_isCompared_45 : decode cX11_isCompared 45 = .ok (.iaload, 1) := by decide +kernel
theorem dX11_isCompared_46 : decode cX11_isCompared 46 = .ok (.i2l, 1) := by decide +kernel
theorem dX11_isCompared_47 : decode cX11_isCompared 47 = .ok (.ldc2_w 67, 3) := by decide +kernel
theorem dX11_isCompared_50 : decode cX11_isCompared 50 = .ok (.ldc2_w 303, 3) := by decide +kernel
theorem dX11_isCompared_53 : decode cX11_isCompared 53 = .ok (.invokestatic 186, 3) := by decide +kernel
theorem dX11_isCompared_56 : decode cX11_isCompared 56 = .ok (.ifCond .eq 7, 3) := by decide +kernel
theorem dX11_isCompared_59 : decode cX11_isCompared 59 = .ok (.iconst 1, 1) := by decide +kernel
theorem dX11_isCompared_60 : decode cX11_isCompared 60 = .ok (.goto 4, 3) := by decide +kernel
theorem dX11_isCompared_63 : decode cX11_isCompared 63 = .ok (.iconst 0, 1) := by decide +kernel
theorem dX11_isCompared_64 : decode cX11_isCompared 64 = .ok (.ireturn, 1) := by decide +kernel
def D_X11_isCompared_36 (h : z_H) (l0 : Option Nat) (l1 : Int32) : Option (Int32 × z_H) :=
  if l1 < 0 then
    some ((0:Int32), h)
  else
    (z_gQ 11 h l0 27).bind fun x3334 =>
    (z_aI .int h x3334 l1).bind fun x3335 =>
    (D_X11_in  h (Int32.toInt64 x3335) (25:Int64) (27:Int64)).bind fun p3336 =>
    if p3336.1 = 0 then
      some ((0:Int32), p3336.2)
    else
      some ((1:Int32), p3336.2)
set_option maxRecDepth 100000 in
set_option maxHeartbeats 4000000 in
theorem S_X11_isCompared_36 {G : z_G} {l : Launch}  {h : z_H} {l0 : Option Nat} {l1 : Int32} {res : (Int32 × z_H)} (e : D_X11_isCompared_36  h l0 l1 = some res) : z_Run G l 5 M_X11_isCompared 36 [(0, z_r l0), (1, .int l1)] [] h res.2 (some (.int res.1)) := by
  unfold D_X11_isCompared_36 at e
  refine z_iload_n 1 dX11_isCompared_36 rfl ?_
  refine z_if_lt (tgt := 63) dX11_isCompared_37 (by decide) (fun c3333 => ?_) (fun c3333 => ?_)
  · rw [if_pos c3333] at e
    refine z_iconst (v := 0) dX11_isCompared_63 (by decide) ?_
    cases e
    exact z_zret dX11_isCompared_64 rfl (by decide)
  · rw [if_neg c3333] at e
    refine z_aload_n 0 dX11_isCompared_40 rfl ?_
    replace e := z_bd e; obtain ⟨x3334, ex3334, e⟩ := e
    refine z_getQ ex3334 lk_X11_51 dX11_isCompared_41 ?_
    refine z_iload_n 1 dX11_isCompared_44 rfl ?_
    replace e := z_bd e; obtain ⟨x3335, ex3335, e⟩ := e
    refine z_iald ex3335 dX11_isCompared_45 ?_
    refine z_i2l dX11_isCompared_46 ?_
    refine z_ldc2 dX11_isCompared_47 kj_X11_67 ?_
    refine z_ldc2 dX11_isCompared_50 kj_X11_303 ?_
    replace e := z_bd e; obtain ⟨p3336, ep3336, e⟩ := e
    refine z_cS [.long (Int32.toInt64 x3335), .long (25:Int64), .long (27:Int64)] (S_X11_in  ep3336) ml_X11_186 ck_X11_in st_X11_in dX11_isCompared_53 (by decide) rfl (Nat.zero_le _) rfl ?_
    refine z_if_eq (tgt := 63) dX11_isCompared_56 (by decide) (fun c3337 => ?_) (fun c3337 => ?_)
    · rw [if_pos c3337] at e
      refine z_iconst (v := 0) dX11_isCompared_63 (by decide) ?_
      cases e
      exact z_zret dX11_isCompared_64 rfl (by decide)
    · rw [if_neg c3337] at e
      refine z_iconst (v := 1) dX11_isCompared_59 (by decide) ?_
      refine z_goto (tgt := 64) dX11_isCompared_60 (by decide) ?_
      cases e
      exact z_zret dX11_isCompared_64 rfl (by decide)
def D_X11_isCompared_7b (k7 : z_H → Option Nat → Int32 → Option (Int32 × z_H)) (h : z_H) (l0 : Option Nat) (l1 : Int32) : Option (Int32 × z_H) :=
  if l1 < 0 then
    D_X11_isCompared_36   h l0 l1
  else
    (z_gQ 11 h l0 27).bind fun x3339 =>
    (z_aI .int h x3339 l1).bind fun x3340 =>
    (D_X11_in  h (Int32.toInt64 x3340) (20:Int64) (24:Int64)).bind fun p3341 =>
    if p3341.1 = 0 then
      D_X11_isCompared_36   p3341.2 l0 l1
    else
      (some (l1 + (-1:Int32))).bind fun x3343 =>
      k7 p3341.2 l0 x3343
def D_X11_isCompared_7 (n : Nat) : z_H → Option Nat → Int32 → Option (Int32 × z_H) := Nat.rec (motive := fun _ => z_H → Option Nat → Int32 → Option (Int32 × z_H)) (fun _ _ _ => none) (fun _ k => D_X11_isCompared_7b  k) n
set_option maxRecDepth 100000 in
set_option maxHeartbeats 4000000 in
theorem S_X11_isCompared_7 {G : z_G} {l : Launch}  (n : Nat) : ∀ {h : z_H} {l0 : Option Nat} {l1 : Int32} {res : (Int32 × z_H)}, D_X11_isCompared_7  n h l0 l1 = some res → z_Run G l 5 M_X11_isCompared 7 [(0, z_r l0), (1, .int l1)] [] h res.2 (some (.int res.1)) := by
  induction n with
  | zero => intro h l0 l1 res e; cases e
  | succ n hk7 =>
    intro h l0 l1 res e
    replace e : D_X11_isCompared_7b  (D_X11_isCompared_7  n) h l0 l1 = some res := e
    unfold D_X11_isCompared_7b at e
    refine z_iload_n 1 dX11_isCompared_7 rfl ?_
    refine z_if_lt (tgt := 36) dX11_isCompared_8 (by decide) (fun c3338 => ?_) (fun c3338 => ?_)
    · rw [if_pos c3338] at e
      exact z_weak [0, 1] rfl (S_X11_isCompared_36   e)
    · rw [if_neg c3338] at e
      refine z_aload_n 0 dX11_isCompared_11 rfl ?_
      replace e := z_bd e; obtain ⟨x3339, ex3339, e⟩ := e
      refine z_getQ ex3339 lk_X11_51 dX11_isCompared_12 ?_
      refine z_iload_n 1 dX11_isCompared_15 rfl ?_
      replace e := z_bd e; obtain ⟨x3340, ex3340, e⟩ := e
      refine z_iald ex3340 dX11_isCompared_16 ?_
      refine z_i2l dX11_isCompared_17 ?_
      refine z_ldc2 dX11_isCompared_18 kj_X11_301 ?_
      refine z_ldc2 dX11_isCompared_21 kj_X11_65 ?_
      replace e := z_bd e; obtain ⟨p3341, ep3341, e⟩ := e
      refine z_cS [.long (Int32.toInt64 x3340), .long (20:Int64), .long (24:Int64)] (S_X11_in  ep3341) ml_X11_186 ck_X11_in st_X11_in dX11_isCompared_24 (by decide) rfl (Nat.zero_le _) rfl ?_
      refine z_if_eq (tgt := 36) dX11_isCompared_27 (by decide) (fun c3342 => ?_) (fun c3342 => ?_)
      · rw [if_pos c3342] at e
        exact z_weak [0, 1] rfl (S_X11_isCompared_36   e)
      · rw [if_neg c3342] at e
        replace e := z_bd e; obtain ⟨x3343, ex3343, e⟩ := e
        refine z_iinc (q := 1) (v := x3343) (L' := [(1, .int x3343), (0, z_r l0)]) dX11_isCompared_30 rfl (Option.some.inj ex3343) (by decide) (by simp [z_cr]) ?_
        refine z_goto (tgt := 7) dX11_isCompared_33 (by decide) ?_
        exact z_weak [1, 0] rfl (hk7 e)
def D_X11_isCompared (h : z_H) (l0 : Option Nat) : Option (Int32 × z_H) :=
  (z_gI 11 h l0 29).bind fun x3344 =>
  (some (x3344 - (1:Int32))).bind fun x3345 =>
  D_X11_isCompared_7   z_F h l0 x3345
set_option maxRecDepth 100000 in
set_option maxHeartbeats 4000000 in
theorem S_X11_isCompared {G : z_G} {l : Launch} {h : z_H} {l0 : Option Nat} {res : (Int32 × z_H)} (e : D_X11_isCompared h l0 = some res) : z_Meth G l 5 M_X11_isCompared [z_r l0] h res.2 (some (.int res.1)) := by
  refine z_Meth.of ck_X11_isCompared.2.2.2.2 (by simp [lg_sl, z_ci, z_cj, z_cr, z_cx]) ck_X11_isCompared.1 ?_
  rw [show lv_args 0 [z_r l0] = [(0, z_r l0)] from by simp [lv_args, z_ci, z_cj, z_cr, z_cx]]
  unfold D_X11_isCompared at e
  refine z_aload_n 0 dX11_isCompared_0 rfl ?_
  replace e := z_bd e; obtain ⟨x3344, ex3344, e⟩ := e
  refine z_getI ex3344 lk_X11_291 dX11_isCompared_1 ?_
  refine z_iconst (v := 1) dX11_isCompared_4 (by decide) ?_
  refine z_isub dX11_isCompared_5 ?_
  replace e := z_bd e; obtain ⟨x3345, ex3345, e⟩ := e
  refine z_topI ex3345 ?_
  refine z_istore_n (L' := [(1, .int x3345), (0, z_r l0)]) dX11_isCompared_6 rfl (by decide) (by simp [z_cr]) ?_
  exact z_weak [1, 0] rfl (S_X11_isCompared_7   z_F e)
theorem dX11_behindSum_0 : decode cX11_behindSum 0 = .ok (.aload_n 0, 1) := by decide +kernel
theorem dX11_behindSum_1 : decode cX11_behindSum 1 = .ok (.bipush 43, 2) := by decide +kernel
theorem dX11_behindSum_3 : decode cX11_behindSum 3 = .ok (.invokevirtual 318, 3) := by decide +kernel
theorem dX11_behindSum_6 : decode cX11_behindSum 6 = .ok (.ifCond .eq 8, 3) := by decide +kernel
theorem dX11_behindSum_9 : decode cX11_behindSum 9 = .ok (.bipush 20, 2) := by decide +kernel
theorem dX11_behindSum_11 : decode cX11_behindSum 11 = .ok (.goto 60, 3) := by decide +kernel
theorem dX11_behindSum_14 : decode cX11_behindSum 14 = .ok (.aload_n 0, 1) := by decide +kernel
theorem dX11_behindSum_15 : decode cX11_behindSum 15 = .ok (.bipush 45, 2) := by decide +kernel
theorem dX11_behindSum_17 : decode cX11_behindSum 17 = .ok (.invokevirtual 318, 3) := by decide +kernel
theorem dX11_behindSum_20 : decode cX11_behindSum 20 = .ok (.ifCond .eq 8, 3) := by decide +kernel
theorem dX11_behindSum_23 : decode cX11_behindSum 23 = .ok (.bipush 21, 2) := by decide +kernel
theorem dX11_behindSum_25 : decode cX11_behindSum 25 = .ok (.goto 46, 3) := by decide +kernel
theorem dX11_behindSum_28 : decode cX11_behindSum 28 = .ok (.aload_n 0, 1) := by decide +kernel
theorem dX11_behindSum_29 : decode cX11_behindSum 29 = .ok (.bipush 42, 2) := by decide +kernel
theorem dX11_behindSum_31 : decode cX11_behindSum 31 = .ok (.invokevirtual 318, 3) := by decide +kernel
theorem dX11_behindSum_34 : decode cX11_behindSum 34 = .ok (.ifCond .eq 8, 3) := by decide +kernel
theorem dX11_behindSum_37 : decode cX11_behindSum 37 = .ok (.bipush 22, 2) := by decide +kernel
theorem dX11_behindSum_39 : decode cX11_behindSum 39 = .ok (.goto 32, 3) := by decide +kernel
theorem dX11_behindSum_42 : decode cX11_behindSum 42 = .ok (.aload_n 0, 1) := by decide +kernel
theorem dX11_behindSum_43 : decode cX11_behindSum 43 = .ok (.bipush 47, 2) := by decide +kernel
theorem dX11_behindSum_45 : decode cX11_behindSum 45 = .ok (.invokevirtual 318, 3) := by decide +kernel
theorem dX11_behindSum_48 : decode cX11_behindSum 48 = .ok (.ifCond .eq 8, 3) := by decide +kernel
theorem dX11_behindSum_51 : decode cX11_behindSum 51 = .ok (.bipush 23, 2) := by decide +kernel
theorem dX11_behindSum_53 : decode cX11_behindSum 53 = .ok (.goto 18, 3) := by decide +kernel
theorem dX11_behindSum_56 : decode cX11_behindSum 56 = .ok (.aload_n 0, 1) := by decide +kernel
theorem dX11_behindSum_57 : decode cX11_behindSum 57 = .ok (.bipush 37, 2) := by decide +kernel
theorem dX11_behindSum_59 : decode cX11_behindSum 59 = .ok (.invokevirtual 318, 3) := by decide +kernel
theorem dX11_behindSum_62 : decode cX11_behindSum 62 = .ok (.ifCond .eq 8, 3) := by decide +kernel
theorem dX11_behindSum_65 : decode cX11_behindSum 65 = .ok (.bipush 24, 2) := by decide +kernel
theorem dX11_behindSum_67 : decode cX11_behindSum 67 = .ok (.goto 4, 3) := by decide +kernel
theorem dX11_behindSum_70 : decode cX11_behindSum 70 = .ok (.iconst (-1), 1) := by decide +kernel
theorem dX11_behindSum_71 : decode cX11_behindSum 71 = .ok (.istore_n 2, 1) := by decide +kernel
theorem dX11_behindSum_72 : decode cX11_behindSum 72 = .ok (.iload_n 2, 1) := by decide +kernel
theorem dX11_behindSum_73 : decode cX11_behindSum 73 = .ok (.iconst (-1), 1) := by decide +kernel
theorem dX11_behindSum_74 : decode cX11_behindSum 74 = .ok (.if_icmp .eq 23, 3) := by decide +kernel
theorem dX11_behindSum_77 : decode cX11_behindSum 77 = .ok (.aload_n 0, 1) := by decide +kernel
theorem dX11_behindSum_78 : decode cX11_behindSum 78 = .ok (.iload_n 2, 1) := by decide +kernel
theorem dX11_behindSum_79 : decode cX11_behindSum 79 = .ok (.invokestatic 294, 3) := by decide +kernel
theorem dX11_behindSum_82 : decode cX11_behindSum 82 = .ok (.invokevirtual 351, 3) := by decide +kernel
theorem dX11_behindSum_85 : decode cX11_behindSum 85 = .ok (.aload_n 0, 1) := by decide +kernel
theorem dX11_behindSum_86 : decode cX11_behindSum 86 = .ok (.iload_n 2, 1) := by decide +kernel
theorem dX11_behindSum_87 : decode cX11_behindSum 87 = .ok (.iconst 0, 1) := by decide +kernel
theorem dX11_behindSum_88 : decode cX11_behindSum 88 = .ok (.invokevirtual 312, 3) := by decide +kernel
theorem dX11_behindSum_91 : decode cX11_behindSum 91 = .ok (.aload_n 0, 1) := by decide +kernel
theorem dX11_behindSum_92 : decode cX11_behindSum 92 = .ok (.invokevirtual 255, 3) := by decide +kernel
theorem dX11_behindSum_95 : decode cX11_behindSum 95 = .ok (.iconst 1, 1) := by decide +kernel
theorem dX11_behindSum_96 : decode cX11_behindSum 96 = .ok (.ireturn, 1) := by decide +kernel
theorem dX11_behindSum_97 : decode cX11_behindSum 97 = .ok (.aload_n 0, 1) := by decide +kernel
theorem dX11_behindSum_98 : decode cX11_behindSum 98 = .ok (.invokevirtual 354, 3) := by decide +kernel
theorem dX11_behindSum_101 : decode cX11_behindSum 101 = .ok (.istore_n 3, 1) := by decide +kernel
theorem dX11_behindSum_102 : decode cX11_behindSum 102 = .ok (.iload_n 3, 1) := by decide +kernel
theorem dX11_behindSum_103 : decode cX11_behindSum 103 = .ok (.bipush 32, 2) := by decide +kernel
theorem dX11_behindSum_105 : decode cX11_behindSum 105 = .ok (.if_icmp .ne 47, 3) := by decide +kernel
theorem dX11_behindSum_108 : decode cX11_behindSum 108 = .ok (.aload_n 0, 1) := by decide +kernel
theorem dX11_behindSum_109 : decode cX11_behindSum 109 = .ok (.aload_n 0, 1) := by decide +kernel
theorem dX11_behindSum_110 : decode cX11_behindSum 110 = .ok (.bipush 93, 2) := by decide +kernel
theorem dX11_behindSum_112 : decode cX11_behindSum 112 = .ok (.invokevirtual 318, 3) := by decide +kernel
theorem dX11_behindSum_115 : decode cX11_behindSum 115 = .ok (.invokevirtual 284, 3) := by decide +kernel
theorem dX11_behindSum_118 : decode cX11_behindSum 118 = .ok (.aload_n 0, 1) := by decide +kernel
theorem dX11_behindSum_119 : decode cX11_behindSum 119 = .ok (.getfield 251, 3) := by decide +kernel
theorem dX11_behindSum_122 : decode cX11_behindSum 122 = .ok (.ifCond .ne 28, 3) := by decide +kernel
theorem dX11_behindSum_125 : decode cX11_behindSum 125 = .ok (.aload_n 0, 1) := by decide +kernel
theorem dX11_behindSum_126 : decode cX11_behindSum 126 = .ok (.iconst 5, 1) := by decide +kernel
theorem dX11_behindSum_127 : decode cX11_behindSum 127 = .ok (.invokevirtual 351, 3) := by decide +kernel
theorem dX11_behindSum_130 : decode cX11_behindSum 130 = .ok (.aload_n 0, 1) := by decide +kernel
theorem dX11_behindSum_131 : decode cX11_behindSum 131 = .ok (.dup, 1) := by decide +kernel
theorem dX11_behindSum_132 : decode cX11_behindSum 132 = .ok (.getfield 291, 3) := by decide +kernel
theorem dX11_behindSum_135 : decode cX11_behindSum 135 = .ok (.iconst 1, 1) := by decide +kernel
theorem dX11_behindSum_136 : decode cX11_behindSum 136 = .ok (.isub, 1) := by decide +kernel
theorem dX11_behindSum_137 : decode cX11_behindSum 137 = .ok (.putfield 291, 3) := by decide +kernel
theorem dX11_behindSum_140 : decode cX11_behindSum 140 = .ok (.aload_n 0, 1) := by decide +kernel
theorem dX11_behindSum_141 : decode cX11_behindSum 141 = .ok (.dup, 1) := by decide +kernel
theorem dX11_behindSum_142 : decode cX11_behindSum 142 = .ok (.getfield 309, 3) := by decide +kernel
theorem dX11_behindSum_145 : decode cX11_behindSum 145 = .ok (.iconst 1, 1) := by decide +kernel
theorem dX11_behindSum_146 : decode cX11_behindSum 146 = .ok (.isub, 1) := by decide +kernel
theorem dX11_behindSum_147 : decode cX11_behindSum 147 = .ok (.putfield 309, 3) := by decide +kernel
theorem dX11_behindSum_150 : decode cX11_behindSum 150 = .ok (.iconst 3, 1) := by decide +kernel
theorem dX11_behindSum_151 : decode cX11_behindSum 151 = .ok (.ireturn, 1) := by decide +kernel
theorem dX11_behindSum_152 : decode cX11_behindSum 152 = .ok (.iload_n 3, 1) := by decide +kernel
theorem dX11_behindSum_153 : decode cX11_behindSum 153 = .ok (.iconst (-1), 1) := by decide +kernel
theorem dX11_behindSum_154 : decode cX11_behindSum 154 = .ok (.if_icmp .ne 9, 3) := by decide +kernel
theorem dX11_behindSum_157 : decode cX11_behindSum 157 = .ok (.iload_n 1, 1) := by decide +kernel
theorem dX11_behindSum_158 : decode cX11_behindSum 158 = .ok (.ifCond .ne 5, 3) := by decide +kernel
theorem dX11_behindSum_161 : decode cX11_behindSum 161 = .ok (.iconst 4, 1) := by decide +kernel
theorem dX11_behindSum_162 : decode cX11_behindSum 162 = .ok (.ireturn, 1) := by decide +kernel
theorem dX11_behindSum_163 : decode cX11_behindSum 163 = .ok (.aload_n 0, 1) := by decide +kernel
theorem dX11_behindSum_164 : decode cX11_behindSum 164 = .ok (.invokevirtual 357, 3) := by decide +kernel
theorem dX11_behindSum_167 : decode cX11_behindSum 167 = .ok (.ifCond .eq 5, 3) := by decide +kernel
theorem dX11_behindSum_170 : decode cX11_behindSum 170 = .ok (.iconst 2, 1) := by decide +kernel
theorem dX11_behindSum_171 : decode cX11_behindSum 171 = .ok (.ireturn, 1) := by decide +kernel
theorem dX11_behindSum_172 : decode cX11_behindSum 172 = .ok (.aload_n 0, 1) := by decide +kernel
theorem dX11_behindSum_173 : decode cX11_behindSum 173 = .ok (.bipush 60, 2) := by decide +kernel
theorem dX11_behindSum_175 : decode cX11_behindSum 175 = .ok (.invokevirtual 318, 3) := by decide +kernel
theorem dX11_behindSum_178 : decode cX11_behindSum 178 = .ok (.ifCond .eq 8, 3) := by decide +kernel
theorem dX11_behindSum_181 : decode cX11_behindSum 181 = .ok (.bipush 25, 2) := by decide +kernel
theorem dX11_behindSum_183 : decode cX11_behindSum 183 = .ok (.goto 19, 3) := by decide +kernel
theorem dX11_behindSum_186 : decode cX11_behindSum 186 = .ok (.aload_n 0, 1) := by decide +kernel
theorem dX11_behindSum_187 : decode cX11_behindSum 187 = .ok (.bipush 62, 2) := by decide +kernel
theorem dX11_behindSum_189 : decode cX11_behindSum 189 = .ok (.invokevirtual 318, 3) := by decide +kernel
theorem dX11_behindSum_192 : decode cX11_behindSum 192 = .ok (.ifCond .eq 8, 3) := by decide +kernel
theorem dX11_behindSum_195 : decode cX11_behindSum 195 = .ok (.bipush 26, 2) := by decide +kernel
theorem dX11_behindSum_197 : decode cX11_behindSum 197 = .ok (.goto 5, 3) := by decide +kernel
theorem dX11_behindSum_200 : decode cX11_behindSum 200 = .ok (.bipush 27, 2) := by decide +kernel
theorem dX11_behindSum_202 : decode cX11_behindSum 202 = .ok (.istore_n 2, 1) := by decide +kernel
theorem dX11_behindSum_203 : decode cX11_behindSum 203 = .ok (.aload_n 0, 1) := by decide +kernel
theorem dX11_behindSum_204 : decode cX11_behindSum 204 = .ok (.iload_n 2, 1) := by decide +kernel
theorem dX11_behindSum_205 : decode cX11_behindSum 205 = .ok (.bipush 27, 2) := by decide +kernel
theorem dX11_behindSum_207 : decode cX11_behindSum 207 = .ok (.if_icmp .ne 12, 3) := by decide +kernel
theorem dX11_behindSum_210 : decode cX11_behindSum 210 = .ok (.aload_n 0, 1) := by decide +kernel
theorem dX11_behindSum_211 : decode cX11_behindSum 211 = .ok (.bipush 61, 2) := by decide +kernel
theorem dX11_behindSum_213 : decode cX11_behindSum 213 = .ok (.invokevirtual 318, 3) := by decide +kernel
theorem dX11_behindSum_216 : decode cX11_behindSum 216 = .ok (.ifCond .eq 7, 3) := by decide +kernel
theorem dX11_behindSum_219 : decode cX11_behindSum 219 = .ok (.iconst 1, 1) := by decide +kernel
theorem dX11_behindSum_220 : decode cX11_behindSum 220 = .ok (.goto 4, 3) := by decide +kernel
theorem dX11_behindSum_223 : decode cX11_behindSum 223 = .ok (.iconst 0, 1) := by decide +kernel
theorem dX11_behindSum_224 : decode cX11_behindSum 224 = .ok (.invokevirtual 284, 3) := by decide +kernel
theorem dX11_behindSum_227 : decode cX11_behindSum 227 = .ok (.aload_n 0, 1) := by decide +kernel
theorem dX11_behindSum_228 : decode cX11_behindSum 228 = .ok (.getfield 251, 3) := by decide +kernel
theorem dX11_behindSum_231 : decode cX11_behindSum 231 = .ok (.ifCond .ne 14, 3) := by decide +kernel
theorem dX11_behindSum_234 : decode cX11_behindSum 234 = .ok (.aload_n 0, 1) := by decide +kernel
theorem dX11_behindSum_235 : decode cX11_behindSum 235 = .ok (.iconst 5, 1) := by decide +kernel
theorem dX11_behindSum_236 : decode cX11_behindSum 236 = .ok (.invokevirtual 351, 3) := by decide +kernel
theorem dX11_behindSum_239 : decode cX11_behindSum 239 = .ok (.aload_n 0, 1) := by decide +kernel
theorem dX11_behindSum_240 : decode cX11_behindSum 240 = .ok (.iload_n 2, 1) := by decide +kernel
theorem dX11_behindSum_241 : decode cX11_behindSum 241 = .ok (.iconst 0, 1) := by decide +kernel
theorem dX11_behindSum_242 : decode cX11_behindSum 242 = .ok (.invokevirtual 312, 3) := by decide +kernel
theorem dX11_behindSum_245 : decode cX11_behindSum 245 = .ok (.iconst 1, 1) := by decide +kernel
theorem dX11_behindSum_246 : decode cX11_behindSum 246 = .ok (.ireturn, 1) := by decide +kernel
def D_X11_behindSum_224 (h : z_H) (l0 : Option Nat) (l2 : Int32) (s0 : Option Nat) (s1 : Int32) : Option (Int32 × z_H) :=
  (z_ob 11 h s0).bind fun _ =>
  (D_X11_must  h s0 s1).bind fun p3346 =>
  (z_gI 11 p3346 l0 19).bind fun x3348 =>
  if x3348 = 0 then
    (z_ob 11 p3346 l0).bind fun _ =>
    (D_X11_settle  p3346 l0 (5:Int32)).bind fun p3350 =>
    (z_ob 11 p3350 l0).bind fun _ =>
    (D_X11_push  p3350 l0 l2 (0:Int32)).bind fun p3352 =>
    some ((1:Int32), p3352)
  else
    some ((1:Int32), p3346)
set_option maxRecDepth 100000 in
set_option maxHeartbeats 4000000 in
theorem S_X11_behindSum_224 {G : z_G} {l : Launch}  {h : z_H} {l0 : Option Nat} {l2 : Int32} {s0 : Option Nat} {s1 : Int32} {res : (Int32 × z_H)} (e : D_X11_behindSum_224  h l0 l2 s0 s1 = some res) : z_Run G l 7 M_X11_behindSum 224 [(0, z_r l0), (2, .int l2)] [.int s1, z_r s0] h res.2 (some (.int res.1)) := by
  unfold D_X11_behindSum_224 at e
  replace e := z_bd e; obtain ⟨o3347, eo3347, e⟩ := e
  replace e := z_bd e; obtain ⟨p3346, ep3346, e⟩ := e
  refine z_cV [.int s1] (S_X11_must  ep3346) eo3347 rfl ml_X11_284 ck_X11_must vk_X11_must dX11_behindSum_224 (by decide) rfl (Nat.zero_le _) rfl ?_
  refine z_aload_n 0 dX11_behindSum_227 rfl ?_
  replace e := z_bd e; obtain ⟨x3348, ex3348, e⟩ := e
  refine z_getI ex3348 lk_X11_251 dX11_behindSum_228 ?_
  refine z_if_ne (tgt := 245) dX11_behindSum_231 (by decide) (fun c3349 => ?_) (fun c3349 => ?_)
  · rw [if_neg c3349] at e
    refine z_iconst (v := 1) dX11_behindSum_245 (by decide) ?_
    cases e
    exact z_iret dX11_behindSum_246 rfl
  · rw [if_pos c3349] at e
    refine z_aload_n 0 dX11_behindSum_234 rfl ?_
    refine z_iconst (v := 5) dX11_behindSum_235 (by decide) ?_
    replace e := z_bd e; obtain ⟨o3351, eo3351, e⟩ := e
    replace e := z_bd e; obtain ⟨p3350, ep3350, e⟩ := e
    refine z_cV [.int (5:Int32)] (S_X11_settle  ep3350) eo3351 rfl ml_X11_351 ck_X11_settle vk_X11_settle dX11_behindSum_236 (by decide) rfl (Nat.zero_le _) rfl ?_
    refine z_aload_n 0 dX11_behindSum_239 rfl ?_
    refine z_iload_n 1 dX11_behindSum_240 rfl ?_
    refine z_iconst (v := 0) dX11_behindSum_241 (by decide) ?_
    replace e := z_bd e; obtain ⟨o3353, eo3353, e⟩ := e
    replace e := z_bd e; obtain ⟨p3352, ep3352, e⟩ := e
    refine z_cV [.int l2, .int (0:Int32)] (S_X11_push  ep3352) eo3353 rfl ml_X11_312 ck_X11_push vk_X11_push dX11_behindSum_242 (by decide) rfl (Nat.zero_le _) rfl ?_
    refine z_iconst (v := 1) dX11_behindSum_245 (by decide) ?_
    cases e
    exact z_iret dX11_behindSum_246 rfl
def D_X11_behindSum_219 (h : z_H) (l0 : Option Nat) (l2 : Int32) (s0 : Option Nat) : Option (Int32 × z_H) :=
  D_X11_behindSum_224   h l0 l2 s0 (1:Int32)
set_option maxRecDepth 100000 in
set_option maxHeartbeats 4000000 in
theorem S_X11_behindSum_219 {G : z_G} {l : Launch}  {h : z_H} {l0 : Option Nat} {l2 : Int32} {s0 : Option Nat} {res : (Int32 × z_H)} (e : D_X11_behindSum_219  h l0 l2 s0 = some res) : z_Run G l 7 M_X11_behindSum 219 [(0, z_r l0), (2, .int l2)] [z_r s0] h res.2 (some (.int res.1)) := by
  unfold D_X11_behindSum_219 at e
  refine z_iconst (v := 1) dX11_behindSum_219 (by decide) ?_
  refine z_goto (tgt := 224) dX11_behindSum_220 (by decide) ?_
  exact z_weak [0, 1] rfl (S_X11_behindSum_224   e)
def D_X11_behindSum_202 (h : z_H) (l0 : Option Nat) (s0 : Int32) : Option (Int32 × z_H) :=
  if s0 = (27:Int32) then
    (z_ob 11 h l0).bind fun _ =>
    (D_X11_isSign  h l0 (61:Int32)).bind fun p3355 =>
    if p3355.1 = 0 then
      D_X11_behindSum_224   p3355.2 l0 s0 l0 (0:Int32)
    else
      D_X11_behindSum_219   p3355.2 l0 s0 l0
  else
    D_X11_behindSum_219   h l0 s0 l0
set_option maxRecDepth 100000 in
set_option maxHeartbeats 4000000 in
theorem S_X11_behindSum_202 {G : z_G} {l : Launch}  {h : z_H} {l0 : Option Nat} {s0 : Int32} {res : (Int32 × z_H)} (e : D_X11_behindSum_202  h l0 s0 = some res) : z_Run G l 7 M_X11_behindSum 202 [(0, z_r l0)] [.int s0] h res.2 (some (.int res.1)) := by
  unfold D_X11_behindSum_202 at e
  refine z_istore_n (L' := [(2, .int s0), (0, z_r l0)]) dX11_behindSum_202 rfl (by decide) rfl ?_
  refine z_aload_n 1 dX11_behindSum_203 rfl ?_
  refine z_iload_n 0 dX11_behindSum_204 rfl ?_
  refine z_bipush (v := 27) dX11_behindSum_205 (by decide) ?_
  refine z_icmp_ne (tgt := 219) dX11_behindSum_207 (by decide) (fun c3354 => ?_) (fun c3354 => ?_)
  · rw [if_neg c3354] at e
    exact z_weak [1, 0] rfl (S_X11_behindSum_219   e)
  · rw [if_pos c3354] at e
    refine z_aload_n 1 dX11_behindSum_210 rfl ?_
    refine z_bipush (v := 61) dX11_behindSum_211 (by decide) ?_
    replace e := z_bd e; obtain ⟨o3356, eo3356, e⟩ := e
    replace e := z_bd e; obtain ⟨p3355, ep3355, e⟩ := e
    refine z_cV [.int (61:Int32)] (S_X11_isSign  ep3355) eo3356 rfl ml_X11_318 ck_X11_isSign vk_X11_isSign dX11_behindSum_213 (by decide) rfl (by simp [z_ci, z_cj, z_cr, z_cx]) rfl ?_
    refine z_if_eq (tgt := 223) dX11_behindSum_216 (by decide) (fun c3357 => ?_) (fun c3357 => ?_)
    · rw [if_pos c3357] at e
      refine z_iconst (v := 0) dX11_behindSum_223 (by decide) ?_
      exact z_weak [1, 0] rfl (S_X11_behindSum_224   e)
    · rw [if_neg c3357] at e
      exact z_weak [1, 0] rfl (S_X11_behindSum_219   e)
def D_X11_behindSum_163 (h : z_H) (l0 : Option Nat) : Option (Int32 × z_H) :=
  (z_ob 11 h l0).bind fun _ =>
  (D_X11_isCompared  h l0).bind fun p3358 =>
  if p3358.1 = 0 then
    (z_ob 11 p3358.2 l0).bind fun _ =>
    (D_X11_isSign  p3358.2 l0 (60:Int32)).bind fun p3361 =>
    if p3361.1 = 0 then
      (z_ob 11 p3361.2 l0).bind fun _ =>
      (D_X11_isSign  p3361.2 l0 (62:Int32)).bind fun p3364 =>
      if p3364.1 = 0 then
        D_X11_behindSum_202   p3364.2 l0 (27:Int32)
      else
        D_X11_behindSum_202   p3364.2 l0 (26:Int32)
    else
      D_X11_behindSum_202   p3361.2 l0 (25:Int32)
  else
    some ((2:Int32), p3358.2)
set_option maxRecDepth 100000 in
set_option maxHeartbeats 4000000 in
theorem S_X11_behindSum_163 {G : z_G} {l : Launch}  {h : z_H} {l0 : Option Nat} {res : (Int32 × z_H)} (e : D_X11_behindSum_163  h l0 = some res) : z_Run G l 7 M_X11_behindSum 163 [(0, z_r l0)] [] h res.2 (some (.int res.1)) := by
  unfold D_X11_behindSum_163 at e
  refine z_aload_n 0 dX11_behindSum_163 rfl ?_
  replace e := z_bd e; obtain ⟨o3359, eo3359, e⟩ := e
  replace e := z_bd e; obtain ⟨p3358, ep3358, e⟩ := e
  refine z_cV [] (S_X11_isCompared  ep3358) eo3359 rfl ml_X11_357 ck_X11_isCompared vk_X11_isCompared dX11_behindSum_164 (by decide) rfl (Nat.zero_le _) rfl ?_
  refine z_if_eq (tgt := 172) dX11_behindSum_167 (by decide) (fun c3360 => ?_) (fun c3360 => ?_)
  · rw [if_pos c3360] at e
    refine z_aload_n 0 dX11_behindSum_172 rfl ?_
    refine z_bipush (v := 60) dX11_behindSum_173 (by decide) ?_
    replace e := z_bd e; obtain ⟨o3362, eo3362, e⟩ := e
    replace e := z_bd e; obtain ⟨p3361, ep3361, e⟩ := e
    refine z_cV [.int (60:Int32)] (S_X11_isSign  ep3361) eo3362 rfl ml_X11_318 ck_X11_isSign vk_X11_isSign dX11_behindSum_175 (by decide) rfl (Nat.zero_le _) rfl ?_
    refine z_if_eq (tgt := 186) dX11_behindSum_178 (by decide) (fun c3363 => ?_) (fun c3363 => ?_)
    · rw [if_pos c3363] at e
      refine z_aload_n 0 dX11_behindSum_186 rfl ?_
      refine z_bipush (v := 62) dX11_behindSum_187 (by decide) ?_
      replace e := z_bd e; obtain ⟨o3365, eo3365, e⟩ := e
      replace e := z_bd e; obtain ⟨p3364, ep3364, e⟩ := e
      refine z_cV [.int (62:Int32)] (S_X11_isSign  ep3364) eo3365 rfl ml_X11_318 ck_X11_isSign vk_X11_isSign dX11_behindSum_189 (by decide) rfl (Nat.zero_le _) rfl ?_
      refine z_if_eq (tgt := 200) dX11_behindSum_192 (by decide) (fun c3366 => ?_) (fun c3366 => ?_)
      · rw [if_pos c3366] at e
        refine z_bipush (v := 27) dX11_behindSum_200 (by decide) ?_
        exact z_weak [0] rfl (S_X11_behindSum_202   e)
      · rw [if_neg c3366] at e
        refine z_bipush (v := 26) dX11_behindSum_195 (by decide) ?_
        refine z_goto (tgt := 202) dX11_behindSum_197 (by decide) ?_
        exact z_weak [0] rfl (S_X11_behindSum_202   e)
    · rw [if_neg c3363] at e
      refine z_bipush (v := 25) dX11_behindSum_181 (by decide) ?_
      refine z_goto (tgt := 202) dX11_behindSum_183 (by decide) ?_
      exact z_weak [0] rfl (S_X11_behindSum_202   e)
  · rw [if_neg c3360] at e
    refine z_iconst (v := 2) dX11_behindSum_170 (by decide) ?_
    cases e
    exact z_iret dX11_behindSum_171 rfl
def D_X11_behindSum_71 (h : z_H) (l0 : Option Nat) (l1 : Int32) (s0 : Int32) : Option (Int32 × z_H) :=
  if s0 = (-1:Int32) then
    (z_ob 11 h l0).bind fun _ =>
    (D_X11_inner  h l0).bind fun p3368 =>
    if p3368.1 = (32:Int32) then
      (z_ob 11 p3368.2 l0).bind fun _ =>
      (D_X11_isSign  p3368.2 l0 (93:Int32)).bind fun p3373 =>
      (z_ob 11 p3373.2 l0).bind fun _ =>
      (D_X11_must  p3373.2 l0 p3373.1).bind fun p3375 =>
      (z_gI 11 p3375 l0 19).bind fun x3377 =>
      if x3377 = 0 then
        (z_ob 11 p3375 l0).bind fun _ =>
        (D_X11_settle  p3375 l0 (5:Int32)).bind fun p3379 =>
        (z_gI 11 p3379 l0 29).bind fun x3381 =>
        (z_pV 11 p3379 l0 29 (.int (x3381 - (1:Int32)))).bind fun h3382 =>
        (z_gI 11 h3382 l0 30).bind fun x3383 =>
        (z_pV 11 h3382 l0 30 (.int (x3383 - (1:Int32)))).bind fun h3384 =>
        some ((3:Int32), h3384)
      else
        some ((3:Int32), p3375)
    else
      if p3368.1 = (-1:Int32) then
        if l1 = 0 then
          some ((4:Int32), p3368.2)
        else
          D_X11_behindSum_163   p3368.2 l0
      else
        D_X11_behindSum_163   p3368.2 l0
  else
    (D_X11_binds  h s0).bind fun p3385 =>
    (z_ob 11 p3385.2 l0).bind fun _ =>
    (D_X11_settle  p3385.2 l0 p3385.1).bind fun p3386 =>
    (z_ob 11 p3386 l0).bind fun _ =>
    (D_X11_push  p3386 l0 s0 (0:Int32)).bind fun p3388 =>
    (z_ob 11 p3388 l0).bind fun _ =>
    (D_X11_next  p3388 l0).bind fun p3390 =>
    some ((1:Int32), p3390)
set_option maxRecDepth 100000 in
set_option maxHeartbeats 4000000 in
theorem S_X11_behindSum_71 {G : z_G} {l : Launch}  {h : z_H} {l0 : Option Nat} {l1 : Int32} {s0 : Int32} {res : (Int32 × z_H)} (e : D_X11_behindSum_71  h l0 l1 s0 = some res) : z_Run G l 7 M_X11_behindSum 71 [(0, z_r l0), (1, .int l1)] [.int s0] h res.2 (some (.int res.1)) := by
  unfold D_X11_behindSum_71 at e
  refine z_istore_n (L' := [(2, .int s0), (0, z_r l0), (1, .int l1)]) dX11_behindSum_71 rfl (by decide) rfl ?_
  refine z_iload_n 0 dX11_behindSum_72 rfl ?_
  refine z_iconst (v := -1) dX11_behindSum_73 (by decide) ?_
  refine z_icmp_eq (tgt := 97) dX11_behindSum_74 (by decide) (fun c3367 => ?_) (fun c3367 => ?_)
  · rw [if_pos c3367] at e
    refine z_aload_n 1 dX11_behindSum_97 rfl ?_
    replace e := z_bd e; obtain ⟨o3369, eo3369, e⟩ := e
    replace e := z_bd e; obtain ⟨p3368, ep3368, e⟩ := e
    refine z_cV [] (S_X11_inner  ep3368) eo3369 rfl ml_X11_354 ck_X11_inner vk_X11_inner dX11_behindSum_98 (by decide) rfl (Nat.zero_le _) rfl ?_
    refine z_istore_n (L' := [(3, .int p3368.1), (2, .int s0), (0, z_r l0), (1, .int l1)]) dX11_behindSum_101 rfl (by decide) rfl ?_
    refine z_iload_n 0 dX11_behindSum_102 rfl ?_
    refine z_bipush (v := 32) dX11_behindSum_103 (by decide) ?_
    refine z_icmp_ne (tgt := 152) dX11_behindSum_105 (by decide) (fun c3370 => ?_) (fun c3370 => ?_)
    · rw [if_neg c3370] at e
      refine z_iload_n 0 dX11_behindSum_152 rfl ?_
      refine z_iconst (v := -1) dX11_behindSum_153 (by decide) ?_
      refine z_icmp_ne (tgt := 163) dX11_behindSum_154 (by decide) (fun c3371 => ?_) (fun c3371 => ?_)
      · rw [if_neg c3371] at e
        exact z_weak [2] rfl (S_X11_behindSum_163   e)
      · rw [if_pos c3371] at e
        refine z_iload_n 3 dX11_behindSum_157 rfl ?_
        refine z_if_ne (tgt := 163) dX11_behindSum_158 (by decide) (fun c3372 => ?_) (fun c3372 => ?_)
        · rw [if_neg c3372] at e
          exact z_weak [2] rfl (S_X11_behindSum_163   e)
        · rw [if_pos c3372] at e
          refine z_iconst (v := 4) dX11_behindSum_161 (by decide) ?_
          cases e
          exact z_iret dX11_behindSum_162 rfl
    · rw [if_pos c3370] at e
      refine z_aload_n 2 dX11_behindSum_108 rfl ?_
      refine z_aload_n 2 dX11_behindSum_109 rfl ?_
      refine z_bipush (v := 93) dX11_behindSum_110 (by decide) ?_
      replace e := z_bd e; obtain ⟨o3374, eo3374, e⟩ := e
      replace e := z_bd e; obtain ⟨p3373, ep3373, e⟩ := e
      refine z_cV [.int (93:Int32)] (S_X11_isSign  ep3373) eo3374 rfl ml_X11_318 ck_X11_isSign vk_X11_isSign dX11_behindSum_112 (by decide) rfl (by simp [z_ci, z_cj, z_cr, z_cx]) rfl ?_
      replace e := z_bd e; obtain ⟨o3376, eo3376, e⟩ := e
      replace e := z_bd e; obtain ⟨p3375, ep3375, e⟩ := e
      refine z_cV [.int p3373.1] (S_X11_must  ep3375) eo3376 rfl ml_X11_284 ck_X11_must vk_X11_must dX11_behindSum_115 (by decide) rfl (Nat.zero_le _) rfl ?_
      refine z_aload_n 2 dX11_behindSum_118 rfl ?_
      replace e := z_bd e; obtain ⟨x3377, ex3377, e⟩ := e
      refine z_getI ex3377 lk_X11_251 dX11_behindSum_119 ?_
      refine z_if_ne (tgt := 150) dX11_behindSum_122 (by decide) (fun c3378 => ?_) (fun c3378 => ?_)
      · rw [if_neg c3378] at e
        refine z_iconst (v := 3) dX11_behindSum_150 (by decide) ?_
        cases e
        exact z_iret dX11_behindSum_151 rfl
      · rw [if_pos c3378] at e
        refine z_aload_n 2 dX11_behindSum_125 rfl ?_
        refine z_iconst (v := 5) dX11_behindSum_126 (by decide) ?_
        replace e := z_bd e; obtain ⟨o3380, eo3380, e⟩ := e
        replace e := z_bd e; obtain ⟨p3379, ep3379, e⟩ := e
        refine z_cV [.int (5:Int32)] (S_X11_settle  ep3379) eo3380 rfl ml_X11_351 ck_X11_settle vk_X11_settle dX11_behindSum_127 (by decide) rfl (Nat.zero_le _) rfl ?_
        refine z_aload_n 2 dX11_behindSum_130 rfl ?_
        refine z_dup dX11_behindSum_131 (z_cr _) ?_
        replace e := z_bd e; obtain ⟨x3381, ex3381, e⟩ := e
        refine z_getI ex3381 lk_X11_291 dX11_behindSum_132 ?_
        refine z_iconst (v := 1) dX11_behindSum_135 (by decide) ?_
        refine z_isub dX11_behindSum_136 ?_
        replace e := z_bd e; obtain ⟨h3382, eh3382, e⟩ := e
        refine z_putV eh3382 lk_X11_291 wk_11_29 (fun _ => rfl) (fun _ => rfl) dX11_behindSum_137 ?_
        refine z_aload_n 2 dX11_behindSum_140 rfl ?_
        refine z_dup dX11_behindSum_141 (z_cr _) ?_
        replace e := z_bd e; obtain ⟨x3383, ex3383, e⟩ := e
        refine z_getI ex3383 lk_X11_309 dX11_behindSum_142 ?_
        refine z_iconst (v := 1) dX11_behindSum_145 (by decide) ?_
        refine z_isub dX11_behindSum_146 ?_
        replace e := z_bd e; obtain ⟨h3384, eh3384, e⟩ := e
        refine z_putV eh3384 lk_X11_309 wk_11_30 (fun _ => rfl) (fun _ => rfl) dX11_behindSum_147 ?_
        refine z_iconst (v := 3) dX11_behindSum_150 (by decide) ?_
        cases e
        exact z_iret dX11_behindSum_151 rfl
  · rw [if_neg c3367] at e
    refine z_aload_n 1 dX11_behindSum_77 rfl ?_
    refine z_iload_n 0 dX11_behindSum_78 rfl ?_
    replace e := z_bd e; obtain ⟨p3385, ep3385, e⟩ := e
    refine z_cS [.int s0] (S_X11_binds  ep3385) ml_X11_294 ck_X11_binds st_X11_binds dX11_behindSum_79 (by decide) rfl (by simp [z_ci, z_cj, z_cr, z_cx]) rfl ?_
    replace e := z_bd e; obtain ⟨o3387, eo3387, e⟩ := e
    replace e := z_bd e; obtain ⟨p3386, ep3386, e⟩ := e
    refine z_cV [.int p3385.1] (S_X11_settle  ep3386) eo3387 rfl ml_X11_351 ck_X11_settle vk_X11_settle dX11_behindSum_82 (by decide) rfl (Nat.zero_le _) rfl ?_
    refine z_aload_n 1 dX11_behindSum_85 rfl ?_
    refine z_iload_n 0 dX11_behindSum_86 rfl ?_
    refine z_iconst (v := 0) dX11_behindSum_87 (by decide) ?_
    replace e := z_bd e; obtain ⟨o3389, eo3389, e⟩ := e
    replace e := z_bd e; obtain ⟨p3388, ep3388, e⟩ := e
    refine z_cV [.int s0, .int (0:Int32)] (S_X11_push  ep3388) eo3389 rfl ml_X11_312 ck_X11_push vk_X11_push dX11_behindSum_88 (by decide) rfl (Nat.zero_le _) rfl ?_
    refine z_aload_n 1 dX11_behindSum_91 rfl ?_
    replace e := z_bd e; obtain ⟨o3391, eo3391, e⟩ := e
    replace e := z_bd e; obtain ⟨p3390, ep3390, e⟩ := e
    refine z_cV [] (S_X11_next  ep3390) eo3391 rfl ml_X11_255 ck_X11_next vk_X11_next dX11_behindSum_92 (by decide) rfl (Nat.zero_le _) rfl ?_
    refine z_iconst (v := 1) dX11_behindSum_95 (by decide) ?_
    cases e
    exact z_iret dX11_behindSum_96 rfl
def D_X11_behindSum (h : z_H) (l0 : Option Nat) (l1 : Int32) : Option (Int32 × z_H) :=
  (z_ob 11 h l0).bind fun _ =>
  (D_X11_isSign  h l0 (43:Int32)).bind fun p3392 =>
  if p3392.1 = 0 then
    (z_ob 11 p3392.2 l0).bind fun _ =>
    (D_X11_isSign  p3392.2 l0 (45:Int32)).bind fun p3395 =>
    if p3395.1 = 0 then
      (z_ob 11 p3395.2 l0).bind fun _ =>
      (D_X11_isSign  p3395.2 l0 (42:Int32)).bind fun p3398 =>
      if p3398.1 = 0 then
        (z_ob 11 p3398.2 l0).bind fun _ =>
        (D_X11_isSign  p3398.2 l0 (47:Int32)).bind fun p3401 =>
        if p3401.1 = 0 then
          (z_ob 11 p3401.2 l0).bind fun _ =>
          (D_X11_isSign  p3401.2 l0 (37:Int32)).bind fun p3404 =>
          if p3404.1 = 0 then
            D_X11_behindSum_71   p3404.2 l0 l1 (-1:Int32)
          else
            D_X11_behindSum_71   p3404.2 l0 l1 (24:Int32)
        else
          D_X11_behindSum_71   p3401.2 l0 l1 (23:Int32)
      else
        D_X11_behindSum_71   p3398.2 l0 l1 (22:Int32)
    else
      D_X11_behindSum_71   p3395.2 l0 l1 (21:Int32)
  else
    D_X11_behindSum_71   p3392.2 l0 l1 (20:Int32)
set_option maxRecDepth 100000 in
set_option maxHeartbeats 4000000 in
theorem S_X11_behindSum {G : z_G} {l : Launch} {h : z_H} {l0 : Option Nat} {l1 : Int32} {res : (Int32 × z_H)} (e : D_X11_behindSum h l0 l1 = some res) : z_Meth G l 7 M_X11_behindSum [z_r l0, .int l1] h res.2 (some (.int res.1)) := by
  refine z_Meth.of ck_X11_behindSum.2.2.2.2 (by simp [lg_sl, z_ci, z_cj, z_cr, z_cx]) ck_X11_behindSum.1 ?_
  rw [show lv_args 0 [z_r l0, .int l1] = [(0, z_r l0), (1, .int l1)] from by simp [lv_args, z_ci, z_cj, z_cr, z_cx]]
  unfold D_X11_behindSum at e
  refine z_aload_n 0 dX11_behindSum_0 rfl ?_
  refine z_bipush (v := 43) dX11_behindSum_1 (by decide) ?_
  replace e := z_bd e; obtain ⟨o3393, eo3393, e⟩ := e
  replace e := z_bd e; obtain ⟨p3392, ep3392, e⟩ := e
  refine z_cV [.int (43:Int32)] (S_X11_isSign  ep3392) eo3393 rfl ml_X11_318 ck_X11_isSign vk_X11_isSign dX11_behindSum_3 (by decide) rfl (Nat.zero_le _) rfl ?_
  refine z_if_eq (tgt := 14) dX11_behindSum_6 (by decide) (fun c3394 => ?_) (fun c3394 => ?_)
  · rw [if_pos c3394] at e
    refine z_aload_n 0 dX11_behindSum_14 rfl ?_
    refine z_bipush (v := 45) dX11_behindSum_15 (by decide) ?_
    replace e := z_bd e; obtain ⟨o3396, eo3396, e⟩ := e
    replace e := z_bd e; obtain ⟨p3395, ep3395, e⟩ := e
    refine z_cV [.int (45:Int32)] (S_X11_isSign  ep3395) eo3396 rfl ml_X11_318 ck_X11_isSign vk_X11_isSign dX11_behindSum_17 (by decide) rfl (Nat.zero_le _) rfl ?_
    refine z_if_eq (tgt := 28) dX11_behindSum_20 (by decide) (fun c3397 => ?_) (fun c3397 => ?_)
    · rw [if_pos c3397] at e
      refine z_aload_n 0 dX11_behindSum_28 rfl ?_
      refine z_bipush (v := 42) dX11_behindSum_29 (by decide) ?_
      replace e := z_bd e; obtain ⟨o3399, eo3399, e⟩ := e
      replace e := z_bd e; obtain ⟨p3398, ep3398, e⟩ := e
      refine z_cV [.int (42:Int32)] (S_X11_isSign  ep3398) eo3399 rfl ml_X11_318 ck_X11_isSign vk_X11_isSign dX11_behindSum_31 (by decide) rfl (Nat.zero_le _) rfl ?_
      refine z_if_eq (tgt := 42) dX11_behindSum_34 (by decide) (fun c3400 => ?_) (fun c3400 => ?_)
      · rw [if_pos c3400] at e
        refine z_aload_n 0 dX11_behindSum_42 rfl ?_
        refine z_bipush (v := 47) dX11_behindSum_43 (by decide) ?_
        replace e := z_bd e; obtain ⟨o3402, eo3402, e⟩ := e
        replace e := z_bd e; obtain ⟨p3401, ep3401, e⟩ := e
        refine z_cV [.int (47:Int32)] (S_X11_isSign  ep3401) eo3402 rfl ml_X11_318 ck_X11_isSign vk_X11_isSign dX11_behindSum_45 (by decide) rfl (Nat.zero_le _) rfl ?_
        refine z_if_eq (tgt := 56) dX11_behindSum_48 (by decide) (fun c3403 => ?_) (fun c3403 => ?_)
        · rw [if_pos c3403] at e
          refine z_aload_n 0 dX11_behindSum_56 rfl ?_
          refine z_bipush (v := 37) dX11_behindSum_57 (by decide) ?_
          replace e := z_bd e; obtain ⟨o3405, eo3405, e⟩ := e
          replace e := z_bd e; obtain ⟨p3404, ep3404, e⟩ := e
          refine z_cV [.int (37:Int32)] (S_X11_isSign  ep3404) eo3405 rfl ml_X11_318 ck_X11_isSign vk_X11_isSign dX11_behindSum_59 (by decide) rfl (Nat.zero_le _) rfl ?_
          refine z_if_eq (tgt := 70) dX11_behindSum_62 (by decide) (fun c3406 => ?_) (fun c3406 => ?_)
          · rw [if_pos c3406] at e
            refine z_iconst (v := -1) dX11_behindSum_70 (by decide) ?_
            exact z_weak [0, 1] rfl (S_X11_behindSum_71   e)
          · rw [if_neg c3406] at e
            refine z_bipush (v := 24) dX11_behindSum_65 (by decide) ?_
            refine z_goto (tgt := 71) dX11_behindSum_67 (by decide) ?_
            exact z_weak [0, 1] rfl (S_X11_behindSum_71   e)
        · rw [if_neg c3403] at e
          refine z_bipush (v := 23) dX11_behindSum_51 (by decide) ?_
          refine z_goto (tgt := 71) dX11_behindSum_53 (by decide) ?_
          exact z_weak [0, 1] rfl (S_X11_behindSum_71   e)
      · rw [if_neg c3400] at e
        refine z_bipush (v := 22) dX11_behindSum_37 (by decide) ?_
        refine z_goto (tgt := 71) dX11_behindSum_39 (by decide) ?_
        exact z_weak [0, 1] rfl (S_X11_behindSum_71   e)
    · rw [if_neg c3397] at e
      refine z_bipush (v := 21) dX11_behindSum_23 (by decide) ?_
      refine z_goto (tgt := 71) dX11_behindSum_25 (by decide) ?_
      exact z_weak [0, 1] rfl (S_X11_behindSum_71   e)
  · rw [if_neg c3394] at e
    refine z_bipush (v := 20) dX11_behindSum_9 (by decide) ?_
    refine z_goto (tgt := 71) dX11_behindSum_11 (by decide) ?_
    exact z_weak [0, 1] rfl (S_X11_behindSum_71   e)
theorem dX11_behindTest_0 : decode cX11_behindTest 0 = .ok (.aload_n 0, 1) := by decide +kernel
theorem dX11_behindTest_1 : decode cX11_behindTest 1 = .ok (.ldc2_w 361, 3) := by decide +kernel
theorem dX11_behindTest_4 : decode cX11_behindTest 4 = .ok (.invokevirtual 305, 3) := by decide +kernel
theorem dX11_behindTest_7 : decode cX11_behindTest 7 = .ok (.istore_n 1, 1) := by decide +kernel
theorem dX11_behindTest_8 : decode cX11_behindTest 8 = .ok (.iload_n 1, 1) := by decide +kernel
theorem dX11_behindTest_9 : decode cX11_behindTest 9 = .ok (.ifCond .ne 13, 3) := by decide +kernel
theorem dX11_behindTest_12 : decode cX11_behindTest 12 = .ok (.aload_n 0, 1) := by decide +kernel
theorem dX11_behindTest_13 : decode cX11_behindTest 13 = .ok (.ldc2_w 363, 3) := by decide +kernel
theorem dX11_behindTest_16 : decode cX11_behindTest 16 = .ok (.invokevirtual 305, 3) := by decide +kernel
theorem dX11_behindTest_19 : decode cX11_behindTest 19 = .ok (.ifCond .eq 57, 3) := by decide +kernel
theorem dX11_behindTest_22 : decode cX11_behindTest 22 = .ok (.aload_n 0, 1) := by decide +kernel
theorem dX11_behindTest_23 : decode cX11_behindTest 23 = .ok (.iload_n 1, 1) := by decide +kernel
theorem dX11_behindTest_24 : decode cX11_behindTest 24 = .ok (.ifCond .eq 7, 3) := by decide +kernel
theorem dX11_behindTest_27 : decode cX11_behindTest 27 = .ok (.iconst 2, 1) := by decide +kernel
theorem dX11_behindTest_28 : decode cX11_behindTest 28 = .ok (.goto 4, 3) := by decide +kernel
theorem dX11_behindTest_31 : decode cX11_behindTest 31 = .ok (.iconst 1, 1) := by decide +kernel
theorem dX11_behindTest_32 : decode cX11_behindTest 32 = .ok (.invokevirtual 351, 3) := by decide +kernel
theorem dX11_behindTest_35 : decode cX11_behindTest 35 = .ok (.aload_n 0, 1) := by decide +kernel
theorem dX11_behindTest_36 : decode cX11_behindTest 36 = .ok (.iload_n 1, 1) := by decide +kernel
theorem dX11_behindTest_37 : decode cX11_behindTest 37 = .ok (.ifCond .eq 8, 3) := by decide +kernel
theorem dX11_behindTest_40 : decode cX11_behindTest 40 = .ok (.bipush 29, 2) := by decide +kernel
theorem dX11_behindTest_42 : decode cX11_behindTest 42 = .ok (.goto 5, 3) := by decide +kernel
theorem dX11_behindTest_45 : decode cX11_behindTest 45 = .ok (.bipush 30, 2) := by decide +kernel
theorem dX11_behindTest_47 : decode cX11_behindTest 47 = .ok (.aload_n 0, 1) := by decide +kernel
theorem dX11_behindTest_48 : decode cX11_behindTest 48 = .ok (.getfield 288, 3) := by decide +kernel
theorem dX11_behindTest_51 : decode cX11_behindTest 51 = .ok (.invokevirtual 312, 3) := by decide +kernel
theorem dX11_behindTest_54 : decode cX11_behindTest 54 = .ok (.aload_n 0, 1) := by decide +kernel
theorem dX11_behindTest_55 : decode cX11_behindTest 55 = .ok (.iload_n 1, 1) := by decide +kernel
theorem dX11_behindTest_56 : decode cX11_behindTest 56 = .ok (.ifCond .eq 8, 3) := by decide +kernel
theorem dX11_behindTest_59 : decode cX11_behindTest 59 = .ok (.bipush 29, 2) := by decide +kernel
theorem dX11_behindTest_61 : decode cX11_behindTest 61 = .ok (.goto 5, 3) := by decide +kernel
theorem dX11_behindTest_64 : decode cX11_behindTest 64 = .ok (.bipush 30, 2) := by decide +kernel
theorem dX11_behindTest_66 : decode cX11_behindTest 66 = .ok (.iconst 0, 1) := by decide +kernel
theorem dX11_behindTest_67 : decode cX11_behindTest 67 = .ok (.invokevirtual 297, 3) := by decide +kernel
theorem dX11_behindTest_70 : decode cX11_behindTest 70 = .ok (.aload_n 0, 1) := by decide +kernel
theorem dX11_behindTest_71 : decode cX11_behindTest 71 = .ok (.invokevirtual 255, 3) := by decide +kernel
theorem dX11_behindTest_74 : decode cX11_behindTest 74 = .ok (.iconst 0, 1) := by decide +kernel
theorem dX11_behindTest_75 : decode cX11_behindTest 75 = .ok (.ireturn, 1) := by decide +kernel
theorem dX11_behindTest_76 : decode cX11_behindTest 76 = .ok (.aload_n 0, 1) := by decide +kernel
theorem dX11_behindTest_77 : decode cX11_behindTest 77 = .ok (.invokevirtual 354, 3) := by decide +kernel
theorem dX11_behindTest_80 : decode cX11_behindTest 80 = .ok (.iconst (-1), 1) := by decide +kernel
theorem dX11_behindTest_81 : decode cX11_behindTest 81 = .ok (.if_icmp .ne 5, 3) := by decide +kernel
theorem dX11_behindTest_84 : decode cX11_behindTest 84 = .ok (.iconst 4, 1) := by decide +kernel
theorem dX11_behindTest_85 : decode cX11_behindTest 85 = .ok (.ireturn, 1) := by decide +kernel
theorem dX11_behindTest_86 : decode cX11_behindTest 86 = .ok (.aload_n 0, 1) := by decide +kernel
theorem dX11_behindTest_87 : decode cX11_behindTest 87 = .ok (.aload_n 0, 1) := by decide +kernel
theorem dX11_behindTest_88 : decode cX11_behindTest 88 = .ok (.bipush 41, 2) := by decide +kernel
theorem dX11_behindTest_90 : decode cX11_behindTest 90 = .ok (.invokevirtual 318, 3) := by decide +kernel
theorem dX11_behindTest_93 : decode cX11_behindTest 93 = .ok (.invokevirtual 284, 3) := by decide +kernel
theorem dX11_behindTest_96 : decode cX11_behindTest 96 = .ok (.aload_n 0, 1) := by decide +kernel
theorem dX11_behindTest_97 : decode cX11_behindTest 97 = .ok (.getfield 251, 3) := by decide +kernel
theorem dX11_behindTest_100 : decode cX11_behindTest 100 = .ok (.ifCond .ne 28, 3) := by decide +kernel
theorem dX11_behindTest_103 : decode cX11_behindTest 103 = .ok (.aload_n 0, 1) := by decide +kernel
theorem dX11_behindTest_104 : decode cX11_behindTest 104 = .ok (.iconst 1, 1) := by decide +kernel
theorem dX11_behindTest_105 : decode cX11_behindTest 105 = .ok (.invokevirtual 351, 3) := by decide +kernel
theorem dX11_behindTest_108 : decode cX11_behindTest 108 = .ok (.aload_n 0, 1) := by decide +kernel
theorem dX11_behindTest_109 : decode cX11_behindTest 109 = .ok (.dup, 1) := by decide +kernel
theorem dX11_behindTest_110 : decode cX11_behindTest 110 = .ok (.getfield 291, 3) := by decide +kernel
theorem dX11_behindTest_113 : decode cX11_behindTest 113 = .ok (.iconst 1, 1) := by decide +kernel
theorem dX11_behindTest_114 : decode cX11_behindTest 114 = .ok (.isub, 1) := by decide +kernel
theorem dX11_behindTest_115 : decode cX11_behindTest 115 = .ok (.putfield 291, 3) := by decide +kernel
theorem dX11_behindTest_118 : decode cX11_behindTest 118 = .ok (.aload_n 0, 1) := by decide +kernel
theorem dX11_behindTest_119 : decode cX11_behindTest 119 = .ok (.dup, 1) := by decide +kernel
theorem dX11_behindTest_120 : decode cX11_behindTest 120 = .ok (.getfield 309, 3) := by decide +kernel
theorem dX11_behindTest_123 : decode cX11_behindTest 123 = .ok (.iconst 1, 1) := by decide +kernel
theorem dX11_behindTest_124 : decode cX11_behindTest 124 = .ok (.isub, 1) := by decide +kernel
theorem dX11_behindTest_125 : decode cX11_behindTest 125 = .ok (.putfield 309, 3) := by decide +kernel
theorem dX11_behindTest_128 : decode cX11_behindTest 128 = .ok (.iconst 2, 1) := by decide +kernel
theorem dX11_behindTest_129 : decode cX11_behindTest 129 = .ok (.ireturn, 1) := by decide +kernel
def D_X11_behindTest_66 (h : z_H) (l0 : Option Nat) (s0 : Option Nat) (s1 : Int32) : Option (Int32 × z_H) :=
  (z_ob 11 h s0).bind fun _ =>
  (D_X11_emit  h s0 s1 (0:Int32)).bind fun p3407 =>
  (z_ob 11 p3407 l0).bind fun _ =>
  (D_X11_next  p3407 l0).bind fun p3409 =>
  some ((0:Int32), p3409)
set_option maxRecDepth 100000 in
set_option maxHeartbeats 4000000 in
theorem S_X11_behindTest_66 {G : z_G} {l : Launch}  {h : z_H} {l0 : Option Nat} {s0 : Option Nat} {s1 : Int32} {res : (Int32 × z_H)} (e : D_X11_behindTest_66  h l0 s0 s1 = some res) : z_Run G l 7 M_X11_behindTest 66 [(0, z_r l0)] [.int s1, z_r s0] h res.2 (some (.int res.1)) := by
  unfold D_X11_behindTest_66 at e
  refine z_iconst (v := 0) dX11_behindTest_66 (by decide) ?_
  replace e := z_bd e; obtain ⟨o3408, eo3408, e⟩ := e
  replace e := z_bd e; obtain ⟨p3407, ep3407, e⟩ := e
  refine z_cV [.int s1, .int (0:Int32)] (S_X11_emit  ep3407) eo3408 rfl ml_X11_297 ck_X11_emit vk_X11_emit dX11_behindTest_67 (by decide) rfl (Nat.zero_le _) rfl ?_
  refine z_aload_n 0 dX11_behindTest_70 rfl ?_
  replace e := z_bd e; obtain ⟨o3410, eo3410, e⟩ := e
  replace e := z_bd e; obtain ⟨p3409, ep3409, e⟩ := e
  refine z_cV [] (S_X11_next  ep3409) eo3410 rfl ml_X11_255 ck_X11_next vk_X11_next dX11_behindTest_71 (by decide) rfl (Nat.zero_le _) rfl ?_
  refine z_iconst (v := 0) dX11_behindTest_74 (by decide) ?_
  cases e
  exact z_iret dX11_behindTest_75 rfl
def D_X11_behindTest_47 (h : z_H) (l0 : Option Nat) (l1 : Int32) (s0 : Option Nat) (s1 : Int32) : Option (Int32 × z_H) :=
  (z_gI 11 h l0 23).bind fun x3411 =>
  (z_ob 11 h s0).bind fun _ =>
  (D_X11_push  h s0 s1 x3411).bind fun p3412 =>
  if l1 = 0 then
    D_X11_behindTest_66   p3412 l0 l0 (30:Int32)
  else
    D_X11_behindTest_66   p3412 l0 l0 (29:Int32)
set_option maxRecDepth 100000 in
set_option maxHeartbeats 4000000 in
theorem S_X11_behindTest_47 {G : z_G} {l : Launch}  {h : z_H} {l0 : Option Nat} {l1 : Int32} {s0 : Option Nat} {s1 : Int32} {res : (Int32 × z_H)} (e : D_X11_behindTest_47  h l0 l1 s0 s1 = some res) : z_Run G l 7 M_X11_behindTest 47 [(0, z_r l0), (1, .int l1)] [.int s1, z_r s0] h res.2 (some (.int res.1)) := by
  unfold D_X11_behindTest_47 at e
  refine z_aload_n 0 dX11_behindTest_47 rfl ?_
  replace e := z_bd e; obtain ⟨x3411, ex3411, e⟩ := e
  refine z_getI ex3411 lk_X11_288 dX11_behindTest_48 ?_
  replace e := z_bd e; obtain ⟨o3413, eo3413, e⟩ := e
  replace e := z_bd e; obtain ⟨p3412, ep3412, e⟩ := e
  refine z_cV [.int s1, .int x3411] (S_X11_push  ep3412) eo3413 rfl ml_X11_312 ck_X11_push vk_X11_push dX11_behindTest_51 (by decide) rfl (Nat.zero_le _) rfl ?_
  refine z_aload_n 0 dX11_behindTest_54 rfl ?_
  refine z_iload_n 1 dX11_behindTest_55 rfl ?_
  refine z_if_eq (tgt := 64) dX11_behindTest_56 (by decide) (fun c3414 => ?_) (fun c3414 => ?_)
  · rw [if_pos c3414] at e
    refine z_bipush (v := 30) dX11_behindTest_64 (by decide) ?_
    exact z_weak [0] rfl (S_X11_behindTest_66   e)
  · rw [if_neg c3414] at e
    refine z_bipush (v := 29) dX11_behindTest_59 (by decide) ?_
    refine z_goto (tgt := 66) dX11_behindTest_61 (by decide) ?_
    exact z_weak [0] rfl (S_X11_behindTest_66   e)
def D_X11_behindTest_32 (h : z_H) (l0 : Option Nat) (l1 : Int32) (s0 : Option Nat) (s1 : Int32) : Option (Int32 × z_H) :=
  (z_ob 11 h s0).bind fun _ =>
  (D_X11_settle  h s0 s1).bind fun p3415 =>
  if l1 = 0 then
    D_X11_behindTest_47   p3415 l0 l1 l0 (30:Int32)
  else
    D_X11_behindTest_47   p3415 l0 l1 l0 (29:Int32)
set_option maxRecDepth 100000 in
set_option maxHeartbeats 4000000 in
theorem S_X11_behindTest_32 {G : z_G} {l : Launch}  {h : z_H} {l0 : Option Nat} {l1 : Int32} {s0 : Option Nat} {s1 : Int32} {res : (Int32 × z_H)} (e : D_X11_behindTest_32  h l0 l1 s0 s1 = some res) : z_Run G l 7 M_X11_behindTest 32 [(0, z_r l0), (1, .int l1)] [.int s1, z_r s0] h res.2 (some (.int res.1)) := by
  unfold D_X11_behindTest_32 at e
  replace e := z_bd e; obtain ⟨o3416, eo3416, e⟩ := e
  replace e := z_bd e; obtain ⟨p3415, ep3415, e⟩ := e
  refine z_cV [.int s1] (S_X11_settle  ep3415) eo3416 rfl ml_X11_351 ck_X11_settle vk_X11_settle dX11_behindTest_32 (by decide) rfl (Nat.zero_le _) rfl ?_
  refine z_aload_n 0 dX11_behindTest_35 rfl ?_
  refine z_iload_n 1 dX11_behindTest_36 rfl ?_
  refine z_if_eq (tgt := 45) dX11_behindTest_37 (by decide) (fun c3417 => ?_) (fun c3417 => ?_)
  · rw [if_pos c3417] at e
    refine z_bipush (v := 30) dX11_behindTest_45 (by decide) ?_
    exact z_weak [0, 1] rfl (S_X11_behindTest_47   e)
  · rw [if_neg c3417] at e
    refine z_bipush (v := 29) dX11_behindTest_40 (by decide) ?_
    refine z_goto (tgt := 47) dX11_behindTest_42 (by decide) ?_
    exact z_weak [0, 1] rfl (S_X11_behindTest_47   e)
def D_X11_behindTest_22 (h : z_H) (l0 : Option Nat) (l1 : Int32) : Option (Int32 × z_H) :=
  if l1 = 0 then
    D_X11_behindTest_32   h l0 l1 l0 (1:Int32)
  else
    D_X11_behindTest_32   h l0 l1 l0 (2:Int32)
set_option maxRecDepth 100000 in
set_option maxHeartbeats 4000000 in
theorem S_X11_behindTest_22 {G : z_G} {l : Launch}  {h : z_H} {l0 : Option Nat} {l1 : Int32} {res : (Int32 × z_H)} (e : D_X11_behindTest_22  h l0 l1 = some res) : z_Run G l 7 M_X11_behindTest 22 [(0, z_r l0), (1, .int l1)] [] h res.2 (some (.int res.1)) := by
  unfold D_X11_behindTest_22 at e
  refine z_aload_n 0 dX11_behindTest_22 rfl ?_
  refine z_iload_n 1 dX11_behindTest_23 rfl ?_
  refine z_if_eq (tgt := 31) dX11_behindTest_24 (by decide) (fun c3418 => ?_) (fun c3418 => ?_)
  · rw [if_pos c3418] at e
    refine z_iconst (v := 1) dX11_behindTest_31 (by decide) ?_
    exact z_weak [0, 1] rfl (S_X11_behindTest_32   e)
  · rw [if_neg c3418] at e
    refine z_iconst (v := 2) dX11_behindTest_27 (by decide) ?_
    refine z_goto (tgt := 32) dX11_behindTest_28 (by decide) ?_
    exact z_weak [0, 1] rfl (S_X11_behindTest_32   e)
def D_X11_behindTest (h : z_H) (l0 : Option Nat) : Option (Int32 × z_H) :=
  (z_ob 11 h l0).bind fun _ =>
  (D_X11_isWord  h l0 (1476:Int64)).bind fun p3419 =>
  if p3419.1 = 0 then
    (z_ob 11 p3419.2 l0).bind fun _ =>
    (D_X11_isWord  p3419.2 l0 (498:Int64)).bind fun p3422 =>
    if p3422.1 = 0 then
      (z_ob 11 p3422.2 l0).bind fun _ =>
      (D_X11_inner  p3422.2 l0).bind fun p3425 =>
      if p3425.1 = (-1:Int32) then
        some ((4:Int32), p3425.2)
      else
        (z_ob 11 p3425.2 l0).bind fun _ =>
        (D_X11_isSign  p3425.2 l0 (41:Int32)).bind fun p3428 =>
        (z_ob 11 p3428.2 l0).bind fun _ =>
        (D_X11_must  p3428.2 l0 p3428.1).bind fun p3430 =>
        (z_gI 11 p3430 l0 19).bind fun x3432 =>
        if x3432 = 0 then
          (z_ob 11 p3430 l0).bind fun _ =>
          (D_X11_settle  p3430 l0 (1:Int32)).bind fun p3434 =>
          (z_gI 11 p3434 l0 29).bind fun x3436 =>
          (z_pV 11 p3434 l0 29 (.int (x3436 - (1:Int32)))).bind fun h3437 =>
          (z_gI 11 h3437 l0 30).bind fun x3438 =>
          (z_pV 11 h3437 l0 30 (.int (x3438 - (1:Int32)))).bind fun h3439 =>
          some ((2:Int32), h3439)
        else
          some ((2:Int32), p3430)
    else
      D_X11_behindTest_22   p3422.2 l0 p3419.1
  else
    D_X11_behindTest_22   p3419.2 l0 p3419.1
set_option maxRecDepth 100000 in
set_option maxHeartbeats 4000000 in
theorem S_X11_behindTest {G : z_G} {l : Launch} {h : z_H} {l0 : Option Nat} {res : (Int32 × z_H)} (e : D_X11_behindTest h l0 = some res) : z_Meth G l 7 M_X11_behindTest [z_r l0] h res.2 (some (.int res.1)) := by
  refine z_Meth.of ck_X11_behindTest.2.2.2.2 (by simp [lg_sl, z_ci, z_cj, z_cr, z_cx]) ck_X11_behindTest.1 ?_
  rw [show lv_args 0 [z_r l0] = [(0, z_r l0)] from by simp [lv_args, z_ci, z_cj, z_cr, z_cx]]
  unfold D_X11_behindTest at e
  refine z_aload_n 0 dX11_behindTest_0 rfl ?_
  refine z_ldc2 dX11_behindTest_1 kj_X11_361 ?_
  replace e := z_bd e; obtain ⟨o3420, eo3420, e⟩ := e
  replace e := z_bd e; obtain ⟨p3419, ep3419, e⟩ := e
  refine z_cV [.long (1476:Int64)] (S_X11_isWord  ep3419) eo3420 rfl ml_X11_305 ck_X11_isWord vk_X11_isWord dX11_behindTest_4 (by decide) rfl (Nat.zero_le _) rfl ?_
  refine z_istore_n (L' := [(1, .int p3419.1), (0, z_r l0)]) dX11_behindTest_7 rfl (by decide) (by simp [z_cr]) ?_
  refine z_iload_n 0 dX11_behindTest_8 rfl ?_
  refine z_if_ne (tgt := 22) dX11_behindTest_9 (by decide) (fun c3421 => ?_) (fun c3421 => ?_)
  · rw [if_neg c3421] at e
    exact z_weak [1, 0] rfl (S_X11_behindTest_22   e)
  · rw [if_pos c3421] at e
    refine z_aload_n 1 dX11_behindTest_12 rfl ?_
    refine z_ldc2 dX11_behindTest_13 kj_X11_363 ?_
    replace e := z_bd e; obtain ⟨o3423, eo3423, e⟩ := e
    replace e := z_bd e; obtain ⟨p3422, ep3422, e⟩ := e
    refine z_cV [.long (498:Int64)] (S_X11_isWord  ep3422) eo3423 rfl ml_X11_305 ck_X11_isWord vk_X11_isWord dX11_behindTest_16 (by decide) rfl (Nat.zero_le _) rfl ?_
    refine z_if_eq (tgt := 76) dX11_behindTest_19 (by decide) (fun c3424 => ?_) (fun c3424 => ?_)
    · rw [if_pos c3424] at e
      refine z_aload_n 1 dX11_behindTest_76 rfl ?_
      replace e := z_bd e; obtain ⟨o3426, eo3426, e⟩ := e
      replace e := z_bd e; obtain ⟨p3425, ep3425, e⟩ := e
      refine z_cV [] (S_X11_inner  ep3425) eo3426 rfl ml_X11_354 ck_X11_inner vk_X11_inner dX11_behindTest_77 (by decide) rfl (Nat.zero_le _) rfl ?_
      refine z_iconst (v := -1) dX11_behindTest_80 (by decide) ?_
      refine z_icmp_ne (tgt := 86) dX11_behindTest_81 (by decide) (fun c3427 => ?_) (fun c3427 => ?_)
      · rw [if_neg c3427] at e
        refine z_aload_n 1 dX11_behindTest_86 rfl ?_
        refine z_aload_n 1 dX11_behindTest_87 rfl ?_
        refine z_bipush (v := 41) dX11_behindTest_88 (by decide) ?_
        replace e := z_bd e; obtain ⟨o3429, eo3429, e⟩ := e
        replace e := z_bd e; obtain ⟨p3428, ep3428, e⟩ := e
        refine z_cV [.int (41:Int32)] (S_X11_isSign  ep3428) eo3429 rfl ml_X11_318 ck_X11_isSign vk_X11_isSign dX11_behindTest_90 (by decide) rfl (by simp [z_ci, z_cj, z_cr, z_cx]) rfl ?_
        replace e := z_bd e; obtain ⟨o3431, eo3431, e⟩ := e
        replace e := z_bd e; obtain ⟨p3430, ep3430, e⟩ := e
        refine z_cV [.int p3428.1] (S_X11_must  ep3430) eo3431 rfl ml_X11_284 ck_X11_must vk_X11_must dX11_behindTest_93 (by decide) rfl (Nat.zero_le _) rfl ?_
        refine z_aload_n 1 dX11_behindTest_96 rfl ?_
        replace e := z_bd e; obtain ⟨x3432, ex3432, e⟩ := e
        refine z_getI ex3432 lk_X11_251 dX11_behindTest_97 ?_
        refine z_if_ne (tgt := 128) dX11_behindTest_100 (by decide) (fun c3433 => ?_) (fun c3433 => ?_)
        · rw [if_neg c3433] at e
          refine z_iconst (v := 2) dX11_behindTest_128 (by decide) ?_
          cases e
          exact z_iret dX11_behindTest_129 rfl
        · rw [if_pos c3433] at e
          refine z_aload_n 1 dX11_behindTest_103 rfl ?_
          refine z_iconst (v := 1) dX11_behindTest_104 (by decide) ?_
          replace e := z_bd e; obtain ⟨o3435, eo3435, e⟩ := e
          replace e := z_bd e; obtain ⟨p3434, ep3434, e⟩ := e
          refine z_cV [.int (1:Int32)] (S_X11_settle  ep3434) eo3435 rfl ml_X11_351 ck_X11_settle vk_X11_settle dX11_behindTest_105 (by decide) rfl (Nat.zero_le _) rfl ?_
          refine z_aload_n 1 dX11_behindTest_108 rfl ?_
          refine z_dup dX11_behindTest_109 (z_cr _) ?_
          replace e := z_bd e; obtain ⟨x3436, ex3436, e⟩ := e
          refine z_getI ex3436 lk_X11_291 dX11_behindTest_110 ?_
          refine z_iconst (v := 1) dX11_behindTest_113 (by decide) ?_
          refine z_isub dX11_behindTest_114 ?_
          replace e := z_bd e; obtain ⟨h3437, eh3437, e⟩ := e
          refine z_putV eh3437 lk_X11_291 wk_11_29 (fun _ => rfl) (fun _ => rfl) dX11_behindTest_115 ?_
          refine z_aload_n 1 dX11_behindTest_118 rfl ?_
          refine z_dup dX11_behindTest_119 (z_cr _) ?_
          replace e := z_bd e; obtain ⟨x3438, ex3438, e⟩ := e
          refine z_getI ex3438 lk_X11_309 dX11_behindTest_120 ?_
          refine z_iconst (v := 1) dX11_behindTest_123 (by decide) ?_
          refine z_isub dX11_behindTest_124 ?_
          replace e := z_bd e; obtain ⟨h3439, eh3439, e⟩ := e
          refine z_putV eh3439 lk_X11_309 wk_11_30 (fun _ => rfl) (fun _ => rfl) dX11_behindTest_125 ?_
          refine z_iconst (v := 2) dX11_behindTest_128 (by decide) ?_
          cases e
          exact z_iret dX11_behindTest_129 rfl
      · rw [if_pos c3427] at e
        refine z_iconst (v := 4) dX11_behindTest_84 (by decide) ?_
        cases e
        exact z_iret dX11_behindTest_85 rfl
    · rw [if_neg c3424] at e
      exact z_weak [1, 0] rfl (S_X11_behindTest_22   e)
theorem dX11_readExpression_0 : decode cX11_readExpression 0 = .ok (.aload_n 0, 1) := by decide +kernel
theorem dX11_readExpression_1 : decode cX11_readExpression 1 = .ok (.iconst 0, 1) := by decide +kernel
theorem dX11_readExpression_2 : decode cX11_readExpression 2 = .ok (.putfield 291, 3) := by decide +kernel
theorem dX11_readExpression_5 : decode cX11_readExpression 5 = .ok (.aload_n 0, 1) := by decide +kernel
theorem dX11_readExpression_6 : decode cX11_readExpression 6 = .ok (.iconst 0, 1) := by decide +kernel
theorem dX11_readExpression_7 : decode cX11_readExpression 7 = .ok (.putfield 309, 3) := by decide +kernel
theorem dX11_readExpression_10 : decode cX11_readExpression 10 = .ok (.iload_n 1, 1) := by decide +kernel
theorem dX11_readExpression_11 : decode cX11_readExpression 11 = .ok (.ifCond .eq 7, 3) := by decide +kernel
theorem dX11_readExpression_14 : decode cX11_readExpression 14 = .ok (.iconst 0, 1) := by decide +kernel
theorem dX11_readExpression_15 : decode cX11_readExpression 15 = .ok (.goto 4, 3) := by decide +kernel
theorem dX11_readExpression_18 : decode cX11_readExpression 18 = .ok (.iconst 1, 1) := by decide +kernel
theorem dX11_readExpression_19 : decode cX11_readExpression 19 = .ok (.istore_n 2, 1) := by decide +kernel
theorem dX11_readExpression_20 : decode cX11_readExpression 20 = .ok (.aload_n 0, 1) := by decide +kernel
theorem dX11_readExpression_21 : decode cX11_readExpression 21 = .ok (.getfield 251, 3) := by decide +kernel
theorem dX11_readExpression_24 : decode cX11_readExpression 24 = .ok (.ifCond .ne 52, 3) := by decide +kernel
theorem dX11_readExpression_27 : decode cX11_readExpression 27 = .ok (.iload_n 2, 1) := by decide +kernel
theorem dX11_readExpression_28 : decode cX11_readExpression 28 = .ok (.iconst 4, 1) := by decide +kernel
theorem dX11_readExpression_29 : decode cX11_readExpression 29 = .ok (.if_icmp .eq 47, 3) := by decide +kernel
theorem dX11_readExpression_32 : decode cX11_readExpression 32 = .ok (.iload_n 2, 1) := by decide +kernel
theorem dX11_readExpression_33 : decode cX11_readExpression 33 = .ok (.ifCond .ne 10, 3) := by decide +kernel
theorem dX11_readExpression_36 : decode cX11_readExpression 36 = .ok (.aload_n 0, 1) := by decide +kernel
theorem dX11_readExpression_37 : decode cX11_readExpression 37 = .ok (.invokevirtual 365, 3) := by decide +kernel
theorem dX11_readExpression_40 : decode cX11_readExpression 40 = .ok (.goto 32, 3) := by decide +kernel
theorem dX11_readExpression_43 : decode cX11_readExpression 43 = .ok (.iload_n 2, 1) := by decide +kernel
theorem dX11_readExpression_44 : decode cX11_readExpression 44 = .ok (.iconst 1, 1) := by decide +kernel
theorem dX11_readExpression_45 : decode cX11_readExpression 45 = .ok (.if_icmp .ne 10, 3) := by decide +kernel
theorem dX11_readExpression_48 : decode cX11_readExpression 48 = .ok (.aload_n 0, 1) := by decide +kernel
theorem dX11_readExpression_49 : decode cX11_readExpression 49 = .ok (.invokevirtual 348, 3) := by decide +kernel
theorem dX11_readExpression_52 : decode cX11_readExpression 52 = .ok (.goto 20, 3) := by decide +kernel
theorem dX11_readExpression_55 : decode cX11_readExpression 55 = .ok (.iload_n 2, 1) := by decide +kernel
theorem dX11_readExpression_56 : decode cX11_readExpression 56 = .ok (.iconst 3, 1) := by decide +kernel
theorem dX11_readExpression_57 : decode cX11_readExpression 57 = .ok (.if_icmp .ne 11, 3) := by decide +kernel
theorem dX11_readExpression_60 : decode cX11_readExpression 60 = .ok (.aload_n 0, 1) := by decide +kernel
theorem dX11_readExpression_61 : decode cX11_readExpression 61 = .ok (.iload_n 1, 1) := by decide +kernel
theorem dX11_readExpression_62 : decode cX11_readExpression 62 = .ok (.invokevirtual 368, 3) := by decide +kernel
theorem dX11_readExpression_65 : decode cX11_readExpression 65 = .ok (.goto 7, 3) := by decide +kernel
theorem dX11_readExpression_68 : decode cX11_readExpression 68 = .ok (.aload_n 0, 1) := by decide +kernel
theorem dX11_readExpression_69 : decode cX11_readExpression 69 = .ok (.invokevirtual 372, 3) := by decide +kernel
theorem dX11_readExpression_72 : decode cX11_readExpression 72 = .ok (.istore_n 2, 1) := by decide +kernel
theorem dX11_readExpression_73 : decode cX11_readExpression 73 = .ok (.goto (-53), 3) := by decide +kernel
theorem dX11_readExpression_76 : decode cX11_readExpression 76 = .ok (.aload_n 0, 1) := by decide +kernel
theorem dX11_readExpression_77 : decode cX11_readExpression 77 = .ok (.iconst 1, 1) := by decide +kernel
theorem dX11_readExpression_78 : decode cX11_readExpression 78 = .ok (.invokevirtual 351, 3) := by decide +kernel
theorem dX11_readExpression_81 : decode cX11_readExpression 81 = .ok (.return_, 1) := by decide +kernel
def D_X11_readExpression_76 (h : z_H) (l0 : Option Nat) : Option z_H :=
  (z_ob 11 h l0).bind fun _ =>
  (D_X11_settle  h l0 (1:Int32)).bind fun p3440 =>
  some p3440
set_option maxRecDepth 100000 in
set_option maxHeartbeats 4000000 in
theorem S_X11_readExpression_76 {G : z_G} {l : Launch}  {h : z_H} {l0 : Option Nat} {res : z_H} (e : D_X11_readExpression_76  h l0 = some res) : z_Run G l 10 M_X11_readExpression 76 [(0, z_r l0)] [] h res none := by
  unfold D_X11_readExpression_76 at e
  refine z_aload_n 0 dX11_readExpression_76 rfl ?_
  refine z_iconst (v := 1) dX11_readExpression_77 (by decide) ?_
  replace e := z_bd e; obtain ⟨o3441, eo3441, e⟩ := e
  replace e := z_bd e; obtain ⟨p3440, ep3440, e⟩ := e
  refine z_cV [.int (1:Int32)] (S_X11_settle  ep3440) eo3441 rfl ml_X11_351 ck_X11_settle vk_X11_settle dX11_readExpression_78 (by decide) rfl (Nat.zero_le _) rfl ?_
  cases e
  exact z_vret dX11_readExpression_81 rfl
def D_X11_readExpression_72 (k20 : z_H → Option Nat → Int32 → Int32 → Option z_H) (h : z_H) (l0 : Option Nat) (l1 : Int32) (s0 : Int32) : Option z_H :=
  k20 h l0 l1 s0
set_option maxRecDepth 100000 in
set_option maxHeartbeats 4000000 in
theorem S_X11_readExpression_72 {G : z_G} {l : Launch} {k20 : z_H → Option Nat → Int32 → Int32 → Option z_H} (hk20 : ∀ {h : z_H} {l0 : Option Nat} {l1 : Int32} {l2 : Int32} {res : z_H}, k20 h l0 l1 l2 = some res → z_Run G l 10 M_X11_readExpression 20 [(0, z_r l0), (1, .int l1), (2, .int l2)] [] h res none) {h : z_H} {l0 : Option Nat} {l1 : Int32} {s0 : Int32} {res : z_H} (e : D_X11_readExpression_72 k20 h l0 l1 s0 = some res) : z_Run G l 10 M_X11_readExpression 72 [(0, z_r l0), (1, .int l1)] [.int s0] h res none := by
  unfold D_X11_readExpression_72 at e
  refine z_istore_n (L' := [(2, .int s0), (0, z_r l0), (1, .int l1)]) dX11_readExpression_72 rfl (by decide) rfl ?_
  refine z_goto (tgt := 20) dX11_readExpression_73 (by decide) ?_
  exact z_weak [1, 2, 0] rfl (hk20 e)
def D_X11_readExpression_20b (k20 : z_H → Option Nat → Int32 → Int32 → Option z_H) (h : z_H) (l0 : Option Nat) (l1 : Int32) (l2 : Int32) : Option z_H :=
  (z_gI 11 h l0 19).bind fun x3442 =>
  if x3442 = 0 then
    if l2 = (4:Int32) then
      D_X11_readExpression_76   h l0
    else
      if l2 = 0 then
        (z_ob 11 h l0).bind fun _ =>
        (D_X11_readPlain  h l0).bind fun p3454 =>
        D_X11_readExpression_72  k20 p3454.2 l0 l1 p3454.1
      else
        if l2 = (1:Int32) then
          (z_ob 11 h l0).bind fun _ =>
          (D_X11_readPart  h l0).bind fun p3452 =>
          D_X11_readExpression_72  k20 p3452.2 l0 l1 p3452.1
        else
          if l2 = (3:Int32) then
            (z_ob 11 h l0).bind fun _ =>
            (D_X11_behindSum  h l0 l1).bind fun p3450 =>
            D_X11_readExpression_72  k20 p3450.2 l0 l1 p3450.1
          else
            (z_ob 11 h l0).bind fun _ =>
            (D_X11_behindTest  h l0).bind fun p3448 =>
            D_X11_readExpression_72  k20 p3448.2 l0 l1 p3448.1
  else
    D_X11_readExpression_76   h l0
def D_X11_readExpression_20 (n : Nat) : z_H → Option Nat → Int32 → Int32 → Option z_H := Nat.rec (motive := fun _ => z_H → Option Nat → Int32 → Int32 → Option z_H) (fun _ _ _ _ => none) (fun _ k => D_X11_readExpression_20b  k) n
set_option maxRecDepth 100000 in
set_option maxHeartbeats 4000000 in
theorem S_X11_readExpression_20 {G : z_G} {l : Launch}  (n : Nat) : ∀ {h : z_H} {l0 : Option Nat} {l1 : Int32} {l2 : Int32} {res : z_H}, D_X11_readExpression_20  n h l0 l1 l2 = some res → z_Run G l 10 M_X11_readExpression 20 [(0, z_r l0), (1, .int l1), (2, .int l2)] [] h res none := by
  induction n with
  | zero => intro h l0 l1 l2 res e; cases e
  | succ n hk20 =>
    intro h l0 l1 l2 res e
    replace e : D_X11_readExpression_20b  (D_X11_readExpression_20  n) h l0 l1 l2 = some res := e
    unfold D_X11_readExpression_20b at e
    refine z_aload_n 0 dX11_readExpression_20 rfl ?_
    replace e := z_bd e; obtain ⟨x3442, ex3442, e⟩ := e
    refine z_getI ex3442 lk_X11_251 dX11_readExpression_21 ?_
    refine z_if_ne (tgt := 76) dX11_readExpression_24 (by decide) (fun c3443 => ?_) (fun c3443 => ?_)
    · rw [if_neg c3443] at e
      exact z_weak [0] rfl (S_X11_readExpression_76   e)
    · rw [if_pos c3443] at e
      refine z_iload_n 2 dX11_readExpression_27 rfl ?_
      refine z_iconst (v := 4) dX11_readExpression_28 (by decide) ?_
      refine z_icmp_eq (tgt := 76) dX11_readExpression_29 (by decide) (fun c3444 => ?_) (fun c3444 => ?_)
      · rw [if_pos c3444] at e
        exact z_weak [0] rfl (S_X11_readExpression_76   e)
      · rw [if_neg c3444] at e
        refine z_iload_n 2 dX11_readExpression_32 rfl ?_
        refine z_if_ne (tgt := 43) dX11_readExpression_33 (by decide) (fun c3445 => ?_) (fun c3445 => ?_)
        · rw [if_neg c3445] at e
          refine z_iload_n 2 dX11_readExpression_43 rfl ?_
          refine z_iconst (v := 1) dX11_readExpression_44 (by decide) ?_
          refine z_icmp_ne (tgt := 55) dX11_readExpression_45 (by decide) (fun c3446 => ?_) (fun c3446 => ?_)
          · rw [if_neg c3446] at e
            refine z_iload_n 2 dX11_readExpression_55 rfl ?_
            refine z_iconst (v := 3) dX11_readExpression_56 (by decide) ?_
            refine z_icmp_ne (tgt := 68) dX11_readExpression_57 (by decide) (fun c3447 => ?_) (fun c3447 => ?_)
            · rw [if_neg c3447] at e
              refine z_aload_n 0 dX11_readExpression_68 rfl ?_
              replace e := z_bd e; obtain ⟨o3449, eo3449, e⟩ := e
              replace e := z_bd e; obtain ⟨p3448, ep3448, e⟩ := e
              refine z_cV [] (S_X11_behindTest  ep3448) eo3449 rfl ml_X11_372 ck_X11_behindTest vk_X11_behindTest dX11_readExpression_69 (by decide) rfl (Nat.zero_le _) rfl ?_
              exact z_weak [0, 1] rfl (S_X11_readExpression_72  @hk20 e)
            · rw [if_pos c3447] at e
              refine z_aload_n 0 dX11_readExpression_60 rfl ?_
              refine z_iload_n 1 dX11_readExpression_61 rfl ?_
              replace e := z_bd e; obtain ⟨o3451, eo3451, e⟩ := e
              replace e := z_bd e; obtain ⟨p3450, ep3450, e⟩ := e
              refine z_cV [.int l1] (S_X11_behindSum  ep3450) eo3451 rfl ml_X11_368 ck_X11_behindSum vk_X11_behindSum dX11_readExpression_62 (by decide) rfl (Nat.zero_le _) rfl ?_
              refine z_goto (tgt := 72) dX11_readExpression_65 (by decide) ?_
              exact z_weak [0, 1] rfl (S_X11_readExpression_72  @hk20 e)
          · rw [if_pos c3446] at e
            refine z_aload_n 0 dX11_readExpression_48 rfl ?_
            replace e := z_bd e; obtain ⟨o3453, eo3453, e⟩ := e
            replace e := z_bd e; obtain ⟨p3452, ep3452, e⟩ := e
            refine z_cV [] (S_X11_readPart  ep3452) eo3453 rfl ml_X11_348 ck_X11_readPart vk_X11_readPart dX11_readExpression_49 (by decide) rfl (Nat.zero_le _) rfl ?_
            refine z_goto (tgt := 72) dX11_readExpression_52 (by decide) ?_
            exact z_weak [0, 1] rfl (S_X11_readExpression_72  @hk20 e)
        · rw [if_pos c3445] at e
          refine z_aload_n 0 dX11_readExpression_36 rfl ?_
          replace e := z_bd e; obtain ⟨o3455, eo3455, e⟩ := e
          replace e := z_bd e; obtain ⟨p3454, ep3454, e⟩ := e
          refine z_cV [] (S_X11_readPlain  ep3454) eo3455 rfl ml_X11_365 ck_X11_readPlain vk_X11_readPlain dX11_readExpression_37 (by decide) rfl (Nat.zero_le _) rfl ?_
          refine z_goto (tgt := 72) dX11_readExpression_40 (by decide) ?_
          exact z_weak [0, 1] rfl (S_X11_readExpression_72  @hk20 e)
def D_X11_readExpression_19 (h : z_H) (l0 : Option Nat) (l1 : Int32) (s0 : Int32) : Option z_H :=
  D_X11_readExpression_20   z_F h l0 l1 s0
set_option maxRecDepth 100000 in
set_option maxHeartbeats 4000000 in
theorem S_X11_readExpression_19 {G : z_G} {l : Launch}  {h : z_H} {l0 : Option Nat} {l1 : Int32} {s0 : Int32} {res : z_H} (e : D_X11_readExpression_19  h l0 l1 s0 = some res) : z_Run G l 10 M_X11_readExpression 19 [(0, z_r l0), (1, .int l1)] [.int s0] h res none := by
  unfold D_X11_readExpression_19 at e
  refine z_istore_n (L' := [(2, .int s0), (0, z_r l0), (1, .int l1)]) dX11_readExpression_19 rfl (by decide) rfl ?_
  exact z_weak [1, 2, 0] rfl (S_X11_readExpression_20   z_F e)
def D_X11_readExpression (h : z_H) (l0 : Option Nat) (l1 : Int32) : Option z_H :=
  (z_pV 11 h l0 29 (.int (0:Int32))).bind fun h3456 =>
  (z_pV 11 h3456 l0 30 (.int (0:Int32))).bind fun h3457 =>
  if l1 = 0 then
    D_X11_readExpression_19   h3457 l0 l1 (1:Int32)
  else
    D_X11_readExpression_19   h3457 l0 l1 (0:Int32)
set_option maxRecDepth 100000 in
set_option maxHeartbeats 4000000 in
theorem S_X11_readExpression {G : z_G} {l : Launch} {h : z_H} {l0 : Option Nat} {l1 : Int32} {res : z_H} (e : D_X11_readExpression h l0 l1 = some res) : z_Meth G l 10 M_X11_readExpression [z_r l0, .int l1] h res none := by
  refine z_Meth.of ck_X11_readExpression.2.2.2.2 (by simp [lg_sl, z_ci, z_cj, z_cr, z_cx]) ck_X11_readExpression.1 ?_
  rw [show lv_args 0 [z_r l0, .int l1] = [(0, z_r l0), (1, .int l1)] from by simp [lv_args, z_ci, z_cj, z_cr, z_cx]]
  unfold D_X11_readExpression at e
  refine z_aload_n 0 dX11_readExpression_0 rfl ?_
  refine z_iconst (v := 0) dX11_readExpression_1 (by decide) ?_
  replace e := z_bd e; obtain ⟨h3456, eh3456, e⟩ := e
  refine z_putV eh3456 lk_X11_291 wk_11_29 (fun _ => rfl) (fun _ => rfl) dX11_readExpression_2 ?_
  refine z_aload_n 0 dX11_readExpression_5 rfl ?_
  refine z_iconst (v := 0) dX11_readExpression_6 (by decide) ?_
  replace e := z_bd e; obtain ⟨h3457, eh3457, e⟩ := e
  refine z_putV eh3457 lk_X11_309 wk_11_30 (fun _ => rfl) (fun _ => rfl) dX11_readExpression_7 ?_
  refine z_iload_n 1 dX11_readExpression_10 rfl ?_
  refine z_if_eq (tgt := 18) dX11_readExpression_11 (by decide) (fun c3458 => ?_) (fun c3458 => ?_)
  · rw [if_pos c3458] at e
    refine z_iconst (v := 1) dX11_readExpression_18 (by decide) ?_
    exact z_weak [0, 1] rfl (S_X11_readExpression_19   e)
  · rw [if_neg c3458] at e
    refine z_iconst (v := 0) dX11_readExpression_14 (by decide) ?_
    refine z_goto (tgt := 19) dX11_readExpression_15 (by decide) ?_
    exact z_weak [0, 1] rfl (S_X11_readExpression_19   e)
theorem dX11_readSum_0 : decode cX11_readSum 0 = .ok (.aload_n 0, 1) := by decide +kernel
theorem dX11_readSum_1 : decode cX11_readSum 1 = .ok (.getfield 154, 3) := by decide +kernel
theorem dX11_readSum_4 : decode cX11_readSum 4 = .ok (.iload_n 1, 1) := by decide +kernel
theorem dX11_readSum_5 : decode cX11_readSum 5 = .ok (.aload_n 0, 1) := by decide +kernel
theorem dX11_readSum_6 : decode cX11_readSum 6 = .ok (.getfield 288, 3) := by decide +kernel
theorem dX11_readSum_9 : decode cX11_readSum 9 = .ok (.iastore, 1) := by decide +kernel
theorem dX11_readSum_10 : decode cX11_readSum 10 = .ok (.aload_n 0, 1) := by decide +kernel
theorem dX11_readSum_11 : decode cX11_readSum 11 = .ok (.getfield 251, 3) := by decide +kernel
theorem dX11_readSum_14 : decode cX11_readSum 14 = .ok (.ifCond .ne 8, 3) := by decide +kernel
theorem dX11_readSum_17 : decode cX11_readSum 17 = .ok (.aload_n 0, 1) := by decide +kernel
theorem dX11_readSum_18 : decode cX11_readSum 18 = .ok (.iconst 0, 1) := by decide +kernel
theorem dX11_readSum_19 : decode cX11_readSum 19 = .ok (.invokevirtual 381, 3) := by decide +kernel
theorem dX11_readSum_22 : decode cX11_readSum 22 = .ok (.aload_n 0, 1) := by decide +kernel
theorem dX11_readSum_23 : decode cX11_readSum 23 = .ok (.getfield 154, 3) := by decide +kernel
theorem dX11_readSum_26 : decode cX11_readSum 26 = .ok (.iload_n 1, 1) := by decide +kernel
theorem dX11_readSum_27 : decode cX11_readSum 27 = .ok (.iconst 1, 1) := by decide +kernel
theorem dX11_readSum_28 : decode cX11_readSum 28 = .ok (.iadd, 1) := by decide +kernel
theorem dX11_readSum_29 : decode cX11_readSum 29 = .ok (.aload_n 0, 1) := by decide +kernel
theorem dX11_readSum_30 : decode cX11_readSum 30 = .ok (.getfield 288, 3) := by decide +kernel
theorem dX11_readSum_33 : decode cX11_readSum 33 = .ok (.iastore, 1) := by decide +kernel
theorem dX11_readSum_34 : decode cX11_readSum 34 = .ok (.return_, 1) := by decide +kernel
def D_X11_readSum_22 (h : z_H) (l0 : Option Nat) (l1 : Int32) : Option z_H :=
  (z_gQ 11 h l0 51).bind fun x3459 =>
  (z_gI 11 h l0 23).bind fun x3460 =>
  (z_sI h x3459 (l1 + (1:Int32)) x3460).bind fun h3461 =>
  some h3461
set_option maxRecDepth 100000 in
set_option maxHeartbeats 4000000 in
theorem S_X11_readSum_22 {G : z_G} {l : Launch}  {h : z_H} {l0 : Option Nat} {l1 : Int32} {res : z_H} (e : D_X11_readSum_22  h l0 l1 = some res) : z_Run G l 11 M_X11_readSum 22 [(0, z_r l0), (1, .int l1)] [] h res none := by
  unfold D_X11_readSum_22 at e
  refine z_aload_n 0 dX11_readSum_22 rfl ?_
  replace e := z_bd e; obtain ⟨x3459, ex3459, e⟩ := e
  refine z_getQ ex3459 lk_X11_154 dX11_readSum_23 ?_
  refine z_iload_n 1 dX11_readSum_26 rfl ?_
  refine z_iconst (v := 1) dX11_readSum_27 (by decide) ?_
  refine z_iadd dX11_readSum_28 ?_
  refine z_aload_n 0 dX11_readSum_29 rfl ?_
  replace e := z_bd e; obtain ⟨x3460, ex3460, e⟩ := e
  refine z_getI ex3460 lk_X11_288 dX11_readSum_30 ?_
  replace e := z_bd e; obtain ⟨h3461, eh3461, e⟩ := e
  refine z_iast eh3461 dX11_readSum_33 ?_
  cases e
  exact z_vret dX11_readSum_34 rfl
def D_X11_readSum (h : z_H) (l0 : Option Nat) (l1 : Int32) : Option z_H :=
  (z_gQ 11 h l0 51).bind fun x3462 =>
  (z_gI 11 h l0 23).bind fun x3463 =>
  (z_sI h x3462 l1 x3463).bind fun h3464 =>
  (z_gI 11 h3464 l0 19).bind fun x3465 =>
  if x3465 = 0 then
    (z_ob 11 h3464 l0).bind fun _ =>
    (D_X11_readExpression  h3464 l0 (0:Int32)).bind fun p3467 =>
    D_X11_readSum_22   p3467 l0 l1
  else
    D_X11_readSum_22   h3464 l0 l1
set_option maxRecDepth 100000 in
set_option maxHeartbeats 4000000 in
theorem S_X11_readSum {G : z_G} {l : Launch} {h : z_H} {l0 : Option Nat} {l1 : Int32} {res : z_H} (e : D_X11_readSum h l0 l1 = some res) : z_Meth G l 11 M_X11_readSum [z_r l0, .int l1] h res none := by
  refine z_Meth.of ck_X11_readSum.2.2.2.2 (by simp [lg_sl, z_ci, z_cj, z_cr, z_cx]) ck_X11_readSum.1 ?_
  rw [show lv_args 0 [z_r l0, .int l1] = [(0, z_r l0), (1, .int l1)] from by simp [lv_args, z_ci, z_cj, z_cr, z_cx]]
  unfold D_X11_readSum at e
  refine z_aload_n 0 dX11_readSum_0 rfl ?_
  replace e := z_bd e; obtain ⟨x3462, ex3462, e⟩ := e
  refine z_getQ ex3462 lk_X11_154 dX11_readSum_1 ?_
  refine z_iload_n 1 dX11_readSum_4 rfl ?_
  refine z_aload_n 0 dX11_readSum_5 rfl ?_
  replace e := z_bd e; obtain ⟨x3463, ex3463, e⟩ := e
  refine z_getI ex3463 lk_X11_288 dX11_readSum_6 ?_
  replace e := z_bd e; obtain ⟨h3464, eh3464, e⟩ := e
  refine z_iast eh3464 dX11_readSum_9 ?_
  refine z_aload_n 0 dX11_readSum_10 rfl ?_
  replace e := z_bd e; obtain ⟨x3465, ex3465, e⟩ := e
  refine z_getI ex3465 lk_X11_251 dX11_readSum_11 ?_
  refine z_if_ne (tgt := 22) dX11_readSum_14 (by decide) (fun c3466 => ?_) (fun c3466 => ?_)
  · rw [if_neg c3466] at e
    exact z_weak [0, 1] rfl (S_X11_readSum_22   e)
  · rw [if_pos c3466] at e
    refine z_aload_n 0 dX11_readSum_17 rfl ?_
    refine z_iconst (v := 0) dX11_readSum_18 (by decide) ?_
    replace e := z_bd e; obtain ⟨o3468, eo3468, e⟩ := e
    replace e := z_bd e; obtain ⟨p3467, ep3467, e⟩ := e
    refine z_cV [.int (0:Int32)] (S_X11_readExpression  ep3467) eo3468 rfl ml_X11_381 ck_X11_readExpression vk_X11_readExpression dX11_readSum_19 (by decide) rfl (Nat.zero_le _) rfl ?_
    exact z_weak [0, 1] rfl (S_X11_readSum_22   e)
theorem dX11_readOrder_0 : decode cX11_readOrder 0 = .ok (.iconst (-1), 1) := by decide +kernel
theorem dX11_readOrder_1 : decode cX11_readOrder 1 = .ok (.istore_n 1, 1) := by decide +kernel
theorem dX11_readOrder_2 : decode cX11_readOrder 2 = .ok (.iconst 0, 1) := by decide +kernel
theorem dX11_readOrder_3 : decode cX11_readOrder 3 = .ok (.istore_n 2, 1) := by decide +kernel
theorem dX11_readOrder_4 : decode cX11_readOrder 4 = .ok (.iload_n 2, 1) := by decide +kernel
theorem dX11_readOrder_5 : decode cX11_readOrder 5 = .ok (.iconst 5, 1) := by decide +kernel
theorem dX11_readOrder_6 : decode cX11_readOrder 6 = .ok (.if_icmp .ge 28, 3) := by decide +kernel
theorem dX11_readOrder_9 : decode cX11_readOrder 9 = .ok (.aload_n 0, 1) := by decide +kernel
theorem dX11_readOrder_10 : decode cX11_readOrder 10 = .ok (.aload_n 0, 1) := by decide +kernel
theorem dX11_readOrder_11 : decode cX11_readOrder 11 = .ok (.getfield 151, 3) := by decide +kernel
theorem dX11_readOrder_14 : decode cX11_readOrder 14 = .ok (.iload_n 2, 1) := by decide +kernel
theorem dX11_readOrder_15 : decode cX11_readOrder 15 = .ok (.laload, 1) := by decide +kernel
theorem dX11_readOrder_16 : decode cX11_readOrder 16 = .ok (.invokevirtual 305, 3) := by decide +kernel
theorem dX11_readOrder_19 : decode cX11_readOrder 19 = .ok (.ifCond .eq 7, 3) := by decide +kernel
theorem dX11_readOrder_22 : decode cX11_readOrder 22 = .ok (.iload_n 2, 1) := by decide +kernel
theorem dX11_readOrder_23 : decode cX11_readOrder 23 = .ok (.goto 4, 3) := by decide +kernel
theorem dX11_readOrder_26 : decode cX11_readOrder 26 = .ok (.iload_n 1, 1) := by decide +kernel
theorem dX11_readOrder_27 : decode cX11_readOrder 27 = .ok (.istore_n 1, 1) := by decide +kernel
theorem dX11_readOrder_28 : decode cX11_readOrder 28 = .ok (.iinc 2 1, 3) := by decide +kernel
theorem dX11_readOrder_31 : decode cX11_readOrder 31 = .ok (.goto (-27), 3) := by decide +kernel
theorem dX11_readOrder_34 : decode cX11_readOrder 34 = .ok (.aload_n 0, 1) := by decide +kernel
theorem dX11_readOrder_35 : decode cX11_readOrder 35 = .ok (.iload_n 1, 1) := by decide +kernel
theorem dX11_readOrder_36 : decode cX11_readOrder 36 = .ok (.iconst (-1), 1) := by decide +kernel
theorem dX11_readOrder_37 : decode cX11_readOrder 37 = .ok (.if_icmp .eq 16, 3) := by decide +kernel
theorem dX11_readOrder_40 : decode cX11_readOrder 40 = .ok (.aload_n 0, 1) := by decide +kernel
theorem dX11_readOrder_41 : decode cX11_readOrder 41 = .ok (.getfield 378, 3) := by decide +kernel
theorem dX11_readOrder_44 : decode cX11_readOrder 44 = .ok (.bipush 12, 2) := by decide +kernel
theorem dX11_readOrder_46 : decode cX11_readOrder 46 = .ok (.if_icmp .ge 7, 3) := by decide +kernel
theorem dX11_readOrder_49 : decode cX11_readOrder 49 = .ok (.iconst 1, 1) := by decide +kernel
theorem dX11_readOrder_50 : decode cX11_readOrder 50 = .ok (.goto 4, 3) := by decide +kernel
theorem dX11_readOrder_53 : decode cX11_readOrder 53 = .ok (.iconst 0, 1) := by decide +kernel
theorem dX11_readOrder_54 : decode cX11_readOrder 54 = .ok (.invokevirtual 284, 3) := by decide +kernel
theorem dX11_readOrder_57 : decode cX11_readOrder 57 = .ok (.aload_n 0, 1) := by decide +kernel
theorem dX11_readOrder_58 : decode cX11_readOrder 58 = .ok (.getfield 251, 3) := by decide +kernel
theorem dX11_readOrder_61 : decode cX11_readOrder 61 = .ok (.ifCond .eq 4, 3) := by decide +kernel
theorem dX11_readOrder_64 : decode cX11_readOrder 64 = .ok (.return_, 1) := by decide +kernel
theorem dX11_readOrder_65 : decode cX11_readOrder 65 = .ok (.bipush 8, 2) := by decide +kernel
theorem dX11_readOrder_67 : decode cX11_readOrder 67 = .ok (.aload_n 0, 1) := by decide +kernel
theorem dX11_readOrder_68 : decode cX11_readOrder 68 = .ok (.getfield 378, 3) := by decide +kernel
theorem dX11_readOrder_71 : decode cX11_readOrder 71 = .ok (.imul, 1) := by decide +kernel
theorem dX11_readOrder_72 : decode cX11_readOrder 72 = .ok (.istore_n 2, 1) := by decide +kernel
theorem dX11_readOrder_73 : decode cX11_readOrder 73 = .ok (.aload_n 0, 1) := by decide +kernel
theorem dX11_readOrder_74 : decode cX11_readOrder 74 = .ok (.dup, 1) := by decide +kernel
theorem dX11_readOrder_75 : decode cX11_readOrder 75 = .ok (.getfield 378, 3) := by decide +kernel
theorem dX11_readOrder_78 : decode cX11_readOrder 78 = .ok (.iconst 1, 1) := by decide +kernel
theorem dX11_readOrder_79 : decode cX11_readOrder 79 = .ok (.iadd, 1) := by decide +kernel
theorem dX11_readOrder_80 : decode cX11_readOrder 80 = .ok (.putfield 378, 3) := by decide +kernel
theorem dX11_readOrder_83 : decode cX11_readOrder 83 = .ok (.iconst 0, 1) := by decide +kernel
theorem dX11_readOrder_84 : decode cX11_readOrder 84 = .ok (.istore_n 3, 1) := by decide +kernel
theorem dX11_readOrder_85 : decode cX11_readOrder 85 = .ok (.iload_n 3, 1) := by decide +kernel
theorem dX11_readOrder_86 : decode cX11_readOrder 86 = .ok (.bipush 8, 2) := by decide +kernel
theorem dX11_readOrder_88 : decode cX11_readOrder 88 = .ok (.if_icmp .ge 18, 3) := by decide +kernel
theorem dX11_readOrder_91 : decode cX11_readOrder 91 = .ok (.aload_n 0, 1) := by decide +kernel
theorem dX11_readOrder_92 : decode cX11_readOrder 92 = .ok (.getfield 154, 3) := by decide +kernel
theorem dX11_readOrder_95 : decode cX11_readOrder 95 = .ok (.iload_n 2, 1) := by decide +kernel
theorem dX11_readOrder_96 : decode cX11_readOrder 96 = .ok (.iload_n 3, 1) := by decide +kernel
theorem dX11_readOrder_97 : decode cX11_readOrder 97 = .ok (.iadd, 1) := by decide +kernel
theorem dX11_readOrder_98 : decode cX11_readOrder 98 = .ok (.iconst 0, 1) := by decide +kernel
theorem dX11_readOrder_99 : decode cX11_readOrder 99 = .ok (.iastore, 1) := by decide +kernel
theorem dX11_readOrder_100 : decode cX11_readOrder 100 = .ok (.iinc 3 1, 3) := by decide +kernel
theorem dX11_readOrder_103 : decode cX11_readOrder 103 = .ok (.goto (-18), 3) := by decide +kernel
theorem dX11_readOrder_106 : decode cX11_readOrder 106 = .ok (.aload_n 0, 1) := by decide +kernel
theorem dX11_readOrder_107 : decode cX11_readOrder 107 = .ok (.getfield 154, 3) := by decide +kernel
theorem dX11_readOrder_110 : decode cX11_readOrder 110 = .ok (.iload_n 2, 1) := by decide +kernel
theorem dX11_readOrder_111 : decode cX11_readOrder 111 = .ok (.iload_n 1, 1) := by decide +kernel
theorem dX11_readOrder_112 : decode cX11_readOrder 112 = .ok (.iastore, 1) := by decide +kernel
theorem dX11_readOrder_113 : decode cX11_readOrder 113 = .ok (.iload_n 1, 1) := by decide +kernel
theorem dX11_readOrder_114 : decode cX11_readOrder 114 = .ok (.iconst 4, 1) := by decide +kernel
theorem dX11_readOrder_115 : decode cX11_readOrder 115 = .ok (.if_icmp .eq 10, 3) := by decide +kernel
theorem dX11_readOrder_118 : decode cX11_readOrder 118 = .ok (.aload_n 0, 1) := by decide +kernel
theorem dX11_readOrder_119 : decode cX11_readOrder 119 = .ok (.iload_n 2, 1) := by decide +kernel
theorem dX11_readOrder_120 : decode cX11_readOrder 120 = .ok (.iconst 1, 1) := by decide +kernel
theorem dX11_readOrder_121 : decode cX11_readOrder 121 = .ok (.iadd, 1) := by decide +kernel
theorem dX11_readOrder_122 : decode cX11_readOrder 122 = .ok (.invokevirtual 523, 3) := by decide +kernel
theorem dX11_readOrder_125 : decode cX11_readOrder 125 = .ok (.iload_n 1, 1) := by decide +kernel
theorem dX11_readOrder_126 : decode cX11_readOrder 126 = .ok (.iconst 1, 1) := by decide +kernel
theorem dX11_readOrder_127 : decode cX11_readOrder 127 = .ok (.if_icmp .eq 8, 3) := by decide +kernel
theorem dX11_readOrder_130 : decode cX11_readOrder 130 = .ok (.iload_n 1, 1) := by decide +kernel
theorem dX11_readOrder_131 : decode cX11_readOrder 131 = .ok (.iconst 3, 1) := by decide +kernel
theorem dX11_readOrder_132 : decode cX11_readOrder 132 = .ok (.if_icmp .ne 39, 3) := by decide +kernel
theorem dX11_readOrder_135 : decode cX11_readOrder 135 = .ok (.aload_n 0, 1) := by decide +kernel
theorem dX11_readOrder_136 : decode cX11_readOrder 136 = .ok (.getfield 251, 3) := by decide +kernel
theorem dX11_readOrder_139 : decode cX11_readOrder 139 = .ok (.ifCond .ne 25, 3) := by decide +kernel
theorem dX11_readOrder_142 : decode cX11_readOrder 142 = .ok (.aload_n 0, 1) := by decide +kernel
theorem dX11_readOrder_143 : decode cX11_readOrder 143 = .ok (.aload_n 0, 1) := by decide +kernel
theorem dX11_readOrder_144 : decode cX11_readOrder 144 = .ok (.iload_n 1, 1) := by decide +kernel
theorem dX11_readOrder_145 : decode cX11_readOrder 145 = .ok (.iconst 1, 1) := by decide +kernel
theorem dX11_readOrder_146 : decode cX11_readOrder 146 = .ok (.if_icmp .ne 9, 3) := by decide +kernel
theorem dX11_readOrder_149 : decode cX11_readOrder 149 = .ok (.ldc2_w 526, 3) := by decide +kernel
theorem dX11_readOrder_152 : decode cX11_readOrder 152 = .ok (.goto 6, 3) := by decide +kernel
theorem dX11_readOrder_155 : decode cX11_readOrder 155 = .ok (.ldc2_w 528, 3) := by decide +kernel
theorem dX11_readOrder_158 : decode cX11_readOrder 158 = .ok (.invokevirtual 305, 3) := by decide +kernel
theorem dX11_readOrder_161 : decode cX11_readOrder 161 = .ok (.invokevirtual 284, 3) := by decide +kernel
theorem dX11_readOrder_164 : decode cX11_readOrder 164 = .ok (.aload_n 0, 1) := by decide +kernel
theorem dX11_readOrder_165 : decode cX11_readOrder 165 = .ok (.iload_n 2, 1) := by decide +kernel
theorem dX11_readOrder_166 : decode cX11_readOrder 166 = .ok (.iconst 3, 1) := by decide +kernel
theorem dX11_readOrder_167 : decode cX11_readOrder 167 = .ok (.iadd, 1) := by decide +kernel
theorem dX11_readOrder_168 : decode cX11_readOrder 168 = .ok (.invokevirtual 523, 3) := by decide +kernel
theorem dX11_readOrder_171 : decode cX11_readOrder 171 = .ok (.aload_n 0, 1) := by decide +kernel
theorem dX11_readOrder_172 : decode cX11_readOrder 172 = .ok (.getfield 154, 3) := by decide +kernel
theorem dX11_readOrder_175 : decode cX11_readOrder 175 = .ok (.iload_n 2, 1) := by decide +kernel
theorem dX11_readOrder_176 : decode cX11_readOrder 176 = .ok (.bipush 7, 2) := by decide +kernel
theorem dX11_readOrder_178 : decode cX11_readOrder 178 = .ok (.iadd, 1) := by decide +kernel
theorem dX11_readOrder_179 : decode cX11_readOrder 179 = .ok (.iconst 1, 1) := by decide +kernel
theorem dX11_readOrder_180 : decode cX11_readOrder 180 = .ok (.iastore, 1) := by decide +kernel
theorem dX11_readOrder_181 : decode cX11_readOrder 181 = .ok (.aload_n 0, 1) := by decide +kernel
theorem dX11_readOrder_182 : decode cX11_readOrder 182 = .ok (.getfield 251, 3) := by decide +kernel
theorem dX11_readOrder_185 : decode cX11_readOrder 185 = .ok (.ifCond .ne 34, 3) := by decide +kernel
theorem dX11_readOrder_188 : decode cX11_readOrder 188 = .ok (.aload_n 0, 1) := by decide +kernel
theorem dX11_readOrder_189 : decode cX11_readOrder 189 = .ok (.ldc2_w 530, 3) := by decide +kernel
theorem dX11_readOrder_192 : decode cX11_readOrder 192 = .ok (.invokevirtual 305, 3) := by decide +kernel
theorem dX11_readOrder_195 : decode cX11_readOrder 195 = .ok (.ifCond .eq 24, 3) := by decide +kernel
theorem dX11_readOrder_198 : decode cX11_readOrder 198 = .ok (.aload_n 0, 1) := by decide +kernel
theorem dX11_readOrder_199 : decode cX11_readOrder 199 = .ok (.invokevirtual 255, 3) := by decide +kernel
theorem dX11_readOrder_202 : decode cX11_readOrder 202 = .ok (.aload_n 0, 1) := by decide +kernel
theorem dX11_readOrder_203 : decode cX11_readOrder 203 = .ok (.getfield 154, 3) := by decide +kernel
theorem dX11_readOrder_206 : decode cX11_readOrder 206 = .ok (.iload_n 2, 1) := by decide +kernel
theorem dX11_readOrder_207 : decode cX11_readOrder 207 = .ok (.bipush 7, 2) := by decide +kernel
theorem dX11_readOrder_209 : decode cX11_readOrder 209 = .ok (.iadd, 1) := by decide +kernel
theorem dX11_readOrder_210 : decode cX11_readOrder 210 = .ok (.aload_n 0, 1) := by decide +kernel
theorem dX11_readOrder_211 : decode cX11_readOrder 211 = .ok (.lconst 1, 1) := by decide +kernel
theorem dX11_readOrder_212 : decode cX11_readOrder 212 = .ok (.ldc2_w 301, 3) := by decide +kernel
theorem dX11_readOrder_215 : decode cX11_readOrder 215 = .ok (.invokevirtual 342, 3) := by decide +kernel
theorem dX11_readOrder_218 : decode cX11_readOrder 218 = .ok (.iastore, 1) := by decide +kernel
theorem dX11_readOrder_219 : decode cX11_readOrder 219 = .ok (.aload_n 0, 1) := by decide +kernel
theorem dX11_readOrder_220 : decode cX11_readOrder 220 = .ok (.getfield 154, 3) := by decide +kernel
theorem dX11_readOrder_223 : decode cX11_readOrder 223 = .ok (.iload_n 2, 1) := by decide +kernel
theorem dX11_readOrder_224 : decode cX11_readOrder 224 = .ok (.iconst 5, 1) := by decide +kernel
theorem dX11_readOrder_225 : decode cX11_readOrder 225 = .ok (.iadd, 1) := by decide +kernel
theorem dX11_readOrder_226 : decode cX11_readOrder 226 = .ok (.aload_n 0, 1) := by decide +kernel
theorem dX11_readOrder_227 : decode cX11_readOrder 227 = .ok (.getfield 288, 3) := by decide +kernel
theorem dX11_readOrder_230 : decode cX11_readOrder 230 = .ok (.iastore, 1) := by decide +kernel
theorem dX11_readOrder_231 : decode cX11_readOrder 231 = .ok (.aload_n 0, 1) := by decide +kernel
theorem dX11_readOrder_232 : decode cX11_readOrder 232 = .ok (.getfield 251, 3) := by decide +kernel
theorem dX11_readOrder_235 : decode cX11_readOrder 235 = .ok (.ifCond .ne 22, 3) := by decide +kernel
theorem dX11_readOrder_238 : decode cX11_readOrder 238 = .ok (.aload_n 0, 1) := by decide +kernel
theorem dX11_readOrder_239 : decode cX11_readOrder 239 = .ok (.ldc2_w 384, 3) := by decide +kernel
theorem dX11_readOrder_242 : decode cX11_readOrder 242 = .ok (.invokevirtual 305, 3) := by decide +kernel
theorem dX11_readOrder_245 : decode cX11_readOrder 245 = .ok (.ifCond .eq 12, 3) := by decide +kernel
theorem dX11_readOrder_248 : decode cX11_readOrder 248 = .ok (.aload_n 0, 1) := by decide +kernel
theorem dX11_readOrder_249 : decode cX11_readOrder 249 = .ok (.invokevirtual 255, 3) := by decide +kernel
theorem dX11_readOrder_252 : decode cX11_readOrder 252 = .ok (.aload_n 0, 1) := by decide +kernel
theorem dX11_readOrder_253 : decode cX11_readOrder 253 = .ok (.iconst 1, 1) := by decide +kernel
theorem dX11_readOrder_254 : decode cX11_readOrder 254 = .ok (.invokevirtual 381, 3) := by decide +kernel
theorem dX11_readOrder_257 : decode cX11_readOrder 257 = .ok (.aload_n 0, 1) := by decide +kernel
theorem dX11_readOrder_258 : decode cX11_readOrder 258 = .ok (.getfield 154, 3) := by decide +kernel
theorem dX11_readOrder_261 : decode cX11_readOrder 261 = .ok (.iload_n 2, 1) := by decide +kernel
theorem dX11_readOrder_262 : decode cX11_readOrder 262 = .ok (.bipush 6, 2) := by decide +kernel
theorem dX11_readOrder_264 : decode cX11_readOrder 264 = .ok (.iadd, 1) := by decide +kernel
theorem dX11_readOrder_265 : decode cX11_readOrder 265 = .ok (.aload_n 0, 1) := by decide +kernel
theorem dX11_readOrder_266 : decode cX11_readOrder 266 = .ok (.getfield 288, 3) := by decide +kernel
theorem dX11_readOrder_269 : decode cX11_readOrder 269 = .ok (.iastore, 1) := by decide +kernel
theorem dX11_readOrder_270 : decode cX11_readOrder 270 = .ok (.return_, 1) := by decide +kernel
def D_X11_readOrder_257 (h : z_H) (l0 : Option Nat) (l2 : Int32) : Option z_H :=
  (z_gQ 11 h l0 51).bind fun x3469 =>
  (z_gI 11 h l0 23).bind fun x3470 =>
  (z_sI h x3469 (l2 + (6:Int32)) x3470).bind fun h3471 =>
  some h3471
set_option maxRecDepth 100000 in
set_option maxHeartbeats 4000000 in
theorem S_X11_readOrder_257 {G : z_G} {l : Launch}  {h : z_H} {l0 : Option Nat} {l2 : Int32} {res : z_H} (e : D_X11_readOrder_257  h l0 l2 = some res) : z_Run G l 12 M_X11_readOrder 257 [(0, z_r l0), (2, .int l2)] [] h res none := by
  unfold D_X11_readOrder_257 at e
  refine z_aload_n 0 dX11_readOrder_257 rfl ?_
  replace e := z_bd e; obtain ⟨x3469, ex3469, e⟩ := e
  refine z_getQ ex3469 lk_X11_154 dX11_readOrder_258 ?_
  refine z_iload_n 1 dX11_readOrder_261 rfl ?_
  refine z_bipush (v := 6) dX11_readOrder_262 (by decide) ?_
  refine z_iadd dX11_readOrder_264 ?_
  refine z_aload_n 0 dX11_readOrder_265 rfl ?_
  replace e := z_bd e; obtain ⟨x3470, ex3470, e⟩ := e
  refine z_getI ex3470 lk_X11_288 dX11_readOrder_266 ?_
  replace e := z_bd e; obtain ⟨h3471, eh3471, e⟩ := e
  refine z_iast eh3471 dX11_readOrder_269 ?_
  cases e
  exact z_vret dX11_readOrder_270 rfl
def D_X11_readOrder_219 (h : z_H) (l0 : Option Nat) (l2 : Int32) : Option z_H :=
  (z_gQ 11 h l0 51).bind fun x3472 =>
  (z_gI 11 h l0 23).bind fun x3473 =>
  (z_sI h x3472 (l2 + (5:Int32)) x3473).bind fun h3474 =>
  (z_gI 11 h3474 l0 19).bind fun x3475 =>
  if x3475 = 0 then
    (z_ob 11 h3474 l0).bind fun _ =>
    (D_X11_isWord  h3474 l0 (294:Int64)).bind fun p3477 =>
    if p3477.1 = 0 then
      D_X11_readOrder_257   p3477.2 l0 l2
    else
      (z_ob 11 p3477.2 l0).bind fun _ =>
      (D_X11_next  p3477.2 l0).bind fun p3480 =>
      (z_ob 11 p3480 l0).bind fun _ =>
      (D_X11_readExpression  p3480 l0 (1:Int32)).bind fun p3482 =>
      D_X11_readOrder_257   p3482 l0 l2
  else
    D_X11_readOrder_257   h3474 l0 l2
set_option maxRecDepth 100000 in
set_option maxHeartbeats 4000000 in
theorem S_X11_readOrder_219 {G : z_G} {l : Launch}  {h : z_H} {l0 : Option Nat} {l2 : Int32} {res : z_H} (e : D_X11_readOrder_219  h l0 l2 = some res) : z_Run G l 12 M_X11_readOrder 219 [(0, z_r l0), (2, .int l2)] [] h res none := by
  unfold D_X11_readOrder_219 at e
  refine z_aload_n 0 dX11_readOrder_219 rfl ?_
  replace e := z_bd e; obtain ⟨x3472, ex3472, e⟩ := e
  refine z_getQ ex3472 lk_X11_154 dX11_readOrder_220 ?_
  refine z_iload_n 1 dX11_readOrder_223 rfl ?_
  refine z_iconst (v := 5) dX11_readOrder_224 (by decide) ?_
  refine z_iadd dX11_readOrder_225 ?_
  refine z_aload_n 0 dX11_readOrder_226 rfl ?_
  replace e := z_bd e; obtain ⟨x3473, ex3473, e⟩ := e
  refine z_getI ex3473 lk_X11_288 dX11_readOrder_227 ?_
  replace e := z_bd e; obtain ⟨h3474, eh3474, e⟩ := e
  refine z_iast eh3474 dX11_readOrder_230 ?_
  refine z_aload_n 0 dX11_readOrder_231 rfl ?_
  replace e := z_bd e; obtain ⟨x3475, ex3475, e⟩ := e
  refine z_getI ex3475 lk_X11_251 dX11_readOrder_232 ?_
  refine z_if_ne (tgt := 257) dX11_readOrder_235 (by decide) (fun c3476 => ?_) (fun c3476 => ?_)
  · rw [if_neg c3476] at e
    exact z_weak [0, 1] rfl (S_X11_readOrder_257   e)
  · rw [if_pos c3476] at e
    refine z_aload_n 0 dX11_readOrder_238 rfl ?_
    refine z_ldc2 dX11_readOrder_239 kj_X11_384 ?_
    replace e := z_bd e; obtain ⟨o3478, eo3478, e⟩ := e
    replace e := z_bd e; obtain ⟨p3477, ep3477, e⟩ := e
    refine z_cV [.long (294:Int64)] (S_X11_isWord  ep3477) eo3478 rfl ml_X11_305 ck_X11_isWord vk_X11_isWord dX11_readOrder_242 (by decide) rfl (Nat.zero_le _) rfl ?_
    refine z_if_eq (tgt := 257) dX11_readOrder_245 (by decide) (fun c3479 => ?_) (fun c3479 => ?_)
    · rw [if_pos c3479] at e
      exact z_weak [0, 1] rfl (S_X11_readOrder_257   e)
    · rw [if_neg c3479] at e
      refine z_aload_n 0 dX11_readOrder_248 rfl ?_
      replace e := z_bd e; obtain ⟨o3481, eo3481, e⟩ := e
      replace e := z_bd e; obtain ⟨p3480, ep3480, e⟩ := e
      refine z_cV [] (S_X11_next  ep3480) eo3481 rfl ml_X11_255 ck_X11_next vk_X11_next dX11_readOrder_249 (by decide) rfl (Nat.zero_le _) rfl ?_
      refine z_aload_n 0 dX11_readOrder_252 rfl ?_
      refine z_iconst (v := 1) dX11_readOrder_253 (by decide) ?_
      replace e := z_bd e; obtain ⟨o3483, eo3483, e⟩ := e
      replace e := z_bd e; obtain ⟨p3482, ep3482, e⟩ := e
      refine z_cV [.int (1:Int32)] (S_X11_readExpression  ep3482) eo3483 rfl ml_X11_381 ck_X11_readExpression vk_X11_readExpression dX11_readOrder_254 (by decide) rfl (Nat.zero_le _) rfl ?_
      exact z_weak [0, 1] rfl (S_X11_readOrder_257   e)
def D_X11_readOrder_171 (h : z_H) (l0 : Option Nat) (l2 : Int32) : Option z_H :=
  (z_gQ 11 h l0 51).bind fun x3484 =>
  (z_sI h x3484 (l2 + (7:Int32)) (1:Int32)).bind fun h3485 =>
  (z_gI 11 h3485 l0 19).bind fun x3486 =>
  if x3486 = 0 then
    (z_ob 11 h3485 l0).bind fun _ =>
    (D_X11_isWord  h3485 l0 (21279923:Int64)).bind fun p3488 =>
    if p3488.1 = 0 then
      D_X11_readOrder_219   p3488.2 l0 l2
    else
      (z_ob 11 p3488.2 l0).bind fun _ =>
      (D_X11_next  p3488.2 l0).bind fun p3491 =>
      (z_gQ 11 p3491 l0 51).bind fun x3493 =>
      (z_ob 11 p3491 l0).bind fun _ =>
      (D_X11_number  p3491 l0 (1:Int64) (20:Int64)).bind fun p3494 =>
      (z_sI p3494.2 x3493 (l2 + (7:Int32)) p3494.1).bind fun h3496 =>
      D_X11_readOrder_219   h3496 l0 l2
  else
    D_X11_readOrder_219   h3485 l0 l2
set_option maxRecDepth 100000 in
set_option maxHeartbeats 4000000 in
theorem S_X11_readOrder_171 {G : z_G} {l : Launch}  {h : z_H} {l0 : Option Nat} {l2 : Int32} {res : z_H} (e : D_X11_readOrder_171  h l0 l2 = some res) : z_Run G l 12 M_X11_readOrder 171 [(0, z_r l0), (2, .int l2)] [] h res none := by
  unfold D_X11_readOrder_171 at e
  refine z_aload_n 0 dX11_readOrder_171 rfl ?_
  replace e := z_bd e; obtain ⟨x3484, ex3484, e⟩ := e
  refine z_getQ ex3484 lk_X11_154 dX11_readOrder_172 ?_
  refine z_iload_n 1 dX11_readOrder_175 rfl ?_
  refine z_bipush (v := 7) dX11_readOrder_176 (by decide) ?_
  refine z_iadd dX11_readOrder_178 ?_
  refine z_iconst (v := 1) dX11_readOrder_179 (by decide) ?_
  replace e := z_bd e; obtain ⟨h3485, eh3485, e⟩ := e
  refine z_iast eh3485 dX11_readOrder_180 ?_
  refine z_aload_n 0 dX11_readOrder_181 rfl ?_
  replace e := z_bd e; obtain ⟨x3486, ex3486, e⟩ := e
  refine z_getI ex3486 lk_X11_251 dX11_readOrder_182 ?_
  refine z_if_ne (tgt := 219) dX11_readOrder_185 (by decide) (fun c3487 => ?_) (fun c3487 => ?_)
  · rw [if_neg c3487] at e
    exact z_weak [0, 1] rfl (S_X11_readOrder_219   e)
  · rw [if_pos c3487] at e
    refine z_aload_n 0 dX11_readOrder_188 rfl ?_
    refine z_ldc2 dX11_readOrder_189 kj_X11_530 ?_
    replace e := z_bd e; obtain ⟨o3489, eo3489, e⟩ := e
    replace e := z_bd e; obtain ⟨p3488, ep3488, e⟩ := e
    refine z_cV [.long (21279923:Int64)] (S_X11_isWord  ep3488) eo3489 rfl ml_X11_305 ck_X11_isWord vk_X11_isWord dX11_readOrder_192 (by decide) rfl (Nat.zero_le _) rfl ?_
    refine z_if_eq (tgt := 219) dX11_readOrder_195 (by decide) (fun c3490 => ?_) (fun c3490 => ?_)
    · rw [if_pos c3490] at e
      exact z_weak [0, 1] rfl (S_X11_readOrder_219   e)
    · rw [if_neg c3490] at e
      refine z_aload_n 0 dX11_readOrder_198 rfl ?_
      replace e := z_bd e; obtain ⟨o3492, eo3492, e⟩ := e
      replace e := z_bd e; obtain ⟨p3491, ep3491, e⟩ := e
      refine z_cV [] (S_X11_next  ep3491) eo3492 rfl ml_X11_255 ck_X11_next vk_X11_next dX11_readOrder_199 (by decide) rfl (Nat.zero_le _) rfl ?_
      refine z_aload_n 0 dX11_readOrder_202 rfl ?_
      replace e := z_bd e; obtain ⟨x3493, ex3493, e⟩ := e
      refine z_getQ ex3493 lk_X11_154 dX11_readOrder_203 ?_
      refine z_iload_n 1 dX11_readOrder_206 rfl ?_
      refine z_bipush (v := 7) dX11_readOrder_207 (by decide) ?_
      refine z_iadd dX11_readOrder_209 ?_
      refine z_aload_n 0 dX11_readOrder_210 rfl ?_
      refine z_lconst (v := 1) dX11_readOrder_211 (by decide) ?_
      refine z_ldc2 dX11_readOrder_212 kj_X11_301 ?_
      replace e := z_bd e; obtain ⟨o3495, eo3495, e⟩ := e
      replace e := z_bd e; obtain ⟨p3494, ep3494, e⟩ := e
      refine z_cV [.long (1:Int64), .long (20:Int64)] (S_X11_number  ep3494) eo3495 rfl ml_X11_342 ck_X11_number vk_X11_number dX11_readOrder_215 (by decide) rfl (by simp [z_ci, z_cj, z_cr, z_cx]) rfl ?_
      replace e := z_bd e; obtain ⟨h3496, eh3496, e⟩ := e
      refine z_iast eh3496 dX11_readOrder_218 ?_
      exact z_weak [0, 1] rfl (S_X11_readOrder_219   e)
def D_X11_readOrder_164 (h : z_H) (l0 : Option Nat) (l2 : Int32) : Option z_H :=
  (z_ob 11 h l0).bind fun _ =>
  (D_X11_readSum  h l0 (l2 + (3:Int32))).bind fun p3497 =>
  D_X11_readOrder_171   p3497 l0 l2
set_option maxRecDepth 100000 in
set_option maxHeartbeats 4000000 in
theorem S_X11_readOrder_164 {G : z_G} {l : Launch}  {h : z_H} {l0 : Option Nat} {l2 : Int32} {res : z_H} (e : D_X11_readOrder_164  h l0 l2 = some res) : z_Run G l 12 M_X11_readOrder 164 [(0, z_r l0), (2, .int l2)] [] h res none := by
  unfold D_X11_readOrder_164 at e
  refine z_aload_n 0 dX11_readOrder_164 rfl ?_
  refine z_iload_n 1 dX11_readOrder_165 rfl ?_
  refine z_iconst (v := 3) dX11_readOrder_166 (by decide) ?_
  refine z_iadd dX11_readOrder_167 ?_
  replace e := z_bd e; obtain ⟨o3498, eo3498, e⟩ := e
  replace e := z_bd e; obtain ⟨p3497, ep3497, e⟩ := e
  refine z_cV [.int (l2 + (3:Int32))] (S_X11_readSum  ep3497) eo3498 rfl ml_X11_523 ck_X11_readSum vk_X11_readSum dX11_readOrder_168 (by decide) rfl (Nat.zero_le _) rfl ?_
  exact z_weak [0, 1] rfl (S_X11_readOrder_171   e)
def D_X11_readOrder_158 (h : z_H) (l0 : Option Nat) (l2 : Int32) (s0 : Option Nat) (s1 : Option Nat) (s2 : Int64) : Option z_H :=
  (z_ob 11 h s1).bind fun _ =>
  (D_X11_isWord  h s1 s2).bind fun p3499 =>
  (z_ob 11 p3499.2 s0).bind fun _ =>
  (D_X11_must  p3499.2 s0 p3499.1).bind fun p3501 =>
  D_X11_readOrder_164   p3501 l0 l2
set_option maxRecDepth 100000 in
set_option maxHeartbeats 4000000 in
theorem S_X11_readOrder_158 {G : z_G} {l : Launch}  {h : z_H} {l0 : Option Nat} {l2 : Int32} {s0 : Option Nat} {s1 : Option Nat} {s2 : Int64} {res : z_H} (e : D_X11_readOrder_158  h l0 l2 s0 s1 s2 = some res) : z_Run G l 12 M_X11_readOrder 158 [(0, z_r l0), (2, .int l2)] [.long s2, z_r s1, z_r s0] h res none := by
  unfold D_X11_readOrder_158 at e
  replace e := z_bd e; obtain ⟨o3500, eo3500, e⟩ := e
  replace e := z_bd e; obtain ⟨p3499, ep3499, e⟩ := e
  refine z_cV [.long s2] (S_X11_isWord  ep3499) eo3500 rfl ml_X11_305 ck_X11_isWord vk_X11_isWord dX11_readOrder_158 (by decide) rfl (by simp [z_ci, z_cj, z_cr, z_cx]) rfl ?_
  replace e := z_bd e; obtain ⟨o3502, eo3502, e⟩ := e
  replace e := z_bd e; obtain ⟨p3501, ep3501, e⟩ := e
  refine z_cV [.int p3499.1] (S_X11_must  ep3501) eo3502 rfl ml_X11_284 ck_X11_must vk_X11_must dX11_readOrder_161 (by decide) rfl (Nat.zero_le _) rfl ?_
  exact z_weak [0, 1] rfl (S_X11_readOrder_164   e)
def D_X11_readOrder_135 (h : z_H) (l0 : Option Nat) (l1 : Int32) (l2 : Int32) : Option z_H :=
  (z_gI 11 h l0 19).bind fun x3503 =>
  if x3503 = 0 then
    if l1 = (1:Int32) then
      D_X11_readOrder_158   h l0 l2 l0 l0 (655:Int64)
    else
      D_X11_readOrder_158   h l0 l2 l0 l0 (52:Int64)
  else
    D_X11_readOrder_164   h l0 l2
set_option maxRecDepth 100000 in
set_option maxHeartbeats 4000000 in
theorem S_X11_readOrder_135 {G : z_G} {l : Launch}  {h : z_H} {l0 : Option Nat} {l1 : Int32} {l2 : Int32} {res : z_H} (e : D_X11_readOrder_135  h l0 l1 l2 = some res) : z_Run G l 12 M_X11_readOrder 135 [(0, z_r l0), (1, .int l1), (2, .int l2)] [] h res none := by
  unfold D_X11_readOrder_135 at e
  refine z_aload_n 0 dX11_readOrder_135 rfl ?_
  replace e := z_bd e; obtain ⟨x3503, ex3503, e⟩ := e
  refine z_getI ex3503 lk_X11_251 dX11_readOrder_136 ?_
  refine z_if_ne (tgt := 164) dX11_readOrder_139 (by decide) (fun c3504 => ?_) (fun c3504 => ?_)
  · rw [if_neg c3504] at e
    exact z_weak [0, 2] rfl (S_X11_readOrder_164   e)
  · rw [if_pos c3504] at e
    refine z_aload_n 0 dX11_readOrder_142 rfl ?_
    refine z_aload_n 0 dX11_readOrder_143 rfl ?_
    refine z_iload_n 1 dX11_readOrder_144 rfl ?_
    refine z_iconst (v := 1) dX11_readOrder_145 (by decide) ?_
    refine z_icmp_ne (tgt := 155) dX11_readOrder_146 (by decide) (fun c3505 => ?_) (fun c3505 => ?_)
    · rw [if_neg c3505] at e
      refine z_ldc2 dX11_readOrder_155 kj_X11_528 ?_
      exact z_weak [0, 2] rfl (S_X11_readOrder_158   e)
    · rw [if_pos c3505] at e
      refine z_ldc2 dX11_readOrder_149 kj_X11_526 ?_
      refine z_goto (tgt := 158) dX11_readOrder_152 (by decide) ?_
      exact z_weak [0, 2] rfl (S_X11_readOrder_158   e)
def D_X11_readOrder_125 (h : z_H) (l0 : Option Nat) (l1 : Int32) (l2 : Int32) : Option z_H :=
  if l1 = (1:Int32) then
    D_X11_readOrder_135   h l0 l1 l2
  else
    if l1 = (3:Int32) then
      D_X11_readOrder_135   h l0 l1 l2
    else
      D_X11_readOrder_171   h l0 l2
set_option maxRecDepth 100000 in
set_option maxHeartbeats 4000000 in
theorem S_X11_readOrder_125 {G : z_G} {l : Launch}  {h : z_H} {l0 : Option Nat} {l1 : Int32} {l2 : Int32} {res : z_H} (e : D_X11_readOrder_125  h l0 l1 l2 = some res) : z_Run G l 12 M_X11_readOrder 125 [(0, z_r l0), (1, .int l1), (2, .int l2)] [] h res none := by
  unfold D_X11_readOrder_125 at e
  refine z_iload_n 1 dX11_readOrder_125 rfl ?_
  refine z_iconst (v := 1) dX11_readOrder_126 (by decide) ?_
  refine z_icmp_eq (tgt := 135) dX11_readOrder_127 (by decide) (fun c3506 => ?_) (fun c3506 => ?_)
  · rw [if_pos c3506] at e
    exact z_weak [0, 1, 2] rfl (S_X11_readOrder_135   e)
  · rw [if_neg c3506] at e
    refine z_iload_n 1 dX11_readOrder_130 rfl ?_
    refine z_iconst (v := 3) dX11_readOrder_131 (by decide) ?_
    refine z_icmp_ne (tgt := 171) dX11_readOrder_132 (by decide) (fun c3507 => ?_) (fun c3507 => ?_)
    · rw [if_neg c3507] at e
      exact z_weak [0, 2] rfl (S_X11_readOrder_171   e)
    · rw [if_pos c3507] at e
      exact z_weak [0, 1, 2] rfl (S_X11_readOrder_135   e)
def D_X11_readOrder_85b (k85 : z_H → Option Nat → Int32 → Int32 → Int32 → Option z_H) (h : z_H) (l0 : Option Nat) (l1 : Int32) (l2 : Int32) (l3 : Int32) : Option z_H :=
  if (8:Int32) ≤ l3 then
    (z_gQ 11 h l0 51).bind fun x3509 =>
    (z_sI h x3509 l2 l1).bind fun h3510 =>
    if l1 = (4:Int32) then
      D_X11_readOrder_125   h3510 l0 l1 l2
    else
      (z_ob 11 h3510 l0).bind fun _ =>
      (D_X11_readSum  h3510 l0 (l2 + (1:Int32))).bind fun p3512 =>
      D_X11_readOrder_125   p3512 l0 l1 l2
  else
    (z_gQ 11 h l0 51).bind fun x3514 =>
    (z_sI h x3514 (l2 + l3) (0:Int32)).bind fun h3515 =>
    (some (l3 + (1:Int32))).bind fun x3516 =>
    k85 h3515 l0 l1 l2 x3516
def D_X11_readOrder_85 (n : Nat) : z_H → Option Nat → Int32 → Int32 → Int32 → Option z_H := Nat.rec (motive := fun _ => z_H → Option Nat → Int32 → Int32 → Int32 → Option z_H) (fun _ _ _ _ _ => none) (fun _ k => D_X11_readOrder_85b  k) n
set_option maxRecDepth 100000 in
set_option maxHeartbeats 4000000 in
theorem S_X11_readOrder_85 {G : z_G} {l : Launch}  (n : Nat) : ∀ {h : z_H} {l0 : Option Nat} {l1 : Int32} {l2 : Int32} {l3 : Int32} {res : z_H}, D_X11_readOrder_85  n h l0 l1 l2 l3 = some res → z_Run G l 12 M_X11_readOrder 85 [(0, z_r l0), (1, .int l1), (2, .int l2), (3, .int l3)] [] h res none := by
  induction n with
  | zero => intro h l0 l1 l2 l3 res e; cases e
  | succ n hk85 =>
    intro h l0 l1 l2 l3 res e
    replace e : D_X11_readOrder_85b  (D_X11_readOrder_85  n) h l0 l1 l2 l3 = some res := e
    unfold D_X11_readOrder_85b at e
    refine z_iload_n 3 dX11_readOrder_85 rfl ?_
    refine z_bipush (v := 8) dX11_readOrder_86 (by decide) ?_
    refine z_icmp_ge (tgt := 106) dX11_readOrder_88 (by decide) (fun c3508 => ?_) (fun c3508 => ?_)
    · rw [if_pos c3508] at e
      refine z_aload_n 0 dX11_readOrder_106 rfl ?_
      replace e := z_bd e; obtain ⟨x3509, ex3509, e⟩ := e
      refine z_getQ ex3509 lk_X11_154 dX11_readOrder_107 ?_
      refine z_iload_n 2 dX11_readOrder_110 rfl ?_
      refine z_iload_n 1 dX11_readOrder_111 rfl ?_
      replace e := z_bd e; obtain ⟨h3510, eh3510, e⟩ := e
      refine z_iast eh3510 dX11_readOrder_112 ?_
      refine z_iload_n 1 dX11_readOrder_113 rfl ?_
      refine z_iconst (v := 4) dX11_readOrder_114 (by decide) ?_
      refine z_icmp_eq (tgt := 125) dX11_readOrder_115 (by decide) (fun c3511 => ?_) (fun c3511 => ?_)
      · rw [if_pos c3511] at e
        exact z_weak [0, 1, 2] rfl (S_X11_readOrder_125   e)
      · rw [if_neg c3511] at e
        refine z_aload_n 0 dX11_readOrder_118 rfl ?_
        refine z_iload_n 2 dX11_readOrder_119 rfl ?_
        refine z_iconst (v := 1) dX11_readOrder_120 (by decide) ?_
        refine z_iadd dX11_readOrder_121 ?_
        replace e := z_bd e; obtain ⟨o3513, eo3513, e⟩ := e
        replace e := z_bd e; obtain ⟨p3512, ep3512, e⟩ := e
        refine z_cV [.int (l2 + (1:Int32))] (S_X11_readSum  ep3512) eo3513 rfl ml_X11_523 ck_X11_readSum vk_X11_readSum dX11_readOrder_122 (by decide) rfl (Nat.zero_le _) rfl ?_
        exact z_weak [0, 1, 2] rfl (S_X11_readOrder_125   e)
    · rw [if_neg c3508] at e
      refine z_aload_n 0 dX11_readOrder_91 rfl ?_
      replace e := z_bd e; obtain ⟨x3514, ex3514, e⟩ := e
      refine z_getQ ex3514 lk_X11_154 dX11_readOrder_92 ?_
      refine z_iload_n 2 dX11_readOrder_95 rfl ?_
      refine z_iload_n 3 dX11_readOrder_96 rfl ?_
      refine z_iadd dX11_readOrder_97 ?_
      refine z_iconst (v := 0) dX11_readOrder_98 (by decide) ?_
      replace e := z_bd e; obtain ⟨h3515, eh3515, e⟩ := e
      refine z_iast eh3515 dX11_readOrder_99 ?_
      replace e := z_bd e; obtain ⟨x3516, ex3516, e⟩ := e
      refine z_iinc (q := 3) (v := x3516) (L' := [(3, .int x3516), (0, z_r l0), (1, .int l1), (2, .int l2)]) dX11_readOrder_100 rfl (Option.some.inj ex3516) (by decide) rfl ?_
      refine z_goto (tgt := 85) dX11_readOrder_103 (by decide) ?_
      exact z_weak [1, 2, 3, 0] rfl (hk85 e)
def D_X11_readOrder_54 (h : z_H) (l0 : Option Nat) (l1 : Int32) (s0 : Option Nat) (s1 : Int32) : Option z_H :=
  (z_ob 11 h s0).bind fun _ =>
  (D_X11_must  h s0 s1).bind fun p3517 =>
  (z_gI 11 p3517 l0 19).bind fun x3519 =>
  if x3519 = 0 then
    (z_gI 11 p3517 l0 21).bind fun x3521 =>
    (some ((8:Int32) * x3521)).bind fun x3522 =>
    (z_gI 11 p3517 l0 21).bind fun x3523 =>
    (z_pV 11 p3517 l0 21 (.int (x3523 + (1:Int32)))).bind fun h3524 =>
    D_X11_readOrder_85   z_F h3524 l0 l1 x3522 (0:Int32)
  else
    some p3517
set_option maxRecDepth 100000 in
set_option maxHeartbeats 4000000 in
theorem S_X11_readOrder_54 {G : z_G} {l : Launch}  {h : z_H} {l0 : Option Nat} {l1 : Int32} {s0 : Option Nat} {s1 : Int32} {res : z_H} (e : D_X11_readOrder_54  h l0 l1 s0 s1 = some res) : z_Run G l 12 M_X11_readOrder 54 [(0, z_r l0), (1, .int l1)] [.int s1, z_r s0] h res none := by
  unfold D_X11_readOrder_54 at e
  replace e := z_bd e; obtain ⟨o3518, eo3518, e⟩ := e
  replace e := z_bd e; obtain ⟨p3517, ep3517, e⟩ := e
  refine z_cV [.int s1] (S_X11_must  ep3517) eo3518 rfl ml_X11_284 ck_X11_must vk_X11_must dX11_readOrder_54 (by decide) rfl (Nat.zero_le _) rfl ?_
  refine z_aload_n 0 dX11_readOrder_57 rfl ?_
  replace e := z_bd e; obtain ⟨x3519, ex3519, e⟩ := e
  refine z_getI ex3519 lk_X11_251 dX11_readOrder_58 ?_
  refine z_if_eq (tgt := 65) dX11_readOrder_61 (by decide) (fun c3520 => ?_) (fun c3520 => ?_)
  · rw [if_pos c3520] at e
    refine z_bipush (v := 8) dX11_readOrder_65 (by decide) ?_
    refine z_aload_n 0 dX11_readOrder_67 rfl ?_
    replace e := z_bd e; obtain ⟨x3521, ex3521, e⟩ := e
    refine z_getI ex3521 lk_X11_378 dX11_readOrder_68 ?_
    refine z_imul dX11_readOrder_71 ?_
    replace e := z_bd e; obtain ⟨x3522, ex3522, e⟩ := e
    refine z_topI ex3522 ?_
    refine z_istore_n (L' := [(2, .int x3522), (0, z_r l0), (1, .int l1)]) dX11_readOrder_72 rfl (by decide) rfl ?_
    refine z_aload_n 1 dX11_readOrder_73 rfl ?_
    refine z_dup dX11_readOrder_74 (z_cr _) ?_
    replace e := z_bd e; obtain ⟨x3523, ex3523, e⟩ := e
    refine z_getI ex3523 lk_X11_378 dX11_readOrder_75 ?_
    refine z_iconst (v := 1) dX11_readOrder_78 (by decide) ?_
    refine z_iadd dX11_readOrder_79 ?_
    replace e := z_bd e; obtain ⟨h3524, eh3524, e⟩ := e
    refine z_putV eh3524 lk_X11_378 wk_11_21 (fun _ => rfl) (fun _ => rfl) dX11_readOrder_80 ?_
    refine z_iconst (v := 0) dX11_readOrder_83 (by decide) ?_
    refine z_istore_n (L' := [(3, .int (0:Int32)), (2, .int x3522), (0, z_r l0), (1, .int l1)]) dX11_readOrder_84 rfl (by decide) rfl ?_
    exact z_weak [2, 3, 1, 0] rfl (S_X11_readOrder_85   z_F e)
  · rw [if_neg c3520] at e
    cases e
    exact z_vret dX11_readOrder_64 rfl
def D_X11_readOrder_53 (h : z_H) (l0 : Option Nat) (l1 : Int32) (s0 : Option Nat) : Option z_H :=
  D_X11_readOrder_54   h l0 l1 s0 (0:Int32)
set_option maxRecDepth 100000 in
set_option maxHeartbeats 4000000 in
theorem S_X11_readOrder_53 {G : z_G} {l : Launch}  {h : z_H} {l0 : Option Nat} {l1 : Int32} {s0 : Option Nat} {res : z_H} (e : D_X11_readOrder_53  h l0 l1 s0 = some res) : z_Run G l 12 M_X11_readOrder 53 [(0, z_r l0), (1, .int l1)] [z_r s0] h res none := by
  unfold D_X11_readOrder_53 at e
  refine z_iconst (v := 0) dX11_readOrder_53 (by decide) ?_
  exact z_weak [0, 1] rfl (S_X11_readOrder_54   e)
def D_X11_readOrder_27 (k4 : z_H → Option Nat → Int32 → Int32 → Option z_H) (h : z_H) (l0 : Option Nat) (l2 : Int32) (s0 : Int32) : Option z_H :=
  (some (l2 + (1:Int32))).bind fun x3525 =>
  k4 h l0 s0 x3525
set_option maxRecDepth 100000 in
set_option maxHeartbeats 4000000 in
theorem S_X11_readOrder_27 {G : z_G} {l : Launch} {k4 : z_H → Option Nat → Int32 → Int32 → Option z_H} (hk4 : ∀ {h : z_H} {l0 : Option Nat} {l1 : Int32} {l2 : Int32} {res : z_H}, k4 h l0 l1 l2 = some res → z_Run G l 12 M_X11_readOrder 4 [(0, z_r l0), (1, .int l1), (2, .int l2)] [] h res none) {h : z_H} {l0 : Option Nat} {l2 : Int32} {s0 : Int32} {res : z_H} (e : D_X11_readOrder_27 k4 h l0 l2 s0 = some res) : z_Run G l 12 M_X11_readOrder 27 [(0, z_r l0), (2, .int l2)] [.int s0] h res none := by
  unfold D_X11_readOrder_27 at e
  refine z_istore_n (L' := [(1, .int s0), (0, z_r l0), (2, .int l2)]) dX11_readOrder_27 rfl (by decide) (by simp [z_cr]) ?_
  replace e := z_bd e; obtain ⟨x3525, ex3525, e⟩ := e
  refine z_iinc (q := 2) (v := x3525) (L' := [(2, .int x3525), (1, .int s0), (0, z_r l0)]) dX11_readOrder_28 rfl (Option.some.inj ex3525) (by decide) rfl ?_
  refine z_goto (tgt := 4) dX11_readOrder_31 (by decide) ?_
  exact z_weak [2, 1, 0] rfl (hk4 e)
def D_X11_readOrder_4b (k4 : z_H → Option Nat → Int32 → Int32 → Option z_H) (h : z_H) (l0 : Option Nat) (l1 : Int32) (l2 : Int32) : Option z_H :=
  if (5:Int32) ≤ l2 then
    if l1 = (-1:Int32) then
      D_X11_readOrder_53   h l0 l1 l0
    else
      (z_gI 11 h l0 21).bind fun x3528 =>
      if (12:Int32) ≤ x3528 then
        D_X11_readOrder_53   h l0 l1 l0
      else
        D_X11_readOrder_54   h l0 l1 l0 (1:Int32)
  else
    (z_gQ 11 h l0 50).bind fun x3530 =>
    (z_aJ h x3530 l2).bind fun x3531 =>
    (z_ob 11 h l0).bind fun _ =>
    (D_X11_isWord  h l0 x3531).bind fun p3532 =>
    if p3532.1 = 0 then
      D_X11_readOrder_27  k4 p3532.2 l0 l2 l1
    else
      D_X11_readOrder_27  k4 p3532.2 l0 l2 l2
def D_X11_readOrder_4 (n : Nat) : z_H → Option Nat → Int32 → Int32 → Option z_H := Nat.rec (motive := fun _ => z_H → Option Nat → Int32 → Int32 → Option z_H) (fun _ _ _ _ => none) (fun _ k => D_X11_readOrder_4b  k) n
set_option maxRecDepth 100000 in
set_option maxHeartbeats 4000000 in
theorem S_X11_readOrder_4 {G : z_G} {l : Launch}  (n : Nat) : ∀ {h : z_H} {l0 : Option Nat} {l1 : Int32} {l2 : Int32} {res : z_H}, D_X11_readOrder_4  n h l0 l1 l2 = some res → z_Run G l 12 M_X11_readOrder 4 [(0, z_r l0), (1, .int l1), (2, .int l2)] [] h res none := by
  induction n with
  | zero => intro h l0 l1 l2 res e; cases e
  | succ n hk4 =>
    intro h l0 l1 l2 res e
    replace e : D_X11_readOrder_4b  (D_X11_readOrder_4  n) h l0 l1 l2 = some res := e
    unfold D_X11_readOrder_4b at e
    refine z_iload_n 2 dX11_readOrder_4 rfl ?_
    refine z_iconst (v := 5) dX11_readOrder_5 (by decide) ?_
    refine z_icmp_ge (tgt := 34) dX11_readOrder_6 (by decide) (fun c3526 => ?_) (fun c3526 => ?_)
    · rw [if_pos c3526] at e
      refine z_aload_n 0 dX11_readOrder_34 rfl ?_
      refine z_iload_n 1 dX11_readOrder_35 rfl ?_
      refine z_iconst (v := -1) dX11_readOrder_36 (by decide) ?_
      refine z_icmp_eq (tgt := 53) dX11_readOrder_37 (by decide) (fun c3527 => ?_) (fun c3527 => ?_)
      · rw [if_pos c3527] at e
        exact z_weak [0, 1] rfl (S_X11_readOrder_53   e)
      · rw [if_neg c3527] at e
        refine z_aload_n 0 dX11_readOrder_40 rfl ?_
        replace e := z_bd e; obtain ⟨x3528, ex3528, e⟩ := e
        refine z_getI ex3528 lk_X11_378 dX11_readOrder_41 ?_
        refine z_bipush (v := 12) dX11_readOrder_44 (by decide) ?_
        refine z_icmp_ge (tgt := 53) dX11_readOrder_46 (by decide) (fun c3529 => ?_) (fun c3529 => ?_)
        · rw [if_pos c3529] at e
          exact z_weak [0, 1] rfl (S_X11_readOrder_53   e)
        · rw [if_neg c3529] at e
          refine z_iconst (v := 1) dX11_readOrder_49 (by decide) ?_
          refine z_goto (tgt := 54) dX11_readOrder_50 (by decide) ?_
          exact z_weak [0, 1] rfl (S_X11_readOrder_54   e)
    · rw [if_neg c3526] at e
      refine z_aload_n 0 dX11_readOrder_9 rfl ?_
      refine z_aload_n 0 dX11_readOrder_10 rfl ?_
      replace e := z_bd e; obtain ⟨x3530, ex3530, e⟩ := e
      refine z_getQ ex3530 lk_X11_151 dX11_readOrder_11 ?_
      refine z_iload_n 2 dX11_readOrder_14 rfl ?_
      replace e := z_bd e; obtain ⟨x3531, ex3531, e⟩ := e
      refine z_lald ex3531 dX11_readOrder_15 ?_
      replace e := z_bd e; obtain ⟨o3533, eo3533, e⟩ := e
      replace e := z_bd e; obtain ⟨p3532, ep3532, e⟩ := e
      refine z_cV [.long x3531] (S_X11_isWord  ep3532) eo3533 rfl ml_X11_305 ck_X11_isWord vk_X11_isWord dX11_readOrder_16 (by decide) rfl (Nat.zero_le _) rfl ?_
      refine z_if_eq (tgt := 26) dX11_readOrder_19 (by decide) (fun c3534 => ?_) (fun c3534 => ?_)
      · rw [if_pos c3534] at e
        refine z_iload_n 1 dX11_readOrder_26 rfl ?_
        exact z_weak [0, 2] rfl (S_X11_readOrder_27  @hk4 e)
      · rw [if_neg c3534] at e
        refine z_iload_n 2 dX11_readOrder_22 rfl ?_
        refine z_goto (tgt := 27) dX11_readOrder_23 (by decide) ?_
        exact z_weak [0, 2] rfl (S_X11_readOrder_27  @hk4 e)
def D_X11_readOrder (h : z_H) (l0 : Option Nat) : Option z_H :=
  D_X11_readOrder_4   z_F h l0 (-1:Int32) (0:Int32)
set_option maxRecDepth 100000 in
set_option maxHeartbeats 4000000 in
theorem S_X11_readOrder {G : z_G} {l : Launch} {h : z_H} {l0 : Option Nat} {res : z_H} (e : D_X11_readOrder h l0 = some res) : z_Meth G l 12 M_X11_readOrder [z_r l0] h res none := by
  refine z_Meth.of ck_X11_readOrder.2.2.2.2 (by simp [lg_sl, z_ci, z_cj, z_cr, z_cx]) ck_X11_readOrder.1 ?_
  rw [show lv_args 0 [z_r l0] = [(0, z_r l0)] from by simp [lv_args, z_ci, z_cj, z_cr, z_cx]]
  unfold D_X11_readOrder at e
  refine z_iconst (v := -1) dX11_readOrder_0 (by decide) ?_
  refine z_istore_n (L' := [(1, .int (-1:Int32)), (0, z_r l0)]) dX11_readOrder_1 rfl (by decide) (by simp [z_cr]) ?_
  refine z_iconst (v := 0) dX11_readOrder_2 (by decide) ?_
  refine z_istore_n (L' := [(2, .int (0:Int32)), (1, .int (-1:Int32)), (0, z_r l0)]) dX11_readOrder_3 rfl (by decide) rfl ?_
  exact z_weak [2, 1, 0] rfl (S_X11_readOrder_4   z_F e)
theorem dX11_endText_0 : decode cX11_endText 0 = .ok (.aload_n 0, 1) := by decide +kernel
theorem dX11_endText_1 : decode cX11_endText 1 = .ok (.getfield 251, 3) := by decide +kernel
theorem dX11_endText_4 : decode cX11_endText 4 = .ok (.ifCond .ne 15, 3) := by decide +kernel
theorem dX11_endText_7 : decode cX11_endText 7 = .ok (.aload_n 0, 1) := by decide +kernel
theorem dX11_endText_8 : decode cX11_endText 8 = .ok (.getfield 271, 3) := by decide +kernel
theorem dX11_endText_11 : decode cX11_endText 11 = .ok (.ifCond .eq 8, 3) := by decide +kernel
theorem dX11_endText_14 : decode cX11_endText 14 = .ok (.aload_n 0, 1) := by decide +kernel
theorem dX11_endText_15 : decode cX11_endText 15 = .ok (.iconst 0, 1) := by decide +kernel
theorem dX11_endText_16 : decode cX11_endText 16 = .ok (.invokevirtual 284, 3) := by decide +kernel
theorem dX11_endText_19 : decode cX11_endText 19 = .ok (.aload_n 0, 1) := by decide +kernel
theorem dX11_endText_20 : decode cX11_endText 20 = .ok (.iconst 0, 1) := by decide +kernel
theorem dX11_endText_21 : decode cX11_endText 21 = .ok (.putfield 324, 3) := by decide +kernel
theorem dX11_endText_24 : decode cX11_endText 24 = .ok (.aload_n 0, 1) := by decide +kernel
theorem dX11_endText_25 : decode cX11_endText 25 = .ok (.iconst 0, 1) := by decide +kernel
theorem dX11_endText_26 : decode cX11_endText 26 = .ok (.putfield 239, 3) := by decide +kernel
theorem dX11_endText_29 : decode cX11_endText 29 = .ok (.return_, 1) := by decide +kernel
def D_X11_endText_19 (h : z_H) (l0 : Option Nat) : Option z_H :=
  (z_pV 11 h l0 20 (.int (0:Int32))).bind fun h3535 =>
  (z_pV 11 h3535 l0 13 (.int (0:Int32))).bind fun h3536 =>
  some h3536
set_option maxRecDepth 100000 in
set_option maxHeartbeats 4000000 in
theorem S_X11_endText_19 {G : z_G} {l : Launch}  {h : z_H} {l0 : Option Nat} {res : z_H} (e : D_X11_endText_19  h l0 = some res) : z_Run G l 7 M_X11_endText 19 [(0, z_r l0)] [] h res none := by
  unfold D_X11_endText_19 at e
  refine z_aload_n 0 dX11_endText_19 rfl ?_
  refine z_iconst (v := 0) dX11_endText_20 (by decide) ?_
  replace e := z_bd e; obtain ⟨h3535, eh3535, e⟩ := e
  refine z_putV eh3535 lk_X11_324 wk_11_20 (fun _ => (z_nz (Or.inl rfl)).1) (fun _ => (z_nz (Or.inl rfl)).2) dX11_endText_21 ?_
  refine z_aload_n 0 dX11_endText_24 rfl ?_
  refine z_iconst (v := 0) dX11_endText_25 (by decide) ?_
  replace e := z_bd e; obtain ⟨h3536, eh3536, e⟩ := e
  refine z_putV eh3536 lk_X11_239 wk_11_13 (fun _ => rfl) (fun _ => rfl) dX11_endText_26 ?_
  cases e
  exact z_vret dX11_endText_29 rfl
def D_X11_endText (h : z_H) (l0 : Option Nat) : Option z_H :=
  (z_gI 11 h l0 19).bind fun x3537 =>
  if x3537 = 0 then
    (z_gI 11 h l0 16).bind fun x3539 =>
    if x3539 = 0 then
      D_X11_endText_19   h l0
    else
      (z_ob 11 h l0).bind fun _ =>
      (D_X11_must  h l0 (0:Int32)).bind fun p3541 =>
      D_X11_endText_19   p3541 l0
  else
    D_X11_endText_19   h l0
set_option maxRecDepth 100000 in
set_option maxHeartbeats 4000000 in
theorem S_X11_endText {G : z_G} {l : Launch} {h : z_H} {l0 : Option Nat} {res : z_H} (e : D_X11_endText h l0 = some res) : z_Meth G l 7 M_X11_endText [z_r l0] h res none := by
  refine z_Meth.of ck_X11_endText.2.2.2.2 (by simp [lg_sl, z_ci, z_cj, z_cr, z_cx]) ck_X11_endText.1 ?_
  rw [show lv_args 0 [z_r l0] = [(0, z_r l0)] from by simp [lv_args, z_ci, z_cj, z_cr, z_cx]]
  unfold D_X11_endText at e
  refine z_aload_n 0 dX11_endText_0 rfl ?_
  replace e := z_bd e; obtain ⟨x3537, ex3537, e⟩ := e
  refine z_getI ex3537 lk_X11_251 dX11_endText_1 ?_
  refine z_if_ne (tgt := 19) dX11_endText_4 (by decide) (fun c3538 => ?_) (fun c3538 => ?_)
  · rw [if_neg c3538] at e
    exact z_weak [0] rfl (S_X11_endText_19   e)
  · rw [if_pos c3538] at e
    refine z_aload_n 0 dX11_endText_7 rfl ?_
    replace e := z_bd e; obtain ⟨x3539, ex3539, e⟩ := e
    refine z_getI ex3539 lk_X11_271 dX11_endText_8 ?_
    refine z_if_eq (tgt := 19) dX11_endText_11 (by decide) (fun c3540 => ?_) (fun c3540 => ?_)
    · rw [if_pos c3540] at e
      exact z_weak [0] rfl (S_X11_endText_19   e)
    · rw [if_neg c3540] at e
      refine z_aload_n 0 dX11_endText_14 rfl ?_
      refine z_iconst (v := 0) dX11_endText_15 (by decide) ?_
      replace e := z_bd e; obtain ⟨o3542, eo3542, e⟩ := e
      replace e := z_bd e; obtain ⟨p3541, ep3541, e⟩ := e
      refine z_cV [.int (0:Int32)] (S_X11_must  ep3541) eo3542 rfl ml_X11_284 ck_X11_must vk_X11_must dX11_endText_16 (by decide) rfl (Nat.zero_le _) rfl ?_
      exact z_weak [0] rfl (S_X11_endText_19   e)
