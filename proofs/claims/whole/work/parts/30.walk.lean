theorem dX10_attempt_0 : decode cX10_attempt 0 = .ok (.aload_n 0, 1) := by decide +kernel
theorem dX10_attempt_1 : decode cX10_attempt 1 = .ok (.getfield 53, 3) := by decide +kernel
theorem dX10_attempt_4 : decode cX10_attempt 4 = .ok (.aload_n 0, 1) := by decide +kernel
theorem dX10_attempt_5 : decode cX10_attempt 5 = .ok (.getfield 12, 3) := by decide +kernel
theorem dX10_attempt_8 : decode cX10_attempt 8 = .ok (.iload_n 1, 1) := by decide +kernel
theorem dX10_attempt_9 : decode cX10_attempt 9 = .ok (.iload_n 2, 1) := by decide +kernel
theorem dX10_attempt_10 : decode cX10_attempt 10 = .ok (.iload_n 3, 1) := by decide +kernel
theorem dX10_attempt_11 : decode cX10_attempt 11 = .ok (.invokevirtual 317, 3) := by decide +kernel
theorem dX10_attempt_14 : decode cX10_attempt 14 = .ok (.istore 4, 2) := by decide +kernel
theorem dX10_attempt_16 : decode cX10_attempt 16 = .ok (.iload 4, 2) := by decide +kernel
theorem dX10_attempt_18 : decode cX10_attempt 18 = .ok (.ifCond .ge 10, 3) := by decide +kernel
theorem dX10_attempt_21 : decode cX10_attempt 21 = .ok (.aload_n 0, 1) := by decide +kernel
theorem dX10_attempt_22 : decode cX10_attempt 22 = .ok (.iload 4, 2) := by decide +kernel
theorem dX10_attempt_24 : decode cX10_attempt 24 = .ok (.invokevirtual 104, 3) := by decide +kernel
theorem dX10_attempt_27 : decode cX10_attempt 27 = .ok (.ireturn, 1) := by decide +kernel
theorem dX10_attempt_28 : decode cX10_attempt 28 = .ok (.aload_n 0, 1) := by decide +kernel
theorem dX10_attempt_29 : decode cX10_attempt 29 = .ok (.getfield 30, 3) := by decide +kernel
theorem dX10_attempt_32 : decode cX10_attempt 32 = .ok (.aload_n 0, 1) := by decide +kernel
theorem dX10_attempt_33 : decode cX10_attempt 33 = .ok (.getfield 53, 3) := by decide +kernel
theorem dX10_attempt_36 : decode cX10_attempt 36 = .ok (.getfield 321, 3) := by decide +kernel
theorem dX10_attempt_39 : decode cX10_attempt 39 = .ok (.invokevirtual 324, 3) := by decide +kernel
theorem dX10_attempt_42 : decode cX10_attempt 42 = .ok (.aload_n 0, 1) := by decide +kernel
theorem dX10_attempt_43 : decode cX10_attempt 43 = .ok (.iload 4, 2) := by decide +kernel
theorem dX10_attempt_45 : decode cX10_attempt 45 = .ok (.invokevirtual 118, 3) := by decide +kernel
theorem dX10_attempt_48 : decode cX10_attempt 48 = .ok (.ireturn, 1) := by decide +kernel
def D_X10_attempt (h : z_H) (l0 : Option Nat) (l1 : Int32) (l2 : Int32) (l3 : Int32) : Option (Int32 × z_H) :=
  (z_gQ 10 h l0 7).bind fun x2324 =>
  (z_gQ 10 h l0 0).bind fun x2325 =>
  (z_ob 0 h x2324).bind fun _ =>
  (D_X0_carryOut  h x2324 x2325 l1 l2 l3).bind fun p2326 =>
  if 0 ≤ p2326.1 then
    (z_gQ 10 p2326.2 l0 4).bind fun x2329 =>
    (z_gQ 10 p2326.2 l0 7).bind fun x2330 =>
    (z_gQ 0 p2326.2 x2330 1).bind fun x2331 =>
    (z_ob 8 p2326.2 x2329).bind fun _ =>
    (D_X8_add  p2326.2 x2329 x2331).bind fun p2332 =>
    (z_ob 10 p2332 l0).bind fun _ =>
    (D_X10_grant  p2332 l0 p2326.1).bind fun p2334 =>
    some (p2334.1, p2334.2)
  else
    (z_ob 10 p2326.2 l0).bind fun _ =>
    (D_X10_refuse  p2326.2 l0 p2326.1).bind fun p2336 =>
    some (p2336.1, p2336.2)
set_option maxRecDepth 100000 in
set_option maxHeartbeats 4000000 in
theorem S_X10_attempt {G : z_G} {l : Launch} {h : z_H} {l0 : Option Nat} {l1 : Int32} {l2 : Int32} {l3 : Int32} {res : (Int32 × z_H)} (e : D_X10_attempt h l0 l1 l2 l3 = some res) : z_Meth G l 9 M_X10_attempt [z_r l0, .int l1, .int l2, .int l3] h res.2 (some (.int res.1)) := by
  refine z_Meth.of ck_X10_attempt.2.2.2.2 (by simp [lg_sl, z_ci, z_cj, z_cr, z_cx]) ck_X10_attempt.1 ?_
  rw [show lv_args 0 [z_r l0, .int l1, .int l2, .int l3] = [(0, z_r l0), (1, .int l1), (2, .int l2), (3, .int l3)] from by simp [lv_args, z_ci, z_cj, z_cr, z_cx]]
  unfold D_X10_attempt at e
  refine z_aload_n 0 dX10_attempt_0 rfl ?_
  replace e := z_bd e; obtain ⟨x2324, ex2324, e⟩ := e
  refine z_getQ ex2324 lk_X10_53 dX10_attempt_1 ?_
  refine z_aload_n 0 dX10_attempt_4 rfl ?_
  replace e := z_bd e; obtain ⟨x2325, ex2325, e⟩ := e
  refine z_getQ ex2325 lk_X10_12 dX10_attempt_5 ?_
  refine z_iload_n 1 dX10_attempt_8 rfl ?_
  refine z_iload_n 2 dX10_attempt_9 rfl ?_
  refine z_iload_n 3 dX10_attempt_10 rfl ?_
  replace e := z_bd e; obtain ⟨o2327, eo2327, e⟩ := e
  replace e := z_bd e; obtain ⟨p2326, ep2326, e⟩ := e
  refine z_cV [z_r x2325, .int l1, .int l2, .int l3] (S_X0_carryOut  ep2326) eo2327 rfl ml_X10_317 ck_X0_carryOut vk_X0_carryOut dX10_attempt_11 (by decide) rfl (Nat.zero_le _) rfl ?_
  refine z_istore (L' := [(4, .int p2326.1), (0, z_r l0), (1, .int l1), (2, .int l2), (3, .int l3)]) dX10_attempt_14 (by decide) rfl ?_
  refine z_iload 0 dX10_attempt_16 rfl ?_
  refine z_if_ge (tgt := 28) dX10_attempt_18 (by decide) (fun c2328 => ?_) (fun c2328 => ?_)
  · rw [if_pos c2328] at e
    refine z_aload_n 1 dX10_attempt_28 rfl ?_
    replace e := z_bd e; obtain ⟨x2329, ex2329, e⟩ := e
    refine z_getQ ex2329 lk_X10_30 dX10_attempt_29 ?_
    refine z_aload_n 1 dX10_attempt_32 rfl ?_
    replace e := z_bd e; obtain ⟨x2330, ex2330, e⟩ := e
    refine z_getQ ex2330 lk_X10_53 dX10_attempt_33 ?_
    replace e := z_bd e; obtain ⟨x2331, ex2331, e⟩ := e
    refine z_getQ ex2331 lk_X10_321 dX10_attempt_36 ?_
    replace e := z_bd e; obtain ⟨o2333, eo2333, e⟩ := e
    replace e := z_bd e; obtain ⟨p2332, ep2332, e⟩ := e
    refine z_cV [z_r x2331] (S_X8_add  ep2332) eo2333 rfl ml_X10_324 ck_X8_add vk_X8_add dX10_attempt_39 (by decide) rfl (Nat.zero_le _) rfl ?_
    refine z_aload_n 1 dX10_attempt_42 rfl ?_
    refine z_iload 0 dX10_attempt_43 rfl ?_
    replace e := z_bd e; obtain ⟨o2335, eo2335, e⟩ := e
    replace e := z_bd e; obtain ⟨p2334, ep2334, e⟩ := e
    refine z_cV [.int p2326.1] (S_X10_grant  ep2334) eo2335 rfl ml_X10_118 ck_X10_grant vk_X10_grant dX10_attempt_45 (by decide) rfl (Nat.zero_le _) rfl ?_
    cases e
    exact z_iret dX10_attempt_48 rfl
  · rw [if_neg c2328] at e
    refine z_aload_n 1 dX10_attempt_21 rfl ?_
    refine z_iload 0 dX10_attempt_22 rfl ?_
    replace e := z_bd e; obtain ⟨o2337, eo2337, e⟩ := e
    replace e := z_bd e; obtain ⟨p2336, ep2336, e⟩ := e
    refine z_cV [.int p2326.1] (S_X10_refuse  ep2336) eo2337 rfl ml_X10_104 ck_X10_refuse vk_X10_refuse dX10_attempt_24 (by decide) rfl (Nat.zero_le _) rfl ?_
    cases e
    exact z_iret dX10_attempt_27 rfl
theorem dX10_pass_0 : decode cX10_pass 0 = .ok (.aload_n 0, 1) := by decide +kernel
theorem dX10_pass_1 : decode cX10_pass 1 = .ok (.iconst 4, 1) := by decide +kernel
theorem dX10_pass_2 : decode cX10_pass 2 = .ok (.iconst (-1), 1) := by decide +kernel
theorem dX10_pass_3 : decode cX10_pass 3 = .ok (.iconst 0, 1) := by decide +kernel
theorem dX10_pass_4 : decode cX10_pass 4 = .ok (.invokevirtual 217, 3) := by decide +kernel
theorem dX10_pass_7 : decode cX10_pass 7 = .ok (.ireturn, 1) := by decide +kernel
def D_X10_pass (h : z_H) (l0 : Option Nat) : Option (Int32 × z_H) :=
  (z_ob 10 h l0).bind fun _ =>
  (D_X10_attempt  h l0 (4:Int32) (-1:Int32) (0:Int32)).bind fun p2338 =>
  some (p2338.1, p2338.2)
set_option maxRecDepth 100000 in
set_option maxHeartbeats 4000000 in
theorem S_X10_pass {G : z_G} {l : Launch} {h : z_H} {l0 : Option Nat} {res : (Int32 × z_H)} (e : D_X10_pass h l0 = some res) : z_Meth G l 10 M_X10_pass [z_r l0] h res.2 (some (.int res.1)) := by
  refine z_Meth.of ck_X10_pass.2.2.2.2 (by simp [lg_sl, z_ci, z_cj, z_cr, z_cx]) ck_X10_pass.1 ?_
  rw [show lv_args 0 [z_r l0] = [(0, z_r l0)] from by simp [lv_args, z_ci, z_cj, z_cr, z_cx]]
  unfold D_X10_pass at e
  refine z_aload_n 0 dX10_pass_0 rfl ?_
  refine z_iconst (v := 4) dX10_pass_1 (by decide) ?_
  refine z_iconst (v := -1) dX10_pass_2 (by decide) ?_
  refine z_iconst (v := 0) dX10_pass_3 (by decide) ?_
  replace e := z_bd e; obtain ⟨o2339, eo2339, e⟩ := e
  replace e := z_bd e; obtain ⟨p2338, ep2338, e⟩ := e
  refine z_cV [.int (4:Int32), .int (-1:Int32), .int (0:Int32)] (S_X10_attempt  ep2338) eo2339 rfl ml_X10_217 ck_X10_attempt vk_X10_attempt dX10_pass_4 (by decide) rfl (Nat.zero_le _) rfl ?_
  cases e
  exact z_iret dX10_pass_7 rfl
theorem dX11_remember_0 : decode cX11_remember 0 = .ok (.aload_n 0, 1) := by decide +kernel
theorem dX11_remember_1 : decode cX11_remember 1 = .ok (.getfield 172, 3) := by decide +kernel
theorem dX11_remember_4 : decode cX11_remember 4 = .ok (.bipush 16, 2) := by decide +kernel
theorem dX11_remember_6 : decode cX11_remember 6 = .ok (.if_icmp .ne 71, 3) := by decide +kernel
theorem dX11_remember_9 : decode cX11_remember 9 = .ok (.iconst 0, 1) := by decide +kernel
theorem dX11_remember_10 : decode cX11_remember 10 = .ok (.istore_n 2, 1) := by decide +kernel
theorem dX11_remember_11 : decode cX11_remember 11 = .ok (.iload_n 2, 1) := by decide +kernel
theorem dX11_remember_12 : decode cX11_remember 12 = .ok (.sipush 585, 3) := by decide +kernel
theorem dX11_remember_15 : decode cX11_remember 15 = .ok (.if_icmp .ge 24, 3) := by decide +kernel
theorem dX11_remember_18 : decode cX11_remember 18 = .ok (.aload_n 0, 1) := by decide +kernel
theorem dX11_remember_19 : decode cX11_remember 19 = .ok (.getfield 23, 3) := by decide +kernel
theorem dX11_remember_22 : decode cX11_remember 22 = .ok (.iload_n 2, 1) := by decide +kernel
theorem dX11_remember_23 : decode cX11_remember 23 = .ok (.aload_n 0, 1) := by decide +kernel
theorem dX11_remember_24 : decode cX11_remember 24 = .ok (.getfield 23, 3) := by decide +kernel
theorem dX11_remember_27 : decode cX11_remember 27 = .ok (.iload_n 2, 1) := by decide +kernel
theorem dX11_remember_28 : decode cX11_remember 28 = .ok (.bipush 39, 2) := by decide +kernel
theorem dX11_remember_30 : decode cX11_remember 30 = .ok (.iadd, 1) := by decide +kernel
theorem dX11_remember_31 : decode cX11_remember 31 = .ok (.iaload, 1) := by decide +kernel
theorem dX11_remember_32 : decode cX11_remember 32 = .ok (.iastore, 1) := by decide +kernel
theorem dX11_remember_33 : decode cX11_remember 33 = .ok (.iinc 2 1, 3) := by decide +kernel
theorem dX11_remember_36 : decode cX11_remember 36 = .ok (.goto (-25), 3) := by decide +kernel
theorem dX11_remember_39 : decode cX11_remember 39 = .ok (.iconst 0, 1) := by decide +kernel
theorem dX11_remember_40 : decode cX11_remember 40 = .ok (.istore_n 2, 1) := by decide +kernel
theorem dX11_remember_41 : decode cX11_remember 41 = .ok (.iload_n 2, 1) := by decide +kernel
theorem dX11_remember_42 : decode cX11_remember 42 = .ok (.bipush 15, 2) := by decide +kernel
theorem dX11_remember_44 : decode cX11_remember 44 = .ok (.if_icmp .ge 23, 3) := by decide +kernel
theorem dX11_remember_47 : decode cX11_remember 47 = .ok (.aload_n 0, 1) := by decide +kernel
theorem dX11_remember_48 : decode cX11_remember 48 = .ok (.getfield 26, 3) := by decide +kernel
theorem dX11_remember_51 : decode cX11_remember 51 = .ok (.iload_n 2, 1) := by decide +kernel
theorem dX11_remember_52 : decode cX11_remember 52 = .ok (.aload_n 0, 1) := by decide +kernel
theorem dX11_remember_53 : decode cX11_remember 53 = .ok (.getfield 26, 3) := by decide +kernel
theorem dX11_remember_56 : decode cX11_remember 56 = .ok (.iload_n 2, 1) := by decide +kernel
theorem dX11_remember_57 : decode cX11_remember 57 = .ok (.iconst 1, 1) := by decide +kernel
theorem dX11_remember_58 : decode cX11_remember 58 = .ok (.iadd, 1) := by decide +kernel
theorem dX11_remember_59 : decode cX11_remember 59 = .ok (.iaload, 1) := by decide +kernel
theorem dX11_remember_60 : decode cX11_remember 60 = .ok (.iastore, 1) := by decide +kernel
theorem dX11_remember_61 : decode cX11_remember 61 = .ok (.iinc 2 1, 3) := by decide +kernel
theorem dX11_remember_64 : decode cX11_remember 64 = .ok (.goto (-23), 3) := by decide +kernel
theorem dX11_remember_67 : decode cX11_remember 67 = .ok (.aload_n 0, 1) := by decide +kernel
theorem dX11_remember_68 : decode cX11_remember 68 = .ok (.dup, 1) := by decide +kernel
theorem dX11_remember_69 : decode cX11_remember 69 = .ok (.getfield 172, 3) := by decide +kernel
theorem dX11_remember_72 : decode cX11_remember 72 = .ok (.iconst 1, 1) := by decide +kernel
theorem dX11_remember_73 : decode cX11_remember 73 = .ok (.isub, 1) := by decide +kernel
theorem dX11_remember_74 : decode cX11_remember 74 = .ok (.putfield 172, 3) := by decide +kernel
theorem dX11_remember_77 : decode cX11_remember 77 = .ok (.aload_n 0, 1) := by decide +kernel
theorem dX11_remember_78 : decode cX11_remember 78 = .ok (.aload_n 0, 1) := by decide +kernel
theorem dX11_remember_79 : decode cX11_remember 79 = .ok (.getfield 172, 3) := by decide +kernel
theorem dX11_remember_82 : decode cX11_remember 82 = .ok (.invokevirtual 179, 3) := by decide +kernel
theorem dX11_remember_85 : decode cX11_remember 85 = .ok (.aload_n 0, 1) := by decide +kernel
theorem dX11_remember_86 : decode cX11_remember 86 = .ok (.getfield 26, 3) := by decide +kernel
theorem dX11_remember_89 : decode cX11_remember 89 = .ok (.aload_n 0, 1) := by decide +kernel
theorem dX11_remember_90 : decode cX11_remember 90 = .ok (.getfield 172, 3) := by decide +kernel
theorem dX11_remember_93 : decode cX11_remember 93 = .ok (.iload_n 1, 1) := by decide +kernel
theorem dX11_remember_94 : decode cX11_remember 94 = .ok (.iastore, 1) := by decide +kernel
theorem dX11_remember_95 : decode cX11_remember 95 = .ok (.aload_n 0, 1) := by decide +kernel
theorem dX11_remember_96 : decode cX11_remember 96 = .ok (.dup, 1) := by decide +kernel
theorem dX11_remember_97 : decode cX11_remember 97 = .ok (.getfield 172, 3) := by decide +kernel
theorem dX11_remember_100 : decode cX11_remember 100 = .ok (.iconst 1, 1) := by decide +kernel
theorem dX11_remember_101 : decode cX11_remember 101 = .ok (.iadd, 1) := by decide +kernel
theorem dX11_remember_102 : decode cX11_remember 102 = .ok (.putfield 172, 3) := by decide +kernel
theorem dX11_remember_105 : decode cX11_remember 105 = .ok (.return_, 1) := by decide +kernel
def D_X11_remember_77 (h : z_H) (l0 : Option Nat) (l1 : Int32) : Option z_H :=
  (z_gI 11 h l0 8).bind fun x2340 =>
  (z_ob 11 h l0).bind fun _ =>
  (D_X11_keepAll  h l0 x2340).bind fun p2341 =>
  (z_gQ 11 p2341 l0 7).bind fun x2343 =>
  (z_gI 11 p2341 l0 8).bind fun x2344 =>
  (z_sI p2341 x2343 x2344 l1).bind fun h2345 =>
  (z_gI 11 h2345 l0 8).bind fun x2346 =>
  (z_pV 11 h2345 l0 8 (.int (x2346 + (1:Int32)))).bind fun h2347 =>
  some h2347
set_option maxRecDepth 100000 in
set_option maxHeartbeats 4000000 in
theorem S_X11_remember_77 {G : z_G} {l : Launch}  {h : z_H} {l0 : Option Nat} {l1 : Int32} {res : z_H} (e : D_X11_remember_77  h l0 l1 = some res) : z_Run G l 5 M_X11_remember 77 [(0, z_r l0), (1, .int l1)] [] h res none := by
  unfold D_X11_remember_77 at e
  refine z_aload_n 0 dX11_remember_77 rfl ?_
  refine z_aload_n 0 dX11_remember_78 rfl ?_
  replace e := z_bd e; obtain ⟨x2340, ex2340, e⟩ := e
  refine z_getI ex2340 lk_X11_172 dX11_remember_79 ?_
  replace e := z_bd e; obtain ⟨o2342, eo2342, e⟩ := e
  replace e := z_bd e; obtain ⟨p2341, ep2341, e⟩ := e
  refine z_cV [.int x2340] (S_X11_keepAll  ep2341) eo2342 rfl ml_X11_179 ck_X11_keepAll vk_X11_keepAll dX11_remember_82 (by decide) rfl (Nat.zero_le _) rfl ?_
  refine z_aload_n 0 dX11_remember_85 rfl ?_
  replace e := z_bd e; obtain ⟨x2343, ex2343, e⟩ := e
  refine z_getQ ex2343 lk_X11_26 dX11_remember_86 ?_
  refine z_aload_n 0 dX11_remember_89 rfl ?_
  replace e := z_bd e; obtain ⟨x2344, ex2344, e⟩ := e
  refine z_getI ex2344 lk_X11_172 dX11_remember_90 ?_
  refine z_iload_n 1 dX11_remember_93 rfl ?_
  replace e := z_bd e; obtain ⟨h2345, eh2345, e⟩ := e
  refine z_iast eh2345 dX11_remember_94 ?_
  refine z_aload_n 0 dX11_remember_95 rfl ?_
  refine z_dup dX11_remember_96 (z_cr _) ?_
  replace e := z_bd e; obtain ⟨x2346, ex2346, e⟩ := e
  refine z_getI ex2346 lk_X11_172 dX11_remember_97 ?_
  refine z_iconst (v := 1) dX11_remember_100 (by decide) ?_
  refine z_iadd dX11_remember_101 ?_
  replace e := z_bd e; obtain ⟨h2347, eh2347, e⟩ := e
  refine z_putV eh2347 lk_X11_172 wk_11_8 (fun _ => rfl) (fun _ => rfl) dX11_remember_102 ?_
  cases e
  exact z_vret dX11_remember_105 rfl
def D_X11_remember_41b (k41 : z_H → Option Nat → Int32 → Int32 → Option z_H) (h : z_H) (l0 : Option Nat) (l1 : Int32) (l2 : Int32) : Option z_H :=
  if (15:Int32) ≤ l2 then
    (z_gI 11 h l0 8).bind fun x2349 =>
    (z_pV 11 h l0 8 (.int (x2349 - (1:Int32)))).bind fun h2350 =>
    D_X11_remember_77   h2350 l0 l1
  else
    (z_gQ 11 h l0 7).bind fun x2351 =>
    (z_gQ 11 h l0 7).bind fun x2352 =>
    (z_aI .int h x2352 (l2 + (1:Int32))).bind fun x2353 =>
    (z_sI h x2351 l2 x2353).bind fun h2354 =>
    (some (l2 + (1:Int32))).bind fun x2355 =>
    k41 h2354 l0 l1 x2355
def D_X11_remember_41 (n : Nat) : z_H → Option Nat → Int32 → Int32 → Option z_H := Nat.rec (motive := fun _ => z_H → Option Nat → Int32 → Int32 → Option z_H) (fun _ _ _ _ => none) (fun _ k => D_X11_remember_41b  k) n
set_option maxRecDepth 100000 in
set_option maxHeartbeats 4000000 in
theorem S_X11_remember_41 {G : z_G} {l : Launch}  (n : Nat) : ∀ {h : z_H} {l0 : Option Nat} {l1 : Int32} {l2 : Int32} {res : z_H}, D_X11_remember_41  n h l0 l1 l2 = some res → z_Run G l 5 M_X11_remember 41 [(0, z_r l0), (1, .int l1), (2, .int l2)] [] h res none := by
  induction n with
  | zero => intro h l0 l1 l2 res e; cases e
  | succ n hk41 =>
    intro h l0 l1 l2 res e
    replace e : D_X11_remember_41b  (D_X11_remember_41  n) h l0 l1 l2 = some res := e
    unfold D_X11_remember_41b at e
    refine z_iload_n 2 dX11_remember_41 rfl ?_
    refine z_bipush (v := 15) dX11_remember_42 (by decide) ?_
    refine z_icmp_ge (tgt := 67) dX11_remember_44 (by decide) (fun c2348 => ?_) (fun c2348 => ?_)
    · rw [if_pos c2348] at e
      refine z_aload_n 0 dX11_remember_67 rfl ?_
      refine z_dup dX11_remember_68 (z_cr _) ?_
      replace e := z_bd e; obtain ⟨x2349, ex2349, e⟩ := e
      refine z_getI ex2349 lk_X11_172 dX11_remember_69 ?_
      refine z_iconst (v := 1) dX11_remember_72 (by decide) ?_
      refine z_isub dX11_remember_73 ?_
      replace e := z_bd e; obtain ⟨h2350, eh2350, e⟩ := e
      refine z_putV eh2350 lk_X11_172 wk_11_8 (fun _ => rfl) (fun _ => rfl) dX11_remember_74 ?_
      exact z_weak [0, 1] rfl (S_X11_remember_77   e)
    · rw [if_neg c2348] at e
      refine z_aload_n 0 dX11_remember_47 rfl ?_
      replace e := z_bd e; obtain ⟨x2351, ex2351, e⟩ := e
      refine z_getQ ex2351 lk_X11_26 dX11_remember_48 ?_
      refine z_iload_n 2 dX11_remember_51 rfl ?_
      refine z_aload_n 0 dX11_remember_52 rfl ?_
      replace e := z_bd e; obtain ⟨x2352, ex2352, e⟩ := e
      refine z_getQ ex2352 lk_X11_26 dX11_remember_53 ?_
      refine z_iload_n 2 dX11_remember_56 rfl ?_
      refine z_iconst (v := 1) dX11_remember_57 (by decide) ?_
      refine z_iadd dX11_remember_58 ?_
      replace e := z_bd e; obtain ⟨x2353, ex2353, e⟩ := e
      refine z_iald ex2353 dX11_remember_59 ?_
      replace e := z_bd e; obtain ⟨h2354, eh2354, e⟩ := e
      refine z_iast eh2354 dX11_remember_60 ?_
      replace e := z_bd e; obtain ⟨x2355, ex2355, e⟩ := e
      refine z_iinc (q := 2) (v := x2355) (L' := [(2, .int x2355), (0, z_r l0), (1, .int l1)]) dX11_remember_61 rfl (Option.some.inj ex2355) (by decide) rfl ?_
      refine z_goto (tgt := 41) dX11_remember_64 (by decide) ?_
      exact z_weak [1, 2, 0] rfl (hk41 e)
def D_X11_remember_11b (k11 : z_H → Option Nat → Int32 → Int32 → Option z_H) (h : z_H) (l0 : Option Nat) (l1 : Int32) (l2 : Int32) : Option z_H :=
  if (585:Int32) ≤ l2 then
    D_X11_remember_41   z_F h l0 l1 (0:Int32)
  else
    (z_gQ 11 h l0 6).bind fun x2357 =>
    (z_gQ 11 h l0 6).bind fun x2358 =>
    (z_aI .int h x2358 (l2 + (39:Int32))).bind fun x2359 =>
    (z_sI h x2357 l2 x2359).bind fun h2360 =>
    (some (l2 + (1:Int32))).bind fun x2361 =>
    k11 h2360 l0 l1 x2361
def D_X11_remember_11 (n : Nat) : z_H → Option Nat → Int32 → Int32 → Option z_H := Nat.rec (motive := fun _ => z_H → Option Nat → Int32 → Int32 → Option z_H) (fun _ _ _ _ => none) (fun _ k => D_X11_remember_11b  k) n
set_option maxRecDepth 100000 in
set_option maxHeartbeats 4000000 in
theorem S_X11_remember_11 {G : z_G} {l : Launch}  (n : Nat) : ∀ {h : z_H} {l0 : Option Nat} {l1 : Int32} {l2 : Int32} {res : z_H}, D_X11_remember_11  n h l0 l1 l2 = some res → z_Run G l 5 M_X11_remember 11 [(0, z_r l0), (1, .int l1), (2, .int l2)] [] h res none := by
  induction n with
  | zero => intro h l0 l1 l2 res e; cases e
  | succ n hk11 =>
    intro h l0 l1 l2 res e
    replace e : D_X11_remember_11b  (D_X11_remember_11  n) h l0 l1 l2 = some res := e
    unfold D_X11_remember_11b at e
    refine z_iload_n 2 dX11_remember_11 rfl ?_
    refine z_sipush (v := 585) dX11_remember_12 (by decide) ?_
    refine z_icmp_ge (tgt := 39) dX11_remember_15 (by decide) (fun c2356 => ?_) (fun c2356 => ?_)
    · rw [if_pos c2356] at e
      refine z_iconst (v := 0) dX11_remember_39 (by decide) ?_
      refine z_istore_n (L' := [(2, .int (0:Int32)), (0, z_r l0), (1, .int l1)]) dX11_remember_40 rfl (by decide) rfl ?_
      exact z_weak [1, 2, 0] rfl (S_X11_remember_41   z_F e)
    · rw [if_neg c2356] at e
      refine z_aload_n 0 dX11_remember_18 rfl ?_
      replace e := z_bd e; obtain ⟨x2357, ex2357, e⟩ := e
      refine z_getQ ex2357 lk_X11_23 dX11_remember_19 ?_
      refine z_iload_n 2 dX11_remember_22 rfl ?_
      refine z_aload_n 0 dX11_remember_23 rfl ?_
      replace e := z_bd e; obtain ⟨x2358, ex2358, e⟩ := e
      refine z_getQ ex2358 lk_X11_23 dX11_remember_24 ?_
      refine z_iload_n 2 dX11_remember_27 rfl ?_
      refine z_bipush (v := 39) dX11_remember_28 (by decide) ?_
      refine z_iadd dX11_remember_30 ?_
      replace e := z_bd e; obtain ⟨x2359, ex2359, e⟩ := e
      refine z_iald ex2359 dX11_remember_31 ?_
      replace e := z_bd e; obtain ⟨h2360, eh2360, e⟩ := e
      refine z_iast eh2360 dX11_remember_32 ?_
      replace e := z_bd e; obtain ⟨x2361, ex2361, e⟩ := e
      refine z_iinc (q := 2) (v := x2361) (L' := [(2, .int x2361), (0, z_r l0), (1, .int l1)]) dX11_remember_33 rfl (Option.some.inj ex2361) (by decide) rfl ?_
      refine z_goto (tgt := 11) dX11_remember_36 (by decide) ?_
      exact z_weak [1, 2, 0] rfl (hk11 e)
def D_X11_remember (h : z_H) (l0 : Option Nat) (l1 : Int32) : Option z_H :=
  (z_gI 11 h l0 8).bind fun x2362 =>
  if x2362 = (16:Int32) then
    D_X11_remember_11   z_F h l0 l1 (0:Int32)
  else
    D_X11_remember_77   h l0 l1
set_option maxRecDepth 100000 in
set_option maxHeartbeats 4000000 in
theorem S_X11_remember {G : z_G} {l : Launch} {h : z_H} {l0 : Option Nat} {l1 : Int32} {res : z_H} (e : D_X11_remember h l0 l1 = some res) : z_Meth G l 5 M_X11_remember [z_r l0, .int l1] h res none := by
  refine z_Meth.of ck_X11_remember.2.2.2.2 (by simp [lg_sl, z_ci, z_cj, z_cr, z_cx]) ck_X11_remember.1 ?_
  rw [show lv_args 0 [z_r l0, .int l1] = [(0, z_r l0), (1, .int l1)] from by simp [lv_args, z_ci, z_cj, z_cr, z_cx]]
  unfold D_X11_remember at e
  refine z_aload_n 0 dX11_remember_0 rfl ?_
  replace e := z_bd e; obtain ⟨x2362, ex2362, e⟩ := e
  refine z_getI ex2362 lk_X11_172 dX11_remember_1 ?_
  refine z_bipush (v := 16) dX11_remember_4 (by decide) ?_
  refine z_icmp_ne (tgt := 77) dX11_remember_6 (by decide) (fun c2363 => ?_) (fun c2363 => ?_)
  · rw [if_neg c2363] at e
    exact z_weak [0, 1] rfl (S_X11_remember_77   e)
  · rw [if_pos c2363] at e
    refine z_iconst (v := 0) dX11_remember_9 (by decide) ?_
    refine z_istore_n (L' := [(2, .int (0:Int32)), (0, z_r l0), (1, .int l1)]) dX11_remember_10 rfl (by decide) rfl ?_
    exact z_weak [1, 2, 0] rfl (S_X11_remember_11   z_F e)
theorem dX11_passNow_0 : decode cX11_passNow 0 = .ok (.aload_n 0, 1) := by decide +kernel
theorem dX11_passNow_1 : decode cX11_passNow 1 = .ok (.getfield 13, 3) := by decide +kernel
theorem dX11_passNow_4 : decode cX11_passNow 4 = .ok (.iconst 5, 1) := by decide +kernel
theorem dX11_passNow_5 : decode cX11_passNow 5 = .ok (.iaload, 1) := by decide +kernel
theorem dX11_passNow_6 : decode cX11_passNow 6 = .ok (.sipush 999, 3) := by decide +kernel
theorem dX11_passNow_9 : decode cX11_passNow 9 = .ok (.if_icmp .ne 6, 3) := by decide +kernel
theorem dX11_passNow_12 : decode cX11_passNow 12 = .ok (.bipush (-3), 2) := by decide +kernel
theorem dX11_passNow_14 : decode cX11_passNow 14 = .ok (.ireturn, 1) := by decide +kernel
theorem dX11_passNow_15 : decode cX11_passNow 15 = .ok (.aload_n 0, 1) := by decide +kernel
theorem dX11_passNow_16 : decode cX11_passNow 16 = .ok (.iconst 4, 1) := by decide +kernel
theorem dX11_passNow_17 : decode cX11_passNow 17 = .ok (.invokevirtual 446, 3) := by decide +kernel
theorem dX11_passNow_20 : decode cX11_passNow 20 = .ok (.aload_n 0, 1) := by decide +kernel
theorem dX11_passNow_21 : decode cX11_passNow 21 = .ok (.getfield 13, 3) := by decide +kernel
theorem dX11_passNow_24 : decode cX11_passNow 24 = .ok (.iconst 5, 1) := by decide +kernel
theorem dX11_passNow_25 : decode cX11_passNow 25 = .ok (.dup2, 1) := by decide +kernel
theorem dX11_passNow_26 : decode cX11_passNow 26 = .ok (.iaload, 1) := by decide +kernel
theorem dX11_passNow_27 : decode cX11_passNow 27 = .ok (.iconst 1, 1) := by decide +kernel
theorem dX11_passNow_28 : decode cX11_passNow 28 = .ok (.iadd, 1) := by decide +kernel
theorem dX11_passNow_29 : decode cX11_passNow 29 = .ok (.iastore, 1) := by decide +kernel
theorem dX11_passNow_30 : decode cX11_passNow 30 = .ok (.aload_n 0, 1) := by decide +kernel
theorem dX11_passNow_31 : decode cX11_passNow 31 = .ok (.getfield 13, 3) := by decide +kernel
theorem dX11_passNow_34 : decode cX11_passNow 34 = .ok (.iconst 5, 1) := by decide +kernel
theorem dX11_passNow_35 : decode cX11_passNow 35 = .ok (.iaload, 1) := by decide +kernel
theorem dX11_passNow_36 : decode cX11_passNow 36 = .ok (.ireturn, 1) := by decide +kernel
def D_X11_passNow (h : z_H) (l0 : Option Nat) : Option (Int32 × z_H) :=
  (z_gQ 11 h l0 3).bind fun x2364 =>
  (z_aI .int h x2364 (5:Int32)).bind fun x2365 =>
  if x2365 = (999:Int32) then
    some ((-3:Int32), h)
  else
    (z_ob 11 h l0).bind fun _ =>
    (D_X11_remember  h l0 (4:Int32)).bind fun p2367 =>
    (z_gQ 11 p2367 l0 3).bind fun x2369 =>
    (z_aI .int p2367 x2369 (5:Int32)).bind fun x2370 =>
    (z_sI p2367 x2369 (5:Int32) (x2370 + (1:Int32))).bind fun h2371 =>
    (z_gQ 11 h2371 l0 3).bind fun x2372 =>
    (z_aI .int h2371 x2372 (5:Int32)).bind fun x2373 =>
    some (x2373, h2371)
set_option maxRecDepth 100000 in
set_option maxHeartbeats 4000000 in
theorem S_X11_passNow {G : z_G} {l : Launch} {h : z_H} {l0 : Option Nat} {res : (Int32 × z_H)} (e : D_X11_passNow h l0 = some res) : z_Meth G l 6 M_X11_passNow [z_r l0] h res.2 (some (.int res.1)) := by
  refine z_Meth.of ck_X11_passNow.2.2.2.2 (by simp [lg_sl, z_ci, z_cj, z_cr, z_cx]) ck_X11_passNow.1 ?_
  rw [show lv_args 0 [z_r l0] = [(0, z_r l0)] from by simp [lv_args, z_ci, z_cj, z_cr, z_cx]]
  unfold D_X11_passNow at e
  refine z_aload_n 0 dX11_passNow_0 rfl ?_
  replace e := z_bd e; obtain ⟨x2364, ex2364, e⟩ := e
  refine z_getQ ex2364 lk_X11_13 dX11_passNow_1 ?_
  refine z_iconst (v := 5) dX11_passNow_4 (by decide) ?_
  replace e := z_bd e; obtain ⟨x2365, ex2365, e⟩ := e
  refine z_iald ex2365 dX11_passNow_5 ?_
  refine z_sipush (v := 999) dX11_passNow_6 (by decide) ?_
  refine z_icmp_ne (tgt := 15) dX11_passNow_9 (by decide) (fun c2366 => ?_) (fun c2366 => ?_)
  · rw [if_neg c2366] at e
    refine z_aload_n 0 dX11_passNow_15 rfl ?_
    refine z_iconst (v := 4) dX11_passNow_16 (by decide) ?_
    replace e := z_bd e; obtain ⟨o2368, eo2368, e⟩ := e
    replace e := z_bd e; obtain ⟨p2367, ep2367, e⟩ := e
    refine z_cV [.int (4:Int32)] (S_X11_remember  ep2367) eo2368 rfl ml_X11_446 ck_X11_remember vk_X11_remember dX11_passNow_17 (by decide) rfl (Nat.zero_le _) rfl ?_
    refine z_aload_n 0 dX11_passNow_20 rfl ?_
    replace e := z_bd e; obtain ⟨x2369, ex2369, e⟩ := e
    refine z_getQ ex2369 lk_X11_13 dX11_passNow_21 ?_
    refine z_iconst (v := 5) dX11_passNow_24 (by decide) ?_
    refine z_dup2 dX11_passNow_25 rfl (z_cr _) ?_
    replace e := z_bd e; obtain ⟨x2370, ex2370, e⟩ := e
    refine z_iald ex2370 dX11_passNow_26 ?_
    refine z_iconst (v := 1) dX11_passNow_27 (by decide) ?_
    refine z_iadd dX11_passNow_28 ?_
    replace e := z_bd e; obtain ⟨h2371, eh2371, e⟩ := e
    refine z_iast eh2371 dX11_passNow_29 ?_
    refine z_aload_n 0 dX11_passNow_30 rfl ?_
    replace e := z_bd e; obtain ⟨x2372, ex2372, e⟩ := e
    refine z_getQ ex2372 lk_X11_13 dX11_passNow_31 ?_
    refine z_iconst (v := 5) dX11_passNow_34 (by decide) ?_
    replace e := z_bd e; obtain ⟨x2373, ex2373, e⟩ := e
    refine z_iald ex2373 dX11_passNow_35 ?_
    cases e
    exact z_iret dX11_passNow_36 rfl
  · rw [if_pos c2366] at e
    refine z_bipush (v := -3) dX11_passNow_12 (by decide) ?_
    cases e
    exact z_iret dX11_passNow_14 rfl
theorem dX11_pass_0 : decode cX11_pass 0 = .ok (.aload_n 0, 1) := by decide +kernel
theorem dX11_pass_1 : decode cX11_pass 1 = .ok (.iconst 0, 1) := by decide +kernel
theorem dX11_pass_2 : decode cX11_pass 2 = .ok (.putfield 166, 3) := by decide +kernel
theorem dX11_pass_5 : decode cX11_pass 5 = .ok (.aload_n 0, 1) := by decide +kernel
theorem dX11_pass_6 : decode cX11_pass 6 = .ok (.aload_n 0, 1) := by decide +kernel
theorem dX11_pass_7 : decode cX11_pass 7 = .ok (.invokevirtual 470, 3) := by decide +kernel
theorem dX11_pass_10 : decode cX11_pass 10 = .ok (.invokevirtual 175, 3) := by decide +kernel
theorem dX11_pass_13 : decode cX11_pass 13 = .ok (.ireturn, 1) := by decide +kernel
def D_X11_pass (h : z_H) (l0 : Option Nat) : Option (Int32 × z_H) :=
  (z_pV 11 h l0 0 (.int (0:Int32))).bind fun h2374 =>
  (z_ob 11 h2374 l0).bind fun _ =>
  (D_X11_passNow  h2374 l0).bind fun p2375 =>
  (z_ob 11 p2375.2 l0).bind fun _ =>
  (D_X11_tell  p2375.2 l0 p2375.1).bind fun p2377 =>
  some (p2377.1, p2377.2)
set_option maxRecDepth 100000 in
set_option maxHeartbeats 4000000 in
theorem S_X11_pass {G : z_G} {l : Launch} {h : z_H} {l0 : Option Nat} {res : (Int32 × z_H)} (e : D_X11_pass h l0 = some res) : z_Meth G l 7 M_X11_pass [z_r l0] h res.2 (some (.int res.1)) := by
  refine z_Meth.of ck_X11_pass.2.2.2.2 (by simp [lg_sl, z_ci, z_cj, z_cr, z_cx]) ck_X11_pass.1 ?_
  rw [show lv_args 0 [z_r l0] = [(0, z_r l0)] from by simp [lv_args, z_ci, z_cj, z_cr, z_cx]]
  unfold D_X11_pass at e
  refine z_aload_n 0 dX11_pass_0 rfl ?_
  refine z_iconst (v := 0) dX11_pass_1 (by decide) ?_
  replace e := z_bd e; obtain ⟨h2374, eh2374, e⟩ := e
  refine z_putV eh2374 lk_X11_166 wk_11_0 (fun _ => rfl) (fun _ => rfl) dX11_pass_2 ?_
  refine z_aload_n 0 dX11_pass_5 rfl ?_
  refine z_aload_n 0 dX11_pass_6 rfl ?_
  replace e := z_bd e; obtain ⟨o2376, eo2376, e⟩ := e
  replace e := z_bd e; obtain ⟨p2375, ep2375, e⟩ := e
  refine z_cV [] (S_X11_passNow  ep2375) eo2376 rfl ml_X11_470 ck_X11_passNow vk_X11_passNow dX11_pass_7 (by decide) rfl (by simp [z_ci, z_cj, z_cr, z_cx]) rfl ?_
  replace e := z_bd e; obtain ⟨o2378, eo2378, e⟩ := e
  replace e := z_bd e; obtain ⟨p2377, ep2377, e⟩ := e
  refine z_cV [.int p2375.1] (S_X11_tell  ep2377) eo2378 rfl ml_X11_175 ck_X11_tell vk_X11_tell dX11_pass_10 (by decide) rfl (Nat.zero_le _) rfl ?_
  cases e
  exact z_iret dX11_pass_13 rfl
theorem dX10_mend_0 : decode cX10_mend 0 = .ok (.aload_n 0, 1) := by decide +kernel
theorem dX10_mend_1 : decode cX10_mend 1 = .ok (.iconst 3, 1) := by decide +kernel
theorem dX10_mend_2 : decode cX10_mend 2 = .ok (.iload_n 1, 1) := by decide +kernel
theorem dX10_mend_3 : decode cX10_mend 3 = .ok (.iload_n 2, 1) := by decide +kernel
theorem dX10_mend_4 : decode cX10_mend 4 = .ok (.invokevirtual 217, 3) := by decide +kernel
theorem dX10_mend_7 : decode cX10_mend 7 = .ok (.ireturn, 1) := by decide +kernel
def D_X10_mend (h : z_H) (l0 : Option Nat) (l1 : Int32) (l2 : Int32) : Option (Int32 × z_H) :=
  (z_ob 10 h l0).bind fun _ =>
  (D_X10_attempt  h l0 (3:Int32) l1 l2).bind fun p2379 =>
  some (p2379.1, p2379.2)
set_option maxRecDepth 100000 in
set_option maxHeartbeats 4000000 in
theorem S_X10_mend {G : z_G} {l : Launch} {h : z_H} {l0 : Option Nat} {l1 : Int32} {l2 : Int32} {res : (Int32 × z_H)} (e : D_X10_mend h l0 l1 l2 = some res) : z_Meth G l 10 M_X10_mend [z_r l0, .int l1, .int l2] h res.2 (some (.int res.1)) := by
  refine z_Meth.of ck_X10_mend.2.2.2.2 (by simp [lg_sl, z_ci, z_cj, z_cr, z_cx]) ck_X10_mend.1 ?_
  rw [show lv_args 0 [z_r l0, .int l1, .int l2] = [(0, z_r l0), (1, .int l1), (2, .int l2)] from by simp [lv_args, z_ci, z_cj, z_cr, z_cx]]
  unfold D_X10_mend at e
  refine z_aload_n 0 dX10_mend_0 rfl ?_
  refine z_iconst (v := 3) dX10_mend_1 (by decide) ?_
  refine z_iload_n 1 dX10_mend_2 rfl ?_
  refine z_iload_n 2 dX10_mend_3 rfl ?_
  replace e := z_bd e; obtain ⟨o2380, eo2380, e⟩ := e
  replace e := z_bd e; obtain ⟨p2379, ep2379, e⟩ := e
  refine z_cV [.int (3:Int32), .int l1, .int l2] (S_X10_attempt  ep2379) eo2380 rfl ml_X10_217 ck_X10_attempt vk_X10_attempt dX10_mend_4 (by decide) rfl (Nat.zero_le _) rfl ?_
  cases e
  exact z_iret dX10_mend_7 rfl
theorem dX11_leavesOf_0 : decode cX11_leavesOf 0 = .ok (.aload_n 0, 1) := by decide +kernel
theorem dX11_leavesOf_1 : decode cX11_leavesOf 1 = .ok (.iconst 1, 1) := by decide +kernel
theorem dX11_leavesOf_2 : decode cX11_leavesOf 2 = .ok (.iload_n 1, 1) := by decide +kernel
theorem dX11_leavesOf_3 : decode cX11_leavesOf 3 = .ok (.iload_n 2, 1) := by decide +kernel
theorem dX11_leavesOf_4 : decode cX11_leavesOf 4 = .ok (.aload_n 0, 1) := by decide +kernel
theorem dX11_leavesOf_5 : decode cX11_leavesOf 5 = .ok (.getfield 13, 3) := by decide +kernel
theorem dX11_leavesOf_8 : decode cX11_leavesOf 8 = .ok (.bipush 8, 2) := by decide +kernel
theorem dX11_leavesOf_10 : decode cX11_leavesOf 10 = .ok (.iload_n 1, 1) := by decide +kernel
theorem dX11_leavesOf_11 : decode cX11_leavesOf 11 = .ok (.iadd, 1) := by decide +kernel
theorem dX11_leavesOf_12 : decode cX11_leavesOf 12 = .ok (.iaload, 1) := by decide +kernel
theorem dX11_leavesOf_13 : decode cX11_leavesOf 13 = .ok (.aload_n 0, 1) := by decide +kernel
theorem dX11_leavesOf_14 : decode cX11_leavesOf 14 = .ok (.getfield 13, 3) := by decide +kernel
theorem dX11_leavesOf_17 : decode cX11_leavesOf 17 = .ok (.bipush 14, 2) := by decide +kernel
theorem dX11_leavesOf_19 : decode cX11_leavesOf 19 = .ok (.iload_n 1, 1) := by decide +kernel
theorem dX11_leavesOf_20 : decode cX11_leavesOf 20 = .ok (.iadd, 1) := by decide +kernel
theorem dX11_leavesOf_21 : decode cX11_leavesOf 21 = .ok (.iaload, 1) := by decide +kernel
theorem dX11_leavesOf_22 : decode cX11_leavesOf 22 = .ok (.lconst 0, 1) := by decide +kernel
theorem dX11_leavesOf_23 : decode cX11_leavesOf 23 = .ok (.invokevirtual 424, 3) := by decide +kernel
theorem dX11_leavesOf_26 : decode cX11_leavesOf 26 = .ok (.iconst 0, 1) := by decide +kernel
theorem dX11_leavesOf_27 : decode cX11_leavesOf 27 = .ok (.bipush 99, 2) := by decide +kernel
theorem dX11_leavesOf_29 : decode cX11_leavesOf 29 = .ok (.invokestatic 428, 3) := by decide +kernel
theorem dX11_leavesOf_32 : decode cX11_leavesOf 32 = .ok (.ireturn, 1) := by decide +kernel
def D_X11_leavesOf (h : z_H) (l0 : Option Nat) (l1 : Int32) (l2 : Int32) : Option (Int32 × z_H) :=
  (z_gQ 11 h l0 3).bind fun x2381 =>
  (z_aI .int h x2381 ((8:Int32) + l1)).bind fun x2382 =>
  (z_gQ 11 h l0 3).bind fun x2383 =>
  (z_aI .int h x2383 ((14:Int32) + l1)).bind fun x2384 =>
  (z_ob 11 h l0).bind fun _ =>
  (D_X11_tells  h l0 (1:Int32) l1 l2 x2382 x2384 (0:Int64)).bind fun p2385 =>
  (D_X11_bounded  p2385.2 p2385.1 (0:Int32) (99:Int32)).bind fun p2387 =>
  some (p2387.1, p2387.2)
set_option maxRecDepth 100000 in
set_option maxHeartbeats 4000000 in
theorem S_X11_leavesOf {G : z_G} {l : Launch} {h : z_H} {l0 : Option Nat} {l1 : Int32} {l2 : Int32} {res : (Int32 × z_H)} (e : D_X11_leavesOf h l0 l1 l2 = some res) : z_Meth G l 9 M_X11_leavesOf [z_r l0, .int l1, .int l2] h res.2 (some (.int res.1)) := by
  refine z_Meth.of ck_X11_leavesOf.2.2.2.2 (by simp [lg_sl, z_ci, z_cj, z_cr, z_cx]) ck_X11_leavesOf.1 ?_
  rw [show lv_args 0 [z_r l0, .int l1, .int l2] = [(0, z_r l0), (1, .int l1), (2, .int l2)] from by simp [lv_args, z_ci, z_cj, z_cr, z_cx]]
  unfold D_X11_leavesOf at e
  refine z_aload_n 0 dX11_leavesOf_0 rfl ?_
  refine z_iconst (v := 1) dX11_leavesOf_1 (by decide) ?_
  refine z_iload_n 1 dX11_leavesOf_2 rfl ?_
  refine z_iload_n 2 dX11_leavesOf_3 rfl ?_
  refine z_aload_n 0 dX11_leavesOf_4 rfl ?_
  replace e := z_bd e; obtain ⟨x2381, ex2381, e⟩ := e
  refine z_getQ ex2381 lk_X11_13 dX11_leavesOf_5 ?_
  refine z_bipush (v := 8) dX11_leavesOf_8 (by decide) ?_
  refine z_iload_n 1 dX11_leavesOf_10 rfl ?_
  refine z_iadd dX11_leavesOf_11 ?_
  replace e := z_bd e; obtain ⟨x2382, ex2382, e⟩ := e
  refine z_iald ex2382 dX11_leavesOf_12 ?_
  refine z_aload_n 0 dX11_leavesOf_13 rfl ?_
  replace e := z_bd e; obtain ⟨x2383, ex2383, e⟩ := e
  refine z_getQ ex2383 lk_X11_13 dX11_leavesOf_14 ?_
  refine z_bipush (v := 14) dX11_leavesOf_17 (by decide) ?_
  refine z_iload_n 1 dX11_leavesOf_19 rfl ?_
  refine z_iadd dX11_leavesOf_20 ?_
  replace e := z_bd e; obtain ⟨x2384, ex2384, e⟩ := e
  refine z_iald ex2384 dX11_leavesOf_21 ?_
  refine z_lconst (v := 0) dX11_leavesOf_22 (by decide) ?_
  replace e := z_bd e; obtain ⟨o2386, eo2386, e⟩ := e
  replace e := z_bd e; obtain ⟨p2385, ep2385, e⟩ := e
  refine z_cV [.int (1:Int32), .int l1, .int l2, .int x2382, .int x2384, .long (0:Int64)] (S_X11_tells  ep2385) eo2386 rfl ml_X11_424 ck_X11_tells vk_X11_tells dX11_leavesOf_23 (by decide) rfl (Nat.zero_le _) rfl ?_
  refine z_iconst (v := 0) dX11_leavesOf_26 (by decide) ?_
  refine z_bipush (v := 99) dX11_leavesOf_27 (by decide) ?_
  replace e := z_bd e; obtain ⟨p2387, ep2387, e⟩ := e
  refine z_cS [.long p2385.1, .int (0:Int32), .int (99:Int32)] (S_X11_bounded  ep2387) ml_X11_428 ck_X11_bounded st_X11_bounded dX11_leavesOf_29 (by decide) rfl (Nat.zero_le _) rfl ?_
  cases e
  exact z_iret dX11_leavesOf_32 rfl
theorem dX11_mendNow_0 : decode cX11_mendNow 0 = .ok (.iload_n 2, 1) := by decide +kernel
theorem dX11_mendNow_1 : decode cX11_mendNow 1 = .ok (.invokestatic 223, 3) := by decide +kernel
theorem dX11_mendNow_4 : decode cX11_mendNow 4 = .ok (.ifCond .ne 5, 3) := by decide +kernel
theorem dX11_mendNow_7 : decode cX11_mendNow 7 = .ok (.iconst (-1), 1) := by decide +kernel
theorem dX11_mendNow_8 : decode cX11_mendNow 8 = .ok (.ireturn, 1) := by decide +kernel
theorem dX11_mendNow_9 : decode cX11_mendNow 9 = .ok (.aload_n 0, 1) := by decide +kernel
theorem dX11_mendNow_10 : decode cX11_mendNow 10 = .ok (.iload_n 1, 1) := by decide +kernel
theorem dX11_mendNow_11 : decode cX11_mendNow 11 = .ok (.invokevirtual 211, 3) := by decide +kernel
theorem dX11_mendNow_14 : decode cX11_mendNow 14 = .ok (.ifCond .ne 6, 3) := by decide +kernel
theorem dX11_mendNow_17 : decode cX11_mendNow 17 = .ok (.bipush (-2), 2) := by decide +kernel
theorem dX11_mendNow_19 : decode cX11_mendNow 19 = .ok (.ireturn, 1) := by decide +kernel
theorem dX11_mendNow_20 : decode cX11_mendNow 20 = .ok (.aload_n 0, 1) := by decide +kernel
theorem dX11_mendNow_21 : decode cX11_mendNow 21 = .ok (.iload_n 1, 1) := by decide +kernel
theorem dX11_mendNow_22 : decode cX11_mendNow 22 = .ok (.iload_n 2, 1) := by decide +kernel
theorem dX11_mendNow_23 : decode cX11_mendNow 23 = .ok (.invokevirtual 219, 3) := by decide +kernel
theorem dX11_mendNow_26 : decode cX11_mendNow 26 = .ok (.istore_n 3, 1) := by decide +kernel
theorem dX11_mendNow_27 : decode cX11_mendNow 27 = .ok (.iload_n 3, 1) := by decide +kernel
theorem dX11_mendNow_28 : decode cX11_mendNow 28 = .ok (.ifCond .ne 6, 3) := by decide +kernel
theorem dX11_mendNow_31 : decode cX11_mendNow 31 = .ok (.bipush (-3), 2) := by decide +kernel
theorem dX11_mendNow_33 : decode cX11_mendNow 33 = .ok (.ireturn, 1) := by decide +kernel
theorem dX11_mendNow_34 : decode cX11_mendNow 34 = .ok (.aload_n 0, 1) := by decide +kernel
theorem dX11_mendNow_35 : decode cX11_mendNow 35 = .ok (.iload_n 1, 1) := by decide +kernel
theorem dX11_mendNow_36 : decode cX11_mendNow 36 = .ok (.iload_n 2, 1) := by decide +kernel
theorem dX11_mendNow_37 : decode cX11_mendNow 37 = .ok (.invokevirtual 229, 3) := by decide +kernel
theorem dX11_mendNow_40 : decode cX11_mendNow 40 = .ok (.istore 4, 2) := by decide +kernel
theorem dX11_mendNow_42 : decode cX11_mendNow 42 = .ok (.aload_n 0, 1) := by decide +kernel
theorem dX11_mendNow_43 : decode cX11_mendNow 43 = .ok (.iconst 3, 1) := by decide +kernel
theorem dX11_mendNow_44 : decode cX11_mendNow 44 = .ok (.invokevirtual 446, 3) := by decide +kernel
theorem dX11_mendNow_47 : decode cX11_mendNow 47 = .ok (.aload_n 0, 1) := by decide +kernel
theorem dX11_mendNow_48 : decode cX11_mendNow 48 = .ok (.getfield 13, 3) := by decide +kernel
theorem dX11_mendNow_51 : decode cX11_mendNow 51 = .ok (.bipush 20, 2) := by decide +kernel
theorem dX11_mendNow_53 : decode cX11_mendNow 53 = .ok (.iconst 4, 1) := by decide +kernel
theorem dX11_mendNow_54 : decode cX11_mendNow 54 = .ok (.iload_n 1, 1) := by decide +kernel
theorem dX11_mendNow_55 : decode cX11_mendNow 55 = .ok (.imul, 1) := by decide +kernel
theorem dX11_mendNow_56 : decode cX11_mendNow 56 = .ok (.iadd, 1) := by decide +kernel
theorem dX11_mendNow_57 : decode cX11_mendNow 57 = .ok (.iload_n 2, 1) := by decide +kernel
theorem dX11_mendNow_58 : decode cX11_mendNow 58 = .ok (.iadd, 1) := by decide +kernel
theorem dX11_mendNow_59 : decode cX11_mendNow 59 = .ok (.iload 4, 2) := by decide +kernel
theorem dX11_mendNow_61 : decode cX11_mendNow 61 = .ok (.iastore, 1) := by decide +kernel
theorem dX11_mendNow_62 : decode cX11_mendNow 62 = .ok (.iload_n 3, 1) := by decide +kernel
theorem dX11_mendNow_63 : decode cX11_mendNow 63 = .ok (.ireturn, 1) := by decide +kernel
def D_X11_mendNow (h : z_H) (l0 : Option Nat) (l1 : Int32) (l2 : Int32) : Option (Int32 × z_H) :=
  (D_X11_isPart  h l2).bind fun p2388 =>
  if p2388.1 = 0 then
    some ((-1:Int32), p2388.2)
  else
    (z_ob 11 p2388.2 l0).bind fun _ =>
    (D_X11_isPair  p2388.2 l0 l1).bind fun p2390 =>
    if p2390.1 = 0 then
      some ((-2:Int32), p2390.2)
    else
      (z_ob 11 p2390.2 l0).bind fun _ =>
      (D_X11_wornOf  p2390.2 l0 l1 l2).bind fun p2393 =>
      if p2393.1 = 0 then
        some ((-3:Int32), p2393.2)
      else
        (z_ob 11 p2393.2 l0).bind fun _ =>
        (D_X11_leavesOf  p2393.2 l0 l1 l2).bind fun p2396 =>
        (z_ob 11 p2396.2 l0).bind fun _ =>
        (D_X11_remember  p2396.2 l0 (3:Int32)).bind fun p2398 =>
        (z_gQ 11 p2398 l0 3).bind fun x2400 =>
        (z_sI p2398 x2400 (((20:Int32) + ((4:Int32) * l1)) + l2) p2396.1).bind fun h2401 =>
        some (p2393.1, h2401)
set_option maxRecDepth 100000 in
set_option maxHeartbeats 4000000 in
theorem S_X11_mendNow {G : z_G} {l : Launch} {h : z_H} {l0 : Option Nat} {l1 : Int32} {l2 : Int32} {res : (Int32 × z_H)} (e : D_X11_mendNow h l0 l1 l2 = some res) : z_Meth G l 10 M_X11_mendNow [z_r l0, .int l1, .int l2] h res.2 (some (.int res.1)) := by
  refine z_Meth.of ck_X11_mendNow.2.2.2.2 (by simp [lg_sl, z_ci, z_cj, z_cr, z_cx]) ck_X11_mendNow.1 ?_
  rw [show lv_args 0 [z_r l0, .int l1, .int l2] = [(0, z_r l0), (1, .int l1), (2, .int l2)] from by simp [lv_args, z_ci, z_cj, z_cr, z_cx]]
  unfold D_X11_mendNow at e
  refine z_iload_n 2 dX11_mendNow_0 rfl ?_
  replace e := z_bd e; obtain ⟨p2388, ep2388, e⟩ := e
  refine z_cS [.int l2] (S_X11_isPart  ep2388) ml_X11_223 ck_X11_isPart st_X11_isPart dX11_mendNow_1 (by decide) rfl (Nat.zero_le _) rfl ?_
  refine z_if_ne (tgt := 9) dX11_mendNow_4 (by decide) (fun c2389 => ?_) (fun c2389 => ?_)
  · rw [if_neg c2389] at e
    refine z_aload_n 0 dX11_mendNow_9 rfl ?_
    refine z_iload_n 1 dX11_mendNow_10 rfl ?_
    replace e := z_bd e; obtain ⟨o2391, eo2391, e⟩ := e
    replace e := z_bd e; obtain ⟨p2390, ep2390, e⟩ := e
    refine z_cV [.int l1] (S_X11_isPair  ep2390) eo2391 rfl ml_X11_211 ck_X11_isPair vk_X11_isPair dX11_mendNow_11 (by decide) rfl (Nat.zero_le _) rfl ?_
    refine z_if_ne (tgt := 20) dX11_mendNow_14 (by decide) (fun c2392 => ?_) (fun c2392 => ?_)
    · rw [if_neg c2392] at e
      refine z_aload_n 0 dX11_mendNow_20 rfl ?_
      refine z_iload_n 1 dX11_mendNow_21 rfl ?_
      refine z_iload_n 2 dX11_mendNow_22 rfl ?_
      replace e := z_bd e; obtain ⟨o2394, eo2394, e⟩ := e
      replace e := z_bd e; obtain ⟨p2393, ep2393, e⟩ := e
      refine z_cV [.int l1, .int l2] (S_X11_wornOf  ep2393) eo2394 rfl ml_X11_219 ck_X11_wornOf vk_X11_wornOf dX11_mendNow_23 (by decide) rfl (Nat.zero_le _) rfl ?_
      refine z_istore_n (L' := [(3, .int p2393.1), (0, z_r l0), (1, .int l1), (2, .int l2)]) dX11_mendNow_26 rfl (by decide) rfl ?_
      refine z_iload_n 0 dX11_mendNow_27 rfl ?_
      refine z_if_ne (tgt := 34) dX11_mendNow_28 (by decide) (fun c2395 => ?_) (fun c2395 => ?_)
      · rw [if_neg c2395] at e
        refine z_aload_n 1 dX11_mendNow_34 rfl ?_
        refine z_iload_n 2 dX11_mendNow_35 rfl ?_
        refine z_iload_n 3 dX11_mendNow_36 rfl ?_
        replace e := z_bd e; obtain ⟨o2397, eo2397, e⟩ := e
        replace e := z_bd e; obtain ⟨p2396, ep2396, e⟩ := e
        refine z_cV [.int l1, .int l2] (S_X11_leavesOf  ep2396) eo2397 rfl ml_X11_229 ck_X11_leavesOf vk_X11_leavesOf dX11_mendNow_37 (by decide) rfl (Nat.zero_le _) rfl ?_
        refine z_istore (L' := [(4, .int p2396.1), (3, .int p2393.1), (0, z_r l0), (1, .int l1), (2, .int l2)]) dX11_mendNow_40 (by decide) rfl ?_
        refine z_aload_n 2 dX11_mendNow_42 rfl ?_
        refine z_iconst (v := 3) dX11_mendNow_43 (by decide) ?_
        replace e := z_bd e; obtain ⟨o2399, eo2399, e⟩ := e
        replace e := z_bd e; obtain ⟨p2398, ep2398, e⟩ := e
        refine z_cV [.int (3:Int32)] (S_X11_remember  ep2398) eo2399 rfl ml_X11_446 ck_X11_remember vk_X11_remember dX11_mendNow_44 (by decide) rfl (Nat.zero_le _) rfl ?_
        refine z_aload_n 2 dX11_mendNow_47 rfl ?_
        replace e := z_bd e; obtain ⟨x2400, ex2400, e⟩ := e
        refine z_getQ ex2400 lk_X11_13 dX11_mendNow_48 ?_
        refine z_bipush (v := 20) dX11_mendNow_51 (by decide) ?_
        refine z_iconst (v := 4) dX11_mendNow_53 (by decide) ?_
        refine z_iload_n 3 dX11_mendNow_54 rfl ?_
        refine z_imul dX11_mendNow_55 ?_
        refine z_iadd dX11_mendNow_56 ?_
        refine z_iload_n 4 dX11_mendNow_57 rfl ?_
        refine z_iadd dX11_mendNow_58 ?_
        refine z_iload 0 dX11_mendNow_59 rfl ?_
        replace e := z_bd e; obtain ⟨h2401, eh2401, e⟩ := e
        refine z_iast eh2401 dX11_mendNow_61 ?_
        refine z_iload_n 1 dX11_mendNow_62 rfl ?_
        cases e
        exact z_iret dX11_mendNow_63 rfl
      · rw [if_pos c2395] at e
        refine z_bipush (v := -3) dX11_mendNow_31 (by decide) ?_
        cases e
        exact z_iret dX11_mendNow_33 rfl
    · rw [if_pos c2392] at e
      refine z_bipush (v := -2) dX11_mendNow_17 (by decide) ?_
      cases e
      exact z_iret dX11_mendNow_19 rfl
  · rw [if_pos c2389] at e
    refine z_iconst (v := -1) dX11_mendNow_7 (by decide) ?_
    cases e
    exact z_iret dX11_mendNow_8 rfl
theorem dX11_mend_0 : decode cX11_mend 0 = .ok (.aload_n 0, 1) := by decide +kernel
theorem dX11_mend_1 : decode cX11_mend 1 = .ok (.iconst 0, 1) := by decide +kernel
theorem dX11_mend_2 : decode cX11_mend 2 = .ok (.putfield 166, 3) := by decide +kernel
theorem dX11_mend_5 : decode cX11_mend 5 = .ok (.aload_n 0, 1) := by decide +kernel
theorem dX11_mend_6 : decode cX11_mend 6 = .ok (.aload_n 0, 1) := by decide +kernel
theorem dX11_mend_7 : decode cX11_mend 7 = .ok (.iload_n 1, 1) := by decide +kernel
theorem dX11_mend_8 : decode cX11_mend 8 = .ok (.iload_n 2, 1) := by decide +kernel
theorem dX11_mend_9 : decode cX11_mend 9 = .ok (.invokevirtual 467, 3) := by decide +kernel
theorem dX11_mend_12 : decode cX11_mend 12 = .ok (.invokevirtual 175, 3) := by decide +kernel
theorem dX11_mend_15 : decode cX11_mend 15 = .ok (.ireturn, 1) := by decide +kernel
def D_X11_mend (h : z_H) (l0 : Option Nat) (l1 : Int32) (l2 : Int32) : Option (Int32 × z_H) :=
  (z_pV 11 h l0 0 (.int (0:Int32))).bind fun h2402 =>
  (z_ob 11 h2402 l0).bind fun _ =>
  (D_X11_mendNow  h2402 l0 l1 l2).bind fun p2403 =>
  (z_ob 11 p2403.2 l0).bind fun _ =>
  (D_X11_tell  p2403.2 l0 p2403.1).bind fun p2405 =>
  some (p2405.1, p2405.2)
set_option maxRecDepth 100000 in
set_option maxHeartbeats 4000000 in
theorem S_X11_mend {G : z_G} {l : Launch} {h : z_H} {l0 : Option Nat} {l1 : Int32} {l2 : Int32} {res : (Int32 × z_H)} (e : D_X11_mend h l0 l1 l2 = some res) : z_Meth G l 11 M_X11_mend [z_r l0, .int l1, .int l2] h res.2 (some (.int res.1)) := by
  refine z_Meth.of ck_X11_mend.2.2.2.2 (by simp [lg_sl, z_ci, z_cj, z_cr, z_cx]) ck_X11_mend.1 ?_
  rw [show lv_args 0 [z_r l0, .int l1, .int l2] = [(0, z_r l0), (1, .int l1), (2, .int l2)] from by simp [lv_args, z_ci, z_cj, z_cr, z_cx]]
  unfold D_X11_mend at e
  refine z_aload_n 0 dX11_mend_0 rfl ?_
  refine z_iconst (v := 0) dX11_mend_1 (by decide) ?_
  replace e := z_bd e; obtain ⟨h2402, eh2402, e⟩ := e
  refine z_putV eh2402 lk_X11_166 wk_11_0 (fun _ => rfl) (fun _ => rfl) dX11_mend_2 ?_
  refine z_aload_n 0 dX11_mend_5 rfl ?_
  refine z_aload_n 0 dX11_mend_6 rfl ?_
  refine z_iload_n 1 dX11_mend_7 rfl ?_
  refine z_iload_n 2 dX11_mend_8 rfl ?_
  replace e := z_bd e; obtain ⟨o2404, eo2404, e⟩ := e
  replace e := z_bd e; obtain ⟨p2403, ep2403, e⟩ := e
  refine z_cV [.int l1, .int l2] (S_X11_mendNow  ep2403) eo2404 rfl ml_X11_467 ck_X11_mendNow vk_X11_mendNow dX11_mend_9 (by decide) rfl (by simp [z_ci, z_cj, z_cr, z_cx]) rfl ?_
  replace e := z_bd e; obtain ⟨o2406, eo2406, e⟩ := e
  replace e := z_bd e; obtain ⟨p2405, ep2405, e⟩ := e
  refine z_cV [.int p2403.1] (S_X11_tell  ep2405) eo2406 rfl ml_X11_175 ck_X11_tell vk_X11_tell dX11_mend_12 (by decide) rfl (Nat.zero_le _) rfl ?_
  cases e
  exact z_iret dX11_mend_15 rfl
theorem dX10_pause_0 : decode cX10_pause 0 = .ok (.aload_n 0, 1) := by decide +kernel
theorem dX10_pause_1 : decode cX10_pause 1 = .ok (.iconst 2, 1) := by decide +kernel
theorem dX10_pause_2 : decode cX10_pause 2 = .ok (.iload_n 1, 1) := by decide +kernel
theorem dX10_pause_3 : decode cX10_pause 3 = .ok (.iconst 0, 1) := by decide +kernel
theorem dX10_pause_4 : decode cX10_pause 4 = .ok (.invokevirtual 217, 3) := by decide +kernel
theorem dX10_pause_7 : decode cX10_pause 7 = .ok (.ireturn, 1) := by decide +kernel
def D_X10_pause (h : z_H) (l0 : Option Nat) (l1 : Int32) : Option (Int32 × z_H) :=
  (z_ob 10 h l0).bind fun _ =>
  (D_X10_attempt  h l0 (2:Int32) l1 (0:Int32)).bind fun p2407 =>
  some (p2407.1, p2407.2)
set_option maxRecDepth 100000 in
set_option maxHeartbeats 4000000 in
theorem S_X10_pause {G : z_G} {l : Launch} {h : z_H} {l0 : Option Nat} {l1 : Int32} {res : (Int32 × z_H)} (e : D_X10_pause h l0 l1 = some res) : z_Meth G l 10 M_X10_pause [z_r l0, .int l1] h res.2 (some (.int res.1)) := by
  refine z_Meth.of ck_X10_pause.2.2.2.2 (by simp [lg_sl, z_ci, z_cj, z_cr, z_cx]) ck_X10_pause.1 ?_
  rw [show lv_args 0 [z_r l0, .int l1] = [(0, z_r l0), (1, .int l1)] from by simp [lv_args, z_ci, z_cj, z_cr, z_cx]]
  unfold D_X10_pause at e
  refine z_aload_n 0 dX10_pause_0 rfl ?_
  refine z_iconst (v := 2) dX10_pause_1 (by decide) ?_
  refine z_iload_n 1 dX10_pause_2 rfl ?_
  refine z_iconst (v := 0) dX10_pause_3 (by decide) ?_
  replace e := z_bd e; obtain ⟨o2408, eo2408, e⟩ := e
  replace e := z_bd e; obtain ⟨p2407, ep2407, e⟩ := e
  refine z_cV [.int (2:Int32), .int l1, .int (0:Int32)] (S_X10_attempt  ep2407) eo2408 rfl ml_X10_217 ck_X10_attempt vk_X10_attempt dX10_pause_4 (by decide) rfl (Nat.zero_le _) rfl ?_
  cases e
  exact z_iret dX10_pause_7 rfl
theorem dX11_pauseNow_0 : decode cX11_pauseNow 0 = .ok (.aload_n 0, 1) := by decide +kernel
theorem dX11_pauseNow_1 : decode cX11_pauseNow 1 = .ok (.iload_n 1, 1) := by decide +kernel
theorem dX11_pauseNow_2 : decode cX11_pauseNow 2 = .ok (.invokevirtual 211, 3) := by decide +kernel
theorem dX11_pauseNow_5 : decode cX11_pauseNow 5 = .ok (.ifCond .ne 6, 3) := by decide +kernel
theorem dX11_pauseNow_8 : decode cX11_pauseNow 8 = .ok (.bipush (-2), 2) := by decide +kernel
theorem dX11_pauseNow_10 : decode cX11_pauseNow 10 = .ok (.ireturn, 1) := by decide +kernel
theorem dX11_pauseNow_11 : decode cX11_pauseNow 11 = .ok (.aload_n 0, 1) := by decide +kernel
theorem dX11_pauseNow_12 : decode cX11_pauseNow 12 = .ok (.iconst 2, 1) := by decide +kernel
theorem dX11_pauseNow_13 : decode cX11_pauseNow 13 = .ok (.invokevirtual 446, 3) := by decide +kernel
theorem dX11_pauseNow_16 : decode cX11_pauseNow 16 = .ok (.aload_n 0, 1) := by decide +kernel
theorem dX11_pauseNow_17 : decode cX11_pauseNow 17 = .ok (.iload_n 1, 1) := by decide +kernel
theorem dX11_pauseNow_18 : decode cX11_pauseNow 18 = .ok (.iconst 1, 1) := by decide +kernel
theorem dX11_pauseNow_19 : decode cX11_pauseNow 19 = .ok (.aload_n 0, 1) := by decide +kernel
theorem dX11_pauseNow_20 : decode cX11_pauseNow 20 = .ok (.iload_n 1, 1) := by decide +kernel
theorem dX11_pauseNow_21 : decode cX11_pauseNow 21 = .ok (.iconst 1, 1) := by decide +kernel
theorem dX11_pauseNow_22 : decode cX11_pauseNow 22 = .ok (.invokevirtual 226, 3) := by decide +kernel
theorem dX11_pauseNow_25 : decode cX11_pauseNow 25 = .ok (.invokevirtual 442, 3) := by decide +kernel
theorem dX11_pauseNow_28 : decode cX11_pauseNow 28 = .ok (.aload_n 0, 1) := by decide +kernel
theorem dX11_pauseNow_29 : decode cX11_pauseNow 29 = .ok (.iload_n 1, 1) := by decide +kernel
theorem dX11_pauseNow_30 : decode cX11_pauseNow 30 = .ok (.iconst 1, 1) := by decide +kernel
theorem dX11_pauseNow_31 : decode cX11_pauseNow 31 = .ok (.invokevirtual 219, 3) := by decide +kernel
theorem dX11_pauseNow_34 : decode cX11_pauseNow 34 = .ok (.ireturn, 1) := by decide +kernel
def D_X11_pauseNow (h : z_H) (l0 : Option Nat) (l1 : Int32) : Option (Int32 × z_H) :=
  (z_ob 11 h l0).bind fun _ =>
  (D_X11_isPair  h l0 l1).bind fun p2409 =>
  if p2409.1 = 0 then
    some ((-2:Int32), p2409.2)
  else
    (z_ob 11 p2409.2 l0).bind fun _ =>
    (D_X11_remember  p2409.2 l0 (2:Int32)).bind fun p2412 =>
    (z_ob 11 p2412 l0).bind fun _ =>
    (D_X11_wearsNow  p2412 l0 l1 (1:Int32)).bind fun p2414 =>
    (z_ob 11 p2414.2 l0).bind fun _ =>
    (D_X11_wear  p2414.2 l0 l1 (1:Int32) p2414.1).bind fun p2416 =>
    (z_ob 11 p2416 l0).bind fun _ =>
    (D_X11_wornOf  p2416 l0 l1 (1:Int32)).bind fun p2418 =>
    some (p2418.1, p2418.2)
set_option maxRecDepth 100000 in
set_option maxHeartbeats 4000000 in
theorem S_X11_pauseNow {G : z_G} {l : Launch} {h : z_H} {l0 : Option Nat} {l1 : Int32} {res : (Int32 × z_H)} (e : D_X11_pauseNow h l0 l1 = some res) : z_Meth G l 11 M_X11_pauseNow [z_r l0, .int l1] h res.2 (some (.int res.1)) := by
  refine z_Meth.of ck_X11_pauseNow.2.2.2.2 (by simp [lg_sl, z_ci, z_cj, z_cr, z_cx]) ck_X11_pauseNow.1 ?_
  rw [show lv_args 0 [z_r l0, .int l1] = [(0, z_r l0), (1, .int l1)] from by simp [lv_args, z_ci, z_cj, z_cr, z_cx]]
  unfold D_X11_pauseNow at e
  refine z_aload_n 0 dX11_pauseNow_0 rfl ?_
  refine z_iload_n 1 dX11_pauseNow_1 rfl ?_
  replace e := z_bd e; obtain ⟨o2410, eo2410, e⟩ := e
  replace e := z_bd e; obtain ⟨p2409, ep2409, e⟩ := e
  refine z_cV [.int l1] (S_X11_isPair  ep2409) eo2410 rfl ml_X11_211 ck_X11_isPair vk_X11_isPair dX11_pauseNow_2 (by decide) rfl (Nat.zero_le _) rfl ?_
  refine z_if_ne (tgt := 11) dX11_pauseNow_5 (by decide) (fun c2411 => ?_) (fun c2411 => ?_)
  · rw [if_neg c2411] at e
    refine z_aload_n 0 dX11_pauseNow_11 rfl ?_
    refine z_iconst (v := 2) dX11_pauseNow_12 (by decide) ?_
    replace e := z_bd e; obtain ⟨o2413, eo2413, e⟩ := e
    replace e := z_bd e; obtain ⟨p2412, ep2412, e⟩ := e
    refine z_cV [.int (2:Int32)] (S_X11_remember  ep2412) eo2413 rfl ml_X11_446 ck_X11_remember vk_X11_remember dX11_pauseNow_13 (by decide) rfl (Nat.zero_le _) rfl ?_
    refine z_aload_n 0 dX11_pauseNow_16 rfl ?_
    refine z_iload_n 1 dX11_pauseNow_17 rfl ?_
    refine z_iconst (v := 1) dX11_pauseNow_18 (by decide) ?_
    refine z_aload_n 0 dX11_pauseNow_19 rfl ?_
    refine z_iload_n 1 dX11_pauseNow_20 rfl ?_
    refine z_iconst (v := 1) dX11_pauseNow_21 (by decide) ?_
    replace e := z_bd e; obtain ⟨o2415, eo2415, e⟩ := e
    replace e := z_bd e; obtain ⟨p2414, ep2414, e⟩ := e
    refine z_cV [.int l1, .int (1:Int32)] (S_X11_wearsNow  ep2414) eo2415 rfl ml_X11_226 ck_X11_wearsNow vk_X11_wearsNow dX11_pauseNow_22 (by decide) rfl (by simp [z_ci, z_cj, z_cr, z_cx]) rfl ?_
    replace e := z_bd e; obtain ⟨o2417, eo2417, e⟩ := e
    replace e := z_bd e; obtain ⟨p2416, ep2416, e⟩ := e
    refine z_cV [.int l1, .int (1:Int32), .int p2414.1] (S_X11_wear  ep2416) eo2417 rfl ml_X11_442 ck_X11_wear vk_X11_wear dX11_pauseNow_25 (by decide) rfl (Nat.zero_le _) rfl ?_
    refine z_aload_n 0 dX11_pauseNow_28 rfl ?_
    refine z_iload_n 1 dX11_pauseNow_29 rfl ?_
    refine z_iconst (v := 1) dX11_pauseNow_30 (by decide) ?_
    replace e := z_bd e; obtain ⟨o2419, eo2419, e⟩ := e
    replace e := z_bd e; obtain ⟨p2418, ep2418, e⟩ := e
    refine z_cV [.int l1, .int (1:Int32)] (S_X11_wornOf  ep2418) eo2419 rfl ml_X11_219 ck_X11_wornOf vk_X11_wornOf dX11_pauseNow_31 (by decide) rfl (Nat.zero_le _) rfl ?_
    cases e
    exact z_iret dX11_pauseNow_34 rfl
  · rw [if_pos c2411] at e
    refine z_bipush (v := -2) dX11_pauseNow_8 (by decide) ?_
    cases e
    exact z_iret dX11_pauseNow_10 rfl
theorem dX11_pause_0 : decode cX11_pause 0 = .ok (.aload_n 0, 1) := by decide +kernel
theorem dX11_pause_1 : decode cX11_pause 1 = .ok (.iconst 0, 1) := by decide +kernel
theorem dX11_pause_2 : decode cX11_pause 2 = .ok (.putfield 166, 3) := by decide +kernel
theorem dX11_pause_5 : decode cX11_pause 5 = .ok (.aload_n 0, 1) := by decide +kernel
theorem dX11_pause_6 : decode cX11_pause 6 = .ok (.aload_n 0, 1) := by decide +kernel
theorem dX11_pause_7 : decode cX11_pause 7 = .ok (.iload_n 1, 1) := by decide +kernel
theorem dX11_pause_8 : decode cX11_pause 8 = .ok (.invokevirtual 464, 3) := by decide +kernel
theorem dX11_pause_11 : decode cX11_pause 11 = .ok (.invokevirtual 175, 3) := by decide +kernel
theorem dX11_pause_14 : decode cX11_pause 14 = .ok (.ireturn, 1) := by decide +kernel
def D_X11_pause (h : z_H) (l0 : Option Nat) (l1 : Int32) : Option (Int32 × z_H) :=
  (z_pV 11 h l0 0 (.int (0:Int32))).bind fun h2420 =>
  (z_ob 11 h2420 l0).bind fun _ =>
  (D_X11_pauseNow  h2420 l0 l1).bind fun p2421 =>
  (z_ob 11 p2421.2 l0).bind fun _ =>
  (D_X11_tell  p2421.2 l0 p2421.1).bind fun p2423 =>
  some (p2423.1, p2423.2)
set_option maxRecDepth 100000 in
set_option maxHeartbeats 4000000 in
theorem S_X11_pause {G : z_G} {l : Launch} {h : z_H} {l0 : Option Nat} {l1 : Int32} {res : (Int32 × z_H)} (e : D_X11_pause h l0 l1 = some res) : z_Meth G l 12 M_X11_pause [z_r l0, .int l1] h res.2 (some (.int res.1)) := by
  refine z_Meth.of ck_X11_pause.2.2.2.2 (by simp [lg_sl, z_ci, z_cj, z_cr, z_cx]) ck_X11_pause.1 ?_
  rw [show lv_args 0 [z_r l0, .int l1] = [(0, z_r l0), (1, .int l1)] from by simp [lv_args, z_ci, z_cj, z_cr, z_cx]]
  unfold D_X11_pause at e
  refine z_aload_n 0 dX11_pause_0 rfl ?_
  refine z_iconst (v := 0) dX11_pause_1 (by decide) ?_
  replace e := z_bd e; obtain ⟨h2420, eh2420, e⟩ := e
  refine z_putV eh2420 lk_X11_166 wk_11_0 (fun _ => rfl) (fun _ => rfl) dX11_pause_2 ?_
  refine z_aload_n 0 dX11_pause_5 rfl ?_
  refine z_aload_n 0 dX11_pause_6 rfl ?_
  refine z_iload_n 1 dX11_pause_7 rfl ?_
  replace e := z_bd e; obtain ⟨o2422, eo2422, e⟩ := e
  replace e := z_bd e; obtain ⟨p2421, ep2421, e⟩ := e
  refine z_cV [.int l1] (S_X11_pauseNow  ep2421) eo2422 rfl ml_X11_464 ck_X11_pauseNow vk_X11_pauseNow dX11_pause_8 (by decide) rfl (by simp [z_ci, z_cj, z_cr, z_cx]) rfl ?_
  replace e := z_bd e; obtain ⟨o2424, eo2424, e⟩ := e
  replace e := z_bd e; obtain ⟨p2423, ep2423, e⟩ := e
  refine z_cV [.int p2421.1] (S_X11_tell  ep2423) eo2424 rfl ml_X11_175 ck_X11_tell vk_X11_tell dX11_pause_11 (by decide) rfl (Nat.zero_le _) rfl ?_
  cases e
  exact z_iret dX11_pause_14 rfl
theorem dX10_turn_0 : decode cX10_turn 0 = .ok (.aload_n 0, 1) := by decide +kernel
theorem dX10_turn_1 : decode cX10_turn 1 = .ok (.iconst 1, 1) := by decide +kernel
theorem dX10_turn_2 : decode cX10_turn 2 = .ok (.iload_n 1, 1) := by decide +kernel
theorem dX10_turn_3 : decode cX10_turn 3 = .ok (.iload_n 2, 1) := by decide +kernel
theorem dX10_turn_4 : decode cX10_turn 4 = .ok (.invokevirtual 217, 3) := by decide +kernel
theorem dX10_turn_7 : decode cX10_turn 7 = .ok (.ireturn, 1) := by decide +kernel
def D_X10_turn (h : z_H) (l0 : Option Nat) (l1 : Int32) (l2 : Int32) : Option (Int32 × z_H) :=
  (z_ob 10 h l0).bind fun _ =>
  (D_X10_attempt  h l0 (1:Int32) l1 l2).bind fun p2425 =>
  some (p2425.1, p2425.2)
set_option maxRecDepth 100000 in
set_option maxHeartbeats 4000000 in
theorem S_X10_turn {G : z_G} {l : Launch} {h : z_H} {l0 : Option Nat} {l1 : Int32} {l2 : Int32} {res : (Int32 × z_H)} (e : D_X10_turn h l0 l1 l2 = some res) : z_Meth G l 10 M_X10_turn [z_r l0, .int l1, .int l2] h res.2 (some (.int res.1)) := by
  refine z_Meth.of ck_X10_turn.2.2.2.2 (by simp [lg_sl, z_ci, z_cj, z_cr, z_cx]) ck_X10_turn.1 ?_
  rw [show lv_args 0 [z_r l0, .int l1, .int l2] = [(0, z_r l0), (1, .int l1), (2, .int l2)] from by simp [lv_args, z_ci, z_cj, z_cr, z_cx]]
  unfold D_X10_turn at e
  refine z_aload_n 0 dX10_turn_0 rfl ?_
  refine z_iconst (v := 1) dX10_turn_1 (by decide) ?_
  refine z_iload_n 1 dX10_turn_2 rfl ?_
  refine z_iload_n 2 dX10_turn_3 rfl ?_
  replace e := z_bd e; obtain ⟨o2426, eo2426, e⟩ := e
  replace e := z_bd e; obtain ⟨p2425, ep2425, e⟩ := e
  refine z_cV [.int (1:Int32), .int l1, .int l2] (S_X10_attempt  ep2425) eo2426 rfl ml_X10_217 ck_X10_attempt vk_X10_attempt dX10_turn_4 (by decide) rfl (Nat.zero_le _) rfl ?_
  cases e
  exact z_iret dX10_turn_7 rfl
theorem dX11_turnNow_0 : decode cX11_turnNow 0 = .ok (.iload_n 2, 1) := by decide +kernel
theorem dX11_turnNow_1 : decode cX11_turnNow 1 = .ok (.i2l, 1) := by decide +kernel
theorem dX11_turnNow_2 : decode cX11_turnNow 2 = .ok (.lconst 0, 1) := by decide +kernel
theorem dX11_turnNow_3 : decode cX11_turnNow 3 = .ok (.lconst 1, 1) := by decide +kernel
theorem dX11_turnNow_4 : decode cX11_turnNow 4 = .ok (.invokestatic 186, 3) := by decide +kernel
theorem dX11_turnNow_7 : decode cX11_turnNow 7 = .ok (.ifCond .ne 5, 3) := by decide +kernel
theorem dX11_turnNow_10 : decode cX11_turnNow 10 = .ok (.iconst (-1), 1) := by decide +kernel
theorem dX11_turnNow_11 : decode cX11_turnNow 11 = .ok (.ireturn, 1) := by decide +kernel
theorem dX11_turnNow_12 : decode cX11_turnNow 12 = .ok (.aload_n 0, 1) := by decide +kernel
theorem dX11_turnNow_13 : decode cX11_turnNow 13 = .ok (.iload_n 1, 1) := by decide +kernel
theorem dX11_turnNow_14 : decode cX11_turnNow 14 = .ok (.invokevirtual 211, 3) := by decide +kernel
theorem dX11_turnNow_17 : decode cX11_turnNow 17 = .ok (.ifCond .ne 6, 3) := by decide +kernel
theorem dX11_turnNow_20 : decode cX11_turnNow 20 = .ok (.bipush (-2), 2) := by decide +kernel
theorem dX11_turnNow_22 : decode cX11_turnNow 22 = .ok (.ireturn, 1) := by decide +kernel
theorem dX11_turnNow_23 : decode cX11_turnNow 23 = .ok (.aload_n 0, 1) := by decide +kernel
theorem dX11_turnNow_24 : decode cX11_turnNow 24 = .ok (.iconst 1, 1) := by decide +kernel
theorem dX11_turnNow_25 : decode cX11_turnNow 25 = .ok (.invokevirtual 446, 3) := by decide +kernel
theorem dX11_turnNow_28 : decode cX11_turnNow 28 = .ok (.aload_n 0, 1) := by decide +kernel
theorem dX11_turnNow_29 : decode cX11_turnNow 29 = .ok (.iload_n 1, 1) := by decide +kernel
theorem dX11_turnNow_30 : decode cX11_turnNow 30 = .ok (.iload_n 2, 1) := by decide +kernel
theorem dX11_turnNow_31 : decode cX11_turnNow 31 = .ok (.invokevirtual 458, 3) := by decide +kernel
theorem dX11_turnNow_34 : decode cX11_turnNow 34 = .ok (.aload_n 0, 1) := by decide +kernel
theorem dX11_turnNow_35 : decode cX11_turnNow 35 = .ok (.getfield 13, 3) := by decide +kernel
theorem dX11_turnNow_38 : decode cX11_turnNow 38 = .ok (.bipush 14, 2) := by decide +kernel
theorem dX11_turnNow_40 : decode cX11_turnNow 40 = .ok (.iload_n 1, 1) := by decide +kernel
theorem dX11_turnNow_41 : decode cX11_turnNow 41 = .ok (.iadd, 1) := by decide +kernel
theorem dX11_turnNow_42 : decode cX11_turnNow 42 = .ok (.iaload, 1) := by decide +kernel
theorem dX11_turnNow_43 : decode cX11_turnNow 43 = .ok (.ireturn, 1) := by decide +kernel
def D_X11_turnNow (h : z_H) (l0 : Option Nat) (l1 : Int32) (l2 : Int32) : Option (Int32 × z_H) :=
  (D_X11_in  h (Int32.toInt64 l2) (0:Int64) (1:Int64)).bind fun p2427 =>
  if p2427.1 = 0 then
    some ((-1:Int32), p2427.2)
  else
    (z_ob 11 p2427.2 l0).bind fun _ =>
    (D_X11_isPair  p2427.2 l0 l1).bind fun p2429 =>
    if p2429.1 = 0 then
      some ((-2:Int32), p2429.2)
    else
      (z_ob 11 p2429.2 l0).bind fun _ =>
      (D_X11_remember  p2429.2 l0 (1:Int32)).bind fun p2432 =>
      (z_ob 11 p2432 l0).bind fun _ =>
      (D_X11_turnIt  p2432 l0 l1 l2).bind fun p2434 =>
      (z_gQ 11 p2434 l0 3).bind fun x2436 =>
      (z_aI .int p2434 x2436 ((14:Int32) + l1)).bind fun x2437 =>
      some (x2437, p2434)
set_option maxRecDepth 100000 in
set_option maxHeartbeats 4000000 in
theorem S_X11_turnNow {G : z_G} {l : Launch} {h : z_H} {l0 : Option Nat} {l1 : Int32} {l2 : Int32} {res : (Int32 × z_H)} (e : D_X11_turnNow h l0 l1 l2 = some res) : z_Meth G l 12 M_X11_turnNow [z_r l0, .int l1, .int l2] h res.2 (some (.int res.1)) := by
  refine z_Meth.of ck_X11_turnNow.2.2.2.2 (by simp [lg_sl, z_ci, z_cj, z_cr, z_cx]) ck_X11_turnNow.1 ?_
  rw [show lv_args 0 [z_r l0, .int l1, .int l2] = [(0, z_r l0), (1, .int l1), (2, .int l2)] from by simp [lv_args, z_ci, z_cj, z_cr, z_cx]]
  unfold D_X11_turnNow at e
  refine z_iload_n 2 dX11_turnNow_0 rfl ?_
  refine z_i2l dX11_turnNow_1 ?_
  refine z_lconst (v := 0) dX11_turnNow_2 (by decide) ?_
  refine z_lconst (v := 1) dX11_turnNow_3 (by decide) ?_
  replace e := z_bd e; obtain ⟨p2427, ep2427, e⟩ := e
  refine z_cS [.long (Int32.toInt64 l2), .long (0:Int64), .long (1:Int64)] (S_X11_in  ep2427) ml_X11_186 ck_X11_in st_X11_in dX11_turnNow_4 (by decide) rfl (Nat.zero_le _) rfl ?_
  refine z_if_ne (tgt := 12) dX11_turnNow_7 (by decide) (fun c2428 => ?_) (fun c2428 => ?_)
  · rw [if_neg c2428] at e
    refine z_aload_n 0 dX11_turnNow_12 rfl ?_
    refine z_iload_n 1 dX11_turnNow_13 rfl ?_
    replace e := z_bd e; obtain ⟨o2430, eo2430, e⟩ := e
    replace e := z_bd e; obtain ⟨p2429, ep2429, e⟩ := e
    refine z_cV [.int l1] (S_X11_isPair  ep2429) eo2430 rfl ml_X11_211 ck_X11_isPair vk_X11_isPair dX11_turnNow_14 (by decide) rfl (Nat.zero_le _) rfl ?_
    refine z_if_ne (tgt := 23) dX11_turnNow_17 (by decide) (fun c2431 => ?_) (fun c2431 => ?_)
    · rw [if_neg c2431] at e
      refine z_aload_n 0 dX11_turnNow_23 rfl ?_
      refine z_iconst (v := 1) dX11_turnNow_24 (by decide) ?_
      replace e := z_bd e; obtain ⟨o2433, eo2433, e⟩ := e
      replace e := z_bd e; obtain ⟨p2432, ep2432, e⟩ := e
      refine z_cV [.int (1:Int32)] (S_X11_remember  ep2432) eo2433 rfl ml_X11_446 ck_X11_remember vk_X11_remember dX11_turnNow_25 (by decide) rfl (Nat.zero_le _) rfl ?_
      refine z_aload_n 0 dX11_turnNow_28 rfl ?_
      refine z_iload_n 1 dX11_turnNow_29 rfl ?_
      refine z_iload_n 2 dX11_turnNow_30 rfl ?_
      replace e := z_bd e; obtain ⟨o2435, eo2435, e⟩ := e
      replace e := z_bd e; obtain ⟨p2434, ep2434, e⟩ := e
      refine z_cV [.int l1, .int l2] (S_X11_turnIt  ep2434) eo2435 rfl ml_X11_458 ck_X11_turnIt vk_X11_turnIt dX11_turnNow_31 (by decide) rfl (Nat.zero_le _) rfl ?_
      refine z_aload_n 0 dX11_turnNow_34 rfl ?_
      replace e := z_bd e; obtain ⟨x2436, ex2436, e⟩ := e
      refine z_getQ ex2436 lk_X11_13 dX11_turnNow_35 ?_
      refine z_bipush (v := 14) dX11_turnNow_38 (by decide) ?_
      refine z_iload_n 1 dX11_turnNow_40 rfl ?_
      refine z_iadd dX11_turnNow_41 ?_
      replace e := z_bd e; obtain ⟨x2437, ex2437, e⟩ := e
      refine z_iald ex2437 dX11_turnNow_42 ?_
      cases e
      exact z_iret dX11_turnNow_43 rfl
    · rw [if_pos c2431] at e
      refine z_bipush (v := -2) dX11_turnNow_20 (by decide) ?_
      cases e
      exact z_iret dX11_turnNow_22 rfl
  · rw [if_pos c2428] at e
    refine z_iconst (v := -1) dX11_turnNow_10 (by decide) ?_
    cases e
    exact z_iret dX11_turnNow_11 rfl
theorem dX11_turn_0 : decode cX11_turn 0 = .ok (.aload_n 0, 1) := by decide +kernel
theorem dX11_turn_1 : decode cX11_turn 1 = .ok (.iconst 0, 1) := by decide +kernel
theorem dX11_turn_2 : decode cX11_turn 2 = .ok (.putfield 166, 3) := by decide +kernel
theorem dX11_turn_5 : decode cX11_turn 5 = .ok (.aload_n 0, 1) := by decide +kernel
theorem dX11_turn_6 : decode cX11_turn 6 = .ok (.aload_n 0, 1) := by decide +kernel
theorem dX11_turn_7 : decode cX11_turn 7 = .ok (.iload_n 1, 1) := by decide +kernel
theorem dX11_turn_8 : decode cX11_turn 8 = .ok (.iload_n 2, 1) := by decide +kernel
theorem dX11_turn_9 : decode cX11_turn 9 = .ok (.invokevirtual 461, 3) := by decide +kernel
theorem dX11_turn_12 : decode cX11_turn 12 = .ok (.invokevirtual 175, 3) := by decide +kernel
theorem dX11_turn_15 : decode cX11_turn 15 = .ok (.ireturn, 1) := by decide +kernel
def D_X11_turn (h : z_H) (l0 : Option Nat) (l1 : Int32) (l2 : Int32) : Option (Int32 × z_H) :=
  (z_pV 11 h l0 0 (.int (0:Int32))).bind fun h2438 =>
  (z_ob 11 h2438 l0).bind fun _ =>
  (D_X11_turnNow  h2438 l0 l1 l2).bind fun p2439 =>
  (z_ob 11 p2439.2 l0).bind fun _ =>
  (D_X11_tell  p2439.2 l0 p2439.1).bind fun p2441 =>
  some (p2441.1, p2441.2)
set_option maxRecDepth 100000 in
set_option maxHeartbeats 4000000 in
theorem S_X11_turn {G : z_G} {l : Launch} {h : z_H} {l0 : Option Nat} {l1 : Int32} {l2 : Int32} {res : (Int32 × z_H)} (e : D_X11_turn h l0 l1 l2 = some res) : z_Meth G l 13 M_X11_turn [z_r l0, .int l1, .int l2] h res.2 (some (.int res.1)) := by
  refine z_Meth.of ck_X11_turn.2.2.2.2 (by simp [lg_sl, z_ci, z_cj, z_cr, z_cx]) ck_X11_turn.1 ?_
  rw [show lv_args 0 [z_r l0, .int l1, .int l2] = [(0, z_r l0), (1, .int l1), (2, .int l2)] from by simp [lv_args, z_ci, z_cj, z_cr, z_cx]]
  unfold D_X11_turn at e
  refine z_aload_n 0 dX11_turn_0 rfl ?_
  refine z_iconst (v := 0) dX11_turn_1 (by decide) ?_
  replace e := z_bd e; obtain ⟨h2438, eh2438, e⟩ := e
  refine z_putV eh2438 lk_X11_166 wk_11_0 (fun _ => rfl) (fun _ => rfl) dX11_turn_2 ?_
  refine z_aload_n 0 dX11_turn_5 rfl ?_
  refine z_aload_n 0 dX11_turn_6 rfl ?_
  refine z_iload_n 1 dX11_turn_7 rfl ?_
  refine z_iload_n 2 dX11_turn_8 rfl ?_
  replace e := z_bd e; obtain ⟨o2440, eo2440, e⟩ := e
  replace e := z_bd e; obtain ⟨p2439, ep2439, e⟩ := e
  refine z_cV [.int l1, .int l2] (S_X11_turnNow  ep2439) eo2440 rfl ml_X11_461 ck_X11_turnNow vk_X11_turnNow dX11_turn_9 (by decide) rfl (by simp [z_ci, z_cj, z_cr, z_cx]) rfl ?_
  replace e := z_bd e; obtain ⟨o2442, eo2442, e⟩ := e
  replace e := z_bd e; obtain ⟨p2441, ep2441, e⟩ := e
  refine z_cV [.int p2439.1] (S_X11_tell  ep2441) eo2442 rfl ml_X11_175 ck_X11_tell vk_X11_tell dX11_turn_12 (by decide) rfl (Nat.zero_le _) rfl ?_
  cases e
  exact z_iret dX11_turn_15 rfl
theorem dX10_step_0 : decode cX10_step 0 = .ok (.aload_n 0, 1) := by decide +kernel
theorem dX10_step_1 : decode cX10_step 1 = .ok (.iconst 0, 1) := by decide +kernel
theorem dX10_step_2 : decode cX10_step 2 = .ok (.iload_n 1, 1) := by decide +kernel
theorem dX10_step_3 : decode cX10_step 3 = .ok (.iconst 0, 1) := by decide +kernel
theorem dX10_step_4 : decode cX10_step 4 = .ok (.invokevirtual 217, 3) := by decide +kernel
theorem dX10_step_7 : decode cX10_step 7 = .ok (.ireturn, 1) := by decide +kernel
def D_X10_step (h : z_H) (l0 : Option Nat) (l1 : Int32) : Option (Int32 × z_H) :=
  (z_ob 10 h l0).bind fun _ =>
  (D_X10_attempt  h l0 (0:Int32) l1 (0:Int32)).bind fun p2443 =>
  some (p2443.1, p2443.2)
set_option maxRecDepth 100000 in
set_option maxHeartbeats 4000000 in
theorem S_X10_step {G : z_G} {l : Launch} {h : z_H} {l0 : Option Nat} {l1 : Int32} {res : (Int32 × z_H)} (e : D_X10_step h l0 l1 = some res) : z_Meth G l 10 M_X10_step [z_r l0, .int l1] h res.2 (some (.int res.1)) := by
  refine z_Meth.of ck_X10_step.2.2.2.2 (by simp [lg_sl, z_ci, z_cj, z_cr, z_cx]) ck_X10_step.1 ?_
  rw [show lv_args 0 [z_r l0, .int l1] = [(0, z_r l0), (1, .int l1)] from by simp [lv_args, z_ci, z_cj, z_cr, z_cx]]
  unfold D_X10_step at e
  refine z_aload_n 0 dX10_step_0 rfl ?_
  refine z_iconst (v := 0) dX10_step_1 (by decide) ?_
  refine z_iload_n 1 dX10_step_2 rfl ?_
  refine z_iconst (v := 0) dX10_step_3 (by decide) ?_
  replace e := z_bd e; obtain ⟨o2444, eo2444, e⟩ := e
  replace e := z_bd e; obtain ⟨p2443, ep2443, e⟩ := e
  refine z_cV [.int (0:Int32), .int l1, .int (0:Int32)] (S_X10_attempt  ep2443) eo2444 rfl ml_X10_217 ck_X10_attempt vk_X10_attempt dX10_step_4 (by decide) rfl (Nat.zero_le _) rfl ?_
  cases e
  exact z_iret dX10_step_7 rfl
theorem dX11_stepNow_0 : decode cX11_stepNow 0 = .ok (.aload_n 0, 1) := by decide +kernel
theorem dX11_stepNow_1 : decode cX11_stepNow 1 = .ok (.iload_n 1, 1) := by decide +kernel
theorem dX11_stepNow_2 : decode cX11_stepNow 2 = .ok (.invokevirtual 211, 3) := by decide +kernel
theorem dX11_stepNow_5 : decode cX11_stepNow 5 = .ok (.ifCond .ne 6, 3) := by decide +kernel
theorem dX11_stepNow_8 : decode cX11_stepNow 8 = .ok (.bipush (-2), 2) := by decide +kernel
theorem dX11_stepNow_10 : decode cX11_stepNow 10 = .ok (.ireturn, 1) := by decide +kernel
theorem dX11_stepNow_11 : decode cX11_stepNow 11 = .ok (.aload_n 0, 1) := by decide +kernel
theorem dX11_stepNow_12 : decode cX11_stepNow 12 = .ok (.iload_n 1, 1) := by decide +kernel
theorem dX11_stepNow_13 : decode cX11_stepNow 13 = .ok (.aload_n 0, 1) := by decide +kernel
theorem dX11_stepNow_14 : decode cX11_stepNow 14 = .ok (.getfield 13, 3) := by decide +kernel
theorem dX11_stepNow_17 : decode cX11_stepNow 17 = .ok (.bipush 8, 2) := by decide +kernel
theorem dX11_stepNow_19 : decode cX11_stepNow 19 = .ok (.iload_n 1, 1) := by decide +kernel
theorem dX11_stepNow_20 : decode cX11_stepNow 20 = .ok (.iadd, 1) := by decide +kernel
theorem dX11_stepNow_21 : decode cX11_stepNow 21 = .ok (.iaload, 1) := by decide +kernel
theorem dX11_stepNow_22 : decode cX11_stepNow 22 = .ok (.aload_n 0, 1) := by decide +kernel
theorem dX11_stepNow_23 : decode cX11_stepNow 23 = .ok (.getfield 13, 3) := by decide +kernel
theorem dX11_stepNow_26 : decode cX11_stepNow 26 = .ok (.bipush 14, 2) := by decide +kernel
theorem dX11_stepNow_28 : decode cX11_stepNow 28 = .ok (.iload_n 1, 1) := by decide +kernel
theorem dX11_stepNow_29 : decode cX11_stepNow 29 = .ok (.iadd, 1) := by decide +kernel
theorem dX11_stepNow_30 : decode cX11_stepNow 30 = .ok (.iaload, 1) := by decide +kernel
theorem dX11_stepNow_31 : decode cX11_stepNow 31 = .ok (.invokevirtual 216, 3) := by decide +kernel
theorem dX11_stepNow_34 : decode cX11_stepNow 34 = .ok (.istore_n 2, 1) := by decide +kernel
theorem dX11_stepNow_35 : decode cX11_stepNow 35 = .ok (.iload_n 2, 1) := by decide +kernel
theorem dX11_stepNow_36 : decode cX11_stepNow 36 = .ok (.iconst (-1), 1) := by decide +kernel
theorem dX11_stepNow_37 : decode cX11_stepNow 37 = .ok (.if_icmp .ne 6, 3) := by decide +kernel
theorem dX11_stepNow_40 : decode cX11_stepNow 40 = .ok (.bipush (-3), 2) := by decide +kernel
theorem dX11_stepNow_42 : decode cX11_stepNow 42 = .ok (.ireturn, 1) := by decide +kernel
theorem dX11_stepNow_43 : decode cX11_stepNow 43 = .ok (.aload_n 0, 1) := by decide +kernel
theorem dX11_stepNow_44 : decode cX11_stepNow 44 = .ok (.iconst 0, 1) := by decide +kernel
theorem dX11_stepNow_45 : decode cX11_stepNow 45 = .ok (.invokevirtual 446, 3) := by decide +kernel
theorem dX11_stepNow_48 : decode cX11_stepNow 48 = .ok (.aload_n 0, 1) := by decide +kernel
theorem dX11_stepNow_49 : decode cX11_stepNow 49 = .ok (.iload_n 1, 1) := by decide +kernel
theorem dX11_stepNow_50 : decode cX11_stepNow 50 = .ok (.iload_n 2, 1) := by decide +kernel
theorem dX11_stepNow_51 : decode cX11_stepNow 51 = .ok (.invokevirtual 449, 3) := by decide +kernel
theorem dX11_stepNow_54 : decode cX11_stepNow 54 = .ok (.iload_n 2, 1) := by decide +kernel
theorem dX11_stepNow_55 : decode cX11_stepNow 55 = .ok (.ireturn, 1) := by decide +kernel
def D_X11_stepNow (h : z_H) (l0 : Option Nat) (l1 : Int32) : Option (Int32 × z_H) :=
  (z_ob 11 h l0).bind fun _ =>
  (D_X11_isPair  h l0 l1).bind fun p2445 =>
  if p2445.1 = 0 then
    some ((-2:Int32), p2445.2)
  else
    (z_gQ 11 p2445.2 l0 3).bind fun x2448 =>
    (z_aI .int p2445.2 x2448 ((8:Int32) + l1)).bind fun x2449 =>
    (z_gQ 11 p2445.2 l0 3).bind fun x2450 =>
    (z_aI .int p2445.2 x2450 ((14:Int32) + l1)).bind fun x2451 =>
    (z_ob 11 p2445.2 l0).bind fun _ =>
    (D_X11_stepOf  p2445.2 l0 l1 x2449 x2451).bind fun p2452 =>
    if p2452.1 = (-1:Int32) then
      some ((-3:Int32), p2452.2)
    else
      (z_ob 11 p2452.2 l0).bind fun _ =>
      (D_X11_remember  p2452.2 l0 (0:Int32)).bind fun p2455 =>
      (z_ob 11 p2455 l0).bind fun _ =>
      (D_X11_stepIt  p2455 l0 l1 p2452.1).bind fun p2457 =>
      some (p2452.1, p2457)
set_option maxRecDepth 100000 in
set_option maxHeartbeats 4000000 in
theorem S_X11_stepNow {G : z_G} {l : Launch} {h : z_H} {l0 : Option Nat} {l1 : Int32} {res : (Int32 × z_H)} (e : D_X11_stepNow h l0 l1 = some res) : z_Meth G l 12 M_X11_stepNow [z_r l0, .int l1] h res.2 (some (.int res.1)) := by
  refine z_Meth.of ck_X11_stepNow.2.2.2.2 (by simp [lg_sl, z_ci, z_cj, z_cr, z_cx]) ck_X11_stepNow.1 ?_
  rw [show lv_args 0 [z_r l0, .int l1] = [(0, z_r l0), (1, .int l1)] from by simp [lv_args, z_ci, z_cj, z_cr, z_cx]]
  unfold D_X11_stepNow at e
  refine z_aload_n 0 dX11_stepNow_0 rfl ?_
  refine z_iload_n 1 dX11_stepNow_1 rfl ?_
  replace e := z_bd e; obtain ⟨o2446, eo2446, e⟩ := e
  replace e := z_bd e; obtain ⟨p2445, ep2445, e⟩ := e
  refine z_cV [.int l1] (S_X11_isPair  ep2445) eo2446 rfl ml_X11_211 ck_X11_isPair vk_X11_isPair dX11_stepNow_2 (by decide) rfl (Nat.zero_le _) rfl ?_
  refine z_if_ne (tgt := 11) dX11_stepNow_5 (by decide) (fun c2447 => ?_) (fun c2447 => ?_)
  · rw [if_neg c2447] at e
    refine z_aload_n 0 dX11_stepNow_11 rfl ?_
    refine z_iload_n 1 dX11_stepNow_12 rfl ?_
    refine z_aload_n 0 dX11_stepNow_13 rfl ?_
    replace e := z_bd e; obtain ⟨x2448, ex2448, e⟩ := e
    refine z_getQ ex2448 lk_X11_13 dX11_stepNow_14 ?_
    refine z_bipush (v := 8) dX11_stepNow_17 (by decide) ?_
    refine z_iload_n 1 dX11_stepNow_19 rfl ?_
    refine z_iadd dX11_stepNow_20 ?_
    replace e := z_bd e; obtain ⟨x2449, ex2449, e⟩ := e
    refine z_iald ex2449 dX11_stepNow_21 ?_
    refine z_aload_n 0 dX11_stepNow_22 rfl ?_
    replace e := z_bd e; obtain ⟨x2450, ex2450, e⟩ := e
    refine z_getQ ex2450 lk_X11_13 dX11_stepNow_23 ?_
    refine z_bipush (v := 14) dX11_stepNow_26 (by decide) ?_
    refine z_iload_n 1 dX11_stepNow_28 rfl ?_
    refine z_iadd dX11_stepNow_29 ?_
    replace e := z_bd e; obtain ⟨x2451, ex2451, e⟩ := e
    refine z_iald ex2451 dX11_stepNow_30 ?_
    replace e := z_bd e; obtain ⟨o2453, eo2453, e⟩ := e
    replace e := z_bd e; obtain ⟨p2452, ep2452, e⟩ := e
    refine z_cV [.int l1, .int x2449, .int x2451] (S_X11_stepOf  ep2452) eo2453 rfl ml_X11_216 ck_X11_stepOf vk_X11_stepOf dX11_stepNow_31 (by decide) rfl (Nat.zero_le _) rfl ?_
    refine z_istore_n (L' := [(2, .int p2452.1), (0, z_r l0), (1, .int l1)]) dX11_stepNow_34 rfl (by decide) rfl ?_
    refine z_iload_n 0 dX11_stepNow_35 rfl ?_
    refine z_iconst (v := -1) dX11_stepNow_36 (by decide) ?_
    refine z_icmp_ne (tgt := 43) dX11_stepNow_37 (by decide) (fun c2454 => ?_) (fun c2454 => ?_)
    · rw [if_neg c2454] at e
      refine z_aload_n 1 dX11_stepNow_43 rfl ?_
      refine z_iconst (v := 0) dX11_stepNow_44 (by decide) ?_
      replace e := z_bd e; obtain ⟨o2456, eo2456, e⟩ := e
      replace e := z_bd e; obtain ⟨p2455, ep2455, e⟩ := e
      refine z_cV [.int (0:Int32)] (S_X11_remember  ep2455) eo2456 rfl ml_X11_446 ck_X11_remember vk_X11_remember dX11_stepNow_45 (by decide) rfl (Nat.zero_le _) rfl ?_
      refine z_aload_n 1 dX11_stepNow_48 rfl ?_
      refine z_iload_n 2 dX11_stepNow_49 rfl ?_
      refine z_iload_n 0 dX11_stepNow_50 rfl ?_
      replace e := z_bd e; obtain ⟨o2458, eo2458, e⟩ := e
      replace e := z_bd e; obtain ⟨p2457, ep2457, e⟩ := e
      refine z_cV [.int l1, .int p2452.1] (S_X11_stepIt  ep2457) eo2458 rfl ml_X11_449 ck_X11_stepIt vk_X11_stepIt dX11_stepNow_51 (by decide) rfl (Nat.zero_le _) rfl ?_
      refine z_iload_n 0 dX11_stepNow_54 rfl ?_
      cases e
      exact z_iret dX11_stepNow_55 rfl
    · rw [if_pos c2454] at e
      refine z_bipush (v := -3) dX11_stepNow_40 (by decide) ?_
      cases e
      exact z_iret dX11_stepNow_42 rfl
  · rw [if_pos c2447] at e
    refine z_bipush (v := -2) dX11_stepNow_8 (by decide) ?_
    cases e
    exact z_iret dX11_stepNow_10 rfl
theorem dX11_step_0 : decode cX11_step 0 = .ok (.aload_n 0, 1) := by decide +kernel
theorem dX11_step_1 : decode cX11_step 1 = .ok (.iconst 0, 1) := by decide +kernel
theorem dX11_step_2 : decode cX11_step 2 = .ok (.putfield 166, 3) := by decide +kernel
theorem dX11_step_5 : decode cX11_step 5 = .ok (.aload_n 0, 1) := by decide +kernel
theorem dX11_step_6 : decode cX11_step 6 = .ok (.aload_n 0, 1) := by decide +kernel
theorem dX11_step_7 : decode cX11_step 7 = .ok (.iload_n 1, 1) := by decide +kernel
theorem dX11_step_8 : decode cX11_step 8 = .ok (.invokevirtual 452, 3) := by decide +kernel
theorem dX11_step_11 : decode cX11_step 11 = .ok (.invokevirtual 175, 3) := by decide +kernel
theorem dX11_step_14 : decode cX11_step 14 = .ok (.ireturn, 1) := by decide +kernel
def D_X11_step (h : z_H) (l0 : Option Nat) (l1 : Int32) : Option (Int32 × z_H) :=
  (z_pV 11 h l0 0 (.int (0:Int32))).bind fun h2459 =>
  (z_ob 11 h2459 l0).bind fun _ =>
  (D_X11_stepNow  h2459 l0 l1).bind fun p2460 =>
  (z_ob 11 p2460.2 l0).bind fun _ =>
  (D_X11_tell  p2460.2 l0 p2460.1).bind fun p2462 =>
  some (p2462.1, p2462.2)
set_option maxRecDepth 100000 in
set_option maxHeartbeats 4000000 in
theorem S_X11_step {G : z_G} {l : Launch} {h : z_H} {l0 : Option Nat} {l1 : Int32} {res : (Int32 × z_H)} (e : D_X11_step h l0 l1 = some res) : z_Meth G l 13 M_X11_step [z_r l0, .int l1] h res.2 (some (.int res.1)) := by
  refine z_Meth.of ck_X11_step.2.2.2.2 (by simp [lg_sl, z_ci, z_cj, z_cr, z_cx]) ck_X11_step.1 ?_
  rw [show lv_args 0 [z_r l0, .int l1] = [(0, z_r l0), (1, .int l1)] from by simp [lv_args, z_ci, z_cj, z_cr, z_cx]]
  unfold D_X11_step at e
  refine z_aload_n 0 dX11_step_0 rfl ?_
  refine z_iconst (v := 0) dX11_step_1 (by decide) ?_
  replace e := z_bd e; obtain ⟨h2459, eh2459, e⟩ := e
  refine z_putV eh2459 lk_X11_166 wk_11_0 (fun _ => rfl) (fun _ => rfl) dX11_step_2 ?_
  refine z_aload_n 0 dX11_step_5 rfl ?_
  refine z_aload_n 0 dX11_step_6 rfl ?_
  refine z_iload_n 1 dX11_step_7 rfl ?_
  replace e := z_bd e; obtain ⟨o2461, eo2461, e⟩ := e
  replace e := z_bd e; obtain ⟨p2460, ep2460, e⟩ := e
  refine z_cV [.int l1] (S_X11_stepNow  ep2460) eo2461 rfl ml_X11_452 ck_X11_stepNow vk_X11_stepNow dX11_step_8 (by decide) rfl (by simp [z_ci, z_cj, z_cr, z_cx]) rfl ?_
  replace e := z_bd e; obtain ⟨o2463, eo2463, e⟩ := e
  replace e := z_bd e; obtain ⟨p2462, ep2462, e⟩ := e
  refine z_cV [.int p2460.1] (S_X11_tell  ep2462) eo2463 rfl ml_X11_175 ck_X11_tell vk_X11_tell dX11_step_11 (by decide) rfl (Nat.zero_le _) rfl ?_
  cases e
  exact z_iret dX11_step_14 rfl
theorem dX10_force_0 : decode cX10_force 0 = .ok (.iload_n 1, 1) := by decide +kernel
theorem dX10_force_1 : decode cX10_force 1 = .ok (.iconst (-1), 1) := by decide +kernel
theorem dX10_force_2 : decode cX10_force 2 = .ok (.if_icmp .eq 21, 3) := by decide +kernel
theorem dX10_force_5 : decode cX10_force 5 = .ok (.aload_n 0, 1) := by decide +kernel
theorem dX10_force_6 : decode cX10_force 6 = .ok (.getfield 12, 3) := by decide +kernel
theorem dX10_force_9 : decode cX10_force 9 = .ok (.iload_n 1, 1) := by decide +kernel
theorem dX10_force_10 : decode cX10_force 10 = .ok (.invokevirtual 211, 3) := by decide +kernel
theorem dX10_force_13 : decode cX10_force 13 = .ok (.ifCond .ne 10, 3) := by decide +kernel
theorem dX10_force_16 : decode cX10_force 16 = .ok (.aload_n 0, 1) := by decide +kernel
theorem dX10_force_17 : decode cX10_force 17 = .ok (.bipush (-2), 2) := by decide +kernel
theorem dX10_force_19 : decode cX10_force 19 = .ok (.invokevirtual 104, 3) := by decide +kernel
theorem dX10_force_22 : decode cX10_force 22 = .ok (.ireturn, 1) := by decide +kernel
theorem dX10_force_23 : decode cX10_force 23 = .ok (.aload_n 0, 1) := by decide +kernel
theorem dX10_force_24 : decode cX10_force 24 = .ok (.getfield 12, 3) := by decide +kernel
theorem dX10_force_27 : decode cX10_force 27 = .ok (.getfield 214, 3) := by decide +kernel
theorem dX10_force_30 : decode cX10_force 30 = .ok (.istore_n 2, 1) := by decide +kernel
theorem dX10_force_31 : decode cX10_force 31 = .ok (.aload_n 0, 1) := by decide +kernel
theorem dX10_force_32 : decode cX10_force 32 = .ok (.getfield 12, 3) := by decide +kernel
theorem dX10_force_35 : decode cX10_force 35 = .ok (.iload_n 1, 1) := by decide +kernel
theorem dX10_force_36 : decode cX10_force 36 = .ok (.putfield 214, 3) := by decide +kernel
theorem dX10_force_39 : decode cX10_force 39 = .ok (.aload_n 0, 1) := by decide +kernel
theorem dX10_force_40 : decode cX10_force 40 = .ok (.iload_n 2, 1) := by decide +kernel
theorem dX10_force_41 : decode cX10_force 41 = .ok (.invokevirtual 118, 3) := by decide +kernel
theorem dX10_force_44 : decode cX10_force 44 = .ok (.ireturn, 1) := by decide +kernel
def D_X10_force_23 (h : z_H) (l0 : Option Nat) (l1 : Int32) : Option (Int32 × z_H) :=
  (z_gQ 10 h l0 0).bind fun x2464 =>
  (z_gI 9 h x2464 12).bind fun x2465 =>
  (z_gQ 10 h l0 0).bind fun x2466 =>
  (z_pV 9 h x2466 12 (.int l1)).bind fun h2467 =>
  (z_ob 10 h2467 l0).bind fun _ =>
  (D_X10_grant  h2467 l0 x2465).bind fun p2468 =>
  some (p2468.1, p2468.2)
set_option maxRecDepth 100000 in
set_option maxHeartbeats 4000000 in
theorem S_X10_force_23 {G : z_G} {l : Launch}  {h : z_H} {l0 : Option Nat} {l1 : Int32} {res : (Int32 × z_H)} (e : D_X10_force_23  h l0 l1 = some res) : z_Run G l 5 M_X10_force 23 [(0, z_r l0), (1, .int l1)] [] h res.2 (some (.int res.1)) := by
  unfold D_X10_force_23 at e
  refine z_aload_n 0 dX10_force_23 rfl ?_
  replace e := z_bd e; obtain ⟨x2464, ex2464, e⟩ := e
  refine z_getQ ex2464 lk_X10_12 dX10_force_24 ?_
  replace e := z_bd e; obtain ⟨x2465, ex2465, e⟩ := e
  refine z_getI ex2465 lk_X10_214 dX10_force_27 ?_
  refine z_istore_n (L' := [(2, .int x2465), (0, z_r l0), (1, .int l1)]) dX10_force_30 rfl (by decide) rfl ?_
  refine z_aload_n 1 dX10_force_31 rfl ?_
  replace e := z_bd e; obtain ⟨x2466, ex2466, e⟩ := e
  refine z_getQ ex2466 lk_X10_12 dX10_force_32 ?_
  refine z_iload_n 2 dX10_force_35 rfl ?_
  replace e := z_bd e; obtain ⟨h2467, eh2467, e⟩ := e
  refine z_putV eh2467 lk_X10_214 wk_9_12 (fun _ => rfl) (fun _ => rfl) dX10_force_36 ?_
  refine z_aload_n 1 dX10_force_39 rfl ?_
  refine z_iload_n 0 dX10_force_40 rfl ?_
  replace e := z_bd e; obtain ⟨o2469, eo2469, e⟩ := e
  replace e := z_bd e; obtain ⟨p2468, ep2468, e⟩ := e
  refine z_cV [.int x2465] (S_X10_grant  ep2468) eo2469 rfl ml_X10_118 ck_X10_grant vk_X10_grant dX10_force_41 (by decide) rfl (Nat.zero_le _) rfl ?_
  cases e
  exact z_iret dX10_force_44 rfl
def D_X10_force (h : z_H) (l0 : Option Nat) (l1 : Int32) : Option (Int32 × z_H) :=
  if l1 = (-1:Int32) then
    D_X10_force_23   h l0 l1
  else
    (z_gQ 10 h l0 0).bind fun x2471 =>
    (z_ob 9 h x2471).bind fun _ =>
    (D_X9_hasLaw  h x2471 l1).bind fun p2472 =>
    if p2472.1 = 0 then
      (z_ob 10 p2472.2 l0).bind fun _ =>
      (D_X10_refuse  p2472.2 l0 (-2:Int32)).bind fun p2475 =>
      some (p2475.1, p2475.2)
    else
      D_X10_force_23   p2472.2 l0 l1
set_option maxRecDepth 100000 in
set_option maxHeartbeats 4000000 in
theorem S_X10_force {G : z_G} {l : Launch} {h : z_H} {l0 : Option Nat} {l1 : Int32} {res : (Int32 × z_H)} (e : D_X10_force h l0 l1 = some res) : z_Meth G l 5 M_X10_force [z_r l0, .int l1] h res.2 (some (.int res.1)) := by
  refine z_Meth.of ck_X10_force.2.2.2.2 (by simp [lg_sl, z_ci, z_cj, z_cr, z_cx]) ck_X10_force.1 ?_
  rw [show lv_args 0 [z_r l0, .int l1] = [(0, z_r l0), (1, .int l1)] from by simp [lv_args, z_ci, z_cj, z_cr, z_cx]]
  unfold D_X10_force at e
  refine z_iload_n 1 dX10_force_0 rfl ?_
  refine z_iconst (v := -1) dX10_force_1 (by decide) ?_
  refine z_icmp_eq (tgt := 23) dX10_force_2 (by decide) (fun c2470 => ?_) (fun c2470 => ?_)
  · rw [if_pos c2470] at e
    exact z_weak [0, 1] rfl (S_X10_force_23   e)
  · rw [if_neg c2470] at e
    refine z_aload_n 0 dX10_force_5 rfl ?_
    replace e := z_bd e; obtain ⟨x2471, ex2471, e⟩ := e
    refine z_getQ ex2471 lk_X10_12 dX10_force_6 ?_
    refine z_iload_n 1 dX10_force_9 rfl ?_
    replace e := z_bd e; obtain ⟨o2473, eo2473, e⟩ := e
    replace e := z_bd e; obtain ⟨p2472, ep2472, e⟩ := e
    refine z_cV [.int l1] (S_X9_hasLaw  ep2472) eo2473 rfl ml_X10_211 ck_X9_hasLaw vk_X9_hasLaw dX10_force_10 (by decide) rfl (Nat.zero_le _) rfl ?_
    refine z_if_ne (tgt := 23) dX10_force_13 (by decide) (fun c2474 => ?_) (fun c2474 => ?_)
    · rw [if_neg c2474] at e
      exact z_weak [0, 1] rfl (S_X10_force_23   e)
    · rw [if_pos c2474] at e
      refine z_aload_n 0 dX10_force_16 rfl ?_
      refine z_bipush (v := -2) dX10_force_17 (by decide) ?_
      replace e := z_bd e; obtain ⟨o2476, eo2476, e⟩ := e
      replace e := z_bd e; obtain ⟨p2475, ep2475, e⟩ := e
      refine z_cV [.int (-2:Int32)] (S_X10_refuse  ep2475) eo2476 rfl ml_X10_104 ck_X10_refuse vk_X10_refuse dX10_force_19 (by decide) rfl (Nat.zero_le _) rfl ?_
      cases e
      exact z_iret dX10_force_22 rfl
theorem dX11_change_0 : decode cX11_change 0 = .ok (.aload_n 0, 1) := by decide +kernel
theorem dX11_change_1 : decode cX11_change 1 = .ok (.getfield 13, 3) := by decide +kernel
theorem dX11_change_4 : decode cX11_change 4 = .ok (.iload_n 1, 1) := by decide +kernel
theorem dX11_change_5 : decode cX11_change 5 = .ok (.iaload, 1) := by decide +kernel
theorem dX11_change_6 : decode cX11_change 6 = .ok (.istore_n 3, 1) := by decide +kernel
theorem dX11_change_7 : decode cX11_change 7 = .ok (.aload_n 0, 1) := by decide +kernel
theorem dX11_change_8 : decode cX11_change 8 = .ok (.getfield 13, 3) := by decide +kernel
theorem dX11_change_11 : decode cX11_change 11 = .ok (.iload_n 1, 1) := by decide +kernel
theorem dX11_change_12 : decode cX11_change 12 = .ok (.iload_n 2, 1) := by decide +kernel
theorem dX11_change_13 : decode cX11_change 13 = .ok (.iastore, 1) := by decide +kernel
theorem dX11_change_14 : decode cX11_change 14 = .ok (.aload_n 0, 1) := by decide +kernel
theorem dX11_change_15 : decode cX11_change 15 = .ok (.iconst 0, 1) := by decide +kernel
theorem dX11_change_16 : decode cX11_change 16 = .ok (.putfield 169, 3) := by decide +kernel
theorem dX11_change_19 : decode cX11_change 19 = .ok (.iload_n 3, 1) := by decide +kernel
theorem dX11_change_20 : decode cX11_change 20 = .ok (.ireturn, 1) := by decide +kernel
def D_X11_change (h : z_H) (l0 : Option Nat) (l1 : Int32) (l2 : Int32) : Option (Int32 × z_H) :=
  (z_gQ 11 h l0 3).bind fun x2477 =>
  (z_aI .int h x2477 l1).bind fun x2478 =>
  (z_gQ 11 h l0 3).bind fun x2479 =>
  (z_sI h x2479 l1 l2).bind fun h2480 =>
  (z_pV 11 h2480 l0 1 (.int (0:Int32))).bind fun h2481 =>
  some (x2478, h2481)
set_option maxRecDepth 100000 in
set_option maxHeartbeats 4000000 in
theorem S_X11_change {G : z_G} {l : Launch} {h : z_H} {l0 : Option Nat} {l1 : Int32} {l2 : Int32} {res : (Int32 × z_H)} (e : D_X11_change h l0 l1 l2 = some res) : z_Meth G l 4 M_X11_change [z_r l0, .int l1, .int l2] h res.2 (some (.int res.1)) := by
  refine z_Meth.of ck_X11_change.2.2.2.2 (by simp [lg_sl, z_ci, z_cj, z_cr, z_cx]) ck_X11_change.1 ?_
  rw [show lv_args 0 [z_r l0, .int l1, .int l2] = [(0, z_r l0), (1, .int l1), (2, .int l2)] from by simp [lv_args, z_ci, z_cj, z_cr, z_cx]]
  unfold D_X11_change at e
  refine z_aload_n 0 dX11_change_0 rfl ?_
  replace e := z_bd e; obtain ⟨x2477, ex2477, e⟩ := e
  refine z_getQ ex2477 lk_X11_13 dX11_change_1 ?_
  refine z_iload_n 1 dX11_change_4 rfl ?_
  replace e := z_bd e; obtain ⟨x2478, ex2478, e⟩ := e
  refine z_iald ex2478 dX11_change_5 ?_
  refine z_istore_n (L' := [(3, .int x2478), (0, z_r l0), (1, .int l1), (2, .int l2)]) dX11_change_6 rfl (by decide) rfl ?_
  refine z_aload_n 1 dX11_change_7 rfl ?_
  replace e := z_bd e; obtain ⟨x2479, ex2479, e⟩ := e
  refine z_getQ ex2479 lk_X11_13 dX11_change_8 ?_
  refine z_iload_n 2 dX11_change_11 rfl ?_
  refine z_iload_n 3 dX11_change_12 rfl ?_
  replace e := z_bd e; obtain ⟨h2480, eh2480, e⟩ := e
  refine z_iast eh2480 dX11_change_13 ?_
  refine z_aload_n 1 dX11_change_14 rfl ?_
  refine z_iconst (v := 0) dX11_change_15 (by decide) ?_
  replace e := z_bd e; obtain ⟨h2481, eh2481, e⟩ := e
  refine z_putV eh2481 lk_X11_169 wk_11_1 (fun _ => rfl) (fun _ => rfl) dX11_change_16 ?_
  refine z_iload_n 0 dX11_change_19 rfl ?_
  cases e
  exact z_iret dX11_change_20 rfl
theorem dX11_force_0 : decode cX11_force 0 = .ok (.aload_n 0, 1) := by decide +kernel
theorem dX11_force_1 : decode cX11_force 1 = .ok (.iconst 0, 1) := by decide +kernel
theorem dX11_force_2 : decode cX11_force 2 = .ok (.putfield 166, 3) := by decide +kernel
theorem dX11_force_5 : decode cX11_force 5 = .ok (.aload_n 0, 1) := by decide +kernel
theorem dX11_force_6 : decode cX11_force 6 = .ok (.iload_n 1, 1) := by decide +kernel
theorem dX11_force_7 : decode cX11_force 7 = .ok (.invokevirtual 395, 3) := by decide +kernel
theorem dX11_force_10 : decode cX11_force 10 = .ok (.ifCond .eq 12, 3) := by decide +kernel
theorem dX11_force_13 : decode cX11_force 13 = .ok (.aload_n 0, 1) := by decide +kernel
theorem dX11_force_14 : decode cX11_force 14 = .ok (.iconst 3, 1) := by decide +kernel
theorem dX11_force_15 : decode cX11_force 15 = .ok (.iload_n 1, 1) := by decide +kernel
theorem dX11_force_16 : decode cX11_force 16 = .ok (.invokevirtual 236, 3) := by decide +kernel
theorem dX11_force_19 : decode cX11_force 19 = .ok (.goto 9, 3) := by decide +kernel
theorem dX11_force_22 : decode cX11_force 22 = .ok (.aload_n 0, 1) := by decide +kernel
theorem dX11_force_23 : decode cX11_force 23 = .ok (.bipush (-2), 2) := by decide +kernel
theorem dX11_force_25 : decode cX11_force 25 = .ok (.invokevirtual 175, 3) := by decide +kernel
theorem dX11_force_28 : decode cX11_force 28 = .ok (.ireturn, 1) := by decide +kernel
def D_X11_force (h : z_H) (l0 : Option Nat) (l1 : Int32) : Option (Int32 × z_H) :=
  (z_pV 11 h l0 0 (.int (0:Int32))).bind fun h2482 =>
  (z_ob 11 h2482 l0).bind fun _ =>
  (D_X11_isLaw  h2482 l0 l1).bind fun p2483 =>
  if p2483.1 = 0 then
    (z_ob 11 p2483.2 l0).bind fun _ =>
    (D_X11_tell  p2483.2 l0 (-2:Int32)).bind fun p2486 =>
    some (p2486.1, p2486.2)
  else
    (z_ob 11 p2483.2 l0).bind fun _ =>
    (D_X11_change  p2483.2 l0 (3:Int32) l1).bind fun p2488 =>
    some (p2488.1, p2488.2)
set_option maxRecDepth 100000 in
set_option maxHeartbeats 4000000 in
theorem S_X11_force {G : z_G} {l : Launch} {h : z_H} {l0 : Option Nat} {l1 : Int32} {res : (Int32 × z_H)} (e : D_X11_force h l0 l1 = some res) : z_Meth G l 6 M_X11_force [z_r l0, .int l1] h res.2 (some (.int res.1)) := by
  refine z_Meth.of ck_X11_force.2.2.2.2 (by simp [lg_sl, z_ci, z_cj, z_cr, z_cx]) ck_X11_force.1 ?_
  rw [show lv_args 0 [z_r l0, .int l1] = [(0, z_r l0), (1, .int l1)] from by simp [lv_args, z_ci, z_cj, z_cr, z_cx]]
  unfold D_X11_force at e
  refine z_aload_n 0 dX11_force_0 rfl ?_
  refine z_iconst (v := 0) dX11_force_1 (by decide) ?_
  replace e := z_bd e; obtain ⟨h2482, eh2482, e⟩ := e
  refine z_putV eh2482 lk_X11_166 wk_11_0 (fun _ => rfl) (fun _ => rfl) dX11_force_2 ?_
  refine z_aload_n 0 dX11_force_5 rfl ?_
  refine z_iload_n 1 dX11_force_6 rfl ?_
  replace e := z_bd e; obtain ⟨o2484, eo2484, e⟩ := e
  replace e := z_bd e; obtain ⟨p2483, ep2483, e⟩ := e
  refine z_cV [.int l1] (S_X11_isLaw  ep2483) eo2484 rfl ml_X11_395 ck_X11_isLaw vk_X11_isLaw dX11_force_7 (by decide) rfl (Nat.zero_le _) rfl ?_
  refine z_if_eq (tgt := 22) dX11_force_10 (by decide) (fun c2485 => ?_) (fun c2485 => ?_)
  · rw [if_pos c2485] at e
    refine z_aload_n 0 dX11_force_22 rfl ?_
    refine z_bipush (v := -2) dX11_force_23 (by decide) ?_
    replace e := z_bd e; obtain ⟨o2487, eo2487, e⟩ := e
    replace e := z_bd e; obtain ⟨p2486, ep2486, e⟩ := e
    refine z_cV [.int (-2:Int32)] (S_X11_tell  ep2486) eo2487 rfl ml_X11_175 ck_X11_tell vk_X11_tell dX11_force_25 (by decide) rfl (Nat.zero_le _) rfl ?_
    cases e
    exact z_iret dX11_force_28 rfl
  · rw [if_neg c2485] at e
    refine z_aload_n 0 dX11_force_13 rfl ?_
    refine z_iconst (v := 3) dX11_force_14 (by decide) ?_
    refine z_iload_n 1 dX11_force_15 rfl ?_
    replace e := z_bd e; obtain ⟨o2489, eo2489, e⟩ := e
    replace e := z_bd e; obtain ⟨p2488, ep2488, e⟩ := e
    refine z_cV [.int (3:Int32), .int l1] (S_X11_change  ep2488) eo2489 rfl ml_X11_236 ck_X11_change vk_X11_change dX11_force_16 (by decide) rfl (Nat.zero_le _) rfl ?_
    refine z_goto (tgt := 28) dX11_force_19 (by decide) ?_
    cases e
    exact z_iret dX11_force_28 rfl
theorem dX10_stopped_0 : decode cX10_stopped 0 = .ok (.aload_n 0, 1) := by decide +kernel
theorem dX10_stopped_1 : decode cX10_stopped 1 = .ok (.getfield 62, 3) := by decide +kernel
theorem dX10_stopped_4 : decode cX10_stopped 4 = .ok (.getfield 201, 3) := by decide +kernel
theorem dX10_stopped_7 : decode cX10_stopped 7 = .ok (.ireturn, 1) := by decide +kernel
def D_X10_stopped (h : z_H) (l0 : Option Nat) : Option (Int32 × z_H) :=
  (z_gQ 10 h l0 8).bind fun x2490 =>
  (z_gI 2 h x2490 6).bind fun x2491 =>
  some (x2491, h)
set_option maxRecDepth 100000 in
set_option maxHeartbeats 4000000 in
theorem S_X10_stopped {G : z_G} {l : Launch} {h : z_H} {l0 : Option Nat} {res : (Int32 × z_H)} (e : D_X10_stopped h l0 = some res) : z_Meth G l 4 M_X10_stopped [z_r l0] h res.2 (some (.int res.1)) := by
  refine z_Meth.of ck_X10_stopped.2.2.2.2 (by simp [lg_sl, z_ci, z_cj, z_cr, z_cx]) ck_X10_stopped.1 ?_
  rw [show lv_args 0 [z_r l0] = [(0, z_r l0)] from by simp [lv_args, z_ci, z_cj, z_cr, z_cx]]
  unfold D_X10_stopped at e
  refine z_aload_n 0 dX10_stopped_0 rfl ?_
  replace e := z_bd e; obtain ⟨x2490, ex2490, e⟩ := e
  refine z_getQ ex2490 lk_X10_62 dX10_stopped_1 ?_
  replace e := z_bd e; obtain ⟨x2491, ex2491, e⟩ := e
  refine z_getI ex2491 lk_X10_201 dX10_stopped_4 ?_
  cases e
  exact z_iret dX10_stopped_7 rfl
theorem dX11_stopped_0 : decode cX11_stopped 0 = .ok (.aload_n 0, 1) := by decide +kernel
theorem dX11_stopped_1 : decode cX11_stopped 1 = .ok (.iconst 0, 1) := by decide +kernel
theorem dX11_stopped_2 : decode cX11_stopped 2 = .ok (.putfield 166, 3) := by decide +kernel
theorem dX11_stopped_5 : decode cX11_stopped 5 = .ok (.aload_n 0, 1) := by decide +kernel
theorem dX11_stopped_6 : decode cX11_stopped 6 = .ok (.getfield 157, 3) := by decide +kernel
theorem dX11_stopped_9 : decode cX11_stopped 9 = .ok (.ireturn, 1) := by decide +kernel
def D_X11_stopped (h : z_H) (l0 : Option Nat) : Option (Int32 × z_H) :=
  (z_pV 11 h l0 0 (.int (0:Int32))).bind fun h2492 =>
  (z_gI 11 h2492 l0 54).bind fun x2493 =>
  some (x2493, h2492)
set_option maxRecDepth 100000 in
set_option maxHeartbeats 4000000 in
theorem S_X11_stopped {G : z_G} {l : Launch} {h : z_H} {l0 : Option Nat} {res : (Int32 × z_H)} (e : D_X11_stopped h l0 = some res) : z_Meth G l 4 M_X11_stopped [z_r l0] h res.2 (some (.int res.1)) := by
  refine z_Meth.of ck_X11_stopped.2.2.2.2 (by simp [lg_sl, z_ci, z_cj, z_cr, z_cx]) ck_X11_stopped.1 ?_
  rw [show lv_args 0 [z_r l0] = [(0, z_r l0)] from by simp [lv_args, z_ci, z_cj, z_cr, z_cx]]
  unfold D_X11_stopped at e
  refine z_aload_n 0 dX11_stopped_0 rfl ?_
  refine z_iconst (v := 0) dX11_stopped_1 (by decide) ?_
  replace e := z_bd e; obtain ⟨h2492, eh2492, e⟩ := e
  refine z_putV eh2492 lk_X11_166 wk_11_0 (fun _ => rfl) (fun _ => rfl) dX11_stopped_2 ?_
  refine z_aload_n 0 dX11_stopped_5 rfl ?_
  replace e := z_bd e; obtain ⟨x2493, ex2493, e⟩ := e
  refine z_getI ex2493 lk_X11_157 dX11_stopped_6 ?_
  cases e
  exact z_iret dX11_stopped_9 rfl
theorem dX10_fault_0 : decode cX10_fault 0 = .ok (.aload_n 0, 1) := by decide +kernel
theorem dX10_fault_1 : decode cX10_fault 1 = .ok (.getfield 37, 3) := by decide +kernel
theorem dX10_fault_4 : decode cX10_fault 4 = .ok (.getfield 208, 3) := by decide +kernel
theorem dX10_fault_7 : decode cX10_fault 7 = .ok (.ireturn, 1) := by decide +kernel
def D_X10_fault (h : z_H) (l0 : Option Nat) : Option (Int32 × z_H) :=
  (z_gQ 10 h l0 5).bind fun x2494 =>
  (z_gI 5 h x2494 3).bind fun x2495 =>
  some (x2495, h)
set_option maxRecDepth 100000 in
set_option maxHeartbeats 4000000 in
theorem S_X10_fault {G : z_G} {l : Launch} {h : z_H} {l0 : Option Nat} {res : (Int32 × z_H)} (e : D_X10_fault h l0 = some res) : z_Meth G l 4 M_X10_fault [z_r l0] h res.2 (some (.int res.1)) := by
  refine z_Meth.of ck_X10_fault.2.2.2.2 (by simp [lg_sl, z_ci, z_cj, z_cr, z_cx]) ck_X10_fault.1 ?_
  rw [show lv_args 0 [z_r l0] = [(0, z_r l0)] from by simp [lv_args, z_ci, z_cj, z_cr, z_cx]]
  unfold D_X10_fault at e
  refine z_aload_n 0 dX10_fault_0 rfl ?_
  replace e := z_bd e; obtain ⟨x2494, ex2494, e⟩ := e
  refine z_getQ ex2494 lk_X10_37 dX10_fault_1 ?_
  replace e := z_bd e; obtain ⟨x2495, ex2495, e⟩ := e
  refine z_getI ex2495 lk_X10_208 dX10_fault_4 ?_
  cases e
  exact z_iret dX10_fault_7 rfl
theorem dX11_fault_0 : decode cX11_fault 0 = .ok (.aload_n 0, 1) := by decide +kernel
theorem dX11_fault_1 : decode cX11_fault 1 = .ok (.iconst 0, 1) := by decide +kernel
theorem dX11_fault_2 : decode cX11_fault 2 = .ok (.putfield 166, 3) := by decide +kernel
theorem dX11_fault_5 : decode cX11_fault 5 = .ok (.aload_n 0, 1) := by decide +kernel
theorem dX11_fault_6 : decode cX11_fault 6 = .ok (.getfield 38, 3) := by decide +kernel
theorem dX11_fault_9 : decode cX11_fault 9 = .ok (.ireturn, 1) := by decide +kernel
def D_X11_fault (h : z_H) (l0 : Option Nat) : Option (Int32 × z_H) :=
  (z_pV 11 h l0 0 (.int (0:Int32))).bind fun h2496 =>
  (z_gI 11 h2496 l0 18).bind fun x2497 =>
  some (x2497, h2496)
set_option maxRecDepth 100000 in
set_option maxHeartbeats 4000000 in
theorem S_X11_fault {G : z_G} {l : Launch} {h : z_H} {l0 : Option Nat} {res : (Int32 × z_H)} (e : D_X11_fault h l0 = some res) : z_Meth G l 4 M_X11_fault [z_r l0] h res.2 (some (.int res.1)) := by
  refine z_Meth.of ck_X11_fault.2.2.2.2 (by simp [lg_sl, z_ci, z_cj, z_cr, z_cx]) ck_X11_fault.1 ?_
  rw [show lv_args 0 [z_r l0] = [(0, z_r l0)] from by simp [lv_args, z_ci, z_cj, z_cr, z_cx]]
  unfold D_X11_fault at e
  refine z_aload_n 0 dX11_fault_0 rfl ?_
  refine z_iconst (v := 0) dX11_fault_1 (by decide) ?_
  replace e := z_bd e; obtain ⟨h2496, eh2496, e⟩ := e
  refine z_putV eh2496 lk_X11_166 wk_11_0 (fun _ => rfl) (fun _ => rfl) dX11_fault_2 ?_
  refine z_aload_n 0 dX11_fault_5 rfl ?_
  replace e := z_bd e; obtain ⟨x2497, ex2497, e⟩ := e
  refine z_getI ex2497 lk_X11_38 dX11_fault_6 ?_
  cases e
  exact z_iret dX11_fault_9 rfl
theorem dX7_clear_0 : decode cX7_clear 0 = .ok (.aload_n 0, 1) := by decide +kernel
theorem dX7_clear_1 : decode cX7_clear 1 = .ok (.iconst 0, 1) := by decide +kernel
theorem dX7_clear_2 : decode cX7_clear 2 = .ok (.putfield 7, 3) := by decide +kernel
theorem dX7_clear_5 : decode cX7_clear 5 = .ok (.aload_n 0, 1) := by decide +kernel
theorem dX7_clear_6 : decode cX7_clear 6 = .ok (.iconst 0, 1) := by decide +kernel
theorem dX7_clear_7 : decode cX7_clear 7 = .ok (.putfield 13, 3) := by decide +kernel
theorem dX7_clear_10 : decode cX7_clear 10 = .ok (.return_, 1) := by decide +kernel
def D_X7_clear (h : z_H) (l0 : Option Nat) : Option z_H :=
  (z_pV 7 h l0 3 (.int (0:Int32))).bind fun h2498 =>
  (z_pV 7 h2498 l0 4 (.int (0:Int32))).bind fun h2499 =>
  some h2499
set_option maxRecDepth 100000 in
set_option maxHeartbeats 4000000 in
theorem S_X7_clear {G : z_G} {l : Launch} {h : z_H} {l0 : Option Nat} {res : z_H} (e : D_X7_clear h l0 = some res) : z_Meth G l 4 M_X7_clear [z_r l0] h res none := by
  refine z_Meth.of ck_X7_clear.2.2.2.2 (by simp [lg_sl, z_ci, z_cj, z_cr, z_cx]) ck_X7_clear.1 ?_
  rw [show lv_args 0 [z_r l0] = [(0, z_r l0)] from by simp [lv_args, z_ci, z_cj, z_cr, z_cx]]
  unfold D_X7_clear at e
  refine z_aload_n 0 dX7_clear_0 rfl ?_
  refine z_iconst (v := 0) dX7_clear_1 (by decide) ?_
  replace e := z_bd e; obtain ⟨h2498, eh2498, e⟩ := e
  refine z_putV eh2498 lk_X7_7 wk_7_3 (fun _ => rfl) (fun _ => rfl) dX7_clear_2 ?_
  refine z_aload_n 0 dX7_clear_5 rfl ?_
  refine z_iconst (v := 0) dX7_clear_6 (by decide) ?_
  replace e := z_bd e; obtain ⟨h2499, eh2499, e⟩ := e
  refine z_putV eh2499 lk_X7_13 wk_7_4 (fun _ => rfl) (fun _ => rfl) dX7_clear_7 ?_
  cases e
  exact z_vret dX7_clear_10 rfl
theorem dX5_kindOf_0 : decode cX5_kindOf 0 = .ok (.iload_n 0, 1) := by decide +kernel
theorem dX5_kindOf_1 : decode cX5_kindOf 1 = .ok (.bipush 97, 2) := by decide +kernel
theorem dX5_kindOf_3 : decode cX5_kindOf 3 = .ok (.if_icmp .lt 11, 3) := by decide +kernel
theorem dX5_kindOf_6 : decode cX5_kindOf 6 = .ok (.iload_n 0, 1) := by decide +kernel
theorem dX5_kindOf_7 : decode cX5_kindOf 7 = .ok (.bipush 122, 2) := by decide +kernel
theorem dX5_kindOf_9 : decode cX5_kindOf 9 = .ok (.if_icmp .gt 5, 3) := by decide +kernel
theorem dX5_kindOf_12 : decode cX5_kindOf 12 = .ok (.iconst 0, 1) := by decide +kernel
theorem dX5_kindOf_13 : decode cX5_kindOf 13 = .ok (.ireturn, 1) := by decide +kernel
theorem dX5_kindOf_14 : decode cX5_kindOf 14 = .ok (.iload_n 0, 1) := by decide +kernel
theorem dX5_kindOf_15 : decode cX5_kindOf 15 = .ok (.bipush 48, 2) := by decide +kernel
theorem dX5_kindOf_17 : decode cX5_kindOf 17 = .ok (.if_icmp .lt 13, 3) := by decide +kernel
theorem dX5_kindOf_20 : decode cX5_kindOf 20 = .ok (.iload_n 0, 1) := by decide +kernel
theorem dX5_kindOf_21 : decode cX5_kindOf 21 = .ok (.bipush 57, 2) := by decide +kernel
theorem dX5_kindOf_23 : decode cX5_kindOf 23 = .ok (.if_icmp .gt 7, 3) := by decide +kernel
theorem dX5_kindOf_26 : decode cX5_kindOf 26 = .ok (.iconst 1, 1) := by decide +kernel
theorem dX5_kindOf_27 : decode cX5_kindOf 27 = .ok (.goto 4, 3) := by decide +kernel
theorem dX5_kindOf_30 : decode cX5_kindOf 30 = .ok (.iconst 2, 1) := by decide +kernel
theorem dX5_kindOf_31 : decode cX5_kindOf 31 = .ok (.ireturn, 1) := by decide +kernel
def D_X5_kindOf_14 (h : z_H) (l0 : Int32) : Option (Int32 × z_H) :=
  if l0 < (48:Int32) then
    some ((2:Int32), h)
  else
    if (57:Int32) < l0 then
      some ((2:Int32), h)
    else
      some ((1:Int32), h)
set_option maxRecDepth 100000 in
set_option maxHeartbeats 4000000 in
theorem S_X5_kindOf_14 {G : z_G} {l : Launch}  {h : z_H} {l0 : Int32} {res : (Int32 × z_H)} (e : D_X5_kindOf_14  h l0 = some res) : z_Run G l 4 M_X5_kindOf 14 [(0, .int l0)] [] h res.2 (some (.int res.1)) := by
  unfold D_X5_kindOf_14 at e
  refine z_iload_n 0 dX5_kindOf_14 rfl ?_
  refine z_bipush (v := 48) dX5_kindOf_15 (by decide) ?_
  refine z_icmp_lt (tgt := 30) dX5_kindOf_17 (by decide) (fun c2500 => ?_) (fun c2500 => ?_)
  · rw [if_pos c2500] at e
    refine z_iconst (v := 2) dX5_kindOf_30 (by decide) ?_
    cases e
    exact z_iret dX5_kindOf_31 rfl
  · rw [if_neg c2500] at e
    refine z_iload_n 0 dX5_kindOf_20 rfl ?_
    refine z_bipush (v := 57) dX5_kindOf_21 (by decide) ?_
    refine z_icmp_gt (tgt := 30) dX5_kindOf_23 (by decide) (fun c2501 => ?_) (fun c2501 => ?_)
    · rw [if_pos c2501] at e
      refine z_iconst (v := 2) dX5_kindOf_30 (by decide) ?_
      cases e
      exact z_iret dX5_kindOf_31 rfl
    · rw [if_neg c2501] at e
      refine z_iconst (v := 1) dX5_kindOf_26 (by decide) ?_
      refine z_goto (tgt := 31) dX5_kindOf_27 (by decide) ?_
      cases e
      exact z_iret dX5_kindOf_31 rfl
def D_X5_kindOf (h : z_H) (l0 : Int32) : Option (Int32 × z_H) :=
  if l0 < (97:Int32) then
    D_X5_kindOf_14   h l0
  else
    if (122:Int32) < l0 then
      D_X5_kindOf_14   h l0
    else
      some ((0:Int32), h)
set_option maxRecDepth 100000 in
set_option maxHeartbeats 4000000 in
theorem S_X5_kindOf {G : z_G} {l : Launch} {h : z_H} {l0 : Int32} {res : (Int32 × z_H)} (e : D_X5_kindOf h l0 = some res) : z_Meth G l 4 M_X5_kindOf [.int l0] h res.2 (some (.int res.1)) := by
  refine z_Meth.of ck_X5_kindOf.2.2.2.2 (by simp [lg_sl, z_ci, z_cj, z_cr, z_cx]) ck_X5_kindOf.1 ?_
  rw [show lv_args 0 [.int l0] = [(0, .int l0)] from rfl]
  unfold D_X5_kindOf at e
  refine z_iload_n 0 dX5_kindOf_0 rfl ?_
  refine z_bipush (v := 97) dX5_kindOf_1 (by decide) ?_
  refine z_icmp_lt (tgt := 14) dX5_kindOf_3 (by decide) (fun c2502 => ?_) (fun c2502 => ?_)
  · rw [if_pos c2502] at e
    exact z_weak [0] rfl (S_X5_kindOf_14   e)
  · rw [if_neg c2502] at e
    refine z_iload_n 0 dX5_kindOf_6 rfl ?_
    refine z_bipush (v := 122) dX5_kindOf_7 (by decide) ?_
    refine z_icmp_gt (tgt := 14) dX5_kindOf_9 (by decide) (fun c2503 => ?_) (fun c2503 => ?_)
    · rw [if_pos c2503] at e
      exact z_weak [0] rfl (S_X5_kindOf_14   e)
    · rw [if_neg c2503] at e
      refine z_iconst (v := 0) dX5_kindOf_12 (by decide) ?_
      cases e
      exact z_iret dX5_kindOf_13 rfl
theorem dX5_advance_0 : decode cX5_advance 0 = .ok (.aload_n 0, 1) := by decide +kernel
theorem dX5_advance_1 : decode cX5_advance 1 = .ok (.aload_n 0, 1) := by decide +kernel
theorem dX5_advance_2 : decode cX5_advance 2 = .ok (.getfield 38, 3) := by decide +kernel
theorem dX5_advance_5 : decode cX5_advance 5 = .ok (.putfield 35, 3) := by decide +kernel
theorem dX5_advance_8 : decode cX5_advance 8 = .ok (.aload_n 0, 1) := by decide +kernel
theorem dX5_advance_9 : decode cX5_advance 9 = .ok (.getfield 35, 3) := by decide +kernel
theorem dX5_advance_12 : decode cX5_advance 12 = .ok (.aload_n 0, 1) := by decide +kernel
theorem dX5_advance_13 : decode cX5_advance 13 = .ok (.getfield 24, 3) := by decide +kernel
theorem dX5_advance_16 : decode cX5_advance 16 = .ok (.if_icmp .ge 30, 3) := by decide +kernel
theorem dX5_advance_19 : decode cX5_advance 19 = .ok (.aload_n 0, 1) := by decide +kernel
theorem dX5_advance_20 : decode cX5_advance 20 = .ok (.getfield 9, 3) := by decide +kernel
theorem dX5_advance_23 : decode cX5_advance 23 = .ok (.aload_n 0, 1) := by decide +kernel
theorem dX5_advance_24 : decode cX5_advance 24 = .ok (.getfield 35, 3) := by decide +kernel
theorem dX5_advance_27 : decode cX5_advance 27 = .ok (.iaload, 1) := by decide +kernel
theorem dX5_advance_28 : decode cX5_advance 28 = .ok (.bipush 32, 2) := by decide +kernel
theorem dX5_advance_30 : decode cX5_advance 30 = .ok (.if_icmp .ne 16, 3) := by decide +kernel
theorem dX5_advance_33 : decode cX5_advance 33 = .ok (.aload_n 0, 1) := by decide +kernel
theorem dX5_advance_34 : decode cX5_advance 34 = .ok (.dup, 1) := by decide +kernel
theorem dX5_advance_35 : decode cX5_advance 35 = .ok (.getfield 35, 3) := by decide +kernel
theorem dX5_advance_38 : decode cX5_advance 38 = .ok (.iconst 1, 1) := by decide +kernel
theorem dX5_advance_39 : decode cX5_advance 39 = .ok (.iadd, 1) := by decide +kernel
theorem dX5_advance_40 : decode cX5_advance 40 = .ok (.putfield 35, 3) := by decide +kernel
theorem dX5_advance_43 : decode cX5_advance 43 = .ok (.goto (-35), 3) := by decide +kernel
theorem dX5_advance_46 : decode cX5_advance 46 = .ok (.aload_n 0, 1) := by decide +kernel
theorem dX5_advance_47 : decode cX5_advance 47 = .ok (.aload_n 0, 1) := by decide +kernel
theorem dX5_advance_48 : decode cX5_advance 48 = .ok (.getfield 35, 3) := by decide +kernel
theorem dX5_advance_51 : decode cX5_advance 51 = .ok (.putfield 38, 3) := by decide +kernel
theorem dX5_advance_54 : decode cX5_advance 54 = .ok (.aload_n 0, 1) := by decide +kernel
theorem dX5_advance_55 : decode cX5_advance 55 = .ok (.iconst 3, 1) := by decide +kernel
theorem dX5_advance_56 : decode cX5_advance 56 = .ok (.putfield 41, 3) := by decide +kernel
theorem dX5_advance_59 : decode cX5_advance 59 = .ok (.aload_n 0, 1) := by decide +kernel
theorem dX5_advance_60 : decode cX5_advance 60 = .ok (.getfield 35, 3) := by decide +kernel
theorem dX5_advance_63 : decode cX5_advance 63 = .ok (.aload_n 0, 1) := by decide +kernel
theorem dX5_advance_64 : decode cX5_advance 64 = .ok (.getfield 24, 3) := by decide +kernel
theorem dX5_advance_67 : decode cX5_advance 67 = .ok (.if_icmp .lt 4, 3) := by decide +kernel
theorem dX5_advance_70 : decode cX5_advance 70 = .ok (.return_, 1) := by decide +kernel
theorem dX5_advance_71 : decode cX5_advance 71 = .ok (.aload_n 0, 1) := by decide +kernel
theorem dX5_advance_72 : decode cX5_advance 72 = .ok (.aload_n 0, 1) := by decide +kernel
theorem dX5_advance_73 : decode cX5_advance 73 = .ok (.getfield 9, 3) := by decide +kernel
theorem dX5_advance_76 : decode cX5_advance 76 = .ok (.aload_n 0, 1) := by decide +kernel
theorem dX5_advance_77 : decode cX5_advance 77 = .ok (.getfield 35, 3) := by decide +kernel
theorem dX5_advance_80 : decode cX5_advance 80 = .ok (.iaload, 1) := by decide +kernel
theorem dX5_advance_81 : decode cX5_advance 81 = .ok (.invokestatic 71, 3) := by decide +kernel
theorem dX5_advance_84 : decode cX5_advance 84 = .ok (.putfield 41, 3) := by decide +kernel
theorem dX5_advance_87 : decode cX5_advance 87 = .ok (.aload_n 0, 1) := by decide +kernel
theorem dX5_advance_88 : decode cX5_advance 88 = .ok (.dup, 1) := by decide +kernel
theorem dX5_advance_89 : decode cX5_advance 89 = .ok (.getfield 38, 3) := by decide +kernel
theorem dX5_advance_92 : decode cX5_advance 92 = .ok (.iconst 1, 1) := by decide +kernel
theorem dX5_advance_93 : decode cX5_advance 93 = .ok (.iadd, 1) := by decide +kernel
theorem dX5_advance_94 : decode cX5_advance 94 = .ok (.putfield 38, 3) := by decide +kernel
theorem dX5_advance_97 : decode cX5_advance 97 = .ok (.aload_n 0, 1) := by decide +kernel
theorem dX5_advance_98 : decode cX5_advance 98 = .ok (.getfield 38, 3) := by decide +kernel
theorem dX5_advance_101 : decode cX5_advance 101 = .ok (.aload_n 0, 1) := by decide +kernel
theorem dX5_advance_102 : decode cX5_advance 102 = .ok (.getfield 24, 3) := by decide +kernel
theorem dX5_advance_105 : decode cX5_advance 105 = .ok (.if_icmp .ge 43, 3) := by decide +kernel
theorem dX5_advance_108 : decode cX5_advance 108 = .ok (.aload_n 0, 1) := by decide +kernel
theorem dX5_advance_109 : decode cX5_advance 109 = .ok (.getfield 41, 3) := by decide +kernel
theorem dX5_advance_112 : decode cX5_advance 112 = .ok (.iconst 2, 1) := by decide +kernel
theorem dX5_advance_113 : decode cX5_advance 113 = .ok (.if_icmp .eq 35, 3) := by decide +kernel
theorem dX5_advance_116 : decode cX5_advance 116 = .ok (.aload_n 0, 1) := by decide +kernel
theorem dX5_advance_117 : decode cX5_advance 117 = .ok (.getfield 9, 3) := by decide +kernel
theorem dX5_advance_120 : decode cX5_advance 120 = .ok (.aload_n 0, 1) := by decide +kernel
theorem dX5_advance_121 : decode cX5_advance 121 = .ok (.getfield 38, 3) := by decide +kernel
theorem dX5_advance_124 : decode cX5_advance 124 = .ok (.iaload, 1) := by decide +kernel
theorem dX5_advance_125 : decode cX5_advance 125 = .ok (.invokestatic 71, 3) := by decide +kernel
theorem dX5_advance_128 : decode cX5_advance 128 = .ok (.aload_n 0, 1) := by decide +kernel
theorem dX5_advance_129 : decode cX5_advance 129 = .ok (.getfield 41, 3) := by decide +kernel
theorem dX5_advance_132 : decode cX5_advance 132 = .ok (.if_icmp .ne 16, 3) := by decide +kernel
theorem dX5_advance_135 : decode cX5_advance 135 = .ok (.aload_n 0, 1) := by decide +kernel
theorem dX5_advance_136 : decode cX5_advance 136 = .ok (.dup, 1) := by decide +kernel
theorem dX5_advance_137 : decode cX5_advance 137 = .ok (.getfield 38, 3) := by decide +kernel
theorem dX5_advance_140 : decode cX5_advance 140 = .ok (.iconst 1, 1) := by decide +kernel
theorem dX5_advance_141 : decode cX5_advance 141 = .ok (.iadd, 1) := by decide +kernel
theorem dX5_advance_142 : decode cX5_advance 142 = .ok (.putfield 38, 3) := by decide +kernel
theorem dX5_advance_145 : decode cX5_advance 145 = .ok (.goto (-48), 3) := by decide +kernel
theorem dX5_advance_148 : decode cX5_advance 148 = .ok (.aload_n 0, 1) := by decide +kernel
theorem dX5_advance_149 : decode cX5_advance 149 = .ok (.iconst 0, 1) := by decide +kernel
theorem dX5_advance_150 : decode cX5_advance 150 = .ok (.putfield 44, 3) := by decide +kernel
theorem dX5_advance_153 : decode cX5_advance 153 = .ok (.aload_n 0, 1) := by decide +kernel
theorem dX5_advance_154 : decode cX5_advance 154 = .ok (.getfield 35, 3) := by decide +kernel
theorem dX5_advance_157 : decode cX5_advance 157 = .ok (.istore_n 1, 1) := by decide +kernel
theorem dX5_advance_158 : decode cX5_advance 158 = .ok (.iload_n 1, 1) := by decide +kernel
theorem dX5_advance_159 : decode cX5_advance 159 = .ok (.aload_n 0, 1) := by decide +kernel
theorem dX5_advance_160 : decode cX5_advance 160 = .ok (.getfield 38, 3) := by decide +kernel
theorem dX5_advance_163 : decode cX5_advance 163 = .ok (.if_icmp .ge 44, 3) := by decide +kernel
theorem dX5_advance_166 : decode cX5_advance 166 = .ok (.aload_n 0, 1) := by decide +kernel
theorem dX5_advance_167 : decode cX5_advance 167 = .ok (.getfield 41, 3) := by decide +kernel
theorem dX5_advance_170 : decode cX5_advance 170 = .ok (.iconst 1, 1) := by decide +kernel
theorem dX5_advance_171 : decode cX5_advance 171 = .ok (.if_icmp .ne 36, 3) := by decide +kernel
theorem dX5_advance_174 : decode cX5_advance 174 = .ok (.aload_n 0, 1) := by decide +kernel
theorem dX5_advance_175 : decode cX5_advance 175 = .ok (.aload_n 0, 1) := by decide +kernel
theorem dX5_advance_176 : decode cX5_advance 176 = .ok (.getfield 44, 3) := by decide +kernel
theorem dX5_advance_179 : decode cX5_advance 179 = .ok (.bipush 10, 2) := by decide +kernel
theorem dX5_advance_181 : decode cX5_advance 181 = .ok (.imul, 1) := by decide +kernel
theorem dX5_advance_182 : decode cX5_advance 182 = .ok (.aload_n 0, 1) := by decide +kernel
theorem dX5_advance_183 : decode cX5_advance 183 = .ok (.getfield 9, 3) := by decide +kernel
theorem dX5_advance_186 : decode cX5_advance 186 = .ok (.iload_n 1, 1) := by decide +kernel
theorem dX5_advance_187 : decode cX5_advance 187 = .ok (.iaload, 1) := by decide +kernel
theorem dX5_advance_188 : decode cX5_advance 188 = .ok (.iadd, 1) := by decide +kernel
theorem dX5_advance_189 : decode cX5_advance 189 = .ok (.bipush 48, 2) := by decide +kernel
theorem dX5_advance_191 : decode cX5_advance 191 = .ok (.isub, 1) := by decide +kernel
theorem dX5_advance_192 : decode cX5_advance 192 = .ok (.sipush 1001, 3) := by decide +kernel
theorem dX5_advance_195 : decode cX5_advance 195 = .ok (.invokestatic 75, 3) := by decide +kernel
theorem dX5_advance_198 : decode cX5_advance 198 = .ok (.putfield 44, 3) := by decide +kernel
theorem dX5_advance_201 : decode cX5_advance 201 = .ok (.iinc 1 1, 3) := by decide +kernel
theorem dX5_advance_204 : decode cX5_advance 204 = .ok (.goto (-46), 3) := by decide +kernel
theorem dX5_advance_207 : decode cX5_advance 207 = .ok (.return_, 1) := by decide +kernel
def D_X5_advance_158b (k158 : z_H → Option Nat → Int32 → Option z_H) (h : z_H) (l0 : Option Nat) (l1 : Int32) : Option z_H :=
  (z_gI 5 h l0 6).bind fun x2504 =>
  if x2504 ≤ l1 then
    some h
  else
    (z_gI 5 h l0 7).bind fun x2506 =>
    if x2506 = (1:Int32) then
      (z_gI 5 h l0 8).bind fun x2508 =>
      (z_gQ 5 h l0 0).bind fun x2509 =>
      (z_aI .int h x2509 l1).bind fun x2510 =>
      (some (if (1001:Int32) < (((x2508 * (10:Int32)) + x2510) - (48:Int32)) then (1001:Int32) else (((x2508 * (10:Int32)) + x2510) - (48:Int32)))).bind fun x2511 =>
      (z_pV 5 h l0 8 (.int x2511)).bind fun h2512 =>
      (some (l1 + (1:Int32))).bind fun x2513 =>
      k158 h2512 l0 x2513
    else
      some h
def D_X5_advance_158 (n : Nat) : z_H → Option Nat → Int32 → Option z_H := Nat.rec (motive := fun _ => z_H → Option Nat → Int32 → Option z_H) (fun _ _ _ => none) (fun _ k => D_X5_advance_158b  k) n
set_option maxRecDepth 100000 in
set_option maxHeartbeats 4000000 in
theorem S_X5_advance_158 {G : z_G} {l : Launch}  (n : Nat) : ∀ {h : z_H} {l0 : Option Nat} {l1 : Int32} {res : z_H}, D_X5_advance_158  n h l0 l1 = some res → z_Run G l 5 M_X5_advance 158 [(0, z_r l0), (1, .int l1)] [] h res none := by
  induction n with
  | zero => intro h l0 l1 res e; cases e
  | succ n hk158 =>
    intro h l0 l1 res e
    replace e : D_X5_advance_158b  (D_X5_advance_158  n) h l0 l1 = some res := e
    unfold D_X5_advance_158b at e
    refine z_iload_n 1 dX5_advance_158 rfl ?_
    refine z_aload_n 0 dX5_advance_159 rfl ?_
    replace e := z_bd e; obtain ⟨x2504, ex2504, e⟩ := e
    refine z_getI ex2504 lk_X5_38 dX5_advance_160 ?_
    refine z_icmp_ge (tgt := 207) dX5_advance_163 (by decide) (fun c2505 => ?_) (fun c2505 => ?_)
    · rw [if_pos c2505] at e
      cases e
      exact z_vret dX5_advance_207 rfl
    · rw [if_neg c2505] at e
      refine z_aload_n 0 dX5_advance_166 rfl ?_
      replace e := z_bd e; obtain ⟨x2506, ex2506, e⟩ := e
      refine z_getI ex2506 lk_X5_41 dX5_advance_167 ?_
      refine z_iconst (v := 1) dX5_advance_170 (by decide) ?_
      refine z_icmp_ne (tgt := 207) dX5_advance_171 (by decide) (fun c2507 => ?_) (fun c2507 => ?_)
      · rw [if_neg c2507] at e
        cases e
        exact z_vret dX5_advance_207 rfl
      · rw [if_pos c2507] at e
        refine z_aload_n 0 dX5_advance_174 rfl ?_
        refine z_aload_n 0 dX5_advance_175 rfl ?_
        replace e := z_bd e; obtain ⟨x2508, ex2508, e⟩ := e
        refine z_getI ex2508 lk_X5_44 dX5_advance_176 ?_
        refine z_bipush (v := 10) dX5_advance_179 (by decide) ?_
        refine z_imul dX5_advance_181 ?_
        refine z_aload_n 0 dX5_advance_182 rfl ?_
        replace e := z_bd e; obtain ⟨x2509, ex2509, e⟩ := e
        refine z_getQ ex2509 lk_X5_9 dX5_advance_183 ?_
        refine z_iload_n 1 dX5_advance_186 rfl ?_
        replace e := z_bd e; obtain ⟨x2510, ex2510, e⟩ := e
        refine z_iald ex2510 dX5_advance_187 ?_
        refine z_iadd dX5_advance_188 ?_
        refine z_bipush (v := 48) dX5_advance_189 (by decide) ?_
        refine z_isub dX5_advance_191 ?_
        refine z_sipush (v := 1001) dX5_advance_192 (by decide) ?_
        refine z_mmin ml_X5_75 z_mw_min (by decide) (by simp [z_ci, z_cj, z_cr, z_cx]) dX5_advance_195 ?_
        replace e := z_bd e; obtain ⟨x2511, ex2511, e⟩ := e
        refine z_topI ex2511 ?_
        replace e := z_bd e; obtain ⟨h2512, eh2512, e⟩ := e
        refine z_putV eh2512 lk_X5_44 wk_5_8 (fun _ => rfl) (fun _ => rfl) dX5_advance_198 ?_
        replace e := z_bd e; obtain ⟨x2513, ex2513, e⟩ := e
        refine z_iinc (q := 1) (v := x2513) (L' := [(1, .int x2513), (0, z_r l0)]) dX5_advance_201 rfl (Option.some.inj ex2513) (by decide) (by simp [z_cr]) ?_
        refine z_goto (tgt := 158) dX5_advance_204 (by decide) ?_
        exact z_weak [1, 0] rfl (hk158 e)
def D_X5_advance_148 (h : z_H) (l0 : Option Nat) : Option z_H :=
  (z_pV 5 h l0 8 (.int (0:Int32))).bind fun h2514 =>
  (z_gI 5 h2514 l0 5).bind fun x2515 =>
  D_X5_advance_158   z_F h2514 l0 x2515
set_option maxRecDepth 100000 in
set_option maxHeartbeats 4000000 in
theorem S_X5_advance_148 {G : z_G} {l : Launch}  {h : z_H} {l0 : Option Nat} {res : z_H} (e : D_X5_advance_148  h l0 = some res) : z_Run G l 5 M_X5_advance 148 [(0, z_r l0)] [] h res none := by
  unfold D_X5_advance_148 at e
  refine z_aload_n 0 dX5_advance_148 rfl ?_
  refine z_iconst (v := 0) dX5_advance_149 (by decide) ?_
  replace e := z_bd e; obtain ⟨h2514, eh2514, e⟩ := e
  refine z_putV eh2514 lk_X5_44 wk_5_8 (fun _ => rfl) (fun _ => rfl) dX5_advance_150 ?_
  refine z_aload_n 0 dX5_advance_153 rfl ?_
  replace e := z_bd e; obtain ⟨x2515, ex2515, e⟩ := e
  refine z_getI ex2515 lk_X5_35 dX5_advance_154 ?_
  refine z_istore_n (L' := [(1, .int x2515), (0, z_r l0)]) dX5_advance_157 rfl (by decide) (by simp [z_cr]) ?_
  exact z_weak [1, 0] rfl (S_X5_advance_158   z_F e)
def D_X5_advance_97b (k97 : z_H → Option Nat → Option z_H) (h : z_H) (l0 : Option Nat) : Option z_H :=
  (z_gI 5 h l0 6).bind fun x2516 =>
  (z_gI 5 h l0 2).bind fun x2517 =>
  if x2517 ≤ x2516 then
    D_X5_advance_148   h l0
  else
    (z_gI 5 h l0 7).bind fun x2519 =>
    if x2519 = (2:Int32) then
      D_X5_advance_148   h l0
    else
      (z_gQ 5 h l0 0).bind fun x2521 =>
      (z_gI 5 h l0 6).bind fun x2522 =>
      (z_aI .int h x2521 x2522).bind fun x2523 =>
      (D_X5_kindOf  h x2523).bind fun p2524 =>
      (z_gI 5 p2524.2 l0 7).bind fun x2525 =>
      if p2524.1 = x2525 then
        (z_gI 5 p2524.2 l0 6).bind fun x2527 =>
        (z_pV 5 p2524.2 l0 6 (.int (x2527 + (1:Int32)))).bind fun h2528 =>
        k97 h2528 l0
      else
        D_X5_advance_148   p2524.2 l0
def D_X5_advance_97 (n : Nat) : z_H → Option Nat → Option z_H := Nat.rec (motive := fun _ => z_H → Option Nat → Option z_H) (fun _ _ => none) (fun _ k => D_X5_advance_97b  k) n
set_option maxRecDepth 100000 in
set_option maxHeartbeats 4000000 in
theorem S_X5_advance_97 {G : z_G} {l : Launch}  (n : Nat) : ∀ {h : z_H} {l0 : Option Nat} {res : z_H}, D_X5_advance_97  n h l0 = some res → z_Run G l 5 M_X5_advance 97 [(0, z_r l0)] [] h res none := by
  induction n with
  | zero => intro h l0 res e; cases e
  | succ n hk97 =>
    intro h l0 res e
    replace e : D_X5_advance_97b  (D_X5_advance_97  n) h l0 = some res := e
    unfold D_X5_advance_97b at e
    refine z_aload_n 0 dX5_advance_97 rfl ?_
    replace e := z_bd e; obtain ⟨x2516, ex2516, e⟩ := e
    refine z_getI ex2516 lk_X5_38 dX5_advance_98 ?_
    refine z_aload_n 0 dX5_advance_101 rfl ?_
    replace e := z_bd e; obtain ⟨x2517, ex2517, e⟩ := e
    refine z_getI ex2517 lk_X5_24 dX5_advance_102 ?_
    refine z_icmp_ge (tgt := 148) dX5_advance_105 (by decide) (fun c2518 => ?_) (fun c2518 => ?_)
    · rw [if_pos c2518] at e
      exact z_weak [0] rfl (S_X5_advance_148   e)
    · rw [if_neg c2518] at e
      refine z_aload_n 0 dX5_advance_108 rfl ?_
      replace e := z_bd e; obtain ⟨x2519, ex2519, e⟩ := e
      refine z_getI ex2519 lk_X5_41 dX5_advance_109 ?_
      refine z_iconst (v := 2) dX5_advance_112 (by decide) ?_
      refine z_icmp_eq (tgt := 148) dX5_advance_113 (by decide) (fun c2520 => ?_) (fun c2520 => ?_)
      · rw [if_pos c2520] at e
        exact z_weak [0] rfl (S_X5_advance_148   e)
      · rw [if_neg c2520] at e
        refine z_aload_n 0 dX5_advance_116 rfl ?_
        replace e := z_bd e; obtain ⟨x2521, ex2521, e⟩ := e
        refine z_getQ ex2521 lk_X5_9 dX5_advance_117 ?_
        refine z_aload_n 0 dX5_advance_120 rfl ?_
        replace e := z_bd e; obtain ⟨x2522, ex2522, e⟩ := e
        refine z_getI ex2522 lk_X5_38 dX5_advance_121 ?_
        replace e := z_bd e; obtain ⟨x2523, ex2523, e⟩ := e
        refine z_iald ex2523 dX5_advance_124 ?_
        replace e := z_bd e; obtain ⟨p2524, ep2524, e⟩ := e
        refine z_cS [.int x2523] (S_X5_kindOf  ep2524) ml_X5_71 ck_X5_kindOf st_X5_kindOf dX5_advance_125 (by decide) rfl (Nat.zero_le _) rfl ?_
        refine z_aload_n 0 dX5_advance_128 rfl ?_
        replace e := z_bd e; obtain ⟨x2525, ex2525, e⟩ := e
        refine z_getI ex2525 lk_X5_41 dX5_advance_129 ?_
        refine z_icmp_ne (tgt := 148) dX5_advance_132 (by decide) (fun c2526 => ?_) (fun c2526 => ?_)
        · rw [if_neg c2526] at e
          exact z_weak [0] rfl (S_X5_advance_148   e)
        · rw [if_pos c2526] at e
          refine z_aload_n 0 dX5_advance_135 rfl ?_
          refine z_dup dX5_advance_136 (z_cr _) ?_
          replace e := z_bd e; obtain ⟨x2527, ex2527, e⟩ := e
          refine z_getI ex2527 lk_X5_38 dX5_advance_137 ?_
          refine z_iconst (v := 1) dX5_advance_140 (by decide) ?_
          refine z_iadd dX5_advance_141 ?_
          replace e := z_bd e; obtain ⟨h2528, eh2528, e⟩ := e
          refine z_putV eh2528 lk_X5_38 wk_5_6 (fun _ => rfl) (fun _ => rfl) dX5_advance_142 ?_
          refine z_goto (tgt := 97) dX5_advance_145 (by decide) ?_
          exact z_weak [0] rfl (hk97 e)
def D_X5_advance_46 (h : z_H) (l0 : Option Nat) : Option z_H :=
  (z_gI 5 h l0 5).bind fun x2529 =>
  (z_pV 5 h l0 6 (.int x2529)).bind fun h2530 =>
  (z_pV 5 h2530 l0 7 (.int (3:Int32))).bind fun h2531 =>
  (z_gI 5 h2531 l0 5).bind fun x2532 =>
  (z_gI 5 h2531 l0 2).bind fun x2533 =>
  if x2532 < x2533 then
    (z_gQ 5 h2531 l0 0).bind fun x2535 =>
    (z_gI 5 h2531 l0 5).bind fun x2536 =>
    (z_aI .int h2531 x2535 x2536).bind fun x2537 =>
    (D_X5_kindOf  h2531 x2537).bind fun p2538 =>
    (z_pV 5 p2538.2 l0 7 (.int p2538.1)).bind fun h2539 =>
    (z_gI 5 h2539 l0 6).bind fun x2540 =>
    (z_pV 5 h2539 l0 6 (.int (x2540 + (1:Int32)))).bind fun h2541 =>
    D_X5_advance_97   z_F h2541 l0
  else
    some h2531
set_option maxRecDepth 100000 in
set_option maxHeartbeats 4000000 in
theorem S_X5_advance_46 {G : z_G} {l : Launch}  {h : z_H} {l0 : Option Nat} {res : z_H} (e : D_X5_advance_46  h l0 = some res) : z_Run G l 5 M_X5_advance 46 [(0, z_r l0)] [] h res none := by
  unfold D_X5_advance_46 at e
  refine z_aload_n 0 dX5_advance_46 rfl ?_
  refine z_aload_n 0 dX5_advance_47 rfl ?_
  replace e := z_bd e; obtain ⟨x2529, ex2529, e⟩ := e
  refine z_getI ex2529 lk_X5_35 dX5_advance_48 ?_
  replace e := z_bd e; obtain ⟨h2530, eh2530, e⟩ := e
  refine z_putV eh2530 lk_X5_38 wk_5_6 (fun _ => rfl) (fun _ => rfl) dX5_advance_51 ?_
  refine z_aload_n 0 dX5_advance_54 rfl ?_
  refine z_iconst (v := 3) dX5_advance_55 (by decide) ?_
  replace e := z_bd e; obtain ⟨h2531, eh2531, e⟩ := e
  refine z_putV eh2531 lk_X5_41 wk_5_7 (fun _ => rfl) (fun _ => rfl) dX5_advance_56 ?_
  refine z_aload_n 0 dX5_advance_59 rfl ?_
  replace e := z_bd e; obtain ⟨x2532, ex2532, e⟩ := e
  refine z_getI ex2532 lk_X5_35 dX5_advance_60 ?_
  refine z_aload_n 0 dX5_advance_63 rfl ?_
  replace e := z_bd e; obtain ⟨x2533, ex2533, e⟩ := e
  refine z_getI ex2533 lk_X5_24 dX5_advance_64 ?_
  refine z_icmp_lt (tgt := 71) dX5_advance_67 (by decide) (fun c2534 => ?_) (fun c2534 => ?_)
  · rw [if_pos c2534] at e
    refine z_aload_n 0 dX5_advance_71 rfl ?_
    refine z_aload_n 0 dX5_advance_72 rfl ?_
    replace e := z_bd e; obtain ⟨x2535, ex2535, e⟩ := e
    refine z_getQ ex2535 lk_X5_9 dX5_advance_73 ?_
    refine z_aload_n 0 dX5_advance_76 rfl ?_
    replace e := z_bd e; obtain ⟨x2536, ex2536, e⟩ := e
    refine z_getI ex2536 lk_X5_35 dX5_advance_77 ?_
    replace e := z_bd e; obtain ⟨x2537, ex2537, e⟩ := e
    refine z_iald ex2537 dX5_advance_80 ?_
    replace e := z_bd e; obtain ⟨p2538, ep2538, e⟩ := e
    refine z_cS [.int x2537] (S_X5_kindOf  ep2538) ml_X5_71 ck_X5_kindOf st_X5_kindOf dX5_advance_81 (by decide) rfl (by simp [z_ci, z_cj, z_cr, z_cx]) rfl ?_
    replace e := z_bd e; obtain ⟨h2539, eh2539, e⟩ := e
    refine z_putV eh2539 lk_X5_41 wk_5_7 (fun _ => rfl) (fun _ => rfl) dX5_advance_84 ?_
    refine z_aload_n 0 dX5_advance_87 rfl ?_
    refine z_dup dX5_advance_88 (z_cr _) ?_
    replace e := z_bd e; obtain ⟨x2540, ex2540, e⟩ := e
    refine z_getI ex2540 lk_X5_38 dX5_advance_89 ?_
    refine z_iconst (v := 1) dX5_advance_92 (by decide) ?_
    refine z_iadd dX5_advance_93 ?_
    replace e := z_bd e; obtain ⟨h2541, eh2541, e⟩ := e
    refine z_putV eh2541 lk_X5_38 wk_5_6 (fun _ => rfl) (fun _ => rfl) dX5_advance_94 ?_
    exact z_weak [0] rfl (S_X5_advance_97   z_F e)
  · rw [if_neg c2534] at e
    cases e
    exact z_vret dX5_advance_70 rfl
def D_X5_advance_8b (k8 : z_H → Option Nat → Option z_H) (h : z_H) (l0 : Option Nat) : Option z_H :=
  (z_gI 5 h l0 5).bind fun x2542 =>
  (z_gI 5 h l0 2).bind fun x2543 =>
  if x2543 ≤ x2542 then
    D_X5_advance_46   h l0
  else
    (z_gQ 5 h l0 0).bind fun x2545 =>
    (z_gI 5 h l0 5).bind fun x2546 =>
    (z_aI .int h x2545 x2546).bind fun x2547 =>
    if x2547 = (32:Int32) then
      (z_gI 5 h l0 5).bind fun x2549 =>
      (z_pV 5 h l0 5 (.int (x2549 + (1:Int32)))).bind fun h2550 =>
      k8 h2550 l0
    else
      D_X5_advance_46   h l0
def D_X5_advance_8 (n : Nat) : z_H → Option Nat → Option z_H := Nat.rec (motive := fun _ => z_H → Option Nat → Option z_H) (fun _ _ => none) (fun _ k => D_X5_advance_8b  k) n
set_option maxRecDepth 100000 in
set_option maxHeartbeats 4000000 in
theorem S_X5_advance_8 {G : z_G} {l : Launch}  (n : Nat) : ∀ {h : z_H} {l0 : Option Nat} {res : z_H}, D_X5_advance_8  n h l0 = some res → z_Run G l 5 M_X5_advance 8 [(0, z_r l0)] [] h res none := by
  induction n with
  | zero => intro h l0 res e; cases e
  | succ n hk8 =>
    intro h l0 res e
    replace e : D_X5_advance_8b  (D_X5_advance_8  n) h l0 = some res := e
    unfold D_X5_advance_8b at e
    refine z_aload_n 0 dX5_advance_8 rfl ?_
    replace e := z_bd e; obtain ⟨x2542, ex2542, e⟩ := e
    refine z_getI ex2542 lk_X5_35 dX5_advance_9 ?_
    refine z_aload_n 0 dX5_advance_12 rfl ?_
    replace e := z_bd e; obtain ⟨x2543, ex2543, e⟩ := e
    refine z_getI ex2543 lk_X5_24 dX5_advance_13 ?_
    refine z_icmp_ge (tgt := 46) dX5_advance_16 (by decide) (fun c2544 => ?_) (fun c2544 => ?_)
    · rw [if_pos c2544] at e
      exact z_weak [0] rfl (S_X5_advance_46   e)
    · rw [if_neg c2544] at e
      refine z_aload_n 0 dX5_advance_19 rfl ?_
      replace e := z_bd e; obtain ⟨x2545, ex2545, e⟩ := e
      refine z_getQ ex2545 lk_X5_9 dX5_advance_20 ?_
      refine z_aload_n 0 dX5_advance_23 rfl ?_
      replace e := z_bd e; obtain ⟨x2546, ex2546, e⟩ := e
      refine z_getI ex2546 lk_X5_35 dX5_advance_24 ?_
      replace e := z_bd e; obtain ⟨x2547, ex2547, e⟩ := e
      refine z_iald ex2547 dX5_advance_27 ?_
      refine z_bipush (v := 32) dX5_advance_28 (by decide) ?_
      refine z_icmp_ne (tgt := 46) dX5_advance_30 (by decide) (fun c2548 => ?_) (fun c2548 => ?_)
      · rw [if_neg c2548] at e
        exact z_weak [0] rfl (S_X5_advance_46   e)
      · rw [if_pos c2548] at e
        refine z_aload_n 0 dX5_advance_33 rfl ?_
        refine z_dup dX5_advance_34 (z_cr _) ?_
        replace e := z_bd e; obtain ⟨x2549, ex2549, e⟩ := e
        refine z_getI ex2549 lk_X5_35 dX5_advance_35 ?_
        refine z_iconst (v := 1) dX5_advance_38 (by decide) ?_
        refine z_iadd dX5_advance_39 ?_
        replace e := z_bd e; obtain ⟨h2550, eh2550, e⟩ := e
        refine z_putV eh2550 lk_X5_35 wk_5_5 (fun _ => rfl) (fun _ => rfl) dX5_advance_40 ?_
        refine z_goto (tgt := 8) dX5_advance_43 (by decide) ?_
        exact z_weak [0] rfl (hk8 e)
def D_X5_advance (h : z_H) (l0 : Option Nat) : Option z_H :=
  (z_gI 5 h l0 6).bind fun x2551 =>
  (z_pV 5 h l0 5 (.int x2551)).bind fun h2552 =>
  D_X5_advance_8   z_F h2552 l0
set_option maxRecDepth 100000 in
set_option maxHeartbeats 4000000 in
theorem S_X5_advance {G : z_G} {l : Launch} {h : z_H} {l0 : Option Nat} {res : z_H} (e : D_X5_advance h l0 = some res) : z_Meth G l 5 M_X5_advance [z_r l0] h res none := by
  refine z_Meth.of ck_X5_advance.2.2.2.2 (by simp [lg_sl, z_ci, z_cj, z_cr, z_cx]) ck_X5_advance.1 ?_
  rw [show lv_args 0 [z_r l0] = [(0, z_r l0)] from by simp [lv_args, z_ci, z_cj, z_cr, z_cx]]
  unfold D_X5_advance at e
  refine z_aload_n 0 dX5_advance_0 rfl ?_
  refine z_aload_n 0 dX5_advance_1 rfl ?_
  replace e := z_bd e; obtain ⟨x2551, ex2551, e⟩ := e
  refine z_getI ex2551 lk_X5_38 dX5_advance_2 ?_
  replace e := z_bd e; obtain ⟨h2552, eh2552, e⟩ := e
  refine z_putV eh2552 lk_X5_35 wk_5_5 (fun _ => rfl) (fun _ => rfl) dX5_advance_5 ?_
  exact z_weak [0] rfl (S_X5_advance_8   z_F e)
theorem dX5_among_0 : decode cX5_among 0 = .ok (.aload_n 0, 1) := by decide +kernel
theorem dX5_among_1 : decode cX5_among 1 = .ok (.getfield 41, 3) := by decide +kernel
theorem dX5_among_4 : decode cX5_among 4 = .ok (.ifCond .eq 5, 3) := by decide +kernel
theorem dX5_among_7 : decode cX5_among 7 = .ok (.iconst (-1), 1) := by decide +kernel
theorem dX5_among_8 : decode cX5_among 8 = .ok (.ireturn, 1) := by decide +kernel
theorem dX5_among_9 : decode cX5_among 9 = .ok (.iconst 0, 1) := by decide +kernel
theorem dX5_among_10 : decode cX5_among 10 = .ok (.istore_n 2, 1) := by decide +kernel
theorem dX5_among_11 : decode cX5_among 11 = .ok (.aload_n 0, 1) := by decide +kernel
theorem dX5_among_12 : decode cX5_among 12 = .ok (.getfield 35, 3) := by decide +kernel
theorem dX5_among_15 : decode cX5_among 15 = .ok (.istore_n 3, 1) := by decide +kernel
theorem dX5_among_16 : decode cX5_among 16 = .ok (.iconst 1, 1) := by decide +kernel
theorem dX5_among_17 : decode cX5_among 17 = .ok (.istore 4, 2) := by decide +kernel
theorem dX5_among_19 : decode cX5_among 19 = .ok (.iconst 0, 1) := by decide +kernel
theorem dX5_among_20 : decode cX5_among 20 = .ok (.istore 5, 2) := by decide +kernel
theorem dX5_among_22 : decode cX5_among 22 = .ok (.iload 5, 2) := by decide +kernel
theorem dX5_among_24 : decode cX5_among 24 = .ok (.aload_n 1, 1) := by decide +kernel
theorem dX5_among_25 : decode cX5_among 25 = .ok (.invokevirtual 81, 3) := by decide +kernel
theorem dX5_among_28 : decode cX5_among 28 = .ok (.if_icmp .ge 87, 3) := by decide +kernel
theorem dX5_among_31 : decode cX5_among 31 = .ok (.aload_n 1, 1) := by decide +kernel
theorem dX5_among_32 : decode cX5_among 32 = .ok (.iload 5, 2) := by decide +kernel
theorem dX5_among_34 : decode cX5_among 34 = .ok (.invokevirtual 86, 3) := by decide +kernel
theorem dX5_among_37 : decode cX5_among 37 = .ok (.bipush 32, 2) := by decide +kernel
theorem dX5_among_39 : decode cX5_among 39 = .ok (.if_icmp .eq 44, 3) := by decide +kernel
theorem dX5_among_42 : decode cX5_among 42 = .ok (.iload 4, 2) := by decide +kernel
theorem dX5_among_44 : decode cX5_among 44 = .ok (.ifCond .eq 30, 3) := by decide +kernel
theorem dX5_among_47 : decode cX5_among 47 = .ok (.iload_n 3, 1) := by decide +kernel
theorem dX5_among_48 : decode cX5_among 48 = .ok (.aload_n 0, 1) := by decide +kernel
theorem dX5_among_49 : decode cX5_among 49 = .ok (.getfield 38, 3) := by decide +kernel
theorem dX5_among_52 : decode cX5_among 52 = .ok (.if_icmp .ge 22, 3) := by decide +kernel
theorem dX5_among_55 : decode cX5_among 55 = .ok (.aload_n 0, 1) := by decide +kernel
theorem dX5_among_56 : decode cX5_among 56 = .ok (.getfield 9, 3) := by decide +kernel
theorem dX5_among_59 : decode cX5_among 59 = .ok (.iload_n 3, 1) := by decide +kernel
theorem dX5_among_60 : decode cX5_among 60 = .ok (.iaload, 1) := by decide +kernel
theorem dX5_among_61 : decode cX5_among 61 = .ok (.aload_n 1, 1) := by decide +kernel
theorem dX5_among_62 : decode cX5_among 62 = .ok (.iload 5, 2) := by decide +kernel
theorem dX5_among_64 : decode cX5_among 64 = .ok (.invokevirtual 86, 3) := by decide +kernel
theorem dX5_among_67 : decode cX5_among 67 = .ok (.if_icmp .ne 7, 3) := by decide +kernel
theorem dX5_among_70 : decode cX5_among 70 = .ok (.iconst 1, 1) := by decide +kernel
theorem dX5_among_71 : decode cX5_among 71 = .ok (.goto 4, 3) := by decide +kernel
theorem dX5_among_74 : decode cX5_among 74 = .ok (.iconst 0, 1) := by decide +kernel
theorem dX5_among_75 : decode cX5_among 75 = .ok (.istore 4, 2) := by decide +kernel
theorem dX5_among_77 : decode cX5_among 77 = .ok (.iinc 3 1, 3) := by decide +kernel
theorem dX5_among_80 : decode cX5_among 80 = .ok (.goto 29, 3) := by decide +kernel
theorem dX5_among_83 : decode cX5_among 83 = .ok (.iload 4, 2) := by decide +kernel
theorem dX5_among_85 : decode cX5_among 85 = .ok (.ifCond .eq 13, 3) := by decide +kernel
theorem dX5_among_88 : decode cX5_among 88 = .ok (.iload_n 3, 1) := by decide +kernel
theorem dX5_among_89 : decode cX5_among 89 = .ok (.aload_n 0, 1) := by decide +kernel
theorem dX5_among_90 : decode cX5_among 90 = .ok (.getfield 38, 3) := by decide +kernel
theorem dX5_among_93 : decode cX5_among 93 = .ok (.if_icmp .ne 5, 3) := by decide +kernel
theorem dX5_among_96 : decode cX5_among 96 = .ok (.iload_n 2, 1) := by decide +kernel
theorem dX5_among_97 : decode cX5_among 97 = .ok (.ireturn, 1) := by decide +kernel
theorem dX5_among_98 : decode cX5_among 98 = .ok (.iinc 2 1, 3) := by decide +kernel
theorem dX5_among_101 : decode cX5_among 101 = .ok (.aload_n 0, 1) := by decide +kernel
theorem dX5_among_102 : decode cX5_among 102 = .ok (.getfield 35, 3) := by decide +kernel
theorem dX5_among_105 : decode cX5_among 105 = .ok (.istore_n 3, 1) := by decide +kernel
theorem dX5_among_106 : decode cX5_among 106 = .ok (.iconst 1, 1) := by decide +kernel
theorem dX5_among_107 : decode cX5_among 107 = .ok (.istore 4, 2) := by decide +kernel
theorem dX5_among_109 : decode cX5_among 109 = .ok (.iinc 5 1, 3) := by decide +kernel
theorem dX5_among_112 : decode cX5_among 112 = .ok (.goto (-90), 3) := by decide +kernel
theorem dX5_among_115 : decode cX5_among 115 = .ok (.iload 4, 2) := by decide +kernel
theorem dX5_among_117 : decode cX5_among 117 = .ok (.ifCond .eq 15, 3) := by decide +kernel
theorem dX5_among_120 : decode cX5_among 120 = .ok (.iload_n 3, 1) := by decide +kernel
theorem dX5_among_121 : decode cX5_among 121 = .ok (.aload_n 0, 1) := by decide +kernel
theorem dX5_among_122 : decode cX5_among 122 = .ok (.getfield 38, 3) := by decide +kernel
theorem dX5_among_125 : decode cX5_among 125 = .ok (.if_icmp .ne 7, 3) := by decide +kernel
theorem dX5_among_128 : decode cX5_among 128 = .ok (.iload_n 2, 1) := by decide +kernel
theorem dX5_among_129 : decode cX5_among 129 = .ok (.goto 4, 3) := by decide +kernel
theorem dX5_among_132 : decode cX5_among 132 = .ok (.iconst (-1), 1) := by decide +kernel
theorem dX5_among_133 : decode cX5_among 133 = .ok (.ireturn, 1) := by decide +kernel
def D_X5_among_109 (k22 : z_H → Option Nat → Nat → Int32 → Int32 → Int32 → Int32 → Option (Int32 × z_H)) (h : z_H) (l0 : Option Nat) (l1 : Nat) (l2 : Int32) (l3 : Int32) (l4 : Int32) (l5 : Int32) : Option (Int32 × z_H) :=
  (some (l5 + (1:Int32))).bind fun x2553 =>
  k22 h l0 l1 l2 l3 l4 x2553
set_option maxRecDepth 100000 in
set_option maxHeartbeats 4000000 in
theorem S_X5_among_109 {G : z_G} {l : Launch} {k22 : z_H → Option Nat → Nat → Int32 → Int32 → Int32 → Int32 → Option (Int32 × z_H)} (hk22 : ∀ {h : z_H} {l0 : Option Nat} {l1 : Nat} {l2 : Int32} {l3 : Int32} {l4 : Int32} {l5 : Int32} {res : (Int32 × z_H)}, k22 h l0 l1 l2 l3 l4 l5 = some res → z_Run G l 9 M_X5_among 22 [(0, z_r l0), (1, .retAddr l1), (2, .int l2), (3, .int l3), (4, .int l4), (5, .int l5)] [] h res.2 (some (.int res.1))) {h : z_H} {l0 : Option Nat} {l1 : Nat} {l2 : Int32} {l3 : Int32} {l4 : Int32} {l5 : Int32} {res : (Int32 × z_H)} (e : D_X5_among_109 k22 h l0 l1 l2 l3 l4 l5 = some res) : z_Run G l 9 M_X5_among 109 [(0, z_r l0), (1, .retAddr l1), (2, .int l2), (3, .int l3), (4, .int l4), (5, .int l5)] [] h res.2 (some (.int res.1)) := by
  unfold D_X5_among_109 at e
  replace e := z_bd e; obtain ⟨x2553, ex2553, e⟩ := e
  refine z_iinc (q := 5) (v := x2553) (L' := [(5, .int x2553), (0, z_r l0), (1, .retAddr l1), (2, .int l2), (3, .int l3), (4, .int l4)]) dX5_among_109 rfl (Option.some.inj ex2553) (by decide) rfl ?_
  refine z_goto (tgt := 22) dX5_among_112 (by decide) ?_
  exact z_weak [1, 2, 3, 4, 5, 0] rfl (hk22 e)
def D_X5_among_98 (k22 : z_H → Option Nat → Nat → Int32 → Int32 → Int32 → Int32 → Option (Int32 × z_H)) (h : z_H) (l0 : Option Nat) (l1 : Nat) (l2 : Int32) (l5 : Int32) : Option (Int32 × z_H) :=
  (some (l2 + (1:Int32))).bind fun x2554 =>
  (z_gI 5 h l0 5).bind fun x2555 =>
  D_X5_among_109  k22 h l0 l1 x2554 x2555 (1:Int32) l5
set_option maxRecDepth 100000 in
set_option maxHeartbeats 4000000 in
theorem S_X5_among_98 {G : z_G} {l : Launch} {k22 : z_H → Option Nat → Nat → Int32 → Int32 → Int32 → Int32 → Option (Int32 × z_H)} (hk22 : ∀ {h : z_H} {l0 : Option Nat} {l1 : Nat} {l2 : Int32} {l3 : Int32} {l4 : Int32} {l5 : Int32} {res : (Int32 × z_H)}, k22 h l0 l1 l2 l3 l4 l5 = some res → z_Run G l 9 M_X5_among 22 [(0, z_r l0), (1, .retAddr l1), (2, .int l2), (3, .int l3), (4, .int l4), (5, .int l5)] [] h res.2 (some (.int res.1))) {h : z_H} {l0 : Option Nat} {l1 : Nat} {l2 : Int32} {l5 : Int32} {res : (Int32 × z_H)} (e : D_X5_among_98 k22 h l0 l1 l2 l5 = some res) : z_Run G l 9 M_X5_among 98 [(0, z_r l0), (1, .retAddr l1), (2, .int l2), (5, .int l5)] [] h res.2 (some (.int res.1)) := by
  unfold D_X5_among_98 at e
  replace e := z_bd e; obtain ⟨x2554, ex2554, e⟩ := e
  refine z_iinc (q := 2) (v := x2554) (L' := [(2, .int x2554), (0, z_r l0), (1, .retAddr l1), (5, .int l5)]) dX5_among_98 rfl (Option.some.inj ex2554) (by decide) rfl ?_
  refine z_aload_n 1 dX5_among_101 rfl ?_
  replace e := z_bd e; obtain ⟨x2555, ex2555, e⟩ := e
  refine z_getI ex2555 lk_X5_35 dX5_among_102 ?_
  refine z_istore_n (L' := [(3, .int x2555), (2, .int x2554), (0, z_r l0), (1, .retAddr l1), (5, .int l5)]) dX5_among_105 rfl (by decide) rfl ?_
  refine z_iconst (v := 1) dX5_among_106 (by decide) ?_
  refine z_istore (L' := [(4, .int (1:Int32)), (3, .int x2555), (2, .int x2554), (0, z_r l0), (1, .retAddr l1), (5, .int l5)]) dX5_among_107 (by decide) rfl ?_
  exact z_weak [3, 4, 2, 1, 0, 5] rfl (S_X5_among_109  @hk22 e)
def D_X5_among_75 (k22 : z_H → Option Nat → Nat → Int32 → Int32 → Int32 → Int32 → Option (Int32 × z_H)) (h : z_H) (l0 : Option Nat) (l1 : Nat) (l2 : Int32) (l3 : Int32) (l5 : Int32) (s0 : Int32) : Option (Int32 × z_H) :=
  (some (l3 + (1:Int32))).bind fun x2556 =>
  D_X5_among_109  k22 h l0 l1 l2 x2556 s0 l5
set_option maxRecDepth 100000 in
set_option maxHeartbeats 4000000 in
theorem S_X5_among_75 {G : z_G} {l : Launch} {k22 : z_H → Option Nat → Nat → Int32 → Int32 → Int32 → Int32 → Option (Int32 × z_H)} (hk22 : ∀ {h : z_H} {l0 : Option Nat} {l1 : Nat} {l2 : Int32} {l3 : Int32} {l4 : Int32} {l5 : Int32} {res : (Int32 × z_H)}, k22 h l0 l1 l2 l3 l4 l5 = some res → z_Run G l 9 M_X5_among 22 [(0, z_r l0), (1, .retAddr l1), (2, .int l2), (3, .int l3), (4, .int l4), (5, .int l5)] [] h res.2 (some (.int res.1))) {h : z_H} {l0 : Option Nat} {l1 : Nat} {l2 : Int32} {l3 : Int32} {l5 : Int32} {s0 : Int32} {res : (Int32 × z_H)} (e : D_X5_among_75 k22 h l0 l1 l2 l3 l5 s0 = some res) : z_Run G l 9 M_X5_among 75 [(0, z_r l0), (1, .retAddr l1), (2, .int l2), (3, .int l3), (5, .int l5)] [.int s0] h res.2 (some (.int res.1)) := by
  unfold D_X5_among_75 at e
  refine z_istore (L' := [(4, .int s0), (0, z_r l0), (1, .retAddr l1), (2, .int l2), (3, .int l3), (5, .int l5)]) dX5_among_75 (by decide) rfl ?_
  replace e := z_bd e; obtain ⟨x2556, ex2556, e⟩ := e
  refine z_iinc (q := 4) (v := x2556) (L' := [(3, .int x2556), (4, .int s0), (0, z_r l0), (1, .retAddr l1), (2, .int l2), (5, .int l5)]) dX5_among_77 rfl (Option.some.inj ex2556) (by decide) rfl ?_
  refine z_goto (tgt := 109) dX5_among_80 (by decide) ?_
  exact z_weak [2, 3, 4, 0, 1, 5] rfl (S_X5_among_109  @hk22 e)
def D_X5_among_74 (k22 : z_H → Option Nat → Nat → Int32 → Int32 → Int32 → Int32 → Option (Int32 × z_H)) (h : z_H) (l0 : Option Nat) (l1 : Nat) (l2 : Int32) (l3 : Int32) (l5 : Int32) : Option (Int32 × z_H) :=
  D_X5_among_75  k22 h l0 l1 l2 l3 l5 (0:Int32)
set_option maxRecDepth 100000 in
set_option maxHeartbeats 4000000 in
theorem S_X5_among_74 {G : z_G} {l : Launch} {k22 : z_H → Option Nat → Nat → Int32 → Int32 → Int32 → Int32 → Option (Int32 × z_H)} (hk22 : ∀ {h : z_H} {l0 : Option Nat} {l1 : Nat} {l2 : Int32} {l3 : Int32} {l4 : Int32} {l5 : Int32} {res : (Int32 × z_H)}, k22 h l0 l1 l2 l3 l4 l5 = some res → z_Run G l 9 M_X5_among 22 [(0, z_r l0), (1, .retAddr l1), (2, .int l2), (3, .int l3), (4, .int l4), (5, .int l5)] [] h res.2 (some (.int res.1))) {h : z_H} {l0 : Option Nat} {l1 : Nat} {l2 : Int32} {l3 : Int32} {l5 : Int32} {res : (Int32 × z_H)} (e : D_X5_among_74 k22 h l0 l1 l2 l3 l5 = some res) : z_Run G l 9 M_X5_among 74 [(0, z_r l0), (1, .retAddr l1), (2, .int l2), (3, .int l3), (5, .int l5)] [] h res.2 (some (.int res.1)) := by
  unfold D_X5_among_74 at e
  refine z_iconst (v := 0) dX5_among_74 (by decide) ?_
  exact z_weak [0, 1, 2, 3, 4] rfl (S_X5_among_75  @hk22 e)
def D_X5_among_22b (k22 : z_H → Option Nat → Nat → Int32 → Int32 → Int32 → Int32 → Option (Int32 × z_H)) (h : z_H) (l0 : Option Nat) (l1 : Nat) (l2 : Int32) (l3 : Int32) (l4 : Int32) (l5 : Int32) : Option (Int32 × z_H) :=
  (D_J0_length_8abf5  h l1).bind fun p2557 =>
  if p2557.1 ≤ l5 then
    if l4 = 0 then
      some ((-1:Int32), p2557.2)
    else
      (z_gI 5 p2557.2 l0 6).bind fun x2560 =>
      if l3 = x2560 then
        some (l2, p2557.2)
      else
        some ((-1:Int32), p2557.2)
  else
    (D_J0_charAt_5068e  p2557.2 l1 l5).bind fun p2562 =>
    if p2562.1 = (32:Int32) then
      if l4 = 0 then
        D_X5_among_98  k22 p2562.2 l0 l1 l2 l5
      else
        (z_gI 5 p2562.2 l0 6).bind fun x2565 =>
        if l3 = x2565 then
          some (l2, p2562.2)
        else
          D_X5_among_98  k22 p2562.2 l0 l1 l2 l5
    else
      if l4 = 0 then
        D_X5_among_74  k22 p2562.2 l0 l1 l2 l3 l5
      else
        (z_gI 5 p2562.2 l0 6).bind fun x2568 =>
        if x2568 ≤ l3 then
          D_X5_among_74  k22 p2562.2 l0 l1 l2 l3 l5
        else
          (z_gQ 5 p2562.2 l0 0).bind fun x2570 =>
          (z_aI .int p2562.2 x2570 l3).bind fun x2571 =>
          (D_J0_charAt_5068e  p2562.2 l1 l5).bind fun p2572 =>
          if x2571 = p2572.1 then
            D_X5_among_75  k22 p2572.2 l0 l1 l2 l3 l5 (1:Int32)
          else
            D_X5_among_74  k22 p2572.2 l0 l1 l2 l3 l5
def D_X5_among_22 (n : Nat) : z_H → Option Nat → Nat → Int32 → Int32 → Int32 → Int32 → Option (Int32 × z_H) := Nat.rec (motive := fun _ => z_H → Option Nat → Nat → Int32 → Int32 → Int32 → Int32 → Option (Int32 × z_H)) (fun _ _ _ _ _ _ _ => none) (fun _ k => D_X5_among_22b  k) n
set_option maxRecDepth 100000 in
set_option maxHeartbeats 4000000 in
theorem S_X5_among_22 {G : z_G} {l : Launch}  (n : Nat) : ∀ {h : z_H} {l0 : Option Nat} {l1 : Nat} {l2 : Int32} {l3 : Int32} {l4 : Int32} {l5 : Int32} {res : (Int32 × z_H)}, D_X5_among_22  n h l0 l1 l2 l3 l4 l5 = some res → z_Run G l 9 M_X5_among 22 [(0, z_r l0), (1, .retAddr l1), (2, .int l2), (3, .int l3), (4, .int l4), (5, .int l5)] [] h res.2 (some (.int res.1)) := by
  induction n with
  | zero => intro h l0 l1 l2 l3 l4 l5 res e; cases e
  | succ n hk22 =>
    intro h l0 l1 l2 l3 l4 l5 res e
    replace e : D_X5_among_22b  (D_X5_among_22  n) h l0 l1 l2 l3 l4 l5 = some res := e
    unfold D_X5_among_22b at e
    refine z_iload 5 dX5_among_22 rfl ?_
    refine z_xload_n 1 dX5_among_24 rfl ?_
    replace e := z_bd e; obtain ⟨p2557, ep2557, e⟩ := e
    refine z_cX [] (S_J0_length_8abf5  ep2557) (z_x_J0_length_8abf5 ep2557) ml_X5_81 ck_J0_length_8abf5 vk_J0_length_8abf5 rfl dX5_among_25 (by decide) rfl (by simp [z_ci, z_cj, z_cr, z_cx]) rfl ?_
    refine z_icmp_ge (tgt := 115) dX5_among_28 (by decide) (fun c2558 => ?_) (fun c2558 => ?_)
    · rw [if_pos c2558] at e
      refine z_iload 4 dX5_among_115 rfl ?_
      refine z_if_eq (tgt := 132) dX5_among_117 (by decide) (fun c2559 => ?_) (fun c2559 => ?_)
      · rw [if_pos c2559] at e
        refine z_iconst (v := -1) dX5_among_132 (by decide) ?_
        cases e
        exact z_iret dX5_among_133 rfl
      · rw [if_neg c2559] at e
        refine z_iload_n 3 dX5_among_120 rfl ?_
        refine z_aload_n 0 dX5_among_121 rfl ?_
        replace e := z_bd e; obtain ⟨x2560, ex2560, e⟩ := e
        refine z_getI ex2560 lk_X5_38 dX5_among_122 ?_
        refine z_icmp_ne (tgt := 132) dX5_among_125 (by decide) (fun c2561 => ?_) (fun c2561 => ?_)
        · rw [if_neg c2561] at e
          refine z_iconst (v := -1) dX5_among_132 (by decide) ?_
          cases e
          exact z_iret dX5_among_133 rfl
        · rw [if_pos c2561] at e
          refine z_iload_n 2 dX5_among_128 rfl ?_
          refine z_goto (tgt := 133) dX5_among_129 (by decide) ?_
          cases e
          exact z_iret dX5_among_133 rfl
    · rw [if_neg c2558] at e
      refine z_xload_n 1 dX5_among_31 rfl ?_
      refine z_iload 5 dX5_among_32 rfl ?_
      replace e := z_bd e; obtain ⟨p2562, ep2562, e⟩ := e
      refine z_cX [.int l5] (S_J0_charAt_5068e  ep2562) (z_x_J0_charAt_5068e ep2562) ml_X5_86 ck_J0_charAt_5068e vk_J0_charAt_5068e rfl dX5_among_34 (by decide) rfl (Nat.zero_le _) rfl ?_
      refine z_bipush (v := 32) dX5_among_37 (by decide) ?_
      refine z_icmp_eq (tgt := 83) dX5_among_39 (by decide) (fun c2563 => ?_) (fun c2563 => ?_)
      · rw [if_pos c2563] at e
        refine z_iload 4 dX5_among_83 rfl ?_
        refine z_if_eq (tgt := 98) dX5_among_85 (by decide) (fun c2564 => ?_) (fun c2564 => ?_)
        · rw [if_pos c2564] at e
          exact z_weak [0, 1, 2, 5] rfl (S_X5_among_98  @hk22 e)
        · rw [if_neg c2564] at e
          refine z_iload_n 3 dX5_among_88 rfl ?_
          refine z_aload_n 0 dX5_among_89 rfl ?_
          replace e := z_bd e; obtain ⟨x2565, ex2565, e⟩ := e
          refine z_getI ex2565 lk_X5_38 dX5_among_90 ?_
          refine z_icmp_ne (tgt := 98) dX5_among_93 (by decide) (fun c2566 => ?_) (fun c2566 => ?_)
          · rw [if_neg c2566] at e
            exact z_weak [0, 1, 2, 5] rfl (S_X5_among_98  @hk22 e)
          · rw [if_pos c2566] at e
            refine z_iload_n 2 dX5_among_96 rfl ?_
            cases e
            exact z_iret dX5_among_97 rfl
      · rw [if_neg c2563] at e
        refine z_iload 4 dX5_among_42 rfl ?_
        refine z_if_eq (tgt := 74) dX5_among_44 (by decide) (fun c2567 => ?_) (fun c2567 => ?_)
        · rw [if_pos c2567] at e
          exact z_weak [0, 1, 2, 3, 5] rfl (S_X5_among_74  @hk22 e)
        · rw [if_neg c2567] at e
          refine z_iload_n 3 dX5_among_47 rfl ?_
          refine z_aload_n 0 dX5_among_48 rfl ?_
          replace e := z_bd e; obtain ⟨x2568, ex2568, e⟩ := e
          refine z_getI ex2568 lk_X5_38 dX5_among_49 ?_
          refine z_icmp_ge (tgt := 74) dX5_among_52 (by decide) (fun c2569 => ?_) (fun c2569 => ?_)
          · rw [if_pos c2569] at e
            exact z_weak [0, 1, 2, 3, 5] rfl (S_X5_among_74  @hk22 e)
          · rw [if_neg c2569] at e
            refine z_aload_n 0 dX5_among_55 rfl ?_
            replace e := z_bd e; obtain ⟨x2570, ex2570, e⟩ := e
            refine z_getQ ex2570 lk_X5_9 dX5_among_56 ?_
            refine z_iload_n 3 dX5_among_59 rfl ?_
            replace e := z_bd e; obtain ⟨x2571, ex2571, e⟩ := e
            refine z_iald ex2571 dX5_among_60 ?_
            refine z_xload_n 1 dX5_among_61 rfl ?_
            refine z_iload 5 dX5_among_62 rfl ?_
            replace e := z_bd e; obtain ⟨p2572, ep2572, e⟩ := e
            refine z_cX [.int l5] (S_J0_charAt_5068e  ep2572) (z_x_J0_charAt_5068e ep2572) ml_X5_86 ck_J0_charAt_5068e vk_J0_charAt_5068e rfl dX5_among_64 (by decide) rfl (by simp [z_ci, z_cj, z_cr, z_cx]) rfl ?_
            refine z_icmp_ne (tgt := 74) dX5_among_67 (by decide) (fun c2573 => ?_) (fun c2573 => ?_)
            · rw [if_neg c2573] at e
              exact z_weak [0, 1, 2, 3, 5] rfl (S_X5_among_74  @hk22 e)
            · rw [if_pos c2573] at e
              refine z_iconst (v := 1) dX5_among_70 (by decide) ?_
              refine z_goto (tgt := 75) dX5_among_71 (by decide) ?_
              exact z_weak [0, 1, 2, 3, 5] rfl (S_X5_among_75  @hk22 e)
def D_X5_among (h : z_H) (l0 : Option Nat) (l1 : Nat) : Option (Int32 × z_H) :=
  (z_gI 5 h l0 7).bind fun x2574 =>
  if x2574 = 0 then
    (z_gI 5 h l0 5).bind fun x2576 =>
    D_X5_among_22   z_F h l0 l1 (0:Int32) x2576 (1:Int32) (0:Int32)
  else
    some ((-1:Int32), h)
set_option maxRecDepth 100000 in
set_option maxHeartbeats 4000000 in
theorem S_X5_among {G : z_G} {l : Launch} {h : z_H} {l0 : Option Nat} {l1 : Nat} {res : (Int32 × z_H)} (e : D_X5_among h l0 l1 = some res) : z_Meth G l 9 M_X5_among [z_r l0, .retAddr l1] h res.2 (some (.int res.1)) := by
  refine z_Meth.of ck_X5_among.2.2.2.2 (by simp [lg_sl, z_ci, z_cj, z_cr, z_cx]) ck_X5_among.1 ?_
  rw [show lv_args 0 [z_r l0, .retAddr l1] = [(0, z_r l0), (1, .retAddr l1)] from by simp [lv_args, z_ci, z_cj, z_cr, z_cx]]
  unfold D_X5_among at e
  refine z_aload_n 0 dX5_among_0 rfl ?_
  replace e := z_bd e; obtain ⟨x2574, ex2574, e⟩ := e
  refine z_getI ex2574 lk_X5_41 dX5_among_1 ?_
  refine z_if_eq (tgt := 9) dX5_among_4 (by decide) (fun c2575 => ?_) (fun c2575 => ?_)
  · rw [if_pos c2575] at e
    refine z_iconst (v := 0) dX5_among_9 (by decide) ?_
    refine z_istore_n (L' := [(2, .int (0:Int32)), (0, z_r l0), (1, .retAddr l1)]) dX5_among_10 rfl (by decide) rfl ?_
    refine z_aload_n 1 dX5_among_11 rfl ?_
    replace e := z_bd e; obtain ⟨x2576, ex2576, e⟩ := e
    refine z_getI ex2576 lk_X5_35 dX5_among_12 ?_
    refine z_istore_n (L' := [(3, .int x2576), (2, .int (0:Int32)), (0, z_r l0), (1, .retAddr l1)]) dX5_among_15 rfl (by decide) rfl ?_
    refine z_iconst (v := 1) dX5_among_16 (by decide) ?_
    refine z_istore (L' := [(4, .int (1:Int32)), (3, .int x2576), (2, .int (0:Int32)), (0, z_r l0), (1, .retAddr l1)]) dX5_among_17 (by decide) rfl ?_
    refine z_iconst (v := 0) dX5_among_19 (by decide) ?_
    refine z_istore (L' := [(5, .int (0:Int32)), (4, .int (1:Int32)), (3, .int x2576), (2, .int (0:Int32)), (0, z_r l0), (1, .retAddr l1)]) dX5_among_20 (by decide) rfl ?_
    exact z_weak [4, 5, 3, 2, 1, 0] rfl (S_X5_among_22   z_F e)
  · rw [if_neg c2575] at e
    refine z_iconst (v := -1) dX5_among_7 (by decide) ?_
    cases e
    exact z_iret dX5_among_8 rfl
theorem dX5_failHere_0 : decode cX5_failHere 0 = .ok (.aload_n 0, 1) := by decide +kernel
theorem dX5_failHere_1 : decode cX5_failHere 1 = .ok (.aload_n 0, 1) := by decide +kernel
theorem dX5_failHere_2 : decode cX5_failHere 2 = .ok (.getfield 35, 3) := by decide +kernel
theorem dX5_failHere_5 : decode cX5_failHere 5 = .ok (.putfield 28, 3) := by decide +kernel
theorem dX5_failHere_8 : decode cX5_failHere 8 = .ok (.iconst 0, 1) := by decide +kernel
theorem dX5_failHere_9 : decode cX5_failHere 9 = .ok (.ireturn, 1) := by decide +kernel
def D_X5_failHere (h : z_H) (l0 : Option Nat) : Option (Int32 × z_H) :=
  (z_gI 5 h l0 5).bind fun x2577 =>
  (z_pV 5 h l0 3 (.int x2577)).bind fun h2578 =>
  some ((0:Int32), h2578)
set_option maxRecDepth 100000 in
set_option maxHeartbeats 4000000 in
theorem S_X5_failHere {G : z_G} {l : Launch} {h : z_H} {l0 : Option Nat} {res : (Int32 × z_H)} (e : D_X5_failHere h l0 = some res) : z_Meth G l 4 M_X5_failHere [z_r l0] h res.2 (some (.int res.1)) := by
  refine z_Meth.of ck_X5_failHere.2.2.2.2 (by simp [lg_sl, z_ci, z_cj, z_cr, z_cx]) ck_X5_failHere.1 ?_
  rw [show lv_args 0 [z_r l0] = [(0, z_r l0)] from by simp [lv_args, z_ci, z_cj, z_cr, z_cx]]
  unfold D_X5_failHere at e
  refine z_aload_n 0 dX5_failHere_0 rfl ?_
  refine z_aload_n 0 dX5_failHere_1 rfl ?_
  replace e := z_bd e; obtain ⟨x2577, ex2577, e⟩ := e
  refine z_getI ex2577 lk_X5_35 dX5_failHere_2 ?_
  replace e := z_bd e; obtain ⟨h2578, eh2578, e⟩ := e
  refine z_putV eh2578 lk_X5_28 wk_5_3 (fun _ => rfl) (fun _ => rfl) dX5_failHere_5 ?_
  refine z_iconst (v := 0) dX5_failHere_8 (by decide) ?_
  cases e
  exact z_zret dX5_failHere_9 rfl (by decide)
theorem dX7_set_0 : decode cX7_set 0 = .ok (.aload_n 0, 1) := by decide +kernel
theorem dX7_set_1 : decode cX7_set 1 = .ok (.getfield 23, 3) := by decide +kernel
theorem dX7_set_4 : decode cX7_set 4 = .ok (.iload_n 1, 1) := by decide +kernel
theorem dX7_set_5 : decode cX7_set 5 = .ok (.bipush 6, 2) := by decide +kernel
theorem dX7_set_7 : decode cX7_set 7 = .ok (.imul, 1) := by decide +kernel
theorem dX7_set_8 : decode cX7_set 8 = .ok (.iload_n 2, 1) := by decide +kernel
theorem dX7_set_9 : decode cX7_set 9 = .ok (.iadd, 1) := by decide +kernel
theorem dX7_set_10 : decode cX7_set 10 = .ok (.iload_n 3, 1) := by decide +kernel
theorem dX7_set_11 : decode cX7_set 11 = .ok (.iastore, 1) := by decide +kernel
theorem dX7_set_12 : decode cX7_set 12 = .ok (.return_, 1) := by decide +kernel
def D_X7_set (h : z_H) (l0 : Option Nat) (l1 : Int32) (l2 : Int32) (l3 : Int32) : Option z_H :=
  (z_gQ 7 h l0 2).bind fun x2579 =>
  (z_sI h x2579 ((l1 * (6:Int32)) + l2) l3).bind fun h2580 =>
  some h2580
set_option maxRecDepth 100000 in
set_option maxHeartbeats 4000000 in
theorem S_X7_set {G : z_G} {l : Launch} {h : z_H} {l0 : Option Nat} {l1 : Int32} {l2 : Int32} {l3 : Int32} {res : z_H} (e : D_X7_set h l0 l1 l2 l3 = some res) : z_Meth G l 4 M_X7_set [z_r l0, .int l1, .int l2, .int l3] h res none := by
  refine z_Meth.of ck_X7_set.2.2.2.2 (by simp [lg_sl, z_ci, z_cj, z_cr, z_cx]) ck_X7_set.1 ?_
  rw [show lv_args 0 [z_r l0, .int l1, .int l2, .int l3] = [(0, z_r l0), (1, .int l1), (2, .int l2), (3, .int l3)] from by simp [lv_args, z_ci, z_cj, z_cr, z_cx]]
  unfold D_X7_set at e
  refine z_aload_n 0 dX7_set_0 rfl ?_
  replace e := z_bd e; obtain ⟨x2579, ex2579, e⟩ := e
  refine z_getQ ex2579 lk_X7_23 dX7_set_1 ?_
  refine z_iload_n 1 dX7_set_4 rfl ?_
  refine z_bipush (v := 6) dX7_set_5 (by decide) ?_
  refine z_imul dX7_set_7 ?_
  refine z_iload_n 2 dX7_set_8 rfl ?_
  refine z_iadd dX7_set_9 ?_
  refine z_iload_n 3 dX7_set_10 rfl ?_
  replace e := z_bd e; obtain ⟨h2580, eh2580, e⟩ := e
  refine z_iast eh2580 dX7_set_11 ?_
  cases e
  exact z_vret dX7_set_12 rfl
theorem dX5_isSign_0 : decode cX5_isSign 0 = .ok (.aload_n 0, 1) := by decide +kernel
theorem dX5_isSign_1 : decode cX5_isSign 1 = .ok (.getfield 41, 3) := by decide +kernel
theorem dX5_isSign_4 : decode cX5_isSign 4 = .ok (.iconst 2, 1) := by decide +kernel
theorem dX5_isSign_5 : decode cX5_isSign 5 = .ok (.if_icmp .ne 20, 3) := by decide +kernel
theorem dX5_isSign_8 : decode cX5_isSign 8 = .ok (.aload_n 0, 1) := by decide +kernel
theorem dX5_isSign_9 : decode cX5_isSign 9 = .ok (.getfield 9, 3) := by decide +kernel
theorem dX5_isSign_12 : decode cX5_isSign 12 = .ok (.aload_n 0, 1) := by decide +kernel
theorem dX5_isSign_13 : decode cX5_isSign 13 = .ok (.getfield 35, 3) := by decide +kernel
theorem dX5_isSign_16 : decode cX5_isSign 16 = .ok (.iaload, 1) := by decide +kernel
theorem dX5_isSign_17 : decode cX5_isSign 17 = .ok (.iload_n 1, 1) := by decide +kernel
theorem dX5_isSign_18 : decode cX5_isSign 18 = .ok (.if_icmp .ne 7, 3) := by decide +kernel
theorem dX5_isSign_21 : decode cX5_isSign 21 = .ok (.iconst 1, 1) := by decide +kernel
theorem dX5_isSign_22 : decode cX5_isSign 22 = .ok (.goto 4, 3) := by decide +kernel
theorem dX5_isSign_25 : decode cX5_isSign 25 = .ok (.iconst 0, 1) := by decide +kernel
theorem dX5_isSign_26 : decode cX5_isSign 26 = .ok (.ireturn, 1) := by decide +kernel
def D_X5_isSign (h : z_H) (l0 : Option Nat) (l1 : Int32) : Option (Int32 × z_H) :=
  (z_gI 5 h l0 7).bind fun x2581 =>
  if x2581 = (2:Int32) then
    (z_gQ 5 h l0 0).bind fun x2583 =>
    (z_gI 5 h l0 5).bind fun x2584 =>
    (z_aI .int h x2583 x2584).bind fun x2585 =>
    if x2585 = l1 then
      some ((1:Int32), h)
    else
      some ((0:Int32), h)
  else
    some ((0:Int32), h)
set_option maxRecDepth 100000 in
set_option maxHeartbeats 4000000 in
theorem S_X5_isSign {G : z_G} {l : Launch} {h : z_H} {l0 : Option Nat} {l1 : Int32} {res : (Int32 × z_H)} (e : D_X5_isSign h l0 l1 = some res) : z_Meth G l 4 M_X5_isSign [z_r l0, .int l1] h res.2 (some (.int res.1)) := by
  refine z_Meth.of ck_X5_isSign.2.2.2.2 (by simp [lg_sl, z_ci, z_cj, z_cr, z_cx]) ck_X5_isSign.1 ?_
  rw [show lv_args 0 [z_r l0, .int l1] = [(0, z_r l0), (1, .int l1)] from by simp [lv_args, z_ci, z_cj, z_cr, z_cx]]
  unfold D_X5_isSign at e
  refine z_aload_n 0 dX5_isSign_0 rfl ?_
  replace e := z_bd e; obtain ⟨x2581, ex2581, e⟩ := e
  refine z_getI ex2581 lk_X5_41 dX5_isSign_1 ?_
  refine z_iconst (v := 2) dX5_isSign_4 (by decide) ?_
  refine z_icmp_ne (tgt := 25) dX5_isSign_5 (by decide) (fun c2582 => ?_) (fun c2582 => ?_)
  · rw [if_neg c2582] at e
    refine z_iconst (v := 0) dX5_isSign_25 (by decide) ?_
    cases e
    exact z_zret dX5_isSign_26 rfl (by decide)
  · rw [if_pos c2582] at e
    refine z_aload_n 0 dX5_isSign_8 rfl ?_
    replace e := z_bd e; obtain ⟨x2583, ex2583, e⟩ := e
    refine z_getQ ex2583 lk_X5_9 dX5_isSign_9 ?_
    refine z_aload_n 0 dX5_isSign_12 rfl ?_
    replace e := z_bd e; obtain ⟨x2584, ex2584, e⟩ := e
    refine z_getI ex2584 lk_X5_35 dX5_isSign_13 ?_
    replace e := z_bd e; obtain ⟨x2585, ex2585, e⟩ := e
    refine z_iald ex2585 dX5_isSign_16 ?_
    refine z_iload_n 1 dX5_isSign_17 rfl ?_
    refine z_icmp_ne (tgt := 25) dX5_isSign_18 (by decide) (fun c2586 => ?_) (fun c2586 => ?_)
    · rw [if_neg c2586] at e
      refine z_iconst (v := 0) dX5_isSign_25 (by decide) ?_
      cases e
      exact z_zret dX5_isSign_26 rfl (by decide)
    · rw [if_pos c2586] at e
      refine z_iconst (v := 1) dX5_isSign_21 (by decide) ?_
      refine z_goto (tgt := 26) dX5_isSign_22 (by decide) ?_
      cases e
      exact z_zret dX5_isSign_26 rfl (by decide)
theorem dX5_skipSign_0 : decode cX5_skipSign 0 = .ok (.aload_n 0, 1) := by decide +kernel
theorem dX5_skipSign_1 : decode cX5_skipSign 1 = .ok (.iload_n 1, 1) := by decide +kernel
theorem dX5_skipSign_2 : decode cX5_skipSign 2 = .ok (.invokevirtual 94, 3) := by decide +kernel
theorem dX5_skipSign_5 : decode cX5_skipSign 5 = .ok (.ifCond .ne 8, 3) := by decide +kernel
theorem dX5_skipSign_8 : decode cX5_skipSign 8 = .ok (.aload_n 0, 1) := by decide +kernel
theorem dX5_skipSign_9 : decode cX5_skipSign 9 = .ok (.invokevirtual 67, 3) := by decide +kernel
theorem dX5_skipSign_12 : decode cX5_skipSign 12 = .ok (.ireturn, 1) := by decide +kernel
theorem dX5_skipSign_13 : decode cX5_skipSign 13 = .ok (.aload_n 0, 1) := by decide +kernel
theorem dX5_skipSign_14 : decode cX5_skipSign 14 = .ok (.invokevirtual 53, 3) := by decide +kernel
theorem dX5_skipSign_17 : decode cX5_skipSign 17 = .ok (.iconst 1, 1) := by decide +kernel
theorem dX5_skipSign_18 : decode cX5_skipSign 18 = .ok (.ireturn, 1) := by decide +kernel
def D_X5_skipSign (h : z_H) (l0 : Option Nat) (l1 : Int32) : Option (Int32 × z_H) :=
  (z_ob 5 h l0).bind fun _ =>
  (D_X5_isSign  h l0 l1).bind fun p2587 =>
  if p2587.1 = 0 then
    (z_ob 5 p2587.2 l0).bind fun _ =>
    (D_X5_failHere  p2587.2 l0).bind fun p2592 =>
    if p2592.1 = 0 ∨ p2592.1 = 1 then some (p2592.1, p2592.2) else none
  else
    (z_ob 5 p2587.2 l0).bind fun _ =>
    (D_X5_advance  p2587.2 l0).bind fun p2590 =>
    some ((1:Int32), p2590)
set_option maxRecDepth 100000 in
set_option maxHeartbeats 4000000 in
theorem S_X5_skipSign {G : z_G} {l : Launch} {h : z_H} {l0 : Option Nat} {l1 : Int32} {res : (Int32 × z_H)} (e : D_X5_skipSign h l0 l1 = some res) : z_Meth G l 6 M_X5_skipSign [z_r l0, .int l1] h res.2 (some (.int res.1)) := by
  refine z_Meth.of ck_X5_skipSign.2.2.2.2 (by simp [lg_sl, z_ci, z_cj, z_cr, z_cx]) ck_X5_skipSign.1 ?_
  rw [show lv_args 0 [z_r l0, .int l1] = [(0, z_r l0), (1, .int l1)] from by simp [lv_args, z_ci, z_cj, z_cr, z_cx]]
  unfold D_X5_skipSign at e
  refine z_aload_n 0 dX5_skipSign_0 rfl ?_
  refine z_iload_n 1 dX5_skipSign_1 rfl ?_
  replace e := z_bd e; obtain ⟨o2588, eo2588, e⟩ := e
  replace e := z_bd e; obtain ⟨p2587, ep2587, e⟩ := e
  refine z_cV [.int l1] (S_X5_isSign  ep2587) eo2588 rfl ml_X5_94 ck_X5_isSign vk_X5_isSign dX5_skipSign_2 (by decide) rfl (Nat.zero_le _) rfl ?_
  refine z_if_ne (tgt := 13) dX5_skipSign_5 (by decide) (fun c2589 => ?_) (fun c2589 => ?_)
  · rw [if_neg c2589] at e
    refine z_aload_n 0 dX5_skipSign_13 rfl ?_
    replace e := z_bd e; obtain ⟨o2591, eo2591, e⟩ := e
    replace e := z_bd e; obtain ⟨p2590, ep2590, e⟩ := e
    refine z_cV [] (S_X5_advance  ep2590) eo2591 rfl ml_X5_53 ck_X5_advance vk_X5_advance dX5_skipSign_14 (by decide) rfl (Nat.zero_le _) rfl ?_
    refine z_iconst (v := 1) dX5_skipSign_17 (by decide) ?_
    cases e
    exact z_zret dX5_skipSign_18 rfl (by decide)
  · rw [if_pos c2589] at e
    refine z_aload_n 0 dX5_skipSign_8 rfl ?_
    replace e := z_bd e; obtain ⟨o2593, eo2593, e⟩ := e
    replace e := z_bd e; obtain ⟨p2592, ep2592, e⟩ := e
    refine z_cV [] (S_X5_failHere  ep2592) eo2593 rfl ml_X5_67 ck_X5_failHere vk_X5_failHere dX5_skipSign_9 (by decide) rfl (Nat.zero_le _) rfl ?_
    replace e := z_ifs e; obtain ⟨c2594, e⟩ := e
    cases e
    exact z_zret dX5_skipSign_12 rfl (z_nz c2594).1
theorem dX7_emit_0 : decode cX7_emit 0 = .ok (.aload_n 0, 1) := by decide +kernel
theorem dX7_emit_1 : decode cX7_emit 1 = .ok (.getfield 7, 3) := by decide +kernel
theorem dX7_emit_4 : decode cX7_emit 4 = .ok (.aload_n 0, 1) := by decide +kernel
theorem dX7_emit_5 : decode cX7_emit 5 = .ok (.getfield 16, 3) := by decide +kernel
theorem dX7_emit_8 : decode cX7_emit 8 = .ok (.arraylength, 1) := by decide +kernel
theorem dX7_emit_9 : decode cX7_emit 9 = .ok (.if_icmp .ge 33, 3) := by decide +kernel
theorem dX7_emit_12 : decode cX7_emit 12 = .ok (.aload_n 0, 1) := by decide +kernel
theorem dX7_emit_13 : decode cX7_emit 13 = .ok (.getfield 16, 3) := by decide +kernel
theorem dX7_emit_16 : decode cX7_emit 16 = .ok (.aload_n 0, 1) := by decide +kernel
theorem dX7_emit_17 : decode cX7_emit 17 = .ok (.getfield 7, 3) := by decide +kernel
theorem dX7_emit_20 : decode cX7_emit 20 = .ok (.iload_n 1, 1) := by decide +kernel
theorem dX7_emit_21 : decode cX7_emit 21 = .ok (.iastore, 1) := by decide +kernel
theorem dX7_emit_22 : decode cX7_emit 22 = .ok (.aload_n 0, 1) := by decide +kernel
theorem dX7_emit_23 : decode cX7_emit 23 = .ok (.getfield 20, 3) := by decide +kernel
theorem dX7_emit_26 : decode cX7_emit 26 = .ok (.aload_n 0, 1) := by decide +kernel
theorem dX7_emit_27 : decode cX7_emit 27 = .ok (.getfield 7, 3) := by decide +kernel
theorem dX7_emit_30 : decode cX7_emit 30 = .ok (.iload_n 2, 1) := by decide +kernel
theorem dX7_emit_31 : decode cX7_emit 31 = .ok (.iastore, 1) := by decide +kernel
theorem dX7_emit_32 : decode cX7_emit 32 = .ok (.aload_n 0, 1) := by decide +kernel
theorem dX7_emit_33 : decode cX7_emit 33 = .ok (.dup, 1) := by decide +kernel
theorem dX7_emit_34 : decode cX7_emit 34 = .ok (.getfield 7, 3) := by decide +kernel
theorem dX7_emit_37 : decode cX7_emit 37 = .ok (.iconst 1, 1) := by decide +kernel
theorem dX7_emit_38 : decode cX7_emit 38 = .ok (.iadd, 1) := by decide +kernel
theorem dX7_emit_39 : decode cX7_emit 39 = .ok (.putfield 7, 3) := by decide +kernel
theorem dX7_emit_42 : decode cX7_emit 42 = .ok (.return_, 1) := by decide +kernel
def D_X7_emit (h : z_H) (l0 : Option Nat) (l1 : Int32) (l2 : Int32) : Option z_H :=
  (z_gI 7 h l0 3).bind fun x2595 =>
  (z_gQ 7 h l0 0).bind fun x2596 =>
  (z_lI h x2596).bind fun x2597 =>
  if x2597 ≤ x2595 then
    some h
  else
    (z_gQ 7 h l0 0).bind fun x2599 =>
    (z_gI 7 h l0 3).bind fun x2600 =>
    (z_sI h x2599 x2600 l1).bind fun h2601 =>
    (z_gQ 7 h2601 l0 1).bind fun x2602 =>
    (z_gI 7 h2601 l0 3).bind fun x2603 =>
    (z_sI h2601 x2602 x2603 l2).bind fun h2604 =>
    (z_gI 7 h2604 l0 3).bind fun x2605 =>
    (z_pV 7 h2604 l0 3 (.int (x2605 + (1:Int32)))).bind fun h2606 =>
    some h2606
set_option maxRecDepth 100000 in
set_option maxHeartbeats 4000000 in
theorem S_X7_emit {G : z_G} {l : Launch} {h : z_H} {l0 : Option Nat} {l1 : Int32} {l2 : Int32} {res : z_H} (e : D_X7_emit h l0 l1 l2 = some res) : z_Meth G l 4 M_X7_emit [z_r l0, .int l1, .int l2] h res none := by
  refine z_Meth.of ck_X7_emit.2.2.2.2 (by simp [lg_sl, z_ci, z_cj, z_cr, z_cx]) ck_X7_emit.1 ?_
  rw [show lv_args 0 [z_r l0, .int l1, .int l2] = [(0, z_r l0), (1, .int l1), (2, .int l2)] from by simp [lv_args, z_ci, z_cj, z_cr, z_cx]]
  unfold D_X7_emit at e
  refine z_aload_n 0 dX7_emit_0 rfl ?_
  replace e := z_bd e; obtain ⟨x2595, ex2595, e⟩ := e
  refine z_getI ex2595 lk_X7_7 dX7_emit_1 ?_
  refine z_aload_n 0 dX7_emit_4 rfl ?_
  replace e := z_bd e; obtain ⟨x2596, ex2596, e⟩ := e
  refine z_getQ ex2596 lk_X7_16 dX7_emit_5 ?_
  replace e := z_bd e; obtain ⟨x2597, ex2597, e⟩ := e
  refine z_alenI ex2597 dX7_emit_8 ?_
  refine z_icmp_ge (tgt := 42) dX7_emit_9 (by decide) (fun c2598 => ?_) (fun c2598 => ?_)
  · rw [if_pos c2598] at e
    cases e
    exact z_vret dX7_emit_42 rfl
  · rw [if_neg c2598] at e
    refine z_aload_n 0 dX7_emit_12 rfl ?_
    replace e := z_bd e; obtain ⟨x2599, ex2599, e⟩ := e
    refine z_getQ ex2599 lk_X7_16 dX7_emit_13 ?_
    refine z_aload_n 0 dX7_emit_16 rfl ?_
    replace e := z_bd e; obtain ⟨x2600, ex2600, e⟩ := e
    refine z_getI ex2600 lk_X7_7 dX7_emit_17 ?_
    refine z_iload_n 1 dX7_emit_20 rfl ?_
    replace e := z_bd e; obtain ⟨h2601, eh2601, e⟩ := e
    refine z_iast eh2601 dX7_emit_21 ?_
    refine z_aload_n 0 dX7_emit_22 rfl ?_
    replace e := z_bd e; obtain ⟨x2602, ex2602, e⟩ := e
    refine z_getQ ex2602 lk_X7_20 dX7_emit_23 ?_
    refine z_aload_n 0 dX7_emit_26 rfl ?_
    replace e := z_bd e; obtain ⟨x2603, ex2603, e⟩ := e
    refine z_getI ex2603 lk_X7_7 dX7_emit_27 ?_
    refine z_iload_n 2 dX7_emit_30 rfl ?_
    replace e := z_bd e; obtain ⟨h2604, eh2604, e⟩ := e
    refine z_iast eh2604 dX7_emit_31 ?_
    refine z_aload_n 0 dX7_emit_32 rfl ?_
    refine z_dup dX7_emit_33 (z_cr _) ?_
    replace e := z_bd e; obtain ⟨x2605, ex2605, e⟩ := e
    refine z_getI ex2605 lk_X7_7 dX7_emit_34 ?_
    refine z_iconst (v := 1) dX7_emit_37 (by decide) ?_
    refine z_iadd dX7_emit_38 ?_
    replace e := z_bd e; obtain ⟨h2606, eh2606, e⟩ := e
    refine z_putV eh2606 lk_X7_7 wk_7_3 (fun _ => rfl) (fun _ => rfl) dX7_emit_39 ?_
    cases e
    exact z_vret dX7_emit_42 rfl
