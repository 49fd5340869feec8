theorem dX11_sumOf_0 : decode cX11_sumOf 0 = .ok (.aload_n 0, 1) := by decide +kernel
theorem dX11_sumOf_1 : decode cX11_sumOf 1 = .ok (.getfield 532, 3) := by decide +kernel
theorem dX11_sumOf_4 : decode cX11_sumOf 4 = .ok (.ifCond .ne 20, 3) := by decide +kernel
theorem dX11_sumOf_7 : decode cX11_sumOf 7 = .ok (.aload_n 0, 1) := by decide +kernel
theorem dX11_sumOf_8 : decode cX11_sumOf 8 = .ok (.getfield 154, 3) := by decide +kernel
theorem dX11_sumOf_11 : decode cX11_sumOf 11 = .ok (.iload_n 1, 1) := by decide +kernel
theorem dX11_sumOf_12 : decode cX11_sumOf 12 = .ok (.iaload, 1) := by decide +kernel
theorem dX11_sumOf_13 : decode cX11_sumOf 13 = .ok (.aload_n 0, 1) := by decide +kernel
theorem dX11_sumOf_14 : decode cX11_sumOf 14 = .ok (.getfield 154, 3) := by decide +kernel
theorem dX11_sumOf_17 : decode cX11_sumOf 17 = .ok (.iload_n 1, 1) := by decide +kernel
theorem dX11_sumOf_18 : decode cX11_sumOf 18 = .ok (.iconst 1, 1) := by decide +kernel
theorem dX11_sumOf_19 : decode cX11_sumOf 19 = .ok (.iadd, 1) := by decide +kernel
theorem dX11_sumOf_20 : decode cX11_sumOf 20 = .ok (.iaload, 1) := by decide +kernel
theorem dX11_sumOf_21 : decode cX11_sumOf 21 = .ok (.if_icmp .ne 5, 3) := by decide +kernel
theorem dX11_sumOf_24 : decode cX11_sumOf 24 = .ok (.iconst (-1), 1) := by decide +kernel
theorem dX11_sumOf_25 : decode cX11_sumOf 25 = .ok (.ireturn, 1) := by decide +kernel
theorem dX11_sumOf_26 : decode cX11_sumOf 26 = .ok (.aload_n 0, 1) := by decide +kernel
theorem dX11_sumOf_27 : decode cX11_sumOf 27 = .ok (.iconst 1, 1) := by decide +kernel
theorem dX11_sumOf_28 : decode cX11_sumOf 28 = .ok (.putfield 324, 3) := by decide +kernel
theorem dX11_sumOf_31 : decode cX11_sumOf 31 = .ok (.aload_n 0, 1) := by decide +kernel
theorem dX11_sumOf_32 : decode cX11_sumOf 32 = .ok (.aload_n 0, 1) := by decide +kernel
theorem dX11_sumOf_33 : decode cX11_sumOf 33 = .ok (.getfield 154, 3) := by decide +kernel
theorem dX11_sumOf_36 : decode cX11_sumOf 36 = .ok (.iload_n 1, 1) := by decide +kernel
theorem dX11_sumOf_37 : decode cX11_sumOf 37 = .ok (.iaload, 1) := by decide +kernel
theorem dX11_sumOf_38 : decode cX11_sumOf 38 = .ok (.aload_n 0, 1) := by decide +kernel
theorem dX11_sumOf_39 : decode cX11_sumOf 39 = .ok (.getfield 154, 3) := by decide +kernel
theorem dX11_sumOf_42 : decode cX11_sumOf 42 = .ok (.iload_n 1, 1) := by decide +kernel
theorem dX11_sumOf_43 : decode cX11_sumOf 43 = .ok (.iconst 1, 1) := by decide +kernel
theorem dX11_sumOf_44 : decode cX11_sumOf 44 = .ok (.iadd, 1) := by decide +kernel
theorem dX11_sumOf_45 : decode cX11_sumOf 45 = .ok (.iaload, 1) := by decide +kernel
theorem dX11_sumOf_46 : decode cX11_sumOf 46 = .ok (.invokevirtual 415, 3) := by decide +kernel
theorem dX11_sumOf_49 : decode cX11_sumOf 49 = .ok (.aload_n 0, 1) := by decide +kernel
theorem dX11_sumOf_50 : decode cX11_sumOf 50 = .ok (.iconst 0, 1) := by decide +kernel
theorem dX11_sumOf_51 : decode cX11_sumOf 51 = .ok (.putfield 324, 3) := by decide +kernel
theorem dX11_sumOf_54 : decode cX11_sumOf 54 = .ok (.aload_n 0, 1) := by decide +kernel
theorem dX11_sumOf_55 : decode cX11_sumOf 55 = .ok (.aload_n 0, 1) := by decide +kernel
theorem dX11_sumOf_56 : decode cX11_sumOf 56 = .ok (.getfield 398, 3) := by decide +kernel
theorem dX11_sumOf_59 : decode cX11_sumOf 59 = .ok (.putfield 532, 3) := by decide +kernel
theorem dX11_sumOf_62 : decode cX11_sumOf 62 = .ok (.aload_n 0, 1) := by decide +kernel
theorem dX11_sumOf_63 : decode cX11_sumOf 63 = .ok (.getfield 412, 3) := by decide +kernel
theorem dX11_sumOf_66 : decode cX11_sumOf 66 = .ok (.l2i, 1) := by decide +kernel
theorem dX11_sumOf_67 : decode cX11_sumOf 67 = .ok (.ireturn, 1) := by decide +kernel
def D_X11_sumOf (h : z_H) (l0 : Option Nat) (l1 : Int32) : Option (Int32 × z_H) :=
  (z_gI 11 h l0 55).bind fun x3543 =>
  if x3543 = 0 then
    (z_gQ 11 h l0 51).bind fun x3545 =>
    (z_aI .int h x3545 l1).bind fun x3546 =>
    (z_gQ 11 h l0 51).bind fun x3547 =>
    (z_aI .int h x3547 (l1 + (1:Int32))).bind fun x3548 =>
    if x3546 = x3548 then
      some ((-1:Int32), h)
    else
      (z_pV 11 h l0 20 (.int (1:Int32))).bind fun h3550 =>
      (z_gQ 11 h3550 l0 51).bind fun x3551 =>
      (z_aI .int h3550 x3551 l1).bind fun x3552 =>
      (z_gQ 11 h3550 l0 51).bind fun x3553 =>
      (z_aI .int h3550 x3553 (l1 + (1:Int32))).bind fun x3554 =>
      (z_ob 11 h3550 l0).bind fun _ =>
      (D_X11_reckonAll  h3550 l0 x3552 x3554).bind fun p3555 =>
      (z_pV 11 p3555 l0 20 (.int (0:Int32))).bind fun h3557 =>
      (z_gI 11 h3557 l0 38).bind fun x3558 =>
      if x3558 = 0 ∨ x3558 = 1 then
      (z_pV 11 h3557 l0 55 (.int x3558)).bind fun h3559 =>
      (z_gJ 11 h3559 l0 39).bind fun x3561 =>
      some ((Int64.toInt32 x3561), h3559)
      else none
  else
    some ((-1:Int32), h)
set_option maxRecDepth 100000 in
set_option maxHeartbeats 4000000 in
theorem S_X11_sumOf {G : z_G} {l : Launch} {h : z_H} {l0 : Option Nat} {l1 : Int32} {res : (Int32 × z_H)} (e : D_X11_sumOf h l0 l1 = some res) : z_Meth G l 7 M_X11_sumOf [z_r l0, .int l1] h res.2 (some (.int res.1)) := by
  refine z_Meth.of ck_X11_sumOf.2.2.2.2 (by simp [lg_sl, z_ci, z_cj, z_cr, z_cx]) ck_X11_sumOf.1 ?_
  rw [show lv_args 0 [z_r l0, .int l1] = [(0, z_r l0), (1, .int l1)] from by simp [lv_args, z_ci, z_cj, z_cr, z_cx]]
  unfold D_X11_sumOf at e
  refine z_aload_n 0 dX11_sumOf_0 rfl ?_
  replace e := z_bd e; obtain ⟨x3543, ex3543, e⟩ := e
  refine z_getI ex3543 lk_X11_532 dX11_sumOf_1 ?_
  refine z_if_ne (tgt := 24) dX11_sumOf_4 (by decide) (fun c3544 => ?_) (fun c3544 => ?_)
  · rw [if_neg c3544] at e
    refine z_iconst (v := -1) dX11_sumOf_24 (by decide) ?_
    cases e
    exact z_iret dX11_sumOf_25 rfl
  · rw [if_pos c3544] at e
    refine z_aload_n 0 dX11_sumOf_7 rfl ?_
    replace e := z_bd e; obtain ⟨x3545, ex3545, e⟩ := e
    refine z_getQ ex3545 lk_X11_154 dX11_sumOf_8 ?_
    refine z_iload_n 1 dX11_sumOf_11 rfl ?_
    replace e := z_bd e; obtain ⟨x3546, ex3546, e⟩ := e
    refine z_iald ex3546 dX11_sumOf_12 ?_
    refine z_aload_n 0 dX11_sumOf_13 rfl ?_
    replace e := z_bd e; obtain ⟨x3547, ex3547, e⟩ := e
    refine z_getQ ex3547 lk_X11_154 dX11_sumOf_14 ?_
    refine z_iload_n 1 dX11_sumOf_17 rfl ?_
    refine z_iconst (v := 1) dX11_sumOf_18 (by decide) ?_
    refine z_iadd dX11_sumOf_19 ?_
    replace e := z_bd e; obtain ⟨x3548, ex3548, e⟩ := e
    refine z_iald ex3548 dX11_sumOf_20 ?_
    refine z_icmp_ne (tgt := 26) dX11_sumOf_21 (by decide) (fun c3549 => ?_) (fun c3549 => ?_)
    · rw [if_neg c3549] at e
      refine z_aload_n 0 dX11_sumOf_26 rfl ?_
      refine z_iconst (v := 1) dX11_sumOf_27 (by decide) ?_
      replace e := z_bd e; obtain ⟨h3550, eh3550, e⟩ := e
      refine z_putV eh3550 lk_X11_324 wk_11_20 (fun _ => (z_nz (Or.inr rfl)).1) (fun _ => (z_nz (Or.inr rfl)).2) dX11_sumOf_28 ?_
      refine z_aload_n 0 dX11_sumOf_31 rfl ?_
      refine z_aload_n 0 dX11_sumOf_32 rfl ?_
      replace e := z_bd e; obtain ⟨x3551, ex3551, e⟩ := e
      refine z_getQ ex3551 lk_X11_154 dX11_sumOf_33 ?_
      refine z_iload_n 1 dX11_sumOf_36 rfl ?_
      replace e := z_bd e; obtain ⟨x3552, ex3552, e⟩ := e
      refine z_iald ex3552 dX11_sumOf_37 ?_
      refine z_aload_n 0 dX11_sumOf_38 rfl ?_
      replace e := z_bd e; obtain ⟨x3553, ex3553, e⟩ := e
      refine z_getQ ex3553 lk_X11_154 dX11_sumOf_39 ?_
      refine z_iload_n 1 dX11_sumOf_42 rfl ?_
      refine z_iconst (v := 1) dX11_sumOf_43 (by decide) ?_
      refine z_iadd dX11_sumOf_44 ?_
      replace e := z_bd e; obtain ⟨x3554, ex3554, e⟩ := e
      refine z_iald ex3554 dX11_sumOf_45 ?_
      replace e := z_bd e; obtain ⟨o3556, eo3556, e⟩ := e
      replace e := z_bd e; obtain ⟨p3555, ep3555, e⟩ := e
      refine z_cV [.int x3552, .int x3554] (S_X11_reckonAll  ep3555) eo3556 rfl ml_X11_415 ck_X11_reckonAll vk_X11_reckonAll dX11_sumOf_46 (by decide) rfl (Nat.zero_le _) rfl ?_
      refine z_aload_n 0 dX11_sumOf_49 rfl ?_
      refine z_iconst (v := 0) dX11_sumOf_50 (by decide) ?_
      replace e := z_bd e; obtain ⟨h3557, eh3557, e⟩ := e
      refine z_putV eh3557 lk_X11_324 wk_11_20 (fun _ => (z_nz (Or.inl rfl)).1) (fun _ => (z_nz (Or.inl rfl)).2) dX11_sumOf_51 ?_
      refine z_aload_n 0 dX11_sumOf_54 rfl ?_
      refine z_aload_n 0 dX11_sumOf_55 rfl ?_
      replace e := z_bd e; obtain ⟨x3558, ex3558, e⟩ := e
      refine z_getI ex3558 lk_X11_398 dX11_sumOf_56 ?_
      replace e := z_ifs e; obtain ⟨c3560, e⟩ := e
      replace e := z_bd e; obtain ⟨h3559, eh3559, e⟩ := e
      refine z_putV eh3559 lk_X11_532 wk_11_55 (fun _ => (z_nz c3560).1) (fun _ => (z_nz c3560).2) dX11_sumOf_59 ?_
      refine z_aload_n 0 dX11_sumOf_62 rfl ?_
      replace e := z_bd e; obtain ⟨x3561, ex3561, e⟩ := e
      refine z_getJ ex3561 lk_X11_412 dX11_sumOf_63 ?_
      refine z_l2i dX11_sumOf_66 ?_
      cases e
      exact z_iret dX11_sumOf_67 rfl
    · rw [if_pos c3549] at e
      refine z_iconst (v := -1) dX11_sumOf_24 (by decide) ?_
      cases e
      exact z_iret dX11_sumOf_25 rfl
theorem dX11_act_0 : decode cX11_act 0 = .ok (.iload_n 1, 1) := by decide +kernel
theorem dX11_act_1 : decode cX11_act 1 = .ok (.tableswitch 57 0 3 #[31, 37, 44, 50], 31) := by decide +kernel
theorem dX11_act_32 : decode cX11_act 32 = .ok (.aload_n 0, 1) := by decide +kernel
theorem dX11_act_33 : decode cX11_act 33 = .ok (.iload_n 2, 1) := by decide +kernel
theorem dX11_act_34 : decode cX11_act 34 = .ok (.invokevirtual 452, 3) := by decide +kernel
theorem dX11_act_37 : decode cX11_act 37 = .ok (.ireturn, 1) := by decide +kernel
theorem dX11_act_38 : decode cX11_act 38 = .ok (.aload_n 0, 1) := by decide +kernel
theorem dX11_act_39 : decode cX11_act 39 = .ok (.iload_n 2, 1) := by decide +kernel
theorem dX11_act_40 : decode cX11_act 40 = .ok (.iload_n 3, 1) := by decide +kernel
theorem dX11_act_41 : decode cX11_act 41 = .ok (.invokevirtual 461, 3) := by decide +kernel
theorem dX11_act_44 : decode cX11_act 44 = .ok (.ireturn, 1) := by decide +kernel
theorem dX11_act_45 : decode cX11_act 45 = .ok (.aload_n 0, 1) := by decide +kernel
theorem dX11_act_46 : decode cX11_act 46 = .ok (.iload_n 2, 1) := by decide +kernel
theorem dX11_act_47 : decode cX11_act 47 = .ok (.invokevirtual 464, 3) := by decide +kernel
theorem dX11_act_50 : decode cX11_act 50 = .ok (.ireturn, 1) := by decide +kernel
theorem dX11_act_51 : decode cX11_act 51 = .ok (.aload_n 0, 1) := by decide +kernel
theorem dX11_act_52 : decode cX11_act 52 = .ok (.iload_n 2, 1) := by decide +kernel
theorem dX11_act_53 : decode cX11_act 53 = .ok (.iload_n 3, 1) := by decide +kernel
theorem dX11_act_54 : decode cX11_act 54 = .ok (.invokevirtual 467, 3) := by decide +kernel
theorem dX11_act_57 : decode cX11_act 57 = .ok (.ireturn, 1) := by decide +kernel
theorem dX11_act_58 : decode cX11_act 58 = .ok (.aload_n 0, 1) := by decide +kernel
theorem dX11_act_59 : decode cX11_act 59 = .ok (.invokevirtual 470, 3) := by decide +kernel
theorem dX11_act_62 : decode cX11_act 62 = .ok (.ireturn, 1) := by decide +kernel
def D_X11_act (h : z_H) (l0 : Option Nat) (l1 : Int32) (l2 : Int32) (l3 : Int32) : Option (Int32 × z_H) :=
  if l1 = 0 then
    (z_ob 11 h l0).bind fun _ =>
    (D_X11_stepNow  h l0 l2).bind fun p3563 =>
    some (p3563.1, p3563.2)
  else
  if l1 = 1 then
    (z_ob 11 h l0).bind fun _ =>
    (D_X11_turnNow  h l0 l2 l3).bind fun p3566 =>
    some (p3566.1, p3566.2)
  else
  if l1 = 2 then
    (z_ob 11 h l0).bind fun _ =>
    (D_X11_pauseNow  h l0 l2).bind fun p3569 =>
    some (p3569.1, p3569.2)
  else
  if l1 = 3 then
    (z_ob 11 h l0).bind fun _ =>
    (D_X11_mendNow  h l0 l2 l3).bind fun p3572 =>
    some (p3572.1, p3572.2)
  else
  (z_ob 11 h l0).bind fun _ =>
  (D_X11_passNow  h l0).bind fun p3574 =>
  some (p3574.1, p3574.2)
set_option maxRecDepth 100000 in
set_option maxHeartbeats 4000000 in
theorem S_X11_act {G : z_G} {l : Launch} {h : z_H} {l0 : Option Nat} {l1 : Int32} {l2 : Int32} {l3 : Int32} {res : (Int32 × z_H)} (e : D_X11_act h l0 l1 l2 l3 = some res) : z_Meth G l 13 M_X11_act [z_r l0, .int l1, .int l2, .int l3] h res.2 (some (.int res.1)) := by
  refine z_Meth.of ck_X11_act.2.2.2.2 (by simp [lg_sl, z_ci, z_cj, z_cr, z_cx]) ck_X11_act.1 ?_
  rw [show lv_args 0 [z_r l0, .int l1, .int l2, .int l3] = [(0, z_r l0), (1, .int l1), (2, .int l2), (3, .int l3)] from by simp [lv_args, z_ci, z_cj, z_cr, z_cx]]
  unfold D_X11_act at e
  refine z_iload_n 1 dX11_act_0 rfl ?_
  by_cases c3562 : l1 = 0
  · rw [if_pos c3562] at e
    refine z_tableIn (off := 31) (tgt := 32) dX11_act_1 (by rw [c3562]; decide) (by rw [c3562]; decide) (by rw [c3562]; decide) (by decide) ?_
    refine z_aload_n 0 dX11_act_32 rfl ?_
    refine z_iload_n 2 dX11_act_33 rfl ?_
    replace e := z_bd e; obtain ⟨o3564, eo3564, e⟩ := e
    replace e := z_bd e; obtain ⟨p3563, ep3563, e⟩ := e
    refine z_cV [.int l2] (S_X11_stepNow  ep3563) eo3564 rfl ml_X11_452 ck_X11_stepNow vk_X11_stepNow dX11_act_34 (by decide) rfl (Nat.zero_le _) rfl ?_
    cases e
    exact z_iret dX11_act_37 rfl
  rw [if_neg c3562] at e
  by_cases c3565 : l1 = 1
  · rw [if_pos c3565] at e
    refine z_tableIn (off := 37) (tgt := 38) dX11_act_1 (by rw [c3565]; decide) (by rw [c3565]; decide) (by rw [c3565]; decide) (by decide) ?_
    refine z_aload_n 0 dX11_act_38 rfl ?_
    refine z_iload_n 2 dX11_act_39 rfl ?_
    refine z_iload_n 3 dX11_act_40 rfl ?_
    replace e := z_bd e; obtain ⟨o3567, eo3567, e⟩ := e
    replace e := z_bd e; obtain ⟨p3566, ep3566, e⟩ := e
    refine z_cV [.int l2, .int l3] (S_X11_turnNow  ep3566) eo3567 rfl ml_X11_461 ck_X11_turnNow vk_X11_turnNow dX11_act_41 (by decide) rfl (Nat.zero_le _) rfl ?_
    cases e
    exact z_iret dX11_act_44 rfl
  rw [if_neg c3565] at e
  by_cases c3568 : l1 = 2
  · rw [if_pos c3568] at e
    refine z_tableIn (off := 44) (tgt := 45) dX11_act_1 (by rw [c3568]; decide) (by rw [c3568]; decide) (by rw [c3568]; decide) (by decide) ?_
    refine z_aload_n 0 dX11_act_45 rfl ?_
    refine z_iload_n 2 dX11_act_46 rfl ?_
    replace e := z_bd e; obtain ⟨o3570, eo3570, e⟩ := e
    replace e := z_bd e; obtain ⟨p3569, ep3569, e⟩ := e
    refine z_cV [.int l2] (S_X11_pauseNow  ep3569) eo3570 rfl ml_X11_464 ck_X11_pauseNow vk_X11_pauseNow dX11_act_47 (by decide) rfl (Nat.zero_le _) rfl ?_
    cases e
    exact z_iret dX11_act_50 rfl
  rw [if_neg c3568] at e
  by_cases c3571 : l1 = 3
  · rw [if_pos c3571] at e
    refine z_tableIn (off := 50) (tgt := 51) dX11_act_1 (by rw [c3571]; decide) (by rw [c3571]; decide) (by rw [c3571]; decide) (by decide) ?_
    refine z_aload_n 0 dX11_act_51 rfl ?_
    refine z_iload_n 2 dX11_act_52 rfl ?_
    refine z_iload_n 3 dX11_act_53 rfl ?_
    replace e := z_bd e; obtain ⟨o3573, eo3573, e⟩ := e
    replace e := z_bd e; obtain ⟨p3572, ep3572, e⟩ := e
    refine z_cV [.int l2, .int l3] (S_X11_mendNow  ep3572) eo3573 rfl ml_X11_467 ck_X11_mendNow vk_X11_mendNow dX11_act_54 (by decide) rfl (Nat.zero_le _) rfl ?_
    cases e
    exact z_iret dX11_act_57 rfl
  rw [if_neg c3571] at e
  have nc3562 := lv_neT (a := 0) c3562 (by decide)
  have nc3565 := lv_neT (a := 1) c3565 (by decide)
  have nc3568 := lv_neT (a := 2) c3568 (by decide)
  have nc3571 := lv_neT (a := 3) c3571 (by decide)
  refine z_tableOut (tgt := 58) dX11_act_1 (by omega) (by decide) ?_
  refine z_aload_n 0 dX11_act_58 rfl ?_
  replace e := z_bd e; obtain ⟨o3575, eo3575, e⟩ := e
  replace e := z_bd e; obtain ⟨p3574, ep3574, e⟩ := e
  refine z_cV [] (S_X11_passNow  ep3574) eo3575 rfl ml_X11_470 ck_X11_passNow vk_X11_passNow dX11_act_59 (by decide) rfl (Nat.zero_le _) rfl ?_
  cases e
  exact z_iret dX11_act_62 rfl
theorem dX11_run_0 : decode cX11_run 0 = .ok (.aload_n 0, 1) := by decide +kernel
theorem dX11_run_1 : decode cX11_run 1 = .ok (.getfield 108, 3) := by decide +kernel
theorem dX11_run_4 : decode cX11_run 4 = .ok (.iconst 1, 1) := by decide +kernel
theorem dX11_run_5 : decode cX11_run 5 = .ok (.aload_n 0, 1) := by decide +kernel
theorem dX11_run_6 : decode cX11_run 6 = .ok (.getfield 13, 3) := by decide +kernel
theorem dX11_run_9 : decode cX11_run 9 = .ok (.iconst 5, 1) := by decide +kernel
theorem dX11_run_10 : decode cX11_run 10 = .ok (.iaload, 1) := by decide +kernel
theorem dX11_run_11 : decode cX11_run 11 = .ok (.i2l, 1) := by decide +kernel
theorem dX11_run_12 : decode cX11_run 12 = .ok (.lastore, 1) := by decide +kernel
theorem dX11_run_13 : decode cX11_run 13 = .ok (.aload_n 0, 1) := by decide +kernel
theorem dX11_run_14 : decode cX11_run 14 = .ok (.getfield 108, 3) := by decide +kernel
theorem dX11_run_17 : decode cX11_run 17 = .ok (.iconst 2, 1) := by decide +kernel
theorem dX11_run_18 : decode cX11_run 18 = .ok (.aload_n 0, 1) := by decide +kernel
theorem dX11_run_19 : decode cX11_run 19 = .ok (.getfield 535, 3) := by decide +kernel
theorem dX11_run_22 : decode cX11_run 22 = .ok (.i2l, 1) := by decide +kernel
theorem dX11_run_23 : decode cX11_run 23 = .ok (.lastore, 1) := by decide +kernel
theorem dX11_run_24 : decode cX11_run 24 = .ok (.aload_n 0, 1) := by decide +kernel
theorem dX11_run_25 : decode cX11_run 25 = .ok (.getfield 108, 3) := by decide +kernel
theorem dX11_run_28 : decode cX11_run 28 = .ok (.iconst 3, 1) := by decide +kernel
theorem dX11_run_29 : decode cX11_run 29 = .ok (.aload_n 0, 1) := by decide +kernel
theorem dX11_run_30 : decode cX11_run 30 = .ok (.getfield 538, 3) := by decide +kernel
theorem dX11_run_33 : decode cX11_run 33 = .ok (.i2l, 1) := by decide +kernel
theorem dX11_run_34 : decode cX11_run 34 = .ok (.lastore, 1) := by decide +kernel
theorem dX11_run_35 : decode cX11_run 35 = .ok (.aload_n 0, 1) := by decide +kernel
theorem dX11_run_36 : decode cX11_run 36 = .ok (.getfield 108, 3) := by decide +kernel
theorem dX11_run_39 : decode cX11_run 39 = .ok (.iconst 4, 1) := by decide +kernel
theorem dX11_run_40 : decode cX11_run 40 = .ok (.aload_n 0, 1) := by decide +kernel
theorem dX11_run_41 : decode cX11_run 41 = .ok (.getfield 13, 3) := by decide +kernel
theorem dX11_run_44 : decode cX11_run 44 = .ok (.iconst 0, 1) := by decide +kernel
theorem dX11_run_45 : decode cX11_run 45 = .ok (.iaload, 1) := by decide +kernel
theorem dX11_run_46 : decode cX11_run 46 = .ok (.i2l, 1) := by decide +kernel
theorem dX11_run_47 : decode cX11_run 47 = .ok (.lastore, 1) := by decide +kernel
theorem dX11_run_48 : decode cX11_run 48 = .ok (.aload_n 0, 1) := by decide +kernel
theorem dX11_run_49 : decode cX11_run 49 = .ok (.getfield 108, 3) := by decide +kernel
theorem dX11_run_52 : decode cX11_run 52 = .ok (.iconst 5, 1) := by decide +kernel
theorem dX11_run_53 : decode cX11_run 53 = .ok (.aload_n 0, 1) := by decide +kernel
theorem dX11_run_54 : decode cX11_run 54 = .ok (.invokevirtual 541, 3) := by decide +kernel
theorem dX11_run_57 : decode cX11_run 57 = .ok (.i2l, 1) := by decide +kernel
theorem dX11_run_58 : decode cX11_run 58 = .ok (.lastore, 1) := by decide +kernel
theorem dX11_run_59 : decode cX11_run 59 = .ok (.aload_n 0, 1) := by decide +kernel
theorem dX11_run_60 : decode cX11_run 60 = .ok (.iconst 0, 1) := by decide +kernel
theorem dX11_run_61 : decode cX11_run 61 = .ok (.putfield 532, 3) := by decide +kernel
theorem dX11_run_64 : decode cX11_run 64 = .ok (.aload_n 0, 1) := by decide +kernel
theorem dX11_run_65 : decode cX11_run 65 = .ok (.getfield 154, 3) := by decide +kernel
theorem dX11_run_68 : decode cX11_run 68 = .ok (.iload_n 1, 1) := by decide +kernel
theorem dX11_run_69 : decode cX11_run 69 = .ok (.iconst 5, 1) := by decide +kernel
theorem dX11_run_70 : decode cX11_run 70 = .ok (.iadd, 1) := by decide +kernel
theorem dX11_run_71 : decode cX11_run 71 = .ok (.iaload, 1) := by decide +kernel
theorem dX11_run_72 : decode cX11_run 72 = .ok (.aload_n 0, 1) := by decide +kernel
theorem dX11_run_73 : decode cX11_run 73 = .ok (.getfield 154, 3) := by decide +kernel
theorem dX11_run_76 : decode cX11_run 76 = .ok (.iload_n 1, 1) := by decide +kernel
theorem dX11_run_77 : decode cX11_run 77 = .ok (.bipush 6, 2) := by decide +kernel
theorem dX11_run_79 : decode cX11_run 79 = .ok (.iadd, 1) := by decide +kernel
theorem dX11_run_80 : decode cX11_run 80 = .ok (.iaload, 1) := by decide +kernel
theorem dX11_run_81 : decode cX11_run 81 = .ok (.if_icmp .ge 24, 3) := by decide +kernel
theorem dX11_run_84 : decode cX11_run 84 = .ok (.aload_n 0, 1) := by decide +kernel
theorem dX11_run_85 : decode cX11_run 85 = .ok (.iload_n 1, 1) := by decide +kernel
theorem dX11_run_86 : decode cX11_run 86 = .ok (.iconst 5, 1) := by decide +kernel
theorem dX11_run_87 : decode cX11_run 87 = .ok (.iadd, 1) := by decide +kernel
theorem dX11_run_88 : decode cX11_run 88 = .ok (.invokevirtual 544, 3) := by decide +kernel
theorem dX11_run_91 : decode cX11_run 91 = .ok (.istore_n 2, 1) := by decide +kernel
theorem dX11_run_92 : decode cX11_run 92 = .ok (.aload_n 0, 1) := by decide +kernel
theorem dX11_run_93 : decode cX11_run 93 = .ok (.getfield 532, 3) := by decide +kernel
theorem dX11_run_96 : decode cX11_run 96 = .ok (.ifCond .ne 7, 3) := by decide +kernel
theorem dX11_run_99 : decode cX11_run 99 = .ok (.iload_n 2, 1) := by decide +kernel
theorem dX11_run_100 : decode cX11_run 100 = .ok (.ifCond .ne 5, 3) := by decide +kernel
theorem dX11_run_103 : decode cX11_run 103 = .ok (.iconst 0, 1) := by decide +kernel
theorem dX11_run_104 : decode cX11_run 104 = .ok (.ireturn, 1) := by decide +kernel
theorem dX11_run_105 : decode cX11_run 105 = .ok (.aload_n 0, 1) := by decide +kernel
theorem dX11_run_106 : decode cX11_run 106 = .ok (.iload_n 1, 1) := by decide +kernel
theorem dX11_run_107 : decode cX11_run 107 = .ok (.iconst 1, 1) := by decide +kernel
theorem dX11_run_108 : decode cX11_run 108 = .ok (.iadd, 1) := by decide +kernel
theorem dX11_run_109 : decode cX11_run 109 = .ok (.invokevirtual 544, 3) := by decide +kernel
theorem dX11_run_112 : decode cX11_run 112 = .ok (.istore_n 2, 1) := by decide +kernel
theorem dX11_run_113 : decode cX11_run 113 = .ok (.aload_n 0, 1) := by decide +kernel
theorem dX11_run_114 : decode cX11_run 114 = .ok (.iload_n 1, 1) := by decide +kernel
theorem dX11_run_115 : decode cX11_run 115 = .ok (.iconst 3, 1) := by decide +kernel
theorem dX11_run_116 : decode cX11_run 116 = .ok (.iadd, 1) := by decide +kernel
theorem dX11_run_117 : decode cX11_run 117 = .ok (.invokevirtual 544, 3) := by decide +kernel
theorem dX11_run_120 : decode cX11_run 120 = .ok (.istore_n 3, 1) := by decide +kernel
theorem dX11_run_121 : decode cX11_run 121 = .ok (.aload_n 0, 1) := by decide +kernel
theorem dX11_run_122 : decode cX11_run 122 = .ok (.getfield 532, 3) := by decide +kernel
theorem dX11_run_125 : decode cX11_run 125 = .ok (.ifCond .eq 6, 3) := by decide +kernel
theorem dX11_run_128 : decode cX11_run 128 = .ok (.bipush (-3), 2) := by decide +kernel
theorem dX11_run_130 : decode cX11_run 130 = .ok (.ireturn, 1) := by decide +kernel
theorem dX11_run_131 : decode cX11_run 131 = .ok (.aload_n 0, 1) := by decide +kernel
theorem dX11_run_132 : decode cX11_run 132 = .ok (.aload_n 0, 1) := by decide +kernel
theorem dX11_run_133 : decode cX11_run 133 = .ok (.getfield 154, 3) := by decide +kernel
theorem dX11_run_136 : decode cX11_run 136 = .ok (.iload_n 1, 1) := by decide +kernel
theorem dX11_run_137 : decode cX11_run 137 = .ok (.iaload, 1) := by decide +kernel
theorem dX11_run_138 : decode cX11_run 138 = .ok (.iload_n 2, 1) := by decide +kernel
theorem dX11_run_139 : decode cX11_run 139 = .ok (.iload_n 3, 1) := by decide +kernel
theorem dX11_run_140 : decode cX11_run 140 = .ok (.invokevirtual 547, 3) := by decide +kernel
theorem dX11_run_143 : decode cX11_run 143 = .ok (.istore 4, 2) := by decide +kernel
theorem dX11_run_145 : decode cX11_run 145 = .ok (.iload 4, 2) := by decide +kernel
theorem dX11_run_147 : decode cX11_run 147 = .ok (.ifCond .ge 6, 3) := by decide +kernel
theorem dX11_run_150 : decode cX11_run 150 = .ok (.bipush (-3), 2) := by decide +kernel
theorem dX11_run_152 : decode cX11_run 152 = .ok (.ireturn, 1) := by decide +kernel
theorem dX11_run_153 : decode cX11_run 153 = .ok (.aload_n 0, 1) := by decide +kernel
theorem dX11_run_154 : decode cX11_run 154 = .ok (.aload_n 0, 1) := by decide +kernel
theorem dX11_run_155 : decode cX11_run 155 = .ok (.getfield 154, 3) := by decide +kernel
theorem dX11_run_158 : decode cX11_run 158 = .ok (.iload_n 1, 1) := by decide +kernel
theorem dX11_run_159 : decode cX11_run 159 = .ok (.iaload, 1) := by decide +kernel
theorem dX11_run_160 : decode cX11_run 160 = .ok (.ifCond .ne 8, 3) := by decide +kernel
theorem dX11_run_163 : decode cX11_run 163 = .ok (.iload 4, 2) := by decide +kernel
theorem dX11_run_165 : decode cX11_run 165 = .ok (.goto 7, 3) := by decide +kernel
theorem dX11_run_168 : decode cX11_run 168 = .ok (.aload_n 0, 1) := by decide +kernel
theorem dX11_run_169 : decode cX11_run 169 = .ok (.getfield 538, 3) := by decide +kernel
theorem dX11_run_172 : decode cX11_run 172 = .ok (.putfield 538, 3) := by decide +kernel
theorem dX11_run_175 : decode cX11_run 175 = .ok (.aload_n 0, 1) := by decide +kernel
theorem dX11_run_176 : decode cX11_run 176 = .ok (.dup, 1) := by decide +kernel
theorem dX11_run_177 : decode cX11_run 177 = .ok (.getfield 535, 3) := by decide +kernel
theorem dX11_run_180 : decode cX11_run 180 = .ok (.iconst 1, 1) := by decide +kernel
theorem dX11_run_181 : decode cX11_run 181 = .ok (.iadd, 1) := by decide +kernel
theorem dX11_run_182 : decode cX11_run 182 = .ok (.putfield 535, 3) := by decide +kernel
theorem dX11_run_185 : decode cX11_run 185 = .ok (.iconst 0, 1) := by decide +kernel
theorem dX11_run_186 : decode cX11_run 186 = .ok (.ireturn, 1) := by decide +kernel
def D_X11_run_172 (h : z_H) (l0 : Option Nat) (s0 : Option Nat) (s1 : Int32) : Option (Int32 × z_H) :=
  (z_pV 11 h s0 53 (.int s1)).bind fun h3576 =>
  (z_gI 11 h3576 l0 52).bind fun x3577 =>
  (z_pV 11 h3576 l0 52 (.int (x3577 + (1:Int32)))).bind fun h3578 =>
  some ((0:Int32), h3578)
set_option maxRecDepth 100000 in
set_option maxHeartbeats 4000000 in
theorem S_X11_run_172 {G : z_G} {l : Launch}  {h : z_H} {l0 : Option Nat} {s0 : Option Nat} {s1 : Int32} {res : (Int32 × z_H)} (e : D_X11_run_172  h l0 s0 s1 = some res) : z_Run G l 14 M_X11_run 172 [(0, z_r l0)] [.int s1, z_r s0] h res.2 (some (.int res.1)) := by
  unfold D_X11_run_172 at e
  replace e := z_bd e; obtain ⟨h3576, eh3576, e⟩ := e
  refine z_putV eh3576 lk_X11_538 wk_11_53 (fun _ => rfl) (fun _ => rfl) dX11_run_172 ?_
  refine z_aload_n 0 dX11_run_175 rfl ?_
  refine z_dup dX11_run_176 (z_cr _) ?_
  replace e := z_bd e; obtain ⟨x3577, ex3577, e⟩ := e
  refine z_getI ex3577 lk_X11_535 dX11_run_177 ?_
  refine z_iconst (v := 1) dX11_run_180 (by decide) ?_
  refine z_iadd dX11_run_181 ?_
  replace e := z_bd e; obtain ⟨h3578, eh3578, e⟩ := e
  refine z_putV eh3578 lk_X11_535 wk_11_52 (fun _ => rfl) (fun _ => rfl) dX11_run_182 ?_
  refine z_iconst (v := 0) dX11_run_185 (by decide) ?_
  cases e
  exact z_iret dX11_run_186 rfl
def D_X11_run_105 (h : z_H) (l0 : Option Nat) (l1 : Int32) : Option (Int32 × z_H) :=
  (z_ob 11 h l0).bind fun _ =>
  (D_X11_sumOf  h l0 (l1 + (1:Int32))).bind fun p3579 =>
  (z_ob 11 p3579.2 l0).bind fun _ =>
  (D_X11_sumOf  p3579.2 l0 (l1 + (3:Int32))).bind fun p3581 =>
  (z_gI 11 p3581.2 l0 55).bind fun x3583 =>
  if x3583 = 0 then
    (z_gQ 11 p3581.2 l0 51).bind fun x3585 =>
    (z_aI .int p3581.2 x3585 l1).bind fun x3586 =>
    (z_ob 11 p3581.2 l0).bind fun _ =>
    (D_X11_act  p3581.2 l0 x3586 p3579.1 p3581.1).bind fun p3587 =>
    if 0 ≤ p3587.1 then
      (z_gQ 11 p3587.2 l0 51).bind fun x3590 =>
      (z_aI .int p3587.2 x3590 l1).bind fun x3591 =>
      if x3591 = 0 then
        D_X11_run_172   p3587.2 l0 l0 p3587.1
      else
        (z_gI 11 p3587.2 l0 53).bind fun x3593 =>
        D_X11_run_172   p3587.2 l0 l0 x3593
    else
      some ((-3:Int32), p3587.2)
  else
    some ((-3:Int32), p3581.2)
set_option maxRecDepth 100000 in
set_option maxHeartbeats 4000000 in
theorem S_X11_run_105 {G : z_G} {l : Launch}  {h : z_H} {l0 : Option Nat} {l1 : Int32} {res : (Int32 × z_H)} (e : D_X11_run_105  h l0 l1 = some res) : z_Run G l 14 M_X11_run 105 [(0, z_r l0), (1, .int l1)] [] h res.2 (some (.int res.1)) := by
  unfold D_X11_run_105 at e
  refine z_aload_n 0 dX11_run_105 rfl ?_
  refine z_iload_n 1 dX11_run_106 rfl ?_
  refine z_iconst (v := 1) dX11_run_107 (by decide) ?_
  refine z_iadd dX11_run_108 ?_
  replace e := z_bd e; obtain ⟨o3580, eo3580, e⟩ := e
  replace e := z_bd e; obtain ⟨p3579, ep3579, e⟩ := e
  refine z_cV [.int (l1 + (1:Int32))] (S_X11_sumOf  ep3579) eo3580 rfl ml_X11_544 ck_X11_sumOf vk_X11_sumOf dX11_run_109 (by decide) rfl (Nat.zero_le _) rfl ?_
  refine z_istore_n (L' := [(2, .int p3579.1), (0, z_r l0), (1, .int l1)]) dX11_run_112 rfl (by decide) rfl ?_
  refine z_aload_n 1 dX11_run_113 rfl ?_
  refine z_iload_n 2 dX11_run_114 rfl ?_
  refine z_iconst (v := 3) dX11_run_115 (by decide) ?_
  refine z_iadd dX11_run_116 ?_
  replace e := z_bd e; obtain ⟨o3582, eo3582, e⟩ := e
  replace e := z_bd e; obtain ⟨p3581, ep3581, e⟩ := e
  refine z_cV [.int (l1 + (3:Int32))] (S_X11_sumOf  ep3581) eo3582 rfl ml_X11_544 ck_X11_sumOf vk_X11_sumOf dX11_run_117 (by decide) rfl (Nat.zero_le _) rfl ?_
  refine z_istore_n (L' := [(3, .int p3581.1), (2, .int p3579.1), (0, z_r l0), (1, .int l1)]) dX11_run_120 rfl (by decide) rfl ?_
  refine z_aload_n 2 dX11_run_121 rfl ?_
  replace e := z_bd e; obtain ⟨x3583, ex3583, e⟩ := e
  refine z_getI ex3583 lk_X11_532 dX11_run_122 ?_
  refine z_if_eq (tgt := 131) dX11_run_125 (by decide) (fun c3584 => ?_) (fun c3584 => ?_)
  · rw [if_pos c3584] at e
    refine z_aload_n 2 dX11_run_131 rfl ?_
    refine z_aload_n 2 dX11_run_132 rfl ?_
    replace e := z_bd e; obtain ⟨x3585, ex3585, e⟩ := e
    refine z_getQ ex3585 lk_X11_154 dX11_run_133 ?_
    refine z_iload_n 3 dX11_run_136 rfl ?_
    replace e := z_bd e; obtain ⟨x3586, ex3586, e⟩ := e
    refine z_iald ex3586 dX11_run_137 ?_
    refine z_iload_n 1 dX11_run_138 rfl ?_
    refine z_iload_n 0 dX11_run_139 rfl ?_
    replace e := z_bd e; obtain ⟨o3588, eo3588, e⟩ := e
    replace e := z_bd e; obtain ⟨p3587, ep3587, e⟩ := e
    refine z_cV [.int x3586, .int p3579.1, .int p3581.1] (S_X11_act  ep3587) eo3588 rfl ml_X11_547 ck_X11_act vk_X11_act dX11_run_140 (by decide) rfl (Nat.zero_le _) rfl ?_
    refine z_istore (L' := [(4, .int p3587.1), (3, .int p3581.1), (2, .int p3579.1), (0, z_r l0), (1, .int l1)]) dX11_run_143 (by decide) rfl ?_
    refine z_iload 0 dX11_run_145 rfl ?_
    refine z_if_ge (tgt := 153) dX11_run_147 (by decide) (fun c3589 => ?_) (fun c3589 => ?_)
    · rw [if_pos c3589] at e
      refine z_aload_n 3 dX11_run_153 rfl ?_
      refine z_aload_n 3 dX11_run_154 rfl ?_
      replace e := z_bd e; obtain ⟨x3590, ex3590, e⟩ := e
      refine z_getQ ex3590 lk_X11_154 dX11_run_155 ?_
      refine z_iload_n 4 dX11_run_158 rfl ?_
      replace e := z_bd e; obtain ⟨x3591, ex3591, e⟩ := e
      refine z_iald ex3591 dX11_run_159 ?_
      refine z_if_ne (tgt := 168) dX11_run_160 (by decide) (fun c3592 => ?_) (fun c3592 => ?_)
      · rw [if_neg c3592] at e
        refine z_aload_n 3 dX11_run_168 rfl ?_
        replace e := z_bd e; obtain ⟨x3593, ex3593, e⟩ := e
        refine z_getI ex3593 lk_X11_538 dX11_run_169 ?_
        exact z_weak [3] rfl (S_X11_run_172   e)
      · rw [if_pos c3592] at e
        refine z_iload 0 dX11_run_163 rfl ?_
        refine z_goto (tgt := 172) dX11_run_165 (by decide) ?_
        exact z_weak [3] rfl (S_X11_run_172   e)
    · rw [if_neg c3589] at e
      refine z_bipush (v := -3) dX11_run_150 (by decide) ?_
      cases e
      exact z_iret dX11_run_152 rfl
  · rw [if_neg c3584] at e
    refine z_bipush (v := -3) dX11_run_128 (by decide) ?_
    cases e
    exact z_iret dX11_run_130 rfl
def D_X11_run (h : z_H) (l0 : Option Nat) (l1 : Int32) : Option (Int32 × z_H) :=
  (z_gQ 11 h l0 36).bind fun x3594 =>
  (z_gQ 11 h l0 3).bind fun x3595 =>
  (z_aI .int h x3595 (5:Int32)).bind fun x3596 =>
  (z_sJ h x3594 (1:Int32) (Int32.toInt64 x3596)).bind fun h3597 =>
  (z_gQ 11 h3597 l0 36).bind fun x3598 =>
  (z_gI 11 h3597 l0 52).bind fun x3599 =>
  (z_sJ h3597 x3598 (2:Int32) (Int32.toInt64 x3599)).bind fun h3600 =>
  (z_gQ 11 h3600 l0 36).bind fun x3601 =>
  (z_gI 11 h3600 l0 53).bind fun x3602 =>
  (z_sJ h3600 x3601 (3:Int32) (Int32.toInt64 x3602)).bind fun h3603 =>
  (z_gQ 11 h3603 l0 36).bind fun x3604 =>
  (z_gQ 11 h3603 l0 3).bind fun x3605 =>
  (z_aI .int h3603 x3605 (0:Int32)).bind fun x3606 =>
  (z_sJ h3603 x3604 (4:Int32) (Int32.toInt64 x3606)).bind fun h3607 =>
  (z_gQ 11 h3607 l0 36).bind fun x3608 =>
  (z_ob 11 h3607 l0).bind fun _ =>
  (D_X11_wallsThere  h3607 l0).bind fun p3609 =>
  (z_sJ p3609.2 x3608 (5:Int32) (Int32.toInt64 p3609.1)).bind fun h3611 =>
  (z_pV 11 h3611 l0 55 (.int (0:Int32))).bind fun h3612 =>
  (z_gQ 11 h3612 l0 51).bind fun x3613 =>
  (z_aI .int h3612 x3613 (l1 + (5:Int32))).bind fun x3614 =>
  (z_gQ 11 h3612 l0 51).bind fun x3615 =>
  (z_aI .int h3612 x3615 (l1 + (6:Int32))).bind fun x3616 =>
  if x3616 ≤ x3614 then
    D_X11_run_105   h3612 l0 l1
  else
    (z_ob 11 h3612 l0).bind fun _ =>
    (D_X11_sumOf  h3612 l0 (l1 + (5:Int32))).bind fun p3618 =>
    (z_gI 11 p3618.2 l0 55).bind fun x3620 =>
    if x3620 = 0 then
      if p3618.1 = 0 then
        some ((0:Int32), p3618.2)
      else
        D_X11_run_105   p3618.2 l0 l1
    else
      some ((0:Int32), p3618.2)
set_option maxRecDepth 100000 in
set_option maxHeartbeats 4000000 in
theorem S_X11_run {G : z_G} {l : Launch} {h : z_H} {l0 : Option Nat} {l1 : Int32} {res : (Int32 × z_H)} (e : D_X11_run h l0 l1 = some res) : z_Meth G l 14 M_X11_run [z_r l0, .int l1] h res.2 (some (.int res.1)) := by
  refine z_Meth.of ck_X11_run.2.2.2.2 (by simp [lg_sl, z_ci, z_cj, z_cr, z_cx]) ck_X11_run.1 ?_
  rw [show lv_args 0 [z_r l0, .int l1] = [(0, z_r l0), (1, .int l1)] from by simp [lv_args, z_ci, z_cj, z_cr, z_cx]]
  unfold D_X11_run at e
  refine z_aload_n 0 dX11_run_0 rfl ?_
  replace e := z_bd e; obtain ⟨x3594, ex3594, e⟩ := e
  refine z_getQ ex3594 lk_X11_108 dX11_run_1 ?_
  refine z_iconst (v := 1) dX11_run_4 (by decide) ?_
  refine z_aload_n 0 dX11_run_5 rfl ?_
  replace e := z_bd e; obtain ⟨x3595, ex3595, e⟩ := e
  refine z_getQ ex3595 lk_X11_13 dX11_run_6 ?_
  refine z_iconst (v := 5) dX11_run_9 (by decide) ?_
  replace e := z_bd e; obtain ⟨x3596, ex3596, e⟩ := e
  refine z_iald ex3596 dX11_run_10 ?_
  refine z_i2l dX11_run_11 ?_
  replace e := z_bd e; obtain ⟨h3597, eh3597, e⟩ := e
  refine z_last eh3597 dX11_run_12 ?_
  refine z_aload_n 0 dX11_run_13 rfl ?_
  replace e := z_bd e; obtain ⟨x3598, ex3598, e⟩ := e
  refine z_getQ ex3598 lk_X11_108 dX11_run_14 ?_
  refine z_iconst (v := 2) dX11_run_17 (by decide) ?_
  refine z_aload_n 0 dX11_run_18 rfl ?_
  replace e := z_bd e; obtain ⟨x3599, ex3599, e⟩ := e
  refine z_getI ex3599 lk_X11_535 dX11_run_19 ?_
  refine z_i2l dX11_run_22 ?_
  replace e := z_bd e; obtain ⟨h3600, eh3600, e⟩ := e
  refine z_last eh3600 dX11_run_23 ?_
  refine z_aload_n 0 dX11_run_24 rfl ?_
  replace e := z_bd e; obtain ⟨x3601, ex3601, e⟩ := e
  refine z_getQ ex3601 lk_X11_108 dX11_run_25 ?_
  refine z_iconst (v := 3) dX11_run_28 (by decide) ?_
  refine z_aload_n 0 dX11_run_29 rfl ?_
  replace e := z_bd e; obtain ⟨x3602, ex3602, e⟩ := e
  refine z_getI ex3602 lk_X11_538 dX11_run_30 ?_
  refine z_i2l dX11_run_33 ?_
  replace e := z_bd e; obtain ⟨h3603, eh3603, e⟩ := e
  refine z_last eh3603 dX11_run_34 ?_
  refine z_aload_n 0 dX11_run_35 rfl ?_
  replace e := z_bd e; obtain ⟨x3604, ex3604, e⟩ := e
  refine z_getQ ex3604 lk_X11_108 dX11_run_36 ?_
  refine z_iconst (v := 4) dX11_run_39 (by decide) ?_
  refine z_aload_n 0 dX11_run_40 rfl ?_
  replace e := z_bd e; obtain ⟨x3605, ex3605, e⟩ := e
  refine z_getQ ex3605 lk_X11_13 dX11_run_41 ?_
  refine z_iconst (v := 0) dX11_run_44 (by decide) ?_
  replace e := z_bd e; obtain ⟨x3606, ex3606, e⟩ := e
  refine z_iald ex3606 dX11_run_45 ?_
  refine z_i2l dX11_run_46 ?_
  replace e := z_bd e; obtain ⟨h3607, eh3607, e⟩ := e
  refine z_last eh3607 dX11_run_47 ?_
  refine z_aload_n 0 dX11_run_48 rfl ?_
  replace e := z_bd e; obtain ⟨x3608, ex3608, e⟩ := e
  refine z_getQ ex3608 lk_X11_108 dX11_run_49 ?_
  refine z_iconst (v := 5) dX11_run_52 (by decide) ?_
  refine z_aload_n 0 dX11_run_53 rfl ?_
  replace e := z_bd e; obtain ⟨o3610, eo3610, e⟩ := e
  replace e := z_bd e; obtain ⟨p3609, ep3609, e⟩ := e
  refine z_cV [] (S_X11_wallsThere  ep3609) eo3610 rfl ml_X11_541 ck_X11_wallsThere vk_X11_wallsThere dX11_run_54 (by decide) rfl (by simp [z_ci, z_cj, z_cr, z_cx]) rfl ?_
  refine z_i2l dX11_run_57 ?_
  replace e := z_bd e; obtain ⟨h3611, eh3611, e⟩ := e
  refine z_last eh3611 dX11_run_58 ?_
  refine z_aload_n 0 dX11_run_59 rfl ?_
  refine z_iconst (v := 0) dX11_run_60 (by decide) ?_
  replace e := z_bd e; obtain ⟨h3612, eh3612, e⟩ := e
  refine z_putV eh3612 lk_X11_532 wk_11_55 (fun _ => (z_nz (Or.inl rfl)).1) (fun _ => (z_nz (Or.inl rfl)).2) dX11_run_61 ?_
  refine z_aload_n 0 dX11_run_64 rfl ?_
  replace e := z_bd e; obtain ⟨x3613, ex3613, e⟩ := e
  refine z_getQ ex3613 lk_X11_154 dX11_run_65 ?_
  refine z_iload_n 1 dX11_run_68 rfl ?_
  refine z_iconst (v := 5) dX11_run_69 (by decide) ?_
  refine z_iadd dX11_run_70 ?_
  replace e := z_bd e; obtain ⟨x3614, ex3614, e⟩ := e
  refine z_iald ex3614 dX11_run_71 ?_
  refine z_aload_n 0 dX11_run_72 rfl ?_
  replace e := z_bd e; obtain ⟨x3615, ex3615, e⟩ := e
  refine z_getQ ex3615 lk_X11_154 dX11_run_73 ?_
  refine z_iload_n 1 dX11_run_76 rfl ?_
  refine z_bipush (v := 6) dX11_run_77 (by decide) ?_
  refine z_iadd dX11_run_79 ?_
  replace e := z_bd e; obtain ⟨x3616, ex3616, e⟩ := e
  refine z_iald ex3616 dX11_run_80 ?_
  refine z_icmp_ge (tgt := 105) dX11_run_81 (by decide) (fun c3617 => ?_) (fun c3617 => ?_)
  · rw [if_pos c3617] at e
    exact z_weak [0, 1] rfl (S_X11_run_105   e)
  · rw [if_neg c3617] at e
    refine z_aload_n 0 dX11_run_84 rfl ?_
    refine z_iload_n 1 dX11_run_85 rfl ?_
    refine z_iconst (v := 5) dX11_run_86 (by decide) ?_
    refine z_iadd dX11_run_87 ?_
    replace e := z_bd e; obtain ⟨o3619, eo3619, e⟩ := e
    replace e := z_bd e; obtain ⟨p3618, ep3618, e⟩ := e
    refine z_cV [.int (l1 + (5:Int32))] (S_X11_sumOf  ep3618) eo3619 rfl ml_X11_544 ck_X11_sumOf vk_X11_sumOf dX11_run_88 (by decide) rfl (Nat.zero_le _) rfl ?_
    refine z_istore_n (L' := [(2, .int p3618.1), (0, z_r l0), (1, .int l1)]) dX11_run_91 rfl (by decide) rfl ?_
    refine z_aload_n 1 dX11_run_92 rfl ?_
    replace e := z_bd e; obtain ⟨x3620, ex3620, e⟩ := e
    refine z_getI ex3620 lk_X11_532 dX11_run_93 ?_
    refine z_if_ne (tgt := 103) dX11_run_96 (by decide) (fun c3621 => ?_) (fun c3621 => ?_)
    · rw [if_neg c3621] at e
      refine z_iconst (v := 0) dX11_run_103 (by decide) ?_
      cases e
      exact z_iret dX11_run_104 rfl
    · rw [if_pos c3621] at e
      refine z_iload_n 0 dX11_run_99 rfl ?_
      refine z_if_ne (tgt := 105) dX11_run_100 (by decide) (fun c3622 => ?_) (fun c3622 => ?_)
      · rw [if_neg c3622] at e
        exact z_weak [1, 2] rfl (S_X11_run_105   e)
      · rw [if_pos c3622] at e
        refine z_iconst (v := 0) dX11_run_103 (by decide) ?_
        cases e
        exact z_iret dX11_run_104 rfl
theorem dX11_giveBack_0 : decode cX11_giveBack 0 = .ok (.aload_n 0, 1) := by decide +kernel
theorem dX11_giveBack_1 : decode cX11_giveBack 1 = .ok (.bipush 17, 2) := by decide +kernel
theorem dX11_giveBack_3 : decode cX11_giveBack 3 = .ok (.invokevirtual 183, 3) := by decide +kernel
theorem dX11_giveBack_6 : decode cX11_giveBack 6 = .ok (.iconst 0, 1) := by decide +kernel
theorem dX11_giveBack_7 : decode cX11_giveBack 7 = .ok (.istore_n 2, 1) := by decide +kernel
theorem dX11_giveBack_8 : decode cX11_giveBack 8 = .ok (.iload_n 2, 1) := by decide +kernel
theorem dX11_giveBack_9 : decode cX11_giveBack 9 = .ok (.sipush 624, 3) := by decide +kernel
theorem dX11_giveBack_12 : decode cX11_giveBack 12 = .ok (.if_icmp .ge 21, 3) := by decide +kernel
theorem dX11_giveBack_15 : decode cX11_giveBack 15 = .ok (.aload_n 0, 1) := by decide +kernel
theorem dX11_giveBack_16 : decode cX11_giveBack 16 = .ok (.getfield 23, 3) := by decide +kernel
theorem dX11_giveBack_19 : decode cX11_giveBack 19 = .ok (.iload_n 2, 1) := by decide +kernel
theorem dX11_giveBack_20 : decode cX11_giveBack 20 = .ok (.aload_n 0, 1) := by decide +kernel
theorem dX11_giveBack_21 : decode cX11_giveBack 21 = .ok (.getfield 29, 3) := by decide +kernel
theorem dX11_giveBack_24 : decode cX11_giveBack 24 = .ok (.iload_n 2, 1) := by decide +kernel
theorem dX11_giveBack_25 : decode cX11_giveBack 25 = .ok (.iaload, 1) := by decide +kernel
theorem dX11_giveBack_26 : decode cX11_giveBack 26 = .ok (.iastore, 1) := by decide +kernel
theorem dX11_giveBack_27 : decode cX11_giveBack 27 = .ok (.iinc 2 1, 3) := by decide +kernel
theorem dX11_giveBack_30 : decode cX11_giveBack 30 = .ok (.goto (-22), 3) := by decide +kernel
theorem dX11_giveBack_33 : decode cX11_giveBack 33 = .ok (.iconst 0, 1) := by decide +kernel
theorem dX11_giveBack_34 : decode cX11_giveBack 34 = .ok (.istore_n 2, 1) := by decide +kernel
theorem dX11_giveBack_35 : decode cX11_giveBack 35 = .ok (.iload_n 2, 1) := by decide +kernel
theorem dX11_giveBack_36 : decode cX11_giveBack 36 = .ok (.bipush 16, 2) := by decide +kernel
theorem dX11_giveBack_38 : decode cX11_giveBack 38 = .ok (.if_icmp .ge 21, 3) := by decide +kernel
theorem dX11_giveBack_41 : decode cX11_giveBack 41 = .ok (.aload_n 0, 1) := by decide +kernel
theorem dX11_giveBack_42 : decode cX11_giveBack 42 = .ok (.getfield 26, 3) := by decide +kernel
theorem dX11_giveBack_45 : decode cX11_giveBack 45 = .ok (.iload_n 2, 1) := by decide +kernel
theorem dX11_giveBack_46 : decode cX11_giveBack 46 = .ok (.aload_n 0, 1) := by decide +kernel
theorem dX11_giveBack_47 : decode cX11_giveBack 47 = .ok (.getfield 32, 3) := by decide +kernel
theorem dX11_giveBack_50 : decode cX11_giveBack 50 = .ok (.iload_n 2, 1) := by decide +kernel
theorem dX11_giveBack_51 : decode cX11_giveBack 51 = .ok (.iaload, 1) := by decide +kernel
theorem dX11_giveBack_52 : decode cX11_giveBack 52 = .ok (.iastore, 1) := by decide +kernel
theorem dX11_giveBack_53 : decode cX11_giveBack 53 = .ok (.iinc 2 1, 3) := by decide +kernel
theorem dX11_giveBack_56 : decode cX11_giveBack 56 = .ok (.goto (-21), 3) := by decide +kernel
theorem dX11_giveBack_59 : decode cX11_giveBack 59 = .ok (.aload_n 0, 1) := by decide +kernel
theorem dX11_giveBack_60 : decode cX11_giveBack 60 = .ok (.iload_n 1, 1) := by decide +kernel
theorem dX11_giveBack_61 : decode cX11_giveBack 61 = .ok (.putfield 172, 3) := by decide +kernel
theorem dX11_giveBack_64 : decode cX11_giveBack 64 = .ok (.return_, 1) := by decide +kernel
def D_X11_giveBack_35b (k35 : z_H → Option Nat → Int32 → Int32 → Option z_H) (h : z_H) (l0 : Option Nat) (l1 : Int32) (l2 : Int32) : Option z_H :=
  if (16:Int32) ≤ l2 then
    (z_pV 11 h l0 8 (.int l1)).bind fun h3624 =>
    some h3624
  else
    (z_gQ 11 h l0 7).bind fun x3625 =>
    (z_gQ 11 h l0 10).bind fun x3626 =>
    (z_aI .int h x3626 l2).bind fun x3627 =>
    (z_sI h x3625 l2 x3627).bind fun h3628 =>
    (some (l2 + (1:Int32))).bind fun x3629 =>
    k35 h3628 l0 l1 x3629
def D_X11_giveBack_35 (n : Nat) : z_H → Option Nat → Int32 → Int32 → Option z_H := Nat.rec (motive := fun _ => z_H → Option Nat → Int32 → Int32 → Option z_H) (fun _ _ _ _ => none) (fun _ k => D_X11_giveBack_35b  k) n
set_option maxRecDepth 100000 in
set_option maxHeartbeats 4000000 in
theorem S_X11_giveBack_35 {G : z_G} {l : Launch}  (n : Nat) : ∀ {h : z_H} {l0 : Option Nat} {l1 : Int32} {l2 : Int32} {res : z_H}, D_X11_giveBack_35  n h l0 l1 l2 = some res → z_Run G l 5 M_X11_giveBack 35 [(0, z_r l0), (1, .int l1), (2, .int l2)] [] h res none := by
  induction n with
  | zero => intro h l0 l1 l2 res e; cases e
  | succ n hk35 =>
    intro h l0 l1 l2 res e
    replace e : D_X11_giveBack_35b  (D_X11_giveBack_35  n) h l0 l1 l2 = some res := e
    unfold D_X11_giveBack_35b at e
    refine z_iload_n 2 dX11_giveBack_35 rfl ?_
    refine z_bipush (v := 16) dX11_giveBack_36 (by decide) ?_
    refine z_icmp_ge (tgt := 59) dX11_giveBack_38 (by decide) (fun c3623 => ?_) (fun c3623 => ?_)
    · rw [if_pos c3623] at e
      refine z_aload_n 0 dX11_giveBack_59 rfl ?_
      refine z_iload_n 1 dX11_giveBack_60 rfl ?_
      replace e := z_bd e; obtain ⟨h3624, eh3624, e⟩ := e
      refine z_putV eh3624 lk_X11_172 wk_11_8 (fun _ => rfl) (fun _ => rfl) dX11_giveBack_61 ?_
      cases e
      exact z_vret dX11_giveBack_64 rfl
    · rw [if_neg c3623] at e
      refine z_aload_n 0 dX11_giveBack_41 rfl ?_
      replace e := z_bd e; obtain ⟨x3625, ex3625, e⟩ := e
      refine z_getQ ex3625 lk_X11_26 dX11_giveBack_42 ?_
      refine z_iload_n 2 dX11_giveBack_45 rfl ?_
      refine z_aload_n 0 dX11_giveBack_46 rfl ?_
      replace e := z_bd e; obtain ⟨x3626, ex3626, e⟩ := e
      refine z_getQ ex3626 lk_X11_32 dX11_giveBack_47 ?_
      refine z_iload_n 2 dX11_giveBack_50 rfl ?_
      replace e := z_bd e; obtain ⟨x3627, ex3627, e⟩ := e
      refine z_iald ex3627 dX11_giveBack_51 ?_
      replace e := z_bd e; obtain ⟨h3628, eh3628, e⟩ := e
      refine z_iast eh3628 dX11_giveBack_52 ?_
      replace e := z_bd e; obtain ⟨x3629, ex3629, e⟩ := e
      refine z_iinc (q := 2) (v := x3629) (L' := [(2, .int x3629), (0, z_r l0), (1, .int l1)]) dX11_giveBack_53 rfl (Option.some.inj ex3629) (by decide) rfl ?_
      refine z_goto (tgt := 35) dX11_giveBack_56 (by decide) ?_
      exact z_weak [1, 2, 0] rfl (hk35 e)
def D_X11_giveBack_8b (k8 : z_H → Option Nat → Int32 → Int32 → Option z_H) (h : z_H) (l0 : Option Nat) (l1 : Int32) (l2 : Int32) : Option z_H :=
  if (624:Int32) ≤ l2 then
    D_X11_giveBack_35   z_F h l0 l1 (0:Int32)
  else
    (z_gQ 11 h l0 6).bind fun x3631 =>
    (z_gQ 11 h l0 9).bind fun x3632 =>
    (z_aI .int h x3632 l2).bind fun x3633 =>
    (z_sI h x3631 l2 x3633).bind fun h3634 =>
    (some (l2 + (1:Int32))).bind fun x3635 =>
    k8 h3634 l0 l1 x3635
def D_X11_giveBack_8 (n : Nat) : z_H → Option Nat → Int32 → Int32 → Option z_H := Nat.rec (motive := fun _ => z_H → Option Nat → Int32 → Int32 → Option z_H) (fun _ _ _ _ => none) (fun _ k => D_X11_giveBack_8b  k) n
set_option maxRecDepth 100000 in
set_option maxHeartbeats 4000000 in
theorem S_X11_giveBack_8 {G : z_G} {l : Launch}  (n : Nat) : ∀ {h : z_H} {l0 : Option Nat} {l1 : Int32} {l2 : Int32} {res : z_H}, D_X11_giveBack_8  n h l0 l1 l2 = some res → z_Run G l 5 M_X11_giveBack 8 [(0, z_r l0), (1, .int l1), (2, .int l2)] [] h res none := by
  induction n with
  | zero => intro h l0 l1 l2 res e; cases e
  | succ n hk8 =>
    intro h l0 l1 l2 res e
    replace e : D_X11_giveBack_8b  (D_X11_giveBack_8  n) h l0 l1 l2 = some res := e
    unfold D_X11_giveBack_8b at e
    refine z_iload_n 2 dX11_giveBack_8 rfl ?_
    refine z_sipush (v := 624) dX11_giveBack_9 (by decide) ?_
    refine z_icmp_ge (tgt := 33) dX11_giveBack_12 (by decide) (fun c3630 => ?_) (fun c3630 => ?_)
    · rw [if_pos c3630] at e
      refine z_iconst (v := 0) dX11_giveBack_33 (by decide) ?_
      refine z_istore_n (L' := [(2, .int (0:Int32)), (0, z_r l0), (1, .int l1)]) dX11_giveBack_34 rfl (by decide) rfl ?_
      exact z_weak [1, 2, 0] rfl (S_X11_giveBack_35   z_F e)
    · rw [if_neg c3630] at e
      refine z_aload_n 0 dX11_giveBack_15 rfl ?_
      replace e := z_bd e; obtain ⟨x3631, ex3631, e⟩ := e
      refine z_getQ ex3631 lk_X11_23 dX11_giveBack_16 ?_
      refine z_iload_n 2 dX11_giveBack_19 rfl ?_
      refine z_aload_n 0 dX11_giveBack_20 rfl ?_
      replace e := z_bd e; obtain ⟨x3632, ex3632, e⟩ := e
      refine z_getQ ex3632 lk_X11_29 dX11_giveBack_21 ?_
      refine z_iload_n 2 dX11_giveBack_24 rfl ?_
      replace e := z_bd e; obtain ⟨x3633, ex3633, e⟩ := e
      refine z_iald ex3633 dX11_giveBack_25 ?_
      replace e := z_bd e; obtain ⟨h3634, eh3634, e⟩ := e
      refine z_iast eh3634 dX11_giveBack_26 ?_
      replace e := z_bd e; obtain ⟨x3635, ex3635, e⟩ := e
      refine z_iinc (q := 2) (v := x3635) (L' := [(2, .int x3635), (0, z_r l0), (1, .int l1)]) dX11_giveBack_27 rfl (Option.some.inj ex3635) (by decide) rfl ?_
      refine z_goto (tgt := 8) dX11_giveBack_30 (by decide) ?_
      exact z_weak [1, 2, 0] rfl (hk8 e)
def D_X11_giveBack (h : z_H) (l0 : Option Nat) (l1 : Int32) : Option z_H :=
  (z_ob 11 h l0).bind fun _ =>
  (D_X11_putBack  h l0 (17:Int32)).bind fun p3636 =>
  D_X11_giveBack_8   z_F p3636 l0 l1 (0:Int32)
set_option maxRecDepth 100000 in
set_option maxHeartbeats 4000000 in
theorem S_X11_giveBack {G : z_G} {l : Launch} {h : z_H} {l0 : Option Nat} {l1 : Int32} {res : z_H} (e : D_X11_giveBack h l0 l1 = some res) : z_Meth G l 5 M_X11_giveBack [z_r l0, .int l1] h res none := by
  refine z_Meth.of ck_X11_giveBack.2.2.2.2 (by simp [lg_sl, z_ci, z_cj, z_cr, z_cx]) ck_X11_giveBack.1 ?_
  rw [show lv_args 0 [z_r l0, .int l1] = [(0, z_r l0), (1, .int l1)] from by simp [lv_args, z_ci, z_cj, z_cr, z_cx]]
  unfold D_X11_giveBack at e
  refine z_aload_n 0 dX11_giveBack_0 rfl ?_
  refine z_bipush (v := 17) dX11_giveBack_1 (by decide) ?_
  replace e := z_bd e; obtain ⟨o3637, eo3637, e⟩ := e
  replace e := z_bd e; obtain ⟨p3636, ep3636, e⟩ := e
  refine z_cV [.int (17:Int32)] (S_X11_putBack  ep3636) eo3637 rfl ml_X11_183 ck_X11_putBack vk_X11_putBack dX11_giveBack_3 (by decide) rfl (Nat.zero_le _) rfl ?_
  refine z_iconst (v := 0) dX11_giveBack_6 (by decide) ?_
  refine z_istore_n (L' := [(2, .int (0:Int32)), (0, z_r l0), (1, .int l1)]) dX11_giveBack_7 rfl (by decide) rfl ?_
  exact z_weak [1, 2, 0] rfl (S_X11_giveBack_8   z_F e)
theorem dX11_orders_0 : decode cX11_orders 0 = .ok (.aload_n 0, 1) := by decide +kernel
theorem dX11_orders_1 : decode cX11_orders 1 = .ok (.iconst 0, 1) := by decide +kernel
theorem dX11_orders_2 : decode cX11_orders 2 = .ok (.putfield 166, 3) := by decide +kernel
theorem dX11_orders_5 : decode cX11_orders 5 = .ok (.aload_n 0, 1) := by decide +kernel
theorem dX11_orders_6 : decode cX11_orders 6 = .ok (.iconst (-1), 1) := by decide +kernel
theorem dX11_orders_7 : decode cX11_orders 7 = .ok (.putfield 157, 3) := by decide +kernel
theorem dX11_orders_10 : decode cX11_orders 10 = .ok (.aload_n 0, 1) := by decide +kernel
theorem dX11_orders_11 : decode cX11_orders 11 = .ok (.iconst 1, 1) := by decide +kernel
theorem dX11_orders_12 : decode cX11_orders 12 = .ok (.invokevirtual 386, 3) := by decide +kernel
theorem dX11_orders_15 : decode cX11_orders 15 = .ok (.aload_n 0, 1) := by decide +kernel
theorem dX11_orders_16 : decode cX11_orders 16 = .ok (.invokevirtual 550, 3) := by decide +kernel
theorem dX11_orders_19 : decode cX11_orders 19 = .ok (.aload_n 0, 1) := by decide +kernel
theorem dX11_orders_20 : decode cX11_orders 20 = .ok (.getfield 251, 3) := by decide +kernel
theorem dX11_orders_23 : decode cX11_orders 23 = .ok (.ifCond .ne 23, 3) := by decide +kernel
theorem dX11_orders_26 : decode cX11_orders 26 = .ok (.aload_n 0, 1) := by decide +kernel
theorem dX11_orders_27 : decode cX11_orders 27 = .ok (.bipush 59, 2) := by decide +kernel
theorem dX11_orders_29 : decode cX11_orders 29 = .ok (.invokevirtual 318, 3) := by decide +kernel
theorem dX11_orders_32 : decode cX11_orders 32 = .ok (.ifCond .eq 14, 3) := by decide +kernel
theorem dX11_orders_35 : decode cX11_orders 35 = .ok (.aload_n 0, 1) := by decide +kernel
theorem dX11_orders_36 : decode cX11_orders 36 = .ok (.invokevirtual 255, 3) := by decide +kernel
theorem dX11_orders_39 : decode cX11_orders 39 = .ok (.aload_n 0, 1) := by decide +kernel
theorem dX11_orders_40 : decode cX11_orders 40 = .ok (.invokevirtual 550, 3) := by decide +kernel
theorem dX11_orders_43 : decode cX11_orders 43 = .ok (.goto (-24), 3) := by decide +kernel
theorem dX11_orders_46 : decode cX11_orders 46 = .ok (.aload_n 0, 1) := by decide +kernel
theorem dX11_orders_47 : decode cX11_orders 47 = .ok (.invokevirtual 392, 3) := by decide +kernel
theorem dX11_orders_50 : decode cX11_orders 50 = .ok (.aload_n 0, 1) := by decide +kernel
theorem dX11_orders_51 : decode cX11_orders 51 = .ok (.getfield 251, 3) := by decide +kernel
theorem dX11_orders_54 : decode cX11_orders 54 = .ok (.ifCond .eq 10, 3) := by decide +kernel
theorem dX11_orders_57 : decode cX11_orders 57 = .ok (.aload_n 0, 1) := by decide +kernel
theorem dX11_orders_58 : decode cX11_orders 58 = .ok (.bipush (-6), 2) := by decide +kernel
theorem dX11_orders_60 : decode cX11_orders 60 = .ok (.invokevirtual 175, 3) := by decide +kernel
theorem dX11_orders_63 : decode cX11_orders 63 = .ok (.ireturn, 1) := by decide +kernel
theorem dX11_orders_64 : decode cX11_orders 64 = .ok (.aload_n 0, 1) := by decide +kernel
theorem dX11_orders_65 : decode cX11_orders 65 = .ok (.bipush 17, 2) := by decide +kernel
theorem dX11_orders_67 : decode cX11_orders 67 = .ok (.invokevirtual 179, 3) := by decide +kernel
theorem dX11_orders_70 : decode cX11_orders 70 = .ok (.aload_n 0, 1) := by decide +kernel
theorem dX11_orders_71 : decode cX11_orders 71 = .ok (.getfield 172, 3) := by decide +kernel
theorem dX11_orders_74 : decode cX11_orders 74 = .ok (.istore_n 1, 1) := by decide +kernel
theorem dX11_orders_75 : decode cX11_orders 75 = .ok (.iconst 0, 1) := by decide +kernel
theorem dX11_orders_76 : decode cX11_orders 76 = .ok (.istore_n 2, 1) := by decide +kernel
theorem dX11_orders_77 : decode cX11_orders 77 = .ok (.iload_n 2, 1) := by decide +kernel
theorem dX11_orders_78 : decode cX11_orders 78 = .ok (.sipush 624, 3) := by decide +kernel
theorem dX11_orders_81 : decode cX11_orders 81 = .ok (.if_icmp .ge 21, 3) := by decide +kernel
theorem dX11_orders_84 : decode cX11_orders 84 = .ok (.aload_n 0, 1) := by decide +kernel
theorem dX11_orders_85 : decode cX11_orders 85 = .ok (.getfield 29, 3) := by decide +kernel
theorem dX11_orders_88 : decode cX11_orders 88 = .ok (.iload_n 2, 1) := by decide +kernel
theorem dX11_orders_89 : decode cX11_orders 89 = .ok (.aload_n 0, 1) := by decide +kernel
theorem dX11_orders_90 : decode cX11_orders 90 = .ok (.getfield 23, 3) := by decide +kernel
theorem dX11_orders_93 : decode cX11_orders 93 = .ok (.iload_n 2, 1) := by decide +kernel
theorem dX11_orders_94 : decode cX11_orders 94 = .ok (.iaload, 1) := by decide +kernel
theorem dX11_orders_95 : decode cX11_orders 95 = .ok (.iastore, 1) := by decide +kernel
theorem dX11_orders_96 : decode cX11_orders 96 = .ok (.iinc 2 1, 3) := by decide +kernel
theorem dX11_orders_99 : decode cX11_orders 99 = .ok (.goto (-22), 3) := by decide +kernel
theorem dX11_orders_102 : decode cX11_orders 102 = .ok (.iconst 0, 1) := by decide +kernel
theorem dX11_orders_103 : decode cX11_orders 103 = .ok (.istore_n 2, 1) := by decide +kernel
theorem dX11_orders_104 : decode cX11_orders 104 = .ok (.iload_n 2, 1) := by decide +kernel
theorem dX11_orders_105 : decode cX11_orders 105 = .ok (.bipush 16, 2) := by decide +kernel
theorem dX11_orders_107 : decode cX11_orders 107 = .ok (.if_icmp .ge 21, 3) := by decide +kernel
theorem dX11_orders_110 : decode cX11_orders 110 = .ok (.aload_n 0, 1) := by decide +kernel
theorem dX11_orders_111 : decode cX11_orders 111 = .ok (.getfield 32, 3) := by decide +kernel
theorem dX11_orders_114 : decode cX11_orders 114 = .ok (.iload_n 2, 1) := by decide +kernel
theorem dX11_orders_115 : decode cX11_orders 115 = .ok (.aload_n 0, 1) := by decide +kernel
theorem dX11_orders_116 : decode cX11_orders 116 = .ok (.getfield 26, 3) := by decide +kernel
theorem dX11_orders_119 : decode cX11_orders 119 = .ok (.iload_n 2, 1) := by decide +kernel
theorem dX11_orders_120 : decode cX11_orders 120 = .ok (.iaload, 1) := by decide +kernel
theorem dX11_orders_121 : decode cX11_orders 121 = .ok (.iastore, 1) := by decide +kernel
theorem dX11_orders_122 : decode cX11_orders 122 = .ok (.iinc 2 1, 3) := by decide +kernel
theorem dX11_orders_125 : decode cX11_orders 125 = .ok (.goto (-21), 3) := by decide +kernel
theorem dX11_orders_128 : decode cX11_orders 128 = .ok (.aload_n 0, 1) := by decide +kernel
theorem dX11_orders_129 : decode cX11_orders 129 = .ok (.iconst 0, 1) := by decide +kernel
theorem dX11_orders_130 : decode cX11_orders 130 = .ok (.putfield 535, 3) := by decide +kernel
theorem dX11_orders_133 : decode cX11_orders 133 = .ok (.aload_n 0, 1) := by decide +kernel
theorem dX11_orders_134 : decode cX11_orders 134 = .ok (.iconst (-1), 1) := by decide +kernel
theorem dX11_orders_135 : decode cX11_orders 135 = .ok (.putfield 538, 3) := by decide +kernel
theorem dX11_orders_138 : decode cX11_orders 138 = .ok (.iconst 0, 1) := by decide +kernel
theorem dX11_orders_139 : decode cX11_orders 139 = .ok (.istore_n 2, 1) := by decide +kernel
theorem dX11_orders_140 : decode cX11_orders 140 = .ok (.iload_n 2, 1) := by decide +kernel
theorem dX11_orders_141 : decode cX11_orders 141 = .ok (.aload_n 0, 1) := by decide +kernel
theorem dX11_orders_142 : decode cX11_orders 142 = .ok (.getfield 378, 3) := by decide +kernel
theorem dX11_orders_145 : decode cX11_orders 145 = .ok (.if_icmp .ge 61, 3) := by decide +kernel
theorem dX11_orders_148 : decode cX11_orders 148 = .ok (.iconst 0, 1) := by decide +kernel
theorem dX11_orders_149 : decode cX11_orders 149 = .ok (.istore_n 3, 1) := by decide +kernel
theorem dX11_orders_150 : decode cX11_orders 150 = .ok (.iload_n 3, 1) := by decide +kernel
theorem dX11_orders_151 : decode cX11_orders 151 = .ok (.aload_n 0, 1) := by decide +kernel
theorem dX11_orders_152 : decode cX11_orders 152 = .ok (.getfield 154, 3) := by decide +kernel
theorem dX11_orders_155 : decode cX11_orders 155 = .ok (.bipush 8, 2) := by decide +kernel
theorem dX11_orders_157 : decode cX11_orders 157 = .ok (.iload_n 2, 1) := by decide +kernel
theorem dX11_orders_158 : decode cX11_orders 158 = .ok (.imul, 1) := by decide +kernel
theorem dX11_orders_159 : decode cX11_orders 159 = .ok (.bipush 7, 2) := by decide +kernel
theorem dX11_orders_161 : decode cX11_orders 161 = .ok (.iadd, 1) := by decide +kernel
theorem dX11_orders_162 : decode cX11_orders 162 = .ok (.iaload, 1) := by decide +kernel
theorem dX11_orders_163 : decode cX11_orders 163 = .ok (.if_icmp .ge 37, 3) := by decide +kernel
theorem dX11_orders_166 : decode cX11_orders 166 = .ok (.aload_n 0, 1) := by decide +kernel
theorem dX11_orders_167 : decode cX11_orders 167 = .ok (.bipush 8, 2) := by decide +kernel
theorem dX11_orders_169 : decode cX11_orders 169 = .ok (.iload_n 2, 1) := by decide +kernel
theorem dX11_orders_170 : decode cX11_orders 170 = .ok (.imul, 1) := by decide +kernel
theorem dX11_orders_171 : decode cX11_orders 171 = .ok (.invokevirtual 553, 3) := by decide +kernel
theorem dX11_orders_174 : decode cX11_orders 174 = .ok (.ifCond .ge 20, 3) := by decide +kernel
theorem dX11_orders_177 : decode cX11_orders 177 = .ok (.aload_n 0, 1) := by decide +kernel
theorem dX11_orders_178 : decode cX11_orders 178 = .ok (.iload_n 1, 1) := by decide +kernel
theorem dX11_orders_179 : decode cX11_orders 179 = .ok (.invokevirtual 556, 3) := by decide +kernel
theorem dX11_orders_182 : decode cX11_orders 182 = .ok (.aload_n 0, 1) := by decide +kernel
theorem dX11_orders_183 : decode cX11_orders 183 = .ok (.iload_n 2, 1) := by decide +kernel
theorem dX11_orders_184 : decode cX11_orders 184 = .ok (.putfield 157, 3) := by decide +kernel
theorem dX11_orders_187 : decode cX11_orders 187 = .ok (.aload_n 0, 1) := by decide +kernel
theorem dX11_orders_188 : decode cX11_orders 188 = .ok (.bipush (-3), 2) := by decide +kernel
theorem dX11_orders_190 : decode cX11_orders 190 = .ok (.invokevirtual 175, 3) := by decide +kernel
theorem dX11_orders_193 : decode cX11_orders 193 = .ok (.ireturn, 1) := by decide +kernel
theorem dX11_orders_194 : decode cX11_orders 194 = .ok (.iinc 3 1, 3) := by decide +kernel
theorem dX11_orders_197 : decode cX11_orders 197 = .ok (.goto (-47), 3) := by decide +kernel
theorem dX11_orders_200 : decode cX11_orders 200 = .ok (.iinc 2 1, 3) := by decide +kernel
theorem dX11_orders_203 : decode cX11_orders 203 = .ok (.goto (-63), 3) := by decide +kernel
theorem dX11_orders_206 : decode cX11_orders 206 = .ok (.aload_n 0, 1) := by decide +kernel
theorem dX11_orders_207 : decode cX11_orders 207 = .ok (.aload_n 0, 1) := by decide +kernel
theorem dX11_orders_208 : decode cX11_orders 208 = .ok (.getfield 535, 3) := by decide +kernel
theorem dX11_orders_211 : decode cX11_orders 211 = .ok (.invokevirtual 175, 3) := by decide +kernel
theorem dX11_orders_214 : decode cX11_orders 214 = .ok (.ireturn, 1) := by decide +kernel
def D_X11_orders_150b (k140 : z_H → Option Nat → Int32 → Int32 → Option (Int32 × z_H)) (k150 : z_H → Option Nat → Int32 → Int32 → Int32 → Option (Int32 × z_H)) (h : z_H) (l0 : Option Nat) (l1 : Int32) (l2 : Int32) (l3 : Int32) : Option (Int32 × z_H) :=
  (z_gQ 11 h l0 51).bind fun x3638 =>
  (z_aI .int h x3638 (((8:Int32) * l2) + (7:Int32))).bind fun x3639 =>
  if x3639 ≤ l3 then
    (some (l2 + (1:Int32))).bind fun x3641 =>
    k140 h l0 l1 x3641
  else
    (z_ob 11 h l0).bind fun _ =>
    (D_X11_run  h l0 ((8:Int32) * l2)).bind fun p3642 =>
    if 0 ≤ p3642.1 then
      (some (l3 + (1:Int32))).bind fun x3645 =>
      k150 p3642.2 l0 l1 l2 x3645
    else
      (z_ob 11 p3642.2 l0).bind fun _ =>
      (D_X11_giveBack  p3642.2 l0 l1).bind fun p3646 =>
      (z_pV 11 p3646 l0 54 (.int l2)).bind fun h3648 =>
      (z_ob 11 h3648 l0).bind fun _ =>
      (D_X11_tell  h3648 l0 (-3:Int32)).bind fun p3649 =>
      some (p3649.1, p3649.2)
def D_X11_orders_150 (k140 : z_H → Option Nat → Int32 → Int32 → Option (Int32 × z_H)) (n : Nat) : z_H → Option Nat → Int32 → Int32 → Int32 → Option (Int32 × z_H) := Nat.rec (motive := fun _ => z_H → Option Nat → Int32 → Int32 → Int32 → Option (Int32 × z_H)) (fun _ _ _ _ _ => none) (fun _ k => D_X11_orders_150b k140 k) n
set_option maxRecDepth 100000 in
set_option maxHeartbeats 4000000 in
theorem S_X11_orders_150 {G : z_G} {l : Launch} {k140 : z_H → Option Nat → Int32 → Int32 → Option (Int32 × z_H)} (hk140 : ∀ {h : z_H} {l0 : Option Nat} {l1 : Int32} {l2 : Int32} {res : (Int32 × z_H)}, k140 h l0 l1 l2 = some res → z_Run G l 15 M_X11_orders 140 [(0, z_r l0), (1, .int l1), (2, .int l2)] [] h res.2 (some (.int res.1))) (n : Nat) : ∀ {h : z_H} {l0 : Option Nat} {l1 : Int32} {l2 : Int32} {l3 : Int32} {res : (Int32 × z_H)}, D_X11_orders_150 k140 n h l0 l1 l2 l3 = some res → z_Run G l 15 M_X11_orders 150 [(0, z_r l0), (1, .int l1), (2, .int l2), (3, .int l3)] [] h res.2 (some (.int res.1)) := by
  induction n with
  | zero => intro h l0 l1 l2 l3 res e; cases e
  | succ n hk150 =>
    intro h l0 l1 l2 l3 res e
    replace e : D_X11_orders_150b k140 (D_X11_orders_150 k140 n) h l0 l1 l2 l3 = some res := e
    unfold D_X11_orders_150b at e
    refine z_iload_n 3 dX11_orders_150 rfl ?_
    refine z_aload_n 0 dX11_orders_151 rfl ?_
    replace e := z_bd e; obtain ⟨x3638, ex3638, e⟩ := e
    refine z_getQ ex3638 lk_X11_154 dX11_orders_152 ?_
    refine z_bipush (v := 8) dX11_orders_155 (by decide) ?_
    refine z_iload_n 2 dX11_orders_157 rfl ?_
    refine z_imul dX11_orders_158 ?_
    refine z_bipush (v := 7) dX11_orders_159 (by decide) ?_
    refine z_iadd dX11_orders_161 ?_
    replace e := z_bd e; obtain ⟨x3639, ex3639, e⟩ := e
    refine z_iald ex3639 dX11_orders_162 ?_
    refine z_icmp_ge (tgt := 200) dX11_orders_163 (by decide) (fun c3640 => ?_) (fun c3640 => ?_)
    · rw [if_pos c3640] at e
      replace e := z_bd e; obtain ⟨x3641, ex3641, e⟩ := e
      refine z_iinc (q := 2) (v := x3641) (L' := [(2, .int x3641), (0, z_r l0), (1, .int l1), (3, .int l3)]) dX11_orders_200 rfl (Option.some.inj ex3641) (by decide) rfl ?_
      refine z_goto (tgt := 140) dX11_orders_203 (by decide) ?_
      exact z_weak [1, 2, 0] rfl (hk140 e)
    · rw [if_neg c3640] at e
      refine z_aload_n 0 dX11_orders_166 rfl ?_
      refine z_bipush (v := 8) dX11_orders_167 (by decide) ?_
      refine z_iload_n 2 dX11_orders_169 rfl ?_
      refine z_imul dX11_orders_170 ?_
      replace e := z_bd e; obtain ⟨o3643, eo3643, e⟩ := e
      replace e := z_bd e; obtain ⟨p3642, ep3642, e⟩ := e
      refine z_cV [.int ((8:Int32) * l2)] (S_X11_run  ep3642) eo3643 rfl ml_X11_553 ck_X11_run vk_X11_run dX11_orders_171 (by decide) rfl (Nat.zero_le _) rfl ?_
      refine z_if_ge (tgt := 194) dX11_orders_174 (by decide) (fun c3644 => ?_) (fun c3644 => ?_)
      · rw [if_pos c3644] at e
        replace e := z_bd e; obtain ⟨x3645, ex3645, e⟩ := e
        refine z_iinc (q := 3) (v := x3645) (L' := [(3, .int x3645), (0, z_r l0), (1, .int l1), (2, .int l2)]) dX11_orders_194 rfl (Option.some.inj ex3645) (by decide) rfl ?_
        refine z_goto (tgt := 150) dX11_orders_197 (by decide) ?_
        exact z_weak [1, 2, 3, 0] rfl (hk150 e)
      · rw [if_neg c3644] at e
        refine z_aload_n 0 dX11_orders_177 rfl ?_
        refine z_iload_n 1 dX11_orders_178 rfl ?_
        replace e := z_bd e; obtain ⟨o3647, eo3647, e⟩ := e
        replace e := z_bd e; obtain ⟨p3646, ep3646, e⟩ := e
        refine z_cV [.int l1] (S_X11_giveBack  ep3646) eo3647 rfl ml_X11_556 ck_X11_giveBack vk_X11_giveBack dX11_orders_179 (by decide) rfl (Nat.zero_le _) rfl ?_
        refine z_aload_n 0 dX11_orders_182 rfl ?_
        refine z_iload_n 2 dX11_orders_183 rfl ?_
        replace e := z_bd e; obtain ⟨h3648, eh3648, e⟩ := e
        refine z_putV eh3648 lk_X11_157 wk_11_54 (fun _ => rfl) (fun _ => rfl) dX11_orders_184 ?_
        refine z_aload_n 0 dX11_orders_187 rfl ?_
        refine z_bipush (v := -3) dX11_orders_188 (by decide) ?_
        replace e := z_bd e; obtain ⟨o3650, eo3650, e⟩ := e
        replace e := z_bd e; obtain ⟨p3649, ep3649, e⟩ := e
        refine z_cV [.int (-3:Int32)] (S_X11_tell  ep3649) eo3650 rfl ml_X11_175 ck_X11_tell vk_X11_tell dX11_orders_190 (by decide) rfl (Nat.zero_le _) rfl ?_
        cases e
        exact z_iret dX11_orders_193 rfl
def D_X11_orders_140b (k140 : z_H → Option Nat → Int32 → Int32 → Option (Int32 × z_H)) (h : z_H) (l0 : Option Nat) (l1 : Int32) (l2 : Int32) : Option (Int32 × z_H) :=
  (z_gI 11 h l0 21).bind fun x3651 =>
  if x3651 ≤ l2 then
    (z_gI 11 h l0 52).bind fun x3653 =>
    (z_ob 11 h l0).bind fun _ =>
    (D_X11_tell  h l0 x3653).bind fun p3654 =>
    some (p3654.1, p3654.2)
  else
    D_X11_orders_150  k140 z_F h l0 l1 l2 (0:Int32)
def D_X11_orders_140 (n : Nat) : z_H → Option Nat → Int32 → Int32 → Option (Int32 × z_H) := Nat.rec (motive := fun _ => z_H → Option Nat → Int32 → Int32 → Option (Int32 × z_H)) (fun _ _ _ _ => none) (fun _ k => D_X11_orders_140b  k) n
set_option maxRecDepth 100000 in
set_option maxHeartbeats 4000000 in
theorem S_X11_orders_140 {G : z_G} {l : Launch}  (n : Nat) : ∀ {h : z_H} {l0 : Option Nat} {l1 : Int32} {l2 : Int32} {res : (Int32 × z_H)}, D_X11_orders_140  n h l0 l1 l2 = some res → z_Run G l 15 M_X11_orders 140 [(0, z_r l0), (1, .int l1), (2, .int l2)] [] h res.2 (some (.int res.1)) := by
  induction n with
  | zero => intro h l0 l1 l2 res e; cases e
  | succ n hk140 =>
    intro h l0 l1 l2 res e
    replace e : D_X11_orders_140b  (D_X11_orders_140  n) h l0 l1 l2 = some res := e
    unfold D_X11_orders_140b at e
    refine z_iload_n 2 dX11_orders_140 rfl ?_
    refine z_aload_n 0 dX11_orders_141 rfl ?_
    replace e := z_bd e; obtain ⟨x3651, ex3651, e⟩ := e
    refine z_getI ex3651 lk_X11_378 dX11_orders_142 ?_
    refine z_icmp_ge (tgt := 206) dX11_orders_145 (by decide) (fun c3652 => ?_) (fun c3652 => ?_)
    · rw [if_pos c3652] at e
      refine z_aload_n 0 dX11_orders_206 rfl ?_
      refine z_aload_n 0 dX11_orders_207 rfl ?_
      replace e := z_bd e; obtain ⟨x3653, ex3653, e⟩ := e
      refine z_getI ex3653 lk_X11_535 dX11_orders_208 ?_
      replace e := z_bd e; obtain ⟨o3655, eo3655, e⟩ := e
      replace e := z_bd e; obtain ⟨p3654, ep3654, e⟩ := e
      refine z_cV [.int x3653] (S_X11_tell  ep3654) eo3655 rfl ml_X11_175 ck_X11_tell vk_X11_tell dX11_orders_211 (by decide) rfl (Nat.zero_le _) rfl ?_
      cases e
      exact z_iret dX11_orders_214 rfl
    · rw [if_neg c3652] at e
      refine z_iconst (v := 0) dX11_orders_148 (by decide) ?_
      refine z_istore_n (L' := [(3, .int (0:Int32)), (0, z_r l0), (1, .int l1), (2, .int l2)]) dX11_orders_149 rfl (by decide) rfl ?_
      exact z_weak [1, 2, 3, 0] rfl (S_X11_orders_150  @hk140 z_F e)
def D_X11_orders_104b (k104 : z_H → Option Nat → Int32 → Int32 → Option (Int32 × z_H)) (h : z_H) (l0 : Option Nat) (l1 : Int32) (l2 : Int32) : Option (Int32 × z_H) :=
  if (16:Int32) ≤ l2 then
    (z_pV 11 h l0 52 (.int (0:Int32))).bind fun h3657 =>
    (z_pV 11 h3657 l0 53 (.int (-1:Int32))).bind fun h3658 =>
    D_X11_orders_140   z_F h3658 l0 l1 (0:Int32)
  else
    (z_gQ 11 h l0 10).bind fun x3659 =>
    (z_gQ 11 h l0 7).bind fun x3660 =>
    (z_aI .int h x3660 l2).bind fun x3661 =>
    (z_sI h x3659 l2 x3661).bind fun h3662 =>
    (some (l2 + (1:Int32))).bind fun x3663 =>
    k104 h3662 l0 l1 x3663
def D_X11_orders_104 (n : Nat) : z_H → Option Nat → Int32 → Int32 → Option (Int32 × z_H) := Nat.rec (motive := fun _ => z_H → Option Nat → Int32 → Int32 → Option (Int32 × z_H)) (fun _ _ _ _ => none) (fun _ k => D_X11_orders_104b  k) n
set_option maxRecDepth 100000 in
set_option maxHeartbeats 4000000 in
theorem S_X11_orders_104 {G : z_G} {l : Launch}  (n : Nat) : ∀ {h : z_H} {l0 : Option Nat} {l1 : Int32} {l2 : Int32} {res : (Int32 × z_H)}, D_X11_orders_104  n h l0 l1 l2 = some res → z_Run G l 15 M_X11_orders 104 [(0, z_r l0), (1, .int l1), (2, .int l2)] [] h res.2 (some (.int res.1)) := by
  induction n with
  | zero => intro h l0 l1 l2 res e; cases e
  | succ n hk104 =>
    intro h l0 l1 l2 res e
    replace e : D_X11_orders_104b  (D_X11_orders_104  n) h l0 l1 l2 = some res := e
    unfold D_X11_orders_104b at e
    refine z_iload_n 2 dX11_orders_104 rfl ?_
    refine z_bipush (v := 16) dX11_orders_105 (by decide) ?_
    refine z_icmp_ge (tgt := 128) dX11_orders_107 (by decide) (fun c3656 => ?_) (fun c3656 => ?_)
    · rw [if_pos c3656] at e
      refine z_aload_n 0 dX11_orders_128 rfl ?_
      refine z_iconst (v := 0) dX11_orders_129 (by decide) ?_
      replace e := z_bd e; obtain ⟨h3657, eh3657, e⟩ := e
      refine z_putV eh3657 lk_X11_535 wk_11_52 (fun _ => rfl) (fun _ => rfl) dX11_orders_130 ?_
      refine z_aload_n 0 dX11_orders_133 rfl ?_
      refine z_iconst (v := -1) dX11_orders_134 (by decide) ?_
      replace e := z_bd e; obtain ⟨h3658, eh3658, e⟩ := e
      refine z_putV eh3658 lk_X11_538 wk_11_53 (fun _ => rfl) (fun _ => rfl) dX11_orders_135 ?_
      refine z_iconst (v := 0) dX11_orders_138 (by decide) ?_
      refine z_istore_n (L' := [(2, .int (0:Int32)), (0, z_r l0), (1, .int l1)]) dX11_orders_139 rfl (by decide) rfl ?_
      exact z_weak [1, 2, 0] rfl (S_X11_orders_140   z_F e)
    · rw [if_neg c3656] at e
      refine z_aload_n 0 dX11_orders_110 rfl ?_
      replace e := z_bd e; obtain ⟨x3659, ex3659, e⟩ := e
      refine z_getQ ex3659 lk_X11_32 dX11_orders_111 ?_
      refine z_iload_n 2 dX11_orders_114 rfl ?_
      refine z_aload_n 0 dX11_orders_115 rfl ?_
      replace e := z_bd e; obtain ⟨x3660, ex3660, e⟩ := e
      refine z_getQ ex3660 lk_X11_26 dX11_orders_116 ?_
      refine z_iload_n 2 dX11_orders_119 rfl ?_
      replace e := z_bd e; obtain ⟨x3661, ex3661, e⟩ := e
      refine z_iald ex3661 dX11_orders_120 ?_
      replace e := z_bd e; obtain ⟨h3662, eh3662, e⟩ := e
      refine z_iast eh3662 dX11_orders_121 ?_
      replace e := z_bd e; obtain ⟨x3663, ex3663, e⟩ := e
      refine z_iinc (q := 2) (v := x3663) (L' := [(2, .int x3663), (0, z_r l0), (1, .int l1)]) dX11_orders_122 rfl (Option.some.inj ex3663) (by decide) rfl ?_
      refine z_goto (tgt := 104) dX11_orders_125 (by decide) ?_
      exact z_weak [1, 2, 0] rfl (hk104 e)
def D_X11_orders_77b (k77 : z_H → Option Nat → Int32 → Int32 → Option (Int32 × z_H)) (h : z_H) (l0 : Option Nat) (l1 : Int32) (l2 : Int32) : Option (Int32 × z_H) :=
  if (624:Int32) ≤ l2 then
    D_X11_orders_104   z_F h l0 l1 (0:Int32)
  else
    (z_gQ 11 h l0 9).bind fun x3665 =>
    (z_gQ 11 h l0 6).bind fun x3666 =>
    (z_aI .int h x3666 l2).bind fun x3667 =>
    (z_sI h x3665 l2 x3667).bind fun h3668 =>
    (some (l2 + (1:Int32))).bind fun x3669 =>
    k77 h3668 l0 l1 x3669
def D_X11_orders_77 (n : Nat) : z_H → Option Nat → Int32 → Int32 → Option (Int32 × z_H) := Nat.rec (motive := fun _ => z_H → Option Nat → Int32 → Int32 → Option (Int32 × z_H)) (fun _ _ _ _ => none) (fun _ k => D_X11_orders_77b  k) n
set_option maxRecDepth 100000 in
set_option maxHeartbeats 4000000 in
theorem S_X11_orders_77 {G : z_G} {l : Launch}  (n : Nat) : ∀ {h : z_H} {l0 : Option Nat} {l1 : Int32} {l2 : Int32} {res : (Int32 × z_H)}, D_X11_orders_77  n h l0 l1 l2 = some res → z_Run G l 15 M_X11_orders 77 [(0, z_r l0), (1, .int l1), (2, .int l2)] [] h res.2 (some (.int res.1)) := by
  induction n with
  | zero => intro h l0 l1 l2 res e; cases e
  | succ n hk77 =>
    intro h l0 l1 l2 res e
    replace e : D_X11_orders_77b  (D_X11_orders_77  n) h l0 l1 l2 = some res := e
    unfold D_X11_orders_77b at e
    refine z_iload_n 2 dX11_orders_77 rfl ?_
    refine z_sipush (v := 624) dX11_orders_78 (by decide) ?_
    refine z_icmp_ge (tgt := 102) dX11_orders_81 (by decide) (fun c3664 => ?_) (fun c3664 => ?_)
    · rw [if_pos c3664] at e
      refine z_iconst (v := 0) dX11_orders_102 (by decide) ?_
      refine z_istore_n (L' := [(2, .int (0:Int32)), (0, z_r l0), (1, .int l1)]) dX11_orders_103 rfl (by decide) rfl ?_
      exact z_weak [1, 2, 0] rfl (S_X11_orders_104   z_F e)
    · rw [if_neg c3664] at e
      refine z_aload_n 0 dX11_orders_84 rfl ?_
      replace e := z_bd e; obtain ⟨x3665, ex3665, e⟩ := e
      refine z_getQ ex3665 lk_X11_29 dX11_orders_85 ?_
      refine z_iload_n 2 dX11_orders_88 rfl ?_
      refine z_aload_n 0 dX11_orders_89 rfl ?_
      replace e := z_bd e; obtain ⟨x3666, ex3666, e⟩ := e
      refine z_getQ ex3666 lk_X11_23 dX11_orders_90 ?_
      refine z_iload_n 2 dX11_orders_93 rfl ?_
      replace e := z_bd e; obtain ⟨x3667, ex3667, e⟩ := e
      refine z_iald ex3667 dX11_orders_94 ?_
      replace e := z_bd e; obtain ⟨h3668, eh3668, e⟩ := e
      refine z_iast eh3668 dX11_orders_95 ?_
      replace e := z_bd e; obtain ⟨x3669, ex3669, e⟩ := e
      refine z_iinc (q := 2) (v := x3669) (L' := [(2, .int x3669), (0, z_r l0), (1, .int l1)]) dX11_orders_96 rfl (Option.some.inj ex3669) (by decide) rfl ?_
      refine z_goto (tgt := 77) dX11_orders_99 (by decide) ?_
      exact z_weak [1, 2, 0] rfl (hk77 e)
def D_X11_orders_46 (h : z_H) (l0 : Option Nat) : Option (Int32 × z_H) :=
  (z_ob 11 h l0).bind fun _ =>
  (D_X11_endText  h l0).bind fun p3670 =>
  (z_gI 11 p3670 l0 19).bind fun x3672 =>
  if x3672 = 0 then
    (z_ob 11 p3670 l0).bind fun _ =>
    (D_X11_keepAll  p3670 l0 (17:Int32)).bind fun p3674 =>
    (z_gI 11 p3674 l0 8).bind fun x3676 =>
    D_X11_orders_77   z_F p3674 l0 x3676 (0:Int32)
  else
    (z_ob 11 p3670 l0).bind fun _ =>
    (D_X11_tell  p3670 l0 (-6:Int32)).bind fun p3677 =>
    some (p3677.1, p3677.2)
set_option maxRecDepth 100000 in
set_option maxHeartbeats 4000000 in
theorem S_X11_orders_46 {G : z_G} {l : Launch}  {h : z_H} {l0 : Option Nat} {res : (Int32 × z_H)} (e : D_X11_orders_46  h l0 = some res) : z_Run G l 15 M_X11_orders 46 [(0, z_r l0)] [] h res.2 (some (.int res.1)) := by
  unfold D_X11_orders_46 at e
  refine z_aload_n 0 dX11_orders_46 rfl ?_
  replace e := z_bd e; obtain ⟨o3671, eo3671, e⟩ := e
  replace e := z_bd e; obtain ⟨p3670, ep3670, e⟩ := e
  refine z_cV [] (S_X11_endText  ep3670) eo3671 rfl ml_X11_392 ck_X11_endText vk_X11_endText dX11_orders_47 (by decide) rfl (Nat.zero_le _) rfl ?_
  refine z_aload_n 0 dX11_orders_50 rfl ?_
  replace e := z_bd e; obtain ⟨x3672, ex3672, e⟩ := e
  refine z_getI ex3672 lk_X11_251 dX11_orders_51 ?_
  refine z_if_eq (tgt := 64) dX11_orders_54 (by decide) (fun c3673 => ?_) (fun c3673 => ?_)
  · rw [if_pos c3673] at e
    refine z_aload_n 0 dX11_orders_64 rfl ?_
    refine z_bipush (v := 17) dX11_orders_65 (by decide) ?_
    replace e := z_bd e; obtain ⟨o3675, eo3675, e⟩ := e
    replace e := z_bd e; obtain ⟨p3674, ep3674, e⟩ := e
    refine z_cV [.int (17:Int32)] (S_X11_keepAll  ep3674) eo3675 rfl ml_X11_179 ck_X11_keepAll vk_X11_keepAll dX11_orders_67 (by decide) rfl (Nat.zero_le _) rfl ?_
    refine z_aload_n 0 dX11_orders_70 rfl ?_
    replace e := z_bd e; obtain ⟨x3676, ex3676, e⟩ := e
    refine z_getI ex3676 lk_X11_172 dX11_orders_71 ?_
    refine z_istore_n (L' := [(1, .int x3676), (0, z_r l0)]) dX11_orders_74 rfl (by decide) (by simp [z_cr]) ?_
    refine z_iconst (v := 0) dX11_orders_75 (by decide) ?_
    refine z_istore_n (L' := [(2, .int (0:Int32)), (1, .int x3676), (0, z_r l0)]) dX11_orders_76 rfl (by decide) rfl ?_
    exact z_weak [2, 1, 0] rfl (S_X11_orders_77   z_F e)
  · rw [if_neg c3673] at e
    refine z_aload_n 0 dX11_orders_57 rfl ?_
    refine z_bipush (v := -6) dX11_orders_58 (by decide) ?_
    replace e := z_bd e; obtain ⟨o3678, eo3678, e⟩ := e
    replace e := z_bd e; obtain ⟨p3677, ep3677, e⟩ := e
    refine z_cV [.int (-6:Int32)] (S_X11_tell  ep3677) eo3678 rfl ml_X11_175 ck_X11_tell vk_X11_tell dX11_orders_60 (by decide) rfl (Nat.zero_le _) rfl ?_
    cases e
    exact z_iret dX11_orders_63 rfl
def D_X11_orders_19b (k19 : z_H → Option Nat → Option (Int32 × z_H)) (h : z_H) (l0 : Option Nat) : Option (Int32 × z_H) :=
  (z_gI 11 h l0 19).bind fun x3679 =>
  if x3679 = 0 then
    (z_ob 11 h l0).bind fun _ =>
    (D_X11_isSign  h l0 (59:Int32)).bind fun p3681 =>
    if p3681.1 = 0 then
      D_X11_orders_46   p3681.2 l0
    else
      (z_ob 11 p3681.2 l0).bind fun _ =>
      (D_X11_next  p3681.2 l0).bind fun p3684 =>
      (z_ob 11 p3684 l0).bind fun _ =>
      (D_X11_readOrder  p3684 l0).bind fun p3686 =>
      k19 p3686 l0
  else
    D_X11_orders_46   h l0
def D_X11_orders_19 (n : Nat) : z_H → Option Nat → Option (Int32 × z_H) := Nat.rec (motive := fun _ => z_H → Option Nat → Option (Int32 × z_H)) (fun _ _ => none) (fun _ k => D_X11_orders_19b  k) n
set_option maxRecDepth 100000 in
set_option maxHeartbeats 4000000 in
theorem S_X11_orders_19 {G : z_G} {l : Launch}  (n : Nat) : ∀ {h : z_H} {l0 : Option Nat} {res : (Int32 × z_H)}, D_X11_orders_19  n h l0 = some res → z_Run G l 15 M_X11_orders 19 [(0, z_r l0)] [] h res.2 (some (.int res.1)) := by
  induction n with
  | zero => intro h l0 res e; cases e
  | succ n hk19 =>
    intro h l0 res e
    replace e : D_X11_orders_19b  (D_X11_orders_19  n) h l0 = some res := e
    unfold D_X11_orders_19b at e
    refine z_aload_n 0 dX11_orders_19 rfl ?_
    replace e := z_bd e; obtain ⟨x3679, ex3679, e⟩ := e
    refine z_getI ex3679 lk_X11_251 dX11_orders_20 ?_
    refine z_if_ne (tgt := 46) dX11_orders_23 (by decide) (fun c3680 => ?_) (fun c3680 => ?_)
    · rw [if_neg c3680] at e
      exact z_weak [0] rfl (S_X11_orders_46   e)
    · rw [if_pos c3680] at e
      refine z_aload_n 0 dX11_orders_26 rfl ?_
      refine z_bipush (v := 59) dX11_orders_27 (by decide) ?_
      replace e := z_bd e; obtain ⟨o3682, eo3682, e⟩ := e
      replace e := z_bd e; obtain ⟨p3681, ep3681, e⟩ := e
      refine z_cV [.int (59:Int32)] (S_X11_isSign  ep3681) eo3682 rfl ml_X11_318 ck_X11_isSign vk_X11_isSign dX11_orders_29 (by decide) rfl (Nat.zero_le _) rfl ?_
      refine z_if_eq (tgt := 46) dX11_orders_32 (by decide) (fun c3683 => ?_) (fun c3683 => ?_)
      · rw [if_pos c3683] at e
        exact z_weak [0] rfl (S_X11_orders_46   e)
      · rw [if_neg c3683] at e
        refine z_aload_n 0 dX11_orders_35 rfl ?_
        replace e := z_bd e; obtain ⟨o3685, eo3685, e⟩ := e
        replace e := z_bd e; obtain ⟨p3684, ep3684, e⟩ := e
        refine z_cV [] (S_X11_next  ep3684) eo3685 rfl ml_X11_255 ck_X11_next vk_X11_next dX11_orders_36 (by decide) rfl (Nat.zero_le _) rfl ?_
        refine z_aload_n 0 dX11_orders_39 rfl ?_
        replace e := z_bd e; obtain ⟨o3687, eo3687, e⟩ := e
        replace e := z_bd e; obtain ⟨p3686, ep3686, e⟩ := e
        refine z_cV [] (S_X11_readOrder  ep3686) eo3687 rfl ml_X11_550 ck_X11_readOrder vk_X11_readOrder dX11_orders_40 (by decide) rfl (Nat.zero_le _) rfl ?_
        refine z_goto (tgt := 19) dX11_orders_43 (by decide) ?_
        exact z_weak [0] rfl (hk19 e)
def D_X11_orders (h : z_H) (l0 : Option Nat) : Option (Int32 × z_H) :=
  (z_pV 11 h l0 0 (.int (0:Int32))).bind fun h3688 =>
  (z_pV 11 h3688 l0 54 (.int (-1:Int32))).bind fun h3689 =>
  (z_ob 11 h3689 l0).bind fun _ =>
  (D_X11_beginText  h3689 l0 (1:Int32)).bind fun p3690 =>
  (z_ob 11 p3690 l0).bind fun _ =>
  (D_X11_readOrder  p3690 l0).bind fun p3692 =>
  D_X11_orders_19   z_F p3692 l0
set_option maxRecDepth 100000 in
set_option maxHeartbeats 4000000 in
theorem S_X11_orders {G : z_G} {l : Launch} {h : z_H} {l0 : Option Nat} {res : (Int32 × z_H)} (e : D_X11_orders h l0 = some res) : z_Meth G l 15 M_X11_orders [z_r l0] h res.2 (some (.int res.1)) := by
  refine z_Meth.of ck_X11_orders.2.2.2.2 (by simp [lg_sl, z_ci, z_cj, z_cr, z_cx]) ck_X11_orders.1 ?_
  rw [show lv_args 0 [z_r l0] = [(0, z_r l0)] from by simp [lv_args, z_ci, z_cj, z_cr, z_cx]]
  unfold D_X11_orders at e
  refine z_aload_n 0 dX11_orders_0 rfl ?_
  refine z_iconst (v := 0) dX11_orders_1 (by decide) ?_
  replace e := z_bd e; obtain ⟨h3688, eh3688, e⟩ := e
  refine z_putV eh3688 lk_X11_166 wk_11_0 (fun _ => rfl) (fun _ => rfl) dX11_orders_2 ?_
  refine z_aload_n 0 dX11_orders_5 rfl ?_
  refine z_iconst (v := -1) dX11_orders_6 (by decide) ?_
  replace e := z_bd e; obtain ⟨h3689, eh3689, e⟩ := e
  refine z_putV eh3689 lk_X11_157 wk_11_54 (fun _ => rfl) (fun _ => rfl) dX11_orders_7 ?_
  refine z_aload_n 0 dX11_orders_10 rfl ?_
  refine z_iconst (v := 1) dX11_orders_11 (by decide) ?_
  replace e := z_bd e; obtain ⟨o3691, eo3691, e⟩ := e
  replace e := z_bd e; obtain ⟨p3690, ep3690, e⟩ := e
  refine z_cV [.int (1:Int32)] (S_X11_beginText  ep3690) eo3691 rfl ml_X11_386 ck_X11_beginText vk_X11_beginText dX11_orders_12 (by decide) rfl (Nat.zero_le _) rfl ?_
  refine z_aload_n 0 dX11_orders_15 rfl ?_
  replace e := z_bd e; obtain ⟨o3693, eo3693, e⟩ := e
  replace e := z_bd e; obtain ⟨p3692, ep3692, e⟩ := e
  refine z_cV [] (S_X11_readOrder  ep3692) eo3693 rfl ml_X11_550 ck_X11_readOrder vk_X11_readOrder dX11_orders_16 (by decide) rfl (Nat.zero_le _) rfl ?_
  exact z_weak [0] rfl (S_X11_orders_19   z_F e)
theorem dX7_copy_0 : decode cX7_copy 0 = .ok (.new 8, 3) := by decide +kernel
theorem dX7_copy_3 : decode cX7_copy 3 = .ok (.dup, 1) := by decide +kernel
theorem dX7_copy_4 : decode cX7_copy 4 = .ok (.aload_n 0, 1) := by decide +kernel
theorem dX7_copy_5 : decode cX7_copy 5 = .ok (.getfield 7, 3) := by decide +kernel
theorem dX7_copy_8 : decode cX7_copy 8 = .ok (.aload_n 0, 1) := by decide +kernel
theorem dX7_copy_9 : decode cX7_copy 9 = .ok (.getfield 13, 3) := by decide +kernel
theorem dX7_copy_12 : decode cX7_copy 12 = .ok (.invokespecial 26, 3) := by decide +kernel
theorem dX7_copy_15 : decode cX7_copy 15 = .ok (.astore_n 1, 1) := by decide +kernel
theorem dX7_copy_16 : decode cX7_copy 16 = .ok (.aload_n 0, 1) := by decide +kernel
theorem dX7_copy_17 : decode cX7_copy 17 = .ok (.getfield 16, 3) := by decide +kernel
theorem dX7_copy_20 : decode cX7_copy 20 = .ok (.iconst 0, 1) := by decide +kernel
theorem dX7_copy_21 : decode cX7_copy 21 = .ok (.aload_n 1, 1) := by decide +kernel
theorem dX7_copy_22 : decode cX7_copy 22 = .ok (.getfield 16, 3) := by decide +kernel
theorem dX7_copy_25 : decode cX7_copy 25 = .ok (.iconst 0, 1) := by decide +kernel
theorem dX7_copy_26 : decode cX7_copy 26 = .ok (.aload_n 0, 1) := by decide +kernel
theorem dX7_copy_27 : decode cX7_copy 27 = .ok (.getfield 7, 3) := by decide +kernel
theorem dX7_copy_30 : decode cX7_copy 30 = .ok (.invokestatic 29, 3) := by decide +kernel
theorem dX7_copy_33 : decode cX7_copy 33 = .ok (.aload_n 0, 1) := by decide +kernel
theorem dX7_copy_34 : decode cX7_copy 34 = .ok (.getfield 20, 3) := by decide +kernel
theorem dX7_copy_37 : decode cX7_copy 37 = .ok (.iconst 0, 1) := by decide +kernel
theorem dX7_copy_38 : decode cX7_copy 38 = .ok (.aload_n 1, 1) := by decide +kernel
theorem dX7_copy_39 : decode cX7_copy 39 = .ok (.getfield 20, 3) := by decide +kernel
theorem dX7_copy_42 : decode cX7_copy 42 = .ok (.iconst 0, 1) := by decide +kernel
theorem dX7_copy_43 : decode cX7_copy 43 = .ok (.aload_n 0, 1) := by decide +kernel
theorem dX7_copy_44 : decode cX7_copy 44 = .ok (.getfield 7, 3) := by decide +kernel
theorem dX7_copy_47 : decode cX7_copy 47 = .ok (.invokestatic 29, 3) := by decide +kernel
theorem dX7_copy_50 : decode cX7_copy 50 = .ok (.aload_n 0, 1) := by decide +kernel
theorem dX7_copy_51 : decode cX7_copy 51 = .ok (.getfield 23, 3) := by decide +kernel
theorem dX7_copy_54 : decode cX7_copy 54 = .ok (.iconst 0, 1) := by decide +kernel
theorem dX7_copy_55 : decode cX7_copy 55 = .ok (.aload_n 1, 1) := by decide +kernel
theorem dX7_copy_56 : decode cX7_copy 56 = .ok (.getfield 23, 3) := by decide +kernel
theorem dX7_copy_59 : decode cX7_copy 59 = .ok (.iconst 0, 1) := by decide +kernel
theorem dX7_copy_60 : decode cX7_copy 60 = .ok (.aload_n 0, 1) := by decide +kernel
theorem dX7_copy_61 : decode cX7_copy 61 = .ok (.getfield 13, 3) := by decide +kernel
theorem dX7_copy_64 : decode cX7_copy 64 = .ok (.bipush 6, 2) := by decide +kernel
theorem dX7_copy_66 : decode cX7_copy 66 = .ok (.imul, 1) := by decide +kernel
theorem dX7_copy_67 : decode cX7_copy 67 = .ok (.invokestatic 29, 3) := by decide +kernel
theorem dX7_copy_70 : decode cX7_copy 70 = .ok (.aload_n 1, 1) := by decide +kernel
theorem dX7_copy_71 : decode cX7_copy 71 = .ok (.aload_n 0, 1) := by decide +kernel
theorem dX7_copy_72 : decode cX7_copy 72 = .ok (.getfield 7, 3) := by decide +kernel
theorem dX7_copy_75 : decode cX7_copy 75 = .ok (.putfield 7, 3) := by decide +kernel
theorem dX7_copy_78 : decode cX7_copy 78 = .ok (.aload_n 1, 1) := by decide +kernel
theorem dX7_copy_79 : decode cX7_copy 79 = .ok (.aload_n 0, 1) := by decide +kernel
theorem dX7_copy_80 : decode cX7_copy 80 = .ok (.getfield 13, 3) := by decide +kernel
theorem dX7_copy_83 : decode cX7_copy 83 = .ok (.putfield 13, 3) := by decide +kernel
theorem dX7_copy_86 : decode cX7_copy 86 = .ok (.aload_n 1, 1) := by decide +kernel
theorem dX7_copy_87 : decode cX7_copy 87 = .ok (.areturn, 1) := by decide +kernel
def D_X7_copy (h : z_H) (l0 : Option Nat) : Option (Option Nat × z_H) :=
  (some (z_new h 5 (.inr (7, [.null, .null, .null, .int 0, .int 0])))).bind fun h3694 =>
  (z_gI 7 h3694 l0 3).bind fun x3695 =>
  (z_gI 7 h3694 l0 4).bind fun x3696 =>
  (D_X7_init  h3694 (some h.1) x3695 x3696).bind fun p3697 =>
  (z_gQ 7 p3697 l0 0).bind fun x3698 =>
  (z_gQ 7 p3697 (some h.1) 0).bind fun x3699 =>
  (z_gI 7 p3697 l0 3).bind fun x3700 =>
  (z_cI p3697 x3698 (0:Int32) x3699 (0:Int32) x3700).bind fun h3701 =>
  (z_gQ 7 h3701 l0 1).bind fun x3702 =>
  (z_gQ 7 h3701 (some h.1) 1).bind fun x3703 =>
  (z_gI 7 h3701 l0 3).bind fun x3704 =>
  (z_cI h3701 x3702 (0:Int32) x3703 (0:Int32) x3704).bind fun h3705 =>
  (z_gQ 7 h3705 l0 2).bind fun x3706 =>
  (z_gQ 7 h3705 (some h.1) 2).bind fun x3707 =>
  (z_gI 7 h3705 l0 4).bind fun x3708 =>
  (z_cI h3705 x3706 (0:Int32) x3707 (0:Int32) (x3708 * (6:Int32))).bind fun h3709 =>
  (z_gI 7 h3709 l0 3).bind fun x3710 =>
  (z_pV 7 h3709 (some h.1) 3 (.int x3710)).bind fun h3711 =>
  (z_gI 7 h3711 l0 4).bind fun x3712 =>
  (z_pV 7 h3711 (some h.1) 4 (.int x3712)).bind fun h3713 =>
  some ((some h.1), h3713)
set_option maxRecDepth 100000 in
set_option maxHeartbeats 4000000 in
theorem S_X7_copy {G : z_G} {l : Launch} {h : z_H} {l0 : Option Nat} {res : (Option Nat × z_H)} (e : D_X7_copy h l0 = some res) : z_Meth G l 5 M_X7_copy [z_r l0] h res.2 (some (z_r res.1)) := by
  refine z_Meth.of ck_X7_copy.2.2.2.2 (by simp [lg_sl, z_ci, z_cj, z_cr, z_cx]) ck_X7_copy.1 ?_
  rw [show lv_args 0 [z_r l0] = [(0, z_r l0)] from by simp [lv_args, z_ci, z_cj, z_cr, z_cx]]
  unfold D_X7_copy at e
  replace e := z_bd e; obtain ⟨h3694, eh3694, e⟩ := e
  refine z_newE eh3694 nk_X7_8 dX7_copy_0 ?_
  refine z_dup dX7_copy_3 (z_cr _) ?_
  refine z_aload_n 0 dX7_copy_4 rfl ?_
  replace e := z_bd e; obtain ⟨x3695, ex3695, e⟩ := e
  refine z_getI ex3695 lk_X7_7 dX7_copy_5 ?_
  refine z_aload_n 0 dX7_copy_8 rfl ?_
  replace e := z_bd e; obtain ⟨x3696, ex3696, e⟩ := e
  refine z_getI ex3696 lk_X7_13 dX7_copy_9 ?_
  replace e := z_bd e; obtain ⟨p3697, ep3697, e⟩ := e
  refine z_cI' [.int x3695, .int x3696] (S_X7_init  ep3697) rfl ml_X7_26 ck_X7_init im_X7_init rfl dX7_copy_12 (by decide) rfl (by simp [z_ci, z_cj, z_cr, z_cx]) rfl ?_
  refine z_astore_n (L' := [(1, z_r (some h.1)), (0, z_r l0)]) dX7_copy_15 rfl (by decide) (by simp [z_cr]) ?_
  refine z_aload_n 1 dX7_copy_16 rfl ?_
  replace e := z_bd e; obtain ⟨x3698, ex3698, e⟩ := e
  refine z_getQ ex3698 lk_X7_16 dX7_copy_17 ?_
  refine z_iconst (v := 0) dX7_copy_20 (by decide) ?_
  refine z_aload_n 0 dX7_copy_21 rfl ?_
  replace e := z_bd e; obtain ⟨x3699, ex3699, e⟩ := e
  refine z_getQ ex3699 lk_X7_16 dX7_copy_22 ?_
  refine z_iconst (v := 0) dX7_copy_25 (by decide) ?_
  refine z_aload_n 1 dX7_copy_26 rfl ?_
  replace e := z_bd e; obtain ⟨x3700, ex3700, e⟩ := e
  refine z_getI ex3700 lk_X7_7 dX7_copy_27 ?_
  replace e := z_bd e; obtain ⟨h3701, eh3701, e⟩ := e
  refine z_cpyI eh3701 ml_X7_29 z_acok (by decide) (Nat.zero_le _) dX7_copy_30 ?_
  refine z_aload_n 1 dX7_copy_33 rfl ?_
  replace e := z_bd e; obtain ⟨x3702, ex3702, e⟩ := e
  refine z_getQ ex3702 lk_X7_20 dX7_copy_34 ?_
  refine z_iconst (v := 0) dX7_copy_37 (by decide) ?_
  refine z_aload_n 0 dX7_copy_38 rfl ?_
  replace e := z_bd e; obtain ⟨x3703, ex3703, e⟩ := e
  refine z_getQ ex3703 lk_X7_20 dX7_copy_39 ?_
  refine z_iconst (v := 0) dX7_copy_42 (by decide) ?_
  refine z_aload_n 1 dX7_copy_43 rfl ?_
  replace e := z_bd e; obtain ⟨x3704, ex3704, e⟩ := e
  refine z_getI ex3704 lk_X7_7 dX7_copy_44 ?_
  replace e := z_bd e; obtain ⟨h3705, eh3705, e⟩ := e
  refine z_cpyI eh3705 ml_X7_29 z_acok (by decide) (Nat.zero_le _) dX7_copy_47 ?_
  refine z_aload_n 1 dX7_copy_50 rfl ?_
  replace e := z_bd e; obtain ⟨x3706, ex3706, e⟩ := e
  refine z_getQ ex3706 lk_X7_23 dX7_copy_51 ?_
  refine z_iconst (v := 0) dX7_copy_54 (by decide) ?_
  refine z_aload_n 0 dX7_copy_55 rfl ?_
  replace e := z_bd e; obtain ⟨x3707, ex3707, e⟩ := e
  refine z_getQ ex3707 lk_X7_23 dX7_copy_56 ?_
  refine z_iconst (v := 0) dX7_copy_59 (by decide) ?_
  refine z_aload_n 1 dX7_copy_60 rfl ?_
  replace e := z_bd e; obtain ⟨x3708, ex3708, e⟩ := e
  refine z_getI ex3708 lk_X7_13 dX7_copy_61 ?_
  refine z_bipush (v := 6) dX7_copy_64 (by decide) ?_
  refine z_imul dX7_copy_66 ?_
  replace e := z_bd e; obtain ⟨h3709, eh3709, e⟩ := e
  refine z_cpyI eh3709 ml_X7_29 z_acok (by decide) (Nat.zero_le _) dX7_copy_67 ?_
  refine z_aload_n 0 dX7_copy_70 rfl ?_
  refine z_aload_n 1 dX7_copy_71 rfl ?_
  replace e := z_bd e; obtain ⟨x3710, ex3710, e⟩ := e
  refine z_getI ex3710 lk_X7_7 dX7_copy_72 ?_
  replace e := z_bd e; obtain ⟨h3711, eh3711, e⟩ := e
  refine z_putV eh3711 lk_X7_7 wk_7_3 (fun _ => rfl) (fun _ => rfl) dX7_copy_75 ?_
  refine z_aload_n 0 dX7_copy_78 rfl ?_
  refine z_aload_n 1 dX7_copy_79 rfl ?_
  replace e := z_bd e; obtain ⟨x3712, ex3712, e⟩ := e
  refine z_getI ex3712 lk_X7_13 dX7_copy_80 ?_
  replace e := z_bd e; obtain ⟨h3713, eh3713, e⟩ := e
  refine z_putV eh3713 lk_X7_13 wk_7_4 (fun _ => rfl) (fun _ => rfl) dX7_copy_83 ?_
  refine z_aload_n 0 dX7_copy_86 rfl ?_
  cases e
  exact z_aret dX7_copy_87 rfl ⟨_, rfl⟩
theorem dX10_law_0 : decode cX10_law 0 = .ok (.aload_n 0, 1) := by decide +kernel
theorem dX10_law_1 : decode cX10_law 1 = .ok (.getfield 12, 3) := by decide +kernel
theorem dX10_law_4 : decode cX10_law 4 = .ok (.getfield 181, 3) := by decide +kernel
theorem dX10_law_7 : decode cX10_law 7 = .ok (.bipush 6, 2) := by decide +kernel
theorem dX10_law_9 : decode cX10_law 9 = .ok (.if_icmp .lt 18, 3) := by decide +kernel
theorem dX10_law_12 : decode cX10_law 12 = .ok (.aload_n 0, 1) := by decide +kernel
theorem dX10_law_13 : decode cX10_law 13 = .ok (.getfield 37, 3) := by decide +kernel
theorem dX10_law_16 : decode cX10_law 16 = .ok (.iconst 0, 1) := by decide +kernel
theorem dX10_law_17 : decode cX10_law 17 = .ok (.putfield 171, 3) := by decide +kernel
theorem dX10_law_20 : decode cX10_law 20 = .ok (.aload_n 0, 1) := by decide +kernel
theorem dX10_law_21 : decode cX10_law 21 = .ok (.bipush (-5), 2) := by decide +kernel
theorem dX10_law_23 : decode cX10_law 23 = .ok (.invokevirtual 104, 3) := by decide +kernel
theorem dX10_law_26 : decode cX10_law 26 = .ok (.ireturn, 1) := by decide +kernel
theorem dX10_law_27 : decode cX10_law 27 = .ok (.aload_n 0, 1) := by decide +kernel
theorem dX10_law_28 : decode cX10_law 28 = .ok (.getfield 37, 3) := by decide +kernel
theorem dX10_law_31 : decode cX10_law 31 = .ok (.iconst 0, 1) := by decide +kernel
theorem dX10_law_32 : decode cX10_law 32 = .ok (.invokevirtual 184, 3) := by decide +kernel
theorem dX10_law_35 : decode cX10_law 35 = .ok (.istore_n 1, 1) := by decide +kernel
theorem dX10_law_36 : decode cX10_law 36 = .ok (.aload_n 0, 1) := by decide +kernel
theorem dX10_law_37 : decode cX10_law 37 = .ok (.getfield 37, 3) := by decide +kernel
theorem dX10_law_40 : decode cX10_law 40 = .ok (.iconst 0, 1) := by decide +kernel
theorem dX10_law_41 : decode cX10_law 41 = .ok (.putfield 171, 3) := by decide +kernel
theorem dX10_law_44 : decode cX10_law 44 = .ok (.iload_n 1, 1) := by decide +kernel
theorem dX10_law_45 : decode cX10_law 45 = .ok (.ifCond .ne 10, 3) := by decide +kernel
theorem dX10_law_48 : decode cX10_law 48 = .ok (.aload_n 0, 1) := by decide +kernel
theorem dX10_law_49 : decode cX10_law 49 = .ok (.bipush (-6), 2) := by decide +kernel
theorem dX10_law_51 : decode cX10_law 51 = .ok (.invokevirtual 104, 3) := by decide +kernel
theorem dX10_law_54 : decode cX10_law 54 = .ok (.ireturn, 1) := by decide +kernel
theorem dX10_law_55 : decode cX10_law 55 = .ok (.aload_n 0, 1) := by decide +kernel
theorem dX10_law_56 : decode cX10_law 56 = .ok (.getfield 12, 3) := by decide +kernel
theorem dX10_law_59 : decode cX10_law 59 = .ok (.getfield 188, 3) := by decide +kernel
theorem dX10_law_62 : decode cX10_law 62 = .ok (.aload_n 0, 1) := by decide +kernel
theorem dX10_law_63 : decode cX10_law 63 = .ok (.getfield 12, 3) := by decide +kernel
theorem dX10_law_66 : decode cX10_law 66 = .ok (.getfield 181, 3) := by decide +kernel
theorem dX10_law_69 : decode cX10_law 69 = .ok (.aload_n 0, 1) := by decide +kernel
theorem dX10_law_70 : decode cX10_law 70 = .ok (.getfield 37, 3) := by decide +kernel
theorem dX10_law_73 : decode cX10_law 73 = .ok (.getfield 192, 3) := by decide +kernel
theorem dX10_law_76 : decode cX10_law 76 = .ok (.invokevirtual 196, 3) := by decide +kernel
theorem dX10_law_79 : decode cX10_law 79 = .ok (.aastore, 1) := by decide +kernel
theorem dX10_law_80 : decode cX10_law 80 = .ok (.aload_n 0, 1) := by decide +kernel
theorem dX10_law_81 : decode cX10_law 81 = .ok (.getfield 12, 3) := by decide +kernel
theorem dX10_law_84 : decode cX10_law 84 = .ok (.dup, 1) := by decide +kernel
theorem dX10_law_85 : decode cX10_law 85 = .ok (.getfield 181, 3) := by decide +kernel
theorem dX10_law_88 : decode cX10_law 88 = .ok (.iconst 1, 1) := by decide +kernel
theorem dX10_law_89 : decode cX10_law 89 = .ok (.iadd, 1) := by decide +kernel
theorem dX10_law_90 : decode cX10_law 90 = .ok (.putfield 181, 3) := by decide +kernel
theorem dX10_law_93 : decode cX10_law 93 = .ok (.aload_n 0, 1) := by decide +kernel
theorem dX10_law_94 : decode cX10_law 94 = .ok (.aload_n 0, 1) := by decide +kernel
theorem dX10_law_95 : decode cX10_law 95 = .ok (.getfield 12, 3) := by decide +kernel
theorem dX10_law_98 : decode cX10_law 98 = .ok (.getfield 181, 3) := by decide +kernel
theorem dX10_law_101 : decode cX10_law 101 = .ok (.iconst 1, 1) := by decide +kernel
theorem dX10_law_102 : decode cX10_law 102 = .ok (.isub, 1) := by decide +kernel
theorem dX10_law_103 : decode cX10_law 103 = .ok (.invokevirtual 118, 3) := by decide +kernel
theorem dX10_law_106 : decode cX10_law 106 = .ok (.ireturn, 1) := by decide +kernel
def D_X10_law (h : z_H) (l0 : Option Nat) : Option (Int32 × z_H) :=
  (z_gQ 10 h l0 0).bind fun x3714 =>
  (z_gI 9 h x3714 11).bind fun x3715 =>
  if x3715 < (6:Int32) then
    (z_gQ 10 h l0 5).bind fun x3717 =>
    (z_ob 5 h x3717).bind fun _ =>
    (D_X5_read  h x3717 (0:Int32)).bind fun p3718 =>
    (z_gQ 10 p3718.2 l0 5).bind fun x3720 =>
    (z_pV 5 p3718.2 x3720 2 (.int (0:Int32))).bind fun h3721 =>
    if p3718.1 = 0 then
      (z_ob 10 h3721 l0).bind fun _ =>
      (D_X10_refuse  h3721 l0 (-6:Int32)).bind fun p3739 =>
      some (p3739.1, p3739.2)
    else
      (z_gQ 10 h3721 l0 0).bind fun x3723 =>
      (z_gQ 9 h3721 x3723 7).bind fun x3724 =>
      (z_gQ 10 h3721 l0 0).bind fun x3725 =>
      (z_gI 9 h3721 x3725 11).bind fun x3726 =>
      (z_gQ 10 h3721 l0 5).bind fun x3727 =>
      (z_gQ 5 h3721 x3727 1).bind fun x3728 =>
      (z_ob 7 h3721 x3728).bind fun _ =>
      (D_X7_copy  h3721 x3728).bind fun p3729 =>
      (z_sQ RX7 7 p3729.2 x3724 x3726 p3729.1).bind fun h3731 =>
      (z_gQ 10 h3731 l0 0).bind fun x3732 =>
      (z_gI 9 h3731 x3732 11).bind fun x3733 =>
      (z_pV 9 h3731 x3732 11 (.int (x3733 + (1:Int32)))).bind fun h3734 =>
      (z_gQ 10 h3734 l0 0).bind fun x3735 =>
      (z_gI 9 h3734 x3735 11).bind fun x3736 =>
      (z_ob 10 h3734 l0).bind fun _ =>
      (D_X10_grant  h3734 l0 (x3736 - (1:Int32))).bind fun p3737 =>
      some (p3737.1, p3737.2)
  else
    (z_gQ 10 h l0 5).bind fun x3741 =>
    (z_pV 5 h x3741 2 (.int (0:Int32))).bind fun h3742 =>
    (z_ob 10 h3742 l0).bind fun _ =>
    (D_X10_refuse  h3742 l0 (-5:Int32)).bind fun p3743 =>
    some (p3743.1, p3743.2)
set_option maxRecDepth 100000 in
set_option maxHeartbeats 4000000 in
theorem S_X10_law {G : z_G} {l : Launch} {h : z_H} {l0 : Option Nat} {res : (Int32 × z_H)} (e : D_X10_law h l0 = some res) : z_Meth G l 99 M_X10_law [z_r l0] h res.2 (some (.int res.1)) := by
  refine z_Meth.of ck_X10_law.2.2.2.2 (by simp [lg_sl, z_ci, z_cj, z_cr, z_cx]) ck_X10_law.1 ?_
  rw [show lv_args 0 [z_r l0] = [(0, z_r l0)] from by simp [lv_args, z_ci, z_cj, z_cr, z_cx]]
  unfold D_X10_law at e
  refine z_aload_n 0 dX10_law_0 rfl ?_
  replace e := z_bd e; obtain ⟨x3714, ex3714, e⟩ := e
  refine z_getQ ex3714 lk_X10_12 dX10_law_1 ?_
  replace e := z_bd e; obtain ⟨x3715, ex3715, e⟩ := e
  refine z_getI ex3715 lk_X10_181 dX10_law_4 ?_
  refine z_bipush (v := 6) dX10_law_7 (by decide) ?_
  refine z_icmp_lt (tgt := 27) dX10_law_9 (by decide) (fun c3716 => ?_) (fun c3716 => ?_)
  · rw [if_pos c3716] at e
    refine z_aload_n 0 dX10_law_27 rfl ?_
    replace e := z_bd e; obtain ⟨x3717, ex3717, e⟩ := e
    refine z_getQ ex3717 lk_X10_37 dX10_law_28 ?_
    refine z_iconst (v := 0) dX10_law_31 (by decide) ?_
    replace e := z_bd e; obtain ⟨o3719, eo3719, e⟩ := e
    replace e := z_bd e; obtain ⟨p3718, ep3718, e⟩ := e
    refine z_cV [.int (0:Int32)] (S_X5_read  ep3718) eo3719 rfl ml_X10_184 ck_X5_read vk_X5_read dX10_law_32 (by decide) rfl (Nat.zero_le _) rfl ?_
    refine z_istore_n (L' := [(1, .int p3718.1), (0, z_r l0)]) dX10_law_35 rfl (by decide) (by simp [z_cr]) ?_
    refine z_aload_n 1 dX10_law_36 rfl ?_
    replace e := z_bd e; obtain ⟨x3720, ex3720, e⟩ := e
    refine z_getQ ex3720 lk_X10_37 dX10_law_37 ?_
    refine z_iconst (v := 0) dX10_law_40 (by decide) ?_
    replace e := z_bd e; obtain ⟨h3721, eh3721, e⟩ := e
    refine z_putV eh3721 lk_X10_171 wk_5_2 (fun _ => rfl) (fun _ => rfl) dX10_law_41 ?_
    refine z_iload_n 0 dX10_law_44 rfl ?_
    refine z_if_ne (tgt := 55) dX10_law_45 (by decide) (fun c3722 => ?_) (fun c3722 => ?_)
    · rw [if_neg c3722] at e
      refine z_aload_n 1 dX10_law_55 rfl ?_
      replace e := z_bd e; obtain ⟨x3723, ex3723, e⟩ := e
      refine z_getQ ex3723 lk_X10_12 dX10_law_56 ?_
      replace e := z_bd e; obtain ⟨x3724, ex3724, e⟩ := e
      refine z_getQ ex3724 lk_X10_188 dX10_law_59 ?_
      refine z_aload_n 1 dX10_law_62 rfl ?_
      replace e := z_bd e; obtain ⟨x3725, ex3725, e⟩ := e
      refine z_getQ ex3725 lk_X10_12 dX10_law_63 ?_
      replace e := z_bd e; obtain ⟨x3726, ex3726, e⟩ := e
      refine z_getI ex3726 lk_X10_181 dX10_law_66 ?_
      refine z_aload_n 1 dX10_law_69 rfl ?_
      replace e := z_bd e; obtain ⟨x3727, ex3727, e⟩ := e
      refine z_getQ ex3727 lk_X10_37 dX10_law_70 ?_
      replace e := z_bd e; obtain ⟨x3728, ex3728, e⟩ := e
      refine z_getQ ex3728 lk_X10_192 dX10_law_73 ?_
      replace e := z_bd e; obtain ⟨o3730, eo3730, e⟩ := e
      replace e := z_bd e; obtain ⟨p3729, ep3729, e⟩ := e
      refine z_cV [] (S_X7_copy  ep3729) eo3730 rfl ml_X10_196 ck_X7_copy vk_X7_copy dX10_law_76 (by decide) rfl (by simp [z_ci, z_cj, z_cr, z_cx]) rfl ?_
      replace e := z_bd e; obtain ⟨h3731, eh3731, e⟩ := e
      refine z_aast 4 rfl rfl eh3731 dX10_law_79 ?_
      refine z_aload_n 1 dX10_law_80 rfl ?_
      replace e := z_bd e; obtain ⟨x3732, ex3732, e⟩ := e
      refine z_getQ ex3732 lk_X10_12 dX10_law_81 ?_
      refine z_dup dX10_law_84 (z_cr _) ?_
      replace e := z_bd e; obtain ⟨x3733, ex3733, e⟩ := e
      refine z_getI ex3733 lk_X10_181 dX10_law_85 ?_
      refine z_iconst (v := 1) dX10_law_88 (by decide) ?_
      refine z_iadd dX10_law_89 ?_
      replace e := z_bd e; obtain ⟨h3734, eh3734, e⟩ := e
      refine z_putV eh3734 lk_X10_181 wk_9_11 (fun _ => rfl) (fun _ => rfl) dX10_law_90 ?_
      refine z_aload_n 1 dX10_law_93 rfl ?_
      refine z_aload_n 1 dX10_law_94 rfl ?_
      replace e := z_bd e; obtain ⟨x3735, ex3735, e⟩ := e
      refine z_getQ ex3735 lk_X10_12 dX10_law_95 ?_
      replace e := z_bd e; obtain ⟨x3736, ex3736, e⟩ := e
      refine z_getI ex3736 lk_X10_181 dX10_law_98 ?_
      refine z_iconst (v := 1) dX10_law_101 (by decide) ?_
      refine z_isub dX10_law_102 ?_
      replace e := z_bd e; obtain ⟨o3738, eo3738, e⟩ := e
      replace e := z_bd e; obtain ⟨p3737, ep3737, e⟩ := e
      refine z_cV [.int (x3736 - (1:Int32))] (S_X10_grant  ep3737) eo3738 rfl ml_X10_118 ck_X10_grant vk_X10_grant dX10_law_103 (by decide) rfl (Nat.zero_le _) rfl ?_
      cases e
      exact z_iret dX10_law_106 rfl
    · rw [if_pos c3722] at e
      refine z_aload_n 1 dX10_law_48 rfl ?_
      refine z_bipush (v := -6) dX10_law_49 (by decide) ?_
      replace e := z_bd e; obtain ⟨o3740, eo3740, e⟩ := e
      replace e := z_bd e; obtain ⟨p3739, ep3739, e⟩ := e
      refine z_cV [.int (-6:Int32)] (S_X10_refuse  ep3739) eo3740 rfl ml_X10_104 ck_X10_refuse vk_X10_refuse dX10_law_51 (by decide) rfl (Nat.zero_le _) rfl ?_
      cases e
      exact z_iret dX10_law_54 rfl
  · rw [if_neg c3716] at e
    refine z_aload_n 0 dX10_law_12 rfl ?_
    replace e := z_bd e; obtain ⟨x3741, ex3741, e⟩ := e
    refine z_getQ ex3741 lk_X10_37 dX10_law_13 ?_
    refine z_iconst (v := 0) dX10_law_16 (by decide) ?_
    replace e := z_bd e; obtain ⟨h3742, eh3742, e⟩ := e
    refine z_putV eh3742 lk_X10_171 wk_5_2 (fun _ => rfl) (fun _ => rfl) dX10_law_17 ?_
    refine z_aload_n 0 dX10_law_20 rfl ?_
    refine z_bipush (v := -5) dX10_law_21 (by decide) ?_
    replace e := z_bd e; obtain ⟨o3744, eo3744, e⟩ := e
    replace e := z_bd e; obtain ⟨p3743, ep3743, e⟩ := e
    refine z_cV [.int (-5:Int32)] (S_X10_refuse  ep3743) eo3744 rfl ml_X10_104 ck_X10_refuse vk_X10_refuse dX10_law_23 (by decide) rfl (Nat.zero_le _) rfl ?_
    cases e
    exact z_iret dX10_law_26 rfl
theorem dX11_readLaw_0 : decode cX11_readLaw 0 = .ok (.iconst (-1), 1) := by decide +kernel
theorem dX11_readLaw_1 : decode cX11_readLaw 1 = .ok (.istore_n 1, 1) := by decide +kernel
theorem dX11_readLaw_2 : decode cX11_readLaw 2 = .ok (.iconst 0, 1) := by decide +kernel
theorem dX11_readLaw_3 : decode cX11_readLaw 3 = .ok (.istore_n 2, 1) := by decide +kernel
theorem dX11_readLaw_4 : decode cX11_readLaw 4 = .ok (.iload_n 2, 1) := by decide +kernel
theorem dX11_readLaw_5 : decode cX11_readLaw 5 = .ok (.iconst 3, 1) := by decide +kernel
theorem dX11_readLaw_6 : decode cX11_readLaw 6 = .ok (.if_icmp .ge 28, 3) := by decide +kernel
theorem dX11_readLaw_9 : decode cX11_readLaw 9 = .ok (.aload_n 0, 1) := by decide +kernel
theorem dX11_readLaw_10 : decode cX11_readLaw 10 = .ok (.aload_n 0, 1) := by decide +kernel
theorem dX11_readLaw_11 : decode cX11_readLaw 11 = .ok (.getfield 102, 3) := by decide +kernel
theorem dX11_readLaw_14 : decode cX11_readLaw 14 = .ok (.iload_n 2, 1) := by decide +kernel
theorem dX11_readLaw_15 : decode cX11_readLaw 15 = .ok (.laload, 1) := by decide +kernel
theorem dX11_readLaw_16 : decode cX11_readLaw 16 = .ok (.invokevirtual 305, 3) := by decide +kernel
theorem dX11_readLaw_19 : decode cX11_readLaw 19 = .ok (.ifCond .eq 7, 3) := by decide +kernel
theorem dX11_readLaw_22 : decode cX11_readLaw 22 = .ok (.iload_n 2, 1) := by decide +kernel
theorem dX11_readLaw_23 : decode cX11_readLaw 23 = .ok (.goto 4, 3) := by decide +kernel
theorem dX11_readLaw_26 : decode cX11_readLaw 26 = .ok (.iload_n 1, 1) := by decide +kernel
theorem dX11_readLaw_27 : decode cX11_readLaw 27 = .ok (.istore_n 1, 1) := by decide +kernel
theorem dX11_readLaw_28 : decode cX11_readLaw 28 = .ok (.iinc 2 1, 3) := by decide +kernel
theorem dX11_readLaw_31 : decode cX11_readLaw 31 = .ok (.goto (-27), 3) := by decide +kernel
theorem dX11_readLaw_34 : decode cX11_readLaw 34 = .ok (.aload_n 0, 1) := by decide +kernel
theorem dX11_readLaw_35 : decode cX11_readLaw 35 = .ok (.iload_n 1, 1) := by decide +kernel
theorem dX11_readLaw_36 : decode cX11_readLaw 36 = .ok (.iconst (-1), 1) := by decide +kernel
theorem dX11_readLaw_37 : decode cX11_readLaw 37 = .ok (.if_icmp .eq 16, 3) := by decide +kernel
theorem dX11_readLaw_40 : decode cX11_readLaw 40 = .ok (.aload_n 0, 1) := by decide +kernel
theorem dX11_readLaw_41 : decode cX11_readLaw 41 = .ok (.getfield 378, 3) := by decide +kernel
theorem dX11_readLaw_44 : decode cX11_readLaw 44 = .ok (.bipush 12, 2) := by decide +kernel
theorem dX11_readLaw_46 : decode cX11_readLaw 46 = .ok (.if_icmp .ge 7, 3) := by decide +kernel
theorem dX11_readLaw_49 : decode cX11_readLaw 49 = .ok (.iconst 1, 1) := by decide +kernel
theorem dX11_readLaw_50 : decode cX11_readLaw 50 = .ok (.goto 4, 3) := by decide +kernel
theorem dX11_readLaw_53 : decode cX11_readLaw 53 = .ok (.iconst 0, 1) := by decide +kernel
theorem dX11_readLaw_54 : decode cX11_readLaw 54 = .ok (.invokevirtual 284, 3) := by decide +kernel
theorem dX11_readLaw_57 : decode cX11_readLaw 57 = .ok (.aload_n 0, 1) := by decide +kernel
theorem dX11_readLaw_58 : decode cX11_readLaw 58 = .ok (.getfield 251, 3) := by decide +kernel
theorem dX11_readLaw_61 : decode cX11_readLaw 61 = .ok (.ifCond .eq 4, 3) := by decide +kernel
theorem dX11_readLaw_64 : decode cX11_readLaw 64 = .ok (.return_, 1) := by decide +kernel
theorem dX11_readLaw_65 : decode cX11_readLaw 65 = .ok (.bipush 8, 2) := by decide +kernel
theorem dX11_readLaw_67 : decode cX11_readLaw 67 = .ok (.aload_n 0, 1) := by decide +kernel
theorem dX11_readLaw_68 : decode cX11_readLaw 68 = .ok (.getfield 378, 3) := by decide +kernel
theorem dX11_readLaw_71 : decode cX11_readLaw 71 = .ok (.imul, 1) := by decide +kernel
theorem dX11_readLaw_72 : decode cX11_readLaw 72 = .ok (.istore_n 2, 1) := by decide +kernel
theorem dX11_readLaw_73 : decode cX11_readLaw 73 = .ok (.iconst 0, 1) := by decide +kernel
theorem dX11_readLaw_74 : decode cX11_readLaw 74 = .ok (.istore_n 3, 1) := by decide +kernel
theorem dX11_readLaw_75 : decode cX11_readLaw 75 = .ok (.iload_n 3, 1) := by decide +kernel
theorem dX11_readLaw_76 : decode cX11_readLaw 76 = .ok (.bipush 8, 2) := by decide +kernel
theorem dX11_readLaw_78 : decode cX11_readLaw 78 = .ok (.if_icmp .ge 18, 3) := by decide +kernel
theorem dX11_readLaw_81 : decode cX11_readLaw 81 = .ok (.aload_n 0, 1) := by decide +kernel
theorem dX11_readLaw_82 : decode cX11_readLaw 82 = .ok (.getfield 42, 3) := by decide +kernel
theorem dX11_readLaw_85 : decode cX11_readLaw 85 = .ok (.iload_n 2, 1) := by decide +kernel
theorem dX11_readLaw_86 : decode cX11_readLaw 86 = .ok (.iload_n 3, 1) := by decide +kernel
theorem dX11_readLaw_87 : decode cX11_readLaw 87 = .ok (.iadd, 1) := by decide +kernel
theorem dX11_readLaw_88 : decode cX11_readLaw 88 = .ok (.iconst 0, 1) := by decide +kernel
theorem dX11_readLaw_89 : decode cX11_readLaw 89 = .ok (.iastore, 1) := by decide +kernel
theorem dX11_readLaw_90 : decode cX11_readLaw 90 = .ok (.iinc 3 1, 3) := by decide +kernel
theorem dX11_readLaw_93 : decode cX11_readLaw 93 = .ok (.goto (-18), 3) := by decide +kernel
theorem dX11_readLaw_96 : decode cX11_readLaw 96 = .ok (.aload_n 0, 1) := by decide +kernel
theorem dX11_readLaw_97 : decode cX11_readLaw 97 = .ok (.getfield 42, 3) := by decide +kernel
theorem dX11_readLaw_100 : decode cX11_readLaw 100 = .ok (.iload_n 2, 1) := by decide +kernel
theorem dX11_readLaw_101 : decode cX11_readLaw 101 = .ok (.iload_n 1, 1) := by decide +kernel
theorem dX11_readLaw_102 : decode cX11_readLaw 102 = .ok (.iastore, 1) := by decide +kernel
theorem dX11_readLaw_103 : decode cX11_readLaw 103 = .ok (.aload_n 0, 1) := by decide +kernel
theorem dX11_readLaw_104 : decode cX11_readLaw 104 = .ok (.dup, 1) := by decide +kernel
theorem dX11_readLaw_105 : decode cX11_readLaw 105 = .ok (.getfield 378, 3) := by decide +kernel
theorem dX11_readLaw_108 : decode cX11_readLaw 108 = .ok (.iconst 1, 1) := by decide +kernel
theorem dX11_readLaw_109 : decode cX11_readLaw 109 = .ok (.iadd, 1) := by decide +kernel
theorem dX11_readLaw_110 : decode cX11_readLaw 110 = .ok (.putfield 378, 3) := by decide +kernel
theorem dX11_readLaw_113 : decode cX11_readLaw 113 = .ok (.aload_n 0, 1) := by decide +kernel
theorem dX11_readLaw_114 : decode cX11_readLaw 114 = .ok (.getfield 42, 3) := by decide +kernel
theorem dX11_readLaw_117 : decode cX11_readLaw 117 = .ok (.iload_n 2, 1) := by decide +kernel
theorem dX11_readLaw_118 : decode cX11_readLaw 118 = .ok (.iconst 3, 1) := by decide +kernel
theorem dX11_readLaw_119 : decode cX11_readLaw 119 = .ok (.iadd, 1) := by decide +kernel
theorem dX11_readLaw_120 : decode cX11_readLaw 120 = .ok (.aload_n 0, 1) := by decide +kernel
theorem dX11_readLaw_121 : decode cX11_readLaw 121 = .ok (.getfield 288, 3) := by decide +kernel
theorem dX11_readLaw_124 : decode cX11_readLaw 124 = .ok (.iastore, 1) := by decide +kernel
theorem dX11_readLaw_125 : decode cX11_readLaw 125 = .ok (.iload_n 1, 1) := by decide +kernel
theorem dX11_readLaw_126 : decode cX11_readLaw 126 = .ok (.iconst 2, 1) := by decide +kernel
theorem dX11_readLaw_127 : decode cX11_readLaw 127 = .ok (.if_icmp .eq 8, 3) := by decide +kernel
theorem dX11_readLaw_130 : decode cX11_readLaw 130 = .ok (.aload_n 0, 1) := by decide +kernel
theorem dX11_readLaw_131 : decode cX11_readLaw 131 = .ok (.iconst 0, 1) := by decide +kernel
theorem dX11_readLaw_132 : decode cX11_readLaw 132 = .ok (.invokevirtual 381, 3) := by decide +kernel
theorem dX11_readLaw_135 : decode cX11_readLaw 135 = .ok (.aload_n 0, 1) := by decide +kernel
theorem dX11_readLaw_136 : decode cX11_readLaw 136 = .ok (.getfield 42, 3) := by decide +kernel
theorem dX11_readLaw_139 : decode cX11_readLaw 139 = .ok (.iload_n 2, 1) := by decide +kernel
theorem dX11_readLaw_140 : decode cX11_readLaw 140 = .ok (.iconst 4, 1) := by decide +kernel
theorem dX11_readLaw_141 : decode cX11_readLaw 141 = .ok (.iadd, 1) := by decide +kernel
theorem dX11_readLaw_142 : decode cX11_readLaw 142 = .ok (.aload_n 0, 1) := by decide +kernel
theorem dX11_readLaw_143 : decode cX11_readLaw 143 = .ok (.getfield 288, 3) := by decide +kernel
theorem dX11_readLaw_146 : decode cX11_readLaw 146 = .ok (.iastore, 1) := by decide +kernel
theorem dX11_readLaw_147 : decode cX11_readLaw 147 = .ok (.aload_n 0, 1) := by decide +kernel
theorem dX11_readLaw_148 : decode cX11_readLaw 148 = .ok (.getfield 42, 3) := by decide +kernel
theorem dX11_readLaw_151 : decode cX11_readLaw 151 = .ok (.iload_n 2, 1) := by decide +kernel
theorem dX11_readLaw_152 : decode cX11_readLaw 152 = .ok (.iconst 5, 1) := by decide +kernel
theorem dX11_readLaw_153 : decode cX11_readLaw 153 = .ok (.iadd, 1) := by decide +kernel
theorem dX11_readLaw_154 : decode cX11_readLaw 154 = .ok (.aload_n 0, 1) := by decide +kernel
theorem dX11_readLaw_155 : decode cX11_readLaw 155 = .ok (.getfield 288, 3) := by decide +kernel
theorem dX11_readLaw_158 : decode cX11_readLaw 158 = .ok (.iastore, 1) := by decide +kernel
theorem dX11_readLaw_159 : decode cX11_readLaw 159 = .ok (.aload_n 0, 1) := by decide +kernel
theorem dX11_readLaw_160 : decode cX11_readLaw 160 = .ok (.getfield 251, 3) := by decide +kernel
theorem dX11_readLaw_163 : decode cX11_readLaw 163 = .ok (.ifCond .ne 22, 3) := by decide +kernel
theorem dX11_readLaw_166 : decode cX11_readLaw 166 = .ok (.aload_n 0, 1) := by decide +kernel
theorem dX11_readLaw_167 : decode cX11_readLaw 167 = .ok (.ldc2_w 384, 3) := by decide +kernel
theorem dX11_readLaw_170 : decode cX11_readLaw 170 = .ok (.invokevirtual 305, 3) := by decide +kernel
theorem dX11_readLaw_173 : decode cX11_readLaw 173 = .ok (.ifCond .eq 12, 3) := by decide +kernel
theorem dX11_readLaw_176 : decode cX11_readLaw 176 = .ok (.aload_n 0, 1) := by decide +kernel
theorem dX11_readLaw_177 : decode cX11_readLaw 177 = .ok (.invokevirtual 255, 3) := by decide +kernel
theorem dX11_readLaw_180 : decode cX11_readLaw 180 = .ok (.aload_n 0, 1) := by decide +kernel
theorem dX11_readLaw_181 : decode cX11_readLaw 181 = .ok (.iconst 1, 1) := by decide +kernel
theorem dX11_readLaw_182 : decode cX11_readLaw 182 = .ok (.invokevirtual 381, 3) := by decide +kernel
theorem dX11_readLaw_185 : decode cX11_readLaw 185 = .ok (.aload_n 0, 1) := by decide +kernel
theorem dX11_readLaw_186 : decode cX11_readLaw 186 = .ok (.getfield 42, 3) := by decide +kernel
theorem dX11_readLaw_189 : decode cX11_readLaw 189 = .ok (.iload_n 2, 1) := by decide +kernel
theorem dX11_readLaw_190 : decode cX11_readLaw 190 = .ok (.bipush 6, 2) := by decide +kernel
theorem dX11_readLaw_192 : decode cX11_readLaw 192 = .ok (.iadd, 1) := by decide +kernel
theorem dX11_readLaw_193 : decode cX11_readLaw 193 = .ok (.aload_n 0, 1) := by decide +kernel
theorem dX11_readLaw_194 : decode cX11_readLaw 194 = .ok (.getfield 288, 3) := by decide +kernel
theorem dX11_readLaw_197 : decode cX11_readLaw 197 = .ok (.iastore, 1) := by decide +kernel
theorem dX11_readLaw_198 : decode cX11_readLaw 198 = .ok (.return_, 1) := by decide +kernel
def D_X11_readLaw_185 (h : z_H) (l0 : Option Nat) (l2 : Int32) : Option z_H :=
  (z_gQ 11 h l0 22).bind fun x3745 =>
  (z_gI 11 h l0 23).bind fun x3746 =>
  (z_sI h x3745 (l2 + (6:Int32)) x3746).bind fun h3747 =>
  some h3747
set_option maxRecDepth 100000 in
set_option maxHeartbeats 4000000 in
theorem S_X11_readLaw_185 {G : z_G} {l : Launch}  {h : z_H} {l0 : Option Nat} {l2 : Int32} {res : z_H} (e : D_X11_readLaw_185  h l0 l2 = some res) : z_Run G l 11 M_X11_readLaw 185 [(0, z_r l0), (2, .int l2)] [] h res none := by
  unfold D_X11_readLaw_185 at e
  refine z_aload_n 0 dX11_readLaw_185 rfl ?_
  replace e := z_bd e; obtain ⟨x3745, ex3745, e⟩ := e
  refine z_getQ ex3745 lk_X11_42 dX11_readLaw_186 ?_
  refine z_iload_n 1 dX11_readLaw_189 rfl ?_
  refine z_bipush (v := 6) dX11_readLaw_190 (by decide) ?_
  refine z_iadd dX11_readLaw_192 ?_
  refine z_aload_n 0 dX11_readLaw_193 rfl ?_
  replace e := z_bd e; obtain ⟨x3746, ex3746, e⟩ := e
  refine z_getI ex3746 lk_X11_288 dX11_readLaw_194 ?_
  replace e := z_bd e; obtain ⟨h3747, eh3747, e⟩ := e
  refine z_iast eh3747 dX11_readLaw_197 ?_
  cases e
  exact z_vret dX11_readLaw_198 rfl
def D_X11_readLaw_135 (h : z_H) (l0 : Option Nat) (l2 : Int32) : Option z_H :=
  (z_gQ 11 h l0 22).bind fun x3748 =>
  (z_gI 11 h l0 23).bind fun x3749 =>
  (z_sI h x3748 (l2 + (4:Int32)) x3749).bind fun h3750 =>
  (z_gQ 11 h3750 l0 22).bind fun x3751 =>
  (z_gI 11 h3750 l0 23).bind fun x3752 =>
  (z_sI h3750 x3751 (l2 + (5:Int32)) x3752).bind fun h3753 =>
  (z_gI 11 h3753 l0 19).bind fun x3754 =>
  if x3754 = 0 then
    (z_ob 11 h3753 l0).bind fun _ =>
    (D_X11_isWord  h3753 l0 (294:Int64)).bind fun p3756 =>
    if p3756.1 = 0 then
      D_X11_readLaw_185   p3756.2 l0 l2
    else
      (z_ob 11 p3756.2 l0).bind fun _ =>
      (D_X11_next  p3756.2 l0).bind fun p3759 =>
      (z_ob 11 p3759 l0).bind fun _ =>
      (D_X11_readExpression  p3759 l0 (1:Int32)).bind fun p3761 =>
      D_X11_readLaw_185   p3761 l0 l2
  else
    D_X11_readLaw_185   h3753 l0 l2
set_option maxRecDepth 100000 in
set_option maxHeartbeats 4000000 in
theorem S_X11_readLaw_135 {G : z_G} {l : Launch}  {h : z_H} {l0 : Option Nat} {l2 : Int32} {res : z_H} (e : D_X11_readLaw_135  h l0 l2 = some res) : z_Run G l 11 M_X11_readLaw 135 [(0, z_r l0), (2, .int l2)] [] h res none := by
  unfold D_X11_readLaw_135 at e
  refine z_aload_n 0 dX11_readLaw_135 rfl ?_
  replace e := z_bd e; obtain ⟨x3748, ex3748, e⟩ := e
  refine z_getQ ex3748 lk_X11_42 dX11_readLaw_136 ?_
  refine z_iload_n 1 dX11_readLaw_139 rfl ?_
  refine z_iconst (v := 4) dX11_readLaw_140 (by decide) ?_
  refine z_iadd dX11_readLaw_141 ?_
  refine z_aload_n 0 dX11_readLaw_142 rfl ?_
  replace e := z_bd e; obtain ⟨x3749, ex3749, e⟩ := e
  refine z_getI ex3749 lk_X11_288 dX11_readLaw_143 ?_
  replace e := z_bd e; obtain ⟨h3750, eh3750, e⟩ := e
  refine z_iast eh3750 dX11_readLaw_146 ?_
  refine z_aload_n 0 dX11_readLaw_147 rfl ?_
  replace e := z_bd e; obtain ⟨x3751, ex3751, e⟩ := e
  refine z_getQ ex3751 lk_X11_42 dX11_readLaw_148 ?_
  refine z_iload_n 1 dX11_readLaw_151 rfl ?_
  refine z_iconst (v := 5) dX11_readLaw_152 (by decide) ?_
  refine z_iadd dX11_readLaw_153 ?_
  refine z_aload_n 0 dX11_readLaw_154 rfl ?_
  replace e := z_bd e; obtain ⟨x3752, ex3752, e⟩ := e
  refine z_getI ex3752 lk_X11_288 dX11_readLaw_155 ?_
  replace e := z_bd e; obtain ⟨h3753, eh3753, e⟩ := e
  refine z_iast eh3753 dX11_readLaw_158 ?_
  refine z_aload_n 0 dX11_readLaw_159 rfl ?_
  replace e := z_bd e; obtain ⟨x3754, ex3754, e⟩ := e
  refine z_getI ex3754 lk_X11_251 dX11_readLaw_160 ?_
  refine z_if_ne (tgt := 185) dX11_readLaw_163 (by decide) (fun c3755 => ?_) (fun c3755 => ?_)
  · rw [if_neg c3755] at e
    exact z_weak [0, 1] rfl (S_X11_readLaw_185   e)
  · rw [if_pos c3755] at e
    refine z_aload_n 0 dX11_readLaw_166 rfl ?_
    refine z_ldc2 dX11_readLaw_167 kj_X11_384 ?_
    replace e := z_bd e; obtain ⟨o3757, eo3757, e⟩ := e
    replace e := z_bd e; obtain ⟨p3756, ep3756, e⟩ := e
    refine z_cV [.long (294:Int64)] (S_X11_isWord  ep3756) eo3757 rfl ml_X11_305 ck_X11_isWord vk_X11_isWord dX11_readLaw_170 (by decide) rfl (Nat.zero_le _) rfl ?_
    refine z_if_eq (tgt := 185) dX11_readLaw_173 (by decide) (fun c3758 => ?_) (fun c3758 => ?_)
    · rw [if_pos c3758] at e
      exact z_weak [0, 1] rfl (S_X11_readLaw_185   e)
    · rw [if_neg c3758] at e
      refine z_aload_n 0 dX11_readLaw_176 rfl ?_
      replace e := z_bd e; obtain ⟨o3760, eo3760, e⟩ := e
      replace e := z_bd e; obtain ⟨p3759, ep3759, e⟩ := e
      refine z_cV [] (S_X11_next  ep3759) eo3760 rfl ml_X11_255 ck_X11_next vk_X11_next dX11_readLaw_177 (by decide) rfl (Nat.zero_le _) rfl ?_
      refine z_aload_n 0 dX11_readLaw_180 rfl ?_
      refine z_iconst (v := 1) dX11_readLaw_181 (by decide) ?_
      replace e := z_bd e; obtain ⟨o3762, eo3762, e⟩ := e
      replace e := z_bd e; obtain ⟨p3761, ep3761, e⟩ := e
      refine z_cV [.int (1:Int32)] (S_X11_readExpression  ep3761) eo3762 rfl ml_X11_381 ck_X11_readExpression vk_X11_readExpression dX11_readLaw_182 (by decide) rfl (Nat.zero_le _) rfl ?_
      exact z_weak [0, 1] rfl (S_X11_readLaw_185   e)
def D_X11_readLaw_75b (k75 : z_H → Option Nat → Int32 → Int32 → Int32 → Option z_H) (h : z_H) (l0 : Option Nat) (l1 : Int32) (l2 : Int32) (l3 : Int32) : Option z_H :=
  if (8:Int32) ≤ l3 then
    (z_gQ 11 h l0 22).bind fun x3764 =>
    (z_sI h x3764 l2 l1).bind fun h3765 =>
    (z_gI 11 h3765 l0 21).bind fun x3766 =>
    (z_pV 11 h3765 l0 21 (.int (x3766 + (1:Int32)))).bind fun h3767 =>
    (z_gQ 11 h3767 l0 22).bind fun x3768 =>
    (z_gI 11 h3767 l0 23).bind fun x3769 =>
    (z_sI h3767 x3768 (l2 + (3:Int32)) x3769).bind fun h3770 =>
    if l1 = (2:Int32) then
      D_X11_readLaw_135   h3770 l0 l2
    else
      (z_ob 11 h3770 l0).bind fun _ =>
      (D_X11_readExpression  h3770 l0 (0:Int32)).bind fun p3772 =>
      D_X11_readLaw_135   p3772 l0 l2
  else
    (z_gQ 11 h l0 22).bind fun x3774 =>
    (z_sI h x3774 (l2 + l3) (0:Int32)).bind fun h3775 =>
    (some (l3 + (1:Int32))).bind fun x3776 =>
    k75 h3775 l0 l1 l2 x3776
def D_X11_readLaw_75 (n : Nat) : z_H → Option Nat → Int32 → Int32 → Int32 → Option z_H := Nat.rec (motive := fun _ => z_H → Option Nat → Int32 → Int32 → Int32 → Option z_H) (fun _ _ _ _ _ => none) (fun _ k => D_X11_readLaw_75b  k) n
set_option maxRecDepth 100000 in
set_option maxHeartbeats 4000000 in
theorem S_X11_readLaw_75 {G : z_G} {l : Launch}  (n : Nat) : ∀ {h : z_H} {l0 : Option Nat} {l1 : Int32} {l2 : Int32} {l3 : Int32} {res : z_H}, D_X11_readLaw_75  n h l0 l1 l2 l3 = some res → z_Run G l 11 M_X11_readLaw 75 [(0, z_r l0), (1, .int l1), (2, .int l2), (3, .int l3)] [] h res none := by
  induction n with
  | zero => intro h l0 l1 l2 l3 res e; cases e
  | succ n hk75 =>
    intro h l0 l1 l2 l3 res e
    replace e : D_X11_readLaw_75b  (D_X11_readLaw_75  n) h l0 l1 l2 l3 = some res := e
    unfold D_X11_readLaw_75b at e
    refine z_iload_n 3 dX11_readLaw_75 rfl ?_
    refine z_bipush (v := 8) dX11_readLaw_76 (by decide) ?_
    refine z_icmp_ge (tgt := 96) dX11_readLaw_78 (by decide) (fun c3763 => ?_) (fun c3763 => ?_)
    · rw [if_pos c3763] at e
      refine z_aload_n 0 dX11_readLaw_96 rfl ?_
      replace e := z_bd e; obtain ⟨x3764, ex3764, e⟩ := e
      refine z_getQ ex3764 lk_X11_42 dX11_readLaw_97 ?_
      refine z_iload_n 2 dX11_readLaw_100 rfl ?_
      refine z_iload_n 1 dX11_readLaw_101 rfl ?_
      replace e := z_bd e; obtain ⟨h3765, eh3765, e⟩ := e
      refine z_iast eh3765 dX11_readLaw_102 ?_
      refine z_aload_n 0 dX11_readLaw_103 rfl ?_
      refine z_dup dX11_readLaw_104 (z_cr _) ?_
      replace e := z_bd e; obtain ⟨x3766, ex3766, e⟩ := e
      refine z_getI ex3766 lk_X11_378 dX11_readLaw_105 ?_
      refine z_iconst (v := 1) dX11_readLaw_108 (by decide) ?_
      refine z_iadd dX11_readLaw_109 ?_
      replace e := z_bd e; obtain ⟨h3767, eh3767, e⟩ := e
      refine z_putV eh3767 lk_X11_378 wk_11_21 (fun _ => rfl) (fun _ => rfl) dX11_readLaw_110 ?_
      refine z_aload_n 0 dX11_readLaw_113 rfl ?_
      replace e := z_bd e; obtain ⟨x3768, ex3768, e⟩ := e
      refine z_getQ ex3768 lk_X11_42 dX11_readLaw_114 ?_
      refine z_iload_n 2 dX11_readLaw_117 rfl ?_
      refine z_iconst (v := 3) dX11_readLaw_118 (by decide) ?_
      refine z_iadd dX11_readLaw_119 ?_
      refine z_aload_n 0 dX11_readLaw_120 rfl ?_
      replace e := z_bd e; obtain ⟨x3769, ex3769, e⟩ := e
      refine z_getI ex3769 lk_X11_288 dX11_readLaw_121 ?_
      replace e := z_bd e; obtain ⟨h3770, eh3770, e⟩ := e
      refine z_iast eh3770 dX11_readLaw_124 ?_
      refine z_iload_n 1 dX11_readLaw_125 rfl ?_
      refine z_iconst (v := 2) dX11_readLaw_126 (by decide) ?_
      refine z_icmp_eq (tgt := 135) dX11_readLaw_127 (by decide) (fun c3771 => ?_) (fun c3771 => ?_)
      · rw [if_pos c3771] at e
        exact z_weak [0, 2] rfl (S_X11_readLaw_135   e)
      · rw [if_neg c3771] at e
        refine z_aload_n 0 dX11_readLaw_130 rfl ?_
        refine z_iconst (v := 0) dX11_readLaw_131 (by decide) ?_
        replace e := z_bd e; obtain ⟨o3773, eo3773, e⟩ := e
        replace e := z_bd e; obtain ⟨p3772, ep3772, e⟩ := e
        refine z_cV [.int (0:Int32)] (S_X11_readExpression  ep3772) eo3773 rfl ml_X11_381 ck_X11_readExpression vk_X11_readExpression dX11_readLaw_132 (by decide) rfl (Nat.zero_le _) rfl ?_
        exact z_weak [0, 2] rfl (S_X11_readLaw_135   e)
    · rw [if_neg c3763] at e
      refine z_aload_n 0 dX11_readLaw_81 rfl ?_
      replace e := z_bd e; obtain ⟨x3774, ex3774, e⟩ := e
      refine z_getQ ex3774 lk_X11_42 dX11_readLaw_82 ?_
      refine z_iload_n 2 dX11_readLaw_85 rfl ?_
      refine z_iload_n 3 dX11_readLaw_86 rfl ?_
      refine z_iadd dX11_readLaw_87 ?_
      refine z_iconst (v := 0) dX11_readLaw_88 (by decide) ?_
      replace e := z_bd e; obtain ⟨h3775, eh3775, e⟩ := e
      refine z_iast eh3775 dX11_readLaw_89 ?_
      replace e := z_bd e; obtain ⟨x3776, ex3776, e⟩ := e
      refine z_iinc (q := 3) (v := x3776) (L' := [(3, .int x3776), (0, z_r l0), (1, .int l1), (2, .int l2)]) dX11_readLaw_90 rfl (Option.some.inj ex3776) (by decide) rfl ?_
      refine z_goto (tgt := 75) dX11_readLaw_93 (by decide) ?_
      exact z_weak [1, 2, 3, 0] rfl (hk75 e)
def D_X11_readLaw_54 (h : z_H) (l0 : Option Nat) (l1 : Int32) (s0 : Option Nat) (s1 : Int32) : Option z_H :=
  (z_ob 11 h s0).bind fun _ =>
  (D_X11_must  h s0 s1).bind fun p3777 =>
  (z_gI 11 p3777 l0 19).bind fun x3779 =>
  if x3779 = 0 then
    (z_gI 11 p3777 l0 21).bind fun x3781 =>
    (some ((8:Int32) * x3781)).bind fun x3782 =>
    D_X11_readLaw_75   z_F p3777 l0 l1 x3782 (0:Int32)
  else
    some p3777
set_option maxRecDepth 100000 in
set_option maxHeartbeats 4000000 in
theorem S_X11_readLaw_54 {G : z_G} {l : Launch}  {h : z_H} {l0 : Option Nat} {l1 : Int32} {s0 : Option Nat} {s1 : Int32} {res : z_H} (e : D_X11_readLaw_54  h l0 l1 s0 s1 = some res) : z_Run G l 11 M_X11_readLaw 54 [(0, z_r l0), (1, .int l1)] [.int s1, z_r s0] h res none := by
  unfold D_X11_readLaw_54 at e
  replace e := z_bd e; obtain ⟨o3778, eo3778, e⟩ := e
  replace e := z_bd e; obtain ⟨p3777, ep3777, e⟩ := e
  refine z_cV [.int s1] (S_X11_must  ep3777) eo3778 rfl ml_X11_284 ck_X11_must vk_X11_must dX11_readLaw_54 (by decide) rfl (Nat.zero_le _) rfl ?_
  refine z_aload_n 0 dX11_readLaw_57 rfl ?_
  replace e := z_bd e; obtain ⟨x3779, ex3779, e⟩ := e
  refine z_getI ex3779 lk_X11_251 dX11_readLaw_58 ?_
  refine z_if_eq (tgt := 65) dX11_readLaw_61 (by decide) (fun c3780 => ?_) (fun c3780 => ?_)
  · rw [if_pos c3780] at e
    refine z_bipush (v := 8) dX11_readLaw_65 (by decide) ?_
    refine z_aload_n 0 dX11_readLaw_67 rfl ?_
    replace e := z_bd e; obtain ⟨x3781, ex3781, e⟩ := e
    refine z_getI ex3781 lk_X11_378 dX11_readLaw_68 ?_
    refine z_imul dX11_readLaw_71 ?_
    replace e := z_bd e; obtain ⟨x3782, ex3782, e⟩ := e
    refine z_topI ex3782 ?_
    refine z_istore_n (L' := [(2, .int x3782), (0, z_r l0), (1, .int l1)]) dX11_readLaw_72 rfl (by decide) rfl ?_
    refine z_iconst (v := 0) dX11_readLaw_73 (by decide) ?_
    refine z_istore_n (L' := [(3, .int (0:Int32)), (2, .int x3782), (0, z_r l0), (1, .int l1)]) dX11_readLaw_74 rfl (by decide) rfl ?_
    exact z_weak [2, 3, 1, 0] rfl (S_X11_readLaw_75   z_F e)
  · rw [if_neg c3780] at e
    cases e
    exact z_vret dX11_readLaw_64 rfl
def D_X11_readLaw_53 (h : z_H) (l0 : Option Nat) (l1 : Int32) (s0 : Option Nat) : Option z_H :=
  D_X11_readLaw_54   h l0 l1 s0 (0:Int32)
set_option maxRecDepth 100000 in
set_option maxHeartbeats 4000000 in
theorem S_X11_readLaw_53 {G : z_G} {l : Launch}  {h : z_H} {l0 : Option Nat} {l1 : Int32} {s0 : Option Nat} {res : z_H} (e : D_X11_readLaw_53  h l0 l1 s0 = some res) : z_Run G l 11 M_X11_readLaw 53 [(0, z_r l0), (1, .int l1)] [z_r s0] h res none := by
  unfold D_X11_readLaw_53 at e
  refine z_iconst (v := 0) dX11_readLaw_53 (by decide) ?_
  exact z_weak [0, 1] rfl (S_X11_readLaw_54   e)
def D_X11_readLaw_27 (k4 : z_H → Option Nat → Int32 → Int32 → Option z_H) (h : z_H) (l0 : Option Nat) (l2 : Int32) (s0 : Int32) : Option z_H :=
  (some (l2 + (1:Int32))).bind fun x3783 =>
  k4 h l0 s0 x3783
set_option maxRecDepth 100000 in
set_option maxHeartbeats 4000000 in
theorem S_X11_readLaw_27 {G : z_G} {l : Launch} {k4 : z_H → Option Nat → Int32 → Int32 → Option z_H} (hk4 : ∀ {h : z_H} {l0 : Option Nat} {l1 : Int32} {l2 : Int32} {res : z_H}, k4 h l0 l1 l2 = some res → z_Run G l 11 M_X11_readLaw 4 [(0, z_r l0), (1, .int l1), (2, .int l2)] [] h res none) {h : z_H} {l0 : Option Nat} {l2 : Int32} {s0 : Int32} {res : z_H} (e : D_X11_readLaw_27 k4 h l0 l2 s0 = some res) : z_Run G l 11 M_X11_readLaw 27 [(0, z_r l0), (2, .int l2)] [.int s0] h res none := by
  unfold D_X11_readLaw_27 at e
  refine z_istore_n (L' := [(1, .int s0), (0, z_r l0), (2, .int l2)]) dX11_readLaw_27 rfl (by decide) (by simp [z_cr]) ?_
  replace e := z_bd e; obtain ⟨x3783, ex3783, e⟩ := e
  refine z_iinc (q := 2) (v := x3783) (L' := [(2, .int x3783), (1, .int s0), (0, z_r l0)]) dX11_readLaw_28 rfl (Option.some.inj ex3783) (by decide) rfl ?_
  refine z_goto (tgt := 4) dX11_readLaw_31 (by decide) ?_
  exact z_weak [2, 1, 0] rfl (hk4 e)
def D_X11_readLaw_4b (k4 : z_H → Option Nat → Int32 → Int32 → Option z_H) (h : z_H) (l0 : Option Nat) (l1 : Int32) (l2 : Int32) : Option z_H :=
  if (3:Int32) ≤ l2 then
    if l1 = (-1:Int32) then
      D_X11_readLaw_53   h l0 l1 l0
    else
      (z_gI 11 h l0 21).bind fun x3786 =>
      if (12:Int32) ≤ x3786 then
        D_X11_readLaw_53   h l0 l1 l0
      else
        D_X11_readLaw_54   h l0 l1 l0 (1:Int32)
  else
    (z_gQ 11 h l0 33).bind fun x3788 =>
    (z_aJ h x3788 l2).bind fun x3789 =>
    (z_ob 11 h l0).bind fun _ =>
    (D_X11_isWord  h l0 x3789).bind fun p3790 =>
    if p3790.1 = 0 then
      D_X11_readLaw_27  k4 p3790.2 l0 l2 l1
    else
      D_X11_readLaw_27  k4 p3790.2 l0 l2 l2
def D_X11_readLaw_4 (n : Nat) : z_H → Option Nat → Int32 → Int32 → Option z_H := Nat.rec (motive := fun _ => z_H → Option Nat → Int32 → Int32 → Option z_H) (fun _ _ _ _ => none) (fun _ k => D_X11_readLaw_4b  k) n
set_option maxRecDepth 100000 in
set_option maxHeartbeats 4000000 in
theorem S_X11_readLaw_4 {G : z_G} {l : Launch}  (n : Nat) : ∀ {h : z_H} {l0 : Option Nat} {l1 : Int32} {l2 : Int32} {res : z_H}, D_X11_readLaw_4  n h l0 l1 l2 = some res → z_Run G l 11 M_X11_readLaw 4 [(0, z_r l0), (1, .int l1), (2, .int l2)] [] h res none := by
  induction n with
  | zero => intro h l0 l1 l2 res e; cases e
  | succ n hk4 =>
    intro h l0 l1 l2 res e
    replace e : D_X11_readLaw_4b  (D_X11_readLaw_4  n) h l0 l1 l2 = some res := e
    unfold D_X11_readLaw_4b at e
    refine z_iload_n 2 dX11_readLaw_4 rfl ?_
    refine z_iconst (v := 3) dX11_readLaw_5 (by decide) ?_
    refine z_icmp_ge (tgt := 34) dX11_readLaw_6 (by decide) (fun c3784 => ?_) (fun c3784 => ?_)
    · rw [if_pos c3784] at e
      refine z_aload_n 0 dX11_readLaw_34 rfl ?_
      refine z_iload_n 1 dX11_readLaw_35 rfl ?_
      refine z_iconst (v := -1) dX11_readLaw_36 (by decide) ?_
      refine z_icmp_eq (tgt := 53) dX11_readLaw_37 (by decide) (fun c3785 => ?_) (fun c3785 => ?_)
      · rw [if_pos c3785] at e
        exact z_weak [0, 1] rfl (S_X11_readLaw_53   e)
      · rw [if_neg c3785] at e
        refine z_aload_n 0 dX11_readLaw_40 rfl ?_
        replace e := z_bd e; obtain ⟨x3786, ex3786, e⟩ := e
        refine z_getI ex3786 lk_X11_378 dX11_readLaw_41 ?_
        refine z_bipush (v := 12) dX11_readLaw_44 (by decide) ?_
        refine z_icmp_ge (tgt := 53) dX11_readLaw_46 (by decide) (fun c3787 => ?_) (fun c3787 => ?_)
        · rw [if_pos c3787] at e
          exact z_weak [0, 1] rfl (S_X11_readLaw_53   e)
        · rw [if_neg c3787] at e
          refine z_iconst (v := 1) dX11_readLaw_49 (by decide) ?_
          refine z_goto (tgt := 54) dX11_readLaw_50 (by decide) ?_
          exact z_weak [0, 1] rfl (S_X11_readLaw_54   e)
    · rw [if_neg c3784] at e
      refine z_aload_n 0 dX11_readLaw_9 rfl ?_
      refine z_aload_n 0 dX11_readLaw_10 rfl ?_
      replace e := z_bd e; obtain ⟨x3788, ex3788, e⟩ := e
      refine z_getQ ex3788 lk_X11_102 dX11_readLaw_11 ?_
      refine z_iload_n 2 dX11_readLaw_14 rfl ?_
      replace e := z_bd e; obtain ⟨x3789, ex3789, e⟩ := e
      refine z_lald ex3789 dX11_readLaw_15 ?_
      replace e := z_bd e; obtain ⟨o3791, eo3791, e⟩ := e
      replace e := z_bd e; obtain ⟨p3790, ep3790, e⟩ := e
      refine z_cV [.long x3789] (S_X11_isWord  ep3790) eo3791 rfl ml_X11_305 ck_X11_isWord vk_X11_isWord dX11_readLaw_16 (by decide) rfl (Nat.zero_le _) rfl ?_
      refine z_if_eq (tgt := 26) dX11_readLaw_19 (by decide) (fun c3792 => ?_) (fun c3792 => ?_)
      · rw [if_pos c3792] at e
        refine z_iload_n 1 dX11_readLaw_26 rfl ?_
        exact z_weak [0, 2] rfl (S_X11_readLaw_27  @hk4 e)
      · rw [if_neg c3792] at e
        refine z_iload_n 2 dX11_readLaw_22 rfl ?_
        refine z_goto (tgt := 27) dX11_readLaw_23 (by decide) ?_
        exact z_weak [0, 2] rfl (S_X11_readLaw_27  @hk4 e)
def D_X11_readLaw (h : z_H) (l0 : Option Nat) : Option z_H :=
  D_X11_readLaw_4   z_F h l0 (-1:Int32) (0:Int32)
set_option maxRecDepth 100000 in
set_option maxHeartbeats 4000000 in
theorem S_X11_readLaw {G : z_G} {l : Launch} {h : z_H} {l0 : Option Nat} {res : z_H} (e : D_X11_readLaw h l0 = some res) : z_Meth G l 11 M_X11_readLaw [z_r l0] h res none := by
  refine z_Meth.of ck_X11_readLaw.2.2.2.2 (by simp [lg_sl, z_ci, z_cj, z_cr, z_cx]) ck_X11_readLaw.1 ?_
  rw [show lv_args 0 [z_r l0] = [(0, z_r l0)] from by simp [lv_args, z_ci, z_cj, z_cr, z_cx]]
  unfold D_X11_readLaw at e
  refine z_iconst (v := -1) dX11_readLaw_0 (by decide) ?_
  refine z_istore_n (L' := [(1, .int (-1:Int32)), (0, z_r l0)]) dX11_readLaw_1 rfl (by decide) (by simp [z_cr]) ?_
  refine z_iconst (v := 0) dX11_readLaw_2 (by decide) ?_
  refine z_istore_n (L' := [(2, .int (0:Int32)), (1, .int (-1:Int32)), (0, z_r l0)]) dX11_readLaw_3 rfl (by decide) rfl ?_
  exact z_weak [2, 1, 0] rfl (S_X11_readLaw_4   z_F e)
theorem dX11_law_0 : decode cX11_law 0 = .ok (.aload_n 0, 1) := by decide +kernel
theorem dX11_law_1 : decode cX11_law 1 = .ok (.iconst 0, 1) := by decide +kernel
theorem dX11_law_2 : decode cX11_law 2 = .ok (.putfield 166, 3) := by decide +kernel
theorem dX11_law_5 : decode cX11_law 5 = .ok (.aload_n 0, 1) := by decide +kernel
theorem dX11_law_6 : decode cX11_law 6 = .ok (.getfield 13, 3) := by decide +kernel
theorem dX11_law_9 : decode cX11_law 9 = .ok (.iconst 2, 1) := by decide +kernel
theorem dX11_law_10 : decode cX11_law 10 = .ok (.iaload, 1) := by decide +kernel
theorem dX11_law_11 : decode cX11_law 11 = .ok (.bipush 6, 2) := by decide +kernel
theorem dX11_law_13 : decode cX11_law 13 = .ok (.if_icmp .ne 15, 3) := by decide +kernel
theorem dX11_law_16 : decode cX11_law 16 = .ok (.aload_n 0, 1) := by decide +kernel
theorem dX11_law_17 : decode cX11_law 17 = .ok (.iconst 0, 1) := by decide +kernel
theorem dX11_law_18 : decode cX11_law 18 = .ok (.putfield 239, 3) := by decide +kernel
theorem dX11_law_21 : decode cX11_law 21 = .ok (.aload_n 0, 1) := by decide +kernel
theorem dX11_law_22 : decode cX11_law 22 = .ok (.bipush (-5), 2) := by decide +kernel
theorem dX11_law_24 : decode cX11_law 24 = .ok (.invokevirtual 175, 3) := by decide +kernel
theorem dX11_law_27 : decode cX11_law 27 = .ok (.ireturn, 1) := by decide +kernel
theorem dX11_law_28 : decode cX11_law 28 = .ok (.aload_n 0, 1) := by decide +kernel
theorem dX11_law_29 : decode cX11_law 29 = .ok (.iconst 0, 1) := by decide +kernel
theorem dX11_law_30 : decode cX11_law 30 = .ok (.invokevirtual 386, 3) := by decide +kernel
theorem dX11_law_33 : decode cX11_law 33 = .ok (.aload_n 0, 1) := by decide +kernel
theorem dX11_law_34 : decode cX11_law 34 = .ok (.invokevirtual 389, 3) := by decide +kernel
theorem dX11_law_37 : decode cX11_law 37 = .ok (.aload_n 0, 1) := by decide +kernel
theorem dX11_law_38 : decode cX11_law 38 = .ok (.getfield 251, 3) := by decide +kernel
theorem dX11_law_41 : decode cX11_law 41 = .ok (.ifCond .ne 23, 3) := by decide +kernel
theorem dX11_law_44 : decode cX11_law 44 = .ok (.aload_n 0, 1) := by decide +kernel
theorem dX11_law_45 : decode cX11_law 45 = .ok (.bipush 59, 2) := by decide +kernel
theorem dX11_law_47 : decode cX11_law 47 = .ok (.invokevirtual 318, 3) := by decide +kernel
theorem dX11_law_50 : decode cX11_law 50 = .ok (.ifCond .eq 14, 3) := by decide +kernel
theorem dX11_law_53 : decode cX11_law 53 = .ok (.aload_n 0, 1) := by decide +kernel
theorem dX11_law_54 : decode cX11_law 54 = .ok (.invokevirtual 255, 3) := by decide +kernel
theorem dX11_law_57 : decode cX11_law 57 = .ok (.aload_n 0, 1) := by decide +kernel
theorem dX11_law_58 : decode cX11_law 58 = .ok (.invokevirtual 389, 3) := by decide +kernel
theorem dX11_law_61 : decode cX11_law 61 = .ok (.goto (-24), 3) := by decide +kernel
theorem dX11_law_64 : decode cX11_law 64 = .ok (.aload_n 0, 1) := by decide +kernel
theorem dX11_law_65 : decode cX11_law 65 = .ok (.invokevirtual 392, 3) := by decide +kernel
theorem dX11_law_68 : decode cX11_law 68 = .ok (.aload_n 0, 1) := by decide +kernel
theorem dX11_law_69 : decode cX11_law 69 = .ok (.getfield 251, 3) := by decide +kernel
theorem dX11_law_72 : decode cX11_law 72 = .ok (.ifCond .eq 10, 3) := by decide +kernel
theorem dX11_law_75 : decode cX11_law 75 = .ok (.aload_n 0, 1) := by decide +kernel
theorem dX11_law_76 : decode cX11_law 76 = .ok (.bipush (-6), 2) := by decide +kernel
theorem dX11_law_78 : decode cX11_law 78 = .ok (.invokevirtual 175, 3) := by decide +kernel
theorem dX11_law_81 : decode cX11_law 81 = .ok (.ireturn, 1) := by decide +kernel
theorem dX11_law_82 : decode cX11_law 82 = .ok (.bipush 62, 2) := by decide +kernel
theorem dX11_law_84 : decode cX11_law 84 = .ok (.sipush 900, 3) := by decide +kernel
theorem dX11_law_87 : decode cX11_law 87 = .ok (.aload_n 0, 1) := by decide +kernel
theorem dX11_law_88 : decode cX11_law 88 = .ok (.getfield 13, 3) := by decide +kernel
theorem dX11_law_91 : decode cX11_law 91 = .ok (.iconst 2, 1) := by decide +kernel
theorem dX11_law_92 : decode cX11_law 92 = .ok (.iaload, 1) := by decide +kernel
theorem dX11_law_93 : decode cX11_law 93 = .ok (.imul, 1) := by decide +kernel
theorem dX11_law_94 : decode cX11_law 94 = .ok (.iadd, 1) := by decide +kernel
theorem dX11_law_95 : decode cX11_law 95 = .ok (.istore_n 1, 1) := by decide +kernel
theorem dX11_law_96 : decode cX11_law 96 = .ok (.aload_n 0, 1) := by decide +kernel
theorem dX11_law_97 : decode cX11_law 97 = .ok (.getfield 13, 3) := by decide +kernel
theorem dX11_law_100 : decode cX11_law 100 = .ok (.iload_n 1, 1) := by decide +kernel
theorem dX11_law_101 : decode cX11_law 101 = .ok (.iconst 1, 1) := by decide +kernel
theorem dX11_law_102 : decode cX11_law 102 = .ok (.iadd, 1) := by decide +kernel
theorem dX11_law_103 : decode cX11_law 103 = .ok (.aload_n 0, 1) := by decide +kernel
theorem dX11_law_104 : decode cX11_law 104 = .ok (.getfield 378, 3) := by decide +kernel
theorem dX11_law_107 : decode cX11_law 107 = .ok (.iastore, 1) := by decide +kernel
theorem dX11_law_108 : decode cX11_law 108 = .ok (.iconst 0, 1) := by decide +kernel
theorem dX11_law_109 : decode cX11_law 109 = .ok (.istore_n 2, 1) := by decide +kernel
theorem dX11_law_110 : decode cX11_law 110 = .ok (.iload_n 2, 1) := by decide +kernel
theorem dX11_law_111 : decode cX11_law 111 = .ok (.bipush 8, 2) := by decide +kernel
theorem dX11_law_113 : decode cX11_law 113 = .ok (.aload_n 0, 1) := by decide +kernel
theorem dX11_law_114 : decode cX11_law 114 = .ok (.getfield 378, 3) := by decide +kernel
theorem dX11_law_117 : decode cX11_law 117 = .ok (.imul, 1) := by decide +kernel
theorem dX11_law_118 : decode cX11_law 118 = .ok (.if_icmp .ge 25, 3) := by decide +kernel
theorem dX11_law_121 : decode cX11_law 121 = .ok (.aload_n 0, 1) := by decide +kernel
theorem dX11_law_122 : decode cX11_law 122 = .ok (.getfield 13, 3) := by decide +kernel
theorem dX11_law_125 : decode cX11_law 125 = .ok (.iload_n 1, 1) := by decide +kernel
theorem dX11_law_126 : decode cX11_law 126 = .ok (.iconst 2, 1) := by decide +kernel
theorem dX11_law_127 : decode cX11_law 127 = .ok (.iadd, 1) := by decide +kernel
theorem dX11_law_128 : decode cX11_law 128 = .ok (.iload_n 2, 1) := by decide +kernel
theorem dX11_law_129 : decode cX11_law 129 = .ok (.iadd, 1) := by decide +kernel
theorem dX11_law_130 : decode cX11_law 130 = .ok (.aload_n 0, 1) := by decide +kernel
theorem dX11_law_131 : decode cX11_law 131 = .ok (.getfield 42, 3) := by decide +kernel
theorem dX11_law_134 : decode cX11_law 134 = .ok (.iload_n 2, 1) := by decide +kernel
theorem dX11_law_135 : decode cX11_law 135 = .ok (.iaload, 1) := by decide +kernel
theorem dX11_law_136 : decode cX11_law 136 = .ok (.iastore, 1) := by decide +kernel
theorem dX11_law_137 : decode cX11_law 137 = .ok (.iinc 2 1, 3) := by decide +kernel
theorem dX11_law_140 : decode cX11_law 140 = .ok (.goto (-30), 3) := by decide +kernel
theorem dX11_law_143 : decode cX11_law 143 = .ok (.iconst 0, 1) := by decide +kernel
theorem dX11_law_144 : decode cX11_law 144 = .ok (.istore_n 2, 1) := by decide +kernel
theorem dX11_law_145 : decode cX11_law 145 = .ok (.iload_n 2, 1) := by decide +kernel
theorem dX11_law_146 : decode cX11_law 146 = .ok (.aload_n 0, 1) := by decide +kernel
theorem dX11_law_147 : decode cX11_law 147 = .ok (.getfield 288, 3) := by decide +kernel
theorem dX11_law_150 : decode cX11_law 150 = .ok (.if_icmp .ge 49, 3) := by decide +kernel
theorem dX11_law_153 : decode cX11_law 153 = .ok (.aload_n 0, 1) := by decide +kernel
theorem dX11_law_154 : decode cX11_law 154 = .ok (.getfield 13, 3) := by decide +kernel
theorem dX11_law_157 : decode cX11_law 157 = .ok (.iload_n 1, 1) := by decide +kernel
theorem dX11_law_158 : decode cX11_law 158 = .ok (.bipush 98, 2) := by decide +kernel
theorem dX11_law_160 : decode cX11_law 160 = .ok (.iadd, 1) := by decide +kernel
theorem dX11_law_161 : decode cX11_law 161 = .ok (.iconst 2, 1) := by decide +kernel
theorem dX11_law_162 : decode cX11_law 162 = .ok (.iload_n 2, 1) := by decide +kernel
theorem dX11_law_163 : decode cX11_law 163 = .ok (.imul, 1) := by decide +kernel
theorem dX11_law_164 : decode cX11_law 164 = .ok (.iadd, 1) := by decide +kernel
theorem dX11_law_165 : decode cX11_law 165 = .ok (.aload_n 0, 1) := by decide +kernel
theorem dX11_law_166 : decode cX11_law 166 = .ok (.getfield 45, 3) := by decide +kernel
theorem dX11_law_169 : decode cX11_law 169 = .ok (.iload_n 2, 1) := by decide +kernel
theorem dX11_law_170 : decode cX11_law 170 = .ok (.iaload, 1) := by decide +kernel
theorem dX11_law_171 : decode cX11_law 171 = .ok (.iastore, 1) := by decide +kernel
theorem dX11_law_172 : decode cX11_law 172 = .ok (.aload_n 0, 1) := by decide +kernel
theorem dX11_law_173 : decode cX11_law 173 = .ok (.getfield 13, 3) := by decide +kernel
theorem dX11_law_176 : decode cX11_law 176 = .ok (.iload_n 1, 1) := by decide +kernel
theorem dX11_law_177 : decode cX11_law 177 = .ok (.bipush 98, 2) := by decide +kernel
theorem dX11_law_179 : decode cX11_law 179 = .ok (.iadd, 1) := by decide +kernel
theorem dX11_law_180 : decode cX11_law 180 = .ok (.iconst 2, 1) := by decide +kernel
theorem dX11_law_181 : decode cX11_law 181 = .ok (.iload_n 2, 1) := by decide +kernel
theorem dX11_law_182 : decode cX11_law 182 = .ok (.imul, 1) := by decide +kernel
theorem dX11_law_183 : decode cX11_law 183 = .ok (.iadd, 1) := by decide +kernel
theorem dX11_law_184 : decode cX11_law 184 = .ok (.iconst 1, 1) := by decide +kernel
theorem dX11_law_185 : decode cX11_law 185 = .ok (.iadd, 1) := by decide +kernel
theorem dX11_law_186 : decode cX11_law 186 = .ok (.aload_n 0, 1) := by decide +kernel
theorem dX11_law_187 : decode cX11_law 187 = .ok (.getfield 48, 3) := by decide +kernel
theorem dX11_law_190 : decode cX11_law 190 = .ok (.iload_n 2, 1) := by decide +kernel
theorem dX11_law_191 : decode cX11_law 191 = .ok (.iaload, 1) := by decide +kernel
theorem dX11_law_192 : decode cX11_law 192 = .ok (.iastore, 1) := by decide +kernel
theorem dX11_law_193 : decode cX11_law 193 = .ok (.iinc 2 1, 3) := by decide +kernel
theorem dX11_law_196 : decode cX11_law 196 = .ok (.goto (-51), 3) := by decide +kernel
theorem dX11_law_199 : decode cX11_law 199 = .ok (.aload_n 0, 1) := by decide +kernel
theorem dX11_law_200 : decode cX11_law 200 = .ok (.getfield 13, 3) := by decide +kernel
theorem dX11_law_203 : decode cX11_law 203 = .ok (.iconst 2, 1) := by decide +kernel
theorem dX11_law_204 : decode cX11_law 204 = .ok (.dup2, 1) := by decide +kernel
theorem dX11_law_205 : decode cX11_law 205 = .ok (.iaload, 1) := by decide +kernel
theorem dX11_law_206 : decode cX11_law 206 = .ok (.iconst 1, 1) := by decide +kernel
theorem dX11_law_207 : decode cX11_law 207 = .ok (.iadd, 1) := by decide +kernel
theorem dX11_law_208 : decode cX11_law 208 = .ok (.iastore, 1) := by decide +kernel
theorem dX11_law_209 : decode cX11_law 209 = .ok (.aload_n 0, 1) := by decide +kernel
theorem dX11_law_210 : decode cX11_law 210 = .ok (.aload_n 0, 1) := by decide +kernel
theorem dX11_law_211 : decode cX11_law 211 = .ok (.getfield 13, 3) := by decide +kernel
theorem dX11_law_214 : decode cX11_law 214 = .ok (.iconst 2, 1) := by decide +kernel
theorem dX11_law_215 : decode cX11_law 215 = .ok (.iaload, 1) := by decide +kernel
theorem dX11_law_216 : decode cX11_law 216 = .ok (.iconst 1, 1) := by decide +kernel
theorem dX11_law_217 : decode cX11_law 217 = .ok (.isub, 1) := by decide +kernel
theorem dX11_law_218 : decode cX11_law 218 = .ok (.invokevirtual 175, 3) := by decide +kernel
theorem dX11_law_221 : decode cX11_law 221 = .ok (.ireturn, 1) := by decide +kernel
def D_X11_law_145b (k145 : z_H → Option Nat → Int32 → Int32 → Option (Int32 × z_H)) (h : z_H) (l0 : Option Nat) (l1 : Int32) (l2 : Int32) : Option (Int32 × z_H) :=
  (z_gI 11 h l0 23).bind fun x3793 =>
  if x3793 ≤ l2 then
    (z_gQ 11 h l0 3).bind fun x3795 =>
    (z_aI .int h x3795 (2:Int32)).bind fun x3796 =>
    (z_sI h x3795 (2:Int32) (x3796 + (1:Int32))).bind fun h3797 =>
    (z_gQ 11 h3797 l0 3).bind fun x3798 =>
    (z_aI .int h3797 x3798 (2:Int32)).bind fun x3799 =>
    (z_ob 11 h3797 l0).bind fun _ =>
    (D_X11_tell  h3797 l0 (x3799 - (1:Int32))).bind fun p3800 =>
    some (p3800.1, p3800.2)
  else
    (z_gQ 11 h l0 3).bind fun x3802 =>
    (z_gQ 11 h l0 24).bind fun x3803 =>
    (z_aI .int h x3803 l2).bind fun x3804 =>
    (z_sI h x3802 ((l1 + (98:Int32)) + ((2:Int32) * l2)) x3804).bind fun h3805 =>
    (z_gQ 11 h3805 l0 3).bind fun x3806 =>
    (z_gQ 11 h3805 l0 25).bind fun x3807 =>
    (z_aI .int h3805 x3807 l2).bind fun x3808 =>
    (z_sI h3805 x3806 (((l1 + (98:Int32)) + ((2:Int32) * l2)) + (1:Int32)) x3808).bind fun h3809 =>
    (some (l2 + (1:Int32))).bind fun x3810 =>
    k145 h3809 l0 l1 x3810
def D_X11_law_145 (n : Nat) : z_H → Option Nat → Int32 → Int32 → Option (Int32 × z_H) := Nat.rec (motive := fun _ => z_H → Option Nat → Int32 → Int32 → Option (Int32 × z_H)) (fun _ _ _ _ => none) (fun _ k => D_X11_law_145b  k) n
set_option maxRecDepth 100000 in
set_option maxHeartbeats 4000000 in
theorem S_X11_law_145 {G : z_G} {l : Launch}  (n : Nat) : ∀ {h : z_H} {l0 : Option Nat} {l1 : Int32} {l2 : Int32} {res : (Int32 × z_H)}, D_X11_law_145  n h l0 l1 l2 = some res → z_Run G l 12 M_X11_law 145 [(0, z_r l0), (1, .int l1), (2, .int l2)] [] h res.2 (some (.int res.1)) := by
  induction n with
  | zero => intro h l0 l1 l2 res e; cases e
  | succ n hk145 =>
    intro h l0 l1 l2 res e
    replace e : D_X11_law_145b  (D_X11_law_145  n) h l0 l1 l2 = some res := e
    unfold D_X11_law_145b at e
    refine z_iload_n 2 dX11_law_145 rfl ?_
    refine z_aload_n 0 dX11_law_146 rfl ?_
    replace e := z_bd e; obtain ⟨x3793, ex3793, e⟩ := e
    refine z_getI ex3793 lk_X11_288 dX11_law_147 ?_
    refine z_icmp_ge (tgt := 199) dX11_law_150 (by decide) (fun c3794 => ?_) (fun c3794 => ?_)
    · rw [if_pos c3794] at e
      refine z_aload_n 0 dX11_law_199 rfl ?_
      replace e := z_bd e; obtain ⟨x3795, ex3795, e⟩ := e
      refine z_getQ ex3795 lk_X11_13 dX11_law_200 ?_
      refine z_iconst (v := 2) dX11_law_203 (by decide) ?_
      refine z_dup2 dX11_law_204 rfl (z_cr _) ?_
      replace e := z_bd e; obtain ⟨x3796, ex3796, e⟩ := e
      refine z_iald ex3796 dX11_law_205 ?_
      refine z_iconst (v := 1) dX11_law_206 (by decide) ?_
      refine z_iadd dX11_law_207 ?_
      replace e := z_bd e; obtain ⟨h3797, eh3797, e⟩ := e
      refine z_iast eh3797 dX11_law_208 ?_
      refine z_aload_n 0 dX11_law_209 rfl ?_
      refine z_aload_n 0 dX11_law_210 rfl ?_
      replace e := z_bd e; obtain ⟨x3798, ex3798, e⟩ := e
      refine z_getQ ex3798 lk_X11_13 dX11_law_211 ?_
      refine z_iconst (v := 2) dX11_law_214 (by decide) ?_
      replace e := z_bd e; obtain ⟨x3799, ex3799, e⟩ := e
      refine z_iald ex3799 dX11_law_215 ?_
      refine z_iconst (v := 1) dX11_law_216 (by decide) ?_
      refine z_isub dX11_law_217 ?_
      replace e := z_bd e; obtain ⟨o3801, eo3801, e⟩ := e
      replace e := z_bd e; obtain ⟨p3800, ep3800, e⟩ := e
      refine z_cV [.int (x3799 - (1:Int32))] (S_X11_tell  ep3800) eo3801 rfl ml_X11_175 ck_X11_tell vk_X11_tell dX11_law_218 (by decide) rfl (Nat.zero_le _) rfl ?_
      cases e
      exact z_iret dX11_law_221 rfl
    · rw [if_neg c3794] at e
      refine z_aload_n 0 dX11_law_153 rfl ?_
      replace e := z_bd e; obtain ⟨x3802, ex3802, e⟩ := e
      refine z_getQ ex3802 lk_X11_13 dX11_law_154 ?_
      refine z_iload_n 1 dX11_law_157 rfl ?_
      refine z_bipush (v := 98) dX11_law_158 (by decide) ?_
      refine z_iadd dX11_law_160 ?_
      refine z_iconst (v := 2) dX11_law_161 (by decide) ?_
      refine z_iload_n 2 dX11_law_162 rfl ?_
      refine z_imul dX11_law_163 ?_
      refine z_iadd dX11_law_164 ?_
      refine z_aload_n 0 dX11_law_165 rfl ?_
      replace e := z_bd e; obtain ⟨x3803, ex3803, e⟩ := e
      refine z_getQ ex3803 lk_X11_45 dX11_law_166 ?_
      refine z_iload_n 2 dX11_law_169 rfl ?_
      replace e := z_bd e; obtain ⟨x3804, ex3804, e⟩ := e
      refine z_iald ex3804 dX11_law_170 ?_
      replace e := z_bd e; obtain ⟨h3805, eh3805, e⟩ := e
      refine z_iast eh3805 dX11_law_171 ?_
      refine z_aload_n 0 dX11_law_172 rfl ?_
      replace e := z_bd e; obtain ⟨x3806, ex3806, e⟩ := e
      refine z_getQ ex3806 lk_X11_13 dX11_law_173 ?_
      refine z_iload_n 1 dX11_law_176 rfl ?_
      refine z_bipush (v := 98) dX11_law_177 (by decide) ?_
      refine z_iadd dX11_law_179 ?_
      refine z_iconst (v := 2) dX11_law_180 (by decide) ?_
      refine z_iload_n 2 dX11_law_181 rfl ?_
      refine z_imul dX11_law_182 ?_
      refine z_iadd dX11_law_183 ?_
      refine z_iconst (v := 1) dX11_law_184 (by decide) ?_
      refine z_iadd dX11_law_185 ?_
      refine z_aload_n 0 dX11_law_186 rfl ?_
      replace e := z_bd e; obtain ⟨x3807, ex3807, e⟩ := e
      refine z_getQ ex3807 lk_X11_48 dX11_law_187 ?_
      refine z_iload_n 2 dX11_law_190 rfl ?_
      replace e := z_bd e; obtain ⟨x3808, ex3808, e⟩ := e
      refine z_iald ex3808 dX11_law_191 ?_
      replace e := z_bd e; obtain ⟨h3809, eh3809, e⟩ := e
      refine z_iast eh3809 dX11_law_192 ?_
      replace e := z_bd e; obtain ⟨x3810, ex3810, e⟩ := e
      refine z_iinc (q := 2) (v := x3810) (L' := [(2, .int x3810), (0, z_r l0), (1, .int l1)]) dX11_law_193 rfl (Option.some.inj ex3810) (by decide) rfl ?_
      refine z_goto (tgt := 145) dX11_law_196 (by decide) ?_
      exact z_weak [1, 2, 0] rfl (hk145 e)
def D_X11_law_110b (k110 : z_H → Option Nat → Int32 → Int32 → Option (Int32 × z_H)) (h : z_H) (l0 : Option Nat) (l1 : Int32) (l2 : Int32) : Option (Int32 × z_H) :=
  (z_gI 11 h l0 21).bind fun x3811 =>
  if ((8:Int32) * x3811) ≤ l2 then
    D_X11_law_145   z_F h l0 l1 (0:Int32)
  else
    (z_gQ 11 h l0 3).bind fun x3813 =>
    (z_gQ 11 h l0 22).bind fun x3814 =>
    (z_aI .int h x3814 l2).bind fun x3815 =>
    (z_sI h x3813 ((l1 + (2:Int32)) + l2) x3815).bind fun h3816 =>
    (some (l2 + (1:Int32))).bind fun x3817 =>
    k110 h3816 l0 l1 x3817
def D_X11_law_110 (n : Nat) : z_H → Option Nat → Int32 → Int32 → Option (Int32 × z_H) := Nat.rec (motive := fun _ => z_H → Option Nat → Int32 → Int32 → Option (Int32 × z_H)) (fun _ _ _ _ => none) (fun _ k => D_X11_law_110b  k) n
set_option maxRecDepth 100000 in
set_option maxHeartbeats 4000000 in
theorem S_X11_law_110 {G : z_G} {l : Launch}  (n : Nat) : ∀ {h : z_H} {l0 : Option Nat} {l1 : Int32} {l2 : Int32} {res : (Int32 × z_H)}, D_X11_law_110  n h l0 l1 l2 = some res → z_Run G l 12 M_X11_law 110 [(0, z_r l0), (1, .int l1), (2, .int l2)] [] h res.2 (some (.int res.1)) := by
  induction n with
  | zero => intro h l0 l1 l2 res e; cases e
  | succ n hk110 =>
    intro h l0 l1 l2 res e
    replace e : D_X11_law_110b  (D_X11_law_110  n) h l0 l1 l2 = some res := e
    unfold D_X11_law_110b at e
    refine z_iload_n 2 dX11_law_110 rfl ?_
    refine z_bipush (v := 8) dX11_law_111 (by decide) ?_
    refine z_aload_n 0 dX11_law_113 rfl ?_
    replace e := z_bd e; obtain ⟨x3811, ex3811, e⟩ := e
    refine z_getI ex3811 lk_X11_378 dX11_law_114 ?_
    refine z_imul dX11_law_117 ?_
    refine z_icmp_ge (tgt := 143) dX11_law_118 (by decide) (fun c3812 => ?_) (fun c3812 => ?_)
    · rw [if_pos c3812] at e
      refine z_iconst (v := 0) dX11_law_143 (by decide) ?_
      refine z_istore_n (L' := [(2, .int (0:Int32)), (0, z_r l0), (1, .int l1)]) dX11_law_144 rfl (by decide) rfl ?_
      exact z_weak [1, 2, 0] rfl (S_X11_law_145   z_F e)
    · rw [if_neg c3812] at e
      refine z_aload_n 0 dX11_law_121 rfl ?_
      replace e := z_bd e; obtain ⟨x3813, ex3813, e⟩ := e
      refine z_getQ ex3813 lk_X11_13 dX11_law_122 ?_
      refine z_iload_n 1 dX11_law_125 rfl ?_
      refine z_iconst (v := 2) dX11_law_126 (by decide) ?_
      refine z_iadd dX11_law_127 ?_
      refine z_iload_n 2 dX11_law_128 rfl ?_
      refine z_iadd dX11_law_129 ?_
      refine z_aload_n 0 dX11_law_130 rfl ?_
      replace e := z_bd e; obtain ⟨x3814, ex3814, e⟩ := e
      refine z_getQ ex3814 lk_X11_42 dX11_law_131 ?_
      refine z_iload_n 2 dX11_law_134 rfl ?_
      replace e := z_bd e; obtain ⟨x3815, ex3815, e⟩ := e
      refine z_iald ex3815 dX11_law_135 ?_
      replace e := z_bd e; obtain ⟨h3816, eh3816, e⟩ := e
      refine z_iast eh3816 dX11_law_136 ?_
      replace e := z_bd e; obtain ⟨x3817, ex3817, e⟩ := e
      refine z_iinc (q := 2) (v := x3817) (L' := [(2, .int x3817), (0, z_r l0), (1, .int l1)]) dX11_law_137 rfl (Option.some.inj ex3817) (by decide) rfl ?_
      refine z_goto (tgt := 110) dX11_law_140 (by decide) ?_
      exact z_weak [1, 2, 0] rfl (hk110 e)
def D_X11_law_64 (h : z_H) (l0 : Option Nat) : Option (Int32 × z_H) :=
  (z_ob 11 h l0).bind fun _ =>
  (D_X11_endText  h l0).bind fun p3818 =>
  (z_gI 11 p3818 l0 19).bind fun x3820 =>
  if x3820 = 0 then
    (z_gQ 11 p3818 l0 3).bind fun x3822 =>
    (z_aI .int p3818 x3822 (2:Int32)).bind fun x3823 =>
    (some ((62:Int32) + ((900:Int32) * x3823))).bind fun x3824 =>
    (z_gQ 11 p3818 l0 3).bind fun x3825 =>
    (z_gI 11 p3818 l0 21).bind fun x3826 =>
    (z_sI p3818 x3825 (x3824 + (1:Int32)) x3826).bind fun h3827 =>
    D_X11_law_110   z_F h3827 l0 x3824 (0:Int32)
  else
    (z_ob 11 p3818 l0).bind fun _ =>
    (D_X11_tell  p3818 l0 (-6:Int32)).bind fun p3828 =>
    some (p3828.1, p3828.2)
set_option maxRecDepth 100000 in
set_option maxHeartbeats 4000000 in
theorem S_X11_law_64 {G : z_G} {l : Launch}  {h : z_H} {l0 : Option Nat} {res : (Int32 × z_H)} (e : D_X11_law_64  h l0 = some res) : z_Run G l 12 M_X11_law 64 [(0, z_r l0)] [] h res.2 (some (.int res.1)) := by
  unfold D_X11_law_64 at e
  refine z_aload_n 0 dX11_law_64 rfl ?_
  replace e := z_bd e; obtain ⟨o3819, eo3819, e⟩ := e
  replace e := z_bd e; obtain ⟨p3818, ep3818, e⟩ := e
  refine z_cV [] (S_X11_endText  ep3818) eo3819 rfl ml_X11_392 ck_X11_endText vk_X11_endText dX11_law_65 (by decide) rfl (Nat.zero_le _) rfl ?_
  refine z_aload_n 0 dX11_law_68 rfl ?_
  replace e := z_bd e; obtain ⟨x3820, ex3820, e⟩ := e
  refine z_getI ex3820 lk_X11_251 dX11_law_69 ?_
  refine z_if_eq (tgt := 82) dX11_law_72 (by decide) (fun c3821 => ?_) (fun c3821 => ?_)
  · rw [if_pos c3821] at e
    refine z_bipush (v := 62) dX11_law_82 (by decide) ?_
    refine z_sipush (v := 900) dX11_law_84 (by decide) ?_
    refine z_aload_n 0 dX11_law_87 rfl ?_
    replace e := z_bd e; obtain ⟨x3822, ex3822, e⟩ := e
    refine z_getQ ex3822 lk_X11_13 dX11_law_88 ?_
    refine z_iconst (v := 2) dX11_law_91 (by decide) ?_
    replace e := z_bd e; obtain ⟨x3823, ex3823, e⟩ := e
    refine z_iald ex3823 dX11_law_92 ?_
    refine z_imul dX11_law_93 ?_
    refine z_iadd dX11_law_94 ?_
    replace e := z_bd e; obtain ⟨x3824, ex3824, e⟩ := e
    refine z_topI ex3824 ?_
    refine z_istore_n (L' := [(1, .int x3824), (0, z_r l0)]) dX11_law_95 rfl (by decide) (by simp [z_cr]) ?_
    refine z_aload_n 1 dX11_law_96 rfl ?_
    replace e := z_bd e; obtain ⟨x3825, ex3825, e⟩ := e
    refine z_getQ ex3825 lk_X11_13 dX11_law_97 ?_
    refine z_iload_n 0 dX11_law_100 rfl ?_
    refine z_iconst (v := 1) dX11_law_101 (by decide) ?_
    refine z_iadd dX11_law_102 ?_
    refine z_aload_n 1 dX11_law_103 rfl ?_
    replace e := z_bd e; obtain ⟨x3826, ex3826, e⟩ := e
    refine z_getI ex3826 lk_X11_378 dX11_law_104 ?_
    replace e := z_bd e; obtain ⟨h3827, eh3827, e⟩ := e
    refine z_iast eh3827 dX11_law_107 ?_
    refine z_iconst (v := 0) dX11_law_108 (by decide) ?_
    refine z_istore_n (L' := [(2, .int (0:Int32)), (1, .int x3824), (0, z_r l0)]) dX11_law_109 rfl (by decide) rfl ?_
    exact z_weak [2, 1, 0] rfl (S_X11_law_110   z_F e)
  · rw [if_neg c3821] at e
    refine z_aload_n 0 dX11_law_75 rfl ?_
    refine z_bipush (v := -6) dX11_law_76 (by decide) ?_
    replace e := z_bd e; obtain ⟨o3829, eo3829, e⟩ := e
    replace e := z_bd e; obtain ⟨p3828, ep3828, e⟩ := e
    refine z_cV [.int (-6:Int32)] (S_X11_tell  ep3828) eo3829 rfl ml_X11_175 ck_X11_tell vk_X11_tell dX11_law_78 (by decide) rfl (Nat.zero_le _) rfl ?_
    cases e
    exact z_iret dX11_law_81 rfl
def D_X11_law_37b (k37 : z_H → Option Nat → Option (Int32 × z_H)) (h : z_H) (l0 : Option Nat) : Option (Int32 × z_H) :=
  (z_gI 11 h l0 19).bind fun x3830 =>
  if x3830 = 0 then
    (z_ob 11 h l0).bind fun _ =>
    (D_X11_isSign  h l0 (59:Int32)).bind fun p3832 =>
    if p3832.1 = 0 then
      D_X11_law_64   p3832.2 l0
    else
      (z_ob 11 p3832.2 l0).bind fun _ =>
      (D_X11_next  p3832.2 l0).bind fun p3835 =>
      (z_ob 11 p3835 l0).bind fun _ =>
      (D_X11_readLaw  p3835 l0).bind fun p3837 =>
      k37 p3837 l0
  else
    D_X11_law_64   h l0
def D_X11_law_37 (n : Nat) : z_H → Option Nat → Option (Int32 × z_H) := Nat.rec (motive := fun _ => z_H → Option Nat → Option (Int32 × z_H)) (fun _ _ => none) (fun _ k => D_X11_law_37b  k) n
set_option maxRecDepth 100000 in
set_option maxHeartbeats 4000000 in
theorem S_X11_law_37 {G : z_G} {l : Launch}  (n : Nat) : ∀ {h : z_H} {l0 : Option Nat} {res : (Int32 × z_H)}, D_X11_law_37  n h l0 = some res → z_Run G l 12 M_X11_law 37 [(0, z_r l0)] [] h res.2 (some (.int res.1)) := by
  induction n with
  | zero => intro h l0 res e; cases e
  | succ n hk37 =>
    intro h l0 res e
    replace e : D_X11_law_37b  (D_X11_law_37  n) h l0 = some res := e
    unfold D_X11_law_37b at e
    refine z_aload_n 0 dX11_law_37 rfl ?_
    replace e := z_bd e; obtain ⟨x3830, ex3830, e⟩ := e
    refine z_getI ex3830 lk_X11_251 dX11_law_38 ?_
    refine z_if_ne (tgt := 64) dX11_law_41 (by decide) (fun c3831 => ?_) (fun c3831 => ?_)
    · rw [if_neg c3831] at e
      exact z_weak [0] rfl (S_X11_law_64   e)
    · rw [if_pos c3831] at e
      refine z_aload_n 0 dX11_law_44 rfl ?_
      refine z_bipush (v := 59) dX11_law_45 (by decide) ?_
      replace e := z_bd e; obtain ⟨o3833, eo3833, e⟩ := e
      replace e := z_bd e; obtain ⟨p3832, ep3832, e⟩ := e
      refine z_cV [.int (59:Int32)] (S_X11_isSign  ep3832) eo3833 rfl ml_X11_318 ck_X11_isSign vk_X11_isSign dX11_law_47 (by decide) rfl (Nat.zero_le _) rfl ?_
      refine z_if_eq (tgt := 64) dX11_law_50 (by decide) (fun c3834 => ?_) (fun c3834 => ?_)
      · rw [if_pos c3834] at e
        exact z_weak [0] rfl (S_X11_law_64   e)
      · rw [if_neg c3834] at e
        refine z_aload_n 0 dX11_law_53 rfl ?_
        replace e := z_bd e; obtain ⟨o3836, eo3836, e⟩ := e
        replace e := z_bd e; obtain ⟨p3835, ep3835, e⟩ := e
        refine z_cV [] (S_X11_next  ep3835) eo3836 rfl ml_X11_255 ck_X11_next vk_X11_next dX11_law_54 (by decide) rfl (Nat.zero_le _) rfl ?_
        refine z_aload_n 0 dX11_law_57 rfl ?_
        replace e := z_bd e; obtain ⟨o3838, eo3838, e⟩ := e
        replace e := z_bd e; obtain ⟨p3837, ep3837, e⟩ := e
        refine z_cV [] (S_X11_readLaw  ep3837) eo3838 rfl ml_X11_389 ck_X11_readLaw vk_X11_readLaw dX11_law_58 (by decide) rfl (Nat.zero_le _) rfl ?_
        refine z_goto (tgt := 37) dX11_law_61 (by decide) ?_
        exact z_weak [0] rfl (hk37 e)
def D_X11_law (h : z_H) (l0 : Option Nat) : Option (Int32 × z_H) :=
  (z_pV 11 h l0 0 (.int (0:Int32))).bind fun h3839 =>
  (z_gQ 11 h3839 l0 3).bind fun x3840 =>
  (z_aI .int h3839 x3840 (2:Int32)).bind fun x3841 =>
  if x3841 = (6:Int32) then
    (z_pV 11 h3839 l0 13 (.int (0:Int32))).bind fun h3847 =>
    (z_ob 11 h3847 l0).bind fun _ =>
    (D_X11_tell  h3847 l0 (-5:Int32)).bind fun p3848 =>
    some (p3848.1, p3848.2)
  else
    (z_ob 11 h3839 l0).bind fun _ =>
    (D_X11_beginText  h3839 l0 (0:Int32)).bind fun p3843 =>
    (z_ob 11 p3843 l0).bind fun _ =>
    (D_X11_readLaw  p3843 l0).bind fun p3845 =>
    D_X11_law_37   z_F p3845 l0
set_option maxRecDepth 100000 in
set_option maxHeartbeats 4000000 in
theorem S_X11_law {G : z_G} {l : Launch} {h : z_H} {l0 : Option Nat} {res : (Int32 × z_H)} (e : D_X11_law h l0 = some res) : z_Meth G l 12 M_X11_law [z_r l0] h res.2 (some (.int res.1)) := by
  refine z_Meth.of ck_X11_law.2.2.2.2 (by simp [lg_sl, z_ci, z_cj, z_cr, z_cx]) ck_X11_law.1 ?_
  rw [show lv_args 0 [z_r l0] = [(0, z_r l0)] from by simp [lv_args, z_ci, z_cj, z_cr, z_cx]]
  unfold D_X11_law at e
  refine z_aload_n 0 dX11_law_0 rfl ?_
  refine z_iconst (v := 0) dX11_law_1 (by decide) ?_
  replace e := z_bd e; obtain ⟨h3839, eh3839, e⟩ := e
  refine z_putV eh3839 lk_X11_166 wk_11_0 (fun _ => rfl) (fun _ => rfl) dX11_law_2 ?_
  refine z_aload_n 0 dX11_law_5 rfl ?_
  replace e := z_bd e; obtain ⟨x3840, ex3840, e⟩ := e
  refine z_getQ ex3840 lk_X11_13 dX11_law_6 ?_
  refine z_iconst (v := 2) dX11_law_9 (by decide) ?_
  replace e := z_bd e; obtain ⟨x3841, ex3841, e⟩ := e
  refine z_iald ex3841 dX11_law_10 ?_
  refine z_bipush (v := 6) dX11_law_11 (by decide) ?_
  refine z_icmp_ne (tgt := 28) dX11_law_13 (by decide) (fun c3842 => ?_) (fun c3842 => ?_)
  · rw [if_neg c3842] at e
    refine z_aload_n 0 dX11_law_28 rfl ?_
    refine z_iconst (v := 0) dX11_law_29 (by decide) ?_
    replace e := z_bd e; obtain ⟨o3844, eo3844, e⟩ := e
    replace e := z_bd e; obtain ⟨p3843, ep3843, e⟩ := e
    refine z_cV [.int (0:Int32)] (S_X11_beginText  ep3843) eo3844 rfl ml_X11_386 ck_X11_beginText vk_X11_beginText dX11_law_30 (by decide) rfl (Nat.zero_le _) rfl ?_
    refine z_aload_n 0 dX11_law_33 rfl ?_
    replace e := z_bd e; obtain ⟨o3846, eo3846, e⟩ := e
    replace e := z_bd e; obtain ⟨p3845, ep3845, e⟩ := e
    refine z_cV [] (S_X11_readLaw  ep3845) eo3846 rfl ml_X11_389 ck_X11_readLaw vk_X11_readLaw dX11_law_34 (by decide) rfl (Nat.zero_le _) rfl ?_
    exact z_weak [0] rfl (S_X11_law_37   z_F e)
  · rw [if_pos c3842] at e
    refine z_aload_n 0 dX11_law_16 rfl ?_
    refine z_iconst (v := 0) dX11_law_17 (by decide) ?_
    replace e := z_bd e; obtain ⟨h3847, eh3847, e⟩ := e
    refine z_putV eh3847 lk_X11_239 wk_11_13 (fun _ => rfl) (fun _ => rfl) dX11_law_18 ?_
    refine z_aload_n 0 dX11_law_21 rfl ?_
    refine z_bipush (v := -5) dX11_law_22 (by decide) ?_
    replace e := z_bd e; obtain ⟨o3849, eo3849, e⟩ := e
    replace e := z_bd e; obtain ⟨p3848, ep3848, e⟩ := e
    refine z_cV [.int (-5:Int32)] (S_X11_tell  ep3848) eo3849 rfl ml_X11_175 ck_X11_tell vk_X11_tell dX11_law_24 (by decide) rfl (Nat.zero_le _) rfl ?_
    cases e
    exact z_iret dX11_law_27 rfl
theorem dX10_brads_0 : decode cX10_brads 0 = .ok (.aload_n 0, 1) := by decide +kernel
theorem dX10_brads_1 : decode cX10_brads 1 = .ok (.getfield 97, 3) := by decide +kernel
theorem dX10_brads_4 : decode cX10_brads 4 = .ok (.ireturn, 1) := by decide +kernel
def D_X10_brads (h : z_H) (l0 : Option Nat) : Option (Int32 × z_H) :=
  (z_gI 10 h l0 14).bind fun x3850 =>
  some (x3850, h)
set_option maxRecDepth 100000 in
set_option maxHeartbeats 4000000 in
theorem S_X10_brads {G : z_G} {l : Launch} {h : z_H} {l0 : Option Nat} {res : (Int32 × z_H)} (e : D_X10_brads h l0 = some res) : z_Meth G l 4 M_X10_brads [z_r l0] h res.2 (some (.int res.1)) := by
  refine z_Meth.of ck_X10_brads.2.2.2.2 (by simp [lg_sl, z_ci, z_cj, z_cr, z_cx]) ck_X10_brads.1 ?_
  rw [show lv_args 0 [z_r l0] = [(0, z_r l0)] from by simp [lv_args, z_ci, z_cj, z_cr, z_cx]]
  unfold D_X10_brads at e
  refine z_aload_n 0 dX10_brads_0 rfl ?_
  replace e := z_bd e; obtain ⟨x3850, ex3850, e⟩ := e
  refine z_getI ex3850 lk_X10_97 dX10_brads_1 ?_
  cases e
  exact z_iret dX10_brads_4 rfl
theorem dX11_brads_0 : decode cX11_brads 0 = .ok (.aload_n 0, 1) := by decide +kernel
theorem dX11_brads_1 : decode cX11_brads 1 = .ok (.iconst 0, 1) := by decide +kernel
theorem dX11_brads_2 : decode cX11_brads 2 = .ok (.putfield 166, 3) := by decide +kernel
theorem dX11_brads_5 : decode cX11_brads 5 = .ok (.aload_n 0, 1) := by decide +kernel
theorem dX11_brads_6 : decode cX11_brads 6 = .ok (.getfield 242, 3) := by decide +kernel
theorem dX11_brads_9 : decode cX11_brads 9 = .ok (.ireturn, 1) := by decide +kernel
def D_X11_brads (h : z_H) (l0 : Option Nat) : Option (Int32 × z_H) :=
  (z_pV 11 h l0 0 (.int (0:Int32))).bind fun h3851 =>
  (z_gI 11 h3851 l0 11).bind fun x3852 =>
  some (x3852, h3851)
set_option maxRecDepth 100000 in
set_option maxHeartbeats 4000000 in
theorem S_X11_brads {G : z_G} {l : Launch} {h : z_H} {l0 : Option Nat} {res : (Int32 × z_H)} (e : D_X11_brads h l0 = some res) : z_Meth G l 4 M_X11_brads [z_r l0] h res.2 (some (.int res.1)) := by
  refine z_Meth.of ck_X11_brads.2.2.2.2 (by simp [lg_sl, z_ci, z_cj, z_cr, z_cx]) ck_X11_brads.1 ?_
  rw [show lv_args 0 [z_r l0] = [(0, z_r l0)] from by simp [lv_args, z_ci, z_cj, z_cr, z_cx]]
  unfold D_X11_brads at e
  refine z_aload_n 0 dX11_brads_0 rfl ?_
  refine z_iconst (v := 0) dX11_brads_1 (by decide) ?_
  replace e := z_bd e; obtain ⟨h3851, eh3851, e⟩ := e
  refine z_putV eh3851 lk_X11_166 wk_11_0 (fun _ => rfl) (fun _ => rfl) dX11_brads_2 ?_
  refine z_aload_n 0 dX11_brads_5 rfl ?_
  replace e := z_bd e; obtain ⟨x3852, ex3852, e⟩ := e
  refine z_getI ex3852 lk_X11_242 dX11_brads_6 ?_
  cases e
  exact z_iret dX11_brads_9 rfl
