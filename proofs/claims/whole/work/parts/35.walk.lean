theorem dX10_canBePair_0 : decode cX10_canBePair 0 = .ok (.iload_n 0, 1) := by decide +kernel
theorem dX10_canBePair_1 : decode cX10_canBePair 1 = .ok (.invokestatic 145, 3) := by decide +kernel
theorem dX10_canBePair_4 : decode cX10_canBePair 4 = .ok (.ifCond .eq 26, 3) := by decide +kernel
theorem dX10_canBePair_7 : decode cX10_canBePair 7 = .ok (.iload_n 1, 1) := by decide +kernel
theorem dX10_canBePair_8 : decode cX10_canBePair 8 = .ok (.ifCond .lt 22, 3) := by decide +kernel
theorem dX10_canBePair_11 : decode cX10_canBePair 11 = .ok (.iload_n 1, 1) := by decide +kernel
theorem dX10_canBePair_12 : decode cX10_canBePair 12 = .ok (.iconst 4, 1) := by decide +kernel
theorem dX10_canBePair_13 : decode cX10_canBePair 13 = .ok (.if_icmp .ge 17, 3) := by decide +kernel
theorem dX10_canBePair_16 : decode cX10_canBePair 16 = .ok (.iload_n 2, 1) := by decide +kernel
theorem dX10_canBePair_17 : decode cX10_canBePair 17 = .ok (.ifCond .lt 13, 3) := by decide +kernel
theorem dX10_canBePair_20 : decode cX10_canBePair 20 = .ok (.iload_n 2, 1) := by decide +kernel
theorem dX10_canBePair_21 : decode cX10_canBePair 21 = .ok (.bipush 9, 2) := by decide +kernel
theorem dX10_canBePair_23 : decode cX10_canBePair 23 = .ok (.if_icmp .gt 7, 3) := by decide +kernel
theorem dX10_canBePair_26 : decode cX10_canBePair 26 = .ok (.iconst 1, 1) := by decide +kernel
theorem dX10_canBePair_27 : decode cX10_canBePair 27 = .ok (.goto 4, 3) := by decide +kernel
theorem dX10_canBePair_30 : decode cX10_canBePair 30 = .ok (.iconst 0, 1) := by decide +kernel
theorem dX10_canBePair_31 : decode cX10_canBePair 31 = .ok (.ireturn, 1) := by decide +kernel
def D_X10_canBePair (h : z_H) (l0 : Int32) (l1 : Int32) (l2 : Int32) : Option (Int32 × z_H) :=
  (D_X10_isCell  h l0).bind fun p3853 =>
  if p3853.1 = 0 then
    some ((0:Int32), p3853.2)
  else
    if l1 < 0 then
      some ((0:Int32), p3853.2)
    else
      if (4:Int32) ≤ l1 then
        some ((0:Int32), p3853.2)
      else
        if l2 < 0 then
          some ((0:Int32), p3853.2)
        else
          if (9:Int32) < l2 then
            some ((0:Int32), p3853.2)
          else
            some ((1:Int32), p3853.2)
set_option maxRecDepth 100000 in
set_option maxHeartbeats 4000000 in
theorem S_X10_canBePair {G : z_G} {l : Launch} {h : z_H} {l0 : Int32} {l1 : Int32} {l2 : Int32} {res : (Int32 × z_H)} (e : D_X10_canBePair h l0 l1 l2 = some res) : z_Meth G l 5 M_X10_canBePair [.int l0, .int l1, .int l2] h res.2 (some (.int res.1)) := by
  refine z_Meth.of ck_X10_canBePair.2.2.2.2 (by simp [lg_sl, z_ci, z_cj, z_cr, z_cx]) ck_X10_canBePair.1 ?_
  rw [show lv_args 0 [.int l0, .int l1, .int l2] = [(0, .int l0), (1, .int l1), (2, .int l2)] from rfl]
  unfold D_X10_canBePair at e
  refine z_iload_n 0 dX10_canBePair_0 rfl ?_
  replace e := z_bd e; obtain ⟨p3853, ep3853, e⟩ := e
  refine z_cS [.int l0] (S_X10_isCell  ep3853) ml_X10_145 ck_X10_isCell st_X10_isCell dX10_canBePair_1 (by decide) rfl (Nat.zero_le _) rfl ?_
  refine z_if_eq (tgt := 30) dX10_canBePair_4 (by decide) (fun c3854 => ?_) (fun c3854 => ?_)
  · rw [if_pos c3854] at e
    refine z_iconst (v := 0) dX10_canBePair_30 (by decide) ?_
    cases e
    exact z_zret dX10_canBePair_31 rfl (by decide)
  · rw [if_neg c3854] at e
    refine z_iload_n 1 dX10_canBePair_7 rfl ?_
    refine z_if_lt (tgt := 30) dX10_canBePair_8 (by decide) (fun c3855 => ?_) (fun c3855 => ?_)
    · rw [if_pos c3855] at e
      refine z_iconst (v := 0) dX10_canBePair_30 (by decide) ?_
      cases e
      exact z_zret dX10_canBePair_31 rfl (by decide)
    · rw [if_neg c3855] at e
      refine z_iload_n 1 dX10_canBePair_11 rfl ?_
      refine z_iconst (v := 4) dX10_canBePair_12 (by decide) ?_
      refine z_icmp_ge (tgt := 30) dX10_canBePair_13 (by decide) (fun c3856 => ?_) (fun c3856 => ?_)
      · rw [if_pos c3856] at e
        refine z_iconst (v := 0) dX10_canBePair_30 (by decide) ?_
        cases e
        exact z_zret dX10_canBePair_31 rfl (by decide)
      · rw [if_neg c3856] at e
        refine z_iload_n 2 dX10_canBePair_16 rfl ?_
        refine z_if_lt (tgt := 30) dX10_canBePair_17 (by decide) (fun c3857 => ?_) (fun c3857 => ?_)
        · rw [if_pos c3857] at e
          refine z_iconst (v := 0) dX10_canBePair_30 (by decide) ?_
          cases e
          exact z_zret dX10_canBePair_31 rfl (by decide)
        · rw [if_neg c3857] at e
          refine z_iload_n 2 dX10_canBePair_20 rfl ?_
          refine z_bipush (v := 9) dX10_canBePair_21 (by decide) ?_
          refine z_icmp_gt (tgt := 30) dX10_canBePair_23 (by decide) (fun c3858 => ?_) (fun c3858 => ?_)
          · rw [if_pos c3858] at e
            refine z_iconst (v := 0) dX10_canBePair_30 (by decide) ?_
            cases e
            exact z_zret dX10_canBePair_31 rfl (by decide)
          · rw [if_neg c3858] at e
            refine z_iconst (v := 1) dX10_canBePair_26 (by decide) ?_
            refine z_goto (tgt := 31) dX10_canBePair_27 (by decide) ?_
            cases e
            exact z_zret dX10_canBePair_31 rfl (by decide)
theorem dX9_addPair_0 : decode cX9_addPair 0 = .ok (.aload_n 0, 1) := by decide +kernel
theorem dX9_addPair_1 : decode cX9_addPair 1 = .ok (.getfield 42, 3) := by decide +kernel
theorem dX9_addPair_4 : decode cX9_addPair 4 = .ok (.bipush 6, 2) := by decide +kernel
theorem dX9_addPair_6 : decode cX9_addPair 6 = .ok (.if_icmp .lt 4, 3) := by decide +kernel
theorem dX9_addPair_9 : decode cX9_addPair 9 = .ok (.return_, 1) := by decide +kernel
theorem dX9_addPair_10 : decode cX9_addPair 10 = .ok (.aload_n 0, 1) := by decide +kernel
theorem dX9_addPair_11 : decode cX9_addPair 11 = .ok (.getfield 9, 3) := by decide +kernel
theorem dX9_addPair_14 : decode cX9_addPair 14 = .ok (.aload_n 0, 1) := by decide +kernel
theorem dX9_addPair_15 : decode cX9_addPair 15 = .ok (.getfield 42, 3) := by decide +kernel
theorem dX9_addPair_18 : decode cX9_addPair 18 = .ok (.iload_n 1, 1) := by decide +kernel
theorem dX9_addPair_19 : decode cX9_addPair 19 = .ok (.iastore, 1) := by decide +kernel
theorem dX9_addPair_20 : decode cX9_addPair 20 = .ok (.aload_n 0, 1) := by decide +kernel
theorem dX9_addPair_21 : decode cX9_addPair 21 = .ok (.getfield 15, 3) := by decide +kernel
theorem dX9_addPair_24 : decode cX9_addPair 24 = .ok (.aload_n 0, 1) := by decide +kernel
theorem dX9_addPair_25 : decode cX9_addPair 25 = .ok (.getfield 42, 3) := by decide +kernel
theorem dX9_addPair_28 : decode cX9_addPair 28 = .ok (.iload_n 2, 1) := by decide +kernel
theorem dX9_addPair_29 : decode cX9_addPair 29 = .ok (.iastore, 1) := by decide +kernel
theorem dX9_addPair_30 : decode cX9_addPair 30 = .ok (.aload_n 0, 1) := by decide +kernel
theorem dX9_addPair_31 : decode cX9_addPair 31 = .ok (.getfield 18, 3) := by decide +kernel
theorem dX9_addPair_34 : decode cX9_addPair 34 = .ok (.aload_n 0, 1) := by decide +kernel
theorem dX9_addPair_35 : decode cX9_addPair 35 = .ok (.getfield 42, 3) := by decide +kernel
theorem dX9_addPair_38 : decode cX9_addPair 38 = .ok (.iload_n 3, 1) := by decide +kernel
theorem dX9_addPair_39 : decode cX9_addPair 39 = .ok (.iastore, 1) := by decide +kernel
theorem dX9_addPair_40 : decode cX9_addPair 40 = .ok (.iconst 0, 1) := by decide +kernel
theorem dX9_addPair_41 : decode cX9_addPair 41 = .ok (.istore 4, 2) := by decide +kernel
theorem dX9_addPair_43 : decode cX9_addPair 43 = .ok (.iload 4, 2) := by decide +kernel
theorem dX9_addPair_45 : decode cX9_addPair 45 = .ok (.iconst 4, 1) := by decide +kernel
theorem dX9_addPair_46 : decode cX9_addPair 46 = .ok (.if_icmp .ge 24, 3) := by decide +kernel
theorem dX9_addPair_49 : decode cX9_addPair 49 = .ok (.aload_n 0, 1) := by decide +kernel
theorem dX9_addPair_50 : decode cX9_addPair 50 = .ok (.getfield 21, 3) := by decide +kernel
theorem dX9_addPair_53 : decode cX9_addPair 53 = .ok (.aload_n 0, 1) := by decide +kernel
theorem dX9_addPair_54 : decode cX9_addPair 54 = .ok (.getfield 42, 3) := by decide +kernel
theorem dX9_addPair_57 : decode cX9_addPair 57 = .ok (.iconst 4, 1) := by decide +kernel
theorem dX9_addPair_58 : decode cX9_addPair 58 = .ok (.imul, 1) := by decide +kernel
theorem dX9_addPair_59 : decode cX9_addPair 59 = .ok (.iload 4, 2) := by decide +kernel
theorem dX9_addPair_61 : decode cX9_addPair 61 = .ok (.iadd, 1) := by decide +kernel
theorem dX9_addPair_62 : decode cX9_addPair 62 = .ok (.iconst 0, 1) := by decide +kernel
theorem dX9_addPair_63 : decode cX9_addPair 63 = .ok (.iastore, 1) := by decide +kernel
theorem dX9_addPair_64 : decode cX9_addPair 64 = .ok (.iinc 4 1, 3) := by decide +kernel
theorem dX9_addPair_67 : decode cX9_addPair 67 = .ok (.goto (-24), 3) := by decide +kernel
theorem dX9_addPair_70 : decode cX9_addPair 70 = .ok (.aload_n 0, 1) := by decide +kernel
theorem dX9_addPair_71 : decode cX9_addPair 71 = .ok (.dup, 1) := by decide +kernel
theorem dX9_addPair_72 : decode cX9_addPair 72 = .ok (.getfield 42, 3) := by decide +kernel
theorem dX9_addPair_75 : decode cX9_addPair 75 = .ok (.iconst 1, 1) := by decide +kernel
theorem dX9_addPair_76 : decode cX9_addPair 76 = .ok (.iadd, 1) := by decide +kernel
theorem dX9_addPair_77 : decode cX9_addPair 77 = .ok (.putfield 42, 3) := by decide +kernel
theorem dX9_addPair_80 : decode cX9_addPair 80 = .ok (.return_, 1) := by decide +kernel
def D_X9_addPair_43b (k43 : z_H → Option Nat → Int32 → Option z_H) (h : z_H) (l0 : Option Nat) (l4 : Int32) : Option z_H :=
  if (4:Int32) ≤ l4 then
    (z_gI 9 h l0 8).bind fun x3860 =>
    (z_pV 9 h l0 8 (.int (x3860 + (1:Int32)))).bind fun h3861 =>
    some h3861
  else
    (z_gQ 9 h l0 3).bind fun x3862 =>
    (z_gI 9 h l0 8).bind fun x3863 =>
    (z_sI h x3862 ((x3863 * (4:Int32)) + l4) (0:Int32)).bind fun h3864 =>
    (some (l4 + (1:Int32))).bind fun x3865 =>
    k43 h3864 l0 x3865
def D_X9_addPair_43 (n : Nat) : z_H → Option Nat → Int32 → Option z_H := Nat.rec (motive := fun _ => z_H → Option Nat → Int32 → Option z_H) (fun _ _ _ => none) (fun _ k => D_X9_addPair_43b  k) n
set_option maxRecDepth 100000 in
set_option maxHeartbeats 4000000 in
theorem S_X9_addPair_43 {G : z_G} {l : Launch}  (n : Nat) : ∀ {h : z_H} {l0 : Option Nat} {l4 : Int32} {res : z_H}, D_X9_addPair_43  n h l0 l4 = some res → z_Run G l 4 M_X9_addPair 43 [(0, z_r l0), (4, .int l4)] [] h res none := by
  induction n with
  | zero => intro h l0 l4 res e; cases e
  | succ n hk43 =>
    intro h l0 l4 res e
    replace e : D_X9_addPair_43b  (D_X9_addPair_43  n) h l0 l4 = some res := e
    unfold D_X9_addPair_43b at e
    refine z_iload 1 dX9_addPair_43 rfl ?_
    refine z_iconst (v := 4) dX9_addPair_45 (by decide) ?_
    refine z_icmp_ge (tgt := 70) dX9_addPair_46 (by decide) (fun c3859 => ?_) (fun c3859 => ?_)
    · rw [if_pos c3859] at e
      refine z_aload_n 0 dX9_addPair_70 rfl ?_
      refine z_dup dX9_addPair_71 (z_cr _) ?_
      replace e := z_bd e; obtain ⟨x3860, ex3860, e⟩ := e
      refine z_getI ex3860 lk_X9_42 dX9_addPair_72 ?_
      refine z_iconst (v := 1) dX9_addPair_75 (by decide) ?_
      refine z_iadd dX9_addPair_76 ?_
      replace e := z_bd e; obtain ⟨h3861, eh3861, e⟩ := e
      refine z_putV eh3861 lk_X9_42 wk_9_8 (fun _ => rfl) (fun _ => rfl) dX9_addPair_77 ?_
      cases e
      exact z_vret dX9_addPair_80 rfl
    · rw [if_neg c3859] at e
      refine z_aload_n 0 dX9_addPair_49 rfl ?_
      replace e := z_bd e; obtain ⟨x3862, ex3862, e⟩ := e
      refine z_getQ ex3862 lk_X9_21 dX9_addPair_50 ?_
      refine z_aload_n 0 dX9_addPair_53 rfl ?_
      replace e := z_bd e; obtain ⟨x3863, ex3863, e⟩ := e
      refine z_getI ex3863 lk_X9_42 dX9_addPair_54 ?_
      refine z_iconst (v := 4) dX9_addPair_57 (by decide) ?_
      refine z_imul dX9_addPair_58 ?_
      refine z_iload 1 dX9_addPair_59 rfl ?_
      refine z_iadd dX9_addPair_61 ?_
      refine z_iconst (v := 0) dX9_addPair_62 (by decide) ?_
      replace e := z_bd e; obtain ⟨h3864, eh3864, e⟩ := e
      refine z_iast eh3864 dX9_addPair_63 ?_
      replace e := z_bd e; obtain ⟨x3865, ex3865, e⟩ := e
      refine z_iinc (q := 1) (v := x3865) (L' := [(4, .int x3865), (0, z_r l0)]) dX9_addPair_64 rfl (Option.some.inj ex3865) (by decide) rfl ?_
      refine z_goto (tgt := 43) dX9_addPair_67 (by decide) ?_
      exact z_weak [1, 0] rfl (hk43 e)
def D_X9_addPair (h : z_H) (l0 : Option Nat) (l1 : Int32) (l2 : Int32) (l3 : Int32) : Option z_H :=
  (z_gI 9 h l0 8).bind fun x3866 =>
  if x3866 < (6:Int32) then
    (z_gQ 9 h l0 0).bind fun x3868 =>
    (z_gI 9 h l0 8).bind fun x3869 =>
    (z_sI h x3868 x3869 l1).bind fun h3870 =>
    (z_gQ 9 h3870 l0 1).bind fun x3871 =>
    (z_gI 9 h3870 l0 8).bind fun x3872 =>
    (z_sI h3870 x3871 x3872 l2).bind fun h3873 =>
    (z_gQ 9 h3873 l0 2).bind fun x3874 =>
    (z_gI 9 h3873 l0 8).bind fun x3875 =>
    (z_sI h3873 x3874 x3875 l3).bind fun h3876 =>
    D_X9_addPair_43   z_F h3876 l0 (0:Int32)
  else
    some h
set_option maxRecDepth 100000 in
set_option maxHeartbeats 4000000 in
theorem S_X9_addPair {G : z_G} {l : Launch} {h : z_H} {l0 : Option Nat} {l1 : Int32} {l2 : Int32} {l3 : Int32} {res : z_H} (e : D_X9_addPair h l0 l1 l2 l3 = some res) : z_Meth G l 4 M_X9_addPair [z_r l0, .int l1, .int l2, .int l3] h res none := by
  refine z_Meth.of ck_X9_addPair.2.2.2.2 (by simp [lg_sl, z_ci, z_cj, z_cr, z_cx]) ck_X9_addPair.1 ?_
  rw [show lv_args 0 [z_r l0, .int l1, .int l2, .int l3] = [(0, z_r l0), (1, .int l1), (2, .int l2), (3, .int l3)] from by simp [lv_args, z_ci, z_cj, z_cr, z_cx]]
  unfold D_X9_addPair at e
  refine z_aload_n 0 dX9_addPair_0 rfl ?_
  replace e := z_bd e; obtain ⟨x3866, ex3866, e⟩ := e
  refine z_getI ex3866 lk_X9_42 dX9_addPair_1 ?_
  refine z_bipush (v := 6) dX9_addPair_4 (by decide) ?_
  refine z_icmp_lt (tgt := 10) dX9_addPair_6 (by decide) (fun c3867 => ?_) (fun c3867 => ?_)
  · rw [if_pos c3867] at e
    refine z_aload_n 0 dX9_addPair_10 rfl ?_
    replace e := z_bd e; obtain ⟨x3868, ex3868, e⟩ := e
    refine z_getQ ex3868 lk_X9_9 dX9_addPair_11 ?_
    refine z_aload_n 0 dX9_addPair_14 rfl ?_
    replace e := z_bd e; obtain ⟨x3869, ex3869, e⟩ := e
    refine z_getI ex3869 lk_X9_42 dX9_addPair_15 ?_
    refine z_iload_n 1 dX9_addPair_18 rfl ?_
    replace e := z_bd e; obtain ⟨h3870, eh3870, e⟩ := e
    refine z_iast eh3870 dX9_addPair_19 ?_
    refine z_aload_n 0 dX9_addPair_20 rfl ?_
    replace e := z_bd e; obtain ⟨x3871, ex3871, e⟩ := e
    refine z_getQ ex3871 lk_X9_15 dX9_addPair_21 ?_
    refine z_aload_n 0 dX9_addPair_24 rfl ?_
    replace e := z_bd e; obtain ⟨x3872, ex3872, e⟩ := e
    refine z_getI ex3872 lk_X9_42 dX9_addPair_25 ?_
    refine z_iload_n 2 dX9_addPair_28 rfl ?_
    replace e := z_bd e; obtain ⟨h3873, eh3873, e⟩ := e
    refine z_iast eh3873 dX9_addPair_29 ?_
    refine z_aload_n 0 dX9_addPair_30 rfl ?_
    replace e := z_bd e; obtain ⟨x3874, ex3874, e⟩ := e
    refine z_getQ ex3874 lk_X9_18 dX9_addPair_31 ?_
    refine z_aload_n 0 dX9_addPair_34 rfl ?_
    replace e := z_bd e; obtain ⟨x3875, ex3875, e⟩ := e
    refine z_getI ex3875 lk_X9_42 dX9_addPair_35 ?_
    refine z_iload_n 3 dX9_addPair_38 rfl ?_
    replace e := z_bd e; obtain ⟨h3876, eh3876, e⟩ := e
    refine z_iast eh3876 dX9_addPair_39 ?_
    refine z_iconst (v := 0) dX9_addPair_40 (by decide) ?_
    refine z_istore (L' := [(4, .int (0:Int32)), (0, z_r l0), (1, .int l1), (2, .int l2), (3, .int l3)]) dX9_addPair_41 (by decide) rfl ?_
    exact z_weak [1, 0] rfl (S_X9_addPair_43   z_F e)
  · rw [if_neg c3867] at e
    cases e
    exact z_vret dX9_addPair_9 rfl
theorem dX10_row_0 : decode cX10_row 0 = .ok (.aload_n 0, 1) := by decide +kernel
theorem dX10_row_1 : decode cX10_row 1 = .ok (.getfield 37, 3) := by decide +kernel
theorem dX10_row_4 : decode cX10_row 4 = .ok (.getfield 171, 3) := by decide +kernel
theorem dX10_row_7 : decode cX10_row 7 = .ok (.istore_n 1, 1) := by decide +kernel
theorem dX10_row_8 : decode cX10_row 8 = .ok (.iload_n 1, 1) := by decide +kernel
theorem dX10_row_9 : decode cX10_row 9 = .ok (.ifCond .ne 10, 3) := by decide +kernel
theorem dX10_row_12 : decode cX10_row 12 = .ok (.aload_n 0, 1) := by decide +kernel
theorem dX10_row_13 : decode cX10_row 13 = .ok (.bipush (-6), 2) := by decide +kernel
theorem dX10_row_15 : decode cX10_row 15 = .ok (.invokevirtual 104, 3) := by decide +kernel
theorem dX10_row_18 : decode cX10_row 18 = .ok (.ireturn, 1) := by decide +kernel
theorem dX10_row_19 : decode cX10_row 19 = .ok (.aload_n 0, 1) := by decide +kernel
theorem dX10_row_20 : decode cX10_row 20 = .ok (.getfield 37, 3) := by decide +kernel
theorem dX10_row_23 : decode cX10_row 23 = .ok (.getfield 178, 3) := by decide +kernel
theorem dX10_row_26 : decode cX10_row 26 = .ok (.astore_n 2, 1) := by decide +kernel
theorem dX10_row_27 : decode cX10_row 27 = .ok (.iconst 0, 1) := by decide +kernel
theorem dX10_row_28 : decode cX10_row 28 = .ok (.istore_n 3, 1) := by decide +kernel
theorem dX10_row_29 : decode cX10_row 29 = .ok (.iconst 0, 1) := by decide +kernel
theorem dX10_row_30 : decode cX10_row 30 = .ok (.istore 4, 2) := by decide +kernel
theorem dX10_row_32 : decode cX10_row 32 = .ok (.iconst 0, 1) := by decide +kernel
theorem dX10_row_33 : decode cX10_row 33 = .ok (.istore 5, 2) := by decide +kernel
theorem dX10_row_35 : decode cX10_row 35 = .ok (.iload 5, 2) := by decide +kernel
theorem dX10_row_37 : decode cX10_row 37 = .ok (.iload_n 1, 1) := by decide +kernel
theorem dX10_row_38 : decode cX10_row 38 = .ok (.if_icmp .ge 83, 3) := by decide +kernel
theorem dX10_row_41 : decode cX10_row 41 = .ok (.iload 5, 2) := by decide +kernel
theorem dX10_row_43 : decode cX10_row 43 = .ok (.iconst 2, 1) := by decide +kernel
theorem dX10_row_44 : decode cX10_row 44 = .ok (.iadd, 1) := by decide +kernel
theorem dX10_row_45 : decode cX10_row 45 = .ok (.iload_n 1, 1) := by decide +kernel
theorem dX10_row_46 : decode cX10_row 46 = .ok (.if_icmp .ge 66, 3) := by decide +kernel
theorem dX10_row_49 : decode cX10_row 49 = .ok (.aload_n 0, 1) := by decide +kernel
theorem dX10_row_50 : decode cX10_row 50 = .ok (.getfield 12, 3) := by decide +kernel
theorem dX10_row_53 : decode cX10_row 53 = .ok (.getfield 108, 3) := by decide +kernel
theorem dX10_row_56 : decode cX10_row 56 = .ok (.bipush 6, 2) := by decide +kernel
theorem dX10_row_58 : decode cX10_row 58 = .ok (.if_icmp .ge 54, 3) := by decide +kernel
theorem dX10_row_61 : decode cX10_row 61 = .ok (.aload_n 2, 1) := by decide +kernel
theorem dX10_row_62 : decode cX10_row 62 = .ok (.iload 5, 2) := by decide +kernel
theorem dX10_row_64 : decode cX10_row 64 = .ok (.iaload, 1) := by decide +kernel
theorem dX10_row_65 : decode cX10_row 65 = .ok (.aload_n 2, 1) := by decide +kernel
theorem dX10_row_66 : decode cX10_row 66 = .ok (.iload 5, 2) := by decide +kernel
theorem dX10_row_68 : decode cX10_row 68 = .ok (.iconst 1, 1) := by decide +kernel
theorem dX10_row_69 : decode cX10_row 69 = .ok (.iadd, 1) := by decide +kernel
theorem dX10_row_70 : decode cX10_row 70 = .ok (.iaload, 1) := by decide +kernel
theorem dX10_row_71 : decode cX10_row 71 = .ok (.aload_n 2, 1) := by decide +kernel
theorem dX10_row_72 : decode cX10_row 72 = .ok (.iload 5, 2) := by decide +kernel
theorem dX10_row_74 : decode cX10_row 74 = .ok (.iconst 2, 1) := by decide +kernel
theorem dX10_row_75 : decode cX10_row 75 = .ok (.iadd, 1) := by decide +kernel
theorem dX10_row_76 : decode cX10_row 76 = .ok (.iaload, 1) := by decide +kernel
theorem dX10_row_77 : decode cX10_row 77 = .ok (.invokestatic 100, 3) := by decide +kernel
theorem dX10_row_80 : decode cX10_row 80 = .ok (.ifCond .eq 32, 3) := by decide +kernel
theorem dX10_row_83 : decode cX10_row 83 = .ok (.aload_n 0, 1) := by decide +kernel
theorem dX10_row_84 : decode cX10_row 84 = .ok (.getfield 12, 3) := by decide +kernel
theorem dX10_row_87 : decode cX10_row 87 = .ok (.aload_n 2, 1) := by decide +kernel
theorem dX10_row_88 : decode cX10_row 88 = .ok (.iload 5, 2) := by decide +kernel
theorem dX10_row_90 : decode cX10_row 90 = .ok (.iaload, 1) := by decide +kernel
theorem dX10_row_91 : decode cX10_row 91 = .ok (.aload_n 2, 1) := by decide +kernel
theorem dX10_row_92 : decode cX10_row 92 = .ok (.iload 5, 2) := by decide +kernel
theorem dX10_row_94 : decode cX10_row 94 = .ok (.iconst 1, 1) := by decide +kernel
theorem dX10_row_95 : decode cX10_row 95 = .ok (.iadd, 1) := by decide +kernel
theorem dX10_row_96 : decode cX10_row 96 = .ok (.iaload, 1) := by decide +kernel
theorem dX10_row_97 : decode cX10_row 97 = .ok (.aload_n 2, 1) := by decide +kernel
theorem dX10_row_98 : decode cX10_row 98 = .ok (.iload 5, 2) := by decide +kernel
theorem dX10_row_100 : decode cX10_row 100 = .ok (.iconst 2, 1) := by decide +kernel
theorem dX10_row_101 : decode cX10_row 101 = .ok (.iadd, 1) := by decide +kernel
theorem dX10_row_102 : decode cX10_row 102 = .ok (.iaload, 1) := by decide +kernel
theorem dX10_row_103 : decode cX10_row 103 = .ok (.invokevirtual 111, 3) := by decide +kernel
theorem dX10_row_106 : decode cX10_row 106 = .ok (.iinc 3 1, 3) := by decide +kernel
theorem dX10_row_109 : decode cX10_row 109 = .ok (.goto 6, 3) := by decide +kernel
theorem dX10_row_112 : decode cX10_row 112 = .ok (.iinc 4 1, 3) := by decide +kernel
theorem dX10_row_115 : decode cX10_row 115 = .ok (.iinc 5 3, 3) := by decide +kernel
theorem dX10_row_118 : decode cX10_row 118 = .ok (.goto (-83), 3) := by decide +kernel
theorem dX10_row_121 : decode cX10_row 121 = .ok (.aload_n 0, 1) := by decide +kernel
theorem dX10_row_122 : decode cX10_row 122 = .ok (.iload 4, 2) := by decide +kernel
theorem dX10_row_124 : decode cX10_row 124 = .ok (.putfield 97, 3) := by decide +kernel
theorem dX10_row_127 : decode cX10_row 127 = .ok (.aload_n 0, 1) := by decide +kernel
theorem dX10_row_128 : decode cX10_row 128 = .ok (.getfield 37, 3) := by decide +kernel
theorem dX10_row_131 : decode cX10_row 131 = .ok (.iconst 0, 1) := by decide +kernel
theorem dX10_row_132 : decode cX10_row 132 = .ok (.putfield 171, 3) := by decide +kernel
theorem dX10_row_135 : decode cX10_row 135 = .ok (.aload_n 0, 1) := by decide +kernel
theorem dX10_row_136 : decode cX10_row 136 = .ok (.getfield 30, 3) := by decide +kernel
theorem dX10_row_139 : decode cX10_row 139 = .ok (.iconst 0, 1) := by decide +kernel
theorem dX10_row_140 : decode cX10_row 140 = .ok (.putfield 115, 3) := by decide +kernel
theorem dX10_row_143 : decode cX10_row 143 = .ok (.aload_n 0, 1) := by decide +kernel
theorem dX10_row_144 : decode cX10_row 144 = .ok (.iload_n 3, 1) := by decide +kernel
theorem dX10_row_145 : decode cX10_row 145 = .ok (.invokevirtual 118, 3) := by decide +kernel
theorem dX10_row_148 : decode cX10_row 148 = .ok (.ireturn, 1) := by decide +kernel
def D_X10_row_115 (k35 : z_H → Option Nat → Int32 → Option Nat → Int32 → Int32 → Int32 → Option (Int32 × z_H)) (h : z_H) (l0 : Option Nat) (l1 : Int32) (l2 : Option Nat) (l3 : Int32) (l4 : Int32) (l5 : Int32) : Option (Int32 × z_H) :=
  (some (l5 + (3:Int32))).bind fun x3877 =>
  k35 h l0 l1 l2 l3 l4 x3877
set_option maxRecDepth 100000 in
set_option maxHeartbeats 4000000 in
theorem S_X10_row_115 {G : z_G} {l : Launch} {k35 : z_H → Option Nat → Int32 → Option Nat → Int32 → Int32 → Int32 → Option (Int32 × z_H)} (hk35 : ∀ {h : z_H} {l0 : Option Nat} {l1 : Int32} {l2 : Option Nat} {l3 : Int32} {l4 : Int32} {l5 : Int32} {res : (Int32 × z_H)}, k35 h l0 l1 l2 l3 l4 l5 = some res → z_Run G l 6 M_X10_row 35 [(0, z_r l0), (1, .int l1), (2, z_r l2), (3, .int l3), (4, .int l4), (5, .int l5)] [] h res.2 (some (.int res.1))) {h : z_H} {l0 : Option Nat} {l1 : Int32} {l2 : Option Nat} {l3 : Int32} {l4 : Int32} {l5 : Int32} {res : (Int32 × z_H)} (e : D_X10_row_115 k35 h l0 l1 l2 l3 l4 l5 = some res) : z_Run G l 6 M_X10_row 115 [(0, z_r l0), (1, .int l1), (2, z_r l2), (3, .int l3), (4, .int l4), (5, .int l5)] [] h res.2 (some (.int res.1)) := by
  unfold D_X10_row_115 at e
  replace e := z_bd e; obtain ⟨x3877, ex3877, e⟩ := e
  refine z_iinc (q := 5) (v := x3877) (L' := [(5, .int x3877), (0, z_r l0), (1, .int l1), (2, z_r l2), (3, .int l3), (4, .int l4)]) dX10_row_115 rfl (Option.some.inj ex3877) (by decide) rfl ?_
  refine z_goto (tgt := 35) dX10_row_118 (by decide) ?_
  exact z_weak [1, 2, 3, 4, 5, 0] rfl (hk35 e)
def D_X10_row_112 (k35 : z_H → Option Nat → Int32 → Option Nat → Int32 → Int32 → Int32 → Option (Int32 × z_H)) (h : z_H) (l0 : Option Nat) (l1 : Int32) (l2 : Option Nat) (l3 : Int32) (l4 : Int32) (l5 : Int32) : Option (Int32 × z_H) :=
  (some (l4 + (1:Int32))).bind fun x3878 =>
  D_X10_row_115  k35 h l0 l1 l2 l3 x3878 l5
set_option maxRecDepth 100000 in
set_option maxHeartbeats 4000000 in
theorem S_X10_row_112 {G : z_G} {l : Launch} {k35 : z_H → Option Nat → Int32 → Option Nat → Int32 → Int32 → Int32 → Option (Int32 × z_H)} (hk35 : ∀ {h : z_H} {l0 : Option Nat} {l1 : Int32} {l2 : Option Nat} {l3 : Int32} {l4 : Int32} {l5 : Int32} {res : (Int32 × z_H)}, k35 h l0 l1 l2 l3 l4 l5 = some res → z_Run G l 6 M_X10_row 35 [(0, z_r l0), (1, .int l1), (2, z_r l2), (3, .int l3), (4, .int l4), (5, .int l5)] [] h res.2 (some (.int res.1))) {h : z_H} {l0 : Option Nat} {l1 : Int32} {l2 : Option Nat} {l3 : Int32} {l4 : Int32} {l5 : Int32} {res : (Int32 × z_H)} (e : D_X10_row_112 k35 h l0 l1 l2 l3 l4 l5 = some res) : z_Run G l 6 M_X10_row 112 [(0, z_r l0), (1, .int l1), (2, z_r l2), (3, .int l3), (4, .int l4), (5, .int l5)] [] h res.2 (some (.int res.1)) := by
  unfold D_X10_row_112 at e
  replace e := z_bd e; obtain ⟨x3878, ex3878, e⟩ := e
  refine z_iinc (q := 4) (v := x3878) (L' := [(4, .int x3878), (0, z_r l0), (1, .int l1), (2, z_r l2), (3, .int l3), (5, .int l5)]) dX10_row_112 rfl (Option.some.inj ex3878) (by decide) rfl ?_
  exact z_weak [1, 2, 3, 4, 0, 5] rfl (S_X10_row_115  @hk35 e)
def D_X10_row_35b (k35 : z_H → Option Nat → Int32 → Option Nat → Int32 → Int32 → Int32 → Option (Int32 × z_H)) (h : z_H) (l0 : Option Nat) (l1 : Int32) (l2 : Option Nat) (l3 : Int32) (l4 : Int32) (l5 : Int32) : Option (Int32 × z_H) :=
  if l1 ≤ l5 then
    (z_pV 10 h l0 14 (.int l4)).bind fun h3880 =>
    (z_gQ 10 h3880 l0 5).bind fun x3881 =>
    (z_pV 5 h3880 x3881 2 (.int (0:Int32))).bind fun h3882 =>
    (z_gQ 10 h3882 l0 4).bind fun x3883 =>
    (z_pV 8 h3882 x3883 1 (.int (0:Int32))).bind fun h3884 =>
    (z_ob 10 h3884 l0).bind fun _ =>
    (D_X10_grant  h3884 l0 l3).bind fun p3885 =>
    some (p3885.1, p3885.2)
  else
    if l1 ≤ (l5 + (2:Int32)) then
      D_X10_row_112  k35 h l0 l1 l2 l3 l4 l5
    else
      (z_gQ 10 h l0 0).bind fun x3888 =>
      (z_gI 9 h x3888 8).bind fun x3889 =>
      if (6:Int32) ≤ x3889 then
        D_X10_row_112  k35 h l0 l1 l2 l3 l4 l5
      else
        (z_aI .int h l2 l5).bind fun x3891 =>
        (z_aI .int h l2 (l5 + (1:Int32))).bind fun x3892 =>
        (z_aI .int h l2 (l5 + (2:Int32))).bind fun x3893 =>
        (D_X10_canBePair  h x3891 x3892 x3893).bind fun p3894 =>
        if p3894.1 = 0 then
          D_X10_row_112  k35 p3894.2 l0 l1 l2 l3 l4 l5
        else
          (z_gQ 10 p3894.2 l0 0).bind fun x3896 =>
          (z_aI .int p3894.2 l2 l5).bind fun x3897 =>
          (z_aI .int p3894.2 l2 (l5 + (1:Int32))).bind fun x3898 =>
          (z_aI .int p3894.2 l2 (l5 + (2:Int32))).bind fun x3899 =>
          (z_ob 9 p3894.2 x3896).bind fun _ =>
          (D_X9_addPair  p3894.2 x3896 x3897 x3898 x3899).bind fun p3900 =>
          (some (l3 + (1:Int32))).bind fun x3902 =>
          D_X10_row_115  k35 p3900 l0 l1 l2 x3902 l4 l5
def D_X10_row_35 (n : Nat) : z_H → Option Nat → Int32 → Option Nat → Int32 → Int32 → Int32 → Option (Int32 × z_H) := Nat.rec (motive := fun _ => z_H → Option Nat → Int32 → Option Nat → Int32 → Int32 → Int32 → Option (Int32 × z_H)) (fun _ _ _ _ _ _ _ => none) (fun _ k => D_X10_row_35b  k) n
set_option maxRecDepth 100000 in
set_option maxHeartbeats 4000000 in
theorem S_X10_row_35 {G : z_G} {l : Launch}  (n : Nat) : ∀ {h : z_H} {l0 : Option Nat} {l1 : Int32} {l2 : Option Nat} {l3 : Int32} {l4 : Int32} {l5 : Int32} {res : (Int32 × z_H)}, D_X10_row_35  n h l0 l1 l2 l3 l4 l5 = some res → z_Run G l 6 M_X10_row 35 [(0, z_r l0), (1, .int l1), (2, z_r l2), (3, .int l3), (4, .int l4), (5, .int l5)] [] h res.2 (some (.int res.1)) := by
  induction n with
  | zero => intro h l0 l1 l2 l3 l4 l5 res e; cases e
  | succ n hk35 =>
    intro h l0 l1 l2 l3 l4 l5 res e
    replace e : D_X10_row_35b  (D_X10_row_35  n) h l0 l1 l2 l3 l4 l5 = some res := e
    unfold D_X10_row_35b at e
    refine z_iload 5 dX10_row_35 rfl ?_
    refine z_iload_n 1 dX10_row_37 rfl ?_
    refine z_icmp_ge (tgt := 121) dX10_row_38 (by decide) (fun c3879 => ?_) (fun c3879 => ?_)
    · rw [if_pos c3879] at e
      refine z_aload_n 0 dX10_row_121 rfl ?_
      refine z_iload 4 dX10_row_122 rfl ?_
      replace e := z_bd e; obtain ⟨h3880, eh3880, e⟩ := e
      refine z_putV eh3880 lk_X10_97 wk_10_14 (fun _ => rfl) (fun _ => rfl) dX10_row_124 ?_
      refine z_aload_n 0 dX10_row_127 rfl ?_
      replace e := z_bd e; obtain ⟨x3881, ex3881, e⟩ := e
      refine z_getQ ex3881 lk_X10_37 dX10_row_128 ?_
      refine z_iconst (v := 0) dX10_row_131 (by decide) ?_
      replace e := z_bd e; obtain ⟨h3882, eh3882, e⟩ := e
      refine z_putV eh3882 lk_X10_171 wk_5_2 (fun _ => rfl) (fun _ => rfl) dX10_row_132 ?_
      refine z_aload_n 0 dX10_row_135 rfl ?_
      replace e := z_bd e; obtain ⟨x3883, ex3883, e⟩ := e
      refine z_getQ ex3883 lk_X10_30 dX10_row_136 ?_
      refine z_iconst (v := 0) dX10_row_139 (by decide) ?_
      replace e := z_bd e; obtain ⟨h3884, eh3884, e⟩ := e
      refine z_putV eh3884 lk_X10_115 wk_8_1 (fun _ => rfl) (fun _ => rfl) dX10_row_140 ?_
      refine z_aload_n 0 dX10_row_143 rfl ?_
      refine z_iload_n 3 dX10_row_144 rfl ?_
      replace e := z_bd e; obtain ⟨o3886, eo3886, e⟩ := e
      replace e := z_bd e; obtain ⟨p3885, ep3885, e⟩ := e
      refine z_cV [.int l3] (S_X10_grant  ep3885) eo3886 rfl ml_X10_118 ck_X10_grant vk_X10_grant dX10_row_145 (by decide) rfl (Nat.zero_le _) rfl ?_
      cases e
      exact z_iret dX10_row_148 rfl
    · rw [if_neg c3879] at e
      refine z_iload 5 dX10_row_41 rfl ?_
      refine z_iconst (v := 2) dX10_row_43 (by decide) ?_
      refine z_iadd dX10_row_44 ?_
      refine z_iload_n 1 dX10_row_45 rfl ?_
      refine z_icmp_ge (tgt := 112) dX10_row_46 (by decide) (fun c3887 => ?_) (fun c3887 => ?_)
      · rw [if_pos c3887] at e
        exact z_weak [0, 1, 2, 3, 4, 5] rfl (S_X10_row_112  @hk35 e)
      · rw [if_neg c3887] at e
        refine z_aload_n 0 dX10_row_49 rfl ?_
        replace e := z_bd e; obtain ⟨x3888, ex3888, e⟩ := e
        refine z_getQ ex3888 lk_X10_12 dX10_row_50 ?_
        replace e := z_bd e; obtain ⟨x3889, ex3889, e⟩ := e
        refine z_getI ex3889 lk_X10_108 dX10_row_53 ?_
        refine z_bipush (v := 6) dX10_row_56 (by decide) ?_
        refine z_icmp_ge (tgt := 112) dX10_row_58 (by decide) (fun c3890 => ?_) (fun c3890 => ?_)
        · rw [if_pos c3890] at e
          exact z_weak [0, 1, 2, 3, 4, 5] rfl (S_X10_row_112  @hk35 e)
        · rw [if_neg c3890] at e
          refine z_aload_n 2 dX10_row_61 rfl ?_
          refine z_iload 5 dX10_row_62 rfl ?_
          replace e := z_bd e; obtain ⟨x3891, ex3891, e⟩ := e
          refine z_iald ex3891 dX10_row_64 ?_
          refine z_aload_n 2 dX10_row_65 rfl ?_
          refine z_iload 5 dX10_row_66 rfl ?_
          refine z_iconst (v := 1) dX10_row_68 (by decide) ?_
          refine z_iadd dX10_row_69 ?_
          replace e := z_bd e; obtain ⟨x3892, ex3892, e⟩ := e
          refine z_iald ex3892 dX10_row_70 ?_
          refine z_aload_n 2 dX10_row_71 rfl ?_
          refine z_iload 5 dX10_row_72 rfl ?_
          refine z_iconst (v := 2) dX10_row_74 (by decide) ?_
          refine z_iadd dX10_row_75 ?_
          replace e := z_bd e; obtain ⟨x3893, ex3893, e⟩ := e
          refine z_iald ex3893 dX10_row_76 ?_
          replace e := z_bd e; obtain ⟨p3894, ep3894, e⟩ := e
          refine z_cS [.int x3891, .int x3892, .int x3893] (S_X10_canBePair  ep3894) ml_X10_100 ck_X10_canBePair st_X10_canBePair dX10_row_77 (by decide) rfl (Nat.zero_le _) rfl ?_
          refine z_if_eq (tgt := 112) dX10_row_80 (by decide) (fun c3895 => ?_) (fun c3895 => ?_)
          · rw [if_pos c3895] at e
            exact z_weak [0, 1, 2, 3, 4, 5] rfl (S_X10_row_112  @hk35 e)
          · rw [if_neg c3895] at e
            refine z_aload_n 0 dX10_row_83 rfl ?_
            replace e := z_bd e; obtain ⟨x3896, ex3896, e⟩ := e
            refine z_getQ ex3896 lk_X10_12 dX10_row_84 ?_
            refine z_aload_n 2 dX10_row_87 rfl ?_
            refine z_iload 5 dX10_row_88 rfl ?_
            replace e := z_bd e; obtain ⟨x3897, ex3897, e⟩ := e
            refine z_iald ex3897 dX10_row_90 ?_
            refine z_aload_n 2 dX10_row_91 rfl ?_
            refine z_iload 5 dX10_row_92 rfl ?_
            refine z_iconst (v := 1) dX10_row_94 (by decide) ?_
            refine z_iadd dX10_row_95 ?_
            replace e := z_bd e; obtain ⟨x3898, ex3898, e⟩ := e
            refine z_iald ex3898 dX10_row_96 ?_
            refine z_aload_n 2 dX10_row_97 rfl ?_
            refine z_iload 5 dX10_row_98 rfl ?_
            refine z_iconst (v := 2) dX10_row_100 (by decide) ?_
            refine z_iadd dX10_row_101 ?_
            replace e := z_bd e; obtain ⟨x3899, ex3899, e⟩ := e
            refine z_iald ex3899 dX10_row_102 ?_
            replace e := z_bd e; obtain ⟨o3901, eo3901, e⟩ := e
            replace e := z_bd e; obtain ⟨p3900, ep3900, e⟩ := e
            refine z_cV [.int x3897, .int x3898, .int x3899] (S_X9_addPair  ep3900) eo3901 rfl ml_X10_111 ck_X9_addPair vk_X9_addPair dX10_row_103 (by decide) rfl (Nat.zero_le _) rfl ?_
            replace e := z_bd e; obtain ⟨x3902, ex3902, e⟩ := e
            refine z_iinc (q := 3) (v := x3902) (L' := [(3, .int x3902), (0, z_r l0), (1, .int l1), (2, z_r l2), (4, .int l4), (5, .int l5)]) dX10_row_106 rfl (Option.some.inj ex3902) (by decide) (by simp [z_cr]) ?_
            refine z_goto (tgt := 115) dX10_row_109 (by decide) ?_
            exact z_weak [1, 2, 3, 0, 4, 5] rfl (S_X10_row_115  @hk35 e)
def D_X10_row (h : z_H) (l0 : Option Nat) : Option (Int32 × z_H) :=
  (z_gQ 10 h l0 5).bind fun x3903 =>
  (z_gI 5 h x3903 2).bind fun x3904 =>
  if x3904 = 0 then
    (z_ob 10 h l0).bind fun _ =>
    (D_X10_refuse  h l0 (-6:Int32)).bind fun p3908 =>
    some (p3908.1, p3908.2)
  else
    (z_gQ 10 h l0 5).bind fun x3906 =>
    (z_gQ 5 h x3906 0).bind fun x3907 =>
    D_X10_row_35   z_F h l0 x3904 x3907 (0:Int32) (0:Int32) (0:Int32)
set_option maxRecDepth 100000 in
set_option maxHeartbeats 4000000 in
theorem S_X10_row {G : z_G} {l : Launch} {h : z_H} {l0 : Option Nat} {res : (Int32 × z_H)} (e : D_X10_row h l0 = some res) : z_Meth G l 6 M_X10_row [z_r l0] h res.2 (some (.int res.1)) := by
  refine z_Meth.of ck_X10_row.2.2.2.2 (by simp [lg_sl, z_ci, z_cj, z_cr, z_cx]) ck_X10_row.1 ?_
  rw [show lv_args 0 [z_r l0] = [(0, z_r l0)] from by simp [lv_args, z_ci, z_cj, z_cr, z_cx]]
  unfold D_X10_row at e
  refine z_aload_n 0 dX10_row_0 rfl ?_
  replace e := z_bd e; obtain ⟨x3903, ex3903, e⟩ := e
  refine z_getQ ex3903 lk_X10_37 dX10_row_1 ?_
  replace e := z_bd e; obtain ⟨x3904, ex3904, e⟩ := e
  refine z_getI ex3904 lk_X10_171 dX10_row_4 ?_
  refine z_istore_n (L' := [(1, .int x3904), (0, z_r l0)]) dX10_row_7 rfl (by decide) (by simp [z_cr]) ?_
  refine z_iload_n 0 dX10_row_8 rfl ?_
  refine z_if_ne (tgt := 19) dX10_row_9 (by decide) (fun c3905 => ?_) (fun c3905 => ?_)
  · rw [if_neg c3905] at e
    refine z_aload_n 1 dX10_row_19 rfl ?_
    replace e := z_bd e; obtain ⟨x3906, ex3906, e⟩ := e
    refine z_getQ ex3906 lk_X10_37 dX10_row_20 ?_
    replace e := z_bd e; obtain ⟨x3907, ex3907, e⟩ := e
    refine z_getQ ex3907 lk_X10_178 dX10_row_23 ?_
    refine z_astore_n (L' := [(2, z_r x3907), (1, .int x3904), (0, z_r l0)]) dX10_row_26 rfl (by decide) rfl ?_
    refine z_iconst (v := 0) dX10_row_27 (by decide) ?_
    refine z_istore_n (i := 3) (L' := [(3, .int (0:Int32)), (2, z_r x3907), (1, .int x3904), (0, z_r l0)]) dX10_row_28 rfl (by decide) (by simp [z_cr, z_ci, z_cj]) ?_
    refine z_iconst (v := 0) dX10_row_29 (by decide) ?_
    refine z_istore (L' := [(4, .int (0:Int32)), (3, .int (0:Int32)), (2, z_r x3907), (1, .int x3904), (0, z_r l0)]) dX10_row_30 (by decide) rfl ?_
    refine z_iconst (v := 0) dX10_row_32 (by decide) ?_
    refine z_istore (L' := [(5, .int (0:Int32)), (4, .int (0:Int32)), (3, .int (0:Int32)), (2, z_r x3907), (1, .int x3904), (0, z_r l0)]) dX10_row_33 (by decide) rfl ?_
    exact z_weak [5, 4, 3, 2, 1, 0] rfl (S_X10_row_35   z_F e)
  · rw [if_pos c3905] at e
    refine z_aload_n 1 dX10_row_12 rfl ?_
    refine z_bipush (v := -6) dX10_row_13 (by decide) ?_
    replace e := z_bd e; obtain ⟨o3909, eo3909, e⟩ := e
    replace e := z_bd e; obtain ⟨p3908, ep3908, e⟩ := e
    refine z_cV [.int (-6:Int32)] (S_X10_refuse  ep3908) eo3909 rfl ml_X10_104 ck_X10_refuse vk_X10_refuse dX10_row_15 (by decide) rfl (Nat.zero_le _) rfl ?_
    cases e
    exact z_iret dX10_row_18 rfl
theorem dX11_come_0 : decode cX11_come 0 = .ok (.iload_n 1, 1) := by decide +kernel
theorem dX11_come_1 : decode cX11_come 1 = .ok (.invokestatic 201, 3) := by decide +kernel
theorem dX11_come_4 : decode cX11_come 4 = .ok (.ifCond .eq 27, 3) := by decide +kernel
theorem dX11_come_7 : decode cX11_come 7 = .ok (.iload_n 2, 1) := by decide +kernel
theorem dX11_come_8 : decode cX11_come 8 = .ok (.i2l, 1) := by decide +kernel
theorem dX11_come_9 : decode cX11_come 9 = .ok (.lconst 0, 1) := by decide +kernel
theorem dX11_come_10 : decode cX11_come 10 = .ok (.ldc2_w 193, 3) := by decide +kernel
theorem dX11_come_13 : decode cX11_come 13 = .ok (.invokestatic 186, 3) := by decide +kernel
theorem dX11_come_16 : decode cX11_come 16 = .ok (.ifCond .eq 15, 3) := by decide +kernel
theorem dX11_come_19 : decode cX11_come 19 = .ok (.iload_n 3, 1) := by decide +kernel
theorem dX11_come_20 : decode cX11_come 20 = .ok (.i2l, 1) := by decide +kernel
theorem dX11_come_21 : decode cX11_come 21 = .ok (.lconst 0, 1) := by decide +kernel
theorem dX11_come_22 : decode cX11_come 22 = .ok (.ldc2_w 205, 3) := by decide +kernel
theorem dX11_come_25 : decode cX11_come 25 = .ok (.invokestatic 186, 3) := by decide +kernel
theorem dX11_come_28 : decode cX11_come 28 = .ok (.ifCond .ne 5, 3) := by decide +kernel
theorem dX11_come_31 : decode cX11_come 31 = .ok (.iconst (-1), 1) := by decide +kernel
theorem dX11_come_32 : decode cX11_come 32 = .ok (.ireturn, 1) := by decide +kernel
theorem dX11_come_33 : decode cX11_come 33 = .ok (.aload_n 0, 1) := by decide +kernel
theorem dX11_come_34 : decode cX11_come 34 = .ok (.getfield 13, 3) := by decide +kernel
theorem dX11_come_37 : decode cX11_come 37 = .ok (.iconst 0, 1) := by decide +kernel
theorem dX11_come_38 : decode cX11_come 38 = .ok (.iaload, 1) := by decide +kernel
theorem dX11_come_39 : decode cX11_come 39 = .ok (.istore 4, 2) := by decide +kernel
theorem dX11_come_41 : decode cX11_come 41 = .ok (.iload 4, 2) := by decide +kernel
theorem dX11_come_43 : decode cX11_come 43 = .ok (.bipush 6, 2) := by decide +kernel
theorem dX11_come_45 : decode cX11_come 45 = .ok (.if_icmp .ne 6, 3) := by decide +kernel
theorem dX11_come_48 : decode cX11_come 48 = .ok (.bipush (-5), 2) := by decide +kernel
theorem dX11_come_50 : decode cX11_come 50 = .ok (.ireturn, 1) := by decide +kernel
theorem dX11_come_51 : decode cX11_come 51 = .ok (.aload_n 0, 1) := by decide +kernel
theorem dX11_come_52 : decode cX11_come 52 = .ok (.getfield 13, 3) := by decide +kernel
theorem dX11_come_55 : decode cX11_come 55 = .ok (.bipush 8, 2) := by decide +kernel
theorem dX11_come_57 : decode cX11_come 57 = .ok (.iload 4, 2) := by decide +kernel
theorem dX11_come_59 : decode cX11_come 59 = .ok (.iadd, 1) := by decide +kernel
theorem dX11_come_60 : decode cX11_come 60 = .ok (.iload_n 1, 1) := by decide +kernel
theorem dX11_come_61 : decode cX11_come 61 = .ok (.iastore, 1) := by decide +kernel
theorem dX11_come_62 : decode cX11_come 62 = .ok (.aload_n 0, 1) := by decide +kernel
theorem dX11_come_63 : decode cX11_come 63 = .ok (.getfield 13, 3) := by decide +kernel
theorem dX11_come_66 : decode cX11_come 66 = .ok (.bipush 14, 2) := by decide +kernel
theorem dX11_come_68 : decode cX11_come 68 = .ok (.iload 4, 2) := by decide +kernel
theorem dX11_come_70 : decode cX11_come 70 = .ok (.iadd, 1) := by decide +kernel
theorem dX11_come_71 : decode cX11_come 71 = .ok (.iload_n 2, 1) := by decide +kernel
theorem dX11_come_72 : decode cX11_come 72 = .ok (.iastore, 1) := by decide +kernel
theorem dX11_come_73 : decode cX11_come 73 = .ok (.aload_n 0, 1) := by decide +kernel
theorem dX11_come_74 : decode cX11_come 74 = .ok (.getfield 13, 3) := by decide +kernel
theorem dX11_come_77 : decode cX11_come 77 = .ok (.bipush 44, 2) := by decide +kernel
theorem dX11_come_79 : decode cX11_come 79 = .ok (.iload 4, 2) := by decide +kernel
theorem dX11_come_81 : decode cX11_come 81 = .ok (.iadd, 1) := by decide +kernel
theorem dX11_come_82 : decode cX11_come 82 = .ok (.iload_n 3, 1) := by decide +kernel
theorem dX11_come_83 : decode cX11_come 83 = .ok (.iastore, 1) := by decide +kernel
theorem dX11_come_84 : decode cX11_come 84 = .ok (.iconst 0, 1) := by decide +kernel
theorem dX11_come_85 : decode cX11_come 85 = .ok (.istore 5, 2) := by decide +kernel
theorem dX11_come_87 : decode cX11_come 87 = .ok (.iload 5, 2) := by decide +kernel
theorem dX11_come_89 : decode cX11_come 89 = .ok (.iconst 4, 1) := by decide +kernel
theorem dX11_come_90 : decode cX11_come 90 = .ok (.if_icmp .ge 25, 3) := by decide +kernel
theorem dX11_come_93 : decode cX11_come 93 = .ok (.aload_n 0, 1) := by decide +kernel
theorem dX11_come_94 : decode cX11_come 94 = .ok (.getfield 13, 3) := by decide +kernel
theorem dX11_come_97 : decode cX11_come 97 = .ok (.bipush 20, 2) := by decide +kernel
theorem dX11_come_99 : decode cX11_come 99 = .ok (.iconst 4, 1) := by decide +kernel
theorem dX11_come_100 : decode cX11_come 100 = .ok (.iload 4, 2) := by decide +kernel
theorem dX11_come_102 : decode cX11_come 102 = .ok (.imul, 1) := by decide +kernel
theorem dX11_come_103 : decode cX11_come 103 = .ok (.iadd, 1) := by decide +kernel
theorem dX11_come_104 : decode cX11_come 104 = .ok (.iload 5, 2) := by decide +kernel
theorem dX11_come_106 : decode cX11_come 106 = .ok (.iadd, 1) := by decide +kernel
theorem dX11_come_107 : decode cX11_come 107 = .ok (.iconst 0, 1) := by decide +kernel
theorem dX11_come_108 : decode cX11_come 108 = .ok (.iastore, 1) := by decide +kernel
theorem dX11_come_109 : decode cX11_come 109 = .ok (.iinc 5 1, 3) := by decide +kernel
theorem dX11_come_112 : decode cX11_come 112 = .ok (.goto (-25), 3) := by decide +kernel
theorem dX11_come_115 : decode cX11_come 115 = .ok (.aload_n 0, 1) := by decide +kernel
theorem dX11_come_116 : decode cX11_come 116 = .ok (.getfield 13, 3) := by decide +kernel
theorem dX11_come_119 : decode cX11_come 119 = .ok (.iconst 0, 1) := by decide +kernel
theorem dX11_come_120 : decode cX11_come 120 = .ok (.dup2, 1) := by decide +kernel
theorem dX11_come_121 : decode cX11_come 121 = .ok (.iaload, 1) := by decide +kernel
theorem dX11_come_122 : decode cX11_come 122 = .ok (.iconst 1, 1) := by decide +kernel
theorem dX11_come_123 : decode cX11_come 123 = .ok (.iadd, 1) := by decide +kernel
theorem dX11_come_124 : decode cX11_come 124 = .ok (.iastore, 1) := by decide +kernel
theorem dX11_come_125 : decode cX11_come 125 = .ok (.iload 4, 2) := by decide +kernel
theorem dX11_come_127 : decode cX11_come 127 = .ok (.ireturn, 1) := by decide +kernel
def D_X11_come_87b (k87 : z_H → Option Nat → Int32 → Int32 → Option (Int32 × z_H)) (h : z_H) (l0 : Option Nat) (l4 : Int32) (l5 : Int32) : Option (Int32 × z_H) :=
  if (4:Int32) ≤ l5 then
    (z_gQ 11 h l0 3).bind fun x3911 =>
    (z_aI .int h x3911 (0:Int32)).bind fun x3912 =>
    (z_sI h x3911 (0:Int32) (x3912 + (1:Int32))).bind fun h3913 =>
    some (l4, h3913)
  else
    (z_gQ 11 h l0 3).bind fun x3914 =>
    (z_sI h x3914 (((20:Int32) + ((4:Int32) * l4)) + l5) (0:Int32)).bind fun h3915 =>
    (some (l5 + (1:Int32))).bind fun x3916 =>
    k87 h3915 l0 l4 x3916
def D_X11_come_87 (n : Nat) : z_H → Option Nat → Int32 → Int32 → Option (Int32 × z_H) := Nat.rec (motive := fun _ => z_H → Option Nat → Int32 → Int32 → Option (Int32 × z_H)) (fun _ _ _ _ => none) (fun _ k => D_X11_come_87b  k) n
set_option maxRecDepth 100000 in
set_option maxHeartbeats 4000000 in
theorem S_X11_come_87 {G : z_G} {l : Launch}  (n : Nat) : ∀ {h : z_H} {l0 : Option Nat} {l4 : Int32} {l5 : Int32} {res : (Int32 × z_H)}, D_X11_come_87  n h l0 l4 l5 = some res → z_Run G l 6 M_X11_come 87 [(0, z_r l0), (4, .int l4), (5, .int l5)] [] h res.2 (some (.int res.1)) := by
  induction n with
  | zero => intro h l0 l4 l5 res e; cases e
  | succ n hk87 =>
    intro h l0 l4 l5 res e
    replace e : D_X11_come_87b  (D_X11_come_87  n) h l0 l4 l5 = some res := e
    unfold D_X11_come_87b at e
    refine z_iload 2 dX11_come_87 rfl ?_
    refine z_iconst (v := 4) dX11_come_89 (by decide) ?_
    refine z_icmp_ge (tgt := 115) dX11_come_90 (by decide) (fun c3910 => ?_) (fun c3910 => ?_)
    · rw [if_pos c3910] at e
      refine z_aload_n 0 dX11_come_115 rfl ?_
      replace e := z_bd e; obtain ⟨x3911, ex3911, e⟩ := e
      refine z_getQ ex3911 lk_X11_13 dX11_come_116 ?_
      refine z_iconst (v := 0) dX11_come_119 (by decide) ?_
      refine z_dup2 dX11_come_120 rfl (z_cr _) ?_
      replace e := z_bd e; obtain ⟨x3912, ex3912, e⟩ := e
      refine z_iald ex3912 dX11_come_121 ?_
      refine z_iconst (v := 1) dX11_come_122 (by decide) ?_
      refine z_iadd dX11_come_123 ?_
      replace e := z_bd e; obtain ⟨h3913, eh3913, e⟩ := e
      refine z_iast eh3913 dX11_come_124 ?_
      refine z_iload 1 dX11_come_125 rfl ?_
      cases e
      exact z_iret dX11_come_127 rfl
    · rw [if_neg c3910] at e
      refine z_aload_n 0 dX11_come_93 rfl ?_
      replace e := z_bd e; obtain ⟨x3914, ex3914, e⟩ := e
      refine z_getQ ex3914 lk_X11_13 dX11_come_94 ?_
      refine z_bipush (v := 20) dX11_come_97 (by decide) ?_
      refine z_iconst (v := 4) dX11_come_99 (by decide) ?_
      refine z_iload 1 dX11_come_100 rfl ?_
      refine z_imul dX11_come_102 ?_
      refine z_iadd dX11_come_103 ?_
      refine z_iload 2 dX11_come_104 rfl ?_
      refine z_iadd dX11_come_106 ?_
      refine z_iconst (v := 0) dX11_come_107 (by decide) ?_
      replace e := z_bd e; obtain ⟨h3915, eh3915, e⟩ := e
      refine z_iast eh3915 dX11_come_108 ?_
      replace e := z_bd e; obtain ⟨x3916, ex3916, e⟩ := e
      refine z_iinc (q := 2) (v := x3916) (L' := [(5, .int x3916), (0, z_r l0), (4, .int l4)]) dX11_come_109 rfl (Option.some.inj ex3916) (by decide) rfl ?_
      refine z_goto (tgt := 87) dX11_come_112 (by decide) ?_
      exact z_weak [1, 2, 0] rfl (hk87 e)
def D_X11_come (h : z_H) (l0 : Option Nat) (l1 : Int32) (l2 : Int32) (l3 : Int32) : Option (Int32 × z_H) :=
  (D_X11_isCell  h l1).bind fun p3917 =>
  if p3917.1 = 0 then
    some ((-1:Int32), p3917.2)
  else
    (D_X11_in  p3917.2 (Int32.toInt64 l2) (0:Int64) (3:Int64)).bind fun p3919 =>
    if p3919.1 = 0 then
      some ((-1:Int32), p3919.2)
    else
      (D_X11_in  p3919.2 (Int32.toInt64 l3) (0:Int64) (9:Int64)).bind fun p3921 =>
      if p3921.1 = 0 then
        some ((-1:Int32), p3921.2)
      else
        (z_gQ 11 p3921.2 l0 3).bind fun x3923 =>
        (z_aI .int p3921.2 x3923 (0:Int32)).bind fun x3924 =>
        if x3924 = (6:Int32) then
          some ((-5:Int32), p3921.2)
        else
          (z_gQ 11 p3921.2 l0 3).bind fun x3926 =>
          (z_sI p3921.2 x3926 ((8:Int32) + x3924) l1).bind fun h3927 =>
          (z_gQ 11 h3927 l0 3).bind fun x3928 =>
          (z_sI h3927 x3928 ((14:Int32) + x3924) l2).bind fun h3929 =>
          (z_gQ 11 h3929 l0 3).bind fun x3930 =>
          (z_sI h3929 x3930 ((44:Int32) + x3924) l3).bind fun h3931 =>
          D_X11_come_87   z_F h3931 l0 x3924 (0:Int32)
set_option maxRecDepth 100000 in
set_option maxHeartbeats 4000000 in
theorem S_X11_come {G : z_G} {l : Launch} {h : z_H} {l0 : Option Nat} {l1 : Int32} {l2 : Int32} {l3 : Int32} {res : (Int32 × z_H)} (e : D_X11_come h l0 l1 l2 l3 = some res) : z_Meth G l 6 M_X11_come [z_r l0, .int l1, .int l2, .int l3] h res.2 (some (.int res.1)) := by
  refine z_Meth.of ck_X11_come.2.2.2.2 (by simp [lg_sl, z_ci, z_cj, z_cr, z_cx]) ck_X11_come.1 ?_
  rw [show lv_args 0 [z_r l0, .int l1, .int l2, .int l3] = [(0, z_r l0), (1, .int l1), (2, .int l2), (3, .int l3)] from by simp [lv_args, z_ci, z_cj, z_cr, z_cx]]
  unfold D_X11_come at e
  refine z_iload_n 1 dX11_come_0 rfl ?_
  replace e := z_bd e; obtain ⟨p3917, ep3917, e⟩ := e
  refine z_cS [.int l1] (S_X11_isCell  ep3917) ml_X11_201 ck_X11_isCell st_X11_isCell dX11_come_1 (by decide) rfl (Nat.zero_le _) rfl ?_
  refine z_if_eq (tgt := 31) dX11_come_4 (by decide) (fun c3918 => ?_) (fun c3918 => ?_)
  · rw [if_pos c3918] at e
    refine z_iconst (v := -1) dX11_come_31 (by decide) ?_
    cases e
    exact z_iret dX11_come_32 rfl
  · rw [if_neg c3918] at e
    refine z_iload_n 2 dX11_come_7 rfl ?_
    refine z_i2l dX11_come_8 ?_
    refine z_lconst (v := 0) dX11_come_9 (by decide) ?_
    refine z_ldc2 dX11_come_10 kj_X11_193 ?_
    replace e := z_bd e; obtain ⟨p3919, ep3919, e⟩ := e
    refine z_cS [.long (Int32.toInt64 l2), .long (0:Int64), .long (3:Int64)] (S_X11_in  ep3919) ml_X11_186 ck_X11_in st_X11_in dX11_come_13 (by decide) rfl (Nat.zero_le _) rfl ?_
    refine z_if_eq (tgt := 31) dX11_come_16 (by decide) (fun c3920 => ?_) (fun c3920 => ?_)
    · rw [if_pos c3920] at e
      refine z_iconst (v := -1) dX11_come_31 (by decide) ?_
      cases e
      exact z_iret dX11_come_32 rfl
    · rw [if_neg c3920] at e
      refine z_iload_n 3 dX11_come_19 rfl ?_
      refine z_i2l dX11_come_20 ?_
      refine z_lconst (v := 0) dX11_come_21 (by decide) ?_
      refine z_ldc2 dX11_come_22 kj_X11_205 ?_
      replace e := z_bd e; obtain ⟨p3921, ep3921, e⟩ := e
      refine z_cS [.long (Int32.toInt64 l3), .long (0:Int64), .long (9:Int64)] (S_X11_in  ep3921) ml_X11_186 ck_X11_in st_X11_in dX11_come_25 (by decide) rfl (Nat.zero_le _) rfl ?_
      refine z_if_ne (tgt := 33) dX11_come_28 (by decide) (fun c3922 => ?_) (fun c3922 => ?_)
      · rw [if_neg c3922] at e
        refine z_aload_n 0 dX11_come_33 rfl ?_
        replace e := z_bd e; obtain ⟨x3923, ex3923, e⟩ := e
        refine z_getQ ex3923 lk_X11_13 dX11_come_34 ?_
        refine z_iconst (v := 0) dX11_come_37 (by decide) ?_
        replace e := z_bd e; obtain ⟨x3924, ex3924, e⟩ := e
        refine z_iald ex3924 dX11_come_38 ?_
        refine z_istore (L' := [(4, .int x3924), (0, z_r l0), (1, .int l1), (2, .int l2), (3, .int l3)]) dX11_come_39 (by decide) rfl ?_
        refine z_iload 0 dX11_come_41 rfl ?_
        refine z_bipush (v := 6) dX11_come_43 (by decide) ?_
        refine z_icmp_ne (tgt := 51) dX11_come_45 (by decide) (fun c3925 => ?_) (fun c3925 => ?_)
        · rw [if_neg c3925] at e
          refine z_aload_n 1 dX11_come_51 rfl ?_
          replace e := z_bd e; obtain ⟨x3926, ex3926, e⟩ := e
          refine z_getQ ex3926 lk_X11_13 dX11_come_52 ?_
          refine z_bipush (v := 8) dX11_come_55 (by decide) ?_
          refine z_iload 0 dX11_come_57 rfl ?_
          refine z_iadd dX11_come_59 ?_
          refine z_iload_n 2 dX11_come_60 rfl ?_
          replace e := z_bd e; obtain ⟨h3927, eh3927, e⟩ := e
          refine z_iast eh3927 dX11_come_61 ?_
          refine z_aload_n 1 dX11_come_62 rfl ?_
          replace e := z_bd e; obtain ⟨x3928, ex3928, e⟩ := e
          refine z_getQ ex3928 lk_X11_13 dX11_come_63 ?_
          refine z_bipush (v := 14) dX11_come_66 (by decide) ?_
          refine z_iload 0 dX11_come_68 rfl ?_
          refine z_iadd dX11_come_70 ?_
          refine z_iload_n 3 dX11_come_71 rfl ?_
          replace e := z_bd e; obtain ⟨h3929, eh3929, e⟩ := e
          refine z_iast eh3929 dX11_come_72 ?_
          refine z_aload_n 1 dX11_come_73 rfl ?_
          replace e := z_bd e; obtain ⟨x3930, ex3930, e⟩ := e
          refine z_getQ ex3930 lk_X11_13 dX11_come_74 ?_
          refine z_bipush (v := 44) dX11_come_77 (by decide) ?_
          refine z_iload 0 dX11_come_79 rfl ?_
          refine z_iadd dX11_come_81 ?_
          refine z_iload_n 4 dX11_come_82 rfl ?_
          replace e := z_bd e; obtain ⟨h3931, eh3931, e⟩ := e
          refine z_iast eh3931 dX11_come_83 ?_
          refine z_iconst (v := 0) dX11_come_84 (by decide) ?_
          refine z_istore (L' := [(5, .int (0:Int32)), (4, .int x3924), (0, z_r l0), (1, .int l1), (2, .int l2), (3, .int l3)]) dX11_come_85 (by decide) rfl ?_
          exact z_weak [2, 1, 0] rfl (S_X11_come_87   z_F e)
        · rw [if_pos c3925] at e
          refine z_bipush (v := -5) dX11_come_48 (by decide) ?_
          cases e
          exact z_iret dX11_come_50 rfl
      · rw [if_pos c3922] at e
        refine z_iconst (v := -1) dX11_come_31 (by decide) ?_
        cases e
        exact z_iret dX11_come_32 rfl
theorem dX11_row_0 : decode cX11_row 0 = .ok (.aload_n 0, 1) := by decide +kernel
theorem dX11_row_1 : decode cX11_row 1 = .ok (.iconst 0, 1) := by decide +kernel
theorem dX11_row_2 : decode cX11_row 2 = .ok (.putfield 166, 3) := by decide +kernel
theorem dX11_row_5 : decode cX11_row 5 = .ok (.aload_n 0, 1) := by decide +kernel
theorem dX11_row_6 : decode cX11_row 6 = .ok (.getfield 239, 3) := by decide +kernel
theorem dX11_row_9 : decode cX11_row 9 = .ok (.istore_n 1, 1) := by decide +kernel
theorem dX11_row_10 : decode cX11_row 10 = .ok (.aload_n 0, 1) := by decide +kernel
theorem dX11_row_11 : decode cX11_row 11 = .ok (.iconst 0, 1) := by decide +kernel
theorem dX11_row_12 : decode cX11_row 12 = .ok (.putfield 239, 3) := by decide +kernel
theorem dX11_row_15 : decode cX11_row 15 = .ok (.iload_n 1, 1) := by decide +kernel
theorem dX11_row_16 : decode cX11_row 16 = .ok (.ifCond .ne 10, 3) := by decide +kernel
theorem dX11_row_19 : decode cX11_row 19 = .ok (.aload_n 0, 1) := by decide +kernel
theorem dX11_row_20 : decode cX11_row 20 = .ok (.bipush (-6), 2) := by decide +kernel
theorem dX11_row_22 : decode cX11_row 22 = .ok (.invokevirtual 175, 3) := by decide +kernel
theorem dX11_row_25 : decode cX11_row 25 = .ok (.ireturn, 1) := by decide +kernel
theorem dX11_row_26 : decode cX11_row 26 = .ok (.aload_n 0, 1) := by decide +kernel
theorem dX11_row_27 : decode cX11_row 27 = .ok (.iconst 0, 1) := by decide +kernel
theorem dX11_row_28 : decode cX11_row 28 = .ok (.putfield 242, 3) := by decide +kernel
theorem dX11_row_31 : decode cX11_row 31 = .ok (.iconst 0, 1) := by decide +kernel
theorem dX11_row_32 : decode cX11_row 32 = .ok (.istore_n 2, 1) := by decide +kernel
theorem dX11_row_33 : decode cX11_row 33 = .ok (.iconst 0, 1) := by decide +kernel
theorem dX11_row_34 : decode cX11_row 34 = .ok (.istore_n 3, 1) := by decide +kernel
theorem dX11_row_35 : decode cX11_row 35 = .ok (.iload_n 3, 1) := by decide +kernel
theorem dX11_row_36 : decode cX11_row 36 = .ok (.iload_n 1, 1) := by decide +kernel
theorem dX11_row_37 : decode cX11_row 37 = .ok (.if_icmp .ge 61, 3) := by decide +kernel
theorem dX11_row_40 : decode cX11_row 40 = .ok (.iload_n 3, 1) := by decide +kernel
theorem dX11_row_41 : decode cX11_row 41 = .ok (.iconst 2, 1) := by decide +kernel
theorem dX11_row_42 : decode cX11_row 42 = .ok (.iadd, 1) := by decide +kernel
theorem dX11_row_43 : decode cX11_row 43 = .ok (.iload_n 1, 1) := by decide +kernel
theorem dX11_row_44 : decode cX11_row 44 = .ok (.if_icmp .ge 38, 3) := by decide +kernel
theorem dX11_row_47 : decode cX11_row 47 = .ok (.aload_n 0, 1) := by decide +kernel
theorem dX11_row_48 : decode cX11_row 48 = .ok (.aload_n 0, 1) := by decide +kernel
theorem dX11_row_49 : decode cX11_row 49 = .ok (.getfield 35, 3) := by decide +kernel
theorem dX11_row_52 : decode cX11_row 52 = .ok (.iload_n 3, 1) := by decide +kernel
theorem dX11_row_53 : decode cX11_row 53 = .ok (.iaload, 1) := by decide +kernel
theorem dX11_row_54 : decode cX11_row 54 = .ok (.aload_n 0, 1) := by decide +kernel
theorem dX11_row_55 : decode cX11_row 55 = .ok (.getfield 35, 3) := by decide +kernel
theorem dX11_row_58 : decode cX11_row 58 = .ok (.iload_n 3, 1) := by decide +kernel
theorem dX11_row_59 : decode cX11_row 59 = .ok (.iconst 1, 1) := by decide +kernel
theorem dX11_row_60 : decode cX11_row 60 = .ok (.iadd, 1) := by decide +kernel
theorem dX11_row_61 : decode cX11_row 61 = .ok (.iaload, 1) := by decide +kernel
theorem dX11_row_62 : decode cX11_row 62 = .ok (.aload_n 0, 1) := by decide +kernel
theorem dX11_row_63 : decode cX11_row 63 = .ok (.getfield 35, 3) := by decide +kernel
theorem dX11_row_66 : decode cX11_row 66 = .ok (.iload_n 3, 1) := by decide +kernel
theorem dX11_row_67 : decode cX11_row 67 = .ok (.iconst 2, 1) := by decide +kernel
theorem dX11_row_68 : decode cX11_row 68 = .ok (.iadd, 1) := by decide +kernel
theorem dX11_row_69 : decode cX11_row 69 = .ok (.iaload, 1) := by decide +kernel
theorem dX11_row_70 : decode cX11_row 70 = .ok (.invokevirtual 207, 3) := by decide +kernel
theorem dX11_row_73 : decode cX11_row 73 = .ok (.ifCond .lt 9, 3) := by decide +kernel
theorem dX11_row_76 : decode cX11_row 76 = .ok (.iinc 2 1, 3) := by decide +kernel
theorem dX11_row_79 : decode cX11_row 79 = .ok (.goto 13, 3) := by decide +kernel
theorem dX11_row_82 : decode cX11_row 82 = .ok (.aload_n 0, 1) := by decide +kernel
theorem dX11_row_83 : decode cX11_row 83 = .ok (.dup, 1) := by decide +kernel
theorem dX11_row_84 : decode cX11_row 84 = .ok (.getfield 242, 3) := by decide +kernel
theorem dX11_row_87 : decode cX11_row 87 = .ok (.iconst 1, 1) := by decide +kernel
theorem dX11_row_88 : decode cX11_row 88 = .ok (.iadd, 1) := by decide +kernel
theorem dX11_row_89 : decode cX11_row 89 = .ok (.putfield 242, 3) := by decide +kernel
theorem dX11_row_92 : decode cX11_row 92 = .ok (.iinc 3 3, 3) := by decide +kernel
theorem dX11_row_95 : decode cX11_row 95 = .ok (.goto (-60), 3) := by decide +kernel
theorem dX11_row_98 : decode cX11_row 98 = .ok (.aload_n 0, 1) := by decide +kernel
theorem dX11_row_99 : decode cX11_row 99 = .ok (.iload_n 2, 1) := by decide +kernel
theorem dX11_row_100 : decode cX11_row 100 = .ok (.invokevirtual 190, 3) := by decide +kernel
theorem dX11_row_103 : decode cX11_row 103 = .ok (.ireturn, 1) := by decide +kernel
def D_X11_row_92 (k35 : z_H → Option Nat → Int32 → Int32 → Int32 → Option (Int32 × z_H)) (h : z_H) (l0 : Option Nat) (l1 : Int32) (l2 : Int32) (l3 : Int32) : Option (Int32 × z_H) :=
  (some (l3 + (3:Int32))).bind fun x3932 =>
  k35 h l0 l1 l2 x3932
set_option maxRecDepth 100000 in
set_option maxHeartbeats 4000000 in
theorem S_X11_row_92 {G : z_G} {l : Launch} {k35 : z_H → Option Nat → Int32 → Int32 → Int32 → Option (Int32 × z_H)} (hk35 : ∀ {h : z_H} {l0 : Option Nat} {l1 : Int32} {l2 : Int32} {l3 : Int32} {res : (Int32 × z_H)}, k35 h l0 l1 l2 l3 = some res → z_Run G l 7 M_X11_row 35 [(0, z_r l0), (1, .int l1), (2, .int l2), (3, .int l3)] [] h res.2 (some (.int res.1))) {h : z_H} {l0 : Option Nat} {l1 : Int32} {l2 : Int32} {l3 : Int32} {res : (Int32 × z_H)} (e : D_X11_row_92 k35 h l0 l1 l2 l3 = some res) : z_Run G l 7 M_X11_row 92 [(0, z_r l0), (1, .int l1), (2, .int l2), (3, .int l3)] [] h res.2 (some (.int res.1)) := by
  unfold D_X11_row_92 at e
  replace e := z_bd e; obtain ⟨x3932, ex3932, e⟩ := e
  refine z_iinc (q := 3) (v := x3932) (L' := [(3, .int x3932), (0, z_r l0), (1, .int l1), (2, .int l2)]) dX11_row_92 rfl (Option.some.inj ex3932) (by decide) rfl ?_
  refine z_goto (tgt := 35) dX11_row_95 (by decide) ?_
  exact z_weak [1, 2, 3, 0] rfl (hk35 e)
def D_X11_row_82 (k35 : z_H → Option Nat → Int32 → Int32 → Int32 → Option (Int32 × z_H)) (h : z_H) (l0 : Option Nat) (l1 : Int32) (l2 : Int32) (l3 : Int32) : Option (Int32 × z_H) :=
  (z_gI 11 h l0 11).bind fun x3933 =>
  (z_pV 11 h l0 11 (.int (x3933 + (1:Int32)))).bind fun h3934 =>
  D_X11_row_92  k35 h3934 l0 l1 l2 l3
set_option maxRecDepth 100000 in
set_option maxHeartbeats 4000000 in
theorem S_X11_row_82 {G : z_G} {l : Launch} {k35 : z_H → Option Nat → Int32 → Int32 → Int32 → Option (Int32 × z_H)} (hk35 : ∀ {h : z_H} {l0 : Option Nat} {l1 : Int32} {l2 : Int32} {l3 : Int32} {res : (Int32 × z_H)}, k35 h l0 l1 l2 l3 = some res → z_Run G l 7 M_X11_row 35 [(0, z_r l0), (1, .int l1), (2, .int l2), (3, .int l3)] [] h res.2 (some (.int res.1))) {h : z_H} {l0 : Option Nat} {l1 : Int32} {l2 : Int32} {l3 : Int32} {res : (Int32 × z_H)} (e : D_X11_row_82 k35 h l0 l1 l2 l3 = some res) : z_Run G l 7 M_X11_row 82 [(0, z_r l0), (1, .int l1), (2, .int l2), (3, .int l3)] [] h res.2 (some (.int res.1)) := by
  unfold D_X11_row_82 at e
  refine z_aload_n 0 dX11_row_82 rfl ?_
  refine z_dup dX11_row_83 (z_cr _) ?_
  replace e := z_bd e; obtain ⟨x3933, ex3933, e⟩ := e
  refine z_getI ex3933 lk_X11_242 dX11_row_84 ?_
  refine z_iconst (v := 1) dX11_row_87 (by decide) ?_
  refine z_iadd dX11_row_88 ?_
  replace e := z_bd e; obtain ⟨h3934, eh3934, e⟩ := e
  refine z_putV eh3934 lk_X11_242 wk_11_11 (fun _ => rfl) (fun _ => rfl) dX11_row_89 ?_
  exact z_weak [0, 1, 2, 3] rfl (S_X11_row_92  @hk35 e)
def D_X11_row_35b (k35 : z_H → Option Nat → Int32 → Int32 → Int32 → Option (Int32 × z_H)) (h : z_H) (l0 : Option Nat) (l1 : Int32) (l2 : Int32) (l3 : Int32) : Option (Int32 × z_H) :=
  if l1 ≤ l3 then
    (z_ob 11 h l0).bind fun _ =>
    (D_X11_lasting  h l0 l2).bind fun p3936 =>
    some (p3936.1, p3936.2)
  else
    if l1 ≤ (l3 + (2:Int32)) then
      D_X11_row_82  k35 h l0 l1 l2 l3
    else
      (z_gQ 11 h l0 12).bind fun x3939 =>
      (z_aI .int h x3939 l3).bind fun x3940 =>
      (z_gQ 11 h l0 12).bind fun x3941 =>
      (z_aI .int h x3941 (l3 + (1:Int32))).bind fun x3942 =>
      (z_gQ 11 h l0 12).bind fun x3943 =>
      (z_aI .int h x3943 (l3 + (2:Int32))).bind fun x3944 =>
      (z_ob 11 h l0).bind fun _ =>
      (D_X11_come  h l0 x3940 x3942 x3944).bind fun p3945 =>
      if p3945.1 < 0 then
        D_X11_row_82  k35 p3945.2 l0 l1 l2 l3
      else
        (some (l2 + (1:Int32))).bind fun x3948 =>
        D_X11_row_92  k35 p3945.2 l0 l1 x3948 l3
def D_X11_row_35 (n : Nat) : z_H → Option Nat → Int32 → Int32 → Int32 → Option (Int32 × z_H) := Nat.rec (motive := fun _ => z_H → Option Nat → Int32 → Int32 → Int32 → Option (Int32 × z_H)) (fun _ _ _ _ _ => none) (fun _ k => D_X11_row_35b  k) n
set_option maxRecDepth 100000 in
set_option maxHeartbeats 4000000 in
theorem S_X11_row_35 {G : z_G} {l : Launch}  (n : Nat) : ∀ {h : z_H} {l0 : Option Nat} {l1 : Int32} {l2 : Int32} {l3 : Int32} {res : (Int32 × z_H)}, D_X11_row_35  n h l0 l1 l2 l3 = some res → z_Run G l 7 M_X11_row 35 [(0, z_r l0), (1, .int l1), (2, .int l2), (3, .int l3)] [] h res.2 (some (.int res.1)) := by
  induction n with
  | zero => intro h l0 l1 l2 l3 res e; cases e
  | succ n hk35 =>
    intro h l0 l1 l2 l3 res e
    replace e : D_X11_row_35b  (D_X11_row_35  n) h l0 l1 l2 l3 = some res := e
    unfold D_X11_row_35b at e
    refine z_iload_n 3 dX11_row_35 rfl ?_
    refine z_iload_n 1 dX11_row_36 rfl ?_
    refine z_icmp_ge (tgt := 98) dX11_row_37 (by decide) (fun c3935 => ?_) (fun c3935 => ?_)
    · rw [if_pos c3935] at e
      refine z_aload_n 0 dX11_row_98 rfl ?_
      refine z_iload_n 2 dX11_row_99 rfl ?_
      replace e := z_bd e; obtain ⟨o3937, eo3937, e⟩ := e
      replace e := z_bd e; obtain ⟨p3936, ep3936, e⟩ := e
      refine z_cV [.int l2] (S_X11_lasting  ep3936) eo3937 rfl ml_X11_190 ck_X11_lasting vk_X11_lasting dX11_row_100 (by decide) rfl (Nat.zero_le _) rfl ?_
      cases e
      exact z_iret dX11_row_103 rfl
    · rw [if_neg c3935] at e
      refine z_iload_n 3 dX11_row_40 rfl ?_
      refine z_iconst (v := 2) dX11_row_41 (by decide) ?_
      refine z_iadd dX11_row_42 ?_
      refine z_iload_n 1 dX11_row_43 rfl ?_
      refine z_icmp_ge (tgt := 82) dX11_row_44 (by decide) (fun c3938 => ?_) (fun c3938 => ?_)
      · rw [if_pos c3938] at e
        exact z_weak [0, 1, 2, 3] rfl (S_X11_row_82  @hk35 e)
      · rw [if_neg c3938] at e
        refine z_aload_n 0 dX11_row_47 rfl ?_
        refine z_aload_n 0 dX11_row_48 rfl ?_
        replace e := z_bd e; obtain ⟨x3939, ex3939, e⟩ := e
        refine z_getQ ex3939 lk_X11_35 dX11_row_49 ?_
        refine z_iload_n 3 dX11_row_52 rfl ?_
        replace e := z_bd e; obtain ⟨x3940, ex3940, e⟩ := e
        refine z_iald ex3940 dX11_row_53 ?_
        refine z_aload_n 0 dX11_row_54 rfl ?_
        replace e := z_bd e; obtain ⟨x3941, ex3941, e⟩ := e
        refine z_getQ ex3941 lk_X11_35 dX11_row_55 ?_
        refine z_iload_n 3 dX11_row_58 rfl ?_
        refine z_iconst (v := 1) dX11_row_59 (by decide) ?_
        refine z_iadd dX11_row_60 ?_
        replace e := z_bd e; obtain ⟨x3942, ex3942, e⟩ := e
        refine z_iald ex3942 dX11_row_61 ?_
        refine z_aload_n 0 dX11_row_62 rfl ?_
        replace e := z_bd e; obtain ⟨x3943, ex3943, e⟩ := e
        refine z_getQ ex3943 lk_X11_35 dX11_row_63 ?_
        refine z_iload_n 3 dX11_row_66 rfl ?_
        refine z_iconst (v := 2) dX11_row_67 (by decide) ?_
        refine z_iadd dX11_row_68 ?_
        replace e := z_bd e; obtain ⟨x3944, ex3944, e⟩ := e
        refine z_iald ex3944 dX11_row_69 ?_
        replace e := z_bd e; obtain ⟨o3946, eo3946, e⟩ := e
        replace e := z_bd e; obtain ⟨p3945, ep3945, e⟩ := e
        refine z_cV [.int x3940, .int x3942, .int x3944] (S_X11_come  ep3945) eo3946 rfl ml_X11_207 ck_X11_come vk_X11_come dX11_row_70 (by decide) rfl (Nat.zero_le _) rfl ?_
        refine z_if_lt (tgt := 82) dX11_row_73 (by decide) (fun c3947 => ?_) (fun c3947 => ?_)
        · rw [if_pos c3947] at e
          exact z_weak [0, 1, 2, 3] rfl (S_X11_row_82  @hk35 e)
        · rw [if_neg c3947] at e
          replace e := z_bd e; obtain ⟨x3948, ex3948, e⟩ := e
          refine z_iinc (q := 2) (v := x3948) (L' := [(2, .int x3948), (0, z_r l0), (1, .int l1), (3, .int l3)]) dX11_row_76 rfl (Option.some.inj ex3948) (by decide) rfl ?_
          refine z_goto (tgt := 92) dX11_row_79 (by decide) ?_
          exact z_weak [1, 2, 0, 3] rfl (S_X11_row_92  @hk35 e)
def D_X11_row (h : z_H) (l0 : Option Nat) : Option (Int32 × z_H) :=
  (z_pV 11 h l0 0 (.int (0:Int32))).bind fun h3949 =>
  (z_gI 11 h3949 l0 13).bind fun x3950 =>
  (z_pV 11 h3949 l0 13 (.int (0:Int32))).bind fun h3951 =>
  if x3950 = 0 then
    (z_ob 11 h3951 l0).bind fun _ =>
    (D_X11_tell  h3951 l0 (-6:Int32)).bind fun p3954 =>
    some (p3954.1, p3954.2)
  else
    (z_pV 11 h3951 l0 11 (.int (0:Int32))).bind fun h3953 =>
    D_X11_row_35   z_F h3953 l0 x3950 (0:Int32) (0:Int32)
set_option maxRecDepth 100000 in
set_option maxHeartbeats 4000000 in
theorem S_X11_row {G : z_G} {l : Launch} {h : z_H} {l0 : Option Nat} {res : (Int32 × z_H)} (e : D_X11_row h l0 = some res) : z_Meth G l 7 M_X11_row [z_r l0] h res.2 (some (.int res.1)) := by
  refine z_Meth.of ck_X11_row.2.2.2.2 (by simp [lg_sl, z_ci, z_cj, z_cr, z_cx]) ck_X11_row.1 ?_
  rw [show lv_args 0 [z_r l0] = [(0, z_r l0)] from by simp [lv_args, z_ci, z_cj, z_cr, z_cx]]
  unfold D_X11_row at e
  refine z_aload_n 0 dX11_row_0 rfl ?_
  refine z_iconst (v := 0) dX11_row_1 (by decide) ?_
  replace e := z_bd e; obtain ⟨h3949, eh3949, e⟩ := e
  refine z_putV eh3949 lk_X11_166 wk_11_0 (fun _ => rfl) (fun _ => rfl) dX11_row_2 ?_
  refine z_aload_n 0 dX11_row_5 rfl ?_
  replace e := z_bd e; obtain ⟨x3950, ex3950, e⟩ := e
  refine z_getI ex3950 lk_X11_239 dX11_row_6 ?_
  refine z_istore_n (L' := [(1, .int x3950), (0, z_r l0)]) dX11_row_9 rfl (by decide) (by simp [z_cr]) ?_
  refine z_aload_n 1 dX11_row_10 rfl ?_
  refine z_iconst (v := 0) dX11_row_11 (by decide) ?_
  replace e := z_bd e; obtain ⟨h3951, eh3951, e⟩ := e
  refine z_putV eh3951 lk_X11_239 wk_11_13 (fun _ => rfl) (fun _ => rfl) dX11_row_12 ?_
  refine z_iload_n 0 dX11_row_15 rfl ?_
  refine z_if_ne (tgt := 26) dX11_row_16 (by decide) (fun c3952 => ?_) (fun c3952 => ?_)
  · rw [if_neg c3952] at e
    refine z_aload_n 1 dX11_row_26 rfl ?_
    refine z_iconst (v := 0) dX11_row_27 (by decide) ?_
    replace e := z_bd e; obtain ⟨h3953, eh3953, e⟩ := e
    refine z_putV eh3953 lk_X11_242 wk_11_11 (fun _ => rfl) (fun _ => rfl) dX11_row_28 ?_
    refine z_iconst (v := 0) dX11_row_31 (by decide) ?_
    refine z_istore_n (L' := [(2, .int (0:Int32)), (1, .int x3950), (0, z_r l0)]) dX11_row_32 rfl (by decide) rfl ?_
    refine z_iconst (v := 0) dX11_row_33 (by decide) ?_
    refine z_istore_n (L' := [(3, .int (0:Int32)), (2, .int (0:Int32)), (1, .int x3950), (0, z_r l0)]) dX11_row_34 rfl (by decide) rfl ?_
    exact z_weak [3, 2, 1, 0] rfl (S_X11_row_35   z_F e)
  · rw [if_pos c3952] at e
    refine z_aload_n 1 dX11_row_19 rfl ?_
    refine z_bipush (v := -6) dX11_row_20 (by decide) ?_
    replace e := z_bd e; obtain ⟨o3955, eo3955, e⟩ := e
    replace e := z_bd e; obtain ⟨p3954, ep3954, e⟩ := e
    refine z_cV [.int (-6:Int32)] (S_X11_tell  ep3954) eo3955 rfl ml_X11_175 ck_X11_tell vk_X11_tell dX11_row_22 (by decide) rfl (Nat.zero_le _) rfl ?_
    cases e
    exact z_iret dX11_row_25 rfl
theorem dX10_end_0 : decode cX10_end 0 = .ok (.iload_n 1, 1) := by decide +kernel
theorem dX10_end_1 : decode cX10_end 1 = .ok (.ifCond .lt 14, 3) := by decide +kernel
theorem dX10_end_4 : decode cX10_end 4 = .ok (.iload_n 1, 1) := by decide +kernel
theorem dX10_end_5 : decode cX10_end 5 = .ok (.aload_n 0, 1) := by decide +kernel
theorem dX10_end_6 : decode cX10_end 6 = .ok (.getfield 37, 3) := by decide +kernel
theorem dX10_end_9 : decode cX10_end 9 = .ok (.getfield 171, 3) := by decide +kernel
theorem dX10_end_12 : decode cX10_end 12 = .ok (.if_icmp .le 5, 3) := by decide +kernel
theorem dX10_end_15 : decode cX10_end 15 = .ok (.iconst (-1), 1) := by decide +kernel
theorem dX10_end_16 : decode cX10_end 16 = .ok (.ireturn, 1) := by decide +kernel
theorem dX10_end_17 : decode cX10_end 17 = .ok (.aload_n 0, 1) := by decide +kernel
theorem dX10_end_18 : decode cX10_end 18 = .ok (.getfield 37, 3) := by decide +kernel
theorem dX10_end_21 : decode cX10_end 21 = .ok (.iload_n 1, 1) := by decide +kernel
theorem dX10_end_22 : decode cX10_end 22 = .ok (.putfield 171, 3) := by decide +kernel
theorem dX10_end_25 : decode cX10_end 25 = .ok (.iload_n 1, 1) := by decide +kernel
theorem dX10_end_26 : decode cX10_end 26 = .ok (.ireturn, 1) := by decide +kernel
def D_X10_end (h : z_H) (l0 : Option Nat) (l1 : Int32) : Option (Int32 × z_H) :=
  if l1 < 0 then
    some ((-1:Int32), h)
  else
    (z_gQ 10 h l0 5).bind fun x3957 =>
    (z_gI 5 h x3957 2).bind fun x3958 =>
    if l1 ≤ x3958 then
      (z_gQ 10 h l0 5).bind fun x3960 =>
      (z_pV 5 h x3960 2 (.int l1)).bind fun h3961 =>
      some (l1, h3961)
    else
      some ((-1:Int32), h)
set_option maxRecDepth 100000 in
set_option maxHeartbeats 4000000 in
theorem S_X10_end {G : z_G} {l : Launch} {h : z_H} {l0 : Option Nat} {l1 : Int32} {res : (Int32 × z_H)} (e : D_X10_end h l0 l1 = some res) : z_Meth G l 4 M_X10_end [z_r l0, .int l1] h res.2 (some (.int res.1)) := by
  refine z_Meth.of ck_X10_end.2.2.2.2 (by simp [lg_sl, z_ci, z_cj, z_cr, z_cx]) ck_X10_end.1 ?_
  rw [show lv_args 0 [z_r l0, .int l1] = [(0, z_r l0), (1, .int l1)] from by simp [lv_args, z_ci, z_cj, z_cr, z_cx]]
  unfold D_X10_end at e
  refine z_iload_n 1 dX10_end_0 rfl ?_
  refine z_if_lt (tgt := 15) dX10_end_1 (by decide) (fun c3956 => ?_) (fun c3956 => ?_)
  · rw [if_pos c3956] at e
    refine z_iconst (v := -1) dX10_end_15 (by decide) ?_
    cases e
    exact z_iret dX10_end_16 rfl
  · rw [if_neg c3956] at e
    refine z_iload_n 1 dX10_end_4 rfl ?_
    refine z_aload_n 0 dX10_end_5 rfl ?_
    replace e := z_bd e; obtain ⟨x3957, ex3957, e⟩ := e
    refine z_getQ ex3957 lk_X10_37 dX10_end_6 ?_
    replace e := z_bd e; obtain ⟨x3958, ex3958, e⟩ := e
    refine z_getI ex3958 lk_X10_171 dX10_end_9 ?_
    refine z_icmp_le (tgt := 17) dX10_end_12 (by decide) (fun c3959 => ?_) (fun c3959 => ?_)
    · rw [if_pos c3959] at e
      refine z_aload_n 0 dX10_end_17 rfl ?_
      replace e := z_bd e; obtain ⟨x3960, ex3960, e⟩ := e
      refine z_getQ ex3960 lk_X10_37 dX10_end_18 ?_
      refine z_iload_n 1 dX10_end_21 rfl ?_
      replace e := z_bd e; obtain ⟨h3961, eh3961, e⟩ := e
      refine z_putV eh3961 lk_X10_171 wk_5_2 (fun _ => rfl) (fun _ => rfl) dX10_end_22 ?_
      refine z_iload_n 1 dX10_end_25 rfl ?_
      cases e
      exact z_iret dX10_end_26 rfl
    · rw [if_neg c3959] at e
      refine z_iconst (v := -1) dX10_end_15 (by decide) ?_
      cases e
      exact z_iret dX10_end_16 rfl
theorem dX11_end_0 : decode cX11_end 0 = .ok (.aload_n 0, 1) := by decide +kernel
theorem dX11_end_1 : decode cX11_end 1 = .ok (.iconst 0, 1) := by decide +kernel
theorem dX11_end_2 : decode cX11_end 2 = .ok (.putfield 166, 3) := by decide +kernel
theorem dX11_end_5 : decode cX11_end 5 = .ok (.iload_n 1, 1) := by decide +kernel
theorem dX11_end_6 : decode cX11_end 6 = .ok (.ifCond .lt 11, 3) := by decide +kernel
theorem dX11_end_9 : decode cX11_end 9 = .ok (.iload_n 1, 1) := by decide +kernel
theorem dX11_end_10 : decode cX11_end 10 = .ok (.aload_n 0, 1) := by decide +kernel
theorem dX11_end_11 : decode cX11_end 11 = .ok (.getfield 239, 3) := by decide +kernel
theorem dX11_end_14 : decode cX11_end 14 = .ok (.if_icmp .le 5, 3) := by decide +kernel
theorem dX11_end_17 : decode cX11_end 17 = .ok (.iconst (-1), 1) := by decide +kernel
theorem dX11_end_18 : decode cX11_end 18 = .ok (.ireturn, 1) := by decide +kernel
theorem dX11_end_19 : decode cX11_end 19 = .ok (.aload_n 0, 1) := by decide +kernel
theorem dX11_end_20 : decode cX11_end 20 = .ok (.iload_n 1, 1) := by decide +kernel
theorem dX11_end_21 : decode cX11_end 21 = .ok (.putfield 239, 3) := by decide +kernel
theorem dX11_end_24 : decode cX11_end 24 = .ok (.iload_n 1, 1) := by decide +kernel
theorem dX11_end_25 : decode cX11_end 25 = .ok (.ireturn, 1) := by decide +kernel
def D_X11_end (h : z_H) (l0 : Option Nat) (l1 : Int32) : Option (Int32 × z_H) :=
  (z_pV 11 h l0 0 (.int (0:Int32))).bind fun h3962 =>
  if l1 < 0 then
    some ((-1:Int32), h3962)
  else
    (z_gI 11 h3962 l0 13).bind fun x3964 =>
    if l1 ≤ x3964 then
      (z_pV 11 h3962 l0 13 (.int l1)).bind fun h3966 =>
      some (l1, h3966)
    else
      some ((-1:Int32), h3962)
set_option maxRecDepth 100000 in
set_option maxHeartbeats 4000000 in
theorem S_X11_end {G : z_G} {l : Launch} {h : z_H} {l0 : Option Nat} {l1 : Int32} {res : (Int32 × z_H)} (e : D_X11_end h l0 l1 = some res) : z_Meth G l 4 M_X11_end [z_r l0, .int l1] h res.2 (some (.int res.1)) := by
  refine z_Meth.of ck_X11_end.2.2.2.2 (by simp [lg_sl, z_ci, z_cj, z_cr, z_cx]) ck_X11_end.1 ?_
  rw [show lv_args 0 [z_r l0, .int l1] = [(0, z_r l0), (1, .int l1)] from by simp [lv_args, z_ci, z_cj, z_cr, z_cx]]
  unfold D_X11_end at e
  refine z_aload_n 0 dX11_end_0 rfl ?_
  refine z_iconst (v := 0) dX11_end_1 (by decide) ?_
  replace e := z_bd e; obtain ⟨h3962, eh3962, e⟩ := e
  refine z_putV eh3962 lk_X11_166 wk_11_0 (fun _ => rfl) (fun _ => rfl) dX11_end_2 ?_
  refine z_iload_n 1 dX11_end_5 rfl ?_
  refine z_if_lt (tgt := 17) dX11_end_6 (by decide) (fun c3963 => ?_) (fun c3963 => ?_)
  · rw [if_pos c3963] at e
    refine z_iconst (v := -1) dX11_end_17 (by decide) ?_
    cases e
    exact z_iret dX11_end_18 rfl
  · rw [if_neg c3963] at e
    refine z_iload_n 1 dX11_end_9 rfl ?_
    refine z_aload_n 0 dX11_end_10 rfl ?_
    replace e := z_bd e; obtain ⟨x3964, ex3964, e⟩ := e
    refine z_getI ex3964 lk_X11_239 dX11_end_11 ?_
    refine z_icmp_le (tgt := 19) dX11_end_14 (by decide) (fun c3965 => ?_) (fun c3965 => ?_)
    · rw [if_pos c3965] at e
      refine z_aload_n 0 dX11_end_19 rfl ?_
      refine z_iload_n 1 dX11_end_20 rfl ?_
      replace e := z_bd e; obtain ⟨h3966, eh3966, e⟩ := e
      refine z_putV eh3966 lk_X11_239 wk_11_13 (fun _ => rfl) (fun _ => rfl) dX11_end_21 ?_
      refine z_iload_n 1 dX11_end_24 rfl ?_
      cases e
      exact z_iret dX11_end_25 rfl
    · rw [if_neg c3965] at e
      refine z_iconst (v := -1) dX11_end_17 (by decide) ?_
      cases e
      exact z_iret dX11_end_18 rfl
theorem dX5_put_0 : decode cX5_put 0 = .ok (.bipush 24, 2) := by decide +kernel
theorem dX5_put_2 : decode cX5_put 2 = .ok (.istore_n 2, 1) := by decide +kernel
theorem dX5_put_3 : decode cX5_put 3 = .ok (.iload_n 2, 1) := by decide +kernel
theorem dX5_put_4 : decode cX5_put 4 = .ok (.ifCond .lt 45, 3) := by decide +kernel
theorem dX5_put_7 : decode cX5_put 7 = .ok (.aload_n 0, 1) := by decide +kernel
theorem dX5_put_8 : decode cX5_put 8 = .ok (.getfield 24, 3) := by decide +kernel
theorem dX5_put_11 : decode cX5_put 11 = .ok (.sipush 400, 3) := by decide +kernel
theorem dX5_put_14 : decode cX5_put 14 = .ok (.if_icmp .ge 35, 3) := by decide +kernel
theorem dX5_put_17 : decode cX5_put 17 = .ok (.aload_n 0, 1) := by decide +kernel
theorem dX5_put_18 : decode cX5_put 18 = .ok (.getfield 9, 3) := by decide +kernel
theorem dX5_put_21 : decode cX5_put 21 = .ok (.aload_n 0, 1) := by decide +kernel
theorem dX5_put_22 : decode cX5_put 22 = .ok (.getfield 24, 3) := by decide +kernel
theorem dX5_put_25 : decode cX5_put 25 = .ok (.iload_n 1, 1) := by decide +kernel
theorem dX5_put_26 : decode cX5_put 26 = .ok (.iload_n 2, 1) := by decide +kernel
theorem dX5_put_27 : decode cX5_put 27 = .ok (.ishr, 1) := by decide +kernel
theorem dX5_put_28 : decode cX5_put 28 = .ok (.sipush 255, 3) := by decide +kernel
theorem dX5_put_31 : decode cX5_put 31 = .ok (.iand, 1) := by decide +kernel
theorem dX5_put_32 : decode cX5_put 32 = .ok (.iastore, 1) := by decide +kernel
theorem dX5_put_33 : decode cX5_put 33 = .ok (.aload_n 0, 1) := by decide +kernel
theorem dX5_put_34 : decode cX5_put 34 = .ok (.dup, 1) := by decide +kernel
theorem dX5_put_35 : decode cX5_put 35 = .ok (.getfield 24, 3) := by decide +kernel
theorem dX5_put_38 : decode cX5_put 38 = .ok (.iconst 1, 1) := by decide +kernel
theorem dX5_put_39 : decode cX5_put 39 = .ok (.iadd, 1) := by decide +kernel
theorem dX5_put_40 : decode cX5_put 40 = .ok (.putfield 24, 3) := by decide +kernel
theorem dX5_put_43 : decode cX5_put 43 = .ok (.iinc 2 (-8), 3) := by decide +kernel
theorem dX5_put_46 : decode cX5_put 46 = .ok (.goto (-43), 3) := by decide +kernel
theorem dX5_put_49 : decode cX5_put 49 = .ok (.return_, 1) := by decide +kernel
def D_X5_put_3b (k3 : z_H → Option Nat → Int32 → Int32 → Option z_H) (h : z_H) (l0 : Option Nat) (l1 : Int32) (l2 : Int32) : Option z_H :=
  if l2 < 0 then
    some h
  else
    (z_gI 5 h l0 2).bind fun x3968 =>
    if (400:Int32) ≤ x3968 then
      some h
    else
      (z_gQ 5 h l0 0).bind fun x3970 =>
      (z_gI 5 h l0 2).bind fun x3971 =>
      (z_sI h x3970 x3971 ((l1 >>> (l2 &&& 31)) &&& (255:Int32))).bind fun h3972 =>
      (z_gI 5 h3972 l0 2).bind fun x3973 =>
      (z_pV 5 h3972 l0 2 (.int (x3973 + (1:Int32)))).bind fun h3974 =>
      (some (l2 + (-8:Int32))).bind fun x3975 =>
      k3 h3974 l0 l1 x3975
def D_X5_put_3 (n : Nat) : z_H → Option Nat → Int32 → Int32 → Option z_H := Nat.rec (motive := fun _ => z_H → Option Nat → Int32 → Int32 → Option z_H) (fun _ _ _ _ => none) (fun _ k => D_X5_put_3b  k) n
set_option maxRecDepth 100000 in
set_option maxHeartbeats 4000000 in
theorem S_X5_put_3 {G : z_G} {l : Launch}  (n : Nat) : ∀ {h : z_H} {l0 : Option Nat} {l1 : Int32} {l2 : Int32} {res : z_H}, D_X5_put_3  n h l0 l1 l2 = some res → z_Run G l 4 M_X5_put 3 [(0, z_r l0), (1, .int l1), (2, .int l2)] [] h res none := by
  induction n with
  | zero => intro h l0 l1 l2 res e; cases e
  | succ n hk3 =>
    intro h l0 l1 l2 res e
    replace e : D_X5_put_3b  (D_X5_put_3  n) h l0 l1 l2 = some res := e
    unfold D_X5_put_3b at e
    refine z_iload_n 2 dX5_put_3 rfl ?_
    refine z_if_lt (tgt := 49) dX5_put_4 (by decide) (fun c3967 => ?_) (fun c3967 => ?_)
    · rw [if_pos c3967] at e
      cases e
      exact z_vret dX5_put_49 rfl
    · rw [if_neg c3967] at e
      refine z_aload_n 0 dX5_put_7 rfl ?_
      replace e := z_bd e; obtain ⟨x3968, ex3968, e⟩ := e
      refine z_getI ex3968 lk_X5_24 dX5_put_8 ?_
      refine z_sipush (v := 400) dX5_put_11 (by decide) ?_
      refine z_icmp_ge (tgt := 49) dX5_put_14 (by decide) (fun c3969 => ?_) (fun c3969 => ?_)
      · rw [if_pos c3969] at e
        cases e
        exact z_vret dX5_put_49 rfl
      · rw [if_neg c3969] at e
        refine z_aload_n 0 dX5_put_17 rfl ?_
        replace e := z_bd e; obtain ⟨x3970, ex3970, e⟩ := e
        refine z_getQ ex3970 lk_X5_9 dX5_put_18 ?_
        refine z_aload_n 0 dX5_put_21 rfl ?_
        replace e := z_bd e; obtain ⟨x3971, ex3971, e⟩ := e
        refine z_getI ex3971 lk_X5_24 dX5_put_22 ?_
        refine z_iload_n 1 dX5_put_25 rfl ?_
        refine z_iload_n 2 dX5_put_26 rfl ?_
        refine z_ishr dX5_put_27 ?_
        refine z_sipush (v := 255) dX5_put_28 (by decide) ?_
        refine z_iand dX5_put_31 ?_
        replace e := z_bd e; obtain ⟨h3972, eh3972, e⟩ := e
        refine z_iast eh3972 dX5_put_32 ?_
        refine z_aload_n 0 dX5_put_33 rfl ?_
        refine z_dup dX5_put_34 (z_cr _) ?_
        replace e := z_bd e; obtain ⟨x3973, ex3973, e⟩ := e
        refine z_getI ex3973 lk_X5_24 dX5_put_35 ?_
        refine z_iconst (v := 1) dX5_put_38 (by decide) ?_
        refine z_iadd dX5_put_39 ?_
        replace e := z_bd e; obtain ⟨h3974, eh3974, e⟩ := e
        refine z_putV eh3974 lk_X5_24 wk_5_2 (fun _ => rfl) (fun _ => rfl) dX5_put_40 ?_
        replace e := z_bd e; obtain ⟨x3975, ex3975, e⟩ := e
        refine z_iinc (q := 2) (v := x3975) (L' := [(2, .int x3975), (0, z_r l0), (1, .int l1)]) dX5_put_43 rfl (Option.some.inj ex3975) (by decide) rfl ?_
        refine z_goto (tgt := 3) dX5_put_46 (by decide) ?_
        exact z_weak [1, 2, 0] rfl (hk3 e)
def D_X5_put (h : z_H) (l0 : Option Nat) (l1 : Int32) : Option z_H :=
  D_X5_put_3   z_F h l0 l1 (24:Int32)
set_option maxRecDepth 100000 in
set_option maxHeartbeats 4000000 in
theorem S_X5_put {G : z_G} {l : Launch} {h : z_H} {l0 : Option Nat} {l1 : Int32} {res : z_H} (e : D_X5_put h l0 l1 = some res) : z_Meth G l 4 M_X5_put [z_r l0, .int l1] h res none := by
  refine z_Meth.of ck_X5_put.2.2.2.2 (by simp [lg_sl, z_ci, z_cj, z_cr, z_cx]) ck_X5_put.1 ?_
  rw [show lv_args 0 [z_r l0, .int l1] = [(0, z_r l0), (1, .int l1)] from by simp [lv_args, z_ci, z_cj, z_cr, z_cx]]
  unfold D_X5_put at e
  refine z_bipush (v := 24) dX5_put_0 (by decide) ?_
  refine z_istore_n (L' := [(2, .int (24:Int32)), (0, z_r l0), (1, .int l1)]) dX5_put_2 rfl (by decide) rfl ?_
  exact z_weak [1, 2, 0] rfl (S_X5_put_3   z_F e)
theorem dX10_feed_0 : decode cX10_feed 0 = .ok (.aload_n 0, 1) := by decide +kernel
theorem dX10_feed_1 : decode cX10_feed 1 = .ok (.getfield 37, 3) := by decide +kernel
theorem dX10_feed_4 : decode cX10_feed 4 = .ok (.getfield 171, 3) := by decide +kernel
theorem dX10_feed_7 : decode cX10_feed 7 = .ok (.bipush 20, 2) := by decide +kernel
theorem dX10_feed_9 : decode cX10_feed 9 = .ok (.iadd, 1) := by decide +kernel
theorem dX10_feed_10 : decode cX10_feed 10 = .ok (.sipush 400, 3) := by decide +kernel
theorem dX10_feed_13 : decode cX10_feed 13 = .ok (.if_icmp .le 5, 3) := by decide +kernel
theorem dX10_feed_16 : decode cX10_feed 16 = .ok (.iconst (-1), 1) := by decide +kernel
theorem dX10_feed_17 : decode cX10_feed 17 = .ok (.ireturn, 1) := by decide +kernel
theorem dX10_feed_18 : decode cX10_feed 18 = .ok (.aload_n 0, 1) := by decide +kernel
theorem dX10_feed_19 : decode cX10_feed 19 = .ok (.getfield 37, 3) := by decide +kernel
theorem dX10_feed_22 : decode cX10_feed 22 = .ok (.iload_n 1, 1) := by decide +kernel
theorem dX10_feed_23 : decode cX10_feed 23 = .ok (.invokevirtual 174, 3) := by decide +kernel
theorem dX10_feed_26 : decode cX10_feed 26 = .ok (.aload_n 0, 1) := by decide +kernel
theorem dX10_feed_27 : decode cX10_feed 27 = .ok (.getfield 37, 3) := by decide +kernel
theorem dX10_feed_30 : decode cX10_feed 30 = .ok (.iload_n 2, 1) := by decide +kernel
theorem dX10_feed_31 : decode cX10_feed 31 = .ok (.invokevirtual 174, 3) := by decide +kernel
theorem dX10_feed_34 : decode cX10_feed 34 = .ok (.aload_n 0, 1) := by decide +kernel
theorem dX10_feed_35 : decode cX10_feed 35 = .ok (.getfield 37, 3) := by decide +kernel
theorem dX10_feed_38 : decode cX10_feed 38 = .ok (.iload_n 3, 1) := by decide +kernel
theorem dX10_feed_39 : decode cX10_feed 39 = .ok (.invokevirtual 174, 3) := by decide +kernel
theorem dX10_feed_42 : decode cX10_feed 42 = .ok (.aload_n 0, 1) := by decide +kernel
theorem dX10_feed_43 : decode cX10_feed 43 = .ok (.getfield 37, 3) := by decide +kernel
theorem dX10_feed_46 : decode cX10_feed 46 = .ok (.iload 4, 2) := by decide +kernel
theorem dX10_feed_48 : decode cX10_feed 48 = .ok (.invokevirtual 174, 3) := by decide +kernel
theorem dX10_feed_51 : decode cX10_feed 51 = .ok (.aload_n 0, 1) := by decide +kernel
theorem dX10_feed_52 : decode cX10_feed 52 = .ok (.getfield 37, 3) := by decide +kernel
theorem dX10_feed_55 : decode cX10_feed 55 = .ok (.iload 5, 2) := by decide +kernel
theorem dX10_feed_57 : decode cX10_feed 57 = .ok (.invokevirtual 174, 3) := by decide +kernel
theorem dX10_feed_60 : decode cX10_feed 60 = .ok (.aload_n 0, 1) := by decide +kernel
theorem dX10_feed_61 : decode cX10_feed 61 = .ok (.getfield 37, 3) := by decide +kernel
theorem dX10_feed_64 : decode cX10_feed 64 = .ok (.getfield 171, 3) := by decide +kernel
theorem dX10_feed_67 : decode cX10_feed 67 = .ok (.ireturn, 1) := by decide +kernel
def D_X10_feed (h : z_H) (l0 : Option Nat) (l1 : Int32) (l2 : Int32) (l3 : Int32) (l4 : Int32) (l5 : Int32) : Option (Int32 × z_H) :=
  (z_gQ 10 h l0 5).bind fun x3976 =>
  (z_gI 5 h x3976 2).bind fun x3977 =>
  if (x3977 + (20:Int32)) ≤ (400:Int32) then
    (z_gQ 10 h l0 5).bind fun x3979 =>
    (z_ob 5 h x3979).bind fun _ =>
    (D_X5_put  h x3979 l1).bind fun p3980 =>
    (z_gQ 10 p3980 l0 5).bind fun x3982 =>
    (z_ob 5 p3980 x3982).bind fun _ =>
    (D_X5_put  p3980 x3982 l2).bind fun p3983 =>
    (z_gQ 10 p3983 l0 5).bind fun x3985 =>
    (z_ob 5 p3983 x3985).bind fun _ =>
    (D_X5_put  p3983 x3985 l3).bind fun p3986 =>
    (z_gQ 10 p3986 l0 5).bind fun x3988 =>
    (z_ob 5 p3986 x3988).bind fun _ =>
    (D_X5_put  p3986 x3988 l4).bind fun p3989 =>
    (z_gQ 10 p3989 l0 5).bind fun x3991 =>
    (z_ob 5 p3989 x3991).bind fun _ =>
    (D_X5_put  p3989 x3991 l5).bind fun p3992 =>
    (z_gQ 10 p3992 l0 5).bind fun x3994 =>
    (z_gI 5 p3992 x3994 2).bind fun x3995 =>
    some (x3995, p3992)
  else
    some ((-1:Int32), h)
set_option maxRecDepth 100000 in
set_option maxHeartbeats 4000000 in
theorem S_X10_feed {G : z_G} {l : Launch} {h : z_H} {l0 : Option Nat} {l1 : Int32} {l2 : Int32} {l3 : Int32} {l4 : Int32} {l5 : Int32} {res : (Int32 × z_H)} (e : D_X10_feed h l0 l1 l2 l3 l4 l5 = some res) : z_Meth G l 5 M_X10_feed [z_r l0, .int l1, .int l2, .int l3, .int l4, .int l5] h res.2 (some (.int res.1)) := by
  refine z_Meth.of ck_X10_feed.2.2.2.2 (by simp [lg_sl, z_ci, z_cj, z_cr, z_cx]) ck_X10_feed.1 ?_
  rw [show lv_args 0 [z_r l0, .int l1, .int l2, .int l3, .int l4, .int l5] = [(0, z_r l0), (1, .int l1), (2, .int l2), (3, .int l3), (4, .int l4), (5, .int l5)] from by simp [lv_args, z_ci, z_cj, z_cr, z_cx]]
  unfold D_X10_feed at e
  refine z_aload_n 0 dX10_feed_0 rfl ?_
  replace e := z_bd e; obtain ⟨x3976, ex3976, e⟩ := e
  refine z_getQ ex3976 lk_X10_37 dX10_feed_1 ?_
  replace e := z_bd e; obtain ⟨x3977, ex3977, e⟩ := e
  refine z_getI ex3977 lk_X10_171 dX10_feed_4 ?_
  refine z_bipush (v := 20) dX10_feed_7 (by decide) ?_
  refine z_iadd dX10_feed_9 ?_
  refine z_sipush (v := 400) dX10_feed_10 (by decide) ?_
  refine z_icmp_le (tgt := 18) dX10_feed_13 (by decide) (fun c3978 => ?_) (fun c3978 => ?_)
  · rw [if_pos c3978] at e
    refine z_aload_n 0 dX10_feed_18 rfl ?_
    replace e := z_bd e; obtain ⟨x3979, ex3979, e⟩ := e
    refine z_getQ ex3979 lk_X10_37 dX10_feed_19 ?_
    refine z_iload_n 1 dX10_feed_22 rfl ?_
    replace e := z_bd e; obtain ⟨o3981, eo3981, e⟩ := e
    replace e := z_bd e; obtain ⟨p3980, ep3980, e⟩ := e
    refine z_cV [.int l1] (S_X5_put  ep3980) eo3981 rfl ml_X10_174 ck_X5_put vk_X5_put dX10_feed_23 (by decide) rfl (Nat.zero_le _) rfl ?_
    refine z_aload_n 0 dX10_feed_26 rfl ?_
    replace e := z_bd e; obtain ⟨x3982, ex3982, e⟩ := e
    refine z_getQ ex3982 lk_X10_37 dX10_feed_27 ?_
    refine z_iload_n 2 dX10_feed_30 rfl ?_
    replace e := z_bd e; obtain ⟨o3984, eo3984, e⟩ := e
    replace e := z_bd e; obtain ⟨p3983, ep3983, e⟩ := e
    refine z_cV [.int l2] (S_X5_put  ep3983) eo3984 rfl ml_X10_174 ck_X5_put vk_X5_put dX10_feed_31 (by decide) rfl (Nat.zero_le _) rfl ?_
    refine z_aload_n 0 dX10_feed_34 rfl ?_
    replace e := z_bd e; obtain ⟨x3985, ex3985, e⟩ := e
    refine z_getQ ex3985 lk_X10_37 dX10_feed_35 ?_
    refine z_iload_n 3 dX10_feed_38 rfl ?_
    replace e := z_bd e; obtain ⟨o3987, eo3987, e⟩ := e
    replace e := z_bd e; obtain ⟨p3986, ep3986, e⟩ := e
    refine z_cV [.int l3] (S_X5_put  ep3986) eo3987 rfl ml_X10_174 ck_X5_put vk_X5_put dX10_feed_39 (by decide) rfl (Nat.zero_le _) rfl ?_
    refine z_aload_n 0 dX10_feed_42 rfl ?_
    replace e := z_bd e; obtain ⟨x3988, ex3988, e⟩ := e
    refine z_getQ ex3988 lk_X10_37 dX10_feed_43 ?_
    refine z_iload 4 dX10_feed_46 rfl ?_
    replace e := z_bd e; obtain ⟨o3990, eo3990, e⟩ := e
    replace e := z_bd e; obtain ⟨p3989, ep3989, e⟩ := e
    refine z_cV [.int l4] (S_X5_put  ep3989) eo3990 rfl ml_X10_174 ck_X5_put vk_X5_put dX10_feed_48 (by decide) rfl (Nat.zero_le _) rfl ?_
    refine z_aload_n 0 dX10_feed_51 rfl ?_
    replace e := z_bd e; obtain ⟨x3991, ex3991, e⟩ := e
    refine z_getQ ex3991 lk_X10_37 dX10_feed_52 ?_
    refine z_iload 5 dX10_feed_55 rfl ?_
    replace e := z_bd e; obtain ⟨o3993, eo3993, e⟩ := e
    replace e := z_bd e; obtain ⟨p3992, ep3992, e⟩ := e
    refine z_cV [.int l5] (S_X5_put  ep3992) eo3993 rfl ml_X10_174 ck_X5_put vk_X5_put dX10_feed_57 (by decide) rfl (Nat.zero_le _) rfl ?_
    refine z_aload_n 0 dX10_feed_60 rfl ?_
    replace e := z_bd e; obtain ⟨x3994, ex3994, e⟩ := e
    refine z_getQ ex3994 lk_X10_37 dX10_feed_61 ?_
    replace e := z_bd e; obtain ⟨x3995, ex3995, e⟩ := e
    refine z_getI ex3995 lk_X10_171 dX10_feed_64 ?_
    cases e
    exact z_iret dX10_feed_67 rfl
  · rw [if_neg c3978] at e
    refine z_iconst (v := -1) dX10_feed_16 (by decide) ?_
    cases e
    exact z_iret dX10_feed_17 rfl
theorem dX11_four_0 : decode cX11_four 0 = .ok (.bipush 24, 2) := by decide +kernel
theorem dX11_four_2 : decode cX11_four 2 = .ok (.istore_n 2, 1) := by decide +kernel
theorem dX11_four_3 : decode cX11_four 3 = .ok (.iload_n 2, 1) := by decide +kernel
theorem dX11_four_4 : decode cX11_four 4 = .ok (.ifCond .lt 35, 3) := by decide +kernel
theorem dX11_four_7 : decode cX11_four 7 = .ok (.aload_n 0, 1) := by decide +kernel
theorem dX11_four_8 : decode cX11_four 8 = .ok (.getfield 35, 3) := by decide +kernel
theorem dX11_four_11 : decode cX11_four 11 = .ok (.aload_n 0, 1) := by decide +kernel
theorem dX11_four_12 : decode cX11_four 12 = .ok (.getfield 239, 3) := by decide +kernel
theorem dX11_four_15 : decode cX11_four 15 = .ok (.iload_n 1, 1) := by decide +kernel
theorem dX11_four_16 : decode cX11_four 16 = .ok (.iload_n 2, 1) := by decide +kernel
theorem dX11_four_17 : decode cX11_four 17 = .ok (.ishr, 1) := by decide +kernel
theorem dX11_four_18 : decode cX11_four 18 = .ok (.sipush 255, 3) := by decide +kernel
theorem dX11_four_21 : decode cX11_four 21 = .ok (.iand, 1) := by decide +kernel
theorem dX11_four_22 : decode cX11_four 22 = .ok (.iastore, 1) := by decide +kernel
theorem dX11_four_23 : decode cX11_four 23 = .ok (.aload_n 0, 1) := by decide +kernel
theorem dX11_four_24 : decode cX11_four 24 = .ok (.dup, 1) := by decide +kernel
theorem dX11_four_25 : decode cX11_four 25 = .ok (.getfield 239, 3) := by decide +kernel
theorem dX11_four_28 : decode cX11_four 28 = .ok (.iconst 1, 1) := by decide +kernel
theorem dX11_four_29 : decode cX11_four 29 = .ok (.iadd, 1) := by decide +kernel
theorem dX11_four_30 : decode cX11_four 30 = .ok (.putfield 239, 3) := by decide +kernel
theorem dX11_four_33 : decode cX11_four 33 = .ok (.iinc 2 (-8), 3) := by decide +kernel
theorem dX11_four_36 : decode cX11_four 36 = .ok (.goto (-33), 3) := by decide +kernel
theorem dX11_four_39 : decode cX11_four 39 = .ok (.return_, 1) := by decide +kernel
def D_X11_four_3b (k3 : z_H → Option Nat → Int32 → Int32 → Option z_H) (h : z_H) (l0 : Option Nat) (l1 : Int32) (l2 : Int32) : Option z_H :=
  if l2 < 0 then
    some h
  else
    (z_gQ 11 h l0 12).bind fun x3997 =>
    (z_gI 11 h l0 13).bind fun x3998 =>
    (z_sI h x3997 x3998 ((l1 >>> (l2 &&& 31)) &&& (255:Int32))).bind fun h3999 =>
    (z_gI 11 h3999 l0 13).bind fun x4000 =>
    (z_pV 11 h3999 l0 13 (.int (x4000 + (1:Int32)))).bind fun h4001 =>
    (some (l2 + (-8:Int32))).bind fun x4002 =>
    k3 h4001 l0 l1 x4002
def D_X11_four_3 (n : Nat) : z_H → Option Nat → Int32 → Int32 → Option z_H := Nat.rec (motive := fun _ => z_H → Option Nat → Int32 → Int32 → Option z_H) (fun _ _ _ _ => none) (fun _ k => D_X11_four_3b  k) n
set_option maxRecDepth 100000 in
set_option maxHeartbeats 4000000 in
theorem S_X11_four_3 {G : z_G} {l : Launch}  (n : Nat) : ∀ {h : z_H} {l0 : Option Nat} {l1 : Int32} {l2 : Int32} {res : z_H}, D_X11_four_3  n h l0 l1 l2 = some res → z_Run G l 4 M_X11_four 3 [(0, z_r l0), (1, .int l1), (2, .int l2)] [] h res none := by
  induction n with
  | zero => intro h l0 l1 l2 res e; cases e
  | succ n hk3 =>
    intro h l0 l1 l2 res e
    replace e : D_X11_four_3b  (D_X11_four_3  n) h l0 l1 l2 = some res := e
    unfold D_X11_four_3b at e
    refine z_iload_n 2 dX11_four_3 rfl ?_
    refine z_if_lt (tgt := 39) dX11_four_4 (by decide) (fun c3996 => ?_) (fun c3996 => ?_)
    · rw [if_pos c3996] at e
      cases e
      exact z_vret dX11_four_39 rfl
    · rw [if_neg c3996] at e
      refine z_aload_n 0 dX11_four_7 rfl ?_
      replace e := z_bd e; obtain ⟨x3997, ex3997, e⟩ := e
      refine z_getQ ex3997 lk_X11_35 dX11_four_8 ?_
      refine z_aload_n 0 dX11_four_11 rfl ?_
      replace e := z_bd e; obtain ⟨x3998, ex3998, e⟩ := e
      refine z_getI ex3998 lk_X11_239 dX11_four_12 ?_
      refine z_iload_n 1 dX11_four_15 rfl ?_
      refine z_iload_n 2 dX11_four_16 rfl ?_
      refine z_ishr dX11_four_17 ?_
      refine z_sipush (v := 255) dX11_four_18 (by decide) ?_
      refine z_iand dX11_four_21 ?_
      replace e := z_bd e; obtain ⟨h3999, eh3999, e⟩ := e
      refine z_iast eh3999 dX11_four_22 ?_
      refine z_aload_n 0 dX11_four_23 rfl ?_
      refine z_dup dX11_four_24 (z_cr _) ?_
      replace e := z_bd e; obtain ⟨x4000, ex4000, e⟩ := e
      refine z_getI ex4000 lk_X11_239 dX11_four_25 ?_
      refine z_iconst (v := 1) dX11_four_28 (by decide) ?_
      refine z_iadd dX11_four_29 ?_
      replace e := z_bd e; obtain ⟨h4001, eh4001, e⟩ := e
      refine z_putV eh4001 lk_X11_239 wk_11_13 (fun _ => rfl) (fun _ => rfl) dX11_four_30 ?_
      replace e := z_bd e; obtain ⟨x4002, ex4002, e⟩ := e
      refine z_iinc (q := 2) (v := x4002) (L' := [(2, .int x4002), (0, z_r l0), (1, .int l1)]) dX11_four_33 rfl (Option.some.inj ex4002) (by decide) rfl ?_
      refine z_goto (tgt := 3) dX11_four_36 (by decide) ?_
      exact z_weak [1, 2, 0] rfl (hk3 e)
def D_X11_four (h : z_H) (l0 : Option Nat) (l1 : Int32) : Option z_H :=
  D_X11_four_3   z_F h l0 l1 (24:Int32)
set_option maxRecDepth 100000 in
set_option maxHeartbeats 4000000 in
theorem S_X11_four {G : z_G} {l : Launch} {h : z_H} {l0 : Option Nat} {l1 : Int32} {res : z_H} (e : D_X11_four h l0 l1 = some res) : z_Meth G l 4 M_X11_four [z_r l0, .int l1] h res none := by
  refine z_Meth.of ck_X11_four.2.2.2.2 (by simp [lg_sl, z_ci, z_cj, z_cr, z_cx]) ck_X11_four.1 ?_
  rw [show lv_args 0 [z_r l0, .int l1] = [(0, z_r l0), (1, .int l1)] from by simp [lv_args, z_ci, z_cj, z_cr, z_cx]]
  unfold D_X11_four at e
  refine z_bipush (v := 24) dX11_four_0 (by decide) ?_
  refine z_istore_n (L' := [(2, .int (24:Int32)), (0, z_r l0), (1, .int l1)]) dX11_four_2 rfl (by decide) rfl ?_
  exact z_weak [1, 2, 0] rfl (S_X11_four_3   z_F e)
theorem dX11_feed_0 : decode cX11_feed 0 = .ok (.aload_n 0, 1) := by decide +kernel
theorem dX11_feed_1 : decode cX11_feed 1 = .ok (.iconst 0, 1) := by decide +kernel
theorem dX11_feed_2 : decode cX11_feed 2 = .ok (.putfield 166, 3) := by decide +kernel
theorem dX11_feed_5 : decode cX11_feed 5 = .ok (.aload_n 0, 1) := by decide +kernel
theorem dX11_feed_6 : decode cX11_feed 6 = .ok (.getfield 239, 3) := by decide +kernel
theorem dX11_feed_9 : decode cX11_feed 9 = .ok (.bipush 20, 2) := by decide +kernel
theorem dX11_feed_11 : decode cX11_feed 11 = .ok (.iadd, 1) := by decide +kernel
theorem dX11_feed_12 : decode cX11_feed 12 = .ok (.sipush 400, 3) := by decide +kernel
theorem dX11_feed_15 : decode cX11_feed 15 = .ok (.if_icmp .le 5, 3) := by decide +kernel
theorem dX11_feed_18 : decode cX11_feed 18 = .ok (.iconst (-1), 1) := by decide +kernel
theorem dX11_feed_19 : decode cX11_feed 19 = .ok (.ireturn, 1) := by decide +kernel
theorem dX11_feed_20 : decode cX11_feed 20 = .ok (.aload_n 0, 1) := by decide +kernel
theorem dX11_feed_21 : decode cX11_feed 21 = .ok (.iload_n 1, 1) := by decide +kernel
theorem dX11_feed_22 : decode cX11_feed 22 = .ok (.invokevirtual 245, 3) := by decide +kernel
theorem dX11_feed_25 : decode cX11_feed 25 = .ok (.aload_n 0, 1) := by decide +kernel
theorem dX11_feed_26 : decode cX11_feed 26 = .ok (.iload_n 2, 1) := by decide +kernel
theorem dX11_feed_27 : decode cX11_feed 27 = .ok (.invokevirtual 245, 3) := by decide +kernel
theorem dX11_feed_30 : decode cX11_feed 30 = .ok (.aload_n 0, 1) := by decide +kernel
theorem dX11_feed_31 : decode cX11_feed 31 = .ok (.iload_n 3, 1) := by decide +kernel
theorem dX11_feed_32 : decode cX11_feed 32 = .ok (.invokevirtual 245, 3) := by decide +kernel
theorem dX11_feed_35 : decode cX11_feed 35 = .ok (.aload_n 0, 1) := by decide +kernel
theorem dX11_feed_36 : decode cX11_feed 36 = .ok (.iload 4, 2) := by decide +kernel
theorem dX11_feed_38 : decode cX11_feed 38 = .ok (.invokevirtual 245, 3) := by decide +kernel
theorem dX11_feed_41 : decode cX11_feed 41 = .ok (.aload_n 0, 1) := by decide +kernel
theorem dX11_feed_42 : decode cX11_feed 42 = .ok (.iload 5, 2) := by decide +kernel
theorem dX11_feed_44 : decode cX11_feed 44 = .ok (.invokevirtual 245, 3) := by decide +kernel
theorem dX11_feed_47 : decode cX11_feed 47 = .ok (.aload_n 0, 1) := by decide +kernel
theorem dX11_feed_48 : decode cX11_feed 48 = .ok (.getfield 239, 3) := by decide +kernel
theorem dX11_feed_51 : decode cX11_feed 51 = .ok (.ireturn, 1) := by decide +kernel
def D_X11_feed (h : z_H) (l0 : Option Nat) (l1 : Int32) (l2 : Int32) (l3 : Int32) (l4 : Int32) (l5 : Int32) : Option (Int32 × z_H) :=
  (z_pV 11 h l0 0 (.int (0:Int32))).bind fun h4003 =>
  (z_gI 11 h4003 l0 13).bind fun x4004 =>
  if (x4004 + (20:Int32)) ≤ (400:Int32) then
    (z_ob 11 h4003 l0).bind fun _ =>
    (D_X11_four  h4003 l0 l1).bind fun p4006 =>
    (z_ob 11 p4006 l0).bind fun _ =>
    (D_X11_four  p4006 l0 l2).bind fun p4008 =>
    (z_ob 11 p4008 l0).bind fun _ =>
    (D_X11_four  p4008 l0 l3).bind fun p4010 =>
    (z_ob 11 p4010 l0).bind fun _ =>
    (D_X11_four  p4010 l0 l4).bind fun p4012 =>
    (z_ob 11 p4012 l0).bind fun _ =>
    (D_X11_four  p4012 l0 l5).bind fun p4014 =>
    (z_gI 11 p4014 l0 13).bind fun x4016 =>
    some (x4016, p4014)
  else
    some ((-1:Int32), h4003)
set_option maxRecDepth 100000 in
set_option maxHeartbeats 4000000 in
theorem S_X11_feed {G : z_G} {l : Launch} {h : z_H} {l0 : Option Nat} {l1 : Int32} {l2 : Int32} {l3 : Int32} {l4 : Int32} {l5 : Int32} {res : (Int32 × z_H)} (e : D_X11_feed h l0 l1 l2 l3 l4 l5 = some res) : z_Meth G l 5 M_X11_feed [z_r l0, .int l1, .int l2, .int l3, .int l4, .int l5] h res.2 (some (.int res.1)) := by
  refine z_Meth.of ck_X11_feed.2.2.2.2 (by simp [lg_sl, z_ci, z_cj, z_cr, z_cx]) ck_X11_feed.1 ?_
  rw [show lv_args 0 [z_r l0, .int l1, .int l2, .int l3, .int l4, .int l5] = [(0, z_r l0), (1, .int l1), (2, .int l2), (3, .int l3), (4, .int l4), (5, .int l5)] from by simp [lv_args, z_ci, z_cj, z_cr, z_cx]]
  unfold D_X11_feed at e
  refine z_aload_n 0 dX11_feed_0 rfl ?_
  refine z_iconst (v := 0) dX11_feed_1 (by decide) ?_
  replace e := z_bd e; obtain ⟨h4003, eh4003, e⟩ := e
  refine z_putV eh4003 lk_X11_166 wk_11_0 (fun _ => rfl) (fun _ => rfl) dX11_feed_2 ?_
  refine z_aload_n 0 dX11_feed_5 rfl ?_
  replace e := z_bd e; obtain ⟨x4004, ex4004, e⟩ := e
  refine z_getI ex4004 lk_X11_239 dX11_feed_6 ?_
  refine z_bipush (v := 20) dX11_feed_9 (by decide) ?_
  refine z_iadd dX11_feed_11 ?_
  refine z_sipush (v := 400) dX11_feed_12 (by decide) ?_
  refine z_icmp_le (tgt := 20) dX11_feed_15 (by decide) (fun c4005 => ?_) (fun c4005 => ?_)
  · rw [if_pos c4005] at e
    refine z_aload_n 0 dX11_feed_20 rfl ?_
    refine z_iload_n 1 dX11_feed_21 rfl ?_
    replace e := z_bd e; obtain ⟨o4007, eo4007, e⟩ := e
    replace e := z_bd e; obtain ⟨p4006, ep4006, e⟩ := e
    refine z_cV [.int l1] (S_X11_four  ep4006) eo4007 rfl ml_X11_245 ck_X11_four vk_X11_four dX11_feed_22 (by decide) rfl (Nat.zero_le _) rfl ?_
    refine z_aload_n 0 dX11_feed_25 rfl ?_
    refine z_iload_n 2 dX11_feed_26 rfl ?_
    replace e := z_bd e; obtain ⟨o4009, eo4009, e⟩ := e
    replace e := z_bd e; obtain ⟨p4008, ep4008, e⟩ := e
    refine z_cV [.int l2] (S_X11_four  ep4008) eo4009 rfl ml_X11_245 ck_X11_four vk_X11_four dX11_feed_27 (by decide) rfl (Nat.zero_le _) rfl ?_
    refine z_aload_n 0 dX11_feed_30 rfl ?_
    refine z_iload_n 3 dX11_feed_31 rfl ?_
    replace e := z_bd e; obtain ⟨o4011, eo4011, e⟩ := e
    replace e := z_bd e; obtain ⟨p4010, ep4010, e⟩ := e
    refine z_cV [.int l3] (S_X11_four  ep4010) eo4011 rfl ml_X11_245 ck_X11_four vk_X11_four dX11_feed_32 (by decide) rfl (Nat.zero_le _) rfl ?_
    refine z_aload_n 0 dX11_feed_35 rfl ?_
    refine z_iload 4 dX11_feed_36 rfl ?_
    replace e := z_bd e; obtain ⟨o4013, eo4013, e⟩ := e
    replace e := z_bd e; obtain ⟨p4012, ep4012, e⟩ := e
    refine z_cV [.int l4] (S_X11_four  ep4012) eo4013 rfl ml_X11_245 ck_X11_four vk_X11_four dX11_feed_38 (by decide) rfl (Nat.zero_le _) rfl ?_
    refine z_aload_n 0 dX11_feed_41 rfl ?_
    refine z_iload 5 dX11_feed_42 rfl ?_
    replace e := z_bd e; obtain ⟨o4015, eo4015, e⟩ := e
    replace e := z_bd e; obtain ⟨p4014, ep4014, e⟩ := e
    refine z_cV [.int l5] (S_X11_four  ep4014) eo4015 rfl ml_X11_245 ck_X11_four vk_X11_four dX11_feed_44 (by decide) rfl (Nat.zero_le _) rfl ?_
    refine z_aload_n 0 dX11_feed_47 rfl ?_
    replace e := z_bd e; obtain ⟨x4016, ex4016, e⟩ := e
    refine z_getI ex4016 lk_X11_239 dX11_feed_48 ?_
    cases e
    exact z_iret dX11_feed_51 rfl
  · rw [if_neg c4005] at e
    refine z_iconst (v := -1) dX11_feed_18 (by decide) ?_
    cases e
    exact z_iret dX11_feed_19 rfl
theorem dX10_terms_0 : decode cX10_terms 0 = .ok (.iload_n 1, 1) := by decide +kernel
theorem dX10_terms_1 : decode cX10_terms 1 = .ok (.ifCond .lt 24, 3) := by decide +kernel
theorem dX10_terms_4 : decode cX10_terms 4 = .ok (.iload_n 1, 1) := by decide +kernel
theorem dX10_terms_5 : decode cX10_terms 5 = .ok (.getstatic 165, 3) := by decide +kernel
theorem dX10_terms_8 : decode cX10_terms 8 = .ok (.arraylength, 1) := by decide +kernel
theorem dX10_terms_9 : decode cX10_terms 9 = .ok (.if_icmp .ge 16, 3) := by decide +kernel
theorem dX10_terms_12 : decode cX10_terms 12 = .ok (.iload_n 2, 1) := by decide +kernel
theorem dX10_terms_13 : decode cX10_terms 13 = .ok (.ifCond .lt 12, 3) := by decide +kernel
theorem dX10_terms_16 : decode cX10_terms 16 = .ok (.iload_n 2, 1) := by decide +kernel
theorem dX10_terms_17 : decode cX10_terms 17 = .ok (.getstatic 165, 3) := by decide +kernel
theorem dX10_terms_20 : decode cX10_terms 20 = .ok (.iload_n 1, 1) := by decide +kernel
theorem dX10_terms_21 : decode cX10_terms 21 = .ok (.iaload, 1) := by decide +kernel
theorem dX10_terms_22 : decode cX10_terms 22 = .ok (.if_icmp .le 9, 3) := by decide +kernel
theorem dX10_terms_25 : decode cX10_terms 25 = .ok (.aload_n 0, 1) := by decide +kernel
theorem dX10_terms_26 : decode cX10_terms 26 = .ok (.iconst (-1), 1) := by decide +kernel
theorem dX10_terms_27 : decode cX10_terms 27 = .ok (.invokevirtual 104, 3) := by decide +kernel
theorem dX10_terms_30 : decode cX10_terms 30 = .ok (.ireturn, 1) := by decide +kernel
theorem dX10_terms_31 : decode cX10_terms 31 = .ok (.aload_n 0, 1) := by decide +kernel
theorem dX10_terms_32 : decode cX10_terms 32 = .ok (.getfield 12, 3) := by decide +kernel
theorem dX10_terms_35 : decode cX10_terms 35 = .ok (.getfield 168, 3) := by decide +kernel
theorem dX10_terms_38 : decode cX10_terms 38 = .ok (.iload_n 1, 1) := by decide +kernel
theorem dX10_terms_39 : decode cX10_terms 39 = .ok (.iaload, 1) := by decide +kernel
theorem dX10_terms_40 : decode cX10_terms 40 = .ok (.istore_n 3, 1) := by decide +kernel
theorem dX10_terms_41 : decode cX10_terms 41 = .ok (.aload_n 0, 1) := by decide +kernel
theorem dX10_terms_42 : decode cX10_terms 42 = .ok (.getfield 12, 3) := by decide +kernel
theorem dX10_terms_45 : decode cX10_terms 45 = .ok (.getfield 168, 3) := by decide +kernel
theorem dX10_terms_48 : decode cX10_terms 48 = .ok (.iload_n 1, 1) := by decide +kernel
theorem dX10_terms_49 : decode cX10_terms 49 = .ok (.iload_n 2, 1) := by decide +kernel
theorem dX10_terms_50 : decode cX10_terms 50 = .ok (.iastore, 1) := by decide +kernel
theorem dX10_terms_51 : decode cX10_terms 51 = .ok (.aload_n 0, 1) := by decide +kernel
theorem dX10_terms_52 : decode cX10_terms 52 = .ok (.getfield 30, 3) := by decide +kernel
theorem dX10_terms_55 : decode cX10_terms 55 = .ok (.iconst 0, 1) := by decide +kernel
theorem dX10_terms_56 : decode cX10_terms 56 = .ok (.putfield 115, 3) := by decide +kernel
theorem dX10_terms_59 : decode cX10_terms 59 = .ok (.aload_n 0, 1) := by decide +kernel
theorem dX10_terms_60 : decode cX10_terms 60 = .ok (.iload_n 3, 1) := by decide +kernel
theorem dX10_terms_61 : decode cX10_terms 61 = .ok (.invokevirtual 118, 3) := by decide +kernel
theorem dX10_terms_64 : decode cX10_terms 64 = .ok (.ireturn, 1) := by decide +kernel
def D_X10_terms_25 (h : z_H) (l0 : Option Nat) : Option (Int32 × z_H) :=
  (z_ob 10 h l0).bind fun _ =>
  (D_X10_refuse  h l0 (-1:Int32)).bind fun p4017 =>
  some (p4017.1, p4017.2)
set_option maxRecDepth 100000 in
set_option maxHeartbeats 4000000 in
theorem S_X10_terms_25 {G : z_G} {l : Launch}  {h : z_H} {l0 : Option Nat} {res : (Int32 × z_H)} (e : D_X10_terms_25  h l0 = some res) : z_Run G l 5 M_X10_terms 25 [(0, z_r l0)] [] h res.2 (some (.int res.1)) := by
  unfold D_X10_terms_25 at e
  refine z_aload_n 0 dX10_terms_25 rfl ?_
  refine z_iconst (v := -1) dX10_terms_26 (by decide) ?_
  replace e := z_bd e; obtain ⟨o4018, eo4018, e⟩ := e
  replace e := z_bd e; obtain ⟨p4017, ep4017, e⟩ := e
  refine z_cV [.int (-1:Int32)] (S_X10_refuse  ep4017) eo4018 rfl ml_X10_104 ck_X10_refuse vk_X10_refuse dX10_terms_27 (by decide) rfl (Nat.zero_le _) rfl ?_
  cases e
  exact z_iret dX10_terms_30 rfl
def D_X10_terms (h : z_H) (l0 : Option Nat) (l1 : Int32) (l2 : Int32) : Option (Int32 × z_H) :=
  if l1 < 0 then
    D_X10_terms_25   h l0
  else
    if (Int32.ofNat (z_xs 1).1) ≤ l1 then
      D_X10_terms_25   h l0
    else
      if l2 < 0 then
        D_X10_terms_25   h l0
      else
        (z_xI (z_xs 1) l1).bind fun x4022 =>
        if l2 ≤ x4022 then
          (z_gQ 10 h l0 0).bind fun x4024 =>
          (z_gQ 9 h x4024 4).bind fun x4025 =>
          (z_aI .int h x4025 l1).bind fun x4026 =>
          (z_gQ 10 h l0 0).bind fun x4027 =>
          (z_gQ 9 h x4027 4).bind fun x4028 =>
          (z_sI h x4028 l1 l2).bind fun h4029 =>
          (z_gQ 10 h4029 l0 4).bind fun x4030 =>
          (z_pV 8 h4029 x4030 1 (.int (0:Int32))).bind fun h4031 =>
          (z_ob 10 h4031 l0).bind fun _ =>
          (D_X10_grant  h4031 l0 x4026).bind fun p4032 =>
          some (p4032.1, p4032.2)
        else
          D_X10_terms_25   h l0
set_option maxRecDepth 100000 in
set_option maxHeartbeats 4000000 in
theorem S_X10_terms {G : z_G} {l : Launch} {h : z_H} {l0 : Option Nat} {l1 : Int32} {l2 : Int32} {res : (Int32 × z_H)} (e : D_X10_terms h l0 l1 l2 = some res) : z_Meth G l 5 M_X10_terms [z_r l0, .int l1, .int l2] h res.2 (some (.int res.1)) := by
  refine z_Meth.of ck_X10_terms.2.2.2.2 (by simp [lg_sl, z_ci, z_cj, z_cr, z_cx]) ck_X10_terms.1 ?_
  rw [show lv_args 0 [z_r l0, .int l1, .int l2] = [(0, z_r l0), (1, .int l1), (2, .int l2)] from by simp [lv_args, z_ci, z_cj, z_cr, z_cx]]
  unfold D_X10_terms at e
  refine z_iload_n 1 dX10_terms_0 rfl ?_
  refine z_if_lt (tgt := 25) dX10_terms_1 (by decide) (fun c4019 => ?_) (fun c4019 => ?_)
  · rw [if_pos c4019] at e
    exact z_weak [0] rfl (S_X10_terms_25   e)
  · rw [if_neg c4019] at e
    refine z_iload_n 1 dX10_terms_4 rfl ?_
    refine z_gets (q := (1, "TERM_MOST", 0)) (by decide) gs_X10_165 dX10_terms_5 ?_
    refine z_xlen (p0 := (z_xs 1)) rfl dX10_terms_8 ?_
    refine z_icmp_ge (tgt := 25) dX10_terms_9 (by decide) (fun c4020 => ?_) (fun c4020 => ?_)
    · rw [if_pos c4020] at e
      exact z_weak [0] rfl (S_X10_terms_25   e)
    · rw [if_neg c4020] at e
      refine z_iload_n 2 dX10_terms_12 rfl ?_
      refine z_if_lt (tgt := 25) dX10_terms_13 (by decide) (fun c4021 => ?_) (fun c4021 => ?_)
      · rw [if_pos c4021] at e
        exact z_weak [0] rfl (S_X10_terms_25   e)
      · rw [if_neg c4021] at e
        refine z_iload_n 2 dX10_terms_16 rfl ?_
        refine z_gets (q := (1, "TERM_MOST", 0)) (by decide) gs_X10_165 dX10_terms_17 ?_
        refine z_iload_n 1 dX10_terms_20 rfl ?_
        replace e := z_bd e; obtain ⟨x4022, ex4022, e⟩ := e
        refine z_xald (p0 := z_xs 1) rfl ex4022 dX10_terms_21 ?_
        refine z_icmp_le (tgt := 31) dX10_terms_22 (by decide) (fun c4023 => ?_) (fun c4023 => ?_)
        · rw [if_pos c4023] at e
          refine z_aload_n 0 dX10_terms_31 rfl ?_
          replace e := z_bd e; obtain ⟨x4024, ex4024, e⟩ := e
          refine z_getQ ex4024 lk_X10_12 dX10_terms_32 ?_
          replace e := z_bd e; obtain ⟨x4025, ex4025, e⟩ := e
          refine z_getQ ex4025 lk_X10_168 dX10_terms_35 ?_
          refine z_iload_n 1 dX10_terms_38 rfl ?_
          replace e := z_bd e; obtain ⟨x4026, ex4026, e⟩ := e
          refine z_iald ex4026 dX10_terms_39 ?_
          refine z_istore_n (L' := [(3, .int x4026), (0, z_r l0), (1, .int l1), (2, .int l2)]) dX10_terms_40 rfl (by decide) rfl ?_
          refine z_aload_n 1 dX10_terms_41 rfl ?_
          replace e := z_bd e; obtain ⟨x4027, ex4027, e⟩ := e
          refine z_getQ ex4027 lk_X10_12 dX10_terms_42 ?_
          replace e := z_bd e; obtain ⟨x4028, ex4028, e⟩ := e
          refine z_getQ ex4028 lk_X10_168 dX10_terms_45 ?_
          refine z_iload_n 2 dX10_terms_48 rfl ?_
          refine z_iload_n 3 dX10_terms_49 rfl ?_
          replace e := z_bd e; obtain ⟨h4029, eh4029, e⟩ := e
          refine z_iast eh4029 dX10_terms_50 ?_
          refine z_aload_n 1 dX10_terms_51 rfl ?_
          replace e := z_bd e; obtain ⟨x4030, ex4030, e⟩ := e
          refine z_getQ ex4030 lk_X10_30 dX10_terms_52 ?_
          refine z_iconst (v := 0) dX10_terms_55 (by decide) ?_
          replace e := z_bd e; obtain ⟨h4031, eh4031, e⟩ := e
          refine z_putV eh4031 lk_X10_115 wk_8_1 (fun _ => rfl) (fun _ => rfl) dX10_terms_56 ?_
          refine z_aload_n 1 dX10_terms_59 rfl ?_
          refine z_iload_n 0 dX10_terms_60 rfl ?_
          replace e := z_bd e; obtain ⟨o4033, eo4033, e⟩ := e
          replace e := z_bd e; obtain ⟨p4032, ep4032, e⟩ := e
          refine z_cV [.int x4026] (S_X10_grant  ep4032) eo4033 rfl ml_X10_118 ck_X10_grant vk_X10_grant dX10_terms_61 (by decide) rfl (Nat.zero_le _) rfl ?_
          cases e
          exact z_iret dX10_terms_64 rfl
        · rw [if_neg c4023] at e
          exact z_weak [0] rfl (S_X10_terms_25   e)
theorem dX11_terms_0 : decode cX11_terms 0 = .ok (.aload_n 0, 1) := by decide +kernel
theorem dX11_terms_1 : decode cX11_terms 1 = .ok (.iconst 0, 1) := by decide +kernel
theorem dX11_terms_2 : decode cX11_terms 2 = .ok (.putfield 166, 3) := by decide +kernel
theorem dX11_terms_5 : decode cX11_terms 5 = .ok (.iload_n 1, 1) := by decide +kernel
theorem dX11_terms_6 : decode cX11_terms 6 = .ok (.ifCond .ne 15, 3) := by decide +kernel
theorem dX11_terms_9 : decode cX11_terms 9 = .ok (.iload_n 2, 1) := by decide +kernel
theorem dX11_terms_10 : decode cX11_terms 10 = .ok (.i2l, 1) := by decide +kernel
theorem dX11_terms_11 : decode cX11_terms 11 = .ok (.lconst 0, 1) := by decide +kernel
theorem dX11_terms_12 : decode cX11_terms 12 = .ok (.ldc2_w 232, 3) := by decide +kernel
theorem dX11_terms_15 : decode cX11_terms 15 = .ok (.invokestatic 186, 3) := by decide +kernel
theorem dX11_terms_18 : decode cX11_terms 18 = .ok (.goto 42, 3) := by decide +kernel
theorem dX11_terms_21 : decode cX11_terms 21 = .ok (.iload_n 1, 1) := by decide +kernel
theorem dX11_terms_22 : decode cX11_terms 22 = .ok (.iconst 1, 1) := by decide +kernel
theorem dX11_terms_23 : decode cX11_terms 23 = .ok (.if_icmp .ne 15, 3) := by decide +kernel
theorem dX11_terms_26 : decode cX11_terms 26 = .ok (.iload_n 2, 1) := by decide +kernel
theorem dX11_terms_27 : decode cX11_terms 27 = .ok (.i2l, 1) := by decide +kernel
theorem dX11_terms_28 : decode cX11_terms 28 = .ok (.lconst 0, 1) := by decide +kernel
theorem dX11_terms_29 : decode cX11_terms 29 = .ok (.ldc2_w 234, 3) := by decide +kernel
theorem dX11_terms_32 : decode cX11_terms 32 = .ok (.invokestatic 186, 3) := by decide +kernel
theorem dX11_terms_35 : decode cX11_terms 35 = .ok (.goto 25, 3) := by decide +kernel
theorem dX11_terms_38 : decode cX11_terms 38 = .ok (.iload_n 1, 1) := by decide +kernel
theorem dX11_terms_39 : decode cX11_terms 39 = .ok (.iconst 2, 1) := by decide +kernel
theorem dX11_terms_40 : decode cX11_terms 40 = .ok (.if_icmp .ne 19, 3) := by decide +kernel
theorem dX11_terms_43 : decode cX11_terms 43 = .ok (.iload_n 2, 1) := by decide +kernel
theorem dX11_terms_44 : decode cX11_terms 44 = .ok (.i2l, 1) := by decide +kernel
theorem dX11_terms_45 : decode cX11_terms 45 = .ok (.lconst 0, 1) := by decide +kernel
theorem dX11_terms_46 : decode cX11_terms 46 = .ok (.ldc2_w 205, 3) := by decide +kernel
theorem dX11_terms_49 : decode cX11_terms 49 = .ok (.invokestatic 186, 3) := by decide +kernel
theorem dX11_terms_52 : decode cX11_terms 52 = .ok (.ifCond .eq 7, 3) := by decide +kernel
theorem dX11_terms_55 : decode cX11_terms 55 = .ok (.iconst 1, 1) := by decide +kernel
theorem dX11_terms_56 : decode cX11_terms 56 = .ok (.goto 4, 3) := by decide +kernel
theorem dX11_terms_59 : decode cX11_terms 59 = .ok (.iconst 0, 1) := by decide +kernel
theorem dX11_terms_60 : decode cX11_terms 60 = .ok (.istore_n 3, 1) := by decide +kernel
theorem dX11_terms_61 : decode cX11_terms 61 = .ok (.iload_n 3, 1) := by decide +kernel
theorem dX11_terms_62 : decode cX11_terms 62 = .ok (.ifCond .ne 9, 3) := by decide +kernel
theorem dX11_terms_65 : decode cX11_terms 65 = .ok (.aload_n 0, 1) := by decide +kernel
theorem dX11_terms_66 : decode cX11_terms 66 = .ok (.iconst (-1), 1) := by decide +kernel
theorem dX11_terms_67 : decode cX11_terms 67 = .ok (.invokevirtual 175, 3) := by decide +kernel
theorem dX11_terms_70 : decode cX11_terms 70 = .ok (.ireturn, 1) := by decide +kernel
theorem dX11_terms_71 : decode cX11_terms 71 = .ok (.aload_n 0, 1) := by decide +kernel
theorem dX11_terms_72 : decode cX11_terms 72 = .ok (.iconst 0, 1) := by decide +kernel
theorem dX11_terms_73 : decode cX11_terms 73 = .ok (.putfield 172, 3) := by decide +kernel
theorem dX11_terms_76 : decode cX11_terms 76 = .ok (.aload_n 0, 1) := by decide +kernel
theorem dX11_terms_77 : decode cX11_terms 77 = .ok (.iconst 5, 1) := by decide +kernel
theorem dX11_terms_78 : decode cX11_terms 78 = .ok (.iload_n 1, 1) := by decide +kernel
theorem dX11_terms_79 : decode cX11_terms 79 = .ok (.iadd, 1) := by decide +kernel
theorem dX11_terms_80 : decode cX11_terms 80 = .ok (.iload_n 2, 1) := by decide +kernel
theorem dX11_terms_81 : decode cX11_terms 81 = .ok (.invokevirtual 236, 3) := by decide +kernel
theorem dX11_terms_84 : decode cX11_terms 84 = .ok (.ireturn, 1) := by decide +kernel
def D_X11_terms_60 (h : z_H) (l0 : Option Nat) (l1 : Int32) (l2 : Int32) (s0 : Int32) : Option (Int32 × z_H) :=
  if s0 = 0 then
    (z_ob 11 h l0).bind fun _ =>
    (D_X11_tell  h l0 (-1:Int32)).bind fun p4038 =>
    some (p4038.1, p4038.2)
  else
    (z_pV 11 h l0 8 (.int (0:Int32))).bind fun h4035 =>
    (z_ob 11 h4035 l0).bind fun _ =>
    (D_X11_change  h4035 l0 ((5:Int32) + l1) l2).bind fun p4036 =>
    some (p4036.1, p4036.2)
set_option maxRecDepth 100000 in
set_option maxHeartbeats 4000000 in
theorem S_X11_terms_60 {G : z_G} {l : Launch}  {h : z_H} {l0 : Option Nat} {l1 : Int32} {l2 : Int32} {s0 : Int32} {res : (Int32 × z_H)} (e : D_X11_terms_60  h l0 l1 l2 s0 = some res) : z_Run G l 5 M_X11_terms 60 [(0, z_r l0), (1, .int l1), (2, .int l2)] [.int s0] h res.2 (some (.int res.1)) := by
  unfold D_X11_terms_60 at e
  refine z_istore_n (L' := [(3, .int s0), (0, z_r l0), (1, .int l1), (2, .int l2)]) dX11_terms_60 rfl (by decide) rfl ?_
  refine z_iload_n 0 dX11_terms_61 rfl ?_
  refine z_if_ne (tgt := 71) dX11_terms_62 (by decide) (fun c4034 => ?_) (fun c4034 => ?_)
  · rw [if_neg c4034] at e
    refine z_aload_n 1 dX11_terms_71 rfl ?_
    refine z_iconst (v := 0) dX11_terms_72 (by decide) ?_
    replace e := z_bd e; obtain ⟨h4035, eh4035, e⟩ := e
    refine z_putV eh4035 lk_X11_172 wk_11_8 (fun _ => rfl) (fun _ => rfl) dX11_terms_73 ?_
    refine z_aload_n 1 dX11_terms_76 rfl ?_
    refine z_iconst (v := 5) dX11_terms_77 (by decide) ?_
    refine z_iload_n 2 dX11_terms_78 rfl ?_
    refine z_iadd dX11_terms_79 ?_
    refine z_iload_n 3 dX11_terms_80 rfl ?_
    replace e := z_bd e; obtain ⟨o4037, eo4037, e⟩ := e
    replace e := z_bd e; obtain ⟨p4036, ep4036, e⟩ := e
    refine z_cV [.int ((5:Int32) + l1), .int l2] (S_X11_change  ep4036) eo4037 rfl ml_X11_236 ck_X11_change vk_X11_change dX11_terms_81 (by decide) rfl (Nat.zero_le _) rfl ?_
    cases e
    exact z_iret dX11_terms_84 rfl
  · rw [if_pos c4034] at e
    refine z_aload_n 1 dX11_terms_65 rfl ?_
    refine z_iconst (v := -1) dX11_terms_66 (by decide) ?_
    replace e := z_bd e; obtain ⟨o4039, eo4039, e⟩ := e
    replace e := z_bd e; obtain ⟨p4038, ep4038, e⟩ := e
    refine z_cV [.int (-1:Int32)] (S_X11_tell  ep4038) eo4039 rfl ml_X11_175 ck_X11_tell vk_X11_tell dX11_terms_67 (by decide) rfl (Nat.zero_le _) rfl ?_
    cases e
    exact z_iret dX11_terms_70 rfl
def D_X11_terms_59 (h : z_H) (l0 : Option Nat) (l1 : Int32) (l2 : Int32) : Option (Int32 × z_H) :=
  D_X11_terms_60   h l0 l1 l2 (0:Int32)
set_option maxRecDepth 100000 in
set_option maxHeartbeats 4000000 in
theorem S_X11_terms_59 {G : z_G} {l : Launch}  {h : z_H} {l0 : Option Nat} {l1 : Int32} {l2 : Int32} {res : (Int32 × z_H)} (e : D_X11_terms_59  h l0 l1 l2 = some res) : z_Run G l 5 M_X11_terms 59 [(0, z_r l0), (1, .int l1), (2, .int l2)] [] h res.2 (some (.int res.1)) := by
  unfold D_X11_terms_59 at e
  refine z_iconst (v := 0) dX11_terms_59 (by decide) ?_
  exact z_weak [0, 1, 2] rfl (S_X11_terms_60   e)
def D_X11_terms (h : z_H) (l0 : Option Nat) (l1 : Int32) (l2 : Int32) : Option (Int32 × z_H) :=
  (z_pV 11 h l0 0 (.int (0:Int32))).bind fun h4040 =>
  if l1 = 0 then
    (D_X11_in  h4040 (Int32.toInt64 l2) (0:Int64) (999:Int64)).bind fun p4047 =>
    D_X11_terms_60   p4047.2 l0 l1 l2 p4047.1
  else
    if l1 = (1:Int32) then
      (D_X11_in  h4040 (Int32.toInt64 l2) (0:Int64) (10:Int64)).bind fun p4046 =>
      D_X11_terms_60   p4046.2 l0 l1 l2 p4046.1
    else
      if l1 = (2:Int32) then
        (D_X11_in  h4040 (Int32.toInt64 l2) (0:Int64) (9:Int64)).bind fun p4044 =>
        if p4044.1 = 0 then
          D_X11_terms_59   p4044.2 l0 l1 l2
        else
          D_X11_terms_60   p4044.2 l0 l1 l2 (1:Int32)
      else
        D_X11_terms_59   h4040 l0 l1 l2
set_option maxRecDepth 100000 in
set_option maxHeartbeats 4000000 in
theorem S_X11_terms {G : z_G} {l : Launch} {h : z_H} {l0 : Option Nat} {l1 : Int32} {l2 : Int32} {res : (Int32 × z_H)} (e : D_X11_terms h l0 l1 l2 = some res) : z_Meth G l 5 M_X11_terms [z_r l0, .int l1, .int l2] h res.2 (some (.int res.1)) := by
  refine z_Meth.of ck_X11_terms.2.2.2.2 (by simp [lg_sl, z_ci, z_cj, z_cr, z_cx]) ck_X11_terms.1 ?_
  rw [show lv_args 0 [z_r l0, .int l1, .int l2] = [(0, z_r l0), (1, .int l1), (2, .int l2)] from by simp [lv_args, z_ci, z_cj, z_cr, z_cx]]
  unfold D_X11_terms at e
  refine z_aload_n 0 dX11_terms_0 rfl ?_
  refine z_iconst (v := 0) dX11_terms_1 (by decide) ?_
  replace e := z_bd e; obtain ⟨h4040, eh4040, e⟩ := e
  refine z_putV eh4040 lk_X11_166 wk_11_0 (fun _ => rfl) (fun _ => rfl) dX11_terms_2 ?_
  refine z_iload_n 1 dX11_terms_5 rfl ?_
  refine z_if_ne (tgt := 21) dX11_terms_6 (by decide) (fun c4041 => ?_) (fun c4041 => ?_)
  · rw [if_neg c4041] at e
    refine z_iload_n 1 dX11_terms_21 rfl ?_
    refine z_iconst (v := 1) dX11_terms_22 (by decide) ?_
    refine z_icmp_ne (tgt := 38) dX11_terms_23 (by decide) (fun c4042 => ?_) (fun c4042 => ?_)
    · rw [if_neg c4042] at e
      refine z_iload_n 1 dX11_terms_38 rfl ?_
      refine z_iconst (v := 2) dX11_terms_39 (by decide) ?_
      refine z_icmp_ne (tgt := 59) dX11_terms_40 (by decide) (fun c4043 => ?_) (fun c4043 => ?_)
      · rw [if_neg c4043] at e
        exact z_weak [0, 1, 2] rfl (S_X11_terms_59   e)
      · rw [if_pos c4043] at e
        refine z_iload_n 2 dX11_terms_43 rfl ?_
        refine z_i2l dX11_terms_44 ?_
        refine z_lconst (v := 0) dX11_terms_45 (by decide) ?_
        refine z_ldc2 dX11_terms_46 kj_X11_205 ?_
        replace e := z_bd e; obtain ⟨p4044, ep4044, e⟩ := e
        refine z_cS [.long (Int32.toInt64 l2), .long (0:Int64), .long (9:Int64)] (S_X11_in  ep4044) ml_X11_186 ck_X11_in st_X11_in dX11_terms_49 (by decide) rfl (Nat.zero_le _) rfl ?_
        refine z_if_eq (tgt := 59) dX11_terms_52 (by decide) (fun c4045 => ?_) (fun c4045 => ?_)
        · rw [if_pos c4045] at e
          exact z_weak [0, 1, 2] rfl (S_X11_terms_59   e)
        · rw [if_neg c4045] at e
          refine z_iconst (v := 1) dX11_terms_55 (by decide) ?_
          refine z_goto (tgt := 60) dX11_terms_56 (by decide) ?_
          exact z_weak [0, 1, 2] rfl (S_X11_terms_60   e)
    · rw [if_pos c4042] at e
      refine z_iload_n 2 dX11_terms_26 rfl ?_
      refine z_i2l dX11_terms_27 ?_
      refine z_lconst (v := 0) dX11_terms_28 (by decide) ?_
      refine z_ldc2 dX11_terms_29 kj_X11_234 ?_
      replace e := z_bd e; obtain ⟨p4046, ep4046, e⟩ := e
      refine z_cS [.long (Int32.toInt64 l2), .long (0:Int64), .long (10:Int64)] (S_X11_in  ep4046) ml_X11_186 ck_X11_in st_X11_in dX11_terms_32 (by decide) rfl (Nat.zero_le _) rfl ?_
      refine z_goto (tgt := 60) dX11_terms_35 (by decide) ?_
      exact z_weak [0, 1, 2] rfl (S_X11_terms_60   e)
  · rw [if_pos c4041] at e
    refine z_iload_n 2 dX11_terms_9 rfl ?_
    refine z_i2l dX11_terms_10 ?_
    refine z_lconst (v := 0) dX11_terms_11 (by decide) ?_
    refine z_ldc2 dX11_terms_12 kj_X11_232 ?_
    replace e := z_bd e; obtain ⟨p4047, ep4047, e⟩ := e
    refine z_cS [.long (Int32.toInt64 l2), .long (0:Int64), .long (999:Int64)] (S_X11_in  ep4047) ml_X11_186 ck_X11_in st_X11_in dX11_terms_15 (by decide) rfl (Nat.zero_le _) rfl ?_
    refine z_goto (tgt := 60) dX11_terms_18 (by decide) ?_
    exact z_weak [0, 1, 2] rfl (S_X11_terms_60   e)
theorem dX10_asks_0 : decode cX10_asks 0 = .ok (.aload_n 0, 1) := by decide +kernel
theorem dX10_asks_1 : decode cX10_asks 1 = .ok (.getfield 12, 3) := by decide +kernel
theorem dX10_asks_4 : decode cX10_asks 4 = .ok (.iload_n 1, 1) := by decide +kernel
theorem dX10_asks_5 : decode cX10_asks 5 = .ok (.invokevirtual 121, 3) := by decide +kernel
theorem dX10_asks_8 : decode cX10_asks 8 = .ok (.ifCond .eq 10, 3) := by decide +kernel
theorem dX10_asks_11 : decode cX10_asks 11 = .ok (.iload_n 2, 1) := by decide +kernel
theorem dX10_asks_12 : decode cX10_asks 12 = .ok (.invokestatic 151, 3) := by decide +kernel
theorem dX10_asks_15 : decode cX10_asks 15 = .ok (.ifCond .ne 5, 3) := by decide +kernel
theorem dX10_asks_18 : decode cX10_asks 18 = .ok (.iconst (-1), 1) := by decide +kernel
theorem dX10_asks_19 : decode cX10_asks 19 = .ok (.ireturn, 1) := by decide +kernel
theorem dX10_asks_20 : decode cX10_asks 20 = .ok (.iload_n 3, 1) := by decide +kernel
theorem dX10_asks_21 : decode cX10_asks 21 = .ok (.ifCond .ne 41, 3) := by decide +kernel
theorem dX10_asks_24 : decode cX10_asks 24 = .ok (.aload_n 0, 1) := by decide +kernel
theorem dX10_asks_25 : decode cX10_asks 25 = .ok (.getfield 44, 3) := by decide +kernel
theorem dX10_asks_28 : decode cX10_asks 28 = .ok (.aload_n 0, 1) := by decide +kernel
theorem dX10_asks_29 : decode cX10_asks 29 = .ok (.getfield 12, 3) := by decide +kernel
theorem dX10_asks_32 : decode cX10_asks 32 = .ok (.aload_n 0, 1) := by decide +kernel
theorem dX10_asks_33 : decode cX10_asks 33 = .ok (.getfield 12, 3) := by decide +kernel
theorem dX10_asks_36 : decode cX10_asks 36 = .ok (.invokevirtual 154, 3) := by decide +kernel
theorem dX10_asks_39 : decode cX10_asks 39 = .ok (.iload_n 1, 1) := by decide +kernel
theorem dX10_asks_40 : decode cX10_asks 40 = .ok (.iload_n 2, 1) := by decide +kernel
theorem dX10_asks_41 : decode cX10_asks 41 = .ok (.aload_n 0, 1) := by decide +kernel
theorem dX10_asks_42 : decode cX10_asks 42 = .ok (.getfield 12, 3) := by decide +kernel
theorem dX10_asks_45 : decode cX10_asks 45 = .ok (.iload_n 1, 1) := by decide +kernel
theorem dX10_asks_46 : decode cX10_asks 46 = .ok (.iload_n 2, 1) := by decide +kernel
theorem dX10_asks_47 : decode cX10_asks 47 = .ok (.invokevirtual 125, 3) := by decide +kernel
theorem dX10_asks_50 : decode cX10_asks 50 = .ok (.aload_n 0, 1) := by decide +kernel
theorem dX10_asks_51 : decode cX10_asks 51 = .ok (.getfield 12, 3) := by decide +kernel
theorem dX10_asks_54 : decode cX10_asks 54 = .ok (.iload_n 1, 1) := by decide +kernel
theorem dX10_asks_55 : decode cX10_asks 55 = .ok (.invokevirtual 138, 3) := by decide +kernel
theorem dX10_asks_58 : decode cX10_asks 58 = .ok (.invokevirtual 158, 3) := by decide +kernel
theorem dX10_asks_61 : decode cX10_asks 61 = .ok (.ireturn, 1) := by decide +kernel
theorem dX10_asks_62 : decode cX10_asks 62 = .ok (.iload_n 3, 1) := by decide +kernel
theorem dX10_asks_63 : decode cX10_asks 63 = .ok (.iconst 1, 1) := by decide +kernel
theorem dX10_asks_64 : decode cX10_asks 64 = .ok (.if_icmp .ne 19, 3) := by decide +kernel
theorem dX10_asks_67 : decode cX10_asks 67 = .ok (.aload_n 0, 1) := by decide +kernel
theorem dX10_asks_68 : decode cX10_asks 68 = .ok (.getfield 44, 3) := by decide +kernel
theorem dX10_asks_71 : decode cX10_asks 71 = .ok (.aload_n 0, 1) := by decide +kernel
theorem dX10_asks_72 : decode cX10_asks 72 = .ok (.getfield 12, 3) := by decide +kernel
theorem dX10_asks_75 : decode cX10_asks 75 = .ok (.iload_n 1, 1) := by decide +kernel
theorem dX10_asks_76 : decode cX10_asks 76 = .ok (.iload_n 2, 1) := by decide +kernel
theorem dX10_asks_77 : decode cX10_asks 77 = .ok (.invokevirtual 162, 3) := by decide +kernel
theorem dX10_asks_80 : decode cX10_asks 80 = .ok (.goto 4, 3) := by decide +kernel
theorem dX10_asks_83 : decode cX10_asks 83 = .ok (.iconst (-1), 1) := by decide +kernel
theorem dX10_asks_84 : decode cX10_asks 84 = .ok (.ireturn, 1) := by decide +kernel
def D_X10_asks (h : z_H) (l0 : Option Nat) (l1 : Int32) (l2 : Int32) (l3 : Int32) : Option (Int32 × z_H) :=
  (z_gQ 10 h l0 0).bind fun x4048 =>
  (z_ob 9 h x4048).bind fun _ =>
  (D_X9_hasPair  h x4048 l1).bind fun p4049 =>
  if p4049.1 = 0 then
    some ((-1:Int32), p4049.2)
  else
    (D_X10_isPart  p4049.2 l2).bind fun p4052 =>
    if p4052.1 = 0 then
      some ((-1:Int32), p4052.2)
    else
      if l3 = 0 then
        (z_gQ 10 p4052.2 l0 6).bind fun x4060 =>
        (z_gQ 10 p4052.2 l0 0).bind fun x4061 =>
        (z_gQ 10 p4052.2 l0 0).bind fun x4062 =>
        (z_ob 9 p4052.2 x4062).bind fun _ =>
        (D_X9_lawInForce  p4052.2 x4062).bind fun p4063 =>
        (z_gQ 10 p4063.2 l0 0).bind fun x4065 =>
        (z_ob 9 p4063.2 x4065).bind fun _ =>
        (D_X9_wornAt  p4063.2 x4065 l1 l2).bind fun p4066 =>
        (z_gQ 10 p4066.2 l0 0).bind fun x4068 =>
        (z_ob 9 p4066.2 x4068).bind fun _ =>
        (D_X9_placeOf  p4066.2 x4068 l1).bind fun p4069 =>
        (z_ob 1 p4069.2 x4060).bind fun _ =>
        (D_X1_wears  p4069.2 x4060 x4061 p4063.1 l1 l2 p4066.1 p4069.1).bind fun p4071 =>
        some (p4071.1, p4071.2)
      else
        if l3 = (1:Int32) then
          (z_gQ 10 p4052.2 l0 6).bind fun x4056 =>
          (z_gQ 10 p4052.2 l0 0).bind fun x4057 =>
          (z_ob 1 p4052.2 x4056).bind fun _ =>
          (D_X1_leaves  p4052.2 x4056 x4057 l1 l2).bind fun p4058 =>
          some (p4058.1, p4058.2)
        else
          some ((-1:Int32), p4052.2)
set_option maxRecDepth 100000 in
set_option maxHeartbeats 4000000 in
theorem S_X10_asks {G : z_G} {l : Launch} {h : z_H} {l0 : Option Nat} {l1 : Int32} {l2 : Int32} {l3 : Int32} {res : (Int32 × z_H)} (e : D_X10_asks h l0 l1 l2 l3 = some res) : z_Meth G l 8 M_X10_asks [z_r l0, .int l1, .int l2, .int l3] h res.2 (some (.int res.1)) := by
  refine z_Meth.of ck_X10_asks.2.2.2.2 (by simp [lg_sl, z_ci, z_cj, z_cr, z_cx]) ck_X10_asks.1 ?_
  rw [show lv_args 0 [z_r l0, .int l1, .int l2, .int l3] = [(0, z_r l0), (1, .int l1), (2, .int l2), (3, .int l3)] from by simp [lv_args, z_ci, z_cj, z_cr, z_cx]]
  unfold D_X10_asks at e
  refine z_aload_n 0 dX10_asks_0 rfl ?_
  replace e := z_bd e; obtain ⟨x4048, ex4048, e⟩ := e
  refine z_getQ ex4048 lk_X10_12 dX10_asks_1 ?_
  refine z_iload_n 1 dX10_asks_4 rfl ?_
  replace e := z_bd e; obtain ⟨o4050, eo4050, e⟩ := e
  replace e := z_bd e; obtain ⟨p4049, ep4049, e⟩ := e
  refine z_cV [.int l1] (S_X9_hasPair  ep4049) eo4050 rfl ml_X10_121 ck_X9_hasPair vk_X9_hasPair dX10_asks_5 (by decide) rfl (Nat.zero_le _) rfl ?_
  refine z_if_eq (tgt := 18) dX10_asks_8 (by decide) (fun c4051 => ?_) (fun c4051 => ?_)
  · rw [if_pos c4051] at e
    refine z_iconst (v := -1) dX10_asks_18 (by decide) ?_
    cases e
    exact z_iret dX10_asks_19 rfl
  · rw [if_neg c4051] at e
    refine z_iload_n 2 dX10_asks_11 rfl ?_
    replace e := z_bd e; obtain ⟨p4052, ep4052, e⟩ := e
    refine z_cS [.int l2] (S_X10_isPart  ep4052) ml_X10_151 ck_X10_isPart st_X10_isPart dX10_asks_12 (by decide) rfl (Nat.zero_le _) rfl ?_
    refine z_if_ne (tgt := 20) dX10_asks_15 (by decide) (fun c4053 => ?_) (fun c4053 => ?_)
    · rw [if_neg c4053] at e
      refine z_iload_n 3 dX10_asks_20 rfl ?_
      refine z_if_ne (tgt := 62) dX10_asks_21 (by decide) (fun c4054 => ?_) (fun c4054 => ?_)
      · rw [if_neg c4054] at e
        refine z_iload_n 3 dX10_asks_62 rfl ?_
        refine z_iconst (v := 1) dX10_asks_63 (by decide) ?_
        refine z_icmp_ne (tgt := 83) dX10_asks_64 (by decide) (fun c4055 => ?_) (fun c4055 => ?_)
        · rw [if_neg c4055] at e
          refine z_iconst (v := -1) dX10_asks_83 (by decide) ?_
          cases e
          exact z_iret dX10_asks_84 rfl
        · rw [if_pos c4055] at e
          refine z_aload_n 0 dX10_asks_67 rfl ?_
          replace e := z_bd e; obtain ⟨x4056, ex4056, e⟩ := e
          refine z_getQ ex4056 lk_X10_44 dX10_asks_68 ?_
          refine z_aload_n 0 dX10_asks_71 rfl ?_
          replace e := z_bd e; obtain ⟨x4057, ex4057, e⟩ := e
          refine z_getQ ex4057 lk_X10_12 dX10_asks_72 ?_
          refine z_iload_n 1 dX10_asks_75 rfl ?_
          refine z_iload_n 2 dX10_asks_76 rfl ?_
          replace e := z_bd e; obtain ⟨o4059, eo4059, e⟩ := e
          replace e := z_bd e; obtain ⟨p4058, ep4058, e⟩ := e
          refine z_cV [z_r x4057, .int l1, .int l2] (S_X1_leaves  ep4058) eo4059 rfl ml_X10_162 ck_X1_leaves vk_X1_leaves dX10_asks_77 (by decide) rfl (Nat.zero_le _) rfl ?_
          refine z_goto (tgt := 84) dX10_asks_80 (by decide) ?_
          cases e
          exact z_iret dX10_asks_84 rfl
      · rw [if_pos c4054] at e
        refine z_aload_n 0 dX10_asks_24 rfl ?_
        replace e := z_bd e; obtain ⟨x4060, ex4060, e⟩ := e
        refine z_getQ ex4060 lk_X10_44 dX10_asks_25 ?_
        refine z_aload_n 0 dX10_asks_28 rfl ?_
        replace e := z_bd e; obtain ⟨x4061, ex4061, e⟩ := e
        refine z_getQ ex4061 lk_X10_12 dX10_asks_29 ?_
        refine z_aload_n 0 dX10_asks_32 rfl ?_
        replace e := z_bd e; obtain ⟨x4062, ex4062, e⟩ := e
        refine z_getQ ex4062 lk_X10_12 dX10_asks_33 ?_
        replace e := z_bd e; obtain ⟨o4064, eo4064, e⟩ := e
        replace e := z_bd e; obtain ⟨p4063, ep4063, e⟩ := e
        refine z_cV [] (S_X9_lawInForce  ep4063) eo4064 rfl ml_X10_154 ck_X9_lawInForce vk_X9_lawInForce dX10_asks_36 (by decide) rfl (by simp [z_ci, z_cj, z_cr, z_cx]) rfl ?_
        refine z_iload_n 1 dX10_asks_39 rfl ?_
        refine z_iload_n 2 dX10_asks_40 rfl ?_
        refine z_aload_n 0 dX10_asks_41 rfl ?_
        replace e := z_bd e; obtain ⟨x4065, ex4065, e⟩ := e
        refine z_getQ ex4065 lk_X10_12 dX10_asks_42 ?_
        refine z_iload_n 1 dX10_asks_45 rfl ?_
        refine z_iload_n 2 dX10_asks_46 rfl ?_
        replace e := z_bd e; obtain ⟨o4067, eo4067, e⟩ := e
        replace e := z_bd e; obtain ⟨p4066, ep4066, e⟩ := e
        refine z_cV [.int l1, .int l2] (S_X9_wornAt  ep4066) eo4067 rfl ml_X10_125 ck_X9_wornAt vk_X9_wornAt dX10_asks_47 (by decide) rfl (by simp [z_ci, z_cj, z_cr, z_cx]) rfl ?_
        refine z_aload_n 0 dX10_asks_50 rfl ?_
        replace e := z_bd e; obtain ⟨x4068, ex4068, e⟩ := e
        refine z_getQ ex4068 lk_X10_12 dX10_asks_51 ?_
        refine z_iload_n 1 dX10_asks_54 rfl ?_
        replace e := z_bd e; obtain ⟨o4070, eo4070, e⟩ := e
        replace e := z_bd e; obtain ⟨p4069, ep4069, e⟩ := e
        refine z_cV [.int l1] (S_X9_placeOf  ep4069) eo4070 rfl ml_X10_138 ck_X9_placeOf vk_X9_placeOf dX10_asks_55 (by decide) rfl (by simp [z_ci, z_cj, z_cr, z_cx]) rfl ?_
        replace e := z_bd e; obtain ⟨o4072, eo4072, e⟩ := e
        replace e := z_bd e; obtain ⟨p4071, ep4071, e⟩ := e
        refine z_cV [z_r x4061, z_r p4063.1, .int l1, .int l2, .int p4066.1, .int p4069.1] (S_X1_wears  ep4071) eo4072 rfl ml_X10_158 ck_X1_wears vk_X1_wears dX10_asks_58 (by decide) rfl (Nat.zero_le _) rfl ?_
        cases e
        exact z_iret dX10_asks_61 rfl
    · rw [if_pos c4053] at e
      refine z_iconst (v := -1) dX10_asks_18 (by decide) ?_
      cases e
      exact z_iret dX10_asks_19 rfl
theorem dX11_asks_0 : decode cX11_asks 0 = .ok (.aload_n 0, 1) := by decide +kernel
theorem dX11_asks_1 : decode cX11_asks 1 = .ok (.iconst 0, 1) := by decide +kernel
theorem dX11_asks_2 : decode cX11_asks 2 = .ok (.putfield 166, 3) := by decide +kernel
theorem dX11_asks_5 : decode cX11_asks 5 = .ok (.aload_n 0, 1) := by decide +kernel
theorem dX11_asks_6 : decode cX11_asks 6 = .ok (.iload_n 1, 1) := by decide +kernel
theorem dX11_asks_7 : decode cX11_asks 7 = .ok (.invokevirtual 211, 3) := by decide +kernel
theorem dX11_asks_10 : decode cX11_asks 10 = .ok (.ifCond .eq 20, 3) := by decide +kernel
theorem dX11_asks_13 : decode cX11_asks 13 = .ok (.iload_n 2, 1) := by decide +kernel
theorem dX11_asks_14 : decode cX11_asks 14 = .ok (.invokestatic 223, 3) := by decide +kernel
theorem dX11_asks_17 : decode cX11_asks 17 = .ok (.ifCond .eq 13, 3) := by decide +kernel
theorem dX11_asks_20 : decode cX11_asks 20 = .ok (.iload_n 3, 1) := by decide +kernel
theorem dX11_asks_21 : decode cX11_asks 21 = .ok (.i2l, 1) := by decide +kernel
theorem dX11_asks_22 : decode cX11_asks 22 = .ok (.lconst 0, 1) := by decide +kernel
theorem dX11_asks_23 : decode cX11_asks 23 = .ok (.lconst 1, 1) := by decide +kernel
theorem dX11_asks_24 : decode cX11_asks 24 = .ok (.invokestatic 186, 3) := by decide +kernel
theorem dX11_asks_27 : decode cX11_asks 27 = .ok (.ifCond .ne 5, 3) := by decide +kernel
theorem dX11_asks_30 : decode cX11_asks 30 = .ok (.iconst (-1), 1) := by decide +kernel
theorem dX11_asks_31 : decode cX11_asks 31 = .ok (.ireturn, 1) := by decide +kernel
theorem dX11_asks_32 : decode cX11_asks 32 = .ok (.iload_n 3, 1) := by decide +kernel
theorem dX11_asks_33 : decode cX11_asks 33 = .ok (.ifCond .ne 12, 3) := by decide +kernel
theorem dX11_asks_36 : decode cX11_asks 36 = .ok (.aload_n 0, 1) := by decide +kernel
theorem dX11_asks_37 : decode cX11_asks 37 = .ok (.iload_n 1, 1) := by decide +kernel
theorem dX11_asks_38 : decode cX11_asks 38 = .ok (.iload_n 2, 1) := by decide +kernel
theorem dX11_asks_39 : decode cX11_asks 39 = .ok (.invokevirtual 226, 3) := by decide +kernel
theorem dX11_asks_42 : decode cX11_asks 42 = .ok (.goto 9, 3) := by decide +kernel
theorem dX11_asks_45 : decode cX11_asks 45 = .ok (.aload_n 0, 1) := by decide +kernel
theorem dX11_asks_46 : decode cX11_asks 46 = .ok (.iload_n 1, 1) := by decide +kernel
theorem dX11_asks_47 : decode cX11_asks 47 = .ok (.iload_n 2, 1) := by decide +kernel
theorem dX11_asks_48 : decode cX11_asks 48 = .ok (.invokevirtual 229, 3) := by decide +kernel
theorem dX11_asks_51 : decode cX11_asks 51 = .ok (.ireturn, 1) := by decide +kernel
def D_X11_asks (h : z_H) (l0 : Option Nat) (l1 : Int32) (l2 : Int32) (l3 : Int32) : Option (Int32 × z_H) :=
  (z_pV 11 h l0 0 (.int (0:Int32))).bind fun h4073 =>
  (z_ob 11 h4073 l0).bind fun _ =>
  (D_X11_isPair  h4073 l0 l1).bind fun p4074 =>
  if p4074.1 = 0 then
    some ((-1:Int32), p4074.2)
  else
    (D_X11_isPart  p4074.2 l2).bind fun p4077 =>
    if p4077.1 = 0 then
      some ((-1:Int32), p4077.2)
    else
      (D_X11_in  p4077.2 (Int32.toInt64 l3) (0:Int64) (1:Int64)).bind fun p4079 =>
      if p4079.1 = 0 then
        some ((-1:Int32), p4079.2)
      else
        if l3 = 0 then
          (z_ob 11 p4079.2 l0).bind fun _ =>
          (D_X11_wearsNow  p4079.2 l0 l1 l2).bind fun p4084 =>
          some (p4084.1, p4084.2)
        else
          (z_ob 11 p4079.2 l0).bind fun _ =>
          (D_X11_leavesOf  p4079.2 l0 l1 l2).bind fun p4082 =>
          some (p4082.1, p4082.2)
set_option maxRecDepth 100000 in
set_option maxHeartbeats 4000000 in
theorem S_X11_asks {G : z_G} {l : Launch} {h : z_H} {l0 : Option Nat} {l1 : Int32} {l2 : Int32} {l3 : Int32} {res : (Int32 × z_H)} (e : D_X11_asks h l0 l1 l2 l3 = some res) : z_Meth G l 11 M_X11_asks [z_r l0, .int l1, .int l2, .int l3] h res.2 (some (.int res.1)) := by
  refine z_Meth.of ck_X11_asks.2.2.2.2 (by simp [lg_sl, z_ci, z_cj, z_cr, z_cx]) ck_X11_asks.1 ?_
  rw [show lv_args 0 [z_r l0, .int l1, .int l2, .int l3] = [(0, z_r l0), (1, .int l1), (2, .int l2), (3, .int l3)] from by simp [lv_args, z_ci, z_cj, z_cr, z_cx]]
  unfold D_X11_asks at e
  refine z_aload_n 0 dX11_asks_0 rfl ?_
  refine z_iconst (v := 0) dX11_asks_1 (by decide) ?_
  replace e := z_bd e; obtain ⟨h4073, eh4073, e⟩ := e
  refine z_putV eh4073 lk_X11_166 wk_11_0 (fun _ => rfl) (fun _ => rfl) dX11_asks_2 ?_
  refine z_aload_n 0 dX11_asks_5 rfl ?_
  refine z_iload_n 1 dX11_asks_6 rfl ?_
  replace e := z_bd e; obtain ⟨o4075, eo4075, e⟩ := e
  replace e := z_bd e; obtain ⟨p4074, ep4074, e⟩ := e
  refine z_cV [.int l1] (S_X11_isPair  ep4074) eo4075 rfl ml_X11_211 ck_X11_isPair vk_X11_isPair dX11_asks_7 (by decide) rfl (Nat.zero_le _) rfl ?_
  refine z_if_eq (tgt := 30) dX11_asks_10 (by decide) (fun c4076 => ?_) (fun c4076 => ?_)
  · rw [if_pos c4076] at e
    refine z_iconst (v := -1) dX11_asks_30 (by decide) ?_
    cases e
    exact z_iret dX11_asks_31 rfl
  · rw [if_neg c4076] at e
    refine z_iload_n 2 dX11_asks_13 rfl ?_
    replace e := z_bd e; obtain ⟨p4077, ep4077, e⟩ := e
    refine z_cS [.int l2] (S_X11_isPart  ep4077) ml_X11_223 ck_X11_isPart st_X11_isPart dX11_asks_14 (by decide) rfl (Nat.zero_le _) rfl ?_
    refine z_if_eq (tgt := 30) dX11_asks_17 (by decide) (fun c4078 => ?_) (fun c4078 => ?_)
    · rw [if_pos c4078] at e
      refine z_iconst (v := -1) dX11_asks_30 (by decide) ?_
      cases e
      exact z_iret dX11_asks_31 rfl
    · rw [if_neg c4078] at e
      refine z_iload_n 3 dX11_asks_20 rfl ?_
      refine z_i2l dX11_asks_21 ?_
      refine z_lconst (v := 0) dX11_asks_22 (by decide) ?_
      refine z_lconst (v := 1) dX11_asks_23 (by decide) ?_
      replace e := z_bd e; obtain ⟨p4079, ep4079, e⟩ := e
      refine z_cS [.long (Int32.toInt64 l3), .long (0:Int64), .long (1:Int64)] (S_X11_in  ep4079) ml_X11_186 ck_X11_in st_X11_in dX11_asks_24 (by decide) rfl (Nat.zero_le _) rfl ?_
      refine z_if_ne (tgt := 32) dX11_asks_27 (by decide) (fun c4080 => ?_) (fun c4080 => ?_)
      · rw [if_neg c4080] at e
        refine z_iload_n 3 dX11_asks_32 rfl ?_
        refine z_if_ne (tgt := 45) dX11_asks_33 (by decide) (fun c4081 => ?_) (fun c4081 => ?_)
        · rw [if_neg c4081] at e
          refine z_aload_n 0 dX11_asks_45 rfl ?_
          refine z_iload_n 1 dX11_asks_46 rfl ?_
          refine z_iload_n 2 dX11_asks_47 rfl ?_
          replace e := z_bd e; obtain ⟨o4083, eo4083, e⟩ := e
          replace e := z_bd e; obtain ⟨p4082, ep4082, e⟩ := e
          refine z_cV [.int l1, .int l2] (S_X11_leavesOf  ep4082) eo4083 rfl ml_X11_229 ck_X11_leavesOf vk_X11_leavesOf dX11_asks_48 (by decide) rfl (Nat.zero_le _) rfl ?_
          cases e
          exact z_iret dX11_asks_51 rfl
        · rw [if_pos c4081] at e
          refine z_aload_n 0 dX11_asks_36 rfl ?_
          refine z_iload_n 1 dX11_asks_37 rfl ?_
          refine z_iload_n 2 dX11_asks_38 rfl ?_
          replace e := z_bd e; obtain ⟨o4085, eo4085, e⟩ := e
          replace e := z_bd e; obtain ⟨p4084, ep4084, e⟩ := e
          refine z_cV [.int l1, .int l2] (S_X11_wearsNow  ep4084) eo4085 rfl ml_X11_226 ck_X11_wearsNow vk_X11_wearsNow dX11_asks_39 (by decide) rfl (Nat.zero_le _) rfl ?_
          refine z_goto (tgt := 51) dX11_asks_42 (by decide) ?_
          cases e
          exact z_iret dX11_asks_51 rfl
      · rw [if_pos c4080] at e
        refine z_iconst (v := -1) dX11_asks_30 (by decide) ?_
        cases e
        exact z_iret dX11_asks_31 rfl
theorem dX10_walls_0 : decode cX10_walls 0 = .ok (.aload_n 0, 1) := by decide +kernel
theorem dX10_walls_1 : decode cX10_walls 1 = .ok (.getfield 12, 3) := by decide +kernel
theorem dX10_walls_4 : decode cX10_walls 4 = .ok (.getfield 148, 3) := by decide +kernel
theorem dX10_walls_7 : decode cX10_walls 7 = .ok (.ireturn, 1) := by decide +kernel
def D_X10_walls (h : z_H) (l0 : Option Nat) : Option (Int32 × z_H) :=
  (z_gQ 10 h l0 0).bind fun x4086 =>
  (z_gI 9 h x4086 9).bind fun x4087 =>
  some (x4087, h)
set_option maxRecDepth 100000 in
set_option maxHeartbeats 4000000 in
theorem S_X10_walls {G : z_G} {l : Launch} {h : z_H} {l0 : Option Nat} {res : (Int32 × z_H)} (e : D_X10_walls h l0 = some res) : z_Meth G l 4 M_X10_walls [z_r l0] h res.2 (some (.int res.1)) := by
  refine z_Meth.of ck_X10_walls.2.2.2.2 (by simp [lg_sl, z_ci, z_cj, z_cr, z_cx]) ck_X10_walls.1 ?_
  rw [show lv_args 0 [z_r l0] = [(0, z_r l0)] from by simp [lv_args, z_ci, z_cj, z_cr, z_cx]]
  unfold D_X10_walls at e
  refine z_aload_n 0 dX10_walls_0 rfl ?_
  replace e := z_bd e; obtain ⟨x4086, ex4086, e⟩ := e
  refine z_getQ ex4086 lk_X10_12 dX10_walls_1 ?_
  replace e := z_bd e; obtain ⟨x4087, ex4087, e⟩ := e
  refine z_getI ex4087 lk_X10_148 dX10_walls_4 ?_
  cases e
  exact z_iret dX10_walls_7 rfl
theorem dX11_walls_0 : decode cX11_walls 0 = .ok (.aload_n 0, 1) := by decide +kernel
theorem dX11_walls_1 : decode cX11_walls 1 = .ok (.iconst 0, 1) := by decide +kernel
theorem dX11_walls_2 : decode cX11_walls 2 = .ok (.putfield 166, 3) := by decide +kernel
theorem dX11_walls_5 : decode cX11_walls 5 = .ok (.aload_n 0, 1) := by decide +kernel
theorem dX11_walls_6 : decode cX11_walls 6 = .ok (.getfield 13, 3) := by decide +kernel
theorem dX11_walls_9 : decode cX11_walls 9 = .ok (.iconst 4, 1) := by decide +kernel
theorem dX11_walls_10 : decode cX11_walls 10 = .ok (.iaload, 1) := by decide +kernel
theorem dX11_walls_11 : decode cX11_walls 11 = .ok (.ireturn, 1) := by decide +kernel
def D_X11_walls (h : z_H) (l0 : Option Nat) : Option (Int32 × z_H) :=
  (z_pV 11 h l0 0 (.int (0:Int32))).bind fun h4088 =>
  (z_gQ 11 h4088 l0 3).bind fun x4089 =>
  (z_aI .int h4088 x4089 (4:Int32)).bind fun x4090 =>
  some (x4090, h4088)
set_option maxRecDepth 100000 in
set_option maxHeartbeats 4000000 in
theorem S_X11_walls {G : z_G} {l : Launch} {h : z_H} {l0 : Option Nat} {res : (Int32 × z_H)} (e : D_X11_walls h l0 = some res) : z_Meth G l 4 M_X11_walls [z_r l0] h res.2 (some (.int res.1)) := by
  refine z_Meth.of ck_X11_walls.2.2.2.2 (by simp [lg_sl, z_ci, z_cj, z_cr, z_cx]) ck_X11_walls.1 ?_
  rw [show lv_args 0 [z_r l0] = [(0, z_r l0)] from by simp [lv_args, z_ci, z_cj, z_cr, z_cx]]
  unfold D_X11_walls at e
  refine z_aload_n 0 dX11_walls_0 rfl ?_
  refine z_iconst (v := 0) dX11_walls_1 (by decide) ?_
  replace e := z_bd e; obtain ⟨h4088, eh4088, e⟩ := e
  refine z_putV eh4088 lk_X11_166 wk_11_0 (fun _ => rfl) (fun _ => rfl) dX11_walls_2 ?_
  refine z_aload_n 0 dX11_walls_5 rfl ?_
  replace e := z_bd e; obtain ⟨x4089, ex4089, e⟩ := e
  refine z_getQ ex4089 lk_X11_13 dX11_walls_6 ?_
  refine z_iconst (v := 4) dX11_walls_9 (by decide) ?_
  replace e := z_bd e; obtain ⟨x4090, ex4090, e⟩ := e
  refine z_iald ex4090 dX11_walls_10 ?_
  cases e
  exact z_iret dX11_walls_11 rfl
theorem dX10_wall_0 : decode cX10_wall 0 = .ok (.iload_n 1, 1) := by decide +kernel
theorem dX10_wall_1 : decode cX10_wall 1 = .ok (.invokestatic 145, 3) := by decide +kernel
theorem dX10_wall_4 : decode cX10_wall 4 = .ok (.ifCond .eq 12, 3) := by decide +kernel
theorem dX10_wall_7 : decode cX10_wall 7 = .ok (.iload_n 2, 1) := by decide +kernel
theorem dX10_wall_8 : decode cX10_wall 8 = .ok (.ifCond .lt 8, 3) := by decide +kernel
theorem dX10_wall_11 : decode cX10_wall 11 = .ok (.iload_n 2, 1) := by decide +kernel
theorem dX10_wall_12 : decode cX10_wall 12 = .ok (.iconst 1, 1) := by decide +kernel
theorem dX10_wall_13 : decode cX10_wall 13 = .ok (.if_icmp .le 9, 3) := by decide +kernel
theorem dX10_wall_16 : decode cX10_wall 16 = .ok (.aload_n 0, 1) := by decide +kernel
theorem dX10_wall_17 : decode cX10_wall 17 = .ok (.iconst (-1), 1) := by decide +kernel
theorem dX10_wall_18 : decode cX10_wall 18 = .ok (.invokevirtual 104, 3) := by decide +kernel
theorem dX10_wall_21 : decode cX10_wall 21 = .ok (.ireturn, 1) := by decide +kernel
theorem dX10_wall_22 : decode cX10_wall 22 = .ok (.aload_n 0, 1) := by decide +kernel
theorem dX10_wall_23 : decode cX10_wall 23 = .ok (.getfield 12, 3) := by decide +kernel
theorem dX10_wall_26 : decode cX10_wall 26 = .ok (.getfield 148, 3) := by decide +kernel
theorem dX10_wall_29 : decode cX10_wall 29 = .ok (.iload_n 1, 1) := by decide +kernel
theorem dX10_wall_30 : decode cX10_wall 30 = .ok (.ishr, 1) := by decide +kernel
theorem dX10_wall_31 : decode cX10_wall 31 = .ok (.iconst 1, 1) := by decide +kernel
theorem dX10_wall_32 : decode cX10_wall 32 = .ok (.iand, 1) := by decide +kernel
theorem dX10_wall_33 : decode cX10_wall 33 = .ok (.istore_n 3, 1) := by decide +kernel
theorem dX10_wall_34 : decode cX10_wall 34 = .ok (.aload_n 0, 1) := by decide +kernel
theorem dX10_wall_35 : decode cX10_wall 35 = .ok (.getfield 12, 3) := by decide +kernel
theorem dX10_wall_38 : decode cX10_wall 38 = .ok (.aload_n 0, 1) := by decide +kernel
theorem dX10_wall_39 : decode cX10_wall 39 = .ok (.getfield 12, 3) := by decide +kernel
theorem dX10_wall_42 : decode cX10_wall 42 = .ok (.getfield 148, 3) := by decide +kernel
theorem dX10_wall_45 : decode cX10_wall 45 = .ok (.iconst 1, 1) := by decide +kernel
theorem dX10_wall_46 : decode cX10_wall 46 = .ok (.iload_n 1, 1) := by decide +kernel
theorem dX10_wall_47 : decode cX10_wall 47 = .ok (.ishl, 1) := by decide +kernel
theorem dX10_wall_48 : decode cX10_wall 48 = .ok (.iconst (-1), 1) := by decide +kernel
theorem dX10_wall_49 : decode cX10_wall 49 = .ok (.ixor, 1) := by decide +kernel
theorem dX10_wall_50 : decode cX10_wall 50 = .ok (.iand, 1) := by decide +kernel
theorem dX10_wall_51 : decode cX10_wall 51 = .ok (.iload_n 2, 1) := by decide +kernel
theorem dX10_wall_52 : decode cX10_wall 52 = .ok (.iload_n 1, 1) := by decide +kernel
theorem dX10_wall_53 : decode cX10_wall 53 = .ok (.ishl, 1) := by decide +kernel
theorem dX10_wall_54 : decode cX10_wall 54 = .ok (.ior, 1) := by decide +kernel
theorem dX10_wall_55 : decode cX10_wall 55 = .ok (.putfield 148, 3) := by decide +kernel
theorem dX10_wall_58 : decode cX10_wall 58 = .ok (.aload_n 0, 1) := by decide +kernel
theorem dX10_wall_59 : decode cX10_wall 59 = .ok (.iload_n 3, 1) := by decide +kernel
theorem dX10_wall_60 : decode cX10_wall 60 = .ok (.invokevirtual 118, 3) := by decide +kernel
theorem dX10_wall_63 : decode cX10_wall 63 = .ok (.ireturn, 1) := by decide +kernel
def D_X10_wall_16 (h : z_H) (l0 : Option Nat) : Option (Int32 × z_H) :=
  (z_ob 10 h l0).bind fun _ =>
  (D_X10_refuse  h l0 (-1:Int32)).bind fun p4091 =>
  some (p4091.1, p4091.2)
set_option maxRecDepth 100000 in
set_option maxHeartbeats 4000000 in
theorem S_X10_wall_16 {G : z_G} {l : Launch}  {h : z_H} {l0 : Option Nat} {res : (Int32 × z_H)} (e : D_X10_wall_16  h l0 = some res) : z_Run G l 5 M_X10_wall 16 [(0, z_r l0)] [] h res.2 (some (.int res.1)) := by
  unfold D_X10_wall_16 at e
  refine z_aload_n 0 dX10_wall_16 rfl ?_
  refine z_iconst (v := -1) dX10_wall_17 (by decide) ?_
  replace e := z_bd e; obtain ⟨o4092, eo4092, e⟩ := e
  replace e := z_bd e; obtain ⟨p4091, ep4091, e⟩ := e
  refine z_cV [.int (-1:Int32)] (S_X10_refuse  ep4091) eo4092 rfl ml_X10_104 ck_X10_refuse vk_X10_refuse dX10_wall_18 (by decide) rfl (Nat.zero_le _) rfl ?_
  cases e
  exact z_iret dX10_wall_21 rfl
def D_X10_wall (h : z_H) (l0 : Option Nat) (l1 : Int32) (l2 : Int32) : Option (Int32 × z_H) :=
  (D_X10_isCell  h l1).bind fun p4093 =>
  if p4093.1 = 0 then
    D_X10_wall_16   p4093.2 l0
  else
    if l2 < 0 then
      D_X10_wall_16   p4093.2 l0
    else
      if l2 ≤ (1:Int32) then
        (z_gQ 10 p4093.2 l0 0).bind fun x4097 =>
        (z_gI 9 p4093.2 x4097 9).bind fun x4098 =>
        (some ((x4098 >>> (l1 &&& 31)) &&& (1:Int32))).bind fun x4099 =>
        (z_gQ 10 p4093.2 l0 0).bind fun x4100 =>
        (z_gQ 10 p4093.2 l0 0).bind fun x4101 =>
        (z_gI 9 p4093.2 x4101 9).bind fun x4102 =>
        (z_pV 9 p4093.2 x4100 9 (.int ((x4102 &&& (((1:Int32) <<< (l1 &&& 31)) ^^^ (-1:Int32))) ||| (l2 <<< (l1 &&& 31))))).bind fun h4103 =>
        (z_ob 10 h4103 l0).bind fun _ =>
        (D_X10_grant  h4103 l0 x4099).bind fun p4104 =>
        some (p4104.1, p4104.2)
      else
        D_X10_wall_16   p4093.2 l0
set_option maxRecDepth 100000 in
set_option maxHeartbeats 4000000 in
theorem S_X10_wall {G : z_G} {l : Launch} {h : z_H} {l0 : Option Nat} {l1 : Int32} {l2 : Int32} {res : (Int32 × z_H)} (e : D_X10_wall h l0 l1 l2 = some res) : z_Meth G l 5 M_X10_wall [z_r l0, .int l1, .int l2] h res.2 (some (.int res.1)) := by
  refine z_Meth.of ck_X10_wall.2.2.2.2 (by simp [lg_sl, z_ci, z_cj, z_cr, z_cx]) ck_X10_wall.1 ?_
  rw [show lv_args 0 [z_r l0, .int l1, .int l2] = [(0, z_r l0), (1, .int l1), (2, .int l2)] from by simp [lv_args, z_ci, z_cj, z_cr, z_cx]]
  unfold D_X10_wall at e
  refine z_iload_n 1 dX10_wall_0 rfl ?_
  replace e := z_bd e; obtain ⟨p4093, ep4093, e⟩ := e
  refine z_cS [.int l1] (S_X10_isCell  ep4093) ml_X10_145 ck_X10_isCell st_X10_isCell dX10_wall_1 (by decide) rfl (Nat.zero_le _) rfl ?_
  refine z_if_eq (tgt := 16) dX10_wall_4 (by decide) (fun c4094 => ?_) (fun c4094 => ?_)
  · rw [if_pos c4094] at e
    exact z_weak [0] rfl (S_X10_wall_16   e)
  · rw [if_neg c4094] at e
    refine z_iload_n 2 dX10_wall_7 rfl ?_
    refine z_if_lt (tgt := 16) dX10_wall_8 (by decide) (fun c4095 => ?_) (fun c4095 => ?_)
    · rw [if_pos c4095] at e
      exact z_weak [0] rfl (S_X10_wall_16   e)
    · rw [if_neg c4095] at e
      refine z_iload_n 2 dX10_wall_11 rfl ?_
      refine z_iconst (v := 1) dX10_wall_12 (by decide) ?_
      refine z_icmp_le (tgt := 22) dX10_wall_13 (by decide) (fun c4096 => ?_) (fun c4096 => ?_)
      · rw [if_pos c4096] at e
        refine z_aload_n 0 dX10_wall_22 rfl ?_
        replace e := z_bd e; obtain ⟨x4097, ex4097, e⟩ := e
        refine z_getQ ex4097 lk_X10_12 dX10_wall_23 ?_
        replace e := z_bd e; obtain ⟨x4098, ex4098, e⟩ := e
        refine z_getI ex4098 lk_X10_148 dX10_wall_26 ?_
        refine z_iload_n 1 dX10_wall_29 rfl ?_
        refine z_ishr dX10_wall_30 ?_
        refine z_iconst (v := 1) dX10_wall_31 (by decide) ?_
        refine z_iand dX10_wall_32 ?_
        replace e := z_bd e; obtain ⟨x4099, ex4099, e⟩ := e
        refine z_topI ex4099 ?_
        refine z_istore_n (L' := [(3, .int x4099), (0, z_r l0), (1, .int l1), (2, .int l2)]) dX10_wall_33 rfl (by decide) rfl ?_
        refine z_aload_n 1 dX10_wall_34 rfl ?_
        replace e := z_bd e; obtain ⟨x4100, ex4100, e⟩ := e
        refine z_getQ ex4100 lk_X10_12 dX10_wall_35 ?_
        refine z_aload_n 1 dX10_wall_38 rfl ?_
        replace e := z_bd e; obtain ⟨x4101, ex4101, e⟩ := e
        refine z_getQ ex4101 lk_X10_12 dX10_wall_39 ?_
        replace e := z_bd e; obtain ⟨x4102, ex4102, e⟩ := e
        refine z_getI ex4102 lk_X10_148 dX10_wall_42 ?_
        refine z_iconst (v := 1) dX10_wall_45 (by decide) ?_
        refine z_iload_n 2 dX10_wall_46 rfl ?_
        refine z_ishl dX10_wall_47 ?_
        refine z_iconst (v := -1) dX10_wall_48 (by decide) ?_
        refine z_ixor dX10_wall_49 ?_
        refine z_iand dX10_wall_50 ?_
        refine z_iload_n 3 dX10_wall_51 rfl ?_
        refine z_iload_n 2 dX10_wall_52 rfl ?_
        refine z_ishl dX10_wall_53 ?_
        refine z_ior dX10_wall_54 ?_
        replace e := z_bd e; obtain ⟨h4103, eh4103, e⟩ := e
        refine z_putV eh4103 lk_X10_148 wk_9_9 (fun _ => rfl) (fun _ => rfl) dX10_wall_55 ?_
        refine z_aload_n 1 dX10_wall_58 rfl ?_
        refine z_iload_n 0 dX10_wall_59 rfl ?_
        replace e := z_bd e; obtain ⟨o4105, eo4105, e⟩ := e
        replace e := z_bd e; obtain ⟨p4104, ep4104, e⟩ := e
        refine z_cV [.int x4099] (S_X10_grant  ep4104) eo4105 rfl ml_X10_118 ck_X10_grant vk_X10_grant dX10_wall_60 (by decide) rfl (Nat.zero_le _) rfl ?_
        cases e
        exact z_iret dX10_wall_63 rfl
      · rw [if_neg c4096] at e
        exact z_weak [0] rfl (S_X10_wall_16   e)
theorem dX11_wall_0 : decode cX11_wall 0 = .ok (.aload_n 0, 1) := by decide +kernel
theorem dX11_wall_1 : decode cX11_wall 1 = .ok (.iconst 0, 1) := by decide +kernel
theorem dX11_wall_2 : decode cX11_wall 2 = .ok (.putfield 166, 3) := by decide +kernel
theorem dX11_wall_5 : decode cX11_wall 5 = .ok (.iload_n 1, 1) := by decide +kernel
theorem dX11_wall_6 : decode cX11_wall 6 = .ok (.invokestatic 201, 3) := by decide +kernel
theorem dX11_wall_9 : decode cX11_wall 9 = .ok (.ifCond .eq 13, 3) := by decide +kernel
theorem dX11_wall_12 : decode cX11_wall 12 = .ok (.iload_n 2, 1) := by decide +kernel
theorem dX11_wall_13 : decode cX11_wall 13 = .ok (.i2l, 1) := by decide +kernel
theorem dX11_wall_14 : decode cX11_wall 14 = .ok (.lconst 0, 1) := by decide +kernel
theorem dX11_wall_15 : decode cX11_wall 15 = .ok (.lconst 1, 1) := by decide +kernel
theorem dX11_wall_16 : decode cX11_wall 16 = .ok (.invokestatic 186, 3) := by decide +kernel
theorem dX11_wall_19 : decode cX11_wall 19 = .ok (.ifCond .ne 9, 3) := by decide +kernel
theorem dX11_wall_22 : decode cX11_wall 22 = .ok (.aload_n 0, 1) := by decide +kernel
theorem dX11_wall_23 : decode cX11_wall 23 = .ok (.iconst (-1), 1) := by decide +kernel
theorem dX11_wall_24 : decode cX11_wall 24 = .ok (.invokevirtual 175, 3) := by decide +kernel
theorem dX11_wall_27 : decode cX11_wall 27 = .ok (.ireturn, 1) := by decide +kernel
theorem dX11_wall_28 : decode cX11_wall 28 = .ok (.aload_n 0, 1) := by decide +kernel
theorem dX11_wall_29 : decode cX11_wall 29 = .ok (.getfield 13, 3) := by decide +kernel
theorem dX11_wall_32 : decode cX11_wall 32 = .ok (.iconst 4, 1) := by decide +kernel
theorem dX11_wall_33 : decode cX11_wall 33 = .ok (.iaload, 1) := by decide +kernel
theorem dX11_wall_34 : decode cX11_wall 34 = .ok (.iload_n 1, 1) := by decide +kernel
theorem dX11_wall_35 : decode cX11_wall 35 = .ok (.ishr, 1) := by decide +kernel
theorem dX11_wall_36 : decode cX11_wall 36 = .ok (.iconst 1, 1) := by decide +kernel
theorem dX11_wall_37 : decode cX11_wall 37 = .ok (.iand, 1) := by decide +kernel
theorem dX11_wall_38 : decode cX11_wall 38 = .ok (.istore_n 3, 1) := by decide +kernel
theorem dX11_wall_39 : decode cX11_wall 39 = .ok (.aload_n 0, 1) := by decide +kernel
theorem dX11_wall_40 : decode cX11_wall 40 = .ok (.getfield 13, 3) := by decide +kernel
theorem dX11_wall_43 : decode cX11_wall 43 = .ok (.iconst 4, 1) := by decide +kernel
theorem dX11_wall_44 : decode cX11_wall 44 = .ok (.dup2, 1) := by decide +kernel
theorem dX11_wall_45 : decode cX11_wall 45 = .ok (.iaload, 1) := by decide +kernel
theorem dX11_wall_46 : decode cX11_wall 46 = .ok (.iload_n 3, 1) := by decide +kernel
theorem dX11_wall_47 : decode cX11_wall 47 = .ok (.iload_n 2, 1) := by decide +kernel
theorem dX11_wall_48 : decode cX11_wall 48 = .ok (.if_icmp .ne 7, 3) := by decide +kernel
theorem dX11_wall_51 : decode cX11_wall 51 = .ok (.iconst 0, 1) := by decide +kernel
theorem dX11_wall_52 : decode cX11_wall 52 = .ok (.goto 6, 3) := by decide +kernel
theorem dX11_wall_55 : decode cX11_wall 55 = .ok (.iconst 1, 1) := by decide +kernel
theorem dX11_wall_56 : decode cX11_wall 56 = .ok (.iload_n 1, 1) := by decide +kernel
theorem dX11_wall_57 : decode cX11_wall 57 = .ok (.ishl, 1) := by decide +kernel
theorem dX11_wall_58 : decode cX11_wall 58 = .ok (.ixor, 1) := by decide +kernel
theorem dX11_wall_59 : decode cX11_wall 59 = .ok (.iastore, 1) := by decide +kernel
theorem dX11_wall_60 : decode cX11_wall 60 = .ok (.aload_n 0, 1) := by decide +kernel
theorem dX11_wall_61 : decode cX11_wall 61 = .ok (.iload_n 3, 1) := by decide +kernel
theorem dX11_wall_62 : decode cX11_wall 62 = .ok (.invokevirtual 175, 3) := by decide +kernel
theorem dX11_wall_65 : decode cX11_wall 65 = .ok (.ireturn, 1) := by decide +kernel
def D_X11_wall_22 (h : z_H) (l0 : Option Nat) : Option (Int32 × z_H) :=
  (z_ob 11 h l0).bind fun _ =>
  (D_X11_tell  h l0 (-1:Int32)).bind fun p4106 =>
  some (p4106.1, p4106.2)
set_option maxRecDepth 100000 in
set_option maxHeartbeats 4000000 in
theorem S_X11_wall_22 {G : z_G} {l : Launch}  {h : z_H} {l0 : Option Nat} {res : (Int32 × z_H)} (e : D_X11_wall_22  h l0 = some res) : z_Run G l 6 M_X11_wall 22 [(0, z_r l0)] [] h res.2 (some (.int res.1)) := by
  unfold D_X11_wall_22 at e
  refine z_aload_n 0 dX11_wall_22 rfl ?_
  refine z_iconst (v := -1) dX11_wall_23 (by decide) ?_
  replace e := z_bd e; obtain ⟨o4107, eo4107, e⟩ := e
  replace e := z_bd e; obtain ⟨p4106, ep4106, e⟩ := e
  refine z_cV [.int (-1:Int32)] (S_X11_tell  ep4106) eo4107 rfl ml_X11_175 ck_X11_tell vk_X11_tell dX11_wall_24 (by decide) rfl (Nat.zero_le _) rfl ?_
  cases e
  exact z_iret dX11_wall_27 rfl
def D_X11_wall_58 (h : z_H) (l0 : Option Nat) (l3 : Int32) (s0 : Option Nat) (s1 : Int32) (s2 : Int32) (s3 : Int32) : Option (Int32 × z_H) :=
  (z_sI h s0 s1 (s2 ^^^ s3)).bind fun h4108 =>
  (z_ob 11 h4108 l0).bind fun _ =>
  (D_X11_tell  h4108 l0 l3).bind fun p4109 =>
  some (p4109.1, p4109.2)
set_option maxRecDepth 100000 in
set_option maxHeartbeats 4000000 in
theorem S_X11_wall_58 {G : z_G} {l : Launch}  {h : z_H} {l0 : Option Nat} {l3 : Int32} {s0 : Option Nat} {s1 : Int32} {s2 : Int32} {s3 : Int32} {res : (Int32 × z_H)} (e : D_X11_wall_58  h l0 l3 s0 s1 s2 s3 = some res) : z_Run G l 6 M_X11_wall 58 [(0, z_r l0), (3, .int l3)] [.int s3, .int s2, .int s1, z_r s0] h res.2 (some (.int res.1)) := by
  unfold D_X11_wall_58 at e
  refine z_ixor dX11_wall_58 ?_
  replace e := z_bd e; obtain ⟨h4108, eh4108, e⟩ := e
  refine z_iast eh4108 dX11_wall_59 ?_
  refine z_aload_n 0 dX11_wall_60 rfl ?_
  refine z_iload_n 1 dX11_wall_61 rfl ?_
  replace e := z_bd e; obtain ⟨o4110, eo4110, e⟩ := e
  replace e := z_bd e; obtain ⟨p4109, ep4109, e⟩ := e
  refine z_cV [.int l3] (S_X11_tell  ep4109) eo4110 rfl ml_X11_175 ck_X11_tell vk_X11_tell dX11_wall_62 (by decide) rfl (Nat.zero_le _) rfl ?_
  cases e
  exact z_iret dX11_wall_65 rfl
def D_X11_wall (h : z_H) (l0 : Option Nat) (l1 : Int32) (l2 : Int32) : Option (Int32 × z_H) :=
  (z_pV 11 h l0 0 (.int (0:Int32))).bind fun h4111 =>
  (D_X11_isCell  h4111 l1).bind fun p4112 =>
  if p4112.1 = 0 then
    D_X11_wall_22   p4112.2 l0
  else
    (D_X11_in  p4112.2 (Int32.toInt64 l2) (0:Int64) (1:Int64)).bind fun p4114 =>
    if p4114.1 = 0 then
      D_X11_wall_22   p4114.2 l0
    else
      (z_gQ 11 p4114.2 l0 3).bind fun x4116 =>
      (z_aI .int p4114.2 x4116 (4:Int32)).bind fun x4117 =>
      (some ((x4117 >>> (l1 &&& 31)) &&& (1:Int32))).bind fun x4118 =>
      (z_gQ 11 p4114.2 l0 3).bind fun x4119 =>
      (z_aI .int p4114.2 x4119 (4:Int32)).bind fun x4120 =>
      if x4118 = l2 then
        D_X11_wall_58   p4114.2 l0 x4118 x4119 (4:Int32) x4120 (0:Int32)
      else
        D_X11_wall_58   p4114.2 l0 x4118 x4119 (4:Int32) x4120 ((1:Int32) <<< (l1 &&& 31))
set_option maxRecDepth 100000 in
set_option maxHeartbeats 4000000 in
theorem S_X11_wall {G : z_G} {l : Launch} {h : z_H} {l0 : Option Nat} {l1 : Int32} {l2 : Int32} {res : (Int32 × z_H)} (e : D_X11_wall h l0 l1 l2 = some res) : z_Meth G l 6 M_X11_wall [z_r l0, .int l1, .int l2] h res.2 (some (.int res.1)) := by
  refine z_Meth.of ck_X11_wall.2.2.2.2 (by simp [lg_sl, z_ci, z_cj, z_cr, z_cx]) ck_X11_wall.1 ?_
  rw [show lv_args 0 [z_r l0, .int l1, .int l2] = [(0, z_r l0), (1, .int l1), (2, .int l2)] from by simp [lv_args, z_ci, z_cj, z_cr, z_cx]]
  unfold D_X11_wall at e
  refine z_aload_n 0 dX11_wall_0 rfl ?_
  refine z_iconst (v := 0) dX11_wall_1 (by decide) ?_
  replace e := z_bd e; obtain ⟨h4111, eh4111, e⟩ := e
  refine z_putV eh4111 lk_X11_166 wk_11_0 (fun _ => rfl) (fun _ => rfl) dX11_wall_2 ?_
  refine z_iload_n 1 dX11_wall_5 rfl ?_
  replace e := z_bd e; obtain ⟨p4112, ep4112, e⟩ := e
  refine z_cS [.int l1] (S_X11_isCell  ep4112) ml_X11_201 ck_X11_isCell st_X11_isCell dX11_wall_6 (by decide) rfl (Nat.zero_le _) rfl ?_
  refine z_if_eq (tgt := 22) dX11_wall_9 (by decide) (fun c4113 => ?_) (fun c4113 => ?_)
  · rw [if_pos c4113] at e
    exact z_weak [0] rfl (S_X11_wall_22   e)
  · rw [if_neg c4113] at e
    refine z_iload_n 2 dX11_wall_12 rfl ?_
    refine z_i2l dX11_wall_13 ?_
    refine z_lconst (v := 0) dX11_wall_14 (by decide) ?_
    refine z_lconst (v := 1) dX11_wall_15 (by decide) ?_
    replace e := z_bd e; obtain ⟨p4114, ep4114, e⟩ := e
    refine z_cS [.long (Int32.toInt64 l2), .long (0:Int64), .long (1:Int64)] (S_X11_in  ep4114) ml_X11_186 ck_X11_in st_X11_in dX11_wall_16 (by decide) rfl (Nat.zero_le _) rfl ?_
    refine z_if_ne (tgt := 28) dX11_wall_19 (by decide) (fun c4115 => ?_) (fun c4115 => ?_)
    · rw [if_neg c4115] at e
      refine z_aload_n 0 dX11_wall_28 rfl ?_
      replace e := z_bd e; obtain ⟨x4116, ex4116, e⟩ := e
      refine z_getQ ex4116 lk_X11_13 dX11_wall_29 ?_
      refine z_iconst (v := 4) dX11_wall_32 (by decide) ?_
      replace e := z_bd e; obtain ⟨x4117, ex4117, e⟩ := e
      refine z_iald ex4117 dX11_wall_33 ?_
      refine z_iload_n 1 dX11_wall_34 rfl ?_
      refine z_ishr dX11_wall_35 ?_
      refine z_iconst (v := 1) dX11_wall_36 (by decide) ?_
      refine z_iand dX11_wall_37 ?_
      replace e := z_bd e; obtain ⟨x4118, ex4118, e⟩ := e
      refine z_topI ex4118 ?_
      refine z_istore_n (L' := [(3, .int x4118), (0, z_r l0), (1, .int l1), (2, .int l2)]) dX11_wall_38 rfl (by decide) rfl ?_
      refine z_aload_n 1 dX11_wall_39 rfl ?_
      replace e := z_bd e; obtain ⟨x4119, ex4119, e⟩ := e
      refine z_getQ ex4119 lk_X11_13 dX11_wall_40 ?_
      refine z_iconst (v := 4) dX11_wall_43 (by decide) ?_
      refine z_dup2 dX11_wall_44 rfl (z_cr _) ?_
      replace e := z_bd e; obtain ⟨x4120, ex4120, e⟩ := e
      refine z_iald ex4120 dX11_wall_45 ?_
      refine z_iload_n 0 dX11_wall_46 rfl ?_
      refine z_iload_n 3 dX11_wall_47 rfl ?_
      refine z_icmp_ne (tgt := 55) dX11_wall_48 (by decide) (fun c4121 => ?_) (fun c4121 => ?_)
      · rw [if_neg c4121] at e
        refine z_iconst (v := 1) dX11_wall_55 (by decide) ?_
        refine z_iload_n 2 dX11_wall_56 rfl ?_
        refine z_ishl dX11_wall_57 ?_
        exact z_weak [1, 0] rfl (S_X11_wall_58   e)
      · rw [if_pos c4121] at e
        refine z_iconst (v := 0) dX11_wall_51 (by decide) ?_
        refine z_goto (tgt := 58) dX11_wall_52 (by decide) ?_
        exact z_weak [1, 0] rfl (S_X11_wall_58   e)
    · rw [if_pos c4115] at e
      exact z_weak [0] rfl (S_X11_wall_22   e)
