theorem dX11_couples_0 : decode cX11_couples 0 = .ok (.aload_n 0, 1) := by decide +kernel
theorem dX11_couples_1 : decode cX11_couples 1 = .ok (.iconst 0, 1) := by decide +kernel
theorem dX11_couples_2 : decode cX11_couples 2 = .ok (.putfield 166, 3) := by decide +kernel
theorem dX11_couples_5 : decode cX11_couples 5 = .ok (.iload_n 1, 1) := by decide +kernel
theorem dX11_couples_6 : decode cX11_couples 6 = .ok (.i2l, 1) := by decide +kernel
theorem dX11_couples_7 : decode cX11_couples 7 = .ok (.lconst 0, 1) := by decide +kernel
theorem dX11_couples_8 : decode cX11_couples 8 = .ok (.aload_n 0, 1) := by decide +kernel
theorem dX11_couples_9 : decode cX11_couples 9 = .ok (.getfield 13, 3) := by decide +kernel
theorem dX11_couples_12 : decode cX11_couples 12 = .ok (.iconst 0, 1) := by decide +kernel
theorem dX11_couples_13 : decode cX11_couples 13 = .ok (.iaload, 1) := by decide +kernel
theorem dX11_couples_14 : decode cX11_couples 14 = .ok (.i2l, 1) := by decide +kernel
theorem dX11_couples_15 : decode cX11_couples 15 = .ok (.invokestatic 186, 3) := by decide +kernel
theorem dX11_couples_18 : decode cX11_couples 18 = .ok (.ifCond .ne 5, 3) := by decide +kernel
theorem dX11_couples_21 : decode cX11_couples 21 = .ok (.iconst (-1), 1) := by decide +kernel
theorem dX11_couples_22 : decode cX11_couples 22 = .ok (.ireturn, 1) := by decide +kernel
theorem dX11_couples_23 : decode cX11_couples 23 = .ok (.aload_n 0, 1) := by decide +kernel
theorem dX11_couples_24 : decode cX11_couples 24 = .ok (.invokevirtual 511, 3) := by decide +kernel
theorem dX11_couples_27 : decode cX11_couples 27 = .ok (.istore_n 2, 1) := by decide +kernel
theorem dX11_couples_28 : decode cX11_couples 28 = .ok (.iload_n 1, 1) := by decide +kernel
theorem dX11_couples_29 : decode cX11_couples 29 = .ok (.ifCond .ne 7, 3) := by decide +kernel
theorem dX11_couples_32 : decode cX11_couples 32 = .ok (.iload_n 2, 1) := by decide +kernel
theorem dX11_couples_33 : decode cX11_couples 33 = .ok (.goto 11, 3) := by decide +kernel
theorem dX11_couples_36 : decode cX11_couples 36 = .ok (.aload_n 0, 1) := by decide +kernel
theorem dX11_couples_37 : decode cX11_couples 37 = .ok (.getfield 135, 3) := by decide +kernel
theorem dX11_couples_40 : decode cX11_couples 40 = .ok (.iload_n 1, 1) := by decide +kernel
theorem dX11_couples_41 : decode cX11_couples 41 = .ok (.iconst 1, 1) := by decide +kernel
theorem dX11_couples_42 : decode cX11_couples 42 = .ok (.isub, 1) := by decide +kernel
theorem dX11_couples_43 : decode cX11_couples 43 = .ok (.iaload, 1) := by decide +kernel
theorem dX11_couples_44 : decode cX11_couples 44 = .ok (.ireturn, 1) := by decide +kernel
def D_X11_couples (h : z_H) (l0 : Option Nat) (l1 : Int32) : Option (Int32 × z_H) :=
  (z_pV 11 h l0 0 (.int (0:Int32))).bind fun h1676 =>
  (z_gQ 11 h1676 l0 3).bind fun x1677 =>
  (z_aI .int h1676 x1677 (0:Int32)).bind fun x1678 =>
  (D_X11_in  h1676 (Int32.toInt64 l1) (0:Int64) (Int32.toInt64 x1678)).bind fun p1679 =>
  if p1679.1 = 0 then
    some ((-1:Int32), p1679.2)
  else
    (z_ob 11 p1679.2 l0).bind fun _ =>
    (D_X11_findCouples  p1679.2 l0).bind fun p1681 =>
    if l1 = 0 then
      some (p1681.1, p1681.2)
    else
      (z_gQ 11 p1681.2 l0 48).bind fun x1684 =>
      (z_aI .int p1681.2 x1684 (l1 - (1:Int32))).bind fun x1685 =>
      some (x1685, p1681.2)
set_option maxRecDepth 100000 in
set_option maxHeartbeats 4000000 in
theorem S_X11_couples {G : z_G} {l : Launch} {h : z_H} {l0 : Option Nat} {l1 : Int32} {res : (Int32 × z_H)} (e : D_X11_couples h l0 l1 = some res) : z_Meth G l 7 M_X11_couples [z_r l0, .int l1] h res.2 (some (.int res.1)) := by
  refine z_Meth.of ck_X11_couples.2.2.2.2 (by simp [lg_sl, z_ci, z_cj, z_cr, z_cx]) ck_X11_couples.1 ?_
  rw [show lv_args 0 [z_r l0, .int l1] = [(0, z_r l0), (1, .int l1)] from by simp [lv_args, z_ci, z_cj, z_cr, z_cx]]
  unfold D_X11_couples at e
  refine z_aload_n 0 dX11_couples_0 rfl ?_
  refine z_iconst (v := 0) dX11_couples_1 (by decide) ?_
  replace e := z_bd e; obtain ⟨h1676, eh1676, e⟩ := e
  refine z_putV eh1676 lk_X11_166 wk_11_0 (fun _ => rfl) (fun _ => rfl) dX11_couples_2 ?_
  refine z_iload_n 1 dX11_couples_5 rfl ?_
  refine z_i2l dX11_couples_6 ?_
  refine z_lconst (v := 0) dX11_couples_7 (by decide) ?_
  refine z_aload_n 0 dX11_couples_8 rfl ?_
  replace e := z_bd e; obtain ⟨x1677, ex1677, e⟩ := e
  refine z_getQ ex1677 lk_X11_13 dX11_couples_9 ?_
  refine z_iconst (v := 0) dX11_couples_12 (by decide) ?_
  replace e := z_bd e; obtain ⟨x1678, ex1678, e⟩ := e
  refine z_iald ex1678 dX11_couples_13 ?_
  refine z_i2l dX11_couples_14 ?_
  replace e := z_bd e; obtain ⟨p1679, ep1679, e⟩ := e
  refine z_cS [.long (Int32.toInt64 l1), .long (0:Int64), .long (Int32.toInt64 x1678)] (S_X11_in  ep1679) ml_X11_186 ck_X11_in st_X11_in dX11_couples_15 (by decide) rfl (Nat.zero_le _) rfl ?_
  refine z_if_ne (tgt := 23) dX11_couples_18 (by decide) (fun c1680 => ?_) (fun c1680 => ?_)
  · rw [if_neg c1680] at e
    refine z_aload_n 0 dX11_couples_23 rfl ?_
    replace e := z_bd e; obtain ⟨o1682, eo1682, e⟩ := e
    replace e := z_bd e; obtain ⟨p1681, ep1681, e⟩ := e
    refine z_cV [] (S_X11_findCouples  ep1681) eo1682 rfl ml_X11_511 ck_X11_findCouples vk_X11_findCouples dX11_couples_24 (by decide) rfl (Nat.zero_le _) rfl ?_
    refine z_istore_n (L' := [(2, .int p1681.1), (0, z_r l0), (1, .int l1)]) dX11_couples_27 rfl (by decide) rfl ?_
    refine z_iload_n 2 dX11_couples_28 rfl ?_
    refine z_if_ne (tgt := 36) dX11_couples_29 (by decide) (fun c1683 => ?_) (fun c1683 => ?_)
    · rw [if_neg c1683] at e
      refine z_aload_n 1 dX11_couples_36 rfl ?_
      replace e := z_bd e; obtain ⟨x1684, ex1684, e⟩ := e
      refine z_getQ ex1684 lk_X11_135 dX11_couples_37 ?_
      refine z_iload_n 2 dX11_couples_40 rfl ?_
      refine z_iconst (v := 1) dX11_couples_41 (by decide) ?_
      refine z_isub dX11_couples_42 ?_
      replace e := z_bd e; obtain ⟨x1685, ex1685, e⟩ := e
      refine z_iald ex1685 dX11_couples_43 ?_
      cases e
      exact z_iret dX11_couples_44 rfl
    · rw [if_pos c1683] at e
      refine z_iload_n 0 dX11_couples_32 rfl ?_
      refine z_goto (tgt := 44) dX11_couples_33 (by decide) ?_
      cases e
      exact z_iret dX11_couples_44 rfl
  · rw [if_pos c1680] at e
    refine z_iconst (v := -1) dX11_couples_21 (by decide) ?_
    cases e
    exact z_iret dX11_couples_22 rfl
theorem dX10_isCell_0 : decode cX10_isCell 0 = .ok (.iload_n 0, 1) := by decide +kernel
theorem dX10_isCell_1 : decode cX10_isCell 1 = .ok (.ifCond .lt 13, 3) := by decide +kernel
theorem dX10_isCell_4 : decode cX10_isCell 4 = .ok (.iload_n 0, 1) := by decide +kernel
theorem dX10_isCell_5 : decode cX10_isCell 5 = .ok (.bipush 25, 2) := by decide +kernel
theorem dX10_isCell_7 : decode cX10_isCell 7 = .ok (.if_icmp .ge 7, 3) := by decide +kernel
theorem dX10_isCell_10 : decode cX10_isCell 10 = .ok (.iconst 1, 1) := by decide +kernel
theorem dX10_isCell_11 : decode cX10_isCell 11 = .ok (.goto 4, 3) := by decide +kernel
theorem dX10_isCell_14 : decode cX10_isCell 14 = .ok (.iconst 0, 1) := by decide +kernel
theorem dX10_isCell_15 : decode cX10_isCell 15 = .ok (.ireturn, 1) := by decide +kernel
def D_X10_isCell (h : z_H) (l0 : Int32) : Option (Int32 × z_H) :=
  if l0 < 0 then
    some ((0:Int32), h)
  else
    if (25:Int32) ≤ l0 then
      some ((0:Int32), h)
    else
      some ((1:Int32), h)
set_option maxRecDepth 100000 in
set_option maxHeartbeats 4000000 in
theorem S_X10_isCell {G : z_G} {l : Launch} {h : z_H} {l0 : Int32} {res : (Int32 × z_H)} (e : D_X10_isCell h l0 = some res) : z_Meth G l 4 M_X10_isCell [.int l0] h res.2 (some (.int res.1)) := by
  refine z_Meth.of ck_X10_isCell.2.2.2.2 (by simp [lg_sl, z_ci, z_cj, z_cr, z_cx]) ck_X10_isCell.1 ?_
  rw [show lv_args 0 [.int l0] = [(0, .int l0)] from rfl]
  unfold D_X10_isCell at e
  refine z_iload_n 0 dX10_isCell_0 rfl ?_
  refine z_if_lt (tgt := 14) dX10_isCell_1 (by decide) (fun c1686 => ?_) (fun c1686 => ?_)
  · rw [if_pos c1686] at e
    refine z_iconst (v := 0) dX10_isCell_14 (by decide) ?_
    cases e
    exact z_zret dX10_isCell_15 rfl (by decide)
  · rw [if_neg c1686] at e
    refine z_iload_n 0 dX10_isCell_4 rfl ?_
    refine z_bipush (v := 25) dX10_isCell_5 (by decide) ?_
    refine z_icmp_ge (tgt := 14) dX10_isCell_7 (by decide) (fun c1687 => ?_) (fun c1687 => ?_)
    · rw [if_pos c1687] at e
      refine z_iconst (v := 0) dX10_isCell_14 (by decide) ?_
      cases e
      exact z_zret dX10_isCell_15 rfl (by decide)
    · rw [if_neg c1687] at e
      refine z_iconst (v := 1) dX10_isCell_10 (by decide) ?_
      refine z_goto (tgt := 15) dX10_isCell_11 (by decide) ?_
      cases e
      exact z_zret dX10_isCell_15 rfl (by decide)
theorem dX4_layOut_0 : decode cX4_layOut 0 = .ok (.iconst 0, 1) := by decide +kernel
theorem dX4_layOut_1 : decode cX4_layOut 1 = .ok (.istore_n 3, 1) := by decide +kernel
theorem dX4_layOut_2 : decode cX4_layOut 2 = .ok (.iload_n 3, 1) := by decide +kernel
theorem dX4_layOut_3 : decode cX4_layOut 3 = .ok (.bipush 100, 2) := by decide +kernel
theorem dX4_layOut_5 : decode cX4_layOut 5 = .ok (.if_icmp .ge 45, 3) := by decide +kernel
theorem dX4_layOut_8 : decode cX4_layOut 8 = .ok (.aload_n 0, 1) := by decide +kernel
theorem dX4_layOut_9 : decode cX4_layOut 9 = .ok (.getfield 38, 3) := by decide +kernel
theorem dX4_layOut_12 : decode cX4_layOut 12 = .ok (.aload_n 1, 1) := by decide +kernel
theorem dX4_layOut_13 : decode cX4_layOut 13 = .ok (.iload_n 2, 1) := by decide +kernel
theorem dX4_layOut_14 : decode cX4_layOut 14 = .ok (.iload_n 3, 1) := by decide +kernel
theorem dX4_layOut_15 : decode cX4_layOut 15 = .ok (.invokevirtual 42, 3) := by decide +kernel
theorem dX4_layOut_18 : decode cX4_layOut 18 = .ok (.istore 4, 2) := by decide +kernel
theorem dX4_layOut_20 : decode cX4_layOut 20 = .ok (.aload_n 0, 1) := by decide +kernel
theorem dX4_layOut_21 : decode cX4_layOut 21 = .ok (.getfield 9, 3) := by decide +kernel
theorem dX4_layOut_24 : decode cX4_layOut 24 = .ok (.iload_n 3, 1) := by decide +kernel
theorem dX4_layOut_25 : decode cX4_layOut 25 = .ok (.iload 4, 2) := by decide +kernel
theorem dX4_layOut_27 : decode cX4_layOut 27 = .ok (.iconst (-1), 1) := by decide +kernel
theorem dX4_layOut_28 : decode cX4_layOut 28 = .ok (.if_icmp .ne 7, 3) := by decide +kernel
theorem dX4_layOut_31 : decode cX4_layOut 31 = .ok (.iconst (-1), 1) := by decide +kernel
theorem dX4_layOut_32 : decode cX4_layOut 32 = .ok (.goto 11, 3) := by decide +kernel
theorem dX4_layOut_35 : decode cX4_layOut 35 = .ok (.iload 4, 2) := by decide +kernel
theorem dX4_layOut_37 : decode cX4_layOut 37 = .ok (.iconst 4, 1) := by decide +kernel
theorem dX4_layOut_38 : decode cX4_layOut 38 = .ok (.imul, 1) := by decide +kernel
theorem dX4_layOut_39 : decode cX4_layOut 39 = .ok (.iload_n 3, 1) := by decide +kernel
theorem dX4_layOut_40 : decode cX4_layOut 40 = .ok (.iconst 4, 1) := by decide +kernel
theorem dX4_layOut_41 : decode cX4_layOut 41 = .ok (.irem, 1) := by decide +kernel
theorem dX4_layOut_42 : decode cX4_layOut 42 = .ok (.iadd, 1) := by decide +kernel
theorem dX4_layOut_43 : decode cX4_layOut 43 = .ok (.iastore, 1) := by decide +kernel
theorem dX4_layOut_44 : decode cX4_layOut 44 = .ok (.iinc 3 1, 3) := by decide +kernel
theorem dX4_layOut_47 : decode cX4_layOut 47 = .ok (.goto (-45), 3) := by decide +kernel
theorem dX4_layOut_50 : decode cX4_layOut 50 = .ok (.return_, 1) := by decide +kernel
def D_X4_layOut_43 (k2 : z_H → Option Nat → Option Nat → Int32 → Int32 → Option z_H) (h : z_H) (l0 : Option Nat) (l1 : Option Nat) (l2 : Int32) (l3 : Int32) (s0 : Option Nat) (s1 : Int32) (s2 : Int32) : Option z_H :=
  (z_sI h s0 s1 s2).bind fun h1688 =>
  (some (l3 + (1:Int32))).bind fun x1689 =>
  k2 h1688 l0 l1 l2 x1689
set_option maxRecDepth 100000 in
set_option maxHeartbeats 4000000 in
theorem S_X4_layOut_43 {G : z_G} {l : Launch} {k2 : z_H → Option Nat → Option Nat → Int32 → Int32 → Option z_H} (hk2 : ∀ {h : z_H} {l0 : Option Nat} {l1 : Option Nat} {l2 : Int32} {l3 : Int32} {res : z_H}, k2 h l0 l1 l2 l3 = some res → z_Run G l 8 M_X4_layOut 2 [(0, z_r l0), (1, z_r l1), (2, .int l2), (3, .int l3)] [] h res none) {h : z_H} {l0 : Option Nat} {l1 : Option Nat} {l2 : Int32} {l3 : Int32} {s0 : Option Nat} {s1 : Int32} {s2 : Int32} {res : z_H} (e : D_X4_layOut_43 k2 h l0 l1 l2 l3 s0 s1 s2 = some res) : z_Run G l 8 M_X4_layOut 43 [(0, z_r l0), (1, z_r l1), (2, .int l2), (3, .int l3)] [.int s2, .int s1, z_r s0] h res none := by
  unfold D_X4_layOut_43 at e
  replace e := z_bd e; obtain ⟨h1688, eh1688, e⟩ := e
  refine z_iast eh1688 dX4_layOut_43 ?_
  replace e := z_bd e; obtain ⟨x1689, ex1689, e⟩ := e
  refine z_iinc (q := 3) (v := x1689) (L' := [(3, .int x1689), (0, z_r l0), (1, z_r l1), (2, .int l2)]) dX4_layOut_44 rfl (Option.some.inj ex1689) (by decide) rfl ?_
  refine z_goto (tgt := 2) dX4_layOut_47 (by decide) ?_
  exact z_weak [1, 2, 3, 0] rfl (hk2 e)
def D_X4_layOut_2b (k2 : z_H → Option Nat → Option Nat → Int32 → Int32 → Option z_H) (h : z_H) (l0 : Option Nat) (l1 : Option Nat) (l2 : Int32) (l3 : Int32) : Option z_H :=
  if (100:Int32) ≤ l3 then
    some h
  else
    (z_gQ 4 h l0 0).bind fun x1691 =>
    (z_ob 1 h x1691).bind fun _ =>
    (D_X1_target  h x1691 l1 l2 l3).bind fun p1692 =>
    (z_gQ 4 p1692.2 l0 1).bind fun x1694 =>
    if p1692.1 = (-1:Int32) then
      D_X4_layOut_43  k2 p1692.2 l0 l1 l2 l3 x1694 l3 (-1:Int32)
    else
      D_X4_layOut_43  k2 p1692.2 l0 l1 l2 l3 x1694 l3 ((p1692.1 * (4:Int32)) + (l3 - l3 / (4:Int32) * (4:Int32)))
def D_X4_layOut_2 (n : Nat) : z_H → Option Nat → Option Nat → Int32 → Int32 → Option z_H := Nat.rec (motive := fun _ => z_H → Option Nat → Option Nat → Int32 → Int32 → Option z_H) (fun _ _ _ _ _ => none) (fun _ k => D_X4_layOut_2b  k) n
set_option maxRecDepth 100000 in
set_option maxHeartbeats 4000000 in
theorem S_X4_layOut_2 {G : z_G} {l : Launch}  (n : Nat) : ∀ {h : z_H} {l0 : Option Nat} {l1 : Option Nat} {l2 : Int32} {l3 : Int32} {res : z_H}, D_X4_layOut_2  n h l0 l1 l2 l3 = some res → z_Run G l 8 M_X4_layOut 2 [(0, z_r l0), (1, z_r l1), (2, .int l2), (3, .int l3)] [] h res none := by
  induction n with
  | zero => intro h l0 l1 l2 l3 res e; cases e
  | succ n hk2 =>
    intro h l0 l1 l2 l3 res e
    replace e : D_X4_layOut_2b  (D_X4_layOut_2  n) h l0 l1 l2 l3 = some res := e
    unfold D_X4_layOut_2b at e
    refine z_iload_n 3 dX4_layOut_2 rfl ?_
    refine z_bipush (v := 100) dX4_layOut_3 (by decide) ?_
    refine z_icmp_ge (tgt := 50) dX4_layOut_5 (by decide) (fun c1690 => ?_) (fun c1690 => ?_)
    · rw [if_pos c1690] at e
      cases e
      exact z_vret dX4_layOut_50 rfl
    · rw [if_neg c1690] at e
      refine z_aload_n 0 dX4_layOut_8 rfl ?_
      replace e := z_bd e; obtain ⟨x1691, ex1691, e⟩ := e
      refine z_getQ ex1691 lk_X4_38 dX4_layOut_9 ?_
      refine z_aload_n 1 dX4_layOut_12 rfl ?_
      refine z_iload_n 2 dX4_layOut_13 rfl ?_
      refine z_iload_n 3 dX4_layOut_14 rfl ?_
      replace e := z_bd e; obtain ⟨o1693, eo1693, e⟩ := e
      replace e := z_bd e; obtain ⟨p1692, ep1692, e⟩ := e
      refine z_cV [z_r l1, .int l2, .int l3] (S_X1_target  ep1692) eo1693 rfl ml_X4_42 ck_X1_target vk_X1_target dX4_layOut_15 (by decide) rfl (Nat.zero_le _) rfl ?_
      refine z_istore (L' := [(4, .int p1692.1), (0, z_r l0), (1, z_r l1), (2, .int l2), (3, .int l3)]) dX4_layOut_18 (by decide) rfl ?_
      refine z_aload_n 1 dX4_layOut_20 rfl ?_
      replace e := z_bd e; obtain ⟨x1694, ex1694, e⟩ := e
      refine z_getQ ex1694 lk_X4_9 dX4_layOut_21 ?_
      refine z_iload_n 4 dX4_layOut_24 rfl ?_
      refine z_iload 0 dX4_layOut_25 rfl ?_
      refine z_iconst (v := -1) dX4_layOut_27 (by decide) ?_
      refine z_icmp_ne (tgt := 35) dX4_layOut_28 (by decide) (fun c1695 => ?_) (fun c1695 => ?_)
      · rw [if_neg c1695] at e
        refine z_iload 0 dX4_layOut_35 rfl ?_
        refine z_iconst (v := 4) dX4_layOut_37 (by decide) ?_
        refine z_imul dX4_layOut_38 ?_
        refine z_iload_n 4 dX4_layOut_39 rfl ?_
        refine z_iconst (v := 4) dX4_layOut_40 (by decide) ?_
        refine z_irem dX4_layOut_41 (by decide) ?_
        refine z_iadd dX4_layOut_42 ?_
        exact z_weak [1, 2, 3, 4] rfl (S_X4_layOut_43  @hk2 e)
      · rw [if_pos c1695] at e
        refine z_iconst (v := -1) dX4_layOut_31 (by decide) ?_
        refine z_goto (tgt := 43) dX4_layOut_32 (by decide) ?_
        exact z_weak [1, 2, 3, 4] rfl (S_X4_layOut_43  @hk2 e)
def D_X4_layOut (h : z_H) (l0 : Option Nat) (l1 : Option Nat) (l2 : Int32) : Option z_H :=
  D_X4_layOut_2   z_F h l0 l1 l2 (0:Int32)
set_option maxRecDepth 100000 in
set_option maxHeartbeats 4000000 in
theorem S_X4_layOut {G : z_G} {l : Launch} {h : z_H} {l0 : Option Nat} {l1 : Option Nat} {l2 : Int32} {res : z_H} (e : D_X4_layOut h l0 l1 l2 = some res) : z_Meth G l 8 M_X4_layOut [z_r l0, z_r l1, .int l2] h res none := by
  refine z_Meth.of ck_X4_layOut.2.2.2.2 (by simp [lg_sl, z_ci, z_cj, z_cr, z_cx]) ck_X4_layOut.1 ?_
  rw [show lv_args 0 [z_r l0, z_r l1, .int l2] = [(0, z_r l0), (1, z_r l1), (2, .int l2)] from by simp [lv_args, z_ci, z_cj, z_cr, z_cx]]
  unfold D_X4_layOut at e
  refine z_iconst (v := 0) dX4_layOut_0 (by decide) ?_
  refine z_istore_n (L' := [(3, .int (0:Int32)), (0, z_r l0), (1, z_r l1), (2, .int l2)]) dX4_layOut_1 rfl (by decide) rfl ?_
  exact z_weak [1, 2, 3, 0] rfl (S_X4_layOut_2   z_F e)
theorem dX4_reach_0 : decode cX4_reach 0 = .ok (.iload_n 1, 1) := by decide +kernel
theorem dX4_reach_1 : decode cX4_reach 1 = .ok (.iconst (-1), 1) := by decide +kernel
theorem dX4_reach_2 : decode cX4_reach 2 = .ok (.if_icmp .eq 23, 3) := by decide +kernel
theorem dX4_reach_5 : decode cX4_reach 5 = .ok (.aload_n 0, 1) := by decide +kernel
theorem dX4_reach_6 : decode cX4_reach 6 = .ok (.getfield 24, 3) := by decide +kernel
theorem dX4_reach_9 : decode cX4_reach 9 = .ok (.iload_n 1, 1) := by decide +kernel
theorem dX4_reach_10 : decode cX4_reach 10 = .ok (.iaload, 1) := by decide +kernel
theorem dX4_reach_11 : decode cX4_reach 11 = .ok (.ldc 56, 2) := by decide +kernel
theorem dX4_reach_13 : decode cX4_reach 13 = .ok (.if_icmp .ne 12, 3) := by decide +kernel
theorem dX4_reach_16 : decode cX4_reach 16 = .ok (.aload_n 0, 1) := by decide +kernel
theorem dX4_reach_17 : decode cX4_reach 17 = .ok (.getfield 31, 3) := by decide +kernel
theorem dX4_reach_20 : decode cX4_reach 20 = .ok (.bipush 100, 2) := by decide +kernel
theorem dX4_reach_22 : decode cX4_reach 22 = .ok (.if_icmp .lt 4, 3) := by decide +kernel
theorem dX4_reach_25 : decode cX4_reach 25 = .ok (.return_, 1) := by decide +kernel
theorem dX4_reach_26 : decode cX4_reach 26 = .ok (.aload_n 0, 1) := by decide +kernel
theorem dX4_reach_27 : decode cX4_reach 27 = .ok (.getfield 24, 3) := by decide +kernel
theorem dX4_reach_30 : decode cX4_reach 30 = .ok (.iload_n 1, 1) := by decide +kernel
theorem dX4_reach_31 : decode cX4_reach 31 = .ok (.iload_n 2, 1) := by decide +kernel
theorem dX4_reach_32 : decode cX4_reach 32 = .ok (.iastore, 1) := by decide +kernel
theorem dX4_reach_33 : decode cX4_reach 33 = .ok (.aload_n 0, 1) := by decide +kernel
theorem dX4_reach_34 : decode cX4_reach 34 = .ok (.getfield 18, 3) := by decide +kernel
theorem dX4_reach_37 : decode cX4_reach 37 = .ok (.iload_n 1, 1) := by decide +kernel
theorem dX4_reach_38 : decode cX4_reach 38 = .ok (.iload_n 3, 1) := by decide +kernel
theorem dX4_reach_39 : decode cX4_reach 39 = .ok (.iastore, 1) := by decide +kernel
theorem dX4_reach_40 : decode cX4_reach 40 = .ok (.aload_n 0, 1) := by decide +kernel
theorem dX4_reach_41 : decode cX4_reach 41 = .ok (.getfield 21, 3) := by decide +kernel
theorem dX4_reach_44 : decode cX4_reach 44 = .ok (.iload_n 1, 1) := by decide +kernel
theorem dX4_reach_45 : decode cX4_reach 45 = .ok (.iload 4, 2) := by decide +kernel
theorem dX4_reach_47 : decode cX4_reach 47 = .ok (.iastore, 1) := by decide +kernel
theorem dX4_reach_48 : decode cX4_reach 48 = .ok (.aload_n 0, 1) := by decide +kernel
theorem dX4_reach_49 : decode cX4_reach 49 = .ok (.getfield 15, 3) := by decide +kernel
theorem dX4_reach_52 : decode cX4_reach 52 = .ok (.aload_n 0, 1) := by decide +kernel
theorem dX4_reach_53 : decode cX4_reach 53 = .ok (.getfield 31, 3) := by decide +kernel
theorem dX4_reach_56 : decode cX4_reach 56 = .ok (.iload_n 1, 1) := by decide +kernel
theorem dX4_reach_57 : decode cX4_reach 57 = .ok (.iastore, 1) := by decide +kernel
theorem dX4_reach_58 : decode cX4_reach 58 = .ok (.aload_n 0, 1) := by decide +kernel
theorem dX4_reach_59 : decode cX4_reach 59 = .ok (.dup, 1) := by decide +kernel
theorem dX4_reach_60 : decode cX4_reach 60 = .ok (.getfield 31, 3) := by decide +kernel
theorem dX4_reach_63 : decode cX4_reach 63 = .ok (.iconst 1, 1) := by decide +kernel
theorem dX4_reach_64 : decode cX4_reach 64 = .ok (.iadd, 1) := by decide +kernel
theorem dX4_reach_65 : decode cX4_reach 65 = .ok (.putfield 31, 3) := by decide +kernel
theorem dX4_reach_68 : decode cX4_reach 68 = .ok (.return_, 1) := by decide +kernel
def D_X4_reach (h : z_H) (l0 : Option Nat) (l1 : Int32) (l2 : Int32) (l3 : Int32) (l4 : Int32) : Option z_H :=
  if l1 = (-1:Int32) then
    some h
  else
    (z_gQ 4 h l0 5).bind fun x1697 =>
    (z_aI .int h x1697 l1).bind fun x1698 =>
    if x1698 = (1000000:Int32) then
      (z_gI 4 h l0 7).bind fun x1700 =>
      if x1700 < (100:Int32) then
        (z_gQ 4 h l0 5).bind fun x1702 =>
        (z_sI h x1702 l1 l2).bind fun h1703 =>
        (z_gQ 4 h1703 l0 3).bind fun x1704 =>
        (z_sI h1703 x1704 l1 l3).bind fun h1705 =>
        (z_gQ 4 h1705 l0 4).bind fun x1706 =>
        (z_sI h1705 x1706 l1 l4).bind fun h1707 =>
        (z_gQ 4 h1707 l0 2).bind fun x1708 =>
        (z_gI 4 h1707 l0 7).bind fun x1709 =>
        (z_sI h1707 x1708 x1709 l1).bind fun h1710 =>
        (z_gI 4 h1710 l0 7).bind fun x1711 =>
        (z_pV 4 h1710 l0 7 (.int (x1711 + (1:Int32)))).bind fun h1712 =>
        some h1712
      else
        some h
    else
      some h
set_option maxRecDepth 100000 in
set_option maxHeartbeats 4000000 in
theorem S_X4_reach {G : z_G} {l : Launch} {h : z_H} {l0 : Option Nat} {l1 : Int32} {l2 : Int32} {l3 : Int32} {l4 : Int32} {res : z_H} (e : D_X4_reach h l0 l1 l2 l3 l4 = some res) : z_Meth G l 4 M_X4_reach [z_r l0, .int l1, .int l2, .int l3, .int l4] h res none := by
  refine z_Meth.of ck_X4_reach.2.2.2.2 (by simp [lg_sl, z_ci, z_cj, z_cr, z_cx]) ck_X4_reach.1 ?_
  rw [show lv_args 0 [z_r l0, .int l1, .int l2, .int l3, .int l4] = [(0, z_r l0), (1, .int l1), (2, .int l2), (3, .int l3), (4, .int l4)] from by simp [lv_args, z_ci, z_cj, z_cr, z_cx]]
  unfold D_X4_reach at e
  refine z_iload_n 1 dX4_reach_0 rfl ?_
  refine z_iconst (v := -1) dX4_reach_1 (by decide) ?_
  refine z_icmp_eq (tgt := 25) dX4_reach_2 (by decide) (fun c1696 => ?_) (fun c1696 => ?_)
  · rw [if_pos c1696] at e
    cases e
    exact z_vret dX4_reach_25 rfl
  · rw [if_neg c1696] at e
    refine z_aload_n 0 dX4_reach_5 rfl ?_
    replace e := z_bd e; obtain ⟨x1697, ex1697, e⟩ := e
    refine z_getQ ex1697 lk_X4_24 dX4_reach_6 ?_
    refine z_iload_n 1 dX4_reach_9 rfl ?_
    replace e := z_bd e; obtain ⟨x1698, ex1698, e⟩ := e
    refine z_iald ex1698 dX4_reach_10 ?_
    refine z_ldc dX4_reach_11 kc_X4_56 ?_
    refine z_icmp_ne (tgt := 25) dX4_reach_13 (by decide) (fun c1699 => ?_) (fun c1699 => ?_)
    · rw [if_neg c1699] at e
      cases e
      exact z_vret dX4_reach_25 rfl
    · rw [if_pos c1699] at e
      refine z_aload_n 0 dX4_reach_16 rfl ?_
      replace e := z_bd e; obtain ⟨x1700, ex1700, e⟩ := e
      refine z_getI ex1700 lk_X4_31 dX4_reach_17 ?_
      refine z_bipush (v := 100) dX4_reach_20 (by decide) ?_
      refine z_icmp_lt (tgt := 26) dX4_reach_22 (by decide) (fun c1701 => ?_) (fun c1701 => ?_)
      · rw [if_pos c1701] at e
        refine z_aload_n 0 dX4_reach_26 rfl ?_
        replace e := z_bd e; obtain ⟨x1702, ex1702, e⟩ := e
        refine z_getQ ex1702 lk_X4_24 dX4_reach_27 ?_
        refine z_iload_n 1 dX4_reach_30 rfl ?_
        refine z_iload_n 2 dX4_reach_31 rfl ?_
        replace e := z_bd e; obtain ⟨h1703, eh1703, e⟩ := e
        refine z_iast eh1703 dX4_reach_32 ?_
        refine z_aload_n 0 dX4_reach_33 rfl ?_
        replace e := z_bd e; obtain ⟨x1704, ex1704, e⟩ := e
        refine z_getQ ex1704 lk_X4_18 dX4_reach_34 ?_
        refine z_iload_n 1 dX4_reach_37 rfl ?_
        refine z_iload_n 3 dX4_reach_38 rfl ?_
        replace e := z_bd e; obtain ⟨h1705, eh1705, e⟩ := e
        refine z_iast eh1705 dX4_reach_39 ?_
        refine z_aload_n 0 dX4_reach_40 rfl ?_
        replace e := z_bd e; obtain ⟨x1706, ex1706, e⟩ := e
        refine z_getQ ex1706 lk_X4_21 dX4_reach_41 ?_
        refine z_iload_n 1 dX4_reach_44 rfl ?_
        refine z_iload 4 dX4_reach_45 rfl ?_
        replace e := z_bd e; obtain ⟨h1707, eh1707, e⟩ := e
        refine z_iast eh1707 dX4_reach_47 ?_
        refine z_aload_n 0 dX4_reach_48 rfl ?_
        replace e := z_bd e; obtain ⟨x1708, ex1708, e⟩ := e
        refine z_getQ ex1708 lk_X4_15 dX4_reach_49 ?_
        refine z_aload_n 0 dX4_reach_52 rfl ?_
        replace e := z_bd e; obtain ⟨x1709, ex1709, e⟩ := e
        refine z_getI ex1709 lk_X4_31 dX4_reach_53 ?_
        refine z_iload_n 1 dX4_reach_56 rfl ?_
        replace e := z_bd e; obtain ⟨h1710, eh1710, e⟩ := e
        refine z_iast eh1710 dX4_reach_57 ?_
        refine z_aload_n 0 dX4_reach_58 rfl ?_
        refine z_dup dX4_reach_59 (z_cr _) ?_
        replace e := z_bd e; obtain ⟨x1711, ex1711, e⟩ := e
        refine z_getI ex1711 lk_X4_31 dX4_reach_60 ?_
        refine z_iconst (v := 1) dX4_reach_63 (by decide) ?_
        refine z_iadd dX4_reach_64 ?_
        replace e := z_bd e; obtain ⟨h1712, eh1712, e⟩ := e
        refine z_putV eh1712 lk_X4_31 wk_4_7 (fun _ => rfl) (fun _ => rfl) dX4_reach_65 ?_
        cases e
        exact z_vret dX4_reach_68 rfl
      · rw [if_neg c1701] at e
        cases e
        exact z_vret dX4_reach_25 rfl
theorem dX4_behind_0 : decode cX4_behind 0 = .ok (.iload_n 2, 1) := by decide +kernel
theorem dX4_behind_1 : decode cX4_behind 1 = .ok (.ifCond .ne 12, 3) := by decide +kernel
theorem dX4_behind_4 : decode cX4_behind 4 = .ok (.aload_n 0, 1) := by decide +kernel
theorem dX4_behind_5 : decode cX4_behind 5 = .ok (.getfield 9, 3) := by decide +kernel
theorem dX4_behind_8 : decode cX4_behind 8 = .ok (.iload_n 1, 1) := by decide +kernel
theorem dX4_behind_9 : decode cX4_behind 9 = .ok (.iaload, 1) := by decide +kernel
theorem dX4_behind_10 : decode cX4_behind 10 = .ok (.goto 18, 3) := by decide +kernel
theorem dX4_behind_13 : decode cX4_behind 13 = .ok (.iload_n 1, 1) := by decide +kernel
theorem dX4_behind_14 : decode cX4_behind 14 = .ok (.iload_n 1, 1) := by decide +kernel
theorem dX4_behind_15 : decode cX4_behind 15 = .ok (.iconst 4, 1) := by decide +kernel
theorem dX4_behind_16 : decode cX4_behind 16 = .ok (.irem, 1) := by decide +kernel
theorem dX4_behind_17 : decode cX4_behind 17 = .ok (.isub, 1) := by decide +kernel
theorem dX4_behind_18 : decode cX4_behind 18 = .ok (.iload_n 1, 1) := by decide +kernel
theorem dX4_behind_19 : decode cX4_behind 19 = .ok (.iconst 4, 1) := by decide +kernel
theorem dX4_behind_20 : decode cX4_behind 20 = .ok (.irem, 1) := by decide +kernel
theorem dX4_behind_21 : decode cX4_behind 21 = .ok (.iload_n 2, 1) := by decide +kernel
theorem dX4_behind_22 : decode cX4_behind 22 = .ok (.iconst 1, 1) := by decide +kernel
theorem dX4_behind_23 : decode cX4_behind 23 = .ok (.isub, 1) := by decide +kernel
theorem dX4_behind_24 : decode cX4_behind 24 = .ok (.invokestatic 48, 3) := by decide +kernel
theorem dX4_behind_27 : decode cX4_behind 27 = .ok (.iadd, 1) := by decide +kernel
theorem dX4_behind_28 : decode cX4_behind 28 = .ok (.ireturn, 1) := by decide +kernel
def D_X4_behind (h : z_H) (l0 : Option Nat) (l1 : Int32) (l2 : Int32) : Option (Int32 × z_H) :=
  if l2 = 0 then
    (z_gQ 4 h l0 1).bind fun x1715 =>
    (z_aI .int h x1715 l1).bind fun x1716 =>
    some (x1716, h)
  else
    (D_X10_turned  h (l1 - l1 / (4:Int32) * (4:Int32)) (l2 - (1:Int32))).bind fun p1714 =>
    some (((l1 - (l1 - l1 / (4:Int32) * (4:Int32))) + p1714.1), p1714.2)
set_option maxRecDepth 100000 in
set_option maxHeartbeats 4000000 in
theorem S_X4_behind {G : z_G} {l : Launch} {h : z_H} {l0 : Option Nat} {l1 : Int32} {l2 : Int32} {res : (Int32 × z_H)} (e : D_X4_behind h l0 l1 l2 = some res) : z_Meth G l 5 M_X4_behind [z_r l0, .int l1, .int l2] h res.2 (some (.int res.1)) := by
  refine z_Meth.of ck_X4_behind.2.2.2.2 (by simp [lg_sl, z_ci, z_cj, z_cr, z_cx]) ck_X4_behind.1 ?_
  rw [show lv_args 0 [z_r l0, .int l1, .int l2] = [(0, z_r l0), (1, .int l1), (2, .int l2)] from by simp [lv_args, z_ci, z_cj, z_cr, z_cx]]
  unfold D_X4_behind at e
  refine z_iload_n 2 dX4_behind_0 rfl ?_
  refine z_if_ne (tgt := 13) dX4_behind_1 (by decide) (fun c1713 => ?_) (fun c1713 => ?_)
  · rw [if_neg c1713] at e
    refine z_iload_n 1 dX4_behind_13 rfl ?_
    refine z_iload_n 1 dX4_behind_14 rfl ?_
    refine z_iconst (v := 4) dX4_behind_15 (by decide) ?_
    refine z_irem dX4_behind_16 (by decide) ?_
    refine z_isub dX4_behind_17 ?_
    refine z_iload_n 1 dX4_behind_18 rfl ?_
    refine z_iconst (v := 4) dX4_behind_19 (by decide) ?_
    refine z_irem dX4_behind_20 (by decide) ?_
    refine z_iload_n 2 dX4_behind_21 rfl ?_
    refine z_iconst (v := 1) dX4_behind_22 (by decide) ?_
    refine z_isub dX4_behind_23 ?_
    replace e := z_bd e; obtain ⟨p1714, ep1714, e⟩ := e
    refine z_cSN (host := "SoleReader") [.int (l1 - l1 / (4:Int32) * (4:Int32)), .int (l2 - (1:Int32))] (S_X10_turned  ep1714) (by decide +kernel) ck_X10_turned st_X10_turned dX4_behind_24 (by decide) rfl (by simp [z_ci, z_cj, z_cr, z_cx]) rfl ?_
    refine z_iadd dX4_behind_27 ?_
    cases e
    exact z_iret dX4_behind_28 rfl
  · rw [if_pos c1713] at e
    refine z_aload_n 0 dX4_behind_4 rfl ?_
    replace e := z_bd e; obtain ⟨x1715, ex1715, e⟩ := e
    refine z_getQ ex1715 lk_X4_9 dX4_behind_5 ?_
    refine z_iload_n 1 dX4_behind_8 rfl ?_
    replace e := z_bd e; obtain ⟨x1716, ex1716, e⟩ := e
    refine z_iald ex1716 dX4_behind_9 ?_
    refine z_goto (tgt := 28) dX4_behind_10 (by decide) ?_
    cases e
    exact z_iret dX4_behind_28 rfl
theorem dX4_shortest_0 : decode cX4_shortest 0 = .ok (.aload_n 0, 1) := by decide +kernel
theorem dX4_shortest_1 : decode cX4_shortest 1 = .ok (.aload_n 1, 1) := by decide +kernel
theorem dX4_shortest_2 : decode cX4_shortest 2 = .ok (.iload_n 2, 1) := by decide +kernel
theorem dX4_shortest_3 : decode cX4_shortest 3 = .ok (.invokevirtual 52, 3) := by decide +kernel
theorem dX4_shortest_6 : decode cX4_shortest 6 = .ok (.aload_n 0, 1) := by decide +kernel
theorem dX4_shortest_7 : decode cX4_shortest 7 = .ok (.getfield 24, 3) := by decide +kernel
theorem dX4_shortest_10 : decode cX4_shortest 10 = .ok (.ldc 56, 2) := by decide +kernel
theorem dX4_shortest_12 : decode cX4_shortest 12 = .ok (.invokestatic 57, 3) := by decide +kernel
theorem dX4_shortest_15 : decode cX4_shortest 15 = .ok (.aload_n 0, 1) := by decide +kernel
theorem dX4_shortest_16 : decode cX4_shortest 16 = .ok (.iconst 0, 1) := by decide +kernel
theorem dX4_shortest_17 : decode cX4_shortest 17 = .ok (.putfield 31, 3) := by decide +kernel
theorem dX4_shortest_20 : decode cX4_shortest 20 = .ok (.aload_n 0, 1) := by decide +kernel
theorem dX4_shortest_21 : decode cX4_shortest 21 = .ok (.iconst (-1), 1) := by decide +kernel
theorem dX4_shortest_22 : decode cX4_shortest 22 = .ok (.putfield 35, 3) := by decide +kernel
theorem dX4_shortest_25 : decode cX4_shortest 25 = .ok (.aload_n 0, 1) := by decide +kernel
theorem dX4_shortest_26 : decode cX4_shortest 26 = .ok (.aload_n 1, 1) := by decide +kernel
theorem dX4_shortest_27 : decode cX4_shortest 27 = .ok (.iload_n 2, 1) := by decide +kernel
theorem dX4_shortest_28 : decode cX4_shortest 28 = .ok (.invokevirtual 63, 3) := by decide +kernel
theorem dX4_shortest_31 : decode cX4_shortest 31 = .ok (.iconst 0, 1) := by decide +kernel
theorem dX4_shortest_32 : decode cX4_shortest 32 = .ok (.iconst (-1), 1) := by decide +kernel
theorem dX4_shortest_33 : decode cX4_shortest 33 = .ok (.iconst (-1), 1) := by decide +kernel
theorem dX4_shortest_34 : decode cX4_shortest 34 = .ok (.invokevirtual 69, 3) := by decide +kernel
theorem dX4_shortest_37 : decode cX4_shortest 37 = .ok (.iconst 0, 1) := by decide +kernel
theorem dX4_shortest_38 : decode cX4_shortest 38 = .ok (.istore 4, 2) := by decide +kernel
theorem dX4_shortest_40 : decode cX4_shortest 40 = .ok (.iload 4, 2) := by decide +kernel
theorem dX4_shortest_42 : decode cX4_shortest 42 = .ok (.aload_n 0, 1) := by decide +kernel
theorem dX4_shortest_43 : decode cX4_shortest 43 = .ok (.getfield 31, 3) := by decide +kernel
theorem dX4_shortest_46 : decode cX4_shortest 46 = .ok (.if_icmp .ge 87, 3) := by decide +kernel
theorem dX4_shortest_49 : decode cX4_shortest 49 = .ok (.iload 4, 2) := by decide +kernel
theorem dX4_shortest_51 : decode cX4_shortest 51 = .ok (.bipush 100, 2) := by decide +kernel
theorem dX4_shortest_53 : decode cX4_shortest 53 = .ok (.if_icmp .ge 80, 3) := by decide +kernel
theorem dX4_shortest_56 : decode cX4_shortest 56 = .ok (.aload_n 0, 1) := by decide +kernel
theorem dX4_shortest_57 : decode cX4_shortest 57 = .ok (.getfield 15, 3) := by decide +kernel
theorem dX4_shortest_60 : decode cX4_shortest 60 = .ok (.iload 4, 2) := by decide +kernel
theorem dX4_shortest_62 : decode cX4_shortest 62 = .ok (.iaload, 1) := by decide +kernel
theorem dX4_shortest_63 : decode cX4_shortest 63 = .ok (.istore 5, 2) := by decide +kernel
theorem dX4_shortest_65 : decode cX4_shortest 65 = .ok (.iload 5, 2) := by decide +kernel
theorem dX4_shortest_67 : decode cX4_shortest 67 = .ok (.iconst 4, 1) := by decide +kernel
theorem dX4_shortest_68 : decode cX4_shortest 68 = .ok (.idiv, 1) := by decide +kernel
theorem dX4_shortest_69 : decode cX4_shortest 69 = .ok (.iload_n 3, 1) := by decide +kernel
theorem dX4_shortest_70 : decode cX4_shortest 70 = .ok (.if_icmp .ne 17, 3) := by decide +kernel
theorem dX4_shortest_73 : decode cX4_shortest 73 = .ok (.aload_n 0, 1) := by decide +kernel
theorem dX4_shortest_74 : decode cX4_shortest 74 = .ok (.iload 5, 2) := by decide +kernel
theorem dX4_shortest_76 : decode cX4_shortest 76 = .ok (.putfield 35, 3) := by decide +kernel
theorem dX4_shortest_79 : decode cX4_shortest 79 = .ok (.aload_n 0, 1) := by decide +kernel
theorem dX4_shortest_80 : decode cX4_shortest 80 = .ok (.getfield 24, 3) := by decide +kernel
theorem dX4_shortest_83 : decode cX4_shortest 83 = .ok (.iload 5, 2) := by decide +kernel
theorem dX4_shortest_85 : decode cX4_shortest 85 = .ok (.iaload, 1) := by decide +kernel
theorem dX4_shortest_86 : decode cX4_shortest 86 = .ok (.ireturn, 1) := by decide +kernel
theorem dX4_shortest_87 : decode cX4_shortest 87 = .ok (.iconst 0, 1) := by decide +kernel
theorem dX4_shortest_88 : decode cX4_shortest 88 = .ok (.istore 6, 2) := by decide +kernel
theorem dX4_shortest_90 : decode cX4_shortest 90 = .ok (.iload 6, 2) := by decide +kernel
theorem dX4_shortest_92 : decode cX4_shortest 92 = .ok (.iconst 3, 1) := by decide +kernel
theorem dX4_shortest_93 : decode cX4_shortest 93 = .ok (.if_icmp .ge 34, 3) := by decide +kernel
theorem dX4_shortest_96 : decode cX4_shortest 96 = .ok (.aload_n 0, 1) := by decide +kernel
theorem dX4_shortest_97 : decode cX4_shortest 97 = .ok (.aload_n 0, 1) := by decide +kernel
theorem dX4_shortest_98 : decode cX4_shortest 98 = .ok (.iload 5, 2) := by decide +kernel
theorem dX4_shortest_100 : decode cX4_shortest 100 = .ok (.iload 6, 2) := by decide +kernel
theorem dX4_shortest_102 : decode cX4_shortest 102 = .ok (.invokevirtual 73, 3) := by decide +kernel
theorem dX4_shortest_105 : decode cX4_shortest 105 = .ok (.aload_n 0, 1) := by decide +kernel
theorem dX4_shortest_106 : decode cX4_shortest 106 = .ok (.getfield 24, 3) := by decide +kernel
theorem dX4_shortest_109 : decode cX4_shortest 109 = .ok (.iload 5, 2) := by decide +kernel
theorem dX4_shortest_111 : decode cX4_shortest 111 = .ok (.iaload, 1) := by decide +kernel
theorem dX4_shortest_112 : decode cX4_shortest 112 = .ok (.iconst 1, 1) := by decide +kernel
theorem dX4_shortest_113 : decode cX4_shortest 113 = .ok (.iadd, 1) := by decide +kernel
theorem dX4_shortest_114 : decode cX4_shortest 114 = .ok (.iload 5, 2) := by decide +kernel
theorem dX4_shortest_116 : decode cX4_shortest 116 = .ok (.iload 6, 2) := by decide +kernel
theorem dX4_shortest_118 : decode cX4_shortest 118 = .ok (.invokevirtual 69, 3) := by decide +kernel
theorem dX4_shortest_121 : decode cX4_shortest 121 = .ok (.iinc 6 1, 3) := by decide +kernel
theorem dX4_shortest_124 : decode cX4_shortest 124 = .ok (.goto (-34), 3) := by decide +kernel
theorem dX4_shortest_127 : decode cX4_shortest 127 = .ok (.iinc 4 1, 3) := by decide +kernel
theorem dX4_shortest_130 : decode cX4_shortest 130 = .ok (.goto (-90), 3) := by decide +kernel
theorem dX4_shortest_133 : decode cX4_shortest 133 = .ok (.iconst (-1), 1) := by decide +kernel
theorem dX4_shortest_134 : decode cX4_shortest 134 = .ok (.ireturn, 1) := by decide +kernel
def D_X4_shortest_90b (k40 : z_H → Option Nat → Int32 → Int32 → Option (Int32 × z_H)) (k90 : z_H → Option Nat → Int32 → Int32 → Int32 → Int32 → Option (Int32 × z_H)) (h : z_H) (l0 : Option Nat) (l3 : Int32) (l4 : Int32) (l5 : Int32) (l6 : Int32) : Option (Int32 × z_H) :=
  if (3:Int32) ≤ l6 then
    (some (l4 + (1:Int32))).bind fun x1718 =>
    k40 h l0 l3 x1718
  else
    (z_ob 4 h l0).bind fun _ =>
    (D_X4_behind  h l0 l5 l6).bind fun p1719 =>
    (z_gQ 4 p1719.2 l0 5).bind fun x1721 =>
    (z_aI .int p1719.2 x1721 l5).bind fun x1722 =>
    (z_ob 4 p1719.2 l0).bind fun _ =>
    (D_X4_reach  p1719.2 l0 p1719.1 (x1722 + (1:Int32)) l5 l6).bind fun p1723 =>
    (some (l6 + (1:Int32))).bind fun x1725 =>
    k90 p1723 l0 l3 l4 l5 x1725
def D_X4_shortest_90 (k40 : z_H → Option Nat → Int32 → Int32 → Option (Int32 × z_H)) (n : Nat) : z_H → Option Nat → Int32 → Int32 → Int32 → Int32 → Option (Int32 × z_H) := Nat.rec (motive := fun _ => z_H → Option Nat → Int32 → Int32 → Int32 → Int32 → Option (Int32 × z_H)) (fun _ _ _ _ _ _ => none) (fun _ k => D_X4_shortest_90b k40 k) n
set_option maxRecDepth 100000 in
set_option maxHeartbeats 4000000 in
theorem S_X4_shortest_90 {G : z_G} {l : Launch} {k40 : z_H → Option Nat → Int32 → Int32 → Option (Int32 × z_H)} (hk40 : ∀ {h : z_H} {l0 : Option Nat} {l3 : Int32} {l4 : Int32} {res : (Int32 × z_H)}, k40 h l0 l3 l4 = some res → z_Run G l 9 M_X4_shortest 40 [(0, z_r l0), (3, .int l3), (4, .int l4)] [] h res.2 (some (.int res.1))) (n : Nat) : ∀ {h : z_H} {l0 : Option Nat} {l3 : Int32} {l4 : Int32} {l5 : Int32} {l6 : Int32} {res : (Int32 × z_H)}, D_X4_shortest_90 k40 n h l0 l3 l4 l5 l6 = some res → z_Run G l 9 M_X4_shortest 90 [(0, z_r l0), (3, .int l3), (4, .int l4), (5, .int l5), (6, .int l6)] [] h res.2 (some (.int res.1)) := by
  induction n with
  | zero => intro h l0 l3 l4 l5 l6 res e; cases e
  | succ n hk90 =>
    intro h l0 l3 l4 l5 l6 res e
    replace e : D_X4_shortest_90b k40 (D_X4_shortest_90 k40 n) h l0 l3 l4 l5 l6 = some res := e
    unfold D_X4_shortest_90b at e
    refine z_iload 4 dX4_shortest_90 rfl ?_
    refine z_iconst (v := 3) dX4_shortest_92 (by decide) ?_
    refine z_icmp_ge (tgt := 127) dX4_shortest_93 (by decide) (fun c1717 => ?_) (fun c1717 => ?_)
    · rw [if_pos c1717] at e
      replace e := z_bd e; obtain ⟨x1718, ex1718, e⟩ := e
      refine z_iinc (q := 2) (v := x1718) (L' := [(4, .int x1718), (0, z_r l0), (3, .int l3), (5, .int l5), (6, .int l6)]) dX4_shortest_127 rfl (Option.some.inj ex1718) (by decide) rfl ?_
      refine z_goto (tgt := 40) dX4_shortest_130 (by decide) ?_
      exact z_weak [1, 2, 0] rfl (hk40 e)
    · rw [if_neg c1717] at e
      refine z_aload_n 0 dX4_shortest_96 rfl ?_
      refine z_aload_n 0 dX4_shortest_97 rfl ?_
      refine z_iload 3 dX4_shortest_98 rfl ?_
      refine z_iload 4 dX4_shortest_100 rfl ?_
      replace e := z_bd e; obtain ⟨o1720, eo1720, e⟩ := e
      replace e := z_bd e; obtain ⟨p1719, ep1719, e⟩ := e
      refine z_cV [.int l5, .int l6] (S_X4_behind  ep1719) eo1720 rfl ml_X4_73 ck_X4_behind vk_X4_behind dX4_shortest_102 (by decide) rfl (by simp [z_ci, z_cj, z_cr, z_cx]) rfl ?_
      refine z_aload_n 0 dX4_shortest_105 rfl ?_
      replace e := z_bd e; obtain ⟨x1721, ex1721, e⟩ := e
      refine z_getQ ex1721 lk_X4_24 dX4_shortest_106 ?_
      refine z_iload 3 dX4_shortest_109 rfl ?_
      replace e := z_bd e; obtain ⟨x1722, ex1722, e⟩ := e
      refine z_iald ex1722 dX4_shortest_111 ?_
      refine z_iconst (v := 1) dX4_shortest_112 (by decide) ?_
      refine z_iadd dX4_shortest_113 ?_
      refine z_iload 3 dX4_shortest_114 rfl ?_
      refine z_iload 4 dX4_shortest_116 rfl ?_
      replace e := z_bd e; obtain ⟨o1724, eo1724, e⟩ := e
      replace e := z_bd e; obtain ⟨p1723, ep1723, e⟩ := e
      refine z_cV [.int p1719.1, .int (x1722 + (1:Int32)), .int l5, .int l6] (S_X4_reach  ep1723) eo1724 rfl ml_X4_69 ck_X4_reach vk_X4_reach dX4_shortest_118 (by decide) rfl (Nat.zero_le _) rfl ?_
      replace e := z_bd e; obtain ⟨x1725, ex1725, e⟩ := e
      refine z_iinc (q := 4) (v := x1725) (L' := [(6, .int x1725), (0, z_r l0), (3, .int l3), (4, .int l4), (5, .int l5)]) dX4_shortest_121 rfl (Option.some.inj ex1725) (by decide) rfl ?_
      refine z_goto (tgt := 90) dX4_shortest_124 (by decide) ?_
      exact z_weak [1, 2, 3, 4, 0] rfl (hk90 e)
def D_X4_shortest_40b (k40 : z_H → Option Nat → Int32 → Int32 → Option (Int32 × z_H)) (h : z_H) (l0 : Option Nat) (l3 : Int32) (l4 : Int32) : Option (Int32 × z_H) :=
  (z_gI 4 h l0 7).bind fun x1726 =>
  if x1726 ≤ l4 then
    some ((-1:Int32), h)
  else
    if (100:Int32) ≤ l4 then
      some ((-1:Int32), h)
    else
      (z_gQ 4 h l0 2).bind fun x1729 =>
      (z_aI .int h x1729 l4).bind fun x1730 =>
      if (x1730 / (4:Int32)) = l3 then
        (z_pV 4 h l0 8 (.int x1730)).bind fun h1732 =>
        (z_gQ 4 h1732 l0 5).bind fun x1733 =>
        (z_aI .int h1732 x1733 x1730).bind fun x1734 =>
        some (x1734, h1732)
      else
        D_X4_shortest_90  k40 z_F h l0 l3 l4 x1730 (0:Int32)
def D_X4_shortest_40 (n : Nat) : z_H → Option Nat → Int32 → Int32 → Option (Int32 × z_H) := Nat.rec (motive := fun _ => z_H → Option Nat → Int32 → Int32 → Option (Int32 × z_H)) (fun _ _ _ _ => none) (fun _ k => D_X4_shortest_40b  k) n
set_option maxRecDepth 100000 in
set_option maxHeartbeats 4000000 in
theorem S_X4_shortest_40 {G : z_G} {l : Launch}  (n : Nat) : ∀ {h : z_H} {l0 : Option Nat} {l3 : Int32} {l4 : Int32} {res : (Int32 × z_H)}, D_X4_shortest_40  n h l0 l3 l4 = some res → z_Run G l 9 M_X4_shortest 40 [(0, z_r l0), (3, .int l3), (4, .int l4)] [] h res.2 (some (.int res.1)) := by
  induction n with
  | zero => intro h l0 l3 l4 res e; cases e
  | succ n hk40 =>
    intro h l0 l3 l4 res e
    replace e : D_X4_shortest_40b  (D_X4_shortest_40  n) h l0 l3 l4 = some res := e
    unfold D_X4_shortest_40b at e
    refine z_iload 2 dX4_shortest_40 rfl ?_
    refine z_aload_n 0 dX4_shortest_42 rfl ?_
    replace e := z_bd e; obtain ⟨x1726, ex1726, e⟩ := e
    refine z_getI ex1726 lk_X4_31 dX4_shortest_43 ?_
    refine z_icmp_ge (tgt := 133) dX4_shortest_46 (by decide) (fun c1727 => ?_) (fun c1727 => ?_)
    · rw [if_pos c1727] at e
      refine z_iconst (v := -1) dX4_shortest_133 (by decide) ?_
      cases e
      exact z_iret dX4_shortest_134 rfl
    · rw [if_neg c1727] at e
      refine z_iload 2 dX4_shortest_49 rfl ?_
      refine z_bipush (v := 100) dX4_shortest_51 (by decide) ?_
      refine z_icmp_ge (tgt := 133) dX4_shortest_53 (by decide) (fun c1728 => ?_) (fun c1728 => ?_)
      · rw [if_pos c1728] at e
        refine z_iconst (v := -1) dX4_shortest_133 (by decide) ?_
        cases e
        exact z_iret dX4_shortest_134 rfl
      · rw [if_neg c1728] at e
        refine z_aload_n 0 dX4_shortest_56 rfl ?_
        replace e := z_bd e; obtain ⟨x1729, ex1729, e⟩ := e
        refine z_getQ ex1729 lk_X4_15 dX4_shortest_57 ?_
        refine z_iload 2 dX4_shortest_60 rfl ?_
        replace e := z_bd e; obtain ⟨x1730, ex1730, e⟩ := e
        refine z_iald ex1730 dX4_shortest_62 ?_
        refine z_istore (L' := [(5, .int x1730), (0, z_r l0), (3, .int l3), (4, .int l4)]) dX4_shortest_63 (by decide) rfl ?_
        refine z_iload 0 dX4_shortest_65 rfl ?_
        refine z_iconst (v := 4) dX4_shortest_67 (by decide) ?_
        refine z_idiv dX4_shortest_68 (by decide) ?_
        refine z_iload_n 2 dX4_shortest_69 rfl ?_
        refine z_icmp_ne (tgt := 87) dX4_shortest_70 (by decide) (fun c1731 => ?_) (fun c1731 => ?_)
        · rw [if_neg c1731] at e
          refine z_iconst (v := 0) dX4_shortest_87 (by decide) ?_
          refine z_istore (L' := [(6, .int (0:Int32)), (5, .int x1730), (0, z_r l0), (3, .int l3), (4, .int l4)]) dX4_shortest_88 (by decide) rfl ?_
          exact z_weak [2, 3, 4, 1, 0] rfl (S_X4_shortest_90  @hk40 z_F e)
        · rw [if_pos c1731] at e
          refine z_aload_n 1 dX4_shortest_73 rfl ?_
          refine z_iload 0 dX4_shortest_74 rfl ?_
          replace e := z_bd e; obtain ⟨h1732, eh1732, e⟩ := e
          refine z_putV eh1732 lk_X4_35 wk_4_8 (fun _ => rfl) (fun _ => rfl) dX4_shortest_76 ?_
          refine z_aload_n 1 dX4_shortest_79 rfl ?_
          replace e := z_bd e; obtain ⟨x1733, ex1733, e⟩ := e
          refine z_getQ ex1733 lk_X4_24 dX4_shortest_80 ?_
          refine z_iload 0 dX4_shortest_83 rfl ?_
          replace e := z_bd e; obtain ⟨x1734, ex1734, e⟩ := e
          refine z_iald ex1734 dX4_shortest_85 ?_
          cases e
          exact z_iret dX4_shortest_86 rfl
def D_X4_shortest (h : z_H) (l0 : Option Nat) (l1 : Option Nat) (l2 : Int32) (l3 : Int32) : Option (Int32 × z_H) :=
  (z_ob 4 h l0).bind fun _ =>
  (D_X4_layOut  h l0 l1 l2).bind fun p1735 =>
  (z_gQ 4 p1735 l0 5).bind fun x1737 =>
  (D_J7_fill_53178  p1735 x1737 (1000000:Int32)).bind fun p1738 =>
  (z_pV 4 p1738 l0 7 (.int (0:Int32))).bind fun h1739 =>
  (z_pV 4 h1739 l0 8 (.int (-1:Int32))).bind fun h1740 =>
  (z_ob 9 h1740 l1).bind fun _ =>
  (D_X9_placeOf  h1740 l1 l2).bind fun p1741 =>
  (z_ob 4 p1741.2 l0).bind fun _ =>
  (D_X4_reach  p1741.2 l0 p1741.1 (0:Int32) (-1:Int32) (-1:Int32)).bind fun p1743 =>
  D_X4_shortest_40   z_F p1743 l0 l3 (0:Int32)
set_option maxRecDepth 100000 in
set_option maxHeartbeats 4000000 in
theorem S_X4_shortest {G : z_G} {l : Launch} {h : z_H} {l0 : Option Nat} {l1 : Option Nat} {l2 : Int32} {l3 : Int32} {res : (Int32 × z_H)} (e : D_X4_shortest h l0 l1 l2 l3 = some res) : z_Meth G l 9 M_X4_shortest [z_r l0, z_r l1, .int l2, .int l3] h res.2 (some (.int res.1)) := by
  refine z_Meth.of ck_X4_shortest.2.2.2.2 (by simp [lg_sl, z_ci, z_cj, z_cr, z_cx]) ck_X4_shortest.1 ?_
  rw [show lv_args 0 [z_r l0, z_r l1, .int l2, .int l3] = [(0, z_r l0), (1, z_r l1), (2, .int l2), (3, .int l3)] from by simp [lv_args, z_ci, z_cj, z_cr, z_cx]]
  unfold D_X4_shortest at e
  refine z_aload_n 0 dX4_shortest_0 rfl ?_
  refine z_aload_n 1 dX4_shortest_1 rfl ?_
  refine z_iload_n 2 dX4_shortest_2 rfl ?_
  replace e := z_bd e; obtain ⟨o1736, eo1736, e⟩ := e
  replace e := z_bd e; obtain ⟨p1735, ep1735, e⟩ := e
  refine z_cV [z_r l1, .int l2] (S_X4_layOut  ep1735) eo1736 rfl ml_X4_52 ck_X4_layOut vk_X4_layOut dX4_shortest_3 (by decide) rfl (Nat.zero_le _) rfl ?_
  refine z_aload_n 0 dX4_shortest_6 rfl ?_
  replace e := z_bd e; obtain ⟨x1737, ex1737, e⟩ := e
  refine z_getQ ex1737 lk_X4_24 dX4_shortest_7 ?_
  refine z_ldc dX4_shortest_10 kc_X4_56 ?_
  replace e := z_bd e; obtain ⟨p1738, ep1738, e⟩ := e
  refine z_cS [z_r x1737, .int (1000000:Int32)] (S_J7_fill_53178  ep1738) ml_X4_57 ck_J7_fill_53178 st_J7_fill_53178 dX4_shortest_12 (by decide) rfl (Nat.zero_le _) rfl ?_
  refine z_aload_n 0 dX4_shortest_15 rfl ?_
  refine z_iconst (v := 0) dX4_shortest_16 (by decide) ?_
  replace e := z_bd e; obtain ⟨h1739, eh1739, e⟩ := e
  refine z_putV eh1739 lk_X4_31 wk_4_7 (fun _ => rfl) (fun _ => rfl) dX4_shortest_17 ?_
  refine z_aload_n 0 dX4_shortest_20 rfl ?_
  refine z_iconst (v := -1) dX4_shortest_21 (by decide) ?_
  replace e := z_bd e; obtain ⟨h1740, eh1740, e⟩ := e
  refine z_putV eh1740 lk_X4_35 wk_4_8 (fun _ => rfl) (fun _ => rfl) dX4_shortest_22 ?_
  refine z_aload_n 0 dX4_shortest_25 rfl ?_
  refine z_aload_n 1 dX4_shortest_26 rfl ?_
  refine z_iload_n 2 dX4_shortest_27 rfl ?_
  replace e := z_bd e; obtain ⟨o1742, eo1742, e⟩ := e
  replace e := z_bd e; obtain ⟨p1741, ep1741, e⟩ := e
  refine z_cV [.int l2] (S_X9_placeOf  ep1741) eo1742 rfl ml_X4_63 ck_X9_placeOf vk_X9_placeOf dX4_shortest_28 (by decide) rfl (by simp [z_ci, z_cj, z_cr, z_cx]) rfl ?_
  refine z_iconst (v := 0) dX4_shortest_31 (by decide) ?_
  refine z_iconst (v := -1) dX4_shortest_32 (by decide) ?_
  refine z_iconst (v := -1) dX4_shortest_33 (by decide) ?_
  replace e := z_bd e; obtain ⟨o1744, eo1744, e⟩ := e
  replace e := z_bd e; obtain ⟨p1743, ep1743, e⟩ := e
  refine z_cV [.int p1741.1, .int (0:Int32), .int (-1:Int32), .int (-1:Int32)] (S_X4_reach  ep1743) eo1744 rfl ml_X4_69 ck_X4_reach vk_X4_reach dX4_shortest_34 (by decide) rfl (Nat.zero_le _) rfl ?_
  refine z_iconst (v := 0) dX4_shortest_37 (by decide) ?_
  refine z_istore (L' := [(4, .int (0:Int32)), (0, z_r l0), (1, z_r l1), (2, .int l2), (3, .int l3)]) dX4_shortest_38 (by decide) rfl ?_
  exact z_weak [1, 4, 0] rfl (S_X4_shortest_40   z_F e)
theorem dX10_within_0 : decode cX10_within 0 = .ok (.iload_n 1, 1) := by decide +kernel
theorem dX10_within_1 : decode cX10_within 1 = .ok (.invokestatic 145, 3) := by decide +kernel
theorem dX10_within_4 : decode cX10_within 4 = .ok (.ifCond .eq 13, 3) := by decide +kernel
theorem dX10_within_7 : decode cX10_within 7 = .ok (.iload_n 2, 1) := by decide +kernel
theorem dX10_within_8 : decode cX10_within 8 = .ok (.ifCond .lt 9, 3) := by decide +kernel
theorem dX10_within_11 : decode cX10_within 11 = .ok (.iload_n 2, 1) := by decide +kernel
theorem dX10_within_12 : decode cX10_within 12 = .ok (.bipush 100, 2) := by decide +kernel
theorem dX10_within_14 : decode cX10_within 14 = .ok (.if_icmp .le 5, 3) := by decide +kernel
theorem dX10_within_17 : decode cX10_within 17 = .ok (.iconst (-1), 1) := by decide +kernel
theorem dX10_within_18 : decode cX10_within 18 = .ok (.ireturn, 1) := by decide +kernel
theorem dX10_within_19 : decode cX10_within 19 = .ok (.iconst 0, 1) := by decide +kernel
theorem dX10_within_20 : decode cX10_within 20 = .ok (.istore_n 3, 1) := by decide +kernel
theorem dX10_within_21 : decode cX10_within 21 = .ok (.iconst 0, 1) := by decide +kernel
theorem dX10_within_22 : decode cX10_within 22 = .ok (.istore 4, 2) := by decide +kernel
theorem dX10_within_24 : decode cX10_within 24 = .ok (.iload 4, 2) := by decide +kernel
theorem dX10_within_26 : decode cX10_within 26 = .ok (.aload_n 0, 1) := by decide +kernel
theorem dX10_within_27 : decode cX10_within 27 = .ok (.getfield 12, 3) := by decide +kernel
theorem dX10_within_30 : decode cX10_within 30 = .ok (.getfield 108, 3) := by decide +kernel
theorem dX10_within_33 : decode cX10_within 33 = .ok (.if_icmp .ge 44, 3) := by decide +kernel
theorem dX10_within_36 : decode cX10_within 36 = .ok (.aload_n 0, 1) := by decide +kernel
theorem dX10_within_37 : decode cX10_within 37 = .ok (.getfield 69, 3) := by decide +kernel
theorem dX10_within_40 : decode cX10_within 40 = .ok (.aload_n 0, 1) := by decide +kernel
theorem dX10_within_41 : decode cX10_within 41 = .ok (.getfield 12, 3) := by decide +kernel
theorem dX10_within_44 : decode cX10_within 44 = .ok (.iload 4, 2) := by decide +kernel
theorem dX10_within_46 : decode cX10_within 46 = .ok (.iload_n 1, 1) := by decide +kernel
theorem dX10_within_47 : decode cX10_within 47 = .ok (.invokevirtual 242, 3) := by decide +kernel
theorem dX10_within_50 : decode cX10_within 50 = .ok (.istore 5, 2) := by decide +kernel
theorem dX10_within_52 : decode cX10_within 52 = .ok (.iload 5, 2) := by decide +kernel
theorem dX10_within_54 : decode cX10_within 54 = .ok (.iconst (-1), 1) := by decide +kernel
theorem dX10_within_55 : decode cX10_within 55 = .ok (.if_icmp .eq 16, 3) := by decide +kernel
theorem dX10_within_58 : decode cX10_within 58 = .ok (.iload 5, 2) := by decide +kernel
theorem dX10_within_60 : decode cX10_within 60 = .ok (.iload_n 2, 1) := by decide +kernel
theorem dX10_within_61 : decode cX10_within 61 = .ok (.if_icmp .gt 10, 3) := by decide +kernel
theorem dX10_within_64 : decode cX10_within 64 = .ok (.iload_n 3, 1) := by decide +kernel
theorem dX10_within_65 : decode cX10_within 65 = .ok (.iconst 1, 1) := by decide +kernel
theorem dX10_within_66 : decode cX10_within 66 = .ok (.iload 4, 2) := by decide +kernel
theorem dX10_within_68 : decode cX10_within 68 = .ok (.ishl, 1) := by decide +kernel
theorem dX10_within_69 : decode cX10_within 69 = .ok (.ior, 1) := by decide +kernel
theorem dX10_within_70 : decode cX10_within 70 = .ok (.istore_n 3, 1) := by decide +kernel
theorem dX10_within_71 : decode cX10_within 71 = .ok (.iinc 4 1, 3) := by decide +kernel
theorem dX10_within_74 : decode cX10_within 74 = .ok (.goto (-50), 3) := by decide +kernel
theorem dX10_within_77 : decode cX10_within 77 = .ok (.iload_n 3, 1) := by decide +kernel
theorem dX10_within_78 : decode cX10_within 78 = .ok (.ireturn, 1) := by decide +kernel
def D_X10_within_71 (k24 : z_H → Option Nat → Int32 → Int32 → Int32 → Int32 → Option (Int32 × z_H)) (h : z_H) (l0 : Option Nat) (l1 : Int32) (l2 : Int32) (l3 : Int32) (l4 : Int32) : Option (Int32 × z_H) :=
  (some (l4 + (1:Int32))).bind fun x1745 =>
  k24 h l0 l1 l2 l3 x1745
set_option maxRecDepth 100000 in
set_option maxHeartbeats 4000000 in
theorem S_X10_within_71 {G : z_G} {l : Launch} {k24 : z_H → Option Nat → Int32 → Int32 → Int32 → Int32 → Option (Int32 × z_H)} (hk24 : ∀ {h : z_H} {l0 : Option Nat} {l1 : Int32} {l2 : Int32} {l3 : Int32} {l4 : Int32} {res : (Int32 × z_H)}, k24 h l0 l1 l2 l3 l4 = some res → z_Run G l 10 M_X10_within 24 [(0, z_r l0), (1, .int l1), (2, .int l2), (3, .int l3), (4, .int l4)] [] h res.2 (some (.int res.1))) {h : z_H} {l0 : Option Nat} {l1 : Int32} {l2 : Int32} {l3 : Int32} {l4 : Int32} {res : (Int32 × z_H)} (e : D_X10_within_71 k24 h l0 l1 l2 l3 l4 = some res) : z_Run G l 10 M_X10_within 71 [(0, z_r l0), (1, .int l1), (2, .int l2), (3, .int l3), (4, .int l4)] [] h res.2 (some (.int res.1)) := by
  unfold D_X10_within_71 at e
  replace e := z_bd e; obtain ⟨x1745, ex1745, e⟩ := e
  refine z_iinc (q := 4) (v := x1745) (L' := [(4, .int x1745), (0, z_r l0), (1, .int l1), (2, .int l2), (3, .int l3)]) dX10_within_71 rfl (Option.some.inj ex1745) (by decide) rfl ?_
  refine z_goto (tgt := 24) dX10_within_74 (by decide) ?_
  exact z_weak [1, 2, 3, 4, 0] rfl (hk24 e)
def D_X10_within_24b (k24 : z_H → Option Nat → Int32 → Int32 → Int32 → Int32 → Option (Int32 × z_H)) (h : z_H) (l0 : Option Nat) (l1 : Int32) (l2 : Int32) (l3 : Int32) (l4 : Int32) : Option (Int32 × z_H) :=
  (z_gQ 10 h l0 0).bind fun x1746 =>
  (z_gI 9 h x1746 8).bind fun x1747 =>
  if x1747 ≤ l4 then
    some (l3, h)
  else
    (z_gQ 10 h l0 9).bind fun x1749 =>
    (z_gQ 10 h l0 0).bind fun x1750 =>
    (z_ob 4 h x1749).bind fun _ =>
    (D_X4_shortest  h x1749 x1750 l4 l1).bind fun p1751 =>
    if p1751.1 = (-1:Int32) then
      D_X10_within_71  k24 p1751.2 l0 l1 l2 l3 l4
    else
      if l2 < p1751.1 then
        D_X10_within_71  k24 p1751.2 l0 l1 l2 l3 l4
      else
        (some (l3 ||| ((1:Int32) <<< (l4 &&& 31)))).bind fun x1755 =>
        D_X10_within_71  k24 p1751.2 l0 l1 l2 x1755 l4
def D_X10_within_24 (n : Nat) : z_H → Option Nat → Int32 → Int32 → Int32 → Int32 → Option (Int32 × z_H) := Nat.rec (motive := fun _ => z_H → Option Nat → Int32 → Int32 → Int32 → Int32 → Option (Int32 × z_H)) (fun _ _ _ _ _ _ => none) (fun _ k => D_X10_within_24b  k) n
set_option maxRecDepth 100000 in
set_option maxHeartbeats 4000000 in
theorem S_X10_within_24 {G : z_G} {l : Launch}  (n : Nat) : ∀ {h : z_H} {l0 : Option Nat} {l1 : Int32} {l2 : Int32} {l3 : Int32} {l4 : Int32} {res : (Int32 × z_H)}, D_X10_within_24  n h l0 l1 l2 l3 l4 = some res → z_Run G l 10 M_X10_within 24 [(0, z_r l0), (1, .int l1), (2, .int l2), (3, .int l3), (4, .int l4)] [] h res.2 (some (.int res.1)) := by
  induction n with
  | zero => intro h l0 l1 l2 l3 l4 res e; cases e
  | succ n hk24 =>
    intro h l0 l1 l2 l3 l4 res e
    replace e : D_X10_within_24b  (D_X10_within_24  n) h l0 l1 l2 l3 l4 = some res := e
    unfold D_X10_within_24b at e
    refine z_iload 4 dX10_within_24 rfl ?_
    refine z_aload_n 0 dX10_within_26 rfl ?_
    replace e := z_bd e; obtain ⟨x1746, ex1746, e⟩ := e
    refine z_getQ ex1746 lk_X10_12 dX10_within_27 ?_
    replace e := z_bd e; obtain ⟨x1747, ex1747, e⟩ := e
    refine z_getI ex1747 lk_X10_108 dX10_within_30 ?_
    refine z_icmp_ge (tgt := 77) dX10_within_33 (by decide) (fun c1748 => ?_) (fun c1748 => ?_)
    · rw [if_pos c1748] at e
      refine z_iload_n 3 dX10_within_77 rfl ?_
      cases e
      exact z_iret dX10_within_78 rfl
    · rw [if_neg c1748] at e
      refine z_aload_n 0 dX10_within_36 rfl ?_
      replace e := z_bd e; obtain ⟨x1749, ex1749, e⟩ := e
      refine z_getQ ex1749 lk_X10_69 dX10_within_37 ?_
      refine z_aload_n 0 dX10_within_40 rfl ?_
      replace e := z_bd e; obtain ⟨x1750, ex1750, e⟩ := e
      refine z_getQ ex1750 lk_X10_12 dX10_within_41 ?_
      refine z_iload 4 dX10_within_44 rfl ?_
      refine z_iload_n 1 dX10_within_46 rfl ?_
      replace e := z_bd e; obtain ⟨o1752, eo1752, e⟩ := e
      replace e := z_bd e; obtain ⟨p1751, ep1751, e⟩ := e
      refine z_cV [z_r x1750, .int l4, .int l1] (S_X4_shortest  ep1751) eo1752 rfl ml_X10_242 ck_X4_shortest vk_X4_shortest dX10_within_47 (by decide) rfl (Nat.zero_le _) rfl ?_
      refine z_istore (L' := [(5, .int p1751.1), (0, z_r l0), (1, .int l1), (2, .int l2), (3, .int l3), (4, .int l4)]) dX10_within_50 (by decide) rfl ?_
      refine z_iload 0 dX10_within_52 rfl ?_
      refine z_iconst (v := -1) dX10_within_54 (by decide) ?_
      refine z_icmp_eq (tgt := 71) dX10_within_55 (by decide) (fun c1753 => ?_) (fun c1753 => ?_)
      · rw [if_pos c1753] at e
        exact z_weak [1, 2, 3, 4, 5] rfl (S_X10_within_71  @hk24 e)
      · rw [if_neg c1753] at e
        refine z_iload 0 dX10_within_58 rfl ?_
        refine z_iload_n 3 dX10_within_60 rfl ?_
        refine z_icmp_gt (tgt := 71) dX10_within_61 (by decide) (fun c1754 => ?_) (fun c1754 => ?_)
        · rw [if_pos c1754] at e
          exact z_weak [1, 2, 3, 4, 5] rfl (S_X10_within_71  @hk24 e)
        · rw [if_neg c1754] at e
          refine z_iload_n 4 dX10_within_64 rfl ?_
          refine z_iconst (v := 1) dX10_within_65 (by decide) ?_
          refine z_iload 5 dX10_within_66 rfl ?_
          refine z_ishl dX10_within_68 ?_
          refine z_ior dX10_within_69 ?_
          replace e := z_bd e; obtain ⟨x1755, ex1755, e⟩ := e
          refine z_topI ex1755 ?_
          refine z_istore_n (L' := [(3, .int x1755), (5, .int p1751.1), (0, z_r l0), (1, .int l1), (2, .int l2), (4, .int l4)]) dX10_within_70 rfl (by decide) rfl ?_
          exact z_weak [2, 3, 4, 0, 5] rfl (S_X10_within_71  @hk24 e)
def D_X10_within (h : z_H) (l0 : Option Nat) (l1 : Int32) (l2 : Int32) : Option (Int32 × z_H) :=
  (D_X10_isCell  h l1).bind fun p1756 =>
  if p1756.1 = 0 then
    some ((-1:Int32), p1756.2)
  else
    if l2 < 0 then
      some ((-1:Int32), p1756.2)
    else
      if l2 ≤ (100:Int32) then
        D_X10_within_24   z_F p1756.2 l0 l1 l2 (0:Int32) (0:Int32)
      else
        some ((-1:Int32), p1756.2)
set_option maxRecDepth 100000 in
set_option maxHeartbeats 4000000 in
theorem S_X10_within {G : z_G} {l : Launch} {h : z_H} {l0 : Option Nat} {l1 : Int32} {l2 : Int32} {res : (Int32 × z_H)} (e : D_X10_within h l0 l1 l2 = some res) : z_Meth G l 10 M_X10_within [z_r l0, .int l1, .int l2] h res.2 (some (.int res.1)) := by
  refine z_Meth.of ck_X10_within.2.2.2.2 (by simp [lg_sl, z_ci, z_cj, z_cr, z_cx]) ck_X10_within.1 ?_
  rw [show lv_args 0 [z_r l0, .int l1, .int l2] = [(0, z_r l0), (1, .int l1), (2, .int l2)] from by simp [lv_args, z_ci, z_cj, z_cr, z_cx]]
  unfold D_X10_within at e
  refine z_iload_n 1 dX10_within_0 rfl ?_
  replace e := z_bd e; obtain ⟨p1756, ep1756, e⟩ := e
  refine z_cS [.int l1] (S_X10_isCell  ep1756) ml_X10_145 ck_X10_isCell st_X10_isCell dX10_within_1 (by decide) rfl (Nat.zero_le _) rfl ?_
  refine z_if_eq (tgt := 17) dX10_within_4 (by decide) (fun c1757 => ?_) (fun c1757 => ?_)
  · rw [if_pos c1757] at e
    refine z_iconst (v := -1) dX10_within_17 (by decide) ?_
    cases e
    exact z_iret dX10_within_18 rfl
  · rw [if_neg c1757] at e
    refine z_iload_n 2 dX10_within_7 rfl ?_
    refine z_if_lt (tgt := 17) dX10_within_8 (by decide) (fun c1758 => ?_) (fun c1758 => ?_)
    · rw [if_pos c1758] at e
      refine z_iconst (v := -1) dX10_within_17 (by decide) ?_
      cases e
      exact z_iret dX10_within_18 rfl
    · rw [if_neg c1758] at e
      refine z_iload_n 2 dX10_within_11 rfl ?_
      refine z_bipush (v := 100) dX10_within_12 (by decide) ?_
      refine z_icmp_le (tgt := 19) dX10_within_14 (by decide) (fun c1759 => ?_) (fun c1759 => ?_)
      · rw [if_pos c1759] at e
        refine z_iconst (v := 0) dX10_within_19 (by decide) ?_
        refine z_istore_n (L' := [(3, .int (0:Int32)), (0, z_r l0), (1, .int l1), (2, .int l2)]) dX10_within_20 rfl (by decide) rfl ?_
        refine z_iconst (v := 0) dX10_within_21 (by decide) ?_
        refine z_istore (L' := [(4, .int (0:Int32)), (3, .int (0:Int32)), (0, z_r l0), (1, .int l1), (2, .int l2)]) dX10_within_22 (by decide) rfl ?_
        exact z_weak [2, 3, 4, 1, 0] rfl (S_X10_within_24   z_F e)
      · rw [if_neg c1759] at e
        refine z_iconst (v := -1) dX10_within_17 (by decide) ?_
        cases e
        exact z_iret dX10_within_18 rfl
theorem dX11_isCell_0 : decode cX11_isCell 0 = .ok (.iload_n 0, 1) := by decide +kernel
theorem dX11_isCell_1 : decode cX11_isCell 1 = .ok (.i2l, 1) := by decide +kernel
theorem dX11_isCell_2 : decode cX11_isCell 2 = .ok (.lconst 0, 1) := by decide +kernel
theorem dX11_isCell_3 : decode cX11_isCell 3 = .ok (.ldc2_w 65, 3) := by decide +kernel
theorem dX11_isCell_6 : decode cX11_isCell 6 = .ok (.invokestatic 186, 3) := by decide +kernel
theorem dX11_isCell_9 : decode cX11_isCell 9 = .ok (.ireturn, 1) := by decide +kernel
def D_X11_isCell (h : z_H) (l0 : Int32) : Option (Int32 × z_H) :=
  (D_X11_in  h (Int32.toInt64 l0) (0:Int64) (24:Int64)).bind fun p1760 =>
  if p1760.1 = 0 ∨ p1760.1 = 1 then some (p1760.1, p1760.2) else none
set_option maxRecDepth 100000 in
set_option maxHeartbeats 4000000 in
theorem S_X11_isCell {G : z_G} {l : Launch} {h : z_H} {l0 : Int32} {res : (Int32 × z_H)} (e : D_X11_isCell h l0 = some res) : z_Meth G l 5 M_X11_isCell [.int l0] h res.2 (some (.int res.1)) := by
  refine z_Meth.of ck_X11_isCell.2.2.2.2 (by simp [lg_sl, z_ci, z_cj, z_cr, z_cx]) ck_X11_isCell.1 ?_
  rw [show lv_args 0 [.int l0] = [(0, .int l0)] from rfl]
  unfold D_X11_isCell at e
  refine z_iload_n 0 dX11_isCell_0 rfl ?_
  refine z_i2l dX11_isCell_1 ?_
  refine z_lconst (v := 0) dX11_isCell_2 (by decide) ?_
  refine z_ldc2 dX11_isCell_3 kj_X11_65 ?_
  replace e := z_bd e; obtain ⟨p1760, ep1760, e⟩ := e
  refine z_cS [.long (Int32.toInt64 l0), .long (0:Int64), .long (24:Int64)] (S_X11_in  ep1760) ml_X11_186 ck_X11_in st_X11_in dX11_isCell_6 (by decide) rfl (Nat.zero_le _) rfl ?_
  replace e := z_ifs e; obtain ⟨c1761, e⟩ := e
  cases e
  exact z_zret dX11_isCell_9 rfl (z_nz c1761).1
theorem dX11_laySteps_0 : decode cX11_laySteps 0 = .ok (.iconst 0, 1) := by decide +kernel
theorem dX11_laySteps_1 : decode cX11_laySteps 1 = .ok (.istore_n 2, 1) := by decide +kernel
theorem dX11_laySteps_2 : decode cX11_laySteps 2 = .ok (.iload_n 2, 1) := by decide +kernel
theorem dX11_laySteps_3 : decode cX11_laySteps 3 = .ok (.bipush 100, 2) := by decide +kernel
theorem dX11_laySteps_5 : decode cX11_laySteps 5 = .ok (.if_icmp .ge 26, 3) := by decide +kernel
theorem dX11_laySteps_8 : decode cX11_laySteps 8 = .ok (.aload_n 0, 1) := by decide +kernel
theorem dX11_laySteps_9 : decode cX11_laySteps 9 = .ok (.getfield 114, 3) := by decide +kernel
theorem dX11_laySteps_12 : decode cX11_laySteps 12 = .ok (.iload_n 2, 1) := by decide +kernel
theorem dX11_laySteps_13 : decode cX11_laySteps 13 = .ok (.aload_n 0, 1) := by decide +kernel
theorem dX11_laySteps_14 : decode cX11_laySteps 14 = .ok (.iload_n 1, 1) := by decide +kernel
theorem dX11_laySteps_15 : decode cX11_laySteps 15 = .ok (.iload_n 2, 1) := by decide +kernel
theorem dX11_laySteps_16 : decode cX11_laySteps 16 = .ok (.iconst 4, 1) := by decide +kernel
theorem dX11_laySteps_17 : decode cX11_laySteps 17 = .ok (.idiv, 1) := by decide +kernel
theorem dX11_laySteps_18 : decode cX11_laySteps 18 = .ok (.iload_n 2, 1) := by decide +kernel
theorem dX11_laySteps_19 : decode cX11_laySteps 19 = .ok (.iconst 4, 1) := by decide +kernel
theorem dX11_laySteps_20 : decode cX11_laySteps 20 = .ok (.irem, 1) := by decide +kernel
theorem dX11_laySteps_21 : decode cX11_laySteps 21 = .ok (.invokevirtual 216, 3) := by decide +kernel
theorem dX11_laySteps_24 : decode cX11_laySteps 24 = .ok (.iastore, 1) := by decide +kernel
theorem dX11_laySteps_25 : decode cX11_laySteps 25 = .ok (.iinc 2 1, 3) := by decide +kernel
theorem dX11_laySteps_28 : decode cX11_laySteps 28 = .ok (.goto (-26), 3) := by decide +kernel
theorem dX11_laySteps_31 : decode cX11_laySteps 31 = .ok (.return_, 1) := by decide +kernel
def D_X11_laySteps_2b (k2 : z_H → Option Nat → Int32 → Int32 → Option z_H) (h : z_H) (l0 : Option Nat) (l1 : Int32) (l2 : Int32) : Option z_H :=
  if (100:Int32) ≤ l2 then
    some h
  else
    (z_gQ 11 h l0 41).bind fun x1763 =>
    (z_ob 11 h l0).bind fun _ =>
    (D_X11_stepOf  h l0 l1 (l2 / (4:Int32)) (l2 - l2 / (4:Int32) * (4:Int32))).bind fun p1764 =>
    (z_sI p1764.2 x1763 l2 p1764.1).bind fun h1766 =>
    (some (l2 + (1:Int32))).bind fun x1767 =>
    k2 h1766 l0 l1 x1767
def D_X11_laySteps_2 (n : Nat) : z_H → Option Nat → Int32 → Int32 → Option z_H := Nat.rec (motive := fun _ => z_H → Option Nat → Int32 → Int32 → Option z_H) (fun _ _ _ _ => none) (fun _ k => D_X11_laySteps_2b  k) n
set_option maxRecDepth 100000 in
set_option maxHeartbeats 4000000 in
theorem S_X11_laySteps_2 {G : z_G} {l : Launch}  (n : Nat) : ∀ {h : z_H} {l0 : Option Nat} {l1 : Int32} {l2 : Int32} {res : z_H}, D_X11_laySteps_2  n h l0 l1 l2 = some res → z_Run G l 10 M_X11_laySteps 2 [(0, z_r l0), (1, .int l1), (2, .int l2)] [] h res none := by
  induction n with
  | zero => intro h l0 l1 l2 res e; cases e
  | succ n hk2 =>
    intro h l0 l1 l2 res e
    replace e : D_X11_laySteps_2b  (D_X11_laySteps_2  n) h l0 l1 l2 = some res := e
    unfold D_X11_laySteps_2b at e
    refine z_iload_n 2 dX11_laySteps_2 rfl ?_
    refine z_bipush (v := 100) dX11_laySteps_3 (by decide) ?_
    refine z_icmp_ge (tgt := 31) dX11_laySteps_5 (by decide) (fun c1762 => ?_) (fun c1762 => ?_)
    · rw [if_pos c1762] at e
      cases e
      exact z_vret dX11_laySteps_31 rfl
    · rw [if_neg c1762] at e
      refine z_aload_n 0 dX11_laySteps_8 rfl ?_
      replace e := z_bd e; obtain ⟨x1763, ex1763, e⟩ := e
      refine z_getQ ex1763 lk_X11_114 dX11_laySteps_9 ?_
      refine z_iload_n 2 dX11_laySteps_12 rfl ?_
      refine z_aload_n 0 dX11_laySteps_13 rfl ?_
      refine z_iload_n 1 dX11_laySteps_14 rfl ?_
      refine z_iload_n 2 dX11_laySteps_15 rfl ?_
      refine z_iconst (v := 4) dX11_laySteps_16 (by decide) ?_
      refine z_idiv dX11_laySteps_17 (by decide) ?_
      refine z_iload_n 2 dX11_laySteps_18 rfl ?_
      refine z_iconst (v := 4) dX11_laySteps_19 (by decide) ?_
      refine z_irem dX11_laySteps_20 (by decide) ?_
      replace e := z_bd e; obtain ⟨o1765, eo1765, e⟩ := e
      replace e := z_bd e; obtain ⟨p1764, ep1764, e⟩ := e
      refine z_cV [.int l1, .int (l2 / (4:Int32)), .int (l2 - l2 / (4:Int32) * (4:Int32))] (S_X11_stepOf  ep1764) eo1765 rfl ml_X11_216 ck_X11_stepOf vk_X11_stepOf dX11_laySteps_21 (by decide) rfl (by simp [z_ci, z_cj, z_cr, z_cx]) rfl ?_
      replace e := z_bd e; obtain ⟨h1766, eh1766, e⟩ := e
      refine z_iast eh1766 dX11_laySteps_24 ?_
      replace e := z_bd e; obtain ⟨x1767, ex1767, e⟩ := e
      refine z_iinc (q := 2) (v := x1767) (L' := [(2, .int x1767), (0, z_r l0), (1, .int l1)]) dX11_laySteps_25 rfl (Option.some.inj ex1767) (by decide) rfl ?_
      refine z_goto (tgt := 2) dX11_laySteps_28 (by decide) ?_
      exact z_weak [1, 2, 0] rfl (hk2 e)
def D_X11_laySteps (h : z_H) (l0 : Option Nat) (l1 : Int32) : Option z_H :=
  D_X11_laySteps_2   z_F h l0 l1 (0:Int32)
set_option maxRecDepth 100000 in
set_option maxHeartbeats 4000000 in
theorem S_X11_laySteps {G : z_G} {l : Launch} {h : z_H} {l0 : Option Nat} {l1 : Int32} {res : z_H} (e : D_X11_laySteps h l0 l1 = some res) : z_Meth G l 10 M_X11_laySteps [z_r l0, .int l1] h res none := by
  refine z_Meth.of ck_X11_laySteps.2.2.2.2 (by simp [lg_sl, z_ci, z_cj, z_cr, z_cx]) ck_X11_laySteps.1 ?_
  rw [show lv_args 0 [z_r l0, .int l1] = [(0, z_r l0), (1, .int l1)] from by simp [lv_args, z_ci, z_cj, z_cr, z_cx]]
  unfold D_X11_laySteps at e
  refine z_iconst (v := 0) dX11_laySteps_0 (by decide) ?_
  refine z_istore_n (L' := [(2, .int (0:Int32)), (0, z_r l0), (1, .int l1)]) dX11_laySteps_1 rfl (by decide) rfl ?_
  exact z_weak [1, 2, 0] rfl (S_X11_laySteps_2   z_F e)
theorem dX11_acted_0 : decode cX11_acted 0 = .ok (.iload_n 2, 1) := by decide +kernel
theorem dX11_acted_1 : decode cX11_acted 1 = .ok (.ifCond .ne 30, 3) := by decide +kernel
theorem dX11_acted_4 : decode cX11_acted 4 = .ok (.aload_n 0, 1) := by decide +kernel
theorem dX11_acted_5 : decode cX11_acted 5 = .ok (.getfield 114, 3) := by decide +kernel
theorem dX11_acted_8 : decode cX11_acted 8 = .ok (.iload_n 1, 1) := by decide +kernel
theorem dX11_acted_9 : decode cX11_acted 9 = .ok (.iaload, 1) := by decide +kernel
theorem dX11_acted_10 : decode cX11_acted 10 = .ok (.iconst (-1), 1) := by decide +kernel
theorem dX11_acted_11 : decode cX11_acted 11 = .ok (.if_icmp .ne 7, 3) := by decide +kernel
theorem dX11_acted_14 : decode cX11_acted 14 = .ok (.iconst (-1), 1) := by decide +kernel
theorem dX11_acted_15 : decode cX11_acted 15 = .ok (.goto 15, 3) := by decide +kernel
theorem dX11_acted_18 : decode cX11_acted 18 = .ok (.iconst 4, 1) := by decide +kernel
theorem dX11_acted_19 : decode cX11_acted 19 = .ok (.aload_n 0, 1) := by decide +kernel
theorem dX11_acted_20 : decode cX11_acted 20 = .ok (.getfield 114, 3) := by decide +kernel
theorem dX11_acted_23 : decode cX11_acted 23 = .ok (.iload_n 1, 1) := by decide +kernel
theorem dX11_acted_24 : decode cX11_acted 24 = .ok (.iaload, 1) := by decide +kernel
theorem dX11_acted_25 : decode cX11_acted 25 = .ok (.imul, 1) := by decide +kernel
theorem dX11_acted_26 : decode cX11_acted 26 = .ok (.iload_n 1, 1) := by decide +kernel
theorem dX11_acted_27 : decode cX11_acted 27 = .ok (.iconst 4, 1) := by decide +kernel
theorem dX11_acted_28 : decode cX11_acted 28 = .ok (.irem, 1) := by decide +kernel
theorem dX11_acted_29 : decode cX11_acted 29 = .ok (.iadd, 1) := by decide +kernel
theorem dX11_acted_30 : decode cX11_acted 30 = .ok (.ireturn, 1) := by decide +kernel
theorem dX11_acted_31 : decode cX11_acted 31 = .ok (.iload_n 1, 1) := by decide +kernel
theorem dX11_acted_32 : decode cX11_acted 32 = .ok (.iload_n 1, 1) := by decide +kernel
theorem dX11_acted_33 : decode cX11_acted 33 = .ok (.iconst 4, 1) := by decide +kernel
theorem dX11_acted_34 : decode cX11_acted 34 = .ok (.irem, 1) := by decide +kernel
theorem dX11_acted_35 : decode cX11_acted 35 = .ok (.isub, 1) := by decide +kernel
theorem dX11_acted_36 : decode cX11_acted 36 = .ok (.iload_n 1, 1) := by decide +kernel
theorem dX11_acted_37 : decode cX11_acted 37 = .ok (.iconst 4, 1) := by decide +kernel
theorem dX11_acted_38 : decode cX11_acted 38 = .ok (.irem, 1) := by decide +kernel
theorem dX11_acted_39 : decode cX11_acted 39 = .ok (.iload_n 2, 1) := by decide +kernel
theorem dX11_acted_40 : decode cX11_acted 40 = .ok (.iconst 1, 1) := by decide +kernel
theorem dX11_acted_41 : decode cX11_acted 41 = .ok (.isub, 1) := by decide +kernel
theorem dX11_acted_42 : decode cX11_acted 42 = .ok (.invokestatic 455, 3) := by decide +kernel
theorem dX11_acted_45 : decode cX11_acted 45 = .ok (.iadd, 1) := by decide +kernel
theorem dX11_acted_46 : decode cX11_acted 46 = .ok (.ireturn, 1) := by decide +kernel
def D_X11_acted (h : z_H) (l0 : Option Nat) (l1 : Int32) (l2 : Int32) : Option (Int32 × z_H) :=
  if l2 = 0 then
    (z_gQ 11 h l0 41).bind fun x1770 =>
    (z_aI .int h x1770 l1).bind fun x1771 =>
    if x1771 = (-1:Int32) then
      some ((-1:Int32), h)
    else
      (z_gQ 11 h l0 41).bind fun x1773 =>
      (z_aI .int h x1773 l1).bind fun x1774 =>
      some ((((4:Int32) * x1774) + (l1 - l1 / (4:Int32) * (4:Int32))), h)
  else
    (D_X11_turned  h (l1 - l1 / (4:Int32) * (4:Int32)) (l2 - (1:Int32))).bind fun p1769 =>
    some (((l1 - (l1 - l1 / (4:Int32) * (4:Int32))) + p1769.1), p1769.2)
set_option maxRecDepth 100000 in
set_option maxHeartbeats 4000000 in
theorem S_X11_acted {G : z_G} {l : Launch} {h : z_H} {l0 : Option Nat} {l1 : Int32} {l2 : Int32} {res : (Int32 × z_H)} (e : D_X11_acted h l0 l1 l2 = some res) : z_Meth G l 5 M_X11_acted [z_r l0, .int l1, .int l2] h res.2 (some (.int res.1)) := by
  refine z_Meth.of ck_X11_acted.2.2.2.2 (by simp [lg_sl, z_ci, z_cj, z_cr, z_cx]) ck_X11_acted.1 ?_
  rw [show lv_args 0 [z_r l0, .int l1, .int l2] = [(0, z_r l0), (1, .int l1), (2, .int l2)] from by simp [lv_args, z_ci, z_cj, z_cr, z_cx]]
  unfold D_X11_acted at e
  refine z_iload_n 2 dX11_acted_0 rfl ?_
  refine z_if_ne (tgt := 31) dX11_acted_1 (by decide) (fun c1768 => ?_) (fun c1768 => ?_)
  · rw [if_neg c1768] at e
    refine z_iload_n 1 dX11_acted_31 rfl ?_
    refine z_iload_n 1 dX11_acted_32 rfl ?_
    refine z_iconst (v := 4) dX11_acted_33 (by decide) ?_
    refine z_irem dX11_acted_34 (by decide) ?_
    refine z_isub dX11_acted_35 ?_
    refine z_iload_n 1 dX11_acted_36 rfl ?_
    refine z_iconst (v := 4) dX11_acted_37 (by decide) ?_
    refine z_irem dX11_acted_38 (by decide) ?_
    refine z_iload_n 2 dX11_acted_39 rfl ?_
    refine z_iconst (v := 1) dX11_acted_40 (by decide) ?_
    refine z_isub dX11_acted_41 ?_
    replace e := z_bd e; obtain ⟨p1769, ep1769, e⟩ := e
    refine z_cS [.int (l1 - l1 / (4:Int32) * (4:Int32)), .int (l2 - (1:Int32))] (S_X11_turned  ep1769) ml_X11_455 ck_X11_turned st_X11_turned dX11_acted_42 (by decide) rfl (by simp [z_ci, z_cj, z_cr, z_cx]) rfl ?_
    refine z_iadd dX11_acted_45 ?_
    cases e
    exact z_iret dX11_acted_46 rfl
  · rw [if_pos c1768] at e
    refine z_aload_n 0 dX11_acted_4 rfl ?_
    replace e := z_bd e; obtain ⟨x1770, ex1770, e⟩ := e
    refine z_getQ ex1770 lk_X11_114 dX11_acted_5 ?_
    refine z_iload_n 1 dX11_acted_8 rfl ?_
    replace e := z_bd e; obtain ⟨x1771, ex1771, e⟩ := e
    refine z_iald ex1771 dX11_acted_9 ?_
    refine z_iconst (v := -1) dX11_acted_10 (by decide) ?_
    refine z_icmp_ne (tgt := 18) dX11_acted_11 (by decide) (fun c1772 => ?_) (fun c1772 => ?_)
    · rw [if_neg c1772] at e
      refine z_iconst (v := 4) dX11_acted_18 (by decide) ?_
      refine z_aload_n 0 dX11_acted_19 rfl ?_
      replace e := z_bd e; obtain ⟨x1773, ex1773, e⟩ := e
      refine z_getQ ex1773 lk_X11_114 dX11_acted_20 ?_
      refine z_iload_n 1 dX11_acted_23 rfl ?_
      replace e := z_bd e; obtain ⟨x1774, ex1774, e⟩ := e
      refine z_iald ex1774 dX11_acted_24 ?_
      refine z_imul dX11_acted_25 ?_
      refine z_iload_n 1 dX11_acted_26 rfl ?_
      refine z_iconst (v := 4) dX11_acted_27 (by decide) ?_
      refine z_irem dX11_acted_28 (by decide) ?_
      refine z_iadd dX11_acted_29 ?_
      cases e
      exact z_iret dX11_acted_30 rfl
    · rw [if_pos c1772] at e
      refine z_iconst (v := -1) dX11_acted_14 (by decide) ?_
      refine z_goto (tgt := 30) dX11_acted_15 (by decide) ?_
      cases e
      exact z_iret dX11_acted_30 rfl
theorem dX11_layLeft_0 : decode cX11_layLeft 0 = .ok (.aload_n 0, 1) := by decide +kernel
theorem dX11_layLeft_1 : decode cX11_layLeft 1 = .ok (.iload_n 1, 1) := by decide +kernel
theorem dX11_layLeft_2 : decode cX11_layLeft 2 = .ok (.invokevirtual 473, 3) := by decide +kernel
theorem dX11_layLeft_5 : decode cX11_layLeft 5 = .ok (.iconst 0, 1) := by decide +kernel
theorem dX11_layLeft_6 : decode cX11_layLeft 6 = .ok (.istore_n 3, 1) := by decide +kernel
theorem dX11_layLeft_7 : decode cX11_layLeft 7 = .ok (.iload_n 3, 1) := by decide +kernel
theorem dX11_layLeft_8 : decode cX11_layLeft 8 = .ok (.bipush 100, 2) := by decide +kernel
theorem dX11_layLeft_10 : decode cX11_layLeft 10 = .ok (.if_icmp .ge 29, 3) := by decide +kernel
theorem dX11_layLeft_13 : decode cX11_layLeft 13 = .ok (.aload_n 0, 1) := by decide +kernel
theorem dX11_layLeft_14 : decode cX11_layLeft 14 = .ok (.getfield 120, 3) := by decide +kernel
theorem dX11_layLeft_17 : decode cX11_layLeft 17 = .ok (.iload_n 3, 1) := by decide +kernel
theorem dX11_layLeft_18 : decode cX11_layLeft 18 = .ok (.iload_n 3, 1) := by decide +kernel
theorem dX11_layLeft_19 : decode cX11_layLeft 19 = .ok (.iconst 4, 1) := by decide +kernel
theorem dX11_layLeft_20 : decode cX11_layLeft 20 = .ok (.idiv, 1) := by decide +kernel
theorem dX11_layLeft_21 : decode cX11_layLeft 21 = .ok (.iload_n 2, 1) := by decide +kernel
theorem dX11_layLeft_22 : decode cX11_layLeft 22 = .ok (.if_icmp .ne 7, 3) := by decide +kernel
theorem dX11_layLeft_25 : decode cX11_layLeft 25 = .ok (.iconst 0, 1) := by decide +kernel
theorem dX11_layLeft_26 : decode cX11_layLeft 26 = .ok (.goto 6, 3) := by decide +kernel
theorem dX11_layLeft_29 : decode cX11_layLeft 29 = .ok (.ldc_w 489, 3) := by decide +kernel
theorem dX11_layLeft_32 : decode cX11_layLeft 32 = .ok (.iastore, 1) := by decide +kernel
theorem dX11_layLeft_33 : decode cX11_layLeft 33 = .ok (.iinc 3 1, 3) := by decide +kernel
theorem dX11_layLeft_36 : decode cX11_layLeft 36 = .ok (.goto (-29), 3) := by decide +kernel
theorem dX11_layLeft_39 : decode cX11_layLeft 39 = .ok (.iconst 1, 1) := by decide +kernel
theorem dX11_layLeft_40 : decode cX11_layLeft 40 = .ok (.istore_n 3, 1) := by decide +kernel
theorem dX11_layLeft_41 : decode cX11_layLeft 41 = .ok (.iload_n 3, 1) := by decide +kernel
theorem dX11_layLeft_42 : decode cX11_layLeft 42 = .ok (.ifCond .eq 92, 3) := by decide +kernel
theorem dX11_layLeft_45 : decode cX11_layLeft 45 = .ok (.iconst 0, 1) := by decide +kernel
theorem dX11_layLeft_46 : decode cX11_layLeft 46 = .ok (.istore_n 3, 1) := by decide +kernel
theorem dX11_layLeft_47 : decode cX11_layLeft 47 = .ok (.iconst 0, 1) := by decide +kernel
theorem dX11_layLeft_48 : decode cX11_layLeft 48 = .ok (.istore 4, 2) := by decide +kernel
theorem dX11_layLeft_50 : decode cX11_layLeft 50 = .ok (.iload 4, 2) := by decide +kernel
theorem dX11_layLeft_52 : decode cX11_layLeft 52 = .ok (.bipush 100, 2) := by decide +kernel
theorem dX11_layLeft_54 : decode cX11_layLeft 54 = .ok (.if_icmp .ge 77, 3) := by decide +kernel
theorem dX11_layLeft_57 : decode cX11_layLeft 57 = .ok (.iconst 0, 1) := by decide +kernel
theorem dX11_layLeft_58 : decode cX11_layLeft 58 = .ok (.istore 5, 2) := by decide +kernel
theorem dX11_layLeft_60 : decode cX11_layLeft 60 = .ok (.iload 5, 2) := by decide +kernel
theorem dX11_layLeft_62 : decode cX11_layLeft 62 = .ok (.iconst 3, 1) := by decide +kernel
theorem dX11_layLeft_63 : decode cX11_layLeft 63 = .ok (.if_icmp .ge 62, 3) := by decide +kernel
theorem dX11_layLeft_66 : decode cX11_layLeft 66 = .ok (.aload_n 0, 1) := by decide +kernel
theorem dX11_layLeft_67 : decode cX11_layLeft 67 = .ok (.iload 4, 2) := by decide +kernel
theorem dX11_layLeft_69 : decode cX11_layLeft 69 = .ok (.iload 5, 2) := by decide +kernel
theorem dX11_layLeft_71 : decode cX11_layLeft 71 = .ok (.invokevirtual 490, 3) := by decide +kernel
theorem dX11_layLeft_74 : decode cX11_layLeft 74 = .ok (.istore 6, 2) := by decide +kernel
theorem dX11_layLeft_76 : decode cX11_layLeft 76 = .ok (.iload 6, 2) := by decide +kernel
theorem dX11_layLeft_78 : decode cX11_layLeft 78 = .ok (.iconst (-1), 1) := by decide +kernel
theorem dX11_layLeft_79 : decode cX11_layLeft 79 = .ok (.if_icmp .eq 40, 3) := by decide +kernel
theorem dX11_layLeft_82 : decode cX11_layLeft 82 = .ok (.aload_n 0, 1) := by decide +kernel
theorem dX11_layLeft_83 : decode cX11_layLeft 83 = .ok (.getfield 120, 3) := by decide +kernel
theorem dX11_layLeft_86 : decode cX11_layLeft 86 = .ok (.iload 6, 2) := by decide +kernel
theorem dX11_layLeft_88 : decode cX11_layLeft 88 = .ok (.iaload, 1) := by decide +kernel
theorem dX11_layLeft_89 : decode cX11_layLeft 89 = .ok (.iconst 1, 1) := by decide +kernel
theorem dX11_layLeft_90 : decode cX11_layLeft 90 = .ok (.iadd, 1) := by decide +kernel
theorem dX11_layLeft_91 : decode cX11_layLeft 91 = .ok (.aload_n 0, 1) := by decide +kernel
theorem dX11_layLeft_92 : decode cX11_layLeft 92 = .ok (.getfield 120, 3) := by decide +kernel
theorem dX11_layLeft_95 : decode cX11_layLeft 95 = .ok (.iload 4, 2) := by decide +kernel
theorem dX11_layLeft_97 : decode cX11_layLeft 97 = .ok (.iaload, 1) := by decide +kernel
theorem dX11_layLeft_98 : decode cX11_layLeft 98 = .ok (.if_icmp .ge 21, 3) := by decide +kernel
theorem dX11_layLeft_101 : decode cX11_layLeft 101 = .ok (.aload_n 0, 1) := by decide +kernel
theorem dX11_layLeft_102 : decode cX11_layLeft 102 = .ok (.getfield 120, 3) := by decide +kernel
theorem dX11_layLeft_105 : decode cX11_layLeft 105 = .ok (.iload 4, 2) := by decide +kernel
theorem dX11_layLeft_107 : decode cX11_layLeft 107 = .ok (.aload_n 0, 1) := by decide +kernel
theorem dX11_layLeft_108 : decode cX11_layLeft 108 = .ok (.getfield 120, 3) := by decide +kernel
theorem dX11_layLeft_111 : decode cX11_layLeft 111 = .ok (.iload 6, 2) := by decide +kernel
theorem dX11_layLeft_113 : decode cX11_layLeft 113 = .ok (.iaload, 1) := by decide +kernel
theorem dX11_layLeft_114 : decode cX11_layLeft 114 = .ok (.iconst 1, 1) := by decide +kernel
theorem dX11_layLeft_115 : decode cX11_layLeft 115 = .ok (.iadd, 1) := by decide +kernel
theorem dX11_layLeft_116 : decode cX11_layLeft 116 = .ok (.iastore, 1) := by decide +kernel
theorem dX11_layLeft_117 : decode cX11_layLeft 117 = .ok (.iconst 1, 1) := by decide +kernel
theorem dX11_layLeft_118 : decode cX11_layLeft 118 = .ok (.istore_n 3, 1) := by decide +kernel
theorem dX11_layLeft_119 : decode cX11_layLeft 119 = .ok (.iinc 5 1, 3) := by decide +kernel
theorem dX11_layLeft_122 : decode cX11_layLeft 122 = .ok (.goto (-62), 3) := by decide +kernel
theorem dX11_layLeft_125 : decode cX11_layLeft 125 = .ok (.iinc 4 1, 3) := by decide +kernel
theorem dX11_layLeft_128 : decode cX11_layLeft 128 = .ok (.goto (-78), 3) := by decide +kernel
theorem dX11_layLeft_131 : decode cX11_layLeft 131 = .ok (.goto (-90), 3) := by decide +kernel
theorem dX11_layLeft_134 : decode cX11_layLeft 134 = .ok (.return_, 1) := by decide +kernel
def D_X11_layLeft_119 (k41 : z_H → Option Nat → Int32 → Option z_H) (k50 : z_H → Option Nat → Int32 → Int32 → Option z_H) (k60 : z_H → Option Nat → Int32 → Int32 → Int32 → Option z_H) (h : z_H) (l0 : Option Nat) (l3 : Int32) (l4 : Int32) (l5 : Int32) : Option z_H :=
  (some (l5 + (1:Int32))).bind fun x1775 =>
  k60 h l0 l3 l4 x1775
set_option maxRecDepth 100000 in
set_option maxHeartbeats 4000000 in
theorem S_X11_layLeft_119 {G : z_G} {l : Launch} {k41 : z_H → Option Nat → Int32 → Option z_H} {k50 : z_H → Option Nat → Int32 → Int32 → Option z_H} {k60 : z_H → Option Nat → Int32 → Int32 → Int32 → Option z_H} (hk41 : ∀ {h : z_H} {l0 : Option Nat} {l3 : Int32} {res : z_H}, k41 h l0 l3 = some res → z_Run G l 11 M_X11_layLeft 41 [(0, z_r l0), (3, .int l3)] [] h res none) (hk50 : ∀ {h : z_H} {l0 : Option Nat} {l3 : Int32} {l4 : Int32} {res : z_H}, k50 h l0 l3 l4 = some res → z_Run G l 11 M_X11_layLeft 50 [(0, z_r l0), (3, .int l3), (4, .int l4)] [] h res none) (hk60 : ∀ {h : z_H} {l0 : Option Nat} {l3 : Int32} {l4 : Int32} {l5 : Int32} {res : z_H}, k60 h l0 l3 l4 l5 = some res → z_Run G l 11 M_X11_layLeft 60 [(0, z_r l0), (3, .int l3), (4, .int l4), (5, .int l5)] [] h res none) {h : z_H} {l0 : Option Nat} {l3 : Int32} {l4 : Int32} {l5 : Int32} {res : z_H} (e : D_X11_layLeft_119 k41 k50 k60 h l0 l3 l4 l5 = some res) : z_Run G l 11 M_X11_layLeft 119 [(0, z_r l0), (3, .int l3), (4, .int l4), (5, .int l5)] [] h res none := by
  unfold D_X11_layLeft_119 at e
  replace e := z_bd e; obtain ⟨x1775, ex1775, e⟩ := e
  refine z_iinc (q := 3) (v := x1775) (L' := [(5, .int x1775), (0, z_r l0), (3, .int l3), (4, .int l4)]) dX11_layLeft_119 rfl (Option.some.inj ex1775) (by decide) rfl ?_
  refine z_goto (tgt := 60) dX11_layLeft_122 (by decide) ?_
  exact z_weak [1, 2, 3, 0] rfl (hk60 e)
def D_X11_layLeft_60b (k41 : z_H → Option Nat → Int32 → Option z_H) (k50 : z_H → Option Nat → Int32 → Int32 → Option z_H) (k60 : z_H → Option Nat → Int32 → Int32 → Int32 → Option z_H) (h : z_H) (l0 : Option Nat) (l3 : Int32) (l4 : Int32) (l5 : Int32) : Option z_H :=
  if (3:Int32) ≤ l5 then
    (some (l4 + (1:Int32))).bind fun x1777 =>
    k50 h l0 l3 x1777
  else
    (z_ob 11 h l0).bind fun _ =>
    (D_X11_acted  h l0 l4 l5).bind fun p1778 =>
    if p1778.1 = (-1:Int32) then
      D_X11_layLeft_119  k41 k50 k60 p1778.2 l0 l3 l4 l5
    else
      (z_gQ 11 p1778.2 l0 43).bind fun x1781 =>
      (z_aI .int p1778.2 x1781 p1778.1).bind fun x1782 =>
      (z_gQ 11 p1778.2 l0 43).bind fun x1783 =>
      (z_aI .int p1778.2 x1783 l4).bind fun x1784 =>
      if x1784 ≤ (x1782 + (1:Int32)) then
        D_X11_layLeft_119  k41 k50 k60 p1778.2 l0 l3 l4 l5
      else
        (z_gQ 11 p1778.2 l0 43).bind fun x1786 =>
        (z_gQ 11 p1778.2 l0 43).bind fun x1787 =>
        (z_aI .int p1778.2 x1787 p1778.1).bind fun x1788 =>
        (z_sI p1778.2 x1786 l4 (x1788 + (1:Int32))).bind fun h1789 =>
        D_X11_layLeft_119  k41 k50 k60 h1789 l0 (1:Int32) l4 l5
def D_X11_layLeft_60 (k41 : z_H → Option Nat → Int32 → Option z_H) (k50 : z_H → Option Nat → Int32 → Int32 → Option z_H) (n : Nat) : z_H → Option Nat → Int32 → Int32 → Int32 → Option z_H := Nat.rec (motive := fun _ => z_H → Option Nat → Int32 → Int32 → Int32 → Option z_H) (fun _ _ _ _ _ => none) (fun _ k => D_X11_layLeft_60b k41 k50 k) n
set_option maxRecDepth 100000 in
set_option maxHeartbeats 4000000 in
theorem S_X11_layLeft_60 {G : z_G} {l : Launch} {k41 : z_H → Option Nat → Int32 → Option z_H} {k50 : z_H → Option Nat → Int32 → Int32 → Option z_H} (hk41 : ∀ {h : z_H} {l0 : Option Nat} {l3 : Int32} {res : z_H}, k41 h l0 l3 = some res → z_Run G l 11 M_X11_layLeft 41 [(0, z_r l0), (3, .int l3)] [] h res none) (hk50 : ∀ {h : z_H} {l0 : Option Nat} {l3 : Int32} {l4 : Int32} {res : z_H}, k50 h l0 l3 l4 = some res → z_Run G l 11 M_X11_layLeft 50 [(0, z_r l0), (3, .int l3), (4, .int l4)] [] h res none) (n : Nat) : ∀ {h : z_H} {l0 : Option Nat} {l3 : Int32} {l4 : Int32} {l5 : Int32} {res : z_H}, D_X11_layLeft_60 k41 k50 n h l0 l3 l4 l5 = some res → z_Run G l 11 M_X11_layLeft 60 [(0, z_r l0), (3, .int l3), (4, .int l4), (5, .int l5)] [] h res none := by
  induction n with
  | zero => intro h l0 l3 l4 l5 res e; cases e
  | succ n hk60 =>
    intro h l0 l3 l4 l5 res e
    replace e : D_X11_layLeft_60b k41 k50 (D_X11_layLeft_60 k41 k50 n) h l0 l3 l4 l5 = some res := e
    unfold D_X11_layLeft_60b at e
    refine z_iload 3 dX11_layLeft_60 rfl ?_
    refine z_iconst (v := 3) dX11_layLeft_62 (by decide) ?_
    refine z_icmp_ge (tgt := 125) dX11_layLeft_63 (by decide) (fun c1776 => ?_) (fun c1776 => ?_)
    · rw [if_pos c1776] at e
      replace e := z_bd e; obtain ⟨x1777, ex1777, e⟩ := e
      refine z_iinc (q := 2) (v := x1777) (L' := [(4, .int x1777), (0, z_r l0), (3, .int l3), (5, .int l5)]) dX11_layLeft_125 rfl (Option.some.inj ex1777) (by decide) rfl ?_
      refine z_goto (tgt := 50) dX11_layLeft_128 (by decide) ?_
      exact z_weak [1, 2, 0] rfl (hk50 e)
    · rw [if_neg c1776] at e
      refine z_aload_n 0 dX11_layLeft_66 rfl ?_
      refine z_iload 2 dX11_layLeft_67 rfl ?_
      refine z_iload 3 dX11_layLeft_69 rfl ?_
      replace e := z_bd e; obtain ⟨o1779, eo1779, e⟩ := e
      replace e := z_bd e; obtain ⟨p1778, ep1778, e⟩ := e
      refine z_cV [.int l4, .int l5] (S_X11_acted  ep1778) eo1779 rfl ml_X11_490 ck_X11_acted vk_X11_acted dX11_layLeft_71 (by decide) rfl (Nat.zero_le _) rfl ?_
      refine z_istore (L' := [(6, .int p1778.1), (0, z_r l0), (3, .int l3), (4, .int l4), (5, .int l5)]) dX11_layLeft_74 (by decide) rfl ?_
      refine z_iload 0 dX11_layLeft_76 rfl ?_
      refine z_iconst (v := -1) dX11_layLeft_78 (by decide) ?_
      refine z_icmp_eq (tgt := 119) dX11_layLeft_79 (by decide) (fun c1780 => ?_) (fun c1780 => ?_)
      · rw [if_pos c1780] at e
        exact z_weak [1, 2, 3, 4] rfl (S_X11_layLeft_119  @hk41 @hk50 @hk60 e)
      · rw [if_neg c1780] at e
        refine z_aload_n 1 dX11_layLeft_82 rfl ?_
        replace e := z_bd e; obtain ⟨x1781, ex1781, e⟩ := e
        refine z_getQ ex1781 lk_X11_120 dX11_layLeft_83 ?_
        refine z_iload 0 dX11_layLeft_86 rfl ?_
        replace e := z_bd e; obtain ⟨x1782, ex1782, e⟩ := e
        refine z_iald ex1782 dX11_layLeft_88 ?_
        refine z_iconst (v := 1) dX11_layLeft_89 (by decide) ?_
        refine z_iadd dX11_layLeft_90 ?_
        refine z_aload_n 1 dX11_layLeft_91 rfl ?_
        replace e := z_bd e; obtain ⟨x1783, ex1783, e⟩ := e
        refine z_getQ ex1783 lk_X11_120 dX11_layLeft_92 ?_
        refine z_iload 3 dX11_layLeft_95 rfl ?_
        replace e := z_bd e; obtain ⟨x1784, ex1784, e⟩ := e
        refine z_iald ex1784 dX11_layLeft_97 ?_
        refine z_icmp_ge (tgt := 119) dX11_layLeft_98 (by decide) (fun c1785 => ?_) (fun c1785 => ?_)
        · rw [if_pos c1785] at e
          exact z_weak [1, 2, 3, 4] rfl (S_X11_layLeft_119  @hk41 @hk50 @hk60 e)
        · rw [if_neg c1785] at e
          refine z_aload_n 1 dX11_layLeft_101 rfl ?_
          replace e := z_bd e; obtain ⟨x1786, ex1786, e⟩ := e
          refine z_getQ ex1786 lk_X11_120 dX11_layLeft_102 ?_
          refine z_iload 3 dX11_layLeft_105 rfl ?_
          refine z_aload_n 1 dX11_layLeft_107 rfl ?_
          replace e := z_bd e; obtain ⟨x1787, ex1787, e⟩ := e
          refine z_getQ ex1787 lk_X11_120 dX11_layLeft_108 ?_
          refine z_iload 0 dX11_layLeft_111 rfl ?_
          replace e := z_bd e; obtain ⟨x1788, ex1788, e⟩ := e
          refine z_iald ex1788 dX11_layLeft_113 ?_
          refine z_iconst (v := 1) dX11_layLeft_114 (by decide) ?_
          refine z_iadd dX11_layLeft_115 ?_
          replace e := z_bd e; obtain ⟨h1789, eh1789, e⟩ := e
          refine z_iast eh1789 dX11_layLeft_116 ?_
          refine z_iconst (v := 1) dX11_layLeft_117 (by decide) ?_
          refine z_istore_n (L' := [(3, .int (1:Int32)), (6, .int p1778.1), (0, z_r l0), (4, .int l4), (5, .int l5)]) dX11_layLeft_118 rfl (by decide) rfl ?_
          exact z_weak [2, 0, 3, 4] rfl (S_X11_layLeft_119  @hk41 @hk50 @hk60 e)
def D_X11_layLeft_50b (k41 : z_H → Option Nat → Int32 → Option z_H) (k50 : z_H → Option Nat → Int32 → Int32 → Option z_H) (h : z_H) (l0 : Option Nat) (l3 : Int32) (l4 : Int32) : Option z_H :=
  if (100:Int32) ≤ l4 then
    k41 h l0 l3
  else
    D_X11_layLeft_60  k41 k50 z_F h l0 l3 l4 (0:Int32)
def D_X11_layLeft_50 (k41 : z_H → Option Nat → Int32 → Option z_H) (n : Nat) : z_H → Option Nat → Int32 → Int32 → Option z_H := Nat.rec (motive := fun _ => z_H → Option Nat → Int32 → Int32 → Option z_H) (fun _ _ _ _ => none) (fun _ k => D_X11_layLeft_50b k41 k) n
set_option maxRecDepth 100000 in
set_option maxHeartbeats 4000000 in
theorem S_X11_layLeft_50 {G : z_G} {l : Launch} {k41 : z_H → Option Nat → Int32 → Option z_H} (hk41 : ∀ {h : z_H} {l0 : Option Nat} {l3 : Int32} {res : z_H}, k41 h l0 l3 = some res → z_Run G l 11 M_X11_layLeft 41 [(0, z_r l0), (3, .int l3)] [] h res none) (n : Nat) : ∀ {h : z_H} {l0 : Option Nat} {l3 : Int32} {l4 : Int32} {res : z_H}, D_X11_layLeft_50 k41 n h l0 l3 l4 = some res → z_Run G l 11 M_X11_layLeft 50 [(0, z_r l0), (3, .int l3), (4, .int l4)] [] h res none := by
  induction n with
  | zero => intro h l0 l3 l4 res e; cases e
  | succ n hk50 =>
    intro h l0 l3 l4 res e
    replace e : D_X11_layLeft_50b k41 (D_X11_layLeft_50 k41 n) h l0 l3 l4 = some res := e
    unfold D_X11_layLeft_50b at e
    refine z_iload 2 dX11_layLeft_50 rfl ?_
    refine z_bipush (v := 100) dX11_layLeft_52 (by decide) ?_
    refine z_icmp_ge (tgt := 131) dX11_layLeft_54 (by decide) (fun c1790 => ?_) (fun c1790 => ?_)
    · rw [if_pos c1790] at e
      refine z_goto (tgt := 41) dX11_layLeft_131 (by decide) ?_
      exact z_weak [0, 1] rfl (hk41 e)
    · rw [if_neg c1790] at e
      refine z_iconst (v := 0) dX11_layLeft_57 (by decide) ?_
      refine z_istore (L' := [(5, .int (0:Int32)), (0, z_r l0), (3, .int l3), (4, .int l4)]) dX11_layLeft_58 (by decide) rfl ?_
      exact z_weak [1, 2, 3, 0] rfl (S_X11_layLeft_60  @hk41 @hk50 z_F e)
def D_X11_layLeft_41b (k41 : z_H → Option Nat → Int32 → Option z_H) (h : z_H) (l0 : Option Nat) (l3 : Int32) : Option z_H :=
  if l3 = 0 then
    some h
  else
    D_X11_layLeft_50  k41 z_F h l0 (0:Int32) (0:Int32)
def D_X11_layLeft_41 (n : Nat) : z_H → Option Nat → Int32 → Option z_H := Nat.rec (motive := fun _ => z_H → Option Nat → Int32 → Option z_H) (fun _ _ _ => none) (fun _ k => D_X11_layLeft_41b  k) n
set_option maxRecDepth 100000 in
set_option maxHeartbeats 4000000 in
theorem S_X11_layLeft_41 {G : z_G} {l : Launch}  (n : Nat) : ∀ {h : z_H} {l0 : Option Nat} {l3 : Int32} {res : z_H}, D_X11_layLeft_41  n h l0 l3 = some res → z_Run G l 11 M_X11_layLeft 41 [(0, z_r l0), (3, .int l3)] [] h res none := by
  induction n with
  | zero => intro h l0 l3 res e; cases e
  | succ n hk41 =>
    intro h l0 l3 res e
    replace e : D_X11_layLeft_41b  (D_X11_layLeft_41  n) h l0 l3 = some res := e
    unfold D_X11_layLeft_41b at e
    refine z_iload_n 1 dX11_layLeft_41 rfl ?_
    refine z_if_eq (tgt := 134) dX11_layLeft_42 (by decide) (fun c1791 => ?_) (fun c1791 => ?_)
    · rw [if_pos c1791] at e
      cases e
      exact z_vret dX11_layLeft_134 rfl
    · rw [if_neg c1791] at e
      refine z_iconst (v := 0) dX11_layLeft_45 (by decide) ?_
      refine z_istore_n (L' := [(3, .int (0:Int32)), (0, z_r l0)]) dX11_layLeft_46 rfl (by decide) rfl ?_
      refine z_iconst (v := 0) dX11_layLeft_47 (by decide) ?_
      refine z_istore (L' := [(4, .int (0:Int32)), (3, .int (0:Int32)), (0, z_r l0)]) dX11_layLeft_48 (by decide) rfl ?_
      exact z_weak [2, 1, 0] rfl (S_X11_layLeft_50  @hk41 z_F e)
def D_X11_layLeft_32 (k7 : z_H → Option Nat → Int32 → Int32 → Option z_H) (h : z_H) (l0 : Option Nat) (l2 : Int32) (l3 : Int32) (s0 : Option Nat) (s1 : Int32) (s2 : Int32) : Option z_H :=
  (z_sI h s0 s1 s2).bind fun h1792 =>
  (some (l3 + (1:Int32))).bind fun x1793 =>
  k7 h1792 l0 l2 x1793
set_option maxRecDepth 100000 in
set_option maxHeartbeats 4000000 in
theorem S_X11_layLeft_32 {G : z_G} {l : Launch} {k7 : z_H → Option Nat → Int32 → Int32 → Option z_H} (hk7 : ∀ {h : z_H} {l0 : Option Nat} {l2 : Int32} {l3 : Int32} {res : z_H}, k7 h l0 l2 l3 = some res → z_Run G l 11 M_X11_layLeft 7 [(0, z_r l0), (2, .int l2), (3, .int l3)] [] h res none) {h : z_H} {l0 : Option Nat} {l2 : Int32} {l3 : Int32} {s0 : Option Nat} {s1 : Int32} {s2 : Int32} {res : z_H} (e : D_X11_layLeft_32 k7 h l0 l2 l3 s0 s1 s2 = some res) : z_Run G l 11 M_X11_layLeft 32 [(0, z_r l0), (2, .int l2), (3, .int l3)] [.int s2, .int s1, z_r s0] h res none := by
  unfold D_X11_layLeft_32 at e
  replace e := z_bd e; obtain ⟨h1792, eh1792, e⟩ := e
  refine z_iast eh1792 dX11_layLeft_32 ?_
  replace e := z_bd e; obtain ⟨x1793, ex1793, e⟩ := e
  refine z_iinc (q := 2) (v := x1793) (L' := [(3, .int x1793), (0, z_r l0), (2, .int l2)]) dX11_layLeft_33 rfl (Option.some.inj ex1793) (by decide) rfl ?_
  refine z_goto (tgt := 7) dX11_layLeft_36 (by decide) ?_
  exact z_weak [1, 2, 0] rfl (hk7 e)
def D_X11_layLeft_7b (k7 : z_H → Option Nat → Int32 → Int32 → Option z_H) (h : z_H) (l0 : Option Nat) (l2 : Int32) (l3 : Int32) : Option z_H :=
  if (100:Int32) ≤ l3 then
    D_X11_layLeft_41   z_F h l0 (1:Int32)
  else
    (z_gQ 11 h l0 43).bind fun x1795 =>
    if (l3 / (4:Int32)) = l2 then
      D_X11_layLeft_32  k7 h l0 l2 l3 x1795 l3 (0:Int32)
    else
      D_X11_layLeft_32  k7 h l0 l2 l3 x1795 l3 (100000000:Int32)
def D_X11_layLeft_7 (n : Nat) : z_H → Option Nat → Int32 → Int32 → Option z_H := Nat.rec (motive := fun _ => z_H → Option Nat → Int32 → Int32 → Option z_H) (fun _ _ _ _ => none) (fun _ k => D_X11_layLeft_7b  k) n
set_option maxRecDepth 100000 in
set_option maxHeartbeats 4000000 in
theorem S_X11_layLeft_7 {G : z_G} {l : Launch}  (n : Nat) : ∀ {h : z_H} {l0 : Option Nat} {l2 : Int32} {l3 : Int32} {res : z_H}, D_X11_layLeft_7  n h l0 l2 l3 = some res → z_Run G l 11 M_X11_layLeft 7 [(0, z_r l0), (2, .int l2), (3, .int l3)] [] h res none := by
  induction n with
  | zero => intro h l0 l2 l3 res e; cases e
  | succ n hk7 =>
    intro h l0 l2 l3 res e
    replace e : D_X11_layLeft_7b  (D_X11_layLeft_7  n) h l0 l2 l3 = some res := e
    unfold D_X11_layLeft_7b at e
    refine z_iload_n 2 dX11_layLeft_7 rfl ?_
    refine z_bipush (v := 100) dX11_layLeft_8 (by decide) ?_
    refine z_icmp_ge (tgt := 39) dX11_layLeft_10 (by decide) (fun c1794 => ?_) (fun c1794 => ?_)
    · rw [if_pos c1794] at e
      refine z_iconst (v := 1) dX11_layLeft_39 (by decide) ?_
      refine z_istore_n (L' := [(3, .int (1:Int32)), (0, z_r l0), (2, .int l2)]) dX11_layLeft_40 rfl (by decide) rfl ?_
      exact z_weak [1, 0] rfl (S_X11_layLeft_41   z_F e)
    · rw [if_neg c1794] at e
      refine z_aload_n 0 dX11_layLeft_13 rfl ?_
      replace e := z_bd e; obtain ⟨x1795, ex1795, e⟩ := e
      refine z_getQ ex1795 lk_X11_120 dX11_layLeft_14 ?_
      refine z_iload_n 2 dX11_layLeft_17 rfl ?_
      refine z_iload_n 2 dX11_layLeft_18 rfl ?_
      refine z_iconst (v := 4) dX11_layLeft_19 (by decide) ?_
      refine z_idiv dX11_layLeft_20 (by decide) ?_
      refine z_iload_n 1 dX11_layLeft_21 rfl ?_
      refine z_icmp_ne (tgt := 29) dX11_layLeft_22 (by decide) (fun c1796 => ?_) (fun c1796 => ?_)
      · rw [if_neg c1796] at e
        refine z_ldcw dX11_layLeft_29 kc_X11_489 ?_
        exact z_weak [0, 1, 2] rfl (S_X11_layLeft_32  @hk7 e)
      · rw [if_pos c1796] at e
        refine z_iconst (v := 0) dX11_layLeft_25 (by decide) ?_
        refine z_goto (tgt := 32) dX11_layLeft_26 (by decide) ?_
        exact z_weak [0, 1, 2] rfl (S_X11_layLeft_32  @hk7 e)
def D_X11_layLeft (h : z_H) (l0 : Option Nat) (l1 : Int32) (l2 : Int32) : Option z_H :=
  (z_ob 11 h l0).bind fun _ =>
  (D_X11_laySteps  h l0 l1).bind fun p1797 =>
  D_X11_layLeft_7   z_F p1797 l0 l2 (0:Int32)
set_option maxRecDepth 100000 in
set_option maxHeartbeats 4000000 in
theorem S_X11_layLeft {G : z_G} {l : Launch} {h : z_H} {l0 : Option Nat} {l1 : Int32} {l2 : Int32} {res : z_H} (e : D_X11_layLeft h l0 l1 l2 = some res) : z_Meth G l 11 M_X11_layLeft [z_r l0, .int l1, .int l2] h res none := by
  refine z_Meth.of ck_X11_layLeft.2.2.2.2 (by simp [lg_sl, z_ci, z_cj, z_cr, z_cx]) ck_X11_layLeft.1 ?_
  rw [show lv_args 0 [z_r l0, .int l1, .int l2] = [(0, z_r l0), (1, .int l1), (2, .int l2)] from by simp [lv_args, z_ci, z_cj, z_cr, z_cx]]
  unfold D_X11_layLeft at e
  refine z_aload_n 0 dX11_layLeft_0 rfl ?_
  refine z_iload_n 1 dX11_layLeft_1 rfl ?_
  replace e := z_bd e; obtain ⟨o1798, eo1798, e⟩ := e
  replace e := z_bd e; obtain ⟨p1797, ep1797, e⟩ := e
  refine z_cV [.int l1] (S_X11_laySteps  ep1797) eo1798 rfl ml_X11_473 ck_X11_laySteps vk_X11_laySteps dX11_layLeft_2 (by decide) rfl (Nat.zero_le _) rfl ?_
  refine z_iconst (v := 0) dX11_layLeft_5 (by decide) ?_
  refine z_istore_n (L' := [(3, .int (0:Int32)), (0, z_r l0), (1, .int l1), (2, .int l2)]) dX11_layLeft_6 rfl (by decide) rfl ?_
  exact z_weak [1, 3, 0] rfl (S_X11_layLeft_7   z_F e)
theorem dX11_stateOf_0 : decode cX11_stateOf 0 = .ok (.iconst 4, 1) := by decide +kernel
theorem dX11_stateOf_1 : decode cX11_stateOf 1 = .ok (.aload_n 0, 1) := by decide +kernel
theorem dX11_stateOf_2 : decode cX11_stateOf 2 = .ok (.getfield 13, 3) := by decide +kernel
theorem dX11_stateOf_5 : decode cX11_stateOf 5 = .ok (.bipush 8, 2) := by decide +kernel
theorem dX11_stateOf_7 : decode cX11_stateOf 7 = .ok (.iload_n 1, 1) := by decide +kernel
theorem dX11_stateOf_8 : decode cX11_stateOf 8 = .ok (.iadd, 1) := by decide +kernel
theorem dX11_stateOf_9 : decode cX11_stateOf 9 = .ok (.iaload, 1) := by decide +kernel
theorem dX11_stateOf_10 : decode cX11_stateOf 10 = .ok (.imul, 1) := by decide +kernel
theorem dX11_stateOf_11 : decode cX11_stateOf 11 = .ok (.aload_n 0, 1) := by decide +kernel
theorem dX11_stateOf_12 : decode cX11_stateOf 12 = .ok (.getfield 13, 3) := by decide +kernel
theorem dX11_stateOf_15 : decode cX11_stateOf 15 = .ok (.bipush 14, 2) := by decide +kernel
theorem dX11_stateOf_17 : decode cX11_stateOf 17 = .ok (.iload_n 1, 1) := by decide +kernel
theorem dX11_stateOf_18 : decode cX11_stateOf 18 = .ok (.iadd, 1) := by decide +kernel
theorem dX11_stateOf_19 : decode cX11_stateOf 19 = .ok (.iaload, 1) := by decide +kernel
theorem dX11_stateOf_20 : decode cX11_stateOf 20 = .ok (.iadd, 1) := by decide +kernel
theorem dX11_stateOf_21 : decode cX11_stateOf 21 = .ok (.ireturn, 1) := by decide +kernel
def D_X11_stateOf (h : z_H) (l0 : Option Nat) (l1 : Int32) : Option (Int32 × z_H) :=
  (z_gQ 11 h l0 3).bind fun x1799 =>
  (z_aI .int h x1799 ((8:Int32) + l1)).bind fun x1800 =>
  (z_gQ 11 h l0 3).bind fun x1801 =>
  (z_aI .int h x1801 ((14:Int32) + l1)).bind fun x1802 =>
  some ((((4:Int32) * x1800) + x1802), h)
set_option maxRecDepth 100000 in
set_option maxHeartbeats 4000000 in
theorem S_X11_stateOf {G : z_G} {l : Launch} {h : z_H} {l0 : Option Nat} {l1 : Int32} {res : (Int32 × z_H)} (e : D_X11_stateOf h l0 l1 = some res) : z_Meth G l 4 M_X11_stateOf [z_r l0, .int l1] h res.2 (some (.int res.1)) := by
  refine z_Meth.of ck_X11_stateOf.2.2.2.2 (by simp [lg_sl, z_ci, z_cj, z_cr, z_cx]) ck_X11_stateOf.1 ?_
  rw [show lv_args 0 [z_r l0, .int l1] = [(0, z_r l0), (1, .int l1)] from by simp [lv_args, z_ci, z_cj, z_cr, z_cx]]
  unfold D_X11_stateOf at e
  refine z_iconst (v := 4) dX11_stateOf_0 (by decide) ?_
  refine z_aload_n 0 dX11_stateOf_1 rfl ?_
  replace e := z_bd e; obtain ⟨x1799, ex1799, e⟩ := e
  refine z_getQ ex1799 lk_X11_13 dX11_stateOf_2 ?_
  refine z_bipush (v := 8) dX11_stateOf_5 (by decide) ?_
  refine z_iload_n 1 dX11_stateOf_7 rfl ?_
  refine z_iadd dX11_stateOf_8 ?_
  replace e := z_bd e; obtain ⟨x1800, ex1800, e⟩ := e
  refine z_iald ex1800 dX11_stateOf_9 ?_
  refine z_imul dX11_stateOf_10 ?_
  refine z_aload_n 0 dX11_stateOf_11 rfl ?_
  replace e := z_bd e; obtain ⟨x1801, ex1801, e⟩ := e
  refine z_getQ ex1801 lk_X11_13 dX11_stateOf_12 ?_
  refine z_bipush (v := 14) dX11_stateOf_15 (by decide) ?_
  refine z_iload_n 1 dX11_stateOf_17 rfl ?_
  refine z_iadd dX11_stateOf_18 ?_
  replace e := z_bd e; obtain ⟨x1802, ex1802, e⟩ := e
  refine z_iald ex1802 dX11_stateOf_19 ?_
  refine z_iadd dX11_stateOf_20 ?_
  cases e
  exact z_iret dX11_stateOf_21 rfl
theorem dX11_within_0 : decode cX11_within 0 = .ok (.aload_n 0, 1) := by decide +kernel
theorem dX11_within_1 : decode cX11_within 1 = .ok (.iconst 0, 1) := by decide +kernel
theorem dX11_within_2 : decode cX11_within 2 = .ok (.putfield 166, 3) := by decide +kernel
theorem dX11_within_5 : decode cX11_within 5 = .ok (.iload_n 1, 1) := by decide +kernel
theorem dX11_within_6 : decode cX11_within 6 = .ok (.invokestatic 201, 3) := by decide +kernel
theorem dX11_within_9 : decode cX11_within 9 = .ok (.ifCond .eq 15, 3) := by decide +kernel
theorem dX11_within_12 : decode cX11_within 12 = .ok (.iload_n 2, 1) := by decide +kernel
theorem dX11_within_13 : decode cX11_within 13 = .ok (.i2l, 1) := by decide +kernel
theorem dX11_within_14 : decode cX11_within 14 = .ok (.lconst 0, 1) := by decide +kernel
theorem dX11_within_15 : decode cX11_within 15 = .ok (.ldc2_w 503, 3) := by decide +kernel
theorem dX11_within_18 : decode cX11_within 18 = .ok (.invokestatic 186, 3) := by decide +kernel
theorem dX11_within_21 : decode cX11_within 21 = .ok (.ifCond .ne 5, 3) := by decide +kernel
theorem dX11_within_24 : decode cX11_within 24 = .ok (.iconst (-1), 1) := by decide +kernel
theorem dX11_within_25 : decode cX11_within 25 = .ok (.ireturn, 1) := by decide +kernel
theorem dX11_within_26 : decode cX11_within 26 = .ok (.iconst 0, 1) := by decide +kernel
theorem dX11_within_27 : decode cX11_within 27 = .ok (.istore_n 3, 1) := by decide +kernel
theorem dX11_within_28 : decode cX11_within 28 = .ok (.iconst 0, 1) := by decide +kernel
theorem dX11_within_29 : decode cX11_within 29 = .ok (.istore 4, 2) := by decide +kernel
theorem dX11_within_31 : decode cX11_within 31 = .ok (.iload 4, 2) := by decide +kernel
theorem dX11_within_33 : decode cX11_within 33 = .ok (.aload_n 0, 1) := by decide +kernel
theorem dX11_within_34 : decode cX11_within 34 = .ok (.getfield 13, 3) := by decide +kernel
theorem dX11_within_37 : decode cX11_within 37 = .ok (.iconst 0, 1) := by decide +kernel
theorem dX11_within_38 : decode cX11_within 38 = .ok (.iaload, 1) := by decide +kernel
theorem dX11_within_39 : decode cX11_within 39 = .ok (.if_icmp .ge 42, 3) := by decide +kernel
theorem dX11_within_42 : decode cX11_within 42 = .ok (.aload_n 0, 1) := by decide +kernel
theorem dX11_within_43 : decode cX11_within 43 = .ok (.iload 4, 2) := by decide +kernel
theorem dX11_within_45 : decode cX11_within 45 = .ok (.iload_n 1, 1) := by decide +kernel
theorem dX11_within_46 : decode cX11_within 46 = .ok (.invokevirtual 493, 3) := by decide +kernel
theorem dX11_within_49 : decode cX11_within 49 = .ok (.iload_n 3, 1) := by decide +kernel
theorem dX11_within_50 : decode cX11_within 50 = .ok (.aload_n 0, 1) := by decide +kernel
theorem dX11_within_51 : decode cX11_within 51 = .ok (.getfield 120, 3) := by decide +kernel
theorem dX11_within_54 : decode cX11_within 54 = .ok (.aload_n 0, 1) := by decide +kernel
theorem dX11_within_55 : decode cX11_within 55 = .ok (.iload 4, 2) := by decide +kernel
theorem dX11_within_57 : decode cX11_within 57 = .ok (.invokevirtual 496, 3) := by decide +kernel
theorem dX11_within_60 : decode cX11_within 60 = .ok (.iaload, 1) := by decide +kernel
theorem dX11_within_61 : decode cX11_within 61 = .ok (.iload_n 2, 1) := by decide +kernel
theorem dX11_within_62 : decode cX11_within 62 = .ok (.if_icmp .gt 10, 3) := by decide +kernel
theorem dX11_within_65 : decode cX11_within 65 = .ok (.iconst 1, 1) := by decide +kernel
theorem dX11_within_66 : decode cX11_within 66 = .ok (.iload 4, 2) := by decide +kernel
theorem dX11_within_68 : decode cX11_within 68 = .ok (.ishl, 1) := by decide +kernel
theorem dX11_within_69 : decode cX11_within 69 = .ok (.goto 4, 3) := by decide +kernel
theorem dX11_within_72 : decode cX11_within 72 = .ok (.iconst 0, 1) := by decide +kernel
theorem dX11_within_73 : decode cX11_within 73 = .ok (.ior, 1) := by decide +kernel
theorem dX11_within_74 : decode cX11_within 74 = .ok (.istore_n 3, 1) := by decide +kernel
theorem dX11_within_75 : decode cX11_within 75 = .ok (.iinc 4 1, 3) := by decide +kernel
theorem dX11_within_78 : decode cX11_within 78 = .ok (.goto (-47), 3) := by decide +kernel
theorem dX11_within_81 : decode cX11_within 81 = .ok (.iload_n 3, 1) := by decide +kernel
theorem dX11_within_82 : decode cX11_within 82 = .ok (.ireturn, 1) := by decide +kernel
def D_X11_within_73 (k31 : z_H → Option Nat → Int32 → Int32 → Int32 → Int32 → Option (Int32 × z_H)) (h : z_H) (l0 : Option Nat) (l1 : Int32) (l2 : Int32) (l4 : Int32) (s0 : Int32) (s1 : Int32) : Option (Int32 × z_H) :=
  (some (s0 ||| s1)).bind fun x1803 =>
  (some (l4 + (1:Int32))).bind fun x1804 =>
  k31 h l0 l1 l2 x1803 x1804
set_option maxRecDepth 100000 in
set_option maxHeartbeats 4000000 in
theorem S_X11_within_73 {G : z_G} {l : Launch} {k31 : z_H → Option Nat → Int32 → Int32 → Int32 → Int32 → Option (Int32 × z_H)} (hk31 : ∀ {h : z_H} {l0 : Option Nat} {l1 : Int32} {l2 : Int32} {l3 : Int32} {l4 : Int32} {res : (Int32 × z_H)}, k31 h l0 l1 l2 l3 l4 = some res → z_Run G l 12 M_X11_within 31 [(0, z_r l0), (1, .int l1), (2, .int l2), (3, .int l3), (4, .int l4)] [] h res.2 (some (.int res.1))) {h : z_H} {l0 : Option Nat} {l1 : Int32} {l2 : Int32} {l4 : Int32} {s0 : Int32} {s1 : Int32} {res : (Int32 × z_H)} (e : D_X11_within_73 k31 h l0 l1 l2 l4 s0 s1 = some res) : z_Run G l 12 M_X11_within 73 [(0, z_r l0), (1, .int l1), (2, .int l2), (4, .int l4)] [.int s1, .int s0] h res.2 (some (.int res.1)) := by
  unfold D_X11_within_73 at e
  refine z_ior dX11_within_73 ?_
  replace e := z_bd e; obtain ⟨x1803, ex1803, e⟩ := e
  refine z_topI ex1803 ?_
  refine z_istore_n (L' := [(3, .int x1803), (0, z_r l0), (1, .int l1), (2, .int l2), (4, .int l4)]) dX11_within_74 rfl (by decide) rfl ?_
  replace e := z_bd e; obtain ⟨x1804, ex1804, e⟩ := e
  refine z_iinc (q := 4) (v := x1804) (L' := [(4, .int x1804), (3, .int x1803), (0, z_r l0), (1, .int l1), (2, .int l2)]) dX11_within_75 rfl (Option.some.inj ex1804) (by decide) rfl ?_
  refine z_goto (tgt := 31) dX11_within_78 (by decide) ?_
  exact z_weak [2, 3, 4, 1, 0] rfl (hk31 e)
def D_X11_within_31b (k31 : z_H → Option Nat → Int32 → Int32 → Int32 → Int32 → Option (Int32 × z_H)) (h : z_H) (l0 : Option Nat) (l1 : Int32) (l2 : Int32) (l3 : Int32) (l4 : Int32) : Option (Int32 × z_H) :=
  (z_gQ 11 h l0 3).bind fun x1805 =>
  (z_aI .int h x1805 (0:Int32)).bind fun x1806 =>
  if x1806 ≤ l4 then
    some (l3, h)
  else
    (z_ob 11 h l0).bind fun _ =>
    (D_X11_layLeft  h l0 l4 l1).bind fun p1808 =>
    (z_gQ 11 p1808 l0 43).bind fun x1810 =>
    (z_ob 11 p1808 l0).bind fun _ =>
    (D_X11_stateOf  p1808 l0 l4).bind fun p1811 =>
    (z_aI .int p1811.2 x1810 p1811.1).bind fun x1813 =>
    if l2 < x1813 then
      D_X11_within_73  k31 p1811.2 l0 l1 l2 l4 l3 (0:Int32)
    else
      D_X11_within_73  k31 p1811.2 l0 l1 l2 l4 l3 ((1:Int32) <<< (l4 &&& 31))
def D_X11_within_31 (n : Nat) : z_H → Option Nat → Int32 → Int32 → Int32 → Int32 → Option (Int32 × z_H) := Nat.rec (motive := fun _ => z_H → Option Nat → Int32 → Int32 → Int32 → Int32 → Option (Int32 × z_H)) (fun _ _ _ _ _ _ => none) (fun _ k => D_X11_within_31b  k) n
set_option maxRecDepth 100000 in
set_option maxHeartbeats 4000000 in
theorem S_X11_within_31 {G : z_G} {l : Launch}  (n : Nat) : ∀ {h : z_H} {l0 : Option Nat} {l1 : Int32} {l2 : Int32} {l3 : Int32} {l4 : Int32} {res : (Int32 × z_H)}, D_X11_within_31  n h l0 l1 l2 l3 l4 = some res → z_Run G l 12 M_X11_within 31 [(0, z_r l0), (1, .int l1), (2, .int l2), (3, .int l3), (4, .int l4)] [] h res.2 (some (.int res.1)) := by
  induction n with
  | zero => intro h l0 l1 l2 l3 l4 res e; cases e
  | succ n hk31 =>
    intro h l0 l1 l2 l3 l4 res e
    replace e : D_X11_within_31b  (D_X11_within_31  n) h l0 l1 l2 l3 l4 = some res := e
    unfold D_X11_within_31b at e
    refine z_iload 4 dX11_within_31 rfl ?_
    refine z_aload_n 0 dX11_within_33 rfl ?_
    replace e := z_bd e; obtain ⟨x1805, ex1805, e⟩ := e
    refine z_getQ ex1805 lk_X11_13 dX11_within_34 ?_
    refine z_iconst (v := 0) dX11_within_37 (by decide) ?_
    replace e := z_bd e; obtain ⟨x1806, ex1806, e⟩ := e
    refine z_iald ex1806 dX11_within_38 ?_
    refine z_icmp_ge (tgt := 81) dX11_within_39 (by decide) (fun c1807 => ?_) (fun c1807 => ?_)
    · rw [if_pos c1807] at e
      refine z_iload_n 3 dX11_within_81 rfl ?_
      cases e
      exact z_iret dX11_within_82 rfl
    · rw [if_neg c1807] at e
      refine z_aload_n 0 dX11_within_42 rfl ?_
      refine z_iload 4 dX11_within_43 rfl ?_
      refine z_iload_n 1 dX11_within_45 rfl ?_
      replace e := z_bd e; obtain ⟨o1809, eo1809, e⟩ := e
      replace e := z_bd e; obtain ⟨p1808, ep1808, e⟩ := e
      refine z_cV [.int l4, .int l1] (S_X11_layLeft  ep1808) eo1809 rfl ml_X11_493 ck_X11_layLeft vk_X11_layLeft dX11_within_46 (by decide) rfl (Nat.zero_le _) rfl ?_
      refine z_iload_n 3 dX11_within_49 rfl ?_
      refine z_aload_n 0 dX11_within_50 rfl ?_
      replace e := z_bd e; obtain ⟨x1810, ex1810, e⟩ := e
      refine z_getQ ex1810 lk_X11_120 dX11_within_51 ?_
      refine z_aload_n 0 dX11_within_54 rfl ?_
      refine z_iload 4 dX11_within_55 rfl ?_
      replace e := z_bd e; obtain ⟨o1812, eo1812, e⟩ := e
      replace e := z_bd e; obtain ⟨p1811, ep1811, e⟩ := e
      refine z_cV [.int l4] (S_X11_stateOf  ep1811) eo1812 rfl ml_X11_496 ck_X11_stateOf vk_X11_stateOf dX11_within_57 (by decide) rfl (by simp [z_ci, z_cj, z_cr, z_cx]) rfl ?_
      replace e := z_bd e; obtain ⟨x1813, ex1813, e⟩ := e
      refine z_iald ex1813 dX11_within_60 ?_
      refine z_iload_n 2 dX11_within_61 rfl ?_
      refine z_icmp_gt (tgt := 72) dX11_within_62 (by decide) (fun c1814 => ?_) (fun c1814 => ?_)
      · rw [if_pos c1814] at e
        refine z_iconst (v := 0) dX11_within_72 (by decide) ?_
        exact z_weak [0, 1, 2, 4] rfl (S_X11_within_73  @hk31 e)
      · rw [if_neg c1814] at e
        refine z_iconst (v := 1) dX11_within_65 (by decide) ?_
        refine z_iload 4 dX11_within_66 rfl ?_
        refine z_ishl dX11_within_68 ?_
        refine z_goto (tgt := 73) dX11_within_69 (by decide) ?_
        exact z_weak [0, 1, 2, 4] rfl (S_X11_within_73  @hk31 e)
def D_X11_within (h : z_H) (l0 : Option Nat) (l1 : Int32) (l2 : Int32) : Option (Int32 × z_H) :=
  (z_pV 11 h l0 0 (.int (0:Int32))).bind fun h1815 =>
  (D_X11_isCell  h1815 l1).bind fun p1816 =>
  if p1816.1 = 0 then
    some ((-1:Int32), p1816.2)
  else
    (D_X11_in  p1816.2 (Int32.toInt64 l2) (0:Int64) (100:Int64)).bind fun p1818 =>
    if p1818.1 = 0 then
      some ((-1:Int32), p1818.2)
    else
      D_X11_within_31   z_F p1818.2 l0 l1 l2 (0:Int32) (0:Int32)
set_option maxRecDepth 100000 in
set_option maxHeartbeats 4000000 in
theorem S_X11_within {G : z_G} {l : Launch} {h : z_H} {l0 : Option Nat} {l1 : Int32} {l2 : Int32} {res : (Int32 × z_H)} (e : D_X11_within h l0 l1 l2 = some res) : z_Meth G l 12 M_X11_within [z_r l0, .int l1, .int l2] h res.2 (some (.int res.1)) := by
  refine z_Meth.of ck_X11_within.2.2.2.2 (by simp [lg_sl, z_ci, z_cj, z_cr, z_cx]) ck_X11_within.1 ?_
  rw [show lv_args 0 [z_r l0, .int l1, .int l2] = [(0, z_r l0), (1, .int l1), (2, .int l2)] from by simp [lv_args, z_ci, z_cj, z_cr, z_cx]]
  unfold D_X11_within at e
  refine z_aload_n 0 dX11_within_0 rfl ?_
  refine z_iconst (v := 0) dX11_within_1 (by decide) ?_
  replace e := z_bd e; obtain ⟨h1815, eh1815, e⟩ := e
  refine z_putV eh1815 lk_X11_166 wk_11_0 (fun _ => rfl) (fun _ => rfl) dX11_within_2 ?_
  refine z_iload_n 1 dX11_within_5 rfl ?_
  replace e := z_bd e; obtain ⟨p1816, ep1816, e⟩ := e
  refine z_cS [.int l1] (S_X11_isCell  ep1816) ml_X11_201 ck_X11_isCell st_X11_isCell dX11_within_6 (by decide) rfl (Nat.zero_le _) rfl ?_
  refine z_if_eq (tgt := 24) dX11_within_9 (by decide) (fun c1817 => ?_) (fun c1817 => ?_)
  · rw [if_pos c1817] at e
    refine z_iconst (v := -1) dX11_within_24 (by decide) ?_
    cases e
    exact z_iret dX11_within_25 rfl
  · rw [if_neg c1817] at e
    refine z_iload_n 2 dX11_within_12 rfl ?_
    refine z_i2l dX11_within_13 ?_
    refine z_lconst (v := 0) dX11_within_14 (by decide) ?_
    refine z_ldc2 dX11_within_15 kj_X11_503 ?_
    replace e := z_bd e; obtain ⟨p1818, ep1818, e⟩ := e
    refine z_cS [.long (Int32.toInt64 l2), .long (0:Int64), .long (100:Int64)] (S_X11_in  ep1818) ml_X11_186 ck_X11_in st_X11_in dX11_within_18 (by decide) rfl (Nat.zero_le _) rfl ?_
    refine z_if_ne (tgt := 26) dX11_within_21 (by decide) (fun c1819 => ?_) (fun c1819 => ?_)
    · rw [if_neg c1819] at e
      refine z_iconst (v := 0) dX11_within_26 (by decide) ?_
      refine z_istore_n (L' := [(3, .int (0:Int32)), (0, z_r l0), (1, .int l1), (2, .int l2)]) dX11_within_27 rfl (by decide) rfl ?_
      refine z_iconst (v := 0) dX11_within_28 (by decide) ?_
      refine z_istore (L' := [(4, .int (0:Int32)), (3, .int (0:Int32)), (0, z_r l0), (1, .int l1), (2, .int l2)]) dX11_within_29 (by decide) rfl ?_
      exact z_weak [2, 3, 4, 1, 0] rfl (S_X11_within_31   z_F e)
    · rw [if_pos c1819] at e
      refine z_iconst (v := -1) dX11_within_24 (by decide) ?_
      cases e
      exact z_iret dX11_within_25 rfl
theorem dX6_spread_0 : decode cX6_spread 0 = .ok (.aload_n 0, 1) := by decide +kernel
theorem dX6_spread_1 : decode cX6_spread 1 = .ok (.getfield 21, 3) := by decide +kernel
theorem dX6_spread_4 : decode cX6_spread 4 = .ok (.lconst 0, 1) := by decide +kernel
theorem dX6_spread_5 : decode cX6_spread 5 = .ok (.invokestatic 57, 3) := by decide +kernel
theorem dX6_spread_8 : decode cX6_spread 8 = .ok (.iconst 0, 1) := by decide +kernel
theorem dX6_spread_9 : decode cX6_spread 9 = .ok (.istore_n 1, 1) := by decide +kernel
theorem dX6_spread_10 : decode cX6_spread 10 = .ok (.iload_n 1, 1) := by decide +kernel
theorem dX6_spread_11 : decode cX6_spread 11 = .ok (.bipush 100, 2) := by decide +kernel
theorem dX6_spread_13 : decode cX6_spread 13 = .ok (.if_icmp .ge 74, 3) := by decide +kernel
theorem dX6_spread_16 : decode cX6_spread 16 = .ok (.aload_n 0, 1) := by decide +kernel
theorem dX6_spread_17 : decode cX6_spread 17 = .ok (.getfield 18, 3) := by decide +kernel
theorem dX6_spread_20 : decode cX6_spread 20 = .ok (.iload_n 1, 1) := by decide +kernel
theorem dX6_spread_21 : decode cX6_spread 21 = .ok (.laload, 1) := by decide +kernel
theorem dX6_spread_22 : decode cX6_spread 22 = .ok (.ldc2_w 68, 3) := by decide +kernel
theorem dX6_spread_25 : decode cX6_spread 25 = .ok (.ldiv, 1) := by decide +kernel
theorem dX6_spread_26 : decode cX6_spread 26 = .ok (.lstore_n 2, 1) := by decide +kernel
theorem dX6_spread_27 : decode cX6_spread 27 = .ok (.iconst 0, 1) := by decide +kernel
theorem dX6_spread_28 : decode cX6_spread 28 = .ok (.istore 4, 2) := by decide +kernel
theorem dX6_spread_30 : decode cX6_spread 30 = .ok (.iload 4, 2) := by decide +kernel
theorem dX6_spread_32 : decode cX6_spread 32 = .ok (.iconst 3, 1) := by decide +kernel
theorem dX6_spread_33 : decode cX6_spread 33 = .ok (.if_icmp .ge 48, 3) := by decide +kernel
theorem dX6_spread_36 : decode cX6_spread 36 = .ok (.lload_n 2, 1) := by decide +kernel
theorem dX6_spread_37 : decode cX6_spread 37 = .ok (.lconst 0, 1) := by decide +kernel
theorem dX6_spread_38 : decode cX6_spread 38 = .ok (.lcmp, 1) := by decide +kernel
theorem dX6_spread_39 : decode cX6_spread 39 = .ok (.ifCond .le 42, 3) := by decide +kernel
theorem dX6_spread_42 : decode cX6_spread 42 = .ok (.aload_n 0, 1) := by decide +kernel
theorem dX6_spread_43 : decode cX6_spread 43 = .ok (.getfield 27, 3) := by decide +kernel
theorem dX6_spread_46 : decode cX6_spread 46 = .ok (.iload_n 1, 1) := by decide +kernel
theorem dX6_spread_47 : decode cX6_spread 47 = .ok (.iload 4, 2) := by decide +kernel
theorem dX6_spread_49 : decode cX6_spread 49 = .ok (.invokevirtual 70, 3) := by decide +kernel
theorem dX6_spread_52 : decode cX6_spread 52 = .ok (.istore 5, 2) := by decide +kernel
theorem dX6_spread_54 : decode cX6_spread 54 = .ok (.aload_n 0, 1) := by decide +kernel
theorem dX6_spread_55 : decode cX6_spread 55 = .ok (.getfield 21, 3) := by decide +kernel
theorem dX6_spread_58 : decode cX6_spread 58 = .ok (.iload 5, 2) := by decide +kernel
theorem dX6_spread_60 : decode cX6_spread 60 = .ok (.iconst (-1), 1) := by decide +kernel
theorem dX6_spread_61 : decode cX6_spread 61 = .ok (.if_icmp .ne 7, 3) := by decide +kernel
theorem dX6_spread_64 : decode cX6_spread 64 = .ok (.iload_n 1, 1) := by decide +kernel
theorem dX6_spread_65 : decode cX6_spread 65 = .ok (.goto 5, 3) := by decide +kernel
theorem dX6_spread_68 : decode cX6_spread 68 = .ok (.iload 5, 2) := by decide +kernel
theorem dX6_spread_70 : decode cX6_spread 70 = .ok (.dup2, 1) := by decide +kernel
theorem dX6_spread_71 : decode cX6_spread 71 = .ok (.laload, 1) := by decide +kernel
theorem dX6_spread_72 : decode cX6_spread 72 = .ok (.lload_n 2, 1) := by decide +kernel
theorem dX6_spread_73 : decode cX6_spread 73 = .ok (.ladd, 1) := by decide +kernel
theorem dX6_spread_74 : decode cX6_spread 74 = .ok (.lastore, 1) := by decide +kernel
theorem dX6_spread_75 : decode cX6_spread 75 = .ok (.iinc 4 1, 3) := by decide +kernel
theorem dX6_spread_78 : decode cX6_spread 78 = .ok (.goto (-48), 3) := by decide +kernel
theorem dX6_spread_81 : decode cX6_spread 81 = .ok (.iinc 1 1, 3) := by decide +kernel
theorem dX6_spread_84 : decode cX6_spread 84 = .ok (.goto (-74), 3) := by decide +kernel
theorem dX6_spread_87 : decode cX6_spread 87 = .ok (.aload_n 0, 1) := by decide +kernel
theorem dX6_spread_88 : decode cX6_spread 88 = .ok (.getfield 21, 3) := by decide +kernel
theorem dX6_spread_91 : decode cX6_spread 91 = .ok (.iconst 0, 1) := by decide +kernel
theorem dX6_spread_92 : decode cX6_spread 92 = .ok (.aload_n 0, 1) := by decide +kernel
theorem dX6_spread_93 : decode cX6_spread 93 = .ok (.getfield 18, 3) := by decide +kernel
theorem dX6_spread_96 : decode cX6_spread 96 = .ok (.iconst 0, 1) := by decide +kernel
theorem dX6_spread_97 : decode cX6_spread 97 = .ok (.bipush 100, 2) := by decide +kernel
theorem dX6_spread_99 : decode cX6_spread 99 = .ok (.invokestatic 51, 3) := by decide +kernel
theorem dX6_spread_102 : decode cX6_spread 102 = .ok (.return_, 1) := by decide +kernel
def D_X6_spread_81 (k10 : z_H → Option Nat → Int32 → Option z_H) (h : z_H) (l0 : Option Nat) (l1 : Int32) : Option z_H :=
  (some (l1 + (1:Int32))).bind fun x1820 =>
  k10 h l0 x1820
set_option maxRecDepth 100000 in
set_option maxHeartbeats 4000000 in
theorem S_X6_spread_81 {G : z_G} {l : Launch} {k10 : z_H → Option Nat → Int32 → Option z_H} (hk10 : ∀ {h : z_H} {l0 : Option Nat} {l1 : Int32} {res : z_H}, k10 h l0 l1 = some res → z_Run G l 6 M_X6_spread 10 [(0, z_r l0), (1, .int l1)] [] h res none) {h : z_H} {l0 : Option Nat} {l1 : Int32} {res : z_H} (e : D_X6_spread_81 k10 h l0 l1 = some res) : z_Run G l 6 M_X6_spread 81 [(0, z_r l0), (1, .int l1)] [] h res none := by
  unfold D_X6_spread_81 at e
  replace e := z_bd e; obtain ⟨x1820, ex1820, e⟩ := e
  refine z_iinc (q := 1) (v := x1820) (L' := [(1, .int x1820), (0, z_r l0)]) dX6_spread_81 rfl (Option.some.inj ex1820) (by decide) (by simp [z_cr]) ?_
  refine z_goto (tgt := 10) dX6_spread_84 (by decide) ?_
  exact z_weak [1, 0] rfl (hk10 e)
def D_X6_spread_70 (k10 : z_H → Option Nat → Int32 → Option z_H) (k30 : z_H → Option Nat → Int32 → Int64 → Int32 → Option z_H) (h : z_H) (l0 : Option Nat) (l1 : Int32) (l2 : Int64) (l4 : Int32) (s0 : Option Nat) (s1 : Int32) : Option z_H :=
  (z_aJ h s0 s1).bind fun x1821 =>
  (z_sJ h s0 s1 (x1821 + l2)).bind fun h1822 =>
  (some (l4 + (1:Int32))).bind fun x1823 =>
  k30 h1822 l0 l1 l2 x1823
set_option maxRecDepth 100000 in
set_option maxHeartbeats 4000000 in
theorem S_X6_spread_70 {G : z_G} {l : Launch} {k10 : z_H → Option Nat → Int32 → Option z_H} {k30 : z_H → Option Nat → Int32 → Int64 → Int32 → Option z_H} (hk10 : ∀ {h : z_H} {l0 : Option Nat} {l1 : Int32} {res : z_H}, k10 h l0 l1 = some res → z_Run G l 6 M_X6_spread 10 [(0, z_r l0), (1, .int l1)] [] h res none) (hk30 : ∀ {h : z_H} {l0 : Option Nat} {l1 : Int32} {l2 : Int64} {l4 : Int32} {res : z_H}, k30 h l0 l1 l2 l4 = some res → z_Run G l 6 M_X6_spread 30 [(0, z_r l0), (1, .int l1), (2, .long l2), (4, .int l4)] [] h res none) {h : z_H} {l0 : Option Nat} {l1 : Int32} {l2 : Int64} {l4 : Int32} {s0 : Option Nat} {s1 : Int32} {res : z_H} (e : D_X6_spread_70 k10 k30 h l0 l1 l2 l4 s0 s1 = some res) : z_Run G l 6 M_X6_spread 70 [(0, z_r l0), (1, .int l1), (2, .long l2), (4, .int l4)] [.int s1, z_r s0] h res none := by
  unfold D_X6_spread_70 at e
  refine z_dup2 dX6_spread_70 rfl (z_cr _) ?_
  replace e := z_bd e; obtain ⟨x1821, ex1821, e⟩ := e
  refine z_lald ex1821 dX6_spread_71 ?_
  refine z_lload_n 2 dX6_spread_72 rfl ?_
  refine z_ladd dX6_spread_73 ?_
  replace e := z_bd e; obtain ⟨h1822, eh1822, e⟩ := e
  refine z_last eh1822 dX6_spread_74 ?_
  replace e := z_bd e; obtain ⟨x1823, ex1823, e⟩ := e
  refine z_iinc (q := 3) (v := x1823) (L' := [(4, .int x1823), (0, z_r l0), (1, .int l1), (2, .long l2)]) dX6_spread_75 rfl (Option.some.inj ex1823) (by decide) rfl ?_
  refine z_goto (tgt := 30) dX6_spread_78 (by decide) ?_
  exact z_weak [1, 2, 3, 0] rfl (hk30 e)
def D_X6_spread_30b (k10 : z_H → Option Nat → Int32 → Option z_H) (k30 : z_H → Option Nat → Int32 → Int64 → Int32 → Option z_H) (h : z_H) (l0 : Option Nat) (l1 : Int32) (l2 : Int64) (l4 : Int32) : Option z_H :=
  if (3:Int32) ≤ l4 then
    D_X6_spread_81  k10 h l0 l1
  else
    if (lg_cmp l2 (0:Int64)) ≤ 0 then
      D_X6_spread_81  k10 h l0 l1
    else
      (z_gQ 6 h l0 0).bind fun x1826 =>
      (z_ob 4 h x1826).bind fun _ =>
      (D_X4_behind  h x1826 l1 l4).bind fun p1827 =>
      (z_gQ 6 p1827.2 l0 4).bind fun x1829 =>
      if p1827.1 = (-1:Int32) then
        D_X6_spread_70  k10 k30 p1827.2 l0 l1 l2 l4 x1829 l1
      else
        D_X6_spread_70  k10 k30 p1827.2 l0 l1 l2 l4 x1829 p1827.1
def D_X6_spread_30 (k10 : z_H → Option Nat → Int32 → Option z_H) (n : Nat) : z_H → Option Nat → Int32 → Int64 → Int32 → Option z_H := Nat.rec (motive := fun _ => z_H → Option Nat → Int32 → Int64 → Int32 → Option z_H) (fun _ _ _ _ _ => none) (fun _ k => D_X6_spread_30b k10 k) n
set_option maxRecDepth 100000 in
set_option maxHeartbeats 4000000 in
theorem S_X6_spread_30 {G : z_G} {l : Launch} {k10 : z_H → Option Nat → Int32 → Option z_H} (hk10 : ∀ {h : z_H} {l0 : Option Nat} {l1 : Int32} {res : z_H}, k10 h l0 l1 = some res → z_Run G l 6 M_X6_spread 10 [(0, z_r l0), (1, .int l1)] [] h res none) (n : Nat) : ∀ {h : z_H} {l0 : Option Nat} {l1 : Int32} {l2 : Int64} {l4 : Int32} {res : z_H}, D_X6_spread_30 k10 n h l0 l1 l2 l4 = some res → z_Run G l 6 M_X6_spread 30 [(0, z_r l0), (1, .int l1), (2, .long l2), (4, .int l4)] [] h res none := by
  induction n with
  | zero => intro h l0 l1 l2 l4 res e; cases e
  | succ n hk30 =>
    intro h l0 l1 l2 l4 res e
    replace e : D_X6_spread_30b k10 (D_X6_spread_30 k10 n) h l0 l1 l2 l4 = some res := e
    unfold D_X6_spread_30b at e
    refine z_iload 3 dX6_spread_30 rfl ?_
    refine z_iconst (v := 3) dX6_spread_32 (by decide) ?_
    refine z_icmp_ge (tgt := 81) dX6_spread_33 (by decide) (fun c1824 => ?_) (fun c1824 => ?_)
    · rw [if_pos c1824] at e
      exact z_weak [0, 1] rfl (S_X6_spread_81  @hk10 e)
    · rw [if_neg c1824] at e
      refine z_lload_n 2 dX6_spread_36 rfl ?_
      refine z_lconst (v := 0) dX6_spread_37 (by decide) ?_
      refine z_lcmp dX6_spread_38 ?_
      refine z_if_le (tgt := 81) dX6_spread_39 (by decide) (fun c1825 => ?_) (fun c1825 => ?_)
      · rw [if_pos c1825] at e
        exact z_weak [0, 1] rfl (S_X6_spread_81  @hk10 e)
      · rw [if_neg c1825] at e
        refine z_aload_n 0 dX6_spread_42 rfl ?_
        replace e := z_bd e; obtain ⟨x1826, ex1826, e⟩ := e
        refine z_getQ ex1826 lk_X6_27 dX6_spread_43 ?_
        refine z_iload_n 1 dX6_spread_46 rfl ?_
        refine z_iload 3 dX6_spread_47 rfl ?_
        replace e := z_bd e; obtain ⟨o1828, eo1828, e⟩ := e
        replace e := z_bd e; obtain ⟨p1827, ep1827, e⟩ := e
        refine z_cV [.int l1, .int l4] (S_X4_behind  ep1827) eo1828 rfl ml_X6_70 ck_X4_behind vk_X4_behind dX6_spread_49 (by decide) rfl (Nat.zero_le _) rfl ?_
        refine z_istore (L' := [(5, .int p1827.1), (0, z_r l0), (1, .int l1), (2, .long l2), (4, .int l4)]) dX6_spread_52 (by decide) rfl ?_
        refine z_aload_n 1 dX6_spread_54 rfl ?_
        replace e := z_bd e; obtain ⟨x1829, ex1829, e⟩ := e
        refine z_getQ ex1829 lk_X6_21 dX6_spread_55 ?_
        refine z_iload 0 dX6_spread_58 rfl ?_
        refine z_iconst (v := -1) dX6_spread_60 (by decide) ?_
        refine z_icmp_ne (tgt := 68) dX6_spread_61 (by decide) (fun c1830 => ?_) (fun c1830 => ?_)
        · rw [if_neg c1830] at e
          refine z_iload 0 dX6_spread_68 rfl ?_
          exact z_weak [1, 2, 3, 4] rfl (S_X6_spread_70  @hk10 @hk30 e)
        · rw [if_pos c1830] at e
          refine z_iload_n 2 dX6_spread_64 rfl ?_
          refine z_goto (tgt := 70) dX6_spread_65 (by decide) ?_
          exact z_weak [1, 2, 3, 4] rfl (S_X6_spread_70  @hk10 @hk30 e)
def D_X6_spread_10b (k10 : z_H → Option Nat → Int32 → Option z_H) (h : z_H) (l0 : Option Nat) (l1 : Int32) : Option z_H :=
  if (100:Int32) ≤ l1 then
    (z_gQ 6 h l0 4).bind fun x1832 =>
    (z_gQ 6 h l0 3).bind fun x1833 =>
    (z_cJ h x1832 (0:Int32) x1833 (0:Int32) (100:Int32)).bind fun h1834 =>
    some h1834
  else
    (z_gQ 6 h l0 3).bind fun x1835 =>
    (z_aJ h x1835 l1).bind fun x1836 =>
    (some (x1836 / (3:Int64))).bind fun x1837 =>
    D_X6_spread_30  k10 z_F h l0 l1 x1837 (0:Int32)
def D_X6_spread_10 (n : Nat) : z_H → Option Nat → Int32 → Option z_H := Nat.rec (motive := fun _ => z_H → Option Nat → Int32 → Option z_H) (fun _ _ _ => none) (fun _ k => D_X6_spread_10b  k) n
set_option maxRecDepth 100000 in
set_option maxHeartbeats 4000000 in
theorem S_X6_spread_10 {G : z_G} {l : Launch}  (n : Nat) : ∀ {h : z_H} {l0 : Option Nat} {l1 : Int32} {res : z_H}, D_X6_spread_10  n h l0 l1 = some res → z_Run G l 6 M_X6_spread 10 [(0, z_r l0), (1, .int l1)] [] h res none := by
  induction n with
  | zero => intro h l0 l1 res e; cases e
  | succ n hk10 =>
    intro h l0 l1 res e
    replace e : D_X6_spread_10b  (D_X6_spread_10  n) h l0 l1 = some res := e
    unfold D_X6_spread_10b at e
    refine z_iload_n 1 dX6_spread_10 rfl ?_
    refine z_bipush (v := 100) dX6_spread_11 (by decide) ?_
    refine z_icmp_ge (tgt := 87) dX6_spread_13 (by decide) (fun c1831 => ?_) (fun c1831 => ?_)
    · rw [if_pos c1831] at e
      refine z_aload_n 0 dX6_spread_87 rfl ?_
      replace e := z_bd e; obtain ⟨x1832, ex1832, e⟩ := e
      refine z_getQ ex1832 lk_X6_21 dX6_spread_88 ?_
      refine z_iconst (v := 0) dX6_spread_91 (by decide) ?_
      refine z_aload_n 0 dX6_spread_92 rfl ?_
      replace e := z_bd e; obtain ⟨x1833, ex1833, e⟩ := e
      refine z_getQ ex1833 lk_X6_18 dX6_spread_93 ?_
      refine z_iconst (v := 0) dX6_spread_96 (by decide) ?_
      refine z_bipush (v := 100) dX6_spread_97 (by decide) ?_
      replace e := z_bd e; obtain ⟨h1834, eh1834, e⟩ := e
      refine z_cpyJ eh1834 ml_X6_51 z_acok (by decide) (Nat.zero_le _) dX6_spread_99 ?_
      cases e
      exact z_vret dX6_spread_102 rfl
    · rw [if_neg c1831] at e
      refine z_aload_n 0 dX6_spread_16 rfl ?_
      replace e := z_bd e; obtain ⟨x1835, ex1835, e⟩ := e
      refine z_getQ ex1835 lk_X6_18 dX6_spread_17 ?_
      refine z_iload_n 1 dX6_spread_20 rfl ?_
      replace e := z_bd e; obtain ⟨x1836, ex1836, e⟩ := e
      refine z_lald ex1836 dX6_spread_21 ?_
      refine z_ldc2 dX6_spread_22 kj_X6_68 ?_
      refine z_ldiv dX6_spread_25 (by decide) ?_
      replace e := z_bd e; obtain ⟨x1837, ex1837, e⟩ := e
      refine z_topJ ex1837 ?_
      refine z_lstore_n (L' := [(2, .long x1837), (0, z_r l0), (1, .int l1)]) dX6_spread_26 rfl (by decide) rfl ?_
      refine z_iconst (v := 0) dX6_spread_27 (by decide) ?_
      refine z_istore (L' := [(4, .int (0:Int32)), (2, .long x1837), (0, z_r l0), (1, .int l1)]) dX6_spread_28 (by decide) rfl ?_
      exact z_weak [2, 3, 1, 0] rfl (S_X6_spread_30  @hk10 z_F e)
def D_X6_spread (h : z_H) (l0 : Option Nat) : Option z_H :=
  (z_gQ 6 h l0 4).bind fun x1838 =>
  (D_J7_fill_d0a16  h x1838 (0:Int64)).bind fun p1839 =>
  D_X6_spread_10   z_F p1839 l0 (0:Int32)
set_option maxRecDepth 100000 in
set_option maxHeartbeats 4000000 in
theorem S_X6_spread {G : z_G} {l : Launch} {h : z_H} {l0 : Option Nat} {res : z_H} (e : D_X6_spread h l0 = some res) : z_Meth G l 6 M_X6_spread [z_r l0] h res none := by
  refine z_Meth.of ck_X6_spread.2.2.2.2 (by simp [lg_sl, z_ci, z_cj, z_cr, z_cx]) ck_X6_spread.1 ?_
  rw [show lv_args 0 [z_r l0] = [(0, z_r l0)] from by simp [lv_args, z_ci, z_cj, z_cr, z_cx]]
  unfold D_X6_spread at e
  refine z_aload_n 0 dX6_spread_0 rfl ?_
  replace e := z_bd e; obtain ⟨x1838, ex1838, e⟩ := e
  refine z_getQ ex1838 lk_X6_21 dX6_spread_1 ?_
  refine z_lconst (v := 0) dX6_spread_4 (by decide) ?_
  replace e := z_bd e; obtain ⟨p1839, ep1839, e⟩ := e
  refine z_cS [z_r x1838, .long (0:Int64)] (S_J7_fill_d0a16  ep1839) ml_X6_57 ck_J7_fill_d0a16 st_J7_fill_d0a16 dX6_spread_5 (by decide) rfl (Nat.zero_le _) rfl ?_
  refine z_iconst (v := 0) dX6_spread_8 (by decide) ?_
  refine z_istore_n (L' := [(1, .int (0:Int32)), (0, z_r l0)]) dX6_spread_9 rfl (by decide) (by simp [z_cr]) ?_
  exact z_weak [1, 0] rfl (S_X6_spread_10   z_F e)
theorem dX6_byChance_0 : decode cX6_byChance 0 = .ok (.aload_n 0, 1) := by decide +kernel
theorem dX6_byChance_1 : decode cX6_byChance 1 = .ok (.getfield 27, 3) := by decide +kernel
theorem dX6_byChance_4 : decode cX6_byChance 4 = .ok (.aload_n 1, 1) := by decide +kernel
theorem dX6_byChance_5 : decode cX6_byChance 5 = .ok (.iload_n 2, 1) := by decide +kernel
theorem dX6_byChance_6 : decode cX6_byChance 6 = .ok (.invokevirtual 31, 3) := by decide +kernel
theorem dX6_byChance_9 : decode cX6_byChance 9 = .ok (.aload_n 0, 1) := by decide +kernel
theorem dX6_byChance_10 : decode cX6_byChance 10 = .ok (.getfield 18, 3) := by decide +kernel
theorem dX6_byChance_13 : decode cX6_byChance 13 = .ok (.lconst 0, 1) := by decide +kernel
theorem dX6_byChance_14 : decode cX6_byChance 14 = .ok (.invokestatic 57, 3) := by decide +kernel
theorem dX6_byChance_17 : decode cX6_byChance 17 = .ok (.aload_n 0, 1) := by decide +kernel
theorem dX6_byChance_18 : decode cX6_byChance 18 = .ok (.getfield 18, 3) := by decide +kernel
theorem dX6_byChance_21 : decode cX6_byChance 21 = .ok (.aload_n 1, 1) := by decide +kernel
theorem dX6_byChance_22 : decode cX6_byChance 22 = .ok (.iload_n 2, 1) := by decide +kernel
theorem dX6_byChance_23 : decode cX6_byChance 23 = .ok (.invokevirtual 37, 3) := by decide +kernel
theorem dX6_byChance_26 : decode cX6_byChance 26 = .ok (.ldc2_w 63, 3) := by decide +kernel
theorem dX6_byChance_29 : decode cX6_byChance 29 = .ok (.lastore, 1) := by decide +kernel
theorem dX6_byChance_30 : decode cX6_byChance 30 = .ok (.iconst 0, 1) := by decide +kernel
theorem dX6_byChance_31 : decode cX6_byChance 31 = .ok (.istore 5, 2) := by decide +kernel
theorem dX6_byChance_33 : decode cX6_byChance 33 = .ok (.iload 5, 2) := by decide +kernel
theorem dX6_byChance_35 : decode cX6_byChance 35 = .ok (.iload 4, 2) := by decide +kernel
theorem dX6_byChance_37 : decode cX6_byChance 37 = .ok (.if_icmp .ge 13, 3) := by decide +kernel
theorem dX6_byChance_40 : decode cX6_byChance 40 = .ok (.aload_n 0, 1) := by decide +kernel
theorem dX6_byChance_41 : decode cX6_byChance 41 = .ok (.invokevirtual 65, 3) := by decide +kernel
theorem dX6_byChance_44 : decode cX6_byChance 44 = .ok (.iinc 5 1, 3) := by decide +kernel
theorem dX6_byChance_47 : decode cX6_byChance 47 = .ok (.goto (-14), 3) := by decide +kernel
theorem dX6_byChance_50 : decode cX6_byChance 50 = .ok (.lconst 0, 1) := by decide +kernel
theorem dX6_byChance_51 : decode cX6_byChance 51 = .ok (.lstore 5, 2) := by decide +kernel
theorem dX6_byChance_53 : decode cX6_byChance 53 = .ok (.iconst 0, 1) := by decide +kernel
theorem dX6_byChance_54 : decode cX6_byChance 54 = .ok (.istore 7, 2) := by decide +kernel
theorem dX6_byChance_56 : decode cX6_byChance 56 = .ok (.iload 7, 2) := by decide +kernel
theorem dX6_byChance_58 : decode cX6_byChance 58 = .ok (.iconst 4, 1) := by decide +kernel
theorem dX6_byChance_59 : decode cX6_byChance 59 = .ok (.if_icmp .ge 25, 3) := by decide +kernel
theorem dX6_byChance_62 : decode cX6_byChance 62 = .ok (.lload 5, 2) := by decide +kernel
theorem dX6_byChance_64 : decode cX6_byChance 64 = .ok (.aload_n 0, 1) := by decide +kernel
theorem dX6_byChance_65 : decode cX6_byChance 65 = .ok (.getfield 18, 3) := by decide +kernel
theorem dX6_byChance_68 : decode cX6_byChance 68 = .ok (.iload_n 3, 1) := by decide +kernel
theorem dX6_byChance_69 : decode cX6_byChance 69 = .ok (.iconst 4, 1) := by decide +kernel
theorem dX6_byChance_70 : decode cX6_byChance 70 = .ok (.imul, 1) := by decide +kernel
theorem dX6_byChance_71 : decode cX6_byChance 71 = .ok (.iload 7, 2) := by decide +kernel
theorem dX6_byChance_73 : decode cX6_byChance 73 = .ok (.iadd, 1) := by decide +kernel
theorem dX6_byChance_74 : decode cX6_byChance 74 = .ok (.laload, 1) := by decide +kernel
theorem dX6_byChance_75 : decode cX6_byChance 75 = .ok (.ladd, 1) := by decide +kernel
theorem dX6_byChance_76 : decode cX6_byChance 76 = .ok (.lstore 5, 2) := by decide +kernel
theorem dX6_byChance_78 : decode cX6_byChance 78 = .ok (.iinc 7 1, 3) := by decide +kernel
theorem dX6_byChance_81 : decode cX6_byChance 81 = .ok (.goto (-25), 3) := by decide +kernel
theorem dX6_byChance_84 : decode cX6_byChance 84 = .ok (.lload 5, 2) := by decide +kernel
theorem dX6_byChance_86 : decode cX6_byChance 86 = .ok (.lreturn, 1) := by decide +kernel
def D_X6_byChance_56b (k56 : z_H → Option Nat → Int32 → Int64 → Int32 → Option (Int64 × z_H)) (h : z_H) (l0 : Option Nat) (l3 : Int32) (l5 : Int64) (l7 : Int32) : Option (Int64 × z_H) :=
  if (4:Int32) ≤ l7 then
    some (l5, h)
  else
    (z_gQ 6 h l0 3).bind fun x1841 =>
    (z_aJ h x1841 ((l3 * (4:Int32)) + l7)).bind fun x1842 =>
    (some (l5 + x1842)).bind fun x1843 =>
    (some (l7 + (1:Int32))).bind fun x1844 =>
    k56 h l0 l3 x1843 x1844
def D_X6_byChance_56 (n : Nat) : z_H → Option Nat → Int32 → Int64 → Int32 → Option (Int64 × z_H) := Nat.rec (motive := fun _ => z_H → Option Nat → Int32 → Int64 → Int32 → Option (Int64 × z_H)) (fun _ _ _ _ _ => none) (fun _ k => D_X6_byChance_56b  k) n
set_option maxRecDepth 100000 in
set_option maxHeartbeats 4000000 in
theorem S_X6_byChance_56 {G : z_G} {l : Launch}  (n : Nat) : ∀ {h : z_H} {l0 : Option Nat} {l3 : Int32} {l5 : Int64} {l7 : Int32} {res : (Int64 × z_H)}, D_X6_byChance_56  n h l0 l3 l5 l7 = some res → z_Run G l 9 M_X6_byChance 56 [(0, z_r l0), (3, .int l3), (5, .long l5), (7, .int l7)] [] h res.2 (some (.long res.1)) := by
  induction n with
  | zero => intro h l0 l3 l5 l7 res e; cases e
  | succ n hk56 =>
    intro h l0 l3 l5 l7 res e
    replace e : D_X6_byChance_56b  (D_X6_byChance_56  n) h l0 l3 l5 l7 = some res := e
    unfold D_X6_byChance_56b at e
    refine z_iload 3 dX6_byChance_56 rfl ?_
    refine z_iconst (v := 4) dX6_byChance_58 (by decide) ?_
    refine z_icmp_ge (tgt := 84) dX6_byChance_59 (by decide) (fun c1840 => ?_) (fun c1840 => ?_)
    · rw [if_pos c1840] at e
      refine z_lload 2 dX6_byChance_84 rfl ?_
      cases e
      exact z_lret dX6_byChance_86 rfl
    · rw [if_neg c1840] at e
      refine z_lload 2 dX6_byChance_62 rfl ?_
      refine z_aload_n 0 dX6_byChance_64 rfl ?_
      replace e := z_bd e; obtain ⟨x1841, ex1841, e⟩ := e
      refine z_getQ ex1841 lk_X6_18 dX6_byChance_65 ?_
      refine z_iload_n 1 dX6_byChance_68 rfl ?_
      refine z_iconst (v := 4) dX6_byChance_69 (by decide) ?_
      refine z_imul dX6_byChance_70 ?_
      refine z_iload 3 dX6_byChance_71 rfl ?_
      refine z_iadd dX6_byChance_73 ?_
      replace e := z_bd e; obtain ⟨x1842, ex1842, e⟩ := e
      refine z_lald ex1842 dX6_byChance_74 ?_
      refine z_ladd dX6_byChance_75 ?_
      replace e := z_bd e; obtain ⟨x1843, ex1843, e⟩ := e
      refine z_topJ ex1843 ?_
      refine z_lstore (L' := [(5, .long x1843), (0, z_r l0), (3, .int l3), (7, .int l7)]) dX6_byChance_76 (by decide) rfl ?_
      replace e := z_bd e; obtain ⟨x1844, ex1844, e⟩ := e
      refine z_iinc (q := 3) (v := x1844) (L' := [(7, .int x1844), (5, .long x1843), (0, z_r l0), (3, .int l3)]) dX6_byChance_78 rfl (Option.some.inj ex1844) (by decide) rfl ?_
      refine z_goto (tgt := 56) dX6_byChance_81 (by decide) ?_
      exact z_weak [2, 3, 1, 0] rfl (hk56 e)
def D_X6_byChance_33b (k33 : z_H → Option Nat → Int32 → Int32 → Int32 → Option (Int64 × z_H)) (h : z_H) (l0 : Option Nat) (l3 : Int32) (l4 : Int32) (l5 : Int32) : Option (Int64 × z_H) :=
  if l4 ≤ l5 then
    D_X6_byChance_56   z_F h l0 l3 (0:Int64) (0:Int32)
  else
    (z_ob 6 h l0).bind fun _ =>
    (D_X6_spread  h l0).bind fun p1846 =>
    (some (l5 + (1:Int32))).bind fun x1848 =>
    k33 p1846 l0 l3 l4 x1848
def D_X6_byChance_33 (n : Nat) : z_H → Option Nat → Int32 → Int32 → Int32 → Option (Int64 × z_H) := Nat.rec (motive := fun _ => z_H → Option Nat → Int32 → Int32 → Int32 → Option (Int64 × z_H)) (fun _ _ _ _ _ => none) (fun _ k => D_X6_byChance_33b  k) n
set_option maxRecDepth 100000 in
set_option maxHeartbeats 4000000 in
theorem S_X6_byChance_33 {G : z_G} {l : Launch}  (n : Nat) : ∀ {h : z_H} {l0 : Option Nat} {l3 : Int32} {l4 : Int32} {l5 : Int32} {res : (Int64 × z_H)}, D_X6_byChance_33  n h l0 l3 l4 l5 = some res → z_Run G l 9 M_X6_byChance 33 [(0, z_r l0), (3, .int l3), (4, .int l4), (5, .int l5)] [] h res.2 (some (.long res.1)) := by
  induction n with
  | zero => intro h l0 l3 l4 l5 res e; cases e
  | succ n hk33 =>
    intro h l0 l3 l4 l5 res e
    replace e : D_X6_byChance_33b  (D_X6_byChance_33  n) h l0 l3 l4 l5 = some res := e
    unfold D_X6_byChance_33b at e
    refine z_iload 3 dX6_byChance_33 rfl ?_
    refine z_iload 2 dX6_byChance_35 rfl ?_
    refine z_icmp_ge (tgt := 50) dX6_byChance_37 (by decide) (fun c1845 => ?_) (fun c1845 => ?_)
    · rw [if_pos c1845] at e
      refine z_lconst (v := 0) dX6_byChance_50 (by decide) ?_
      refine z_lstore (L' := [(5, .long (0:Int64)), (0, z_r l0), (3, .int l3), (4, .int l4)]) dX6_byChance_51 (by decide) rfl ?_
      refine z_iconst (v := 0) dX6_byChance_53 (by decide) ?_
      refine z_istore (L' := [(7, .int (0:Int32)), (5, .long (0:Int64)), (0, z_r l0), (3, .int l3), (4, .int l4)]) dX6_byChance_54 (by decide) rfl ?_
      exact z_weak [2, 3, 1, 0] rfl (S_X6_byChance_56   z_F e)
    · rw [if_neg c1845] at e
      refine z_aload_n 0 dX6_byChance_40 rfl ?_
      replace e := z_bd e; obtain ⟨o1847, eo1847, e⟩ := e
      replace e := z_bd e; obtain ⟨p1846, ep1846, e⟩ := e
      refine z_cV [] (S_X6_spread  ep1846) eo1847 rfl ml_X6_65 ck_X6_spread vk_X6_spread dX6_byChance_41 (by decide) rfl (Nat.zero_le _) rfl ?_
      replace e := z_bd e; obtain ⟨x1848, ex1848, e⟩ := e
      refine z_iinc (q := 3) (v := x1848) (L' := [(5, .int x1848), (0, z_r l0), (3, .int l3), (4, .int l4)]) dX6_byChance_44 rfl (Option.some.inj ex1848) (by decide) rfl ?_
      refine z_goto (tgt := 33) dX6_byChance_47 (by decide) ?_
      exact z_weak [1, 2, 3, 0] rfl (hk33 e)
def D_X6_byChance (h : z_H) (l0 : Option Nat) (l1 : Option Nat) (l2 : Int32) (l3 : Int32) (l4 : Int32) : Option (Int64 × z_H) :=
  (z_gQ 6 h l0 0).bind fun x1849 =>
  (z_ob 4 h x1849).bind fun _ =>
  (D_X4_layOut  h x1849 l1 l2).bind fun p1850 =>
  (z_gQ 6 p1850 l0 3).bind fun x1852 =>
  (D_J7_fill_d0a16  p1850 x1852 (0:Int64)).bind fun p1853 =>
  (z_gQ 6 p1853 l0 3).bind fun x1854 =>
  (z_ob 9 p1853 l1).bind fun _ =>
  (D_X9_placeOf  p1853 l1 l2).bind fun p1855 =>
  (z_sJ p1855.2 x1854 p1855.1 (1000000000000:Int64)).bind fun h1857 =>
  D_X6_byChance_33   z_F h1857 l0 l3 l4 (0:Int32)
set_option maxRecDepth 100000 in
set_option maxHeartbeats 4000000 in
theorem S_X6_byChance {G : z_G} {l : Launch} {h : z_H} {l0 : Option Nat} {l1 : Option Nat} {l2 : Int32} {l3 : Int32} {l4 : Int32} {res : (Int64 × z_H)} (e : D_X6_byChance h l0 l1 l2 l3 l4 = some res) : z_Meth G l 9 M_X6_byChance [z_r l0, z_r l1, .int l2, .int l3, .int l4] h res.2 (some (.long res.1)) := by
  refine z_Meth.of ck_X6_byChance.2.2.2.2 (by simp [lg_sl, z_ci, z_cj, z_cr, z_cx]) ck_X6_byChance.1 ?_
  rw [show lv_args 0 [z_r l0, z_r l1, .int l2, .int l3, .int l4] = [(0, z_r l0), (1, z_r l1), (2, .int l2), (3, .int l3), (4, .int l4)] from by simp [lv_args, z_ci, z_cj, z_cr, z_cx]]
  unfold D_X6_byChance at e
  refine z_aload_n 0 dX6_byChance_0 rfl ?_
  replace e := z_bd e; obtain ⟨x1849, ex1849, e⟩ := e
  refine z_getQ ex1849 lk_X6_27 dX6_byChance_1 ?_
  refine z_aload_n 1 dX6_byChance_4 rfl ?_
  refine z_iload_n 2 dX6_byChance_5 rfl ?_
  replace e := z_bd e; obtain ⟨o1851, eo1851, e⟩ := e
  replace e := z_bd e; obtain ⟨p1850, ep1850, e⟩ := e
  refine z_cV [z_r l1, .int l2] (S_X4_layOut  ep1850) eo1851 rfl ml_X6_31 ck_X4_layOut vk_X4_layOut dX6_byChance_6 (by decide) rfl (Nat.zero_le _) rfl ?_
  refine z_aload_n 0 dX6_byChance_9 rfl ?_
  replace e := z_bd e; obtain ⟨x1852, ex1852, e⟩ := e
  refine z_getQ ex1852 lk_X6_18 dX6_byChance_10 ?_
  refine z_lconst (v := 0) dX6_byChance_13 (by decide) ?_
  replace e := z_bd e; obtain ⟨p1853, ep1853, e⟩ := e
  refine z_cS [z_r x1852, .long (0:Int64)] (S_J7_fill_d0a16  ep1853) ml_X6_57 ck_J7_fill_d0a16 st_J7_fill_d0a16 dX6_byChance_14 (by decide) rfl (Nat.zero_le _) rfl ?_
  refine z_aload_n 0 dX6_byChance_17 rfl ?_
  replace e := z_bd e; obtain ⟨x1854, ex1854, e⟩ := e
  refine z_getQ ex1854 lk_X6_18 dX6_byChance_18 ?_
  refine z_aload_n 1 dX6_byChance_21 rfl ?_
  refine z_iload_n 2 dX6_byChance_22 rfl ?_
  replace e := z_bd e; obtain ⟨o1856, eo1856, e⟩ := e
  replace e := z_bd e; obtain ⟨p1855, ep1855, e⟩ := e
  refine z_cV [.int l2] (S_X9_placeOf  ep1855) eo1856 rfl ml_X6_37 ck_X9_placeOf vk_X9_placeOf dX6_byChance_23 (by decide) rfl (by simp [z_ci, z_cj, z_cr, z_cx]) rfl ?_
  refine z_ldc2 dX6_byChance_26 kj_X6_63 ?_
  replace e := z_bd e; obtain ⟨h1857, eh1857, e⟩ := e
  refine z_last eh1857 dX6_byChance_29 ?_
  refine z_iconst (v := 0) dX6_byChance_30 (by decide) ?_
  refine z_istore (L' := [(5, .int (0:Int32)), (0, z_r l0), (1, z_r l1), (2, .int l2), (3, .int l3), (4, .int l4)]) dX6_byChance_31 (by decide) rfl ?_
  exact z_weak [1, 4, 5, 0] rfl (S_X6_byChance_33   z_F e)
theorem dX10_chance_0 : decode cX10_chance 0 = .ok (.aload_n 0, 1) := by decide +kernel
theorem dX10_chance_1 : decode cX10_chance 1 = .ok (.getfield 12, 3) := by decide +kernel
theorem dX10_chance_4 : decode cX10_chance 4 = .ok (.iload_n 1, 1) := by decide +kernel
theorem dX10_chance_5 : decode cX10_chance 5 = .ok (.invokevirtual 121, 3) := by decide +kernel
theorem dX10_chance_8 : decode cX10_chance 8 = .ok (.ifCond .eq 20, 3) := by decide +kernel
theorem dX10_chance_11 : decode cX10_chance 11 = .ok (.iload_n 2, 1) := by decide +kernel
theorem dX10_chance_12 : decode cX10_chance 12 = .ok (.invokestatic 145, 3) := by decide +kernel
theorem dX10_chance_15 : decode cX10_chance 15 = .ok (.ifCond .eq 13, 3) := by decide +kernel
theorem dX10_chance_18 : decode cX10_chance 18 = .ok (.iload_n 3, 1) := by decide +kernel
theorem dX10_chance_19 : decode cX10_chance 19 = .ok (.ifCond .lt 9, 3) := by decide +kernel
theorem dX10_chance_22 : decode cX10_chance 22 = .ok (.iload_n 3, 1) := by decide +kernel
theorem dX10_chance_23 : decode cX10_chance 23 = .ok (.bipush 30, 2) := by decide +kernel
theorem dX10_chance_25 : decode cX10_chance 25 = .ok (.if_icmp .le 7, 3) := by decide +kernel
theorem dX10_chance_28 : decode cX10_chance 28 = .ok (.ldc2_w 229, 3) := by decide +kernel
theorem dX10_chance_31 : decode cX10_chance 31 = .ok (.lreturn, 1) := by decide +kernel
theorem dX10_chance_32 : decode cX10_chance 32 = .ok (.aload_n 0, 1) := by decide +kernel
theorem dX10_chance_33 : decode cX10_chance 33 = .ok (.getfield 78, 3) := by decide +kernel
theorem dX10_chance_36 : decode cX10_chance 36 = .ok (.aload_n 0, 1) := by decide +kernel
theorem dX10_chance_37 : decode cX10_chance 37 = .ok (.getfield 12, 3) := by decide +kernel
theorem dX10_chance_40 : decode cX10_chance 40 = .ok (.iload_n 1, 1) := by decide +kernel
theorem dX10_chance_41 : decode cX10_chance 41 = .ok (.iload_n 2, 1) := by decide +kernel
theorem dX10_chance_42 : decode cX10_chance 42 = .ok (.iload_n 3, 1) := by decide +kernel
theorem dX10_chance_43 : decode cX10_chance 43 = .ok (.invokevirtual 251, 3) := by decide +kernel
theorem dX10_chance_46 : decode cX10_chance 46 = .ok (.lreturn, 1) := by decide +kernel
def D_X10_chance (h : z_H) (l0 : Option Nat) (l1 : Int32) (l2 : Int32) (l3 : Int32) : Option (Int64 × z_H) :=
  (z_gQ 10 h l0 0).bind fun x1858 =>
  (z_ob 9 h x1858).bind fun _ =>
  (D_X9_hasPair  h x1858 l1).bind fun p1859 =>
  if p1859.1 = 0 then
    some ((-1:Int64), p1859.2)
  else
    (D_X10_isCell  p1859.2 l2).bind fun p1862 =>
    if p1862.1 = 0 then
      some ((-1:Int64), p1862.2)
    else
      if l3 < 0 then
        some ((-1:Int64), p1862.2)
      else
        if l3 ≤ (30:Int32) then
          (z_gQ 10 p1862.2 l0 10).bind fun x1866 =>
          (z_gQ 10 p1862.2 l0 0).bind fun x1867 =>
          (z_ob 6 p1862.2 x1866).bind fun _ =>
          (D_X6_byChance  p1862.2 x1866 x1867 l1 l2 l3).bind fun p1868 =>
          some (p1868.1, p1868.2)
        else
          some ((-1:Int64), p1862.2)
set_option maxRecDepth 100000 in
set_option maxHeartbeats 4000000 in
theorem S_X10_chance {G : z_G} {l : Launch} {h : z_H} {l0 : Option Nat} {l1 : Int32} {l2 : Int32} {l3 : Int32} {res : (Int64 × z_H)} (e : D_X10_chance h l0 l1 l2 l3 = some res) : z_Meth G l 10 M_X10_chance [z_r l0, .int l1, .int l2, .int l3] h res.2 (some (.long res.1)) := by
  refine z_Meth.of ck_X10_chance.2.2.2.2 (by simp [lg_sl, z_ci, z_cj, z_cr, z_cx]) ck_X10_chance.1 ?_
  rw [show lv_args 0 [z_r l0, .int l1, .int l2, .int l3] = [(0, z_r l0), (1, .int l1), (2, .int l2), (3, .int l3)] from by simp [lv_args, z_ci, z_cj, z_cr, z_cx]]
  unfold D_X10_chance at e
  refine z_aload_n 0 dX10_chance_0 rfl ?_
  replace e := z_bd e; obtain ⟨x1858, ex1858, e⟩ := e
  refine z_getQ ex1858 lk_X10_12 dX10_chance_1 ?_
  refine z_iload_n 1 dX10_chance_4 rfl ?_
  replace e := z_bd e; obtain ⟨o1860, eo1860, e⟩ := e
  replace e := z_bd e; obtain ⟨p1859, ep1859, e⟩ := e
  refine z_cV [.int l1] (S_X9_hasPair  ep1859) eo1860 rfl ml_X10_121 ck_X9_hasPair vk_X9_hasPair dX10_chance_5 (by decide) rfl (Nat.zero_le _) rfl ?_
  refine z_if_eq (tgt := 28) dX10_chance_8 (by decide) (fun c1861 => ?_) (fun c1861 => ?_)
  · rw [if_pos c1861] at e
    refine z_ldc2 dX10_chance_28 kj_X10_229 ?_
    cases e
    exact z_lret dX10_chance_31 rfl
  · rw [if_neg c1861] at e
    refine z_iload_n 2 dX10_chance_11 rfl ?_
    replace e := z_bd e; obtain ⟨p1862, ep1862, e⟩ := e
    refine z_cS [.int l2] (S_X10_isCell  ep1862) ml_X10_145 ck_X10_isCell st_X10_isCell dX10_chance_12 (by decide) rfl (Nat.zero_le _) rfl ?_
    refine z_if_eq (tgt := 28) dX10_chance_15 (by decide) (fun c1863 => ?_) (fun c1863 => ?_)
    · rw [if_pos c1863] at e
      refine z_ldc2 dX10_chance_28 kj_X10_229 ?_
      cases e
      exact z_lret dX10_chance_31 rfl
    · rw [if_neg c1863] at e
      refine z_iload_n 3 dX10_chance_18 rfl ?_
      refine z_if_lt (tgt := 28) dX10_chance_19 (by decide) (fun c1864 => ?_) (fun c1864 => ?_)
      · rw [if_pos c1864] at e
        refine z_ldc2 dX10_chance_28 kj_X10_229 ?_
        cases e
        exact z_lret dX10_chance_31 rfl
      · rw [if_neg c1864] at e
        refine z_iload_n 3 dX10_chance_22 rfl ?_
        refine z_bipush (v := 30) dX10_chance_23 (by decide) ?_
        refine z_icmp_le (tgt := 32) dX10_chance_25 (by decide) (fun c1865 => ?_) (fun c1865 => ?_)
        · rw [if_pos c1865] at e
          refine z_aload_n 0 dX10_chance_32 rfl ?_
          replace e := z_bd e; obtain ⟨x1866, ex1866, e⟩ := e
          refine z_getQ ex1866 lk_X10_78 dX10_chance_33 ?_
          refine z_aload_n 0 dX10_chance_36 rfl ?_
          replace e := z_bd e; obtain ⟨x1867, ex1867, e⟩ := e
          refine z_getQ ex1867 lk_X10_12 dX10_chance_37 ?_
          refine z_iload_n 1 dX10_chance_40 rfl ?_
          refine z_iload_n 2 dX10_chance_41 rfl ?_
          refine z_iload_n 3 dX10_chance_42 rfl ?_
          replace e := z_bd e; obtain ⟨o1869, eo1869, e⟩ := e
          replace e := z_bd e; obtain ⟨p1868, ep1868, e⟩ := e
          refine z_cV [z_r x1867, .int l1, .int l2, .int l3] (S_X6_byChance  ep1868) eo1869 rfl ml_X10_251 ck_X6_byChance vk_X6_byChance dX10_chance_43 (by decide) rfl (Nat.zero_le _) rfl ?_
          cases e
          exact z_lret dX10_chance_46 rfl
        · rw [if_neg c1865] at e
          refine z_ldc2 dX10_chance_28 kj_X10_229 ?_
          cases e
          exact z_lret dX10_chance_31 rfl
