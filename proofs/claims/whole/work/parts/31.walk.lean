theorem dX5_readNamed_0 : decode cX5_readNamed 0 = .ok (.aload_n 0, 1) := by decide +kernel
theorem dX5_readNamed_1 : decode cX5_readNamed 1 = .ok (.aload_n 0, 1) := by decide +kernel
theorem dX5_readNamed_2 : decode cX5_readNamed 2 = .ok (.getfield 31, 3) := by decide +kernel
theorem dX5_readNamed_5 : decode cX5_readNamed 5 = .ok (.ifCond .eq 8, 3) := by decide +kernel
theorem dX5_readNamed_8 : decode cX5_readNamed 8 = .ok (.ldc 162, 2) := by decide +kernel
theorem dX5_readNamed_10 : decode cX5_readNamed 10 = .ok (.goto 5, 3) := by decide +kernel
theorem dX5_readNamed_13 : decode cX5_readNamed 13 = .ok (.ldc 164, 2) := by decide +kernel
theorem dX5_readNamed_15 : decode cX5_readNamed 15 = .ok (.invokevirtual 90, 3) := by decide +kernel
theorem dX5_readNamed_18 : decode cX5_readNamed 18 = .ok (.istore_n 1, 1) := by decide +kernel
theorem dX5_readNamed_19 : decode cX5_readNamed 19 = .ok (.iload_n 1, 1) := by decide +kernel
theorem dX5_readNamed_20 : decode cX5_readNamed 20 = .ok (.iconst (-1), 1) := by decide +kernel
theorem dX5_readNamed_21 : decode cX5_readNamed 21 = .ok (.if_icmp .ne 8, 3) := by decide +kernel
theorem dX5_readNamed_24 : decode cX5_readNamed 24 = .ok (.aload_n 0, 1) := by decide +kernel
theorem dX5_readNamed_25 : decode cX5_readNamed 25 = .ok (.invokevirtual 67, 3) := by decide +kernel
theorem dX5_readNamed_28 : decode cX5_readNamed 28 = .ok (.ireturn, 1) := by decide +kernel
theorem dX5_readNamed_29 : decode cX5_readNamed 29 = .ok (.aload_n 0, 1) := by decide +kernel
theorem dX5_readNamed_30 : decode cX5_readNamed 30 = .ok (.invokevirtual 53, 3) := by decide +kernel
theorem dX5_readNamed_33 : decode cX5_readNamed 33 = .ok (.aload_n 0, 1) := by decide +kernel
theorem dX5_readNamed_34 : decode cX5_readNamed 34 = .ok (.getfield 31, 3) := by decide +kernel
theorem dX5_readNamed_37 : decode cX5_readNamed 37 = .ok (.ifCond .eq 48, 3) := by decide +kernel
theorem dX5_readNamed_40 : decode cX5_readNamed 40 = .ok (.iload_n 1, 1) := by decide +kernel
theorem dX5_readNamed_41 : decode cX5_readNamed 41 = .ok (.iconst 5, 1) := by decide +kernel
theorem dX5_readNamed_42 : decode cX5_readNamed 42 = .ok (.if_icmp .lt 43, 3) := by decide +kernel
theorem dX5_readNamed_45 : decode cX5_readNamed 45 = .ok (.aload_n 0, 1) := by decide +kernel
theorem dX5_readNamed_46 : decode cX5_readNamed 46 = .ok (.getfield 41, 3) := by decide +kernel
theorem dX5_readNamed_49 : decode cX5_readNamed 49 = .ok (.iconst 1, 1) := by decide +kernel
theorem dX5_readNamed_50 : decode cX5_readNamed 50 = .ok (.if_icmp .ne 12, 3) := by decide +kernel
theorem dX5_readNamed_53 : decode cX5_readNamed 53 = .ok (.aload_n 0, 1) := by decide +kernel
theorem dX5_readNamed_54 : decode cX5_readNamed 54 = .ok (.getfield 44, 3) := by decide +kernel
theorem dX5_readNamed_57 : decode cX5_readNamed 57 = .ok (.bipush 6, 2) := by decide +kernel
theorem dX5_readNamed_59 : decode cX5_readNamed 59 = .ok (.if_icmp .lt 8, 3) := by decide +kernel
theorem dX5_readNamed_62 : decode cX5_readNamed 62 = .ok (.aload_n 0, 1) := by decide +kernel
theorem dX5_readNamed_63 : decode cX5_readNamed 63 = .ok (.invokevirtual 67, 3) := by decide +kernel
theorem dX5_readNamed_66 : decode cX5_readNamed 66 = .ok (.ireturn, 1) := by decide +kernel
theorem dX5_readNamed_67 : decode cX5_readNamed 67 = .ok (.iconst 5, 1) := by decide +kernel
theorem dX5_readNamed_68 : decode cX5_readNamed 68 = .ok (.iload_n 1, 1) := by decide +kernel
theorem dX5_readNamed_69 : decode cX5_readNamed 69 = .ok (.iconst 5, 1) := by decide +kernel
theorem dX5_readNamed_70 : decode cX5_readNamed 70 = .ok (.isub, 1) := by decide +kernel
theorem dX5_readNamed_71 : decode cX5_readNamed 71 = .ok (.bipush 6, 2) := by decide +kernel
theorem dX5_readNamed_73 : decode cX5_readNamed 73 = .ok (.imul, 1) := by decide +kernel
theorem dX5_readNamed_74 : decode cX5_readNamed 74 = .ok (.iadd, 1) := by decide +kernel
theorem dX5_readNamed_75 : decode cX5_readNamed 75 = .ok (.aload_n 0, 1) := by decide +kernel
theorem dX5_readNamed_76 : decode cX5_readNamed 76 = .ok (.getfield 44, 3) := by decide +kernel
theorem dX5_readNamed_79 : decode cX5_readNamed 79 = .ok (.iadd, 1) := by decide +kernel
theorem dX5_readNamed_80 : decode cX5_readNamed 80 = .ok (.istore_n 1, 1) := by decide +kernel
theorem dX5_readNamed_81 : decode cX5_readNamed 81 = .ok (.aload_n 0, 1) := by decide +kernel
theorem dX5_readNamed_82 : decode cX5_readNamed 82 = .ok (.invokevirtual 53, 3) := by decide +kernel
theorem dX5_readNamed_85 : decode cX5_readNamed 85 = .ok (.aload_n 0, 1) := by decide +kernel
theorem dX5_readNamed_86 : decode cX5_readNamed 86 = .ok (.getfield 20, 3) := by decide +kernel
theorem dX5_readNamed_89 : decode cX5_readNamed 89 = .ok (.iconst 1, 1) := by decide +kernel
theorem dX5_readNamed_90 : decode cX5_readNamed 90 = .ok (.iload_n 1, 1) := by decide +kernel
theorem dX5_readNamed_91 : decode cX5_readNamed 91 = .ok (.invokevirtual 139, 3) := by decide +kernel
theorem dX5_readNamed_94 : decode cX5_readNamed 94 = .ok (.iconst 1, 1) := by decide +kernel
theorem dX5_readNamed_95 : decode cX5_readNamed 95 = .ok (.ireturn, 1) := by decide +kernel
def D_X5_readNamed_85 (h : z_H) (l0 : Option Nat) (l1 : Int32) : Option (Int32 × z_H) :=
  (z_gQ 5 h l0 1).bind fun x2607 =>
  (z_ob 7 h x2607).bind fun _ =>
  (D_X7_emit  h x2607 (1:Int32) l1).bind fun p2608 =>
  some ((1:Int32), p2608)
set_option maxRecDepth 100000 in
set_option maxHeartbeats 4000000 in
theorem S_X5_readNamed_85 {G : z_G} {l : Launch}  {h : z_H} {l0 : Option Nat} {l1 : Int32} {res : (Int32 × z_H)} (e : D_X5_readNamed_85  h l0 l1 = some res) : z_Run G l 10 M_X5_readNamed 85 [(0, z_r l0), (1, .int l1)] [] h res.2 (some (.int res.1)) := by
  unfold D_X5_readNamed_85 at e
  refine z_aload_n 0 dX5_readNamed_85 rfl ?_
  replace e := z_bd e; obtain ⟨x2607, ex2607, e⟩ := e
  refine z_getQ ex2607 lk_X5_20 dX5_readNamed_86 ?_
  refine z_iconst (v := 1) dX5_readNamed_89 (by decide) ?_
  refine z_iload_n 1 dX5_readNamed_90 rfl ?_
  replace e := z_bd e; obtain ⟨o2609, eo2609, e⟩ := e
  replace e := z_bd e; obtain ⟨p2608, ep2608, e⟩ := e
  refine z_cV [.int (1:Int32), .int l1] (S_X7_emit  ep2608) eo2609 rfl ml_X5_139 ck_X7_emit vk_X7_emit dX5_readNamed_91 (by decide) rfl (Nat.zero_le _) rfl ?_
  refine z_iconst (v := 1) dX5_readNamed_94 (by decide) ?_
  cases e
  exact z_zret dX5_readNamed_95 rfl (by decide)
def D_X5_readNamed_62 (h : z_H) (l0 : Option Nat) : Option (Int32 × z_H) :=
  (z_ob 5 h l0).bind fun _ =>
  (D_X5_failHere  h l0).bind fun p2610 =>
  if p2610.1 = 0 ∨ p2610.1 = 1 then some (p2610.1, p2610.2) else none
set_option maxRecDepth 100000 in
set_option maxHeartbeats 4000000 in
theorem S_X5_readNamed_62 {G : z_G} {l : Launch}  {h : z_H} {l0 : Option Nat} {res : (Int32 × z_H)} (e : D_X5_readNamed_62  h l0 = some res) : z_Run G l 10 M_X5_readNamed 62 [(0, z_r l0)] [] h res.2 (some (.int res.1)) := by
  unfold D_X5_readNamed_62 at e
  refine z_aload_n 0 dX5_readNamed_62 rfl ?_
  replace e := z_bd e; obtain ⟨o2611, eo2611, e⟩ := e
  replace e := z_bd e; obtain ⟨p2610, ep2610, e⟩ := e
  refine z_cV [] (S_X5_failHere  ep2610) eo2611 rfl ml_X5_67 ck_X5_failHere vk_X5_failHere dX5_readNamed_63 (by decide) rfl (Nat.zero_le _) rfl ?_
  replace e := z_ifs e; obtain ⟨c2612, e⟩ := e
  cases e
  exact z_zret dX5_readNamed_66 rfl (z_nz c2612).1
def D_X5_readNamed_15 (h : z_H) (l0 : Option Nat) (s0 : Option Nat) (s1 : Nat) : Option (Int32 × z_H) :=
  (z_ob 5 h s0).bind fun _ =>
  (D_X5_among  h s0 s1).bind fun p2613 =>
  if p2613.1 = (-1:Int32) then
    (z_ob 5 p2613.2 l0).bind fun _ =>
    (D_X5_failHere  p2613.2 l0).bind fun p2629 =>
    if p2629.1 = 0 ∨ p2629.1 = 1 then some (p2629.1, p2629.2) else none
  else
    (z_ob 5 p2613.2 l0).bind fun _ =>
    (D_X5_advance  p2613.2 l0).bind fun p2616 =>
    (z_gI 5 p2616 l0 4).bind fun x2618 =>
    if x2618 = 0 then
      D_X5_readNamed_85   p2616 l0 p2613.1
    else
      if p2613.1 < (5:Int32) then
        D_X5_readNamed_85   p2616 l0 p2613.1
      else
        (z_gI 5 p2616 l0 7).bind fun x2621 =>
        if x2621 = (1:Int32) then
          (z_gI 5 p2616 l0 8).bind fun x2623 =>
          if x2623 < (6:Int32) then
            (z_gI 5 p2616 l0 8).bind fun x2625 =>
            (some (((5:Int32) + ((p2613.1 - (5:Int32)) * (6:Int32))) + x2625)).bind fun x2626 =>
            (z_ob 5 p2616 l0).bind fun _ =>
            (D_X5_advance  p2616 l0).bind fun p2627 =>
            D_X5_readNamed_85   p2627 l0 x2626
          else
            D_X5_readNamed_62   p2616 l0
        else
          D_X5_readNamed_62   p2616 l0
set_option maxRecDepth 100000 in
set_option maxHeartbeats 4000000 in
theorem S_X5_readNamed_15 {G : z_G} {l : Launch}  {h : z_H} {l0 : Option Nat} {s0 : Option Nat} {s1 : Nat} {res : (Int32 × z_H)} (e : D_X5_readNamed_15  h l0 s0 s1 = some res) : z_Run G l 10 M_X5_readNamed 15 [(0, z_r l0)] [.retAddr s1, z_r s0] h res.2 (some (.int res.1)) := by
  unfold D_X5_readNamed_15 at e
  replace e := z_bd e; obtain ⟨o2614, eo2614, e⟩ := e
  replace e := z_bd e; obtain ⟨p2613, ep2613, e⟩ := e
  refine z_cV [.retAddr s1] (S_X5_among  ep2613) eo2614 rfl ml_X5_90 ck_X5_among vk_X5_among dX5_readNamed_15 (by decide) rfl (Nat.zero_le _) rfl ?_
  refine z_istore_n (L' := [(1, .int p2613.1), (0, z_r l0)]) dX5_readNamed_18 rfl (by decide) (by simp [z_cr]) ?_
  refine z_iload_n 0 dX5_readNamed_19 rfl ?_
  refine z_iconst (v := -1) dX5_readNamed_20 (by decide) ?_
  refine z_icmp_ne (tgt := 29) dX5_readNamed_21 (by decide) (fun c2615 => ?_) (fun c2615 => ?_)
  · rw [if_neg c2615] at e
    refine z_aload_n 1 dX5_readNamed_29 rfl ?_
    replace e := z_bd e; obtain ⟨o2617, eo2617, e⟩ := e
    replace e := z_bd e; obtain ⟨p2616, ep2616, e⟩ := e
    refine z_cV [] (S_X5_advance  ep2616) eo2617 rfl ml_X5_53 ck_X5_advance vk_X5_advance dX5_readNamed_30 (by decide) rfl (Nat.zero_le _) rfl ?_
    refine z_aload_n 1 dX5_readNamed_33 rfl ?_
    replace e := z_bd e; obtain ⟨x2618, ex2618, e⟩ := e
    refine z_getI ex2618 lk_X5_31 dX5_readNamed_34 ?_
    refine z_if_eq (tgt := 85) dX5_readNamed_37 (by decide) (fun c2619 => ?_) (fun c2619 => ?_)
    · rw [if_pos c2619] at e
      exact z_weak [1, 0] rfl (S_X5_readNamed_85   e)
    · rw [if_neg c2619] at e
      refine z_iload_n 0 dX5_readNamed_40 rfl ?_
      refine z_iconst (v := 5) dX5_readNamed_41 (by decide) ?_
      refine z_icmp_lt (tgt := 85) dX5_readNamed_42 (by decide) (fun c2620 => ?_) (fun c2620 => ?_)
      · rw [if_pos c2620] at e
        exact z_weak [1, 0] rfl (S_X5_readNamed_85   e)
      · rw [if_neg c2620] at e
        refine z_aload_n 1 dX5_readNamed_45 rfl ?_
        replace e := z_bd e; obtain ⟨x2621, ex2621, e⟩ := e
        refine z_getI ex2621 lk_X5_41 dX5_readNamed_46 ?_
        refine z_iconst (v := 1) dX5_readNamed_49 (by decide) ?_
        refine z_icmp_ne (tgt := 62) dX5_readNamed_50 (by decide) (fun c2622 => ?_) (fun c2622 => ?_)
        · rw [if_neg c2622] at e
          exact z_weak [1] rfl (S_X5_readNamed_62   e)
        · rw [if_pos c2622] at e
          refine z_aload_n 1 dX5_readNamed_53 rfl ?_
          replace e := z_bd e; obtain ⟨x2623, ex2623, e⟩ := e
          refine z_getI ex2623 lk_X5_44 dX5_readNamed_54 ?_
          refine z_bipush (v := 6) dX5_readNamed_57 (by decide) ?_
          refine z_icmp_lt (tgt := 67) dX5_readNamed_59 (by decide) (fun c2624 => ?_) (fun c2624 => ?_)
          · rw [if_pos c2624] at e
            refine z_iconst (v := 5) dX5_readNamed_67 (by decide) ?_
            refine z_iload_n 0 dX5_readNamed_68 rfl ?_
            refine z_iconst (v := 5) dX5_readNamed_69 (by decide) ?_
            refine z_isub dX5_readNamed_70 ?_
            refine z_bipush (v := 6) dX5_readNamed_71 (by decide) ?_
            refine z_imul dX5_readNamed_73 ?_
            refine z_iadd dX5_readNamed_74 ?_
            refine z_aload_n 1 dX5_readNamed_75 rfl ?_
            replace e := z_bd e; obtain ⟨x2625, ex2625, e⟩ := e
            refine z_getI ex2625 lk_X5_44 dX5_readNamed_76 ?_
            refine z_iadd dX5_readNamed_79 ?_
            replace e := z_bd e; obtain ⟨x2626, ex2626, e⟩ := e
            refine z_topI ex2626 ?_
            refine z_istore_n (L' := [(1, .int x2626), (0, z_r l0)]) dX5_readNamed_80 rfl (by decide) (by simp [z_cr]) ?_
            refine z_aload_n 1 dX5_readNamed_81 rfl ?_
            replace e := z_bd e; obtain ⟨o2628, eo2628, e⟩ := e
            replace e := z_bd e; obtain ⟨p2627, ep2627, e⟩ := e
            refine z_cV [] (S_X5_advance  ep2627) eo2628 rfl ml_X5_53 ck_X5_advance vk_X5_advance dX5_readNamed_82 (by decide) rfl (Nat.zero_le _) rfl ?_
            exact z_weak [1, 0] rfl (S_X5_readNamed_85   e)
          · rw [if_neg c2624] at e
            exact z_weak [1] rfl (S_X5_readNamed_62   e)
  · rw [if_pos c2615] at e
    refine z_aload_n 1 dX5_readNamed_24 rfl ?_
    replace e := z_bd e; obtain ⟨o2630, eo2630, e⟩ := e
    replace e := z_bd e; obtain ⟨p2629, ep2629, e⟩ := e
    refine z_cV [] (S_X5_failHere  ep2629) eo2630 rfl ml_X5_67 ck_X5_failHere vk_X5_failHere dX5_readNamed_25 (by decide) rfl (Nat.zero_le _) rfl ?_
    replace e := z_ifs e; obtain ⟨c2631, e⟩ := e
    cases e
    exact z_zret dX5_readNamed_28 rfl (z_nz c2631).1
def D_X5_readNamed (h : z_H) (l0 : Option Nat) : Option (Int32 × z_H) :=
  (z_gI 5 h l0 4).bind fun x2632 =>
  if x2632 = 0 then
    D_X5_readNamed_15   h l0 l0 (7)
  else
    D_X5_readNamed_15   h l0 l0 (6)
set_option maxRecDepth 100000 in
set_option maxHeartbeats 4000000 in
theorem S_X5_readNamed {G : z_G} {l : Launch} {h : z_H} {l0 : Option Nat} {res : (Int32 × z_H)} (e : D_X5_readNamed h l0 = some res) : z_Meth G l 10 M_X5_readNamed [z_r l0] h res.2 (some (.int res.1)) := by
  refine z_Meth.of ck_X5_readNamed.2.2.2.2 (by simp [lg_sl, z_ci, z_cj, z_cr, z_cx]) ck_X5_readNamed.1 ?_
  rw [show lv_args 0 [z_r l0] = [(0, z_r l0)] from by simp [lv_args, z_ci, z_cj, z_cr, z_cx]]
  unfold D_X5_readNamed at e
  refine z_aload_n 0 dX5_readNamed_0 rfl ?_
  refine z_aload_n 0 dX5_readNamed_1 rfl ?_
  replace e := z_bd e; obtain ⟨x2632, ex2632, e⟩ := e
  refine z_getI ex2632 lk_X5_31 dX5_readNamed_2 ?_
  refine z_if_eq (tgt := 13) dX5_readNamed_5 (by decide) (fun c2633 => ?_) (fun c2633 => ?_)
  · rw [if_pos c2633] at e
    refine z_ldcS (i := 3) rfl rfl dX5_readNamed_13 ?_
    exact z_weak [0] rfl (S_X5_readNamed_15   e)
  · rw [if_neg c2633] at e
    refine z_ldcS (i := 2) rfl rfl dX5_readNamed_8 ?_
    refine z_goto (tgt := 15) dX5_readNamed_10 (by decide) ?_
    exact z_weak [0] rfl (S_X5_readNamed_15   e)
theorem dX5_readPart_0 : decode cX5_readPart 0 = .ok (.aload_n 0, 1) := by decide +kernel
theorem dX5_readPart_1 : decode cX5_readPart 1 = .ok (.bipush 91, 2) := by decide +kernel
theorem dX5_readPart_3 : decode cX5_readPart 3 = .ok (.invokevirtual 94, 3) := by decide +kernel
theorem dX5_readPart_6 : decode cX5_readPart 6 = .ok (.ifCond .eq 43, 3) := by decide +kernel
theorem dX5_readPart_9 : decode cX5_readPart 9 = .ok (.iload_n 1, 1) := by decide +kernel
theorem dX5_readPart_10 : decode cX5_readPart 10 = .ok (.bipush 8, 2) := by decide +kernel
theorem dX5_readPart_12 : decode cX5_readPart 12 = .ok (.if_icmp .lt 8, 3) := by decide +kernel
theorem dX5_readPart_15 : decode cX5_readPart 15 = .ok (.aload_n 0, 1) := by decide +kernel
theorem dX5_readPart_16 : decode cX5_readPart 16 = .ok (.invokevirtual 67, 3) := by decide +kernel
theorem dX5_readPart_19 : decode cX5_readPart 19 = .ok (.ireturn, 1) := by decide +kernel
theorem dX5_readPart_20 : decode cX5_readPart 20 = .ok (.aload_n 0, 1) := by decide +kernel
theorem dX5_readPart_21 : decode cX5_readPart 21 = .ok (.invokevirtual 53, 3) := by decide +kernel
theorem dX5_readPart_24 : decode cX5_readPart 24 = .ok (.aload_n 0, 1) := by decide +kernel
theorem dX5_readPart_25 : decode cX5_readPart 25 = .ok (.iload_n 1, 1) := by decide +kernel
theorem dX5_readPart_26 : decode cX5_readPart 26 = .ok (.iconst 1, 1) := by decide +kernel
theorem dX5_readPart_27 : decode cX5_readPart 27 = .ok (.iadd, 1) := by decide +kernel
theorem dX5_readPart_28 : decode cX5_readPart 28 = .ok (.invokevirtual 115, 3) := by decide +kernel
theorem dX5_readPart_31 : decode cX5_readPart 31 = .ok (.ifCond .eq 16, 3) := by decide +kernel
theorem dX5_readPart_34 : decode cX5_readPart 34 = .ok (.aload_n 0, 1) := by decide +kernel
theorem dX5_readPart_35 : decode cX5_readPart 35 = .ok (.bipush 93, 2) := by decide +kernel
theorem dX5_readPart_37 : decode cX5_readPart 37 = .ok (.invokevirtual 63, 3) := by decide +kernel
theorem dX5_readPart_40 : decode cX5_readPart 40 = .ok (.ifCond .eq 7, 3) := by decide +kernel
theorem dX5_readPart_43 : decode cX5_readPart 43 = .ok (.iconst 1, 1) := by decide +kernel
theorem dX5_readPart_44 : decode cX5_readPart 44 = .ok (.goto 4, 3) := by decide +kernel
theorem dX5_readPart_47 : decode cX5_readPart 47 = .ok (.iconst 0, 1) := by decide +kernel
theorem dX5_readPart_48 : decode cX5_readPart 48 = .ok (.ireturn, 1) := by decide +kernel
theorem dX5_readPart_49 : decode cX5_readPart 49 = .ok (.aload_n 0, 1) := by decide +kernel
theorem dX5_readPart_50 : decode cX5_readPart 50 = .ok (.getfield 47, 3) := by decide +kernel
theorem dX5_readPart_53 : decode cX5_readPart 53 = .ok (.bipush 50, 2) := by decide +kernel
theorem dX5_readPart_55 : decode cX5_readPart 55 = .ok (.if_icmp .lt 8, 3) := by decide +kernel
theorem dX5_readPart_58 : decode cX5_readPart 58 = .ok (.aload_n 0, 1) := by decide +kernel
theorem dX5_readPart_59 : decode cX5_readPart 59 = .ok (.invokevirtual 67, 3) := by decide +kernel
theorem dX5_readPart_62 : decode cX5_readPart 62 = .ok (.ireturn, 1) := by decide +kernel
theorem dX5_readPart_63 : decode cX5_readPart 63 = .ok (.aload_n 0, 1) := by decide +kernel
theorem dX5_readPart_64 : decode cX5_readPart 64 = .ok (.dup, 1) := by decide +kernel
theorem dX5_readPart_65 : decode cX5_readPart 65 = .ok (.getfield 47, 3) := by decide +kernel
theorem dX5_readPart_68 : decode cX5_readPart 68 = .ok (.iconst 1, 1) := by decide +kernel
theorem dX5_readPart_69 : decode cX5_readPart 69 = .ok (.iadd, 1) := by decide +kernel
theorem dX5_readPart_70 : decode cX5_readPart 70 = .ok (.putfield 47, 3) := by decide +kernel
theorem dX5_readPart_73 : decode cX5_readPart 73 = .ok (.aload_n 0, 1) := by decide +kernel
theorem dX5_readPart_74 : decode cX5_readPart 74 = .ok (.getfield 41, 3) := by decide +kernel
theorem dX5_readPart_77 : decode cX5_readPart 77 = .ok (.iconst 1, 1) := by decide +kernel
theorem dX5_readPart_78 : decode cX5_readPart 78 = .ok (.if_icmp .ne 31, 3) := by decide +kernel
theorem dX5_readPart_81 : decode cX5_readPart 81 = .ok (.aload_n 0, 1) := by decide +kernel
theorem dX5_readPart_82 : decode cX5_readPart 82 = .ok (.getfield 44, 3) := by decide +kernel
theorem dX5_readPart_85 : decode cX5_readPart 85 = .ok (.sipush 1000, 3) := by decide +kernel
theorem dX5_readPart_88 : decode cX5_readPart 88 = .ok (.if_icmp .gt 21, 3) := by decide +kernel
theorem dX5_readPart_91 : decode cX5_readPart 91 = .ok (.aload_n 0, 1) := by decide +kernel
theorem dX5_readPart_92 : decode cX5_readPart 92 = .ok (.getfield 20, 3) := by decide +kernel
theorem dX5_readPart_95 : decode cX5_readPart 95 = .ok (.iconst 0, 1) := by decide +kernel
theorem dX5_readPart_96 : decode cX5_readPart 96 = .ok (.aload_n 0, 1) := by decide +kernel
theorem dX5_readPart_97 : decode cX5_readPart 97 = .ok (.getfield 44, 3) := by decide +kernel
theorem dX5_readPart_100 : decode cX5_readPart 100 = .ok (.invokevirtual 139, 3) := by decide +kernel
theorem dX5_readPart_103 : decode cX5_readPart 103 = .ok (.aload_n 0, 1) := by decide +kernel
theorem dX5_readPart_104 : decode cX5_readPart 104 = .ok (.invokevirtual 53, 3) := by decide +kernel
theorem dX5_readPart_107 : decode cX5_readPart 107 = .ok (.iconst 1, 1) := by decide +kernel
theorem dX5_readPart_108 : decode cX5_readPart 108 = .ok (.ireturn, 1) := by decide +kernel
theorem dX5_readPart_109 : decode cX5_readPart 109 = .ok (.aload_n 0, 1) := by decide +kernel
theorem dX5_readPart_110 : decode cX5_readPart 110 = .ok (.invokevirtual 159, 3) := by decide +kernel
theorem dX5_readPart_113 : decode cX5_readPart 113 = .ok (.ireturn, 1) := by decide +kernel
def D_X5_readPart_109 (kr : z_H → Option Nat → Int32 → Option (Int32 × z_H)) (h : z_H) (l0 : Option Nat) : Option (Int32 × z_H) :=
  (z_ob 5 h l0).bind fun _ =>
  (D_X5_readNamed  h l0).bind fun p2634 =>
  if p2634.1 = 0 ∨ p2634.1 = 1 then some (p2634.1, p2634.2) else none
set_option maxRecDepth 100000 in
set_option maxHeartbeats 4000000 in
theorem S_X5_readPart_109 {G : z_G} {l : Launch} {kr : z_H → Option Nat → Int32 → Option (Int32 × z_H)} {dk : Nat} (hkr : ∀ {h : z_H} {l0 : Option Nat} {l1 : Int32} {res : (Int32 × z_H)}, kr h l0 l1 = some res → z_Meth G l dk M_X5_readSum [z_r l0, .int l1] h res.2 (some (.int res.1))) (hdk : 20 ≤ dk)  {h : z_H} {l0 : Option Nat} {res : (Int32 × z_H)} (e : D_X5_readPart_109 kr  h l0 = some res) : z_Run G l (dk + 1) M_X5_readPart 109 [(0, z_r l0)] [] h res.2 (some (.int res.1)) := by
  unfold D_X5_readPart_109 at e
  refine z_aload_n 0 dX5_readPart_109 rfl ?_
  replace e := z_bd e; obtain ⟨o2635, eo2635, e⟩ := e
  replace e := z_bd e; obtain ⟨p2634, ep2634, e⟩ := e
  refine z_cV [] (S_X5_readNamed  ep2634) eo2635 rfl ml_X5_159 ck_X5_readNamed vk_X5_readNamed dX5_readPart_110 (by omega) rfl (Nat.zero_le _) rfl ?_
  replace e := z_ifs e; obtain ⟨c2636, e⟩ := e
  cases e
  exact z_zret dX5_readPart_113 rfl (z_nz c2636).1
def D_X5_readPart (kr : z_H → Option Nat → Int32 → Option (Int32 × z_H)) (h : z_H) (l0 : Option Nat) (l1 : Int32) : Option (Int32 × z_H) :=
  (z_ob 5 h l0).bind fun _ =>
  (D_X5_isSign  h l0 (91:Int32)).bind fun p2637 =>
  if p2637.1 = 0 then
    (z_gI 5 p2637.2 l0 9).bind fun x2640 =>
    if x2640 < (50:Int32) then
      (z_gI 5 p2637.2 l0 9).bind fun x2642 =>
      (z_pV 5 p2637.2 l0 9 (.int (x2642 + (1:Int32)))).bind fun h2643 =>
      (z_gI 5 h2643 l0 7).bind fun x2644 =>
      if x2644 = (1:Int32) then
        (z_gI 5 h2643 l0 8).bind fun x2646 =>
        if (1000:Int32) < x2646 then
          D_X5_readPart_109 kr  h2643 l0
        else
          (z_gQ 5 h2643 l0 1).bind fun x2648 =>
          (z_gI 5 h2643 l0 8).bind fun x2649 =>
          (z_ob 7 h2643 x2648).bind fun _ =>
          (D_X7_emit  h2643 x2648 (0:Int32) x2649).bind fun p2650 =>
          (z_ob 5 p2650 l0).bind fun _ =>
          (D_X5_advance  p2650 l0).bind fun p2652 =>
          some ((1:Int32), p2652)
      else
        D_X5_readPart_109 kr  h2643 l0
    else
      (z_ob 5 p2637.2 l0).bind fun _ =>
      (D_X5_failHere  p2637.2 l0).bind fun p2654 =>
      if p2654.1 = 0 ∨ p2654.1 = 1 then some (p2654.1, p2654.2) else none
  else
    if l1 < (8:Int32) then
      (z_ob 5 p2637.2 l0).bind fun _ =>
      (D_X5_advance  p2637.2 l0).bind fun p2658 =>
      (z_ob 5 p2658 l0).bind fun _ =>
      (kr p2658 l0 (l1 + (1:Int32))).bind fun p2660 =>
      if p2660.1 = 0 then
        some ((0:Int32), p2660.2)
      else
        (z_ob 5 p2660.2 l0).bind fun _ =>
        (D_X5_skipSign  p2660.2 l0 (93:Int32)).bind fun p2663 =>
        if p2663.1 = 0 then
          some ((0:Int32), p2663.2)
        else
          some ((1:Int32), p2663.2)
    else
      (z_ob 5 p2637.2 l0).bind fun _ =>
      (D_X5_failHere  p2637.2 l0).bind fun p2666 =>
      if p2666.1 = 0 ∨ p2666.1 = 1 then some (p2666.1, p2666.2) else none
set_option maxRecDepth 100000 in
set_option maxHeartbeats 4000000 in
theorem S_X5_readPart {G : z_G} {l : Launch} {kr : z_H → Option Nat → Int32 → Option (Int32 × z_H)} {dk : Nat} (hkr : ∀ {h : z_H} {l0 : Option Nat} {l1 : Int32} {res : (Int32 × z_H)}, kr h l0 l1 = some res → z_Meth G l dk M_X5_readSum [z_r l0, .int l1] h res.2 (some (.int res.1))) (hdk : 20 ≤ dk) {h : z_H} {l0 : Option Nat} {l1 : Int32} {res : (Int32 × z_H)} (e : D_X5_readPart kr h l0 l1 = some res) : z_Meth G l (dk + 1) M_X5_readPart [z_r l0, .int l1] h res.2 (some (.int res.1)) := by
  refine z_Meth.of ck_X5_readPart.2.2.2.2 (by simp [lg_sl, z_ci, z_cj, z_cr, z_cx]) ck_X5_readPart.1 ?_
  rw [show lv_args 0 [z_r l0, .int l1] = [(0, z_r l0), (1, .int l1)] from by simp [lv_args, z_ci, z_cj, z_cr, z_cx]]
  unfold D_X5_readPart at e
  refine z_aload_n 0 dX5_readPart_0 rfl ?_
  refine z_bipush (v := 91) dX5_readPart_1 (by decide) ?_
  replace e := z_bd e; obtain ⟨o2638, eo2638, e⟩ := e
  replace e := z_bd e; obtain ⟨p2637, ep2637, e⟩ := e
  refine z_cV [.int (91:Int32)] (S_X5_isSign  ep2637) eo2638 rfl ml_X5_94 ck_X5_isSign vk_X5_isSign dX5_readPart_3 (by omega) rfl (Nat.zero_le _) rfl ?_
  refine z_if_eq (tgt := 49) dX5_readPart_6 (by decide) (fun c2639 => ?_) (fun c2639 => ?_)
  · rw [if_pos c2639] at e
    refine z_aload_n 0 dX5_readPart_49 rfl ?_
    replace e := z_bd e; obtain ⟨x2640, ex2640, e⟩ := e
    refine z_getI ex2640 lk_X5_47 dX5_readPart_50 ?_
    refine z_bipush (v := 50) dX5_readPart_53 (by decide) ?_
    refine z_icmp_lt (tgt := 63) dX5_readPart_55 (by decide) (fun c2641 => ?_) (fun c2641 => ?_)
    · rw [if_pos c2641] at e
      refine z_aload_n 0 dX5_readPart_63 rfl ?_
      refine z_dup dX5_readPart_64 (z_cr _) ?_
      replace e := z_bd e; obtain ⟨x2642, ex2642, e⟩ := e
      refine z_getI ex2642 lk_X5_47 dX5_readPart_65 ?_
      refine z_iconst (v := 1) dX5_readPart_68 (by decide) ?_
      refine z_iadd dX5_readPart_69 ?_
      replace e := z_bd e; obtain ⟨h2643, eh2643, e⟩ := e
      refine z_putV eh2643 lk_X5_47 wk_5_9 (fun _ => rfl) (fun _ => rfl) dX5_readPart_70 ?_
      refine z_aload_n 0 dX5_readPart_73 rfl ?_
      replace e := z_bd e; obtain ⟨x2644, ex2644, e⟩ := e
      refine z_getI ex2644 lk_X5_41 dX5_readPart_74 ?_
      refine z_iconst (v := 1) dX5_readPart_77 (by decide) ?_
      refine z_icmp_ne (tgt := 109) dX5_readPart_78 (by decide) (fun c2645 => ?_) (fun c2645 => ?_)
      · rw [if_neg c2645] at e
        exact z_weak [0] rfl (S_X5_readPart_109 @hkr hdk  e)
      · rw [if_pos c2645] at e
        refine z_aload_n 0 dX5_readPart_81 rfl ?_
        replace e := z_bd e; obtain ⟨x2646, ex2646, e⟩ := e
        refine z_getI ex2646 lk_X5_44 dX5_readPart_82 ?_
        refine z_sipush (v := 1000) dX5_readPart_85 (by decide) ?_
        refine z_icmp_gt (tgt := 109) dX5_readPart_88 (by decide) (fun c2647 => ?_) (fun c2647 => ?_)
        · rw [if_pos c2647] at e
          exact z_weak [0] rfl (S_X5_readPart_109 @hkr hdk  e)
        · rw [if_neg c2647] at e
          refine z_aload_n 0 dX5_readPart_91 rfl ?_
          replace e := z_bd e; obtain ⟨x2648, ex2648, e⟩ := e
          refine z_getQ ex2648 lk_X5_20 dX5_readPart_92 ?_
          refine z_iconst (v := 0) dX5_readPart_95 (by decide) ?_
          refine z_aload_n 0 dX5_readPart_96 rfl ?_
          replace e := z_bd e; obtain ⟨x2649, ex2649, e⟩ := e
          refine z_getI ex2649 lk_X5_44 dX5_readPart_97 ?_
          replace e := z_bd e; obtain ⟨o2651, eo2651, e⟩ := e
          replace e := z_bd e; obtain ⟨p2650, ep2650, e⟩ := e
          refine z_cV [.int (0:Int32), .int x2649] (S_X7_emit  ep2650) eo2651 rfl ml_X5_139 ck_X7_emit vk_X7_emit dX5_readPart_100 (by omega) rfl (Nat.zero_le _) rfl ?_
          refine z_aload_n 0 dX5_readPart_103 rfl ?_
          replace e := z_bd e; obtain ⟨o2653, eo2653, e⟩ := e
          replace e := z_bd e; obtain ⟨p2652, ep2652, e⟩ := e
          refine z_cV [] (S_X5_advance  ep2652) eo2653 rfl ml_X5_53 ck_X5_advance vk_X5_advance dX5_readPart_104 (by omega) rfl (Nat.zero_le _) rfl ?_
          refine z_iconst (v := 1) dX5_readPart_107 (by decide) ?_
          cases e
          exact z_zret dX5_readPart_108 rfl (by decide)
    · rw [if_neg c2641] at e
      refine z_aload_n 0 dX5_readPart_58 rfl ?_
      replace e := z_bd e; obtain ⟨o2655, eo2655, e⟩ := e
      replace e := z_bd e; obtain ⟨p2654, ep2654, e⟩ := e
      refine z_cV [] (S_X5_failHere  ep2654) eo2655 rfl ml_X5_67 ck_X5_failHere vk_X5_failHere dX5_readPart_59 (by omega) rfl (Nat.zero_le _) rfl ?_
      replace e := z_ifs e; obtain ⟨c2656, e⟩ := e
      cases e
      exact z_zret dX5_readPart_62 rfl (z_nz c2656).1
  · rw [if_neg c2639] at e
    refine z_iload_n 1 dX5_readPart_9 rfl ?_
    refine z_bipush (v := 8) dX5_readPart_10 (by decide) ?_
    refine z_icmp_lt (tgt := 20) dX5_readPart_12 (by decide) (fun c2657 => ?_) (fun c2657 => ?_)
    · rw [if_pos c2657] at e
      refine z_aload_n 0 dX5_readPart_20 rfl ?_
      replace e := z_bd e; obtain ⟨o2659, eo2659, e⟩ := e
      replace e := z_bd e; obtain ⟨p2658, ep2658, e⟩ := e
      refine z_cV [] (S_X5_advance  ep2658) eo2659 rfl ml_X5_53 ck_X5_advance vk_X5_advance dX5_readPart_21 (by omega) rfl (Nat.zero_le _) rfl ?_
      refine z_aload_n 0 dX5_readPart_24 rfl ?_
      refine z_iload_n 1 dX5_readPart_25 rfl ?_
      refine z_iconst (v := 1) dX5_readPart_26 (by decide) ?_
      refine z_iadd dX5_readPart_27 ?_
      replace e := z_bd e; obtain ⟨o2661, eo2661, e⟩ := e
      replace e := z_bd e; obtain ⟨p2660, ep2660, e⟩ := e
      refine z_cV [.int (l1 + (1:Int32))] (hkr ep2660) eo2661 rfl ml_X5_115 ck_X5_readSum vk_X5_readSum dX5_readPart_28 (by omega) rfl (Nat.zero_le _) rfl ?_
      refine z_if_eq (tgt := 47) dX5_readPart_31 (by decide) (fun c2662 => ?_) (fun c2662 => ?_)
      · rw [if_pos c2662] at e
        refine z_iconst (v := 0) dX5_readPart_47 (by decide) ?_
        cases e
        exact z_zret dX5_readPart_48 rfl (by decide)
      · rw [if_neg c2662] at e
        refine z_aload_n 0 dX5_readPart_34 rfl ?_
        refine z_bipush (v := 93) dX5_readPart_35 (by decide) ?_
        replace e := z_bd e; obtain ⟨o2664, eo2664, e⟩ := e
        replace e := z_bd e; obtain ⟨p2663, ep2663, e⟩ := e
        refine z_cV [.int (93:Int32)] (S_X5_skipSign  ep2663) eo2664 rfl ml_X5_63 ck_X5_skipSign vk_X5_skipSign dX5_readPart_37 (by omega) rfl (Nat.zero_le _) rfl ?_
        refine z_if_eq (tgt := 47) dX5_readPart_40 (by decide) (fun c2665 => ?_) (fun c2665 => ?_)
        · rw [if_pos c2665] at e
          refine z_iconst (v := 0) dX5_readPart_47 (by decide) ?_
          cases e
          exact z_zret dX5_readPart_48 rfl (by decide)
        · rw [if_neg c2665] at e
          refine z_iconst (v := 1) dX5_readPart_43 (by decide) ?_
          refine z_goto (tgt := 48) dX5_readPart_44 (by decide) ?_
          cases e
          exact z_zret dX5_readPart_48 rfl (by decide)
    · rw [if_neg c2657] at e
      refine z_aload_n 0 dX5_readPart_15 rfl ?_
      replace e := z_bd e; obtain ⟨o2667, eo2667, e⟩ := e
      replace e := z_bd e; obtain ⟨p2666, ep2666, e⟩ := e
      refine z_cV [] (S_X5_failHere  ep2666) eo2667 rfl ml_X5_67 ck_X5_failHere vk_X5_failHere dX5_readPart_16 (by omega) rfl (Nat.zero_le _) rfl ?_
      replace e := z_ifs e; obtain ⟨c2668, e⟩ := e
      cases e
      exact z_zret dX5_readPart_19 rfl (z_nz c2668).1
theorem dX5_readTerm_0 : decode cX5_readTerm 0 = .ok (.aload_n 0, 1) := by decide +kernel
theorem dX5_readTerm_1 : decode cX5_readTerm 1 = .ok (.iload_n 1, 1) := by decide +kernel
theorem dX5_readTerm_2 : decode cX5_readTerm 2 = .ok (.invokevirtual 156, 3) := by decide +kernel
theorem dX5_readTerm_5 : decode cX5_readTerm 5 = .ok (.istore_n 2, 1) := by decide +kernel
theorem dX5_readTerm_6 : decode cX5_readTerm 6 = .ok (.iconst 0, 1) := by decide +kernel
theorem dX5_readTerm_7 : decode cX5_readTerm 7 = .ok (.istore_n 3, 1) := by decide +kernel
theorem dX5_readTerm_8 : decode cX5_readTerm 8 = .ok (.iload_n 3, 1) := by decide +kernel
theorem dX5_readTerm_9 : decode cX5_readTerm 9 = .ok (.sipush 400, 3) := by decide +kernel
theorem dX5_readTerm_12 : decode cX5_readTerm 12 = .ok (.if_icmp .ge 92, 3) := by decide +kernel
theorem dX5_readTerm_15 : decode cX5_readTerm 15 = .ok (.iload_n 2, 1) := by decide +kernel
theorem dX5_readTerm_16 : decode cX5_readTerm 16 = .ok (.ifCond .eq 88, 3) := by decide +kernel
theorem dX5_readTerm_19 : decode cX5_readTerm 19 = .ok (.aload_n 0, 1) := by decide +kernel
theorem dX5_readTerm_20 : decode cX5_readTerm 20 = .ok (.bipush 42, 2) := by decide +kernel
theorem dX5_readTerm_22 : decode cX5_readTerm 22 = .ok (.invokevirtual 94, 3) := by decide +kernel
theorem dX5_readTerm_25 : decode cX5_readTerm 25 = .ok (.ifCond .ne 21, 3) := by decide +kernel
theorem dX5_readTerm_28 : decode cX5_readTerm 28 = .ok (.aload_n 0, 1) := by decide +kernel
theorem dX5_readTerm_29 : decode cX5_readTerm 29 = .ok (.bipush 47, 2) := by decide +kernel
theorem dX5_readTerm_31 : decode cX5_readTerm 31 = .ok (.invokevirtual 94, 3) := by decide +kernel
theorem dX5_readTerm_34 : decode cX5_readTerm 34 = .ok (.ifCond .ne 12, 3) := by decide +kernel
theorem dX5_readTerm_37 : decode cX5_readTerm 37 = .ok (.aload_n 0, 1) := by decide +kernel
theorem dX5_readTerm_38 : decode cX5_readTerm 38 = .ok (.bipush 37, 2) := by decide +kernel
theorem dX5_readTerm_40 : decode cX5_readTerm 40 = .ok (.invokevirtual 94, 3) := by decide +kernel
theorem dX5_readTerm_43 : decode cX5_readTerm 43 = .ok (.ifCond .eq 61, 3) := by decide +kernel
theorem dX5_readTerm_46 : decode cX5_readTerm 46 = .ok (.aload_n 0, 1) := by decide +kernel
theorem dX5_readTerm_47 : decode cX5_readTerm 47 = .ok (.bipush 42, 2) := by decide +kernel
theorem dX5_readTerm_49 : decode cX5_readTerm 49 = .ok (.invokevirtual 94, 3) := by decide +kernel
theorem dX5_readTerm_52 : decode cX5_readTerm 52 = .ok (.ifCond .eq 8, 3) := by decide +kernel
theorem dX5_readTerm_55 : decode cX5_readTerm 55 = .ok (.bipush 7, 2) := by decide +kernel
theorem dX5_readTerm_57 : decode cX5_readTerm 57 = .ok (.goto 19, 3) := by decide +kernel
theorem dX5_readTerm_60 : decode cX5_readTerm 60 = .ok (.aload_n 0, 1) := by decide +kernel
theorem dX5_readTerm_61 : decode cX5_readTerm 61 = .ok (.bipush 47, 2) := by decide +kernel
theorem dX5_readTerm_63 : decode cX5_readTerm 63 = .ok (.invokevirtual 94, 3) := by decide +kernel
theorem dX5_readTerm_66 : decode cX5_readTerm 66 = .ok (.ifCond .eq 8, 3) := by decide +kernel
theorem dX5_readTerm_69 : decode cX5_readTerm 69 = .ok (.bipush 8, 2) := by decide +kernel
theorem dX5_readTerm_71 : decode cX5_readTerm 71 = .ok (.goto 5, 3) := by decide +kernel
theorem dX5_readTerm_74 : decode cX5_readTerm 74 = .ok (.bipush 9, 2) := by decide +kernel
theorem dX5_readTerm_76 : decode cX5_readTerm 76 = .ok (.istore 4, 2) := by decide +kernel
theorem dX5_readTerm_78 : decode cX5_readTerm 78 = .ok (.aload_n 0, 1) := by decide +kernel
theorem dX5_readTerm_79 : decode cX5_readTerm 79 = .ok (.invokevirtual 53, 3) := by decide +kernel
theorem dX5_readTerm_82 : decode cX5_readTerm 82 = .ok (.aload_n 0, 1) := by decide +kernel
theorem dX5_readTerm_83 : decode cX5_readTerm 83 = .ok (.iload_n 1, 1) := by decide +kernel
theorem dX5_readTerm_84 : decode cX5_readTerm 84 = .ok (.invokevirtual 156, 3) := by decide +kernel
theorem dX5_readTerm_87 : decode cX5_readTerm 87 = .ok (.istore_n 2, 1) := by decide +kernel
theorem dX5_readTerm_88 : decode cX5_readTerm 88 = .ok (.aload_n 0, 1) := by decide +kernel
theorem dX5_readTerm_89 : decode cX5_readTerm 89 = .ok (.getfield 20, 3) := by decide +kernel
theorem dX5_readTerm_92 : decode cX5_readTerm 92 = .ok (.iload 4, 2) := by decide +kernel
theorem dX5_readTerm_94 : decode cX5_readTerm 94 = .ok (.iconst 0, 1) := by decide +kernel
theorem dX5_readTerm_95 : decode cX5_readTerm 95 = .ok (.invokevirtual 139, 3) := by decide +kernel
theorem dX5_readTerm_98 : decode cX5_readTerm 98 = .ok (.iinc 3 1, 3) := by decide +kernel
theorem dX5_readTerm_101 : decode cX5_readTerm 101 = .ok (.goto (-93), 3) := by decide +kernel
theorem dX5_readTerm_104 : decode cX5_readTerm 104 = .ok (.iload_n 2, 1) := by decide +kernel
theorem dX5_readTerm_105 : decode cX5_readTerm 105 = .ok (.ireturn, 1) := by decide +kernel
def D_X5_readTerm_76 (kr : z_H → Option Nat → Int32 → Option (Int32 × z_H)) (k8 : z_H → Option Nat → Int32 → Int32 → Int32 → Option (Int32 × z_H)) (h : z_H) (l0 : Option Nat) (l1 : Int32) (l3 : Int32) (s0 : Int32) : Option (Int32 × z_H) :=
  (z_ob 5 h l0).bind fun _ =>
  (D_X5_advance  h l0).bind fun p2669 =>
  (z_ob 5 p2669 l0).bind fun _ =>
  (D_X5_readPart kr p2669 l0 l1).bind fun p2671 =>
  (z_gQ 5 p2671.2 l0 1).bind fun x2673 =>
  (z_ob 7 p2671.2 x2673).bind fun _ =>
  (D_X7_emit  p2671.2 x2673 s0 (0:Int32)).bind fun p2674 =>
  (some (l3 + (1:Int32))).bind fun x2676 =>
  k8 p2674 l0 l1 p2671.1 x2676
set_option maxRecDepth 100000 in
set_option maxHeartbeats 4000000 in
theorem S_X5_readTerm_76 {G : z_G} {l : Launch} {kr : z_H → Option Nat → Int32 → Option (Int32 × z_H)} {dk : Nat} (hkr : ∀ {h : z_H} {l0 : Option Nat} {l1 : Int32} {res : (Int32 × z_H)}, kr h l0 l1 = some res → z_Meth G l dk M_X5_readSum [z_r l0, .int l1] h res.2 (some (.int res.1))) (hdk : 20 ≤ dk) {k8 : z_H → Option Nat → Int32 → Int32 → Int32 → Option (Int32 × z_H)} (hk8 : ∀ {h : z_H} {l0 : Option Nat} {l1 : Int32} {l2 : Int32} {l3 : Int32} {res : (Int32 × z_H)}, k8 h l0 l1 l2 l3 = some res → z_Run G l (dk + 2) M_X5_readTerm 8 [(0, z_r l0), (1, .int l1), (2, .int l2), (3, .int l3)] [] h res.2 (some (.int res.1))) {h : z_H} {l0 : Option Nat} {l1 : Int32} {l3 : Int32} {s0 : Int32} {res : (Int32 × z_H)} (e : D_X5_readTerm_76 kr k8 h l0 l1 l3 s0 = some res) : z_Run G l (dk + 2) M_X5_readTerm 76 [(0, z_r l0), (1, .int l1), (3, .int l3)] [.int s0] h res.2 (some (.int res.1)) := by
  unfold D_X5_readTerm_76 at e
  refine z_istore (L' := [(4, .int s0), (0, z_r l0), (1, .int l1), (3, .int l3)]) dX5_readTerm_76 (by decide) rfl ?_
  refine z_aload_n 1 dX5_readTerm_78 rfl ?_
  replace e := z_bd e; obtain ⟨o2670, eo2670, e⟩ := e
  replace e := z_bd e; obtain ⟨p2669, ep2669, e⟩ := e
  refine z_cV [] (S_X5_advance  ep2669) eo2670 rfl ml_X5_53 ck_X5_advance vk_X5_advance dX5_readTerm_79 (by omega) rfl (Nat.zero_le _) rfl ?_
  refine z_aload_n 1 dX5_readTerm_82 rfl ?_
  refine z_iload_n 2 dX5_readTerm_83 rfl ?_
  replace e := z_bd e; obtain ⟨o2672, eo2672, e⟩ := e
  replace e := z_bd e; obtain ⟨p2671, ep2671, e⟩ := e
  refine z_cV [.int l1] (S_X5_readPart @hkr hdk ep2671) eo2672 rfl ml_X5_156 ck_X5_readPart vk_X5_readPart dX5_readTerm_84 (by omega) rfl (Nat.zero_le _) rfl ?_
  refine z_istore_n (L' := [(2, .int p2671.1), (4, .int s0), (0, z_r l0), (1, .int l1), (3, .int l3)]) dX5_readTerm_87 rfl (by decide) rfl ?_
  refine z_aload_n 2 dX5_readTerm_88 rfl ?_
  replace e := z_bd e; obtain ⟨x2673, ex2673, e⟩ := e
  refine z_getQ ex2673 lk_X5_20 dX5_readTerm_89 ?_
  refine z_iload 1 dX5_readTerm_92 rfl ?_
  refine z_iconst (v := 0) dX5_readTerm_94 (by decide) ?_
  replace e := z_bd e; obtain ⟨o2675, eo2675, e⟩ := e
  replace e := z_bd e; obtain ⟨p2674, ep2674, e⟩ := e
  refine z_cV [.int s0, .int (0:Int32)] (S_X7_emit  ep2674) eo2675 rfl ml_X5_139 ck_X7_emit vk_X7_emit dX5_readTerm_95 (by omega) rfl (Nat.zero_le _) rfl ?_
  replace e := z_bd e; obtain ⟨x2676, ex2676, e⟩ := e
  refine z_iinc (q := 4) (v := x2676) (L' := [(3, .int x2676), (2, .int p2671.1), (4, .int s0), (0, z_r l0), (1, .int l1)]) dX5_readTerm_98 rfl (Option.some.inj ex2676) (by decide) rfl ?_
  refine z_goto (tgt := 8) dX5_readTerm_101 (by decide) ?_
  exact z_weak [3, 4, 1, 0] rfl (hk8 e)
def D_X5_readTerm_46 (kr : z_H → Option Nat → Int32 → Option (Int32 × z_H)) (k8 : z_H → Option Nat → Int32 → Int32 → Int32 → Option (Int32 × z_H)) (h : z_H) (l0 : Option Nat) (l1 : Int32) (l3 : Int32) : Option (Int32 × z_H) :=
  (z_ob 5 h l0).bind fun _ =>
  (D_X5_isSign  h l0 (42:Int32)).bind fun p2677 =>
  if p2677.1 = 0 then
    (z_ob 5 p2677.2 l0).bind fun _ =>
    (D_X5_isSign  p2677.2 l0 (47:Int32)).bind fun p2680 =>
    if p2680.1 = 0 then
      D_X5_readTerm_76 kr k8 p2680.2 l0 l1 l3 (9:Int32)
    else
      D_X5_readTerm_76 kr k8 p2680.2 l0 l1 l3 (8:Int32)
  else
    D_X5_readTerm_76 kr k8 p2677.2 l0 l1 l3 (7:Int32)
set_option maxRecDepth 100000 in
set_option maxHeartbeats 4000000 in
theorem S_X5_readTerm_46 {G : z_G} {l : Launch} {kr : z_H → Option Nat → Int32 → Option (Int32 × z_H)} {dk : Nat} (hkr : ∀ {h : z_H} {l0 : Option Nat} {l1 : Int32} {res : (Int32 × z_H)}, kr h l0 l1 = some res → z_Meth G l dk M_X5_readSum [z_r l0, .int l1] h res.2 (some (.int res.1))) (hdk : 20 ≤ dk) {k8 : z_H → Option Nat → Int32 → Int32 → Int32 → Option (Int32 × z_H)} (hk8 : ∀ {h : z_H} {l0 : Option Nat} {l1 : Int32} {l2 : Int32} {l3 : Int32} {res : (Int32 × z_H)}, k8 h l0 l1 l2 l3 = some res → z_Run G l (dk + 2) M_X5_readTerm 8 [(0, z_r l0), (1, .int l1), (2, .int l2), (3, .int l3)] [] h res.2 (some (.int res.1))) {h : z_H} {l0 : Option Nat} {l1 : Int32} {l3 : Int32} {res : (Int32 × z_H)} (e : D_X5_readTerm_46 kr k8 h l0 l1 l3 = some res) : z_Run G l (dk + 2) M_X5_readTerm 46 [(0, z_r l0), (1, .int l1), (3, .int l3)] [] h res.2 (some (.int res.1)) := by
  unfold D_X5_readTerm_46 at e
  refine z_aload_n 0 dX5_readTerm_46 rfl ?_
  refine z_bipush (v := 42) dX5_readTerm_47 (by decide) ?_
  replace e := z_bd e; obtain ⟨o2678, eo2678, e⟩ := e
  replace e := z_bd e; obtain ⟨p2677, ep2677, e⟩ := e
  refine z_cV [.int (42:Int32)] (S_X5_isSign  ep2677) eo2678 rfl ml_X5_94 ck_X5_isSign vk_X5_isSign dX5_readTerm_49 (by omega) rfl (Nat.zero_le _) rfl ?_
  refine z_if_eq (tgt := 60) dX5_readTerm_52 (by decide) (fun c2679 => ?_) (fun c2679 => ?_)
  · rw [if_pos c2679] at e
    refine z_aload_n 0 dX5_readTerm_60 rfl ?_
    refine z_bipush (v := 47) dX5_readTerm_61 (by decide) ?_
    replace e := z_bd e; obtain ⟨o2681, eo2681, e⟩ := e
    replace e := z_bd e; obtain ⟨p2680, ep2680, e⟩ := e
    refine z_cV [.int (47:Int32)] (S_X5_isSign  ep2680) eo2681 rfl ml_X5_94 ck_X5_isSign vk_X5_isSign dX5_readTerm_63 (by omega) rfl (Nat.zero_le _) rfl ?_
    refine z_if_eq (tgt := 74) dX5_readTerm_66 (by decide) (fun c2682 => ?_) (fun c2682 => ?_)
    · rw [if_pos c2682] at e
      refine z_bipush (v := 9) dX5_readTerm_74 (by decide) ?_
      exact z_weak [0, 1, 2] rfl (S_X5_readTerm_76 @hkr hdk @hk8 e)
    · rw [if_neg c2682] at e
      refine z_bipush (v := 8) dX5_readTerm_69 (by decide) ?_
      refine z_goto (tgt := 76) dX5_readTerm_71 (by decide) ?_
      exact z_weak [0, 1, 2] rfl (S_X5_readTerm_76 @hkr hdk @hk8 e)
  · rw [if_neg c2679] at e
    refine z_bipush (v := 7) dX5_readTerm_55 (by decide) ?_
    refine z_goto (tgt := 76) dX5_readTerm_57 (by decide) ?_
    exact z_weak [0, 1, 2] rfl (S_X5_readTerm_76 @hkr hdk @hk8 e)
def D_X5_readTerm_8b (kr : z_H → Option Nat → Int32 → Option (Int32 × z_H)) (k8 : z_H → Option Nat → Int32 → Int32 → Int32 → Option (Int32 × z_H)) (h : z_H) (l0 : Option Nat) (l1 : Int32) (l2 : Int32) (l3 : Int32) : Option (Int32 × z_H) :=
  if (400:Int32) ≤ l3 then
    if l2 = 0 ∨ l2 = 1 then some (l2, h) else none
  else
    if l2 = 0 then
      if l2 = 0 ∨ l2 = 1 then some (l2, h) else none
    else
      (z_ob 5 h l0).bind fun _ =>
      (D_X5_isSign  h l0 (42:Int32)).bind fun p2687 =>
      if p2687.1 = 0 then
        (z_ob 5 p2687.2 l0).bind fun _ =>
        (D_X5_isSign  p2687.2 l0 (47:Int32)).bind fun p2690 =>
        if p2690.1 = 0 then
          (z_ob 5 p2690.2 l0).bind fun _ =>
          (D_X5_isSign  p2690.2 l0 (37:Int32)).bind fun p2693 =>
          if p2693.1 = 0 then
            if l2 = 0 ∨ l2 = 1 then some (l2, p2693.2) else none
          else
            D_X5_readTerm_46 kr k8 p2693.2 l0 l1 l3
        else
          D_X5_readTerm_46 kr k8 p2690.2 l0 l1 l3
      else
        D_X5_readTerm_46 kr k8 p2687.2 l0 l1 l3
def D_X5_readTerm_8 (kr : z_H → Option Nat → Int32 → Option (Int32 × z_H)) (n : Nat) : z_H → Option Nat → Int32 → Int32 → Int32 → Option (Int32 × z_H) := Nat.rec (motive := fun _ => z_H → Option Nat → Int32 → Int32 → Int32 → Option (Int32 × z_H)) (fun _ _ _ _ _ => none) (fun _ k => D_X5_readTerm_8b kr  k) n
set_option maxRecDepth 100000 in
set_option maxHeartbeats 4000000 in
theorem S_X5_readTerm_8 {G : z_G} {l : Launch} {kr : z_H → Option Nat → Int32 → Option (Int32 × z_H)} {dk : Nat} (hkr : ∀ {h : z_H} {l0 : Option Nat} {l1 : Int32} {res : (Int32 × z_H)}, kr h l0 l1 = some res → z_Meth G l dk M_X5_readSum [z_r l0, .int l1] h res.2 (some (.int res.1))) (hdk : 20 ≤ dk)  (n : Nat) : ∀ {h : z_H} {l0 : Option Nat} {l1 : Int32} {l2 : Int32} {l3 : Int32} {res : (Int32 × z_H)}, D_X5_readTerm_8 kr  n h l0 l1 l2 l3 = some res → z_Run G l (dk + 2) M_X5_readTerm 8 [(0, z_r l0), (1, .int l1), (2, .int l2), (3, .int l3)] [] h res.2 (some (.int res.1)) := by
  induction n with
  | zero => intro h l0 l1 l2 l3 res e; cases e
  | succ n hk8 =>
    intro h l0 l1 l2 l3 res e
    replace e : D_X5_readTerm_8b kr  (D_X5_readTerm_8 kr  n) h l0 l1 l2 l3 = some res := e
    unfold D_X5_readTerm_8b at e
    refine z_iload_n 3 dX5_readTerm_8 rfl ?_
    refine z_sipush (v := 400) dX5_readTerm_9 (by decide) ?_
    refine z_icmp_ge (tgt := 104) dX5_readTerm_12 (by decide) (fun c2683 => ?_) (fun c2683 => ?_)
    · rw [if_pos c2683] at e
      refine z_iload_n 2 dX5_readTerm_104 rfl ?_
      replace e := z_ifs e; obtain ⟨c2684, e⟩ := e
      cases e
      exact z_zret dX5_readTerm_105 rfl (z_nz c2684).1
    · rw [if_neg c2683] at e
      refine z_iload_n 2 dX5_readTerm_15 rfl ?_
      refine z_if_eq (tgt := 104) dX5_readTerm_16 (by decide) (fun c2685 => ?_) (fun c2685 => ?_)
      · rw [if_pos c2685] at e
        refine z_iload_n 2 dX5_readTerm_104 rfl ?_
        replace e := z_ifs e; obtain ⟨c2686, e⟩ := e
        cases e
        exact z_zret dX5_readTerm_105 rfl (z_nz c2686).1
      · rw [if_neg c2685] at e
        refine z_aload_n 0 dX5_readTerm_19 rfl ?_
        refine z_bipush (v := 42) dX5_readTerm_20 (by decide) ?_
        replace e := z_bd e; obtain ⟨o2688, eo2688, e⟩ := e
        replace e := z_bd e; obtain ⟨p2687, ep2687, e⟩ := e
        refine z_cV [.int (42:Int32)] (S_X5_isSign  ep2687) eo2688 rfl ml_X5_94 ck_X5_isSign vk_X5_isSign dX5_readTerm_22 (by omega) rfl (Nat.zero_le _) rfl ?_
        refine z_if_ne (tgt := 46) dX5_readTerm_25 (by decide) (fun c2689 => ?_) (fun c2689 => ?_)
        · rw [if_neg c2689] at e
          exact z_weak [0, 1, 3] rfl (S_X5_readTerm_46 @hkr hdk @hk8 e)
        · rw [if_pos c2689] at e
          refine z_aload_n 0 dX5_readTerm_28 rfl ?_
          refine z_bipush (v := 47) dX5_readTerm_29 (by decide) ?_
          replace e := z_bd e; obtain ⟨o2691, eo2691, e⟩ := e
          replace e := z_bd e; obtain ⟨p2690, ep2690, e⟩ := e
          refine z_cV [.int (47:Int32)] (S_X5_isSign  ep2690) eo2691 rfl ml_X5_94 ck_X5_isSign vk_X5_isSign dX5_readTerm_31 (by omega) rfl (Nat.zero_le _) rfl ?_
          refine z_if_ne (tgt := 46) dX5_readTerm_34 (by decide) (fun c2692 => ?_) (fun c2692 => ?_)
          · rw [if_neg c2692] at e
            exact z_weak [0, 1, 3] rfl (S_X5_readTerm_46 @hkr hdk @hk8 e)
          · rw [if_pos c2692] at e
            refine z_aload_n 0 dX5_readTerm_37 rfl ?_
            refine z_bipush (v := 37) dX5_readTerm_38 (by decide) ?_
            replace e := z_bd e; obtain ⟨o2694, eo2694, e⟩ := e
            replace e := z_bd e; obtain ⟨p2693, ep2693, e⟩ := e
            refine z_cV [.int (37:Int32)] (S_X5_isSign  ep2693) eo2694 rfl ml_X5_94 ck_X5_isSign vk_X5_isSign dX5_readTerm_40 (by omega) rfl (Nat.zero_le _) rfl ?_
            refine z_if_eq (tgt := 104) dX5_readTerm_43 (by decide) (fun c2695 => ?_) (fun c2695 => ?_)
            · rw [if_pos c2695] at e
              refine z_iload_n 2 dX5_readTerm_104 rfl ?_
              replace e := z_ifs e; obtain ⟨c2696, e⟩ := e
              cases e
              exact z_zret dX5_readTerm_105 rfl (z_nz c2696).1
            · rw [if_neg c2695] at e
              exact z_weak [0, 1, 3] rfl (S_X5_readTerm_46 @hkr hdk @hk8 e)
def D_X5_readTerm (kr : z_H → Option Nat → Int32 → Option (Int32 × z_H)) (h : z_H) (l0 : Option Nat) (l1 : Int32) : Option (Int32 × z_H) :=
  (z_ob 5 h l0).bind fun _ =>
  (D_X5_readPart kr h l0 l1).bind fun p2697 =>
  D_X5_readTerm_8 kr  z_F p2697.2 l0 l1 p2697.1 (0:Int32)
set_option maxRecDepth 100000 in
set_option maxHeartbeats 4000000 in
theorem S_X5_readTerm {G : z_G} {l : Launch} {kr : z_H → Option Nat → Int32 → Option (Int32 × z_H)} {dk : Nat} (hkr : ∀ {h : z_H} {l0 : Option Nat} {l1 : Int32} {res : (Int32 × z_H)}, kr h l0 l1 = some res → z_Meth G l dk M_X5_readSum [z_r l0, .int l1] h res.2 (some (.int res.1))) (hdk : 20 ≤ dk) {h : z_H} {l0 : Option Nat} {l1 : Int32} {res : (Int32 × z_H)} (e : D_X5_readTerm kr h l0 l1 = some res) : z_Meth G l (dk + 2) M_X5_readTerm [z_r l0, .int l1] h res.2 (some (.int res.1)) := by
  refine z_Meth.of ck_X5_readTerm.2.2.2.2 (by simp [lg_sl, z_ci, z_cj, z_cr, z_cx]) ck_X5_readTerm.1 ?_
  rw [show lv_args 0 [z_r l0, .int l1] = [(0, z_r l0), (1, .int l1)] from by simp [lv_args, z_ci, z_cj, z_cr, z_cx]]
  unfold D_X5_readTerm at e
  refine z_aload_n 0 dX5_readTerm_0 rfl ?_
  refine z_iload_n 1 dX5_readTerm_1 rfl ?_
  replace e := z_bd e; obtain ⟨o2698, eo2698, e⟩ := e
  replace e := z_bd e; obtain ⟨p2697, ep2697, e⟩ := e
  refine z_cV [.int l1] (S_X5_readPart @hkr hdk ep2697) eo2698 rfl ml_X5_156 ck_X5_readPart vk_X5_readPart dX5_readTerm_2 (by omega) rfl (Nat.zero_le _) rfl ?_
  refine z_istore_n (L' := [(2, .int p2697.1), (0, z_r l0), (1, .int l1)]) dX5_readTerm_5 rfl (by decide) rfl ?_
  refine z_iconst (v := 0) dX5_readTerm_6 (by decide) ?_
  refine z_istore_n (L' := [(3, .int (0:Int32)), (2, .int p2697.1), (0, z_r l0), (1, .int l1)]) dX5_readTerm_7 rfl (by decide) rfl ?_
  exact z_weak [2, 3, 1, 0] rfl (S_X5_readTerm_8 @hkr hdk  z_F e)
theorem dX5_readSum_0 : decode cX5_readSum 0 = .ok (.aload_n 0, 1) := by decide +kernel
theorem dX5_readSum_1 : decode cX5_readSum 1 = .ok (.iload_n 1, 1) := by decide +kernel
theorem dX5_readSum_2 : decode cX5_readSum 2 = .ok (.invokevirtual 153, 3) := by decide +kernel
theorem dX5_readSum_5 : decode cX5_readSum 5 = .ok (.istore_n 2, 1) := by decide +kernel
theorem dX5_readSum_6 : decode cX5_readSum 6 = .ok (.iconst 0, 1) := by decide +kernel
theorem dX5_readSum_7 : decode cX5_readSum 7 = .ok (.istore_n 3, 1) := by decide +kernel
theorem dX5_readSum_8 : decode cX5_readSum 8 = .ok (.iload_n 3, 1) := by decide +kernel
theorem dX5_readSum_9 : decode cX5_readSum 9 = .ok (.sipush 400, 3) := by decide +kernel
theorem dX5_readSum_12 : decode cX5_readSum 12 = .ok (.if_icmp .ge 68, 3) := by decide +kernel
theorem dX5_readSum_15 : decode cX5_readSum 15 = .ok (.iload_n 2, 1) := by decide +kernel
theorem dX5_readSum_16 : decode cX5_readSum 16 = .ok (.ifCond .eq 64, 3) := by decide +kernel
theorem dX5_readSum_19 : decode cX5_readSum 19 = .ok (.aload_n 0, 1) := by decide +kernel
theorem dX5_readSum_20 : decode cX5_readSum 20 = .ok (.bipush 43, 2) := by decide +kernel
theorem dX5_readSum_22 : decode cX5_readSum 22 = .ok (.invokevirtual 94, 3) := by decide +kernel
theorem dX5_readSum_25 : decode cX5_readSum 25 = .ok (.ifCond .ne 12, 3) := by decide +kernel
theorem dX5_readSum_28 : decode cX5_readSum 28 = .ok (.aload_n 0, 1) := by decide +kernel
theorem dX5_readSum_29 : decode cX5_readSum 29 = .ok (.bipush 45, 2) := by decide +kernel
theorem dX5_readSum_31 : decode cX5_readSum 31 = .ok (.invokevirtual 94, 3) := by decide +kernel
theorem dX5_readSum_34 : decode cX5_readSum 34 = .ok (.ifCond .eq 46, 3) := by decide +kernel
theorem dX5_readSum_37 : decode cX5_readSum 37 = .ok (.aload_n 0, 1) := by decide +kernel
theorem dX5_readSum_38 : decode cX5_readSum 38 = .ok (.bipush 43, 2) := by decide +kernel
theorem dX5_readSum_40 : decode cX5_readSum 40 = .ok (.invokevirtual 94, 3) := by decide +kernel
theorem dX5_readSum_43 : decode cX5_readSum 43 = .ok (.ifCond .eq 7, 3) := by decide +kernel
theorem dX5_readSum_46 : decode cX5_readSum 46 = .ok (.iconst 5, 1) := by decide +kernel
theorem dX5_readSum_47 : decode cX5_readSum 47 = .ok (.goto 5, 3) := by decide +kernel
theorem dX5_readSum_50 : decode cX5_readSum 50 = .ok (.bipush 6, 2) := by decide +kernel
theorem dX5_readSum_52 : decode cX5_readSum 52 = .ok (.istore 4, 2) := by decide +kernel
theorem dX5_readSum_54 : decode cX5_readSum 54 = .ok (.aload_n 0, 1) := by decide +kernel
theorem dX5_readSum_55 : decode cX5_readSum 55 = .ok (.invokevirtual 53, 3) := by decide +kernel
theorem dX5_readSum_58 : decode cX5_readSum 58 = .ok (.aload_n 0, 1) := by decide +kernel
theorem dX5_readSum_59 : decode cX5_readSum 59 = .ok (.iload_n 1, 1) := by decide +kernel
theorem dX5_readSum_60 : decode cX5_readSum 60 = .ok (.invokevirtual 153, 3) := by decide +kernel
theorem dX5_readSum_63 : decode cX5_readSum 63 = .ok (.istore_n 2, 1) := by decide +kernel
theorem dX5_readSum_64 : decode cX5_readSum 64 = .ok (.aload_n 0, 1) := by decide +kernel
theorem dX5_readSum_65 : decode cX5_readSum 65 = .ok (.getfield 20, 3) := by decide +kernel
theorem dX5_readSum_68 : decode cX5_readSum 68 = .ok (.iload 4, 2) := by decide +kernel
theorem dX5_readSum_70 : decode cX5_readSum 70 = .ok (.iconst 0, 1) := by decide +kernel
theorem dX5_readSum_71 : decode cX5_readSum 71 = .ok (.invokevirtual 139, 3) := by decide +kernel
theorem dX5_readSum_74 : decode cX5_readSum 74 = .ok (.iinc 3 1, 3) := by decide +kernel
theorem dX5_readSum_77 : decode cX5_readSum 77 = .ok (.goto (-69), 3) := by decide +kernel
theorem dX5_readSum_80 : decode cX5_readSum 80 = .ok (.iload_n 2, 1) := by decide +kernel
theorem dX5_readSum_81 : decode cX5_readSum 81 = .ok (.ireturn, 1) := by decide +kernel
def D_X5_readSumB_52 (kr : z_H → Option Nat → Int32 → Option (Int32 × z_H)) (k8 : z_H → Option Nat → Int32 → Int32 → Int32 → Option (Int32 × z_H)) (h : z_H) (l0 : Option Nat) (l1 : Int32) (l3 : Int32) (s0 : Int32) : Option (Int32 × z_H) :=
  (z_ob 5 h l0).bind fun _ =>
  (D_X5_advance  h l0).bind fun p2699 =>
  (z_ob 5 p2699 l0).bind fun _ =>
  (D_X5_readTerm kr p2699 l0 l1).bind fun p2701 =>
  (z_gQ 5 p2701.2 l0 1).bind fun x2703 =>
  (z_ob 7 p2701.2 x2703).bind fun _ =>
  (D_X7_emit  p2701.2 x2703 s0 (0:Int32)).bind fun p2704 =>
  (some (l3 + (1:Int32))).bind fun x2706 =>
  k8 p2704 l0 l1 p2701.1 x2706
set_option maxRecDepth 100000 in
set_option maxHeartbeats 4000000 in
theorem S_X5_readSumB_52 {G : z_G} {l : Launch} {kr : z_H → Option Nat → Int32 → Option (Int32 × z_H)} {dk : Nat} (hkr : ∀ {h : z_H} {l0 : Option Nat} {l1 : Int32} {res : (Int32 × z_H)}, kr h l0 l1 = some res → z_Meth G l dk M_X5_readSum [z_r l0, .int l1] h res.2 (some (.int res.1))) (hdk : 20 ≤ dk) {k8 : z_H → Option Nat → Int32 → Int32 → Int32 → Option (Int32 × z_H)} (hk8 : ∀ {h : z_H} {l0 : Option Nat} {l1 : Int32} {l2 : Int32} {l3 : Int32} {res : (Int32 × z_H)}, k8 h l0 l1 l2 l3 = some res → z_Run G l (dk + 3) M_X5_readSum 8 [(0, z_r l0), (1, .int l1), (2, .int l2), (3, .int l3)] [] h res.2 (some (.int res.1))) {h : z_H} {l0 : Option Nat} {l1 : Int32} {l3 : Int32} {s0 : Int32} {res : (Int32 × z_H)} (e : D_X5_readSumB_52 kr k8 h l0 l1 l3 s0 = some res) : z_Run G l (dk + 3) M_X5_readSum 52 [(0, z_r l0), (1, .int l1), (3, .int l3)] [.int s0] h res.2 (some (.int res.1)) := by
  unfold D_X5_readSumB_52 at e
  refine z_istore (L' := [(4, .int s0), (0, z_r l0), (1, .int l1), (3, .int l3)]) dX5_readSum_52 (by decide) rfl ?_
  refine z_aload_n 1 dX5_readSum_54 rfl ?_
  replace e := z_bd e; obtain ⟨o2700, eo2700, e⟩ := e
  replace e := z_bd e; obtain ⟨p2699, ep2699, e⟩ := e
  refine z_cV [] (S_X5_advance  ep2699) eo2700 rfl ml_X5_53 ck_X5_advance vk_X5_advance dX5_readSum_55 (by omega) rfl (Nat.zero_le _) rfl ?_
  refine z_aload_n 1 dX5_readSum_58 rfl ?_
  refine z_iload_n 2 dX5_readSum_59 rfl ?_
  replace e := z_bd e; obtain ⟨o2702, eo2702, e⟩ := e
  replace e := z_bd e; obtain ⟨p2701, ep2701, e⟩ := e
  refine z_cV [.int l1] (S_X5_readTerm @hkr hdk ep2701) eo2702 rfl ml_X5_153 ck_X5_readTerm vk_X5_readTerm dX5_readSum_60 (by omega) rfl (Nat.zero_le _) rfl ?_
  refine z_istore_n (L' := [(2, .int p2701.1), (4, .int s0), (0, z_r l0), (1, .int l1), (3, .int l3)]) dX5_readSum_63 rfl (by decide) rfl ?_
  refine z_aload_n 2 dX5_readSum_64 rfl ?_
  replace e := z_bd e; obtain ⟨x2703, ex2703, e⟩ := e
  refine z_getQ ex2703 lk_X5_20 dX5_readSum_65 ?_
  refine z_iload 1 dX5_readSum_68 rfl ?_
  refine z_iconst (v := 0) dX5_readSum_70 (by decide) ?_
  replace e := z_bd e; obtain ⟨o2705, eo2705, e⟩ := e
  replace e := z_bd e; obtain ⟨p2704, ep2704, e⟩ := e
  refine z_cV [.int s0, .int (0:Int32)] (S_X7_emit  ep2704) eo2705 rfl ml_X5_139 ck_X7_emit vk_X7_emit dX5_readSum_71 (by omega) rfl (Nat.zero_le _) rfl ?_
  replace e := z_bd e; obtain ⟨x2706, ex2706, e⟩ := e
  refine z_iinc (q := 4) (v := x2706) (L' := [(3, .int x2706), (2, .int p2701.1), (4, .int s0), (0, z_r l0), (1, .int l1)]) dX5_readSum_74 rfl (Option.some.inj ex2706) (by decide) rfl ?_
  refine z_goto (tgt := 8) dX5_readSum_77 (by decide) ?_
  exact z_weak [3, 4, 1, 0] rfl (hk8 e)
def D_X5_readSumB_37 (kr : z_H → Option Nat → Int32 → Option (Int32 × z_H)) (k8 : z_H → Option Nat → Int32 → Int32 → Int32 → Option (Int32 × z_H)) (h : z_H) (l0 : Option Nat) (l1 : Int32) (l3 : Int32) : Option (Int32 × z_H) :=
  (z_ob 5 h l0).bind fun _ =>
  (D_X5_isSign  h l0 (43:Int32)).bind fun p2707 =>
  if p2707.1 = 0 then
    D_X5_readSumB_52 kr k8 p2707.2 l0 l1 l3 (6:Int32)
  else
    D_X5_readSumB_52 kr k8 p2707.2 l0 l1 l3 (5:Int32)
set_option maxRecDepth 100000 in
set_option maxHeartbeats 4000000 in
theorem S_X5_readSumB_37 {G : z_G} {l : Launch} {kr : z_H → Option Nat → Int32 → Option (Int32 × z_H)} {dk : Nat} (hkr : ∀ {h : z_H} {l0 : Option Nat} {l1 : Int32} {res : (Int32 × z_H)}, kr h l0 l1 = some res → z_Meth G l dk M_X5_readSum [z_r l0, .int l1] h res.2 (some (.int res.1))) (hdk : 20 ≤ dk) {k8 : z_H → Option Nat → Int32 → Int32 → Int32 → Option (Int32 × z_H)} (hk8 : ∀ {h : z_H} {l0 : Option Nat} {l1 : Int32} {l2 : Int32} {l3 : Int32} {res : (Int32 × z_H)}, k8 h l0 l1 l2 l3 = some res → z_Run G l (dk + 3) M_X5_readSum 8 [(0, z_r l0), (1, .int l1), (2, .int l2), (3, .int l3)] [] h res.2 (some (.int res.1))) {h : z_H} {l0 : Option Nat} {l1 : Int32} {l3 : Int32} {res : (Int32 × z_H)} (e : D_X5_readSumB_37 kr k8 h l0 l1 l3 = some res) : z_Run G l (dk + 3) M_X5_readSum 37 [(0, z_r l0), (1, .int l1), (3, .int l3)] [] h res.2 (some (.int res.1)) := by
  unfold D_X5_readSumB_37 at e
  refine z_aload_n 0 dX5_readSum_37 rfl ?_
  refine z_bipush (v := 43) dX5_readSum_38 (by decide) ?_
  replace e := z_bd e; obtain ⟨o2708, eo2708, e⟩ := e
  replace e := z_bd e; obtain ⟨p2707, ep2707, e⟩ := e
  refine z_cV [.int (43:Int32)] (S_X5_isSign  ep2707) eo2708 rfl ml_X5_94 ck_X5_isSign vk_X5_isSign dX5_readSum_40 (by omega) rfl (Nat.zero_le _) rfl ?_
  refine z_if_eq (tgt := 50) dX5_readSum_43 (by decide) (fun c2709 => ?_) (fun c2709 => ?_)
  · rw [if_pos c2709] at e
    refine z_bipush (v := 6) dX5_readSum_50 (by decide) ?_
    exact z_weak [0, 1, 2] rfl (S_X5_readSumB_52 @hkr hdk @hk8 e)
  · rw [if_neg c2709] at e
    refine z_iconst (v := 5) dX5_readSum_46 (by decide) ?_
    refine z_goto (tgt := 52) dX5_readSum_47 (by decide) ?_
    exact z_weak [0, 1, 2] rfl (S_X5_readSumB_52 @hkr hdk @hk8 e)
def D_X5_readSumB_8b (kr : z_H → Option Nat → Int32 → Option (Int32 × z_H)) (k8 : z_H → Option Nat → Int32 → Int32 → Int32 → Option (Int32 × z_H)) (h : z_H) (l0 : Option Nat) (l1 : Int32) (l2 : Int32) (l3 : Int32) : Option (Int32 × z_H) :=
  if (400:Int32) ≤ l3 then
    if l2 = 0 ∨ l2 = 1 then some (l2, h) else none
  else
    if l2 = 0 then
      if l2 = 0 ∨ l2 = 1 then some (l2, h) else none
    else
      (z_ob 5 h l0).bind fun _ =>
      (D_X5_isSign  h l0 (43:Int32)).bind fun p2714 =>
      if p2714.1 = 0 then
        (z_ob 5 p2714.2 l0).bind fun _ =>
        (D_X5_isSign  p2714.2 l0 (45:Int32)).bind fun p2717 =>
        if p2717.1 = 0 then
          if l2 = 0 ∨ l2 = 1 then some (l2, p2717.2) else none
        else
          D_X5_readSumB_37 kr k8 p2717.2 l0 l1 l3
      else
        D_X5_readSumB_37 kr k8 p2714.2 l0 l1 l3
def D_X5_readSumB_8 (kr : z_H → Option Nat → Int32 → Option (Int32 × z_H)) (n : Nat) : z_H → Option Nat → Int32 → Int32 → Int32 → Option (Int32 × z_H) := Nat.rec (motive := fun _ => z_H → Option Nat → Int32 → Int32 → Int32 → Option (Int32 × z_H)) (fun _ _ _ _ _ => none) (fun _ k => D_X5_readSumB_8b kr  k) n
set_option maxRecDepth 100000 in
set_option maxHeartbeats 4000000 in
theorem S_X5_readSumB_8 {G : z_G} {l : Launch} {kr : z_H → Option Nat → Int32 → Option (Int32 × z_H)} {dk : Nat} (hkr : ∀ {h : z_H} {l0 : Option Nat} {l1 : Int32} {res : (Int32 × z_H)}, kr h l0 l1 = some res → z_Meth G l dk M_X5_readSum [z_r l0, .int l1] h res.2 (some (.int res.1))) (hdk : 20 ≤ dk)  (n : Nat) : ∀ {h : z_H} {l0 : Option Nat} {l1 : Int32} {l2 : Int32} {l3 : Int32} {res : (Int32 × z_H)}, D_X5_readSumB_8 kr  n h l0 l1 l2 l3 = some res → z_Run G l (dk + 3) M_X5_readSum 8 [(0, z_r l0), (1, .int l1), (2, .int l2), (3, .int l3)] [] h res.2 (some (.int res.1)) := by
  induction n with
  | zero => intro h l0 l1 l2 l3 res e; cases e
  | succ n hk8 =>
    intro h l0 l1 l2 l3 res e
    replace e : D_X5_readSumB_8b kr  (D_X5_readSumB_8 kr  n) h l0 l1 l2 l3 = some res := e
    unfold D_X5_readSumB_8b at e
    refine z_iload_n 3 dX5_readSum_8 rfl ?_
    refine z_sipush (v := 400) dX5_readSum_9 (by decide) ?_
    refine z_icmp_ge (tgt := 80) dX5_readSum_12 (by decide) (fun c2710 => ?_) (fun c2710 => ?_)
    · rw [if_pos c2710] at e
      refine z_iload_n 2 dX5_readSum_80 rfl ?_
      replace e := z_ifs e; obtain ⟨c2711, e⟩ := e
      cases e
      exact z_zret dX5_readSum_81 rfl (z_nz c2711).1
    · rw [if_neg c2710] at e
      refine z_iload_n 2 dX5_readSum_15 rfl ?_
      refine z_if_eq (tgt := 80) dX5_readSum_16 (by decide) (fun c2712 => ?_) (fun c2712 => ?_)
      · rw [if_pos c2712] at e
        refine z_iload_n 2 dX5_readSum_80 rfl ?_
        replace e := z_ifs e; obtain ⟨c2713, e⟩ := e
        cases e
        exact z_zret dX5_readSum_81 rfl (z_nz c2713).1
      · rw [if_neg c2712] at e
        refine z_aload_n 0 dX5_readSum_19 rfl ?_
        refine z_bipush (v := 43) dX5_readSum_20 (by decide) ?_
        replace e := z_bd e; obtain ⟨o2715, eo2715, e⟩ := e
        replace e := z_bd e; obtain ⟨p2714, ep2714, e⟩ := e
        refine z_cV [.int (43:Int32)] (S_X5_isSign  ep2714) eo2715 rfl ml_X5_94 ck_X5_isSign vk_X5_isSign dX5_readSum_22 (by omega) rfl (Nat.zero_le _) rfl ?_
        refine z_if_ne (tgt := 37) dX5_readSum_25 (by decide) (fun c2716 => ?_) (fun c2716 => ?_)
        · rw [if_neg c2716] at e
          exact z_weak [0, 1, 3] rfl (S_X5_readSumB_37 @hkr hdk @hk8 e)
        · rw [if_pos c2716] at e
          refine z_aload_n 0 dX5_readSum_28 rfl ?_
          refine z_bipush (v := 45) dX5_readSum_29 (by decide) ?_
          replace e := z_bd e; obtain ⟨o2718, eo2718, e⟩ := e
          replace e := z_bd e; obtain ⟨p2717, ep2717, e⟩ := e
          refine z_cV [.int (45:Int32)] (S_X5_isSign  ep2717) eo2718 rfl ml_X5_94 ck_X5_isSign vk_X5_isSign dX5_readSum_31 (by omega) rfl (Nat.zero_le _) rfl ?_
          refine z_if_eq (tgt := 80) dX5_readSum_34 (by decide) (fun c2719 => ?_) (fun c2719 => ?_)
          · rw [if_pos c2719] at e
            refine z_iload_n 2 dX5_readSum_80 rfl ?_
            replace e := z_ifs e; obtain ⟨c2720, e⟩ := e
            cases e
            exact z_zret dX5_readSum_81 rfl (z_nz c2720).1
          · rw [if_neg c2719] at e
            exact z_weak [0, 1, 3] rfl (S_X5_readSumB_37 @hkr hdk @hk8 e)
def D_X5_readSumB (kr : z_H → Option Nat → Int32 → Option (Int32 × z_H)) (h : z_H) (l0 : Option Nat) (l1 : Int32) : Option (Int32 × z_H) :=
  (z_ob 5 h l0).bind fun _ =>
  (D_X5_readTerm kr h l0 l1).bind fun p2721 =>
  D_X5_readSumB_8 kr  z_F p2721.2 l0 l1 p2721.1 (0:Int32)
set_option maxRecDepth 100000 in
set_option maxHeartbeats 4000000 in
theorem S_X5_readSumB {G : z_G} {l : Launch} {kr : z_H → Option Nat → Int32 → Option (Int32 × z_H)} {dk : Nat} (hkr : ∀ {h : z_H} {l0 : Option Nat} {l1 : Int32} {res : (Int32 × z_H)}, kr h l0 l1 = some res → z_Meth G l dk M_X5_readSum [z_r l0, .int l1] h res.2 (some (.int res.1))) (hdk : 20 ≤ dk) {h : z_H} {l0 : Option Nat} {l1 : Int32} {res : (Int32 × z_H)} (e : D_X5_readSumB kr h l0 l1 = some res) : z_Meth G l (dk + 3) M_X5_readSum [z_r l0, .int l1] h res.2 (some (.int res.1)) := by
  refine z_Meth.of ck_X5_readSum.2.2.2.2 (by simp [lg_sl, z_ci, z_cj, z_cr, z_cx]) ck_X5_readSum.1 ?_
  rw [show lv_args 0 [z_r l0, .int l1] = [(0, z_r l0), (1, .int l1)] from by simp [lv_args, z_ci, z_cj, z_cr, z_cx]]
  unfold D_X5_readSumB at e
  refine z_aload_n 0 dX5_readSum_0 rfl ?_
  refine z_iload_n 1 dX5_readSum_1 rfl ?_
  replace e := z_bd e; obtain ⟨o2722, eo2722, e⟩ := e
  replace e := z_bd e; obtain ⟨p2721, ep2721, e⟩ := e
  refine z_cV [.int l1] (S_X5_readTerm @hkr hdk ep2721) eo2722 rfl ml_X5_153 ck_X5_readTerm vk_X5_readTerm dX5_readSum_2 (by omega) rfl (Nat.zero_le _) rfl ?_
  refine z_istore_n (L' := [(2, .int p2721.1), (0, z_r l0), (1, .int l1)]) dX5_readSum_5 rfl (by decide) rfl ?_
  refine z_iconst (v := 0) dX5_readSum_6 (by decide) ?_
  refine z_istore_n (L' := [(3, .int (0:Int32)), (2, .int p2721.1), (0, z_r l0), (1, .int l1)]) dX5_readSum_7 rfl (by decide) rfl ?_
  exact z_weak [2, 3, 1, 0] rfl (S_X5_readSumB_8 @hkr hdk  z_F e)
def D_X5_readSum (n : Nat) : z_H → Option Nat → Int32 → Option (Int32 × z_H) := Nat.rec (motive := fun _ => z_H → Option Nat → Int32 → Option (Int32 × z_H)) (fun _ _ _ => none) (fun _ k => D_X5_readSumB k) n
set_option maxRecDepth 100000 in
set_option maxHeartbeats 4000000 in
theorem S_X5_readSum {G : z_G} {l : Launch} (n : Nat) : ∀ {h : z_H} {l0 : Option Nat} {l1 : Int32} {res : (Int32 × z_H)}, D_X5_readSum n h l0 l1 = some res → z_Meth G l (20 + n * 3) M_X5_readSum [z_r l0, .int l1] h res.2 (some (.int res.1)) := by
  induction n with
  | zero => intro h l0 l1 res e; cases e
  | succ n ih =>
    intro h l0 l1 res e
    rw [show 20 + (n + 1) * 3 = (20 + n * 3) + 3 by omega]
    exact S_X5_readSumB (kr := D_X5_readSum n) (dk := 20 + n * 3) @ih (Nat.le_add_right _ _) e
theorem dX5_isWord_0 : decode cX5_isWord 0 = .ok (.aload_n 0, 1) := by decide +kernel
theorem dX5_isWord_1 : decode cX5_isWord 1 = .ok (.aload_n 1, 1) := by decide +kernel
theorem dX5_isWord_2 : decode cX5_isWord 2 = .ok (.invokevirtual 90, 3) := by decide +kernel
theorem dX5_isWord_5 : decode cX5_isWord 5 = .ok (.ifCond .ne 7, 3) := by decide +kernel
theorem dX5_isWord_8 : decode cX5_isWord 8 = .ok (.iconst 1, 1) := by decide +kernel
theorem dX5_isWord_9 : decode cX5_isWord 9 = .ok (.goto 4, 3) := by decide +kernel
theorem dX5_isWord_12 : decode cX5_isWord 12 = .ok (.iconst 0, 1) := by decide +kernel
theorem dX5_isWord_13 : decode cX5_isWord 13 = .ok (.ireturn, 1) := by decide +kernel
def D_X5_isWord (h : z_H) (l0 : Option Nat) (l1 : Nat) : Option (Int32 × z_H) :=
  (z_ob 5 h l0).bind fun _ =>
  (D_X5_among  h l0 l1).bind fun p2723 =>
  if p2723.1 = 0 then
    some ((1:Int32), p2723.2)
  else
    some ((0:Int32), p2723.2)
set_option maxRecDepth 100000 in
set_option maxHeartbeats 4000000 in
theorem S_X5_isWord {G : z_G} {l : Launch} {h : z_H} {l0 : Option Nat} {l1 : Nat} {res : (Int32 × z_H)} (e : D_X5_isWord h l0 l1 = some res) : z_Meth G l 10 M_X5_isWord [z_r l0, .retAddr l1] h res.2 (some (.int res.1)) := by
  refine z_Meth.of ck_X5_isWord.2.2.2.2 (by simp [lg_sl, z_ci, z_cj, z_cr, z_cx]) ck_X5_isWord.1 ?_
  rw [show lv_args 0 [z_r l0, .retAddr l1] = [(0, z_r l0), (1, .retAddr l1)] from by simp [lv_args, z_ci, z_cj, z_cr, z_cx]]
  unfold D_X5_isWord at e
  refine z_aload_n 0 dX5_isWord_0 rfl ?_
  refine z_xload_n 1 dX5_isWord_1 rfl ?_
  replace e := z_bd e; obtain ⟨o2724, eo2724, e⟩ := e
  replace e := z_bd e; obtain ⟨p2723, ep2723, e⟩ := e
  refine z_cV [.retAddr l1] (S_X5_among  ep2723) eo2724 rfl ml_X5_90 ck_X5_among vk_X5_among dX5_isWord_2 (by decide) rfl (Nat.zero_le _) rfl ?_
  refine z_if_ne (tgt := 12) dX5_isWord_5 (by decide) (fun c2725 => ?_) (fun c2725 => ?_)
  · rw [if_neg c2725] at e
    refine z_iconst (v := 0) dX5_isWord_12 (by decide) ?_
    cases e
    exact z_zret dX5_isWord_13 rfl (by decide)
  · rw [if_pos c2725] at e
    refine z_iconst (v := 1) dX5_isWord_8 (by decide) ?_
    refine z_goto (tgt := 13) dX5_isWord_9 (by decide) ?_
    cases e
    exact z_zret dX5_isWord_13 rfl (by decide)
theorem dX5_skipWord_0 : decode cX5_skipWord 0 = .ok (.aload_n 0, 1) := by decide +kernel
theorem dX5_skipWord_1 : decode cX5_skipWord 1 = .ok (.aload_n 1, 1) := by decide +kernel
theorem dX5_skipWord_2 : decode cX5_skipWord 2 = .ok (.invokevirtual 97, 3) := by decide +kernel
theorem dX5_skipWord_5 : decode cX5_skipWord 5 = .ok (.ifCond .ne 8, 3) := by decide +kernel
theorem dX5_skipWord_8 : decode cX5_skipWord 8 = .ok (.aload_n 0, 1) := by decide +kernel
theorem dX5_skipWord_9 : decode cX5_skipWord 9 = .ok (.invokevirtual 67, 3) := by decide +kernel
theorem dX5_skipWord_12 : decode cX5_skipWord 12 = .ok (.ireturn, 1) := by decide +kernel
theorem dX5_skipWord_13 : decode cX5_skipWord 13 = .ok (.aload_n 0, 1) := by decide +kernel
theorem dX5_skipWord_14 : decode cX5_skipWord 14 = .ok (.invokevirtual 53, 3) := by decide +kernel
theorem dX5_skipWord_17 : decode cX5_skipWord 17 = .ok (.iconst 1, 1) := by decide +kernel
theorem dX5_skipWord_18 : decode cX5_skipWord 18 = .ok (.ireturn, 1) := by decide +kernel
def D_X5_skipWord (h : z_H) (l0 : Option Nat) (l1 : Nat) : Option (Int32 × z_H) :=
  (z_ob 5 h l0).bind fun _ =>
  (D_X5_isWord  h l0 l1).bind fun p2726 =>
  if p2726.1 = 0 then
    (z_ob 5 p2726.2 l0).bind fun _ =>
    (D_X5_failHere  p2726.2 l0).bind fun p2731 =>
    if p2731.1 = 0 ∨ p2731.1 = 1 then some (p2731.1, p2731.2) else none
  else
    (z_ob 5 p2726.2 l0).bind fun _ =>
    (D_X5_advance  p2726.2 l0).bind fun p2729 =>
    some ((1:Int32), p2729)
set_option maxRecDepth 100000 in
set_option maxHeartbeats 4000000 in
theorem S_X5_skipWord {G : z_G} {l : Launch} {h : z_H} {l0 : Option Nat} {l1 : Nat} {res : (Int32 × z_H)} (e : D_X5_skipWord h l0 l1 = some res) : z_Meth G l 11 M_X5_skipWord [z_r l0, .retAddr l1] h res.2 (some (.int res.1)) := by
  refine z_Meth.of ck_X5_skipWord.2.2.2.2 (by simp [lg_sl, z_ci, z_cj, z_cr, z_cx]) ck_X5_skipWord.1 ?_
  rw [show lv_args 0 [z_r l0, .retAddr l1] = [(0, z_r l0), (1, .retAddr l1)] from by simp [lv_args, z_ci, z_cj, z_cr, z_cx]]
  unfold D_X5_skipWord at e
  refine z_aload_n 0 dX5_skipWord_0 rfl ?_
  refine z_xload_n 1 dX5_skipWord_1 rfl ?_
  replace e := z_bd e; obtain ⟨o2727, eo2727, e⟩ := e
  replace e := z_bd e; obtain ⟨p2726, ep2726, e⟩ := e
  refine z_cV [.retAddr l1] (S_X5_isWord  ep2726) eo2727 rfl ml_X5_97 ck_X5_isWord vk_X5_isWord dX5_skipWord_2 (by decide) rfl (Nat.zero_le _) rfl ?_
  refine z_if_ne (tgt := 13) dX5_skipWord_5 (by decide) (fun c2728 => ?_) (fun c2728 => ?_)
  · rw [if_neg c2728] at e
    refine z_aload_n 0 dX5_skipWord_13 rfl ?_
    replace e := z_bd e; obtain ⟨o2730, eo2730, e⟩ := e
    replace e := z_bd e; obtain ⟨p2729, ep2729, e⟩ := e
    refine z_cV [] (S_X5_advance  ep2729) eo2730 rfl ml_X5_53 ck_X5_advance vk_X5_advance dX5_skipWord_14 (by decide) rfl (Nat.zero_le _) rfl ?_
    refine z_iconst (v := 1) dX5_skipWord_17 (by decide) ?_
    cases e
    exact z_zret dX5_skipWord_18 rfl (by decide)
  · rw [if_pos c2728] at e
    refine z_aload_n 0 dX5_skipWord_8 rfl ?_
    replace e := z_bd e; obtain ⟨o2732, eo2732, e⟩ := e
    replace e := z_bd e; obtain ⟨p2731, ep2731, e⟩ := e
    refine z_cV [] (S_X5_failHere  ep2731) eo2732 rfl ml_X5_67 ck_X5_failHere vk_X5_failHere dX5_skipWord_9 (by decide) rfl (Nat.zero_le _) rfl ?_
    replace e := z_ifs e; obtain ⟨c2733, e⟩ := e
    cases e
    exact z_zret dX5_skipWord_12 rfl (z_nz c2733).1
theorem dX5_readTimes_0 : decode cX5_readTimes 0 = .ok (.aload_n 0, 1) := by decide +kernel
theorem dX5_readTimes_1 : decode cX5_readTimes 1 = .ok (.invokevirtual 53, 3) := by decide +kernel
theorem dX5_readTimes_4 : decode cX5_readTimes 4 = .ok (.aload_n 0, 1) := by decide +kernel
theorem dX5_readTimes_5 : decode cX5_readTimes 5 = .ok (.getfield 41, 3) := by decide +kernel
theorem dX5_readTimes_8 : decode cX5_readTimes 8 = .ok (.iconst 1, 1) := by decide +kernel
theorem dX5_readTimes_9 : decode cX5_readTimes 9 = .ok (.if_icmp .ne 20, 3) := by decide +kernel
theorem dX5_readTimes_12 : decode cX5_readTimes 12 = .ok (.aload_n 0, 1) := by decide +kernel
theorem dX5_readTimes_13 : decode cX5_readTimes 13 = .ok (.getfield 44, 3) := by decide +kernel
theorem dX5_readTimes_16 : decode cX5_readTimes 16 = .ok (.iconst 1, 1) := by decide +kernel
theorem dX5_readTimes_17 : decode cX5_readTimes 17 = .ok (.if_icmp .lt 12, 3) := by decide +kernel
theorem dX5_readTimes_20 : decode cX5_readTimes 20 = .ok (.aload_n 0, 1) := by decide +kernel
theorem dX5_readTimes_21 : decode cX5_readTimes 21 = .ok (.getfield 44, 3) := by decide +kernel
theorem dX5_readTimes_24 : decode cX5_readTimes 24 = .ok (.bipush 20, 2) := by decide +kernel
theorem dX5_readTimes_26 : decode cX5_readTimes 26 = .ok (.if_icmp .le 8, 3) := by decide +kernel
theorem dX5_readTimes_29 : decode cX5_readTimes 29 = .ok (.aload_n 0, 1) := by decide +kernel
theorem dX5_readTimes_30 : decode cX5_readTimes 30 = .ok (.invokevirtual 67, 3) := by decide +kernel
theorem dX5_readTimes_33 : decode cX5_readTimes 33 = .ok (.ireturn, 1) := by decide +kernel
theorem dX5_readTimes_34 : decode cX5_readTimes 34 = .ok (.aload_n 0, 1) := by decide +kernel
theorem dX5_readTimes_35 : decode cX5_readTimes 35 = .ok (.getfield 20, 3) := by decide +kernel
theorem dX5_readTimes_38 : decode cX5_readTimes 38 = .ok (.iload_n 1, 1) := by decide +kernel
theorem dX5_readTimes_39 : decode cX5_readTimes 39 = .ok (.iconst 1, 1) := by decide +kernel
theorem dX5_readTimes_40 : decode cX5_readTimes 40 = .ok (.aload_n 0, 1) := by decide +kernel
theorem dX5_readTimes_41 : decode cX5_readTimes 41 = .ok (.getfield 44, 3) := by decide +kernel
theorem dX5_readTimes_44 : decode cX5_readTimes 44 = .ok (.invokevirtual 105, 3) := by decide +kernel
theorem dX5_readTimes_47 : decode cX5_readTimes 47 = .ok (.aload_n 0, 1) := by decide +kernel
theorem dX5_readTimes_48 : decode cX5_readTimes 48 = .ok (.invokevirtual 53, 3) := by decide +kernel
theorem dX5_readTimes_51 : decode cX5_readTimes 51 = .ok (.iconst 1, 1) := by decide +kernel
theorem dX5_readTimes_52 : decode cX5_readTimes 52 = .ok (.ireturn, 1) := by decide +kernel
def D_X5_readTimes_29 (h : z_H) (l0 : Option Nat) : Option (Int32 × z_H) :=
  (z_ob 5 h l0).bind fun _ =>
  (D_X5_failHere  h l0).bind fun p2734 =>
  if p2734.1 = 0 ∨ p2734.1 = 1 then some (p2734.1, p2734.2) else none
set_option maxRecDepth 100000 in
set_option maxHeartbeats 4000000 in
theorem S_X5_readTimes_29 {G : z_G} {l : Launch}  {h : z_H} {l0 : Option Nat} {res : (Int32 × z_H)} (e : D_X5_readTimes_29  h l0 = some res) : z_Run G l 6 M_X5_readTimes 29 [(0, z_r l0)] [] h res.2 (some (.int res.1)) := by
  unfold D_X5_readTimes_29 at e
  refine z_aload_n 0 dX5_readTimes_29 rfl ?_
  replace e := z_bd e; obtain ⟨o2735, eo2735, e⟩ := e
  replace e := z_bd e; obtain ⟨p2734, ep2734, e⟩ := e
  refine z_cV [] (S_X5_failHere  ep2734) eo2735 rfl ml_X5_67 ck_X5_failHere vk_X5_failHere dX5_readTimes_30 (by decide) rfl (Nat.zero_le _) rfl ?_
  replace e := z_ifs e; obtain ⟨c2736, e⟩ := e
  cases e
  exact z_zret dX5_readTimes_33 rfl (z_nz c2736).1
def D_X5_readTimes (h : z_H) (l0 : Option Nat) (l1 : Int32) : Option (Int32 × z_H) :=
  (z_ob 5 h l0).bind fun _ =>
  (D_X5_advance  h l0).bind fun p2737 =>
  (z_gI 5 p2737 l0 7).bind fun x2739 =>
  if x2739 = (1:Int32) then
    (z_gI 5 p2737 l0 8).bind fun x2741 =>
    if x2741 < (1:Int32) then
      D_X5_readTimes_29   p2737 l0
    else
      (z_gI 5 p2737 l0 8).bind fun x2743 =>
      if x2743 ≤ (20:Int32) then
        (z_gQ 5 p2737 l0 1).bind fun x2745 =>
        (z_gI 5 p2737 l0 8).bind fun x2746 =>
        (z_ob 7 p2737 x2745).bind fun _ =>
        (D_X7_set  p2737 x2745 l1 (1:Int32) x2746).bind fun p2747 =>
        (z_ob 5 p2747 l0).bind fun _ =>
        (D_X5_advance  p2747 l0).bind fun p2749 =>
        some ((1:Int32), p2749)
      else
        D_X5_readTimes_29   p2737 l0
  else
    D_X5_readTimes_29   p2737 l0
set_option maxRecDepth 100000 in
set_option maxHeartbeats 4000000 in
theorem S_X5_readTimes {G : z_G} {l : Launch} {h : z_H} {l0 : Option Nat} {l1 : Int32} {res : (Int32 × z_H)} (e : D_X5_readTimes h l0 l1 = some res) : z_Meth G l 6 M_X5_readTimes [z_r l0, .int l1] h res.2 (some (.int res.1)) := by
  refine z_Meth.of ck_X5_readTimes.2.2.2.2 (by simp [lg_sl, z_ci, z_cj, z_cr, z_cx]) ck_X5_readTimes.1 ?_
  rw [show lv_args 0 [z_r l0, .int l1] = [(0, z_r l0), (1, .int l1)] from by simp [lv_args, z_ci, z_cj, z_cr, z_cx]]
  unfold D_X5_readTimes at e
  refine z_aload_n 0 dX5_readTimes_0 rfl ?_
  replace e := z_bd e; obtain ⟨o2738, eo2738, e⟩ := e
  replace e := z_bd e; obtain ⟨p2737, ep2737, e⟩ := e
  refine z_cV [] (S_X5_advance  ep2737) eo2738 rfl ml_X5_53 ck_X5_advance vk_X5_advance dX5_readTimes_1 (by decide) rfl (Nat.zero_le _) rfl ?_
  refine z_aload_n 0 dX5_readTimes_4 rfl ?_
  replace e := z_bd e; obtain ⟨x2739, ex2739, e⟩ := e
  refine z_getI ex2739 lk_X5_41 dX5_readTimes_5 ?_
  refine z_iconst (v := 1) dX5_readTimes_8 (by decide) ?_
  refine z_icmp_ne (tgt := 29) dX5_readTimes_9 (by decide) (fun c2740 => ?_) (fun c2740 => ?_)
  · rw [if_neg c2740] at e
    exact z_weak [0] rfl (S_X5_readTimes_29   e)
  · rw [if_pos c2740] at e
    refine z_aload_n 0 dX5_readTimes_12 rfl ?_
    replace e := z_bd e; obtain ⟨x2741, ex2741, e⟩ := e
    refine z_getI ex2741 lk_X5_44 dX5_readTimes_13 ?_
    refine z_iconst (v := 1) dX5_readTimes_16 (by decide) ?_
    refine z_icmp_lt (tgt := 29) dX5_readTimes_17 (by decide) (fun c2742 => ?_) (fun c2742 => ?_)
    · rw [if_pos c2742] at e
      exact z_weak [0] rfl (S_X5_readTimes_29   e)
    · rw [if_neg c2742] at e
      refine z_aload_n 0 dX5_readTimes_20 rfl ?_
      replace e := z_bd e; obtain ⟨x2743, ex2743, e⟩ := e
      refine z_getI ex2743 lk_X5_44 dX5_readTimes_21 ?_
      refine z_bipush (v := 20) dX5_readTimes_24 (by decide) ?_
      refine z_icmp_le (tgt := 34) dX5_readTimes_26 (by decide) (fun c2744 => ?_) (fun c2744 => ?_)
      · rw [if_pos c2744] at e
        refine z_aload_n 0 dX5_readTimes_34 rfl ?_
        replace e := z_bd e; obtain ⟨x2745, ex2745, e⟩ := e
        refine z_getQ ex2745 lk_X5_20 dX5_readTimes_35 ?_
        refine z_iload_n 1 dX5_readTimes_38 rfl ?_
        refine z_iconst (v := 1) dX5_readTimes_39 (by decide) ?_
        refine z_aload_n 0 dX5_readTimes_40 rfl ?_
        replace e := z_bd e; obtain ⟨x2746, ex2746, e⟩ := e
        refine z_getI ex2746 lk_X5_44 dX5_readTimes_41 ?_
        replace e := z_bd e; obtain ⟨o2748, eo2748, e⟩ := e
        replace e := z_bd e; obtain ⟨p2747, ep2747, e⟩ := e
        refine z_cV [.int l1, .int (1:Int32), .int x2746] (S_X7_set  ep2747) eo2748 rfl ml_X5_105 ck_X7_set vk_X7_set dX5_readTimes_44 (by decide) rfl (Nat.zero_le _) rfl ?_
        refine z_aload_n 0 dX5_readTimes_47 rfl ?_
        replace e := z_bd e; obtain ⟨o2750, eo2750, e⟩ := e
        replace e := z_bd e; obtain ⟨p2749, ep2749, e⟩ := e
        refine z_cV [] (S_X5_advance  ep2749) eo2750 rfl ml_X5_53 ck_X5_advance vk_X5_advance dX5_readTimes_48 (by decide) rfl (Nat.zero_le _) rfl ?_
        refine z_iconst (v := 1) dX5_readTimes_51 (by decide) ?_
        cases e
        exact z_zret dX5_readTimes_52 rfl (by decide)
      · rw [if_neg c2744] at e
        exact z_weak [0] rfl (S_X5_readTimes_29   e)
theorem dX5_readPlain_0 : decode cX5_readPlain 0 = .ok (.iconst 0, 1) := by decide +kernel
theorem dX5_readPlain_1 : decode cX5_readPlain 1 = .ok (.istore_n 2, 1) := by decide +kernel
theorem dX5_readPlain_2 : decode cX5_readPlain 2 = .ok (.iload_n 2, 1) := by decide +kernel
theorem dX5_readPlain_3 : decode cX5_readPlain 3 = .ok (.sipush 400, 3) := by decide +kernel
theorem dX5_readPlain_6 : decode cX5_readPlain 6 = .ok (.if_icmp .ge 22, 3) := by decide +kernel
theorem dX5_readPlain_9 : decode cX5_readPlain 9 = .ok (.aload_n 0, 1) := by decide +kernel
theorem dX5_readPlain_10 : decode cX5_readPlain 10 = .ok (.ldc 151, 2) := by decide +kernel
theorem dX5_readPlain_12 : decode cX5_readPlain 12 = .ok (.invokevirtual 97, 3) := by decide +kernel
theorem dX5_readPlain_15 : decode cX5_readPlain 15 = .ok (.ifCond .eq 13, 3) := by decide +kernel
theorem dX5_readPlain_18 : decode cX5_readPlain 18 = .ok (.aload_n 0, 1) := by decide +kernel
theorem dX5_readPlain_19 : decode cX5_readPlain 19 = .ok (.invokevirtual 53, 3) := by decide +kernel
theorem dX5_readPlain_22 : decode cX5_readPlain 22 = .ok (.iinc 2 1, 3) := by decide +kernel
theorem dX5_readPlain_25 : decode cX5_readPlain 25 = .ok (.goto (-23), 3) := by decide +kernel
theorem dX5_readPlain_28 : decode cX5_readPlain 28 = .ok (.aload_n 0, 1) := by decide +kernel
theorem dX5_readPlain_29 : decode cX5_readPlain 29 = .ok (.bipush 40, 2) := by decide +kernel
theorem dX5_readPlain_31 : decode cX5_readPlain 31 = .ok (.invokevirtual 94, 3) := by decide +kernel
theorem dX5_readPlain_34 : decode cX5_readPlain 34 = .ok (.ifCond .eq 46, 3) := by decide +kernel
theorem dX5_readPlain_37 : decode cX5_readPlain 37 = .ok (.iload_n 1, 1) := by decide +kernel
theorem dX5_readPlain_38 : decode cX5_readPlain 38 = .ok (.bipush 8, 2) := by decide +kernel
theorem dX5_readPlain_40 : decode cX5_readPlain 40 = .ok (.if_icmp .lt 8, 3) := by decide +kernel
theorem dX5_readPlain_43 : decode cX5_readPlain 43 = .ok (.aload_n 0, 1) := by decide +kernel
theorem dX5_readPlain_44 : decode cX5_readPlain 44 = .ok (.invokevirtual 67, 3) := by decide +kernel
theorem dX5_readPlain_47 : decode cX5_readPlain 47 = .ok (.ireturn, 1) := by decide +kernel
theorem dX5_readPlain_48 : decode cX5_readPlain 48 = .ok (.aload_n 0, 1) := by decide +kernel
theorem dX5_readPlain_49 : decode cX5_readPlain 49 = .ok (.invokevirtual 53, 3) := by decide +kernel
theorem dX5_readPlain_52 : decode cX5_readPlain 52 = .ok (.aload_n 0, 1) := by decide +kernel
theorem dX5_readPlain_53 : decode cX5_readPlain 53 = .ok (.iload_n 1, 1) := by decide +kernel
theorem dX5_readPlain_54 : decode cX5_readPlain 54 = .ok (.iconst 1, 1) := by decide +kernel
theorem dX5_readPlain_55 : decode cX5_readPlain 55 = .ok (.iadd, 1) := by decide +kernel
theorem dX5_readPlain_56 : decode cX5_readPlain 56 = .ok (.invokevirtual 131, 3) := by decide +kernel
theorem dX5_readPlain_59 : decode cX5_readPlain 59 = .ok (.ifCond .eq 16, 3) := by decide +kernel
theorem dX5_readPlain_62 : decode cX5_readPlain 62 = .ok (.aload_n 0, 1) := by decide +kernel
theorem dX5_readPlain_63 : decode cX5_readPlain 63 = .ok (.bipush 41, 2) := by decide +kernel
theorem dX5_readPlain_65 : decode cX5_readPlain 65 = .ok (.invokevirtual 63, 3) := by decide +kernel
theorem dX5_readPlain_68 : decode cX5_readPlain 68 = .ok (.ifCond .eq 7, 3) := by decide +kernel
theorem dX5_readPlain_71 : decode cX5_readPlain 71 = .ok (.iconst 1, 1) := by decide +kernel
theorem dX5_readPlain_72 : decode cX5_readPlain 72 = .ok (.goto 4, 3) := by decide +kernel
theorem dX5_readPlain_75 : decode cX5_readPlain 75 = .ok (.iconst 0, 1) := by decide +kernel
theorem dX5_readPlain_76 : decode cX5_readPlain 76 = .ok (.istore_n 3, 1) := by decide +kernel
theorem dX5_readPlain_77 : decode cX5_readPlain 77 = .ok (.goto 89, 3) := by decide +kernel
theorem dX5_readPlain_80 : decode cX5_readPlain 80 = .ok (.aload_n 0, 1) := by decide +kernel
theorem dX5_readPlain_81 : decode cX5_readPlain 81 = .ok (.iload_n 1, 1) := by decide +kernel
theorem dX5_readPlain_82 : decode cX5_readPlain 82 = .ok (.invokevirtual 115, 3) := by decide +kernel
theorem dX5_readPlain_85 : decode cX5_readPlain 85 = .ok (.ifCond .ne 5, 3) := by decide +kernel
theorem dX5_readPlain_88 : decode cX5_readPlain 88 = .ok (.iconst 0, 1) := by decide +kernel
theorem dX5_readPlain_89 : decode cX5_readPlain 89 = .ok (.ireturn, 1) := by decide +kernel
theorem dX5_readPlain_90 : decode cX5_readPlain 90 = .ok (.aload_n 0, 1) := by decide +kernel
theorem dX5_readPlain_91 : decode cX5_readPlain 91 = .ok (.bipush 60, 2) := by decide +kernel
theorem dX5_readPlain_93 : decode cX5_readPlain 93 = .ok (.invokevirtual 94, 3) := by decide +kernel
theorem dX5_readPlain_96 : decode cX5_readPlain 96 = .ok (.ifCond .eq 8, 3) := by decide +kernel
theorem dX5_readPlain_99 : decode cX5_readPlain 99 = .ok (.bipush 10, 2) := by decide +kernel
theorem dX5_readPlain_101 : decode cX5_readPlain 101 = .ok (.goto 32, 3) := by decide +kernel
theorem dX5_readPlain_104 : decode cX5_readPlain 104 = .ok (.aload_n 0, 1) := by decide +kernel
theorem dX5_readPlain_105 : decode cX5_readPlain 105 = .ok (.bipush 62, 2) := by decide +kernel
theorem dX5_readPlain_107 : decode cX5_readPlain 107 = .ok (.invokevirtual 94, 3) := by decide +kernel
theorem dX5_readPlain_110 : decode cX5_readPlain 110 = .ok (.ifCond .eq 8, 3) := by decide +kernel
theorem dX5_readPlain_113 : decode cX5_readPlain 113 = .ok (.bipush 11, 2) := by decide +kernel
theorem dX5_readPlain_115 : decode cX5_readPlain 115 = .ok (.goto 18, 3) := by decide +kernel
theorem dX5_readPlain_118 : decode cX5_readPlain 118 = .ok (.aload_n 0, 1) := by decide +kernel
theorem dX5_readPlain_119 : decode cX5_readPlain 119 = .ok (.bipush 61, 2) := by decide +kernel
theorem dX5_readPlain_121 : decode cX5_readPlain 121 = .ok (.invokevirtual 94, 3) := by decide +kernel
theorem dX5_readPlain_124 : decode cX5_readPlain 124 = .ok (.ifCond .eq 8, 3) := by decide +kernel
theorem dX5_readPlain_127 : decode cX5_readPlain 127 = .ok (.bipush 12, 2) := by decide +kernel
theorem dX5_readPlain_129 : decode cX5_readPlain 129 = .ok (.goto 4, 3) := by decide +kernel
theorem dX5_readPlain_132 : decode cX5_readPlain 132 = .ok (.iconst (-1), 1) := by decide +kernel
theorem dX5_readPlain_133 : decode cX5_readPlain 133 = .ok (.istore 4, 2) := by decide +kernel
theorem dX5_readPlain_135 : decode cX5_readPlain 135 = .ok (.iload 4, 2) := by decide +kernel
theorem dX5_readPlain_137 : decode cX5_readPlain 137 = .ok (.iconst (-1), 1) := by decide +kernel
theorem dX5_readPlain_138 : decode cX5_readPlain 138 = .ok (.if_icmp .ne 8, 3) := by decide +kernel
theorem dX5_readPlain_141 : decode cX5_readPlain 141 = .ok (.aload_n 0, 1) := by decide +kernel
theorem dX5_readPlain_142 : decode cX5_readPlain 142 = .ok (.invokevirtual 67, 3) := by decide +kernel
theorem dX5_readPlain_145 : decode cX5_readPlain 145 = .ok (.ireturn, 1) := by decide +kernel
theorem dX5_readPlain_146 : decode cX5_readPlain 146 = .ok (.aload_n 0, 1) := by decide +kernel
theorem dX5_readPlain_147 : decode cX5_readPlain 147 = .ok (.invokevirtual 53, 3) := by decide +kernel
theorem dX5_readPlain_150 : decode cX5_readPlain 150 = .ok (.aload_n 0, 1) := by decide +kernel
theorem dX5_readPlain_151 : decode cX5_readPlain 151 = .ok (.iload_n 1, 1) := by decide +kernel
theorem dX5_readPlain_152 : decode cX5_readPlain 152 = .ok (.invokevirtual 115, 3) := by decide +kernel
theorem dX5_readPlain_155 : decode cX5_readPlain 155 = .ok (.istore_n 3, 1) := by decide +kernel
theorem dX5_readPlain_156 : decode cX5_readPlain 156 = .ok (.aload_n 0, 1) := by decide +kernel
theorem dX5_readPlain_157 : decode cX5_readPlain 157 = .ok (.getfield 20, 3) := by decide +kernel
theorem dX5_readPlain_160 : decode cX5_readPlain 160 = .ok (.iload 4, 2) := by decide +kernel
theorem dX5_readPlain_162 : decode cX5_readPlain 162 = .ok (.iconst 0, 1) := by decide +kernel
theorem dX5_readPlain_163 : decode cX5_readPlain 163 = .ok (.invokevirtual 139, 3) := by decide +kernel
theorem dX5_readPlain_166 : decode cX5_readPlain 166 = .ok (.iload_n 2, 1) := by decide +kernel
theorem dX5_readPlain_167 : decode cX5_readPlain 167 = .ok (.iconst 2, 1) := by decide +kernel
theorem dX5_readPlain_168 : decode cX5_readPlain 168 = .ok (.irem, 1) := by decide +kernel
theorem dX5_readPlain_169 : decode cX5_readPlain 169 = .ok (.iconst 1, 1) := by decide +kernel
theorem dX5_readPlain_170 : decode cX5_readPlain 170 = .ok (.if_icmp .ne 12, 3) := by decide +kernel
theorem dX5_readPlain_173 : decode cX5_readPlain 173 = .ok (.aload_n 0, 1) := by decide +kernel
theorem dX5_readPlain_174 : decode cX5_readPlain 174 = .ok (.getfield 20, 3) := by decide +kernel
theorem dX5_readPlain_177 : decode cX5_readPlain 177 = .ok (.iconst 2, 1) := by decide +kernel
theorem dX5_readPlain_178 : decode cX5_readPlain 178 = .ok (.iconst 0, 1) := by decide +kernel
theorem dX5_readPlain_179 : decode cX5_readPlain 179 = .ok (.invokevirtual 139, 3) := by decide +kernel
theorem dX5_readPlain_182 : decode cX5_readPlain 182 = .ok (.iload_n 3, 1) := by decide +kernel
theorem dX5_readPlain_183 : decode cX5_readPlain 183 = .ok (.ireturn, 1) := by decide +kernel
def D_X5_readPlain_166 (kr : z_H → Option Nat → Int32 → Option (Int32 × z_H)) (h : z_H) (l0 : Option Nat) (l2 : Int32) (l3 : Int32) : Option (Int32 × z_H) :=
  if (l2 - l2 / (2:Int32) * (2:Int32)) = (1:Int32) then
    (z_gQ 5 h l0 1).bind fun x2753 =>
    (z_ob 7 h x2753).bind fun _ =>
    (D_X7_emit  h x2753 (2:Int32) (0:Int32)).bind fun p2754 =>
    if l3 = 0 ∨ l3 = 1 then some (l3, p2754) else none
  else
    if l3 = 0 ∨ l3 = 1 then some (l3, h) else none
set_option maxRecDepth 100000 in
set_option maxHeartbeats 4000000 in
theorem S_X5_readPlain_166 {G : z_G} {l : Launch} {kr : z_H → Option Nat → Int32 → Option (Int32 × z_H)} {dk : Nat} (hkr : ∀ {h : z_H} {l0 : Option Nat} {l1 : Int32} {res : (Int32 × z_H)}, kr h l0 l1 = some res → z_Meth G l dk M_X5_readTest [z_r l0, .int l1] h res.2 (some (.int res.1))) (hdk : 60 ≤ dk)  {h : z_H} {l0 : Option Nat} {l2 : Int32} {l3 : Int32} {res : (Int32 × z_H)} (e : D_X5_readPlain_166 kr  h l0 l2 l3 = some res) : z_Run G l (dk + 1) M_X5_readPlain 166 [(0, z_r l0), (2, .int l2), (3, .int l3)] [] h res.2 (some (.int res.1)) := by
  unfold D_X5_readPlain_166 at e
  refine z_iload_n 1 dX5_readPlain_166 rfl ?_
  refine z_iconst (v := 2) dX5_readPlain_167 (by decide) ?_
  refine z_irem dX5_readPlain_168 (by decide) ?_
  refine z_iconst (v := 1) dX5_readPlain_169 (by decide) ?_
  refine z_icmp_ne (tgt := 182) dX5_readPlain_170 (by decide) (fun c2751 => ?_) (fun c2751 => ?_)
  · rw [if_neg c2751] at e
    refine z_iload_n 2 dX5_readPlain_182 rfl ?_
    replace e := z_ifs e; obtain ⟨c2752, e⟩ := e
    cases e
    exact z_zret dX5_readPlain_183 rfl (z_nz c2752).1
  · rw [if_pos c2751] at e
    refine z_aload_n 0 dX5_readPlain_173 rfl ?_
    replace e := z_bd e; obtain ⟨x2753, ex2753, e⟩ := e
    refine z_getQ ex2753 lk_X5_20 dX5_readPlain_174 ?_
    refine z_iconst (v := 2) dX5_readPlain_177 (by decide) ?_
    refine z_iconst (v := 0) dX5_readPlain_178 (by decide) ?_
    replace e := z_bd e; obtain ⟨o2755, eo2755, e⟩ := e
    replace e := z_bd e; obtain ⟨p2754, ep2754, e⟩ := e
    refine z_cV [.int (2:Int32), .int (0:Int32)] (S_X7_emit  ep2754) eo2755 rfl ml_X5_139 ck_X7_emit vk_X7_emit dX5_readPlain_179 (by omega) rfl (Nat.zero_le _) rfl ?_
    refine z_iload_n 2 dX5_readPlain_182 rfl ?_
    replace e := z_ifs e; obtain ⟨c2756, e⟩ := e
    cases e
    exact z_zret dX5_readPlain_183 rfl (z_nz c2756).1
def D_X5_readPlain_133 (kr : z_H → Option Nat → Int32 → Option (Int32 × z_H)) (h : z_H) (l0 : Option Nat) (l1 : Int32) (l2 : Int32) (s0 : Int32) : Option (Int32 × z_H) :=
  if s0 = (-1:Int32) then
    (z_ob 5 h l0).bind fun _ =>
    (D_X5_failHere  h l0).bind fun p2765 =>
    if p2765.1 = 0 ∨ p2765.1 = 1 then some (p2765.1, p2765.2) else none
  else
    (z_ob 5 h l0).bind fun _ =>
    (D_X5_advance  h l0).bind fun p2758 =>
    (z_ob 5 p2758 l0).bind fun _ =>
    (D_X5_readSum 12 p2758 l0 l1).bind fun p2760 =>
    (z_gQ 5 p2760.2 l0 1).bind fun x2762 =>
    (z_ob 7 p2760.2 x2762).bind fun _ =>
    (D_X7_emit  p2760.2 x2762 s0 (0:Int32)).bind fun p2763 =>
    D_X5_readPlain_166 kr  p2763 l0 l2 p2760.1
set_option maxRecDepth 100000 in
set_option maxHeartbeats 4000000 in
theorem S_X5_readPlain_133 {G : z_G} {l : Launch} {kr : z_H → Option Nat → Int32 → Option (Int32 × z_H)} {dk : Nat} (hkr : ∀ {h : z_H} {l0 : Option Nat} {l1 : Int32} {res : (Int32 × z_H)}, kr h l0 l1 = some res → z_Meth G l dk M_X5_readTest [z_r l0, .int l1] h res.2 (some (.int res.1))) (hdk : 60 ≤ dk)  {h : z_H} {l0 : Option Nat} {l1 : Int32} {l2 : Int32} {s0 : Int32} {res : (Int32 × z_H)} (e : D_X5_readPlain_133 kr  h l0 l1 l2 s0 = some res) : z_Run G l (dk + 1) M_X5_readPlain 133 [(0, z_r l0), (1, .int l1), (2, .int l2)] [.int s0] h res.2 (some (.int res.1)) := by
  unfold D_X5_readPlain_133 at e
  refine z_istore (L' := [(4, .int s0), (0, z_r l0), (1, .int l1), (2, .int l2)]) dX5_readPlain_133 (by decide) rfl ?_
  refine z_iload 0 dX5_readPlain_135 rfl ?_
  refine z_iconst (v := -1) dX5_readPlain_137 (by decide) ?_
  refine z_icmp_ne (tgt := 146) dX5_readPlain_138 (by decide) (fun c2757 => ?_) (fun c2757 => ?_)
  · rw [if_neg c2757] at e
    refine z_aload_n 1 dX5_readPlain_146 rfl ?_
    replace e := z_bd e; obtain ⟨o2759, eo2759, e⟩ := e
    replace e := z_bd e; obtain ⟨p2758, ep2758, e⟩ := e
    refine z_cV [] (S_X5_advance  ep2758) eo2759 rfl ml_X5_53 ck_X5_advance vk_X5_advance dX5_readPlain_147 (by omega) rfl (Nat.zero_le _) rfl ?_
    refine z_aload_n 1 dX5_readPlain_150 rfl ?_
    refine z_iload_n 2 dX5_readPlain_151 rfl ?_
    replace e := z_bd e; obtain ⟨o2761, eo2761, e⟩ := e
    replace e := z_bd e; obtain ⟨p2760, ep2760, e⟩ := e
    refine z_cV [.int l1] (S_X5_readSum 12 ep2760) eo2761 rfl ml_X5_115 ck_X5_readSum vk_X5_readSum dX5_readPlain_152 (by omega) rfl (Nat.zero_le _) rfl ?_
    refine z_istore_n (L' := [(3, .int p2760.1), (4, .int s0), (0, z_r l0), (1, .int l1), (2, .int l2)]) dX5_readPlain_155 rfl (by decide) rfl ?_
    refine z_aload_n 2 dX5_readPlain_156 rfl ?_
    replace e := z_bd e; obtain ⟨x2762, ex2762, e⟩ := e
    refine z_getQ ex2762 lk_X5_20 dX5_readPlain_157 ?_
    refine z_iload 1 dX5_readPlain_160 rfl ?_
    refine z_iconst (v := 0) dX5_readPlain_162 (by decide) ?_
    replace e := z_bd e; obtain ⟨o2764, eo2764, e⟩ := e
    replace e := z_bd e; obtain ⟨p2763, ep2763, e⟩ := e
    refine z_cV [.int s0, .int (0:Int32)] (S_X7_emit  ep2763) eo2764 rfl ml_X5_139 ck_X7_emit vk_X7_emit dX5_readPlain_163 (by omega) rfl (Nat.zero_le _) rfl ?_
    exact z_weak [2, 4, 0] rfl (S_X5_readPlain_166 @hkr hdk  e)
  · rw [if_pos c2757] at e
    refine z_aload_n 1 dX5_readPlain_141 rfl ?_
    replace e := z_bd e; obtain ⟨o2766, eo2766, e⟩ := e
    replace e := z_bd e; obtain ⟨p2765, ep2765, e⟩ := e
    refine z_cV [] (S_X5_failHere  ep2765) eo2766 rfl ml_X5_67 ck_X5_failHere vk_X5_failHere dX5_readPlain_142 (by omega) rfl (Nat.zero_le _) rfl ?_
    replace e := z_ifs e; obtain ⟨c2767, e⟩ := e
    cases e
    exact z_zret dX5_readPlain_145 rfl (z_nz c2767).1
def D_X5_readPlain_76 (kr : z_H → Option Nat → Int32 → Option (Int32 × z_H)) (h : z_H) (l0 : Option Nat) (l2 : Int32) (s0 : Int32) : Option (Int32 × z_H) :=
  D_X5_readPlain_166 kr  h l0 l2 s0
set_option maxRecDepth 100000 in
set_option maxHeartbeats 4000000 in
theorem S_X5_readPlain_76 {G : z_G} {l : Launch} {kr : z_H → Option Nat → Int32 → Option (Int32 × z_H)} {dk : Nat} (hkr : ∀ {h : z_H} {l0 : Option Nat} {l1 : Int32} {res : (Int32 × z_H)}, kr h l0 l1 = some res → z_Meth G l dk M_X5_readTest [z_r l0, .int l1] h res.2 (some (.int res.1))) (hdk : 60 ≤ dk)  {h : z_H} {l0 : Option Nat} {l2 : Int32} {s0 : Int32} {res : (Int32 × z_H)} (e : D_X5_readPlain_76 kr  h l0 l2 s0 = some res) : z_Run G l (dk + 1) M_X5_readPlain 76 [(0, z_r l0), (2, .int l2)] [.int s0] h res.2 (some (.int res.1)) := by
  unfold D_X5_readPlain_76 at e
  refine z_istore_n (L' := [(3, .int s0), (0, z_r l0), (2, .int l2)]) dX5_readPlain_76 rfl (by decide) rfl ?_
  refine z_goto (tgt := 166) dX5_readPlain_77 (by decide) ?_
  exact z_weak [1, 2, 0] rfl (S_X5_readPlain_166 @hkr hdk  e)
def D_X5_readPlain_75 (kr : z_H → Option Nat → Int32 → Option (Int32 × z_H)) (h : z_H) (l0 : Option Nat) (l2 : Int32) : Option (Int32 × z_H) :=
  D_X5_readPlain_76 kr  h l0 l2 (0:Int32)
set_option maxRecDepth 100000 in
set_option maxHeartbeats 4000000 in
theorem S_X5_readPlain_75 {G : z_G} {l : Launch} {kr : z_H → Option Nat → Int32 → Option (Int32 × z_H)} {dk : Nat} (hkr : ∀ {h : z_H} {l0 : Option Nat} {l1 : Int32} {res : (Int32 × z_H)}, kr h l0 l1 = some res → z_Meth G l dk M_X5_readTest [z_r l0, .int l1] h res.2 (some (.int res.1))) (hdk : 60 ≤ dk)  {h : z_H} {l0 : Option Nat} {l2 : Int32} {res : (Int32 × z_H)} (e : D_X5_readPlain_75 kr  h l0 l2 = some res) : z_Run G l (dk + 1) M_X5_readPlain 75 [(0, z_r l0), (2, .int l2)] [] h res.2 (some (.int res.1)) := by
  unfold D_X5_readPlain_75 at e
  refine z_iconst (v := 0) dX5_readPlain_75 (by decide) ?_
  exact z_weak [0, 1] rfl (S_X5_readPlain_76 @hkr hdk  e)
def D_X5_readPlain_28 (kr : z_H → Option Nat → Int32 → Option (Int32 × z_H)) (h : z_H) (l0 : Option Nat) (l1 : Int32) (l2 : Int32) : Option (Int32 × z_H) :=
  (z_ob 5 h l0).bind fun _ =>
  (D_X5_isSign  h l0 (40:Int32)).bind fun p2768 =>
  if p2768.1 = 0 then
    (z_ob 5 p2768.2 l0).bind fun _ =>
    (D_X5_readSum 12 p2768.2 l0 l1).bind fun p2771 =>
    if p2771.1 = 0 then
      some ((0:Int32), p2771.2)
    else
      (z_ob 5 p2771.2 l0).bind fun _ =>
      (D_X5_isSign  p2771.2 l0 (60:Int32)).bind fun p2774 =>
      if p2774.1 = 0 then
        (z_ob 5 p2774.2 l0).bind fun _ =>
        (D_X5_isSign  p2774.2 l0 (62:Int32)).bind fun p2777 =>
        if p2777.1 = 0 then
          (z_ob 5 p2777.2 l0).bind fun _ =>
          (D_X5_isSign  p2777.2 l0 (61:Int32)).bind fun p2780 =>
          if p2780.1 = 0 then
            D_X5_readPlain_133 kr  p2780.2 l0 l1 l2 (-1:Int32)
          else
            D_X5_readPlain_133 kr  p2780.2 l0 l1 l2 (12:Int32)
        else
          D_X5_readPlain_133 kr  p2777.2 l0 l1 l2 (11:Int32)
      else
        D_X5_readPlain_133 kr  p2774.2 l0 l1 l2 (10:Int32)
  else
    if l1 < (8:Int32) then
      (z_ob 5 p2768.2 l0).bind fun _ =>
      (D_X5_advance  p2768.2 l0).bind fun p2784 =>
      (z_ob 5 p2784 l0).bind fun _ =>
      (kr p2784 l0 (l1 + (1:Int32))).bind fun p2786 =>
      if p2786.1 = 0 then
        D_X5_readPlain_75 kr  p2786.2 l0 l2
      else
        (z_ob 5 p2786.2 l0).bind fun _ =>
        (D_X5_skipSign  p2786.2 l0 (41:Int32)).bind fun p2789 =>
        if p2789.1 = 0 then
          D_X5_readPlain_75 kr  p2789.2 l0 l2
        else
          D_X5_readPlain_76 kr  p2789.2 l0 l2 (1:Int32)
    else
      (z_ob 5 p2768.2 l0).bind fun _ =>
      (D_X5_failHere  p2768.2 l0).bind fun p2792 =>
      if p2792.1 = 0 ∨ p2792.1 = 1 then some (p2792.1, p2792.2) else none
set_option maxRecDepth 100000 in
set_option maxHeartbeats 4000000 in
theorem S_X5_readPlain_28 {G : z_G} {l : Launch} {kr : z_H → Option Nat → Int32 → Option (Int32 × z_H)} {dk : Nat} (hkr : ∀ {h : z_H} {l0 : Option Nat} {l1 : Int32} {res : (Int32 × z_H)}, kr h l0 l1 = some res → z_Meth G l dk M_X5_readTest [z_r l0, .int l1] h res.2 (some (.int res.1))) (hdk : 60 ≤ dk)  {h : z_H} {l0 : Option Nat} {l1 : Int32} {l2 : Int32} {res : (Int32 × z_H)} (e : D_X5_readPlain_28 kr  h l0 l1 l2 = some res) : z_Run G l (dk + 1) M_X5_readPlain 28 [(0, z_r l0), (1, .int l1), (2, .int l2)] [] h res.2 (some (.int res.1)) := by
  unfold D_X5_readPlain_28 at e
  refine z_aload_n 0 dX5_readPlain_28 rfl ?_
  refine z_bipush (v := 40) dX5_readPlain_29 (by decide) ?_
  replace e := z_bd e; obtain ⟨o2769, eo2769, e⟩ := e
  replace e := z_bd e; obtain ⟨p2768, ep2768, e⟩ := e
  refine z_cV [.int (40:Int32)] (S_X5_isSign  ep2768) eo2769 rfl ml_X5_94 ck_X5_isSign vk_X5_isSign dX5_readPlain_31 (by omega) rfl (Nat.zero_le _) rfl ?_
  refine z_if_eq (tgt := 80) dX5_readPlain_34 (by decide) (fun c2770 => ?_) (fun c2770 => ?_)
  · rw [if_pos c2770] at e
    refine z_aload_n 0 dX5_readPlain_80 rfl ?_
    refine z_iload_n 1 dX5_readPlain_81 rfl ?_
    replace e := z_bd e; obtain ⟨o2772, eo2772, e⟩ := e
    replace e := z_bd e; obtain ⟨p2771, ep2771, e⟩ := e
    refine z_cV [.int l1] (S_X5_readSum 12 ep2771) eo2772 rfl ml_X5_115 ck_X5_readSum vk_X5_readSum dX5_readPlain_82 (by omega) rfl (Nat.zero_le _) rfl ?_
    refine z_if_ne (tgt := 90) dX5_readPlain_85 (by decide) (fun c2773 => ?_) (fun c2773 => ?_)
    · rw [if_neg c2773] at e
      refine z_aload_n 0 dX5_readPlain_90 rfl ?_
      refine z_bipush (v := 60) dX5_readPlain_91 (by decide) ?_
      replace e := z_bd e; obtain ⟨o2775, eo2775, e⟩ := e
      replace e := z_bd e; obtain ⟨p2774, ep2774, e⟩ := e
      refine z_cV [.int (60:Int32)] (S_X5_isSign  ep2774) eo2775 rfl ml_X5_94 ck_X5_isSign vk_X5_isSign dX5_readPlain_93 (by omega) rfl (Nat.zero_le _) rfl ?_
      refine z_if_eq (tgt := 104) dX5_readPlain_96 (by decide) (fun c2776 => ?_) (fun c2776 => ?_)
      · rw [if_pos c2776] at e
        refine z_aload_n 0 dX5_readPlain_104 rfl ?_
        refine z_bipush (v := 62) dX5_readPlain_105 (by decide) ?_
        replace e := z_bd e; obtain ⟨o2778, eo2778, e⟩ := e
        replace e := z_bd e; obtain ⟨p2777, ep2777, e⟩ := e
        refine z_cV [.int (62:Int32)] (S_X5_isSign  ep2777) eo2778 rfl ml_X5_94 ck_X5_isSign vk_X5_isSign dX5_readPlain_107 (by omega) rfl (Nat.zero_le _) rfl ?_
        refine z_if_eq (tgt := 118) dX5_readPlain_110 (by decide) (fun c2779 => ?_) (fun c2779 => ?_)
        · rw [if_pos c2779] at e
          refine z_aload_n 0 dX5_readPlain_118 rfl ?_
          refine z_bipush (v := 61) dX5_readPlain_119 (by decide) ?_
          replace e := z_bd e; obtain ⟨o2781, eo2781, e⟩ := e
          replace e := z_bd e; obtain ⟨p2780, ep2780, e⟩ := e
          refine z_cV [.int (61:Int32)] (S_X5_isSign  ep2780) eo2781 rfl ml_X5_94 ck_X5_isSign vk_X5_isSign dX5_readPlain_121 (by omega) rfl (Nat.zero_le _) rfl ?_
          refine z_if_eq (tgt := 132) dX5_readPlain_124 (by decide) (fun c2782 => ?_) (fun c2782 => ?_)
          · rw [if_pos c2782] at e
            refine z_iconst (v := -1) dX5_readPlain_132 (by decide) ?_
            exact z_weak [0, 1, 2] rfl (S_X5_readPlain_133 @hkr hdk  e)
          · rw [if_neg c2782] at e
            refine z_bipush (v := 12) dX5_readPlain_127 (by decide) ?_
            refine z_goto (tgt := 133) dX5_readPlain_129 (by decide) ?_
            exact z_weak [0, 1, 2] rfl (S_X5_readPlain_133 @hkr hdk  e)
        · rw [if_neg c2779] at e
          refine z_bipush (v := 11) dX5_readPlain_113 (by decide) ?_
          refine z_goto (tgt := 133) dX5_readPlain_115 (by decide) ?_
          exact z_weak [0, 1, 2] rfl (S_X5_readPlain_133 @hkr hdk  e)
      · rw [if_neg c2776] at e
        refine z_bipush (v := 10) dX5_readPlain_99 (by decide) ?_
        refine z_goto (tgt := 133) dX5_readPlain_101 (by decide) ?_
        exact z_weak [0, 1, 2] rfl (S_X5_readPlain_133 @hkr hdk  e)
    · rw [if_pos c2773] at e
      refine z_iconst (v := 0) dX5_readPlain_88 (by decide) ?_
      cases e
      exact z_zret dX5_readPlain_89 rfl (by decide)
  · rw [if_neg c2770] at e
    refine z_iload_n 1 dX5_readPlain_37 rfl ?_
    refine z_bipush (v := 8) dX5_readPlain_38 (by decide) ?_
    refine z_icmp_lt (tgt := 48) dX5_readPlain_40 (by decide) (fun c2783 => ?_) (fun c2783 => ?_)
    · rw [if_pos c2783] at e
      refine z_aload_n 0 dX5_readPlain_48 rfl ?_
      replace e := z_bd e; obtain ⟨o2785, eo2785, e⟩ := e
      replace e := z_bd e; obtain ⟨p2784, ep2784, e⟩ := e
      refine z_cV [] (S_X5_advance  ep2784) eo2785 rfl ml_X5_53 ck_X5_advance vk_X5_advance dX5_readPlain_49 (by omega) rfl (Nat.zero_le _) rfl ?_
      refine z_aload_n 0 dX5_readPlain_52 rfl ?_
      refine z_iload_n 1 dX5_readPlain_53 rfl ?_
      refine z_iconst (v := 1) dX5_readPlain_54 (by decide) ?_
      refine z_iadd dX5_readPlain_55 ?_
      replace e := z_bd e; obtain ⟨o2787, eo2787, e⟩ := e
      replace e := z_bd e; obtain ⟨p2786, ep2786, e⟩ := e
      refine z_cV [.int (l1 + (1:Int32))] (hkr ep2786) eo2787 rfl ml_X5_131 ck_X5_readTest vk_X5_readTest dX5_readPlain_56 (by omega) rfl (Nat.zero_le _) rfl ?_
      refine z_if_eq (tgt := 75) dX5_readPlain_59 (by decide) (fun c2788 => ?_) (fun c2788 => ?_)
      · rw [if_pos c2788] at e
        exact z_weak [0, 2] rfl (S_X5_readPlain_75 @hkr hdk  e)
      · rw [if_neg c2788] at e
        refine z_aload_n 0 dX5_readPlain_62 rfl ?_
        refine z_bipush (v := 41) dX5_readPlain_63 (by decide) ?_
        replace e := z_bd e; obtain ⟨o2790, eo2790, e⟩ := e
        replace e := z_bd e; obtain ⟨p2789, ep2789, e⟩ := e
        refine z_cV [.int (41:Int32)] (S_X5_skipSign  ep2789) eo2790 rfl ml_X5_63 ck_X5_skipSign vk_X5_skipSign dX5_readPlain_65 (by omega) rfl (Nat.zero_le _) rfl ?_
        refine z_if_eq (tgt := 75) dX5_readPlain_68 (by decide) (fun c2791 => ?_) (fun c2791 => ?_)
        · rw [if_pos c2791] at e
          exact z_weak [0, 2] rfl (S_X5_readPlain_75 @hkr hdk  e)
        · rw [if_neg c2791] at e
          refine z_iconst (v := 1) dX5_readPlain_71 (by decide) ?_
          refine z_goto (tgt := 76) dX5_readPlain_72 (by decide) ?_
          exact z_weak [0, 2] rfl (S_X5_readPlain_76 @hkr hdk  e)
    · rw [if_neg c2783] at e
      refine z_aload_n 0 dX5_readPlain_43 rfl ?_
      replace e := z_bd e; obtain ⟨o2793, eo2793, e⟩ := e
      replace e := z_bd e; obtain ⟨p2792, ep2792, e⟩ := e
      refine z_cV [] (S_X5_failHere  ep2792) eo2793 rfl ml_X5_67 ck_X5_failHere vk_X5_failHere dX5_readPlain_44 (by omega) rfl (Nat.zero_le _) rfl ?_
      replace e := z_ifs e; obtain ⟨c2794, e⟩ := e
      cases e
      exact z_zret dX5_readPlain_47 rfl (z_nz c2794).1
def D_X5_readPlain_2b (kr : z_H → Option Nat → Int32 → Option (Int32 × z_H)) (k2 : z_H → Option Nat → Int32 → Int32 → Option (Int32 × z_H)) (h : z_H) (l0 : Option Nat) (l1 : Int32) (l2 : Int32) : Option (Int32 × z_H) :=
  if (400:Int32) ≤ l2 then
    D_X5_readPlain_28 kr  h l0 l1 l2
  else
    (z_ob 5 h l0).bind fun _ =>
    (D_X5_isWord  h l0 (12)).bind fun p2796 =>
    if p2796.1 = 0 then
      D_X5_readPlain_28 kr  p2796.2 l0 l1 l2
    else
      (z_ob 5 p2796.2 l0).bind fun _ =>
      (D_X5_advance  p2796.2 l0).bind fun p2799 =>
      (some (l2 + (1:Int32))).bind fun x2801 =>
      k2 p2799 l0 l1 x2801
def D_X5_readPlain_2 (kr : z_H → Option Nat → Int32 → Option (Int32 × z_H)) (n : Nat) : z_H → Option Nat → Int32 → Int32 → Option (Int32 × z_H) := Nat.rec (motive := fun _ => z_H → Option Nat → Int32 → Int32 → Option (Int32 × z_H)) (fun _ _ _ _ => none) (fun _ k => D_X5_readPlain_2b kr  k) n
set_option maxRecDepth 100000 in
set_option maxHeartbeats 4000000 in
theorem S_X5_readPlain_2 {G : z_G} {l : Launch} {kr : z_H → Option Nat → Int32 → Option (Int32 × z_H)} {dk : Nat} (hkr : ∀ {h : z_H} {l0 : Option Nat} {l1 : Int32} {res : (Int32 × z_H)}, kr h l0 l1 = some res → z_Meth G l dk M_X5_readTest [z_r l0, .int l1] h res.2 (some (.int res.1))) (hdk : 60 ≤ dk)  (n : Nat) : ∀ {h : z_H} {l0 : Option Nat} {l1 : Int32} {l2 : Int32} {res : (Int32 × z_H)}, D_X5_readPlain_2 kr  n h l0 l1 l2 = some res → z_Run G l (dk + 1) M_X5_readPlain 2 [(0, z_r l0), (1, .int l1), (2, .int l2)] [] h res.2 (some (.int res.1)) := by
  induction n with
  | zero => intro h l0 l1 l2 res e; cases e
  | succ n hk2 =>
    intro h l0 l1 l2 res e
    replace e : D_X5_readPlain_2b kr  (D_X5_readPlain_2 kr  n) h l0 l1 l2 = some res := e
    unfold D_X5_readPlain_2b at e
    refine z_iload_n 2 dX5_readPlain_2 rfl ?_
    refine z_sipush (v := 400) dX5_readPlain_3 (by decide) ?_
    refine z_icmp_ge (tgt := 28) dX5_readPlain_6 (by decide) (fun c2795 => ?_) (fun c2795 => ?_)
    · rw [if_pos c2795] at e
      exact z_weak [0, 1, 2] rfl (S_X5_readPlain_28 @hkr hdk  e)
    · rw [if_neg c2795] at e
      refine z_aload_n 0 dX5_readPlain_9 rfl ?_
      refine z_ldcS (i := 8) rfl rfl dX5_readPlain_10 ?_
      replace e := z_bd e; obtain ⟨o2797, eo2797, e⟩ := e
      replace e := z_bd e; obtain ⟨p2796, ep2796, e⟩ := e
      refine z_cV [.retAddr (12)] (S_X5_isWord  ep2796) eo2797 rfl ml_X5_97 ck_X5_isWord vk_X5_isWord dX5_readPlain_12 (by omega) rfl (Nat.zero_le _) rfl ?_
      refine z_if_eq (tgt := 28) dX5_readPlain_15 (by decide) (fun c2798 => ?_) (fun c2798 => ?_)
      · rw [if_pos c2798] at e
        exact z_weak [0, 1, 2] rfl (S_X5_readPlain_28 @hkr hdk  e)
      · rw [if_neg c2798] at e
        refine z_aload_n 0 dX5_readPlain_18 rfl ?_
        replace e := z_bd e; obtain ⟨o2800, eo2800, e⟩ := e
        replace e := z_bd e; obtain ⟨p2799, ep2799, e⟩ := e
        refine z_cV [] (S_X5_advance  ep2799) eo2800 rfl ml_X5_53 ck_X5_advance vk_X5_advance dX5_readPlain_19 (by omega) rfl (Nat.zero_le _) rfl ?_
        replace e := z_bd e; obtain ⟨x2801, ex2801, e⟩ := e
        refine z_iinc (q := 2) (v := x2801) (L' := [(2, .int x2801), (0, z_r l0), (1, .int l1)]) dX5_readPlain_22 rfl (Option.some.inj ex2801) (by decide) rfl ?_
        refine z_goto (tgt := 2) dX5_readPlain_25 (by decide) ?_
        exact z_weak [1, 2, 0] rfl (hk2 e)
def D_X5_readPlain (kr : z_H → Option Nat → Int32 → Option (Int32 × z_H)) (h : z_H) (l0 : Option Nat) (l1 : Int32) : Option (Int32 × z_H) :=
  D_X5_readPlain_2 kr  z_F h l0 l1 (0:Int32)
set_option maxRecDepth 100000 in
set_option maxHeartbeats 4000000 in
theorem S_X5_readPlain {G : z_G} {l : Launch} {kr : z_H → Option Nat → Int32 → Option (Int32 × z_H)} {dk : Nat} (hkr : ∀ {h : z_H} {l0 : Option Nat} {l1 : Int32} {res : (Int32 × z_H)}, kr h l0 l1 = some res → z_Meth G l dk M_X5_readTest [z_r l0, .int l1] h res.2 (some (.int res.1))) (hdk : 60 ≤ dk) {h : z_H} {l0 : Option Nat} {l1 : Int32} {res : (Int32 × z_H)} (e : D_X5_readPlain kr h l0 l1 = some res) : z_Meth G l (dk + 1) M_X5_readPlain [z_r l0, .int l1] h res.2 (some (.int res.1)) := by
  refine z_Meth.of ck_X5_readPlain.2.2.2.2 (by simp [lg_sl, z_ci, z_cj, z_cr, z_cx]) ck_X5_readPlain.1 ?_
  rw [show lv_args 0 [z_r l0, .int l1] = [(0, z_r l0), (1, .int l1)] from by simp [lv_args, z_ci, z_cj, z_cr, z_cx]]
  unfold D_X5_readPlain at e
  refine z_iconst (v := 0) dX5_readPlain_0 (by decide) ?_
  refine z_istore_n (L' := [(2, .int (0:Int32)), (0, z_r l0), (1, .int l1)]) dX5_readPlain_1 rfl (by decide) rfl ?_
  exact z_weak [1, 2, 0] rfl (S_X5_readPlain_2 @hkr hdk  z_F e)
theorem dX7_landHere_0 : decode cX7_landHere 0 = .ok (.iload_n 1, 1) := by decide +kernel
theorem dX7_landHere_1 : decode cX7_landHere 1 = .ok (.ifCond .lt 21, 3) := by decide +kernel
theorem dX7_landHere_4 : decode cX7_landHere 4 = .ok (.iload_n 1, 1) := by decide +kernel
theorem dX7_landHere_5 : decode cX7_landHere 5 = .ok (.aload_n 0, 1) := by decide +kernel
theorem dX7_landHere_6 : decode cX7_landHere 6 = .ok (.getfield 7, 3) := by decide +kernel
theorem dX7_landHere_9 : decode cX7_landHere 9 = .ok (.if_icmp .ge 13, 3) := by decide +kernel
theorem dX7_landHere_12 : decode cX7_landHere 12 = .ok (.aload_n 0, 1) := by decide +kernel
theorem dX7_landHere_13 : decode cX7_landHere 13 = .ok (.getfield 20, 3) := by decide +kernel
theorem dX7_landHere_16 : decode cX7_landHere 16 = .ok (.iload_n 1, 1) := by decide +kernel
theorem dX7_landHere_17 : decode cX7_landHere 17 = .ok (.aload_n 0, 1) := by decide +kernel
theorem dX7_landHere_18 : decode cX7_landHere 18 = .ok (.getfield 7, 3) := by decide +kernel
theorem dX7_landHere_21 : decode cX7_landHere 21 = .ok (.iastore, 1) := by decide +kernel
theorem dX7_landHere_22 : decode cX7_landHere 22 = .ok (.return_, 1) := by decide +kernel
def D_X7_landHere (h : z_H) (l0 : Option Nat) (l1 : Int32) : Option z_H :=
  if l1 < 0 then
    some h
  else
    (z_gI 7 h l0 3).bind fun x2803 =>
    if x2803 ≤ l1 then
      some h
    else
      (z_gQ 7 h l0 1).bind fun x2805 =>
      (z_gI 7 h l0 3).bind fun x2806 =>
      (z_sI h x2805 l1 x2806).bind fun h2807 =>
      some h2807
set_option maxRecDepth 100000 in
set_option maxHeartbeats 4000000 in
theorem S_X7_landHere {G : z_G} {l : Launch} {h : z_H} {l0 : Option Nat} {l1 : Int32} {res : z_H} (e : D_X7_landHere h l0 l1 = some res) : z_Meth G l 4 M_X7_landHere [z_r l0, .int l1] h res none := by
  refine z_Meth.of ck_X7_landHere.2.2.2.2 (by simp [lg_sl, z_ci, z_cj, z_cr, z_cx]) ck_X7_landHere.1 ?_
  rw [show lv_args 0 [z_r l0, .int l1] = [(0, z_r l0), (1, .int l1)] from by simp [lv_args, z_ci, z_cj, z_cr, z_cx]]
  unfold D_X7_landHere at e
  refine z_iload_n 1 dX7_landHere_0 rfl ?_
  refine z_if_lt (tgt := 22) dX7_landHere_1 (by decide) (fun c2802 => ?_) (fun c2802 => ?_)
  · rw [if_pos c2802] at e
    cases e
    exact z_vret dX7_landHere_22 rfl
  · rw [if_neg c2802] at e
    refine z_iload_n 1 dX7_landHere_4 rfl ?_
    refine z_aload_n 0 dX7_landHere_5 rfl ?_
    replace e := z_bd e; obtain ⟨x2803, ex2803, e⟩ := e
    refine z_getI ex2803 lk_X7_7 dX7_landHere_6 ?_
    refine z_icmp_ge (tgt := 22) dX7_landHere_9 (by decide) (fun c2804 => ?_) (fun c2804 => ?_)
    · rw [if_pos c2804] at e
      cases e
      exact z_vret dX7_landHere_22 rfl
    · rw [if_neg c2804] at e
      refine z_aload_n 0 dX7_landHere_12 rfl ?_
      replace e := z_bd e; obtain ⟨x2805, ex2805, e⟩ := e
      refine z_getQ ex2805 lk_X7_20 dX7_landHere_13 ?_
      refine z_iload_n 1 dX7_landHere_16 rfl ?_
      refine z_aload_n 0 dX7_landHere_17 rfl ?_
      replace e := z_bd e; obtain ⟨x2806, ex2806, e⟩ := e
      refine z_getI ex2806 lk_X7_7 dX7_landHere_18 ?_
      replace e := z_bd e; obtain ⟨h2807, eh2807, e⟩ := e
      refine z_iast eh2807 dX7_landHere_21 ?_
      cases e
      exact z_vret dX7_landHere_22 rfl
theorem dX5_readBoth_0 : decode cX5_readBoth 0 = .ok (.aload_n 0, 1) := by decide +kernel
theorem dX5_readBoth_1 : decode cX5_readBoth 1 = .ok (.iload_n 1, 1) := by decide +kernel
theorem dX5_readBoth_2 : decode cX5_readBoth 2 = .ok (.invokevirtual 146, 3) := by decide +kernel
theorem dX5_readBoth_5 : decode cX5_readBoth 5 = .ok (.istore_n 2, 1) := by decide +kernel
theorem dX5_readBoth_6 : decode cX5_readBoth 6 = .ok (.iconst 0, 1) := by decide +kernel
theorem dX5_readBoth_7 : decode cX5_readBoth 7 = .ok (.istore_n 3, 1) := by decide +kernel
theorem dX5_readBoth_8 : decode cX5_readBoth 8 = .ok (.iload_n 3, 1) := by decide +kernel
theorem dX5_readBoth_9 : decode cX5_readBoth 9 = .ok (.sipush 400, 3) := by decide +kernel
theorem dX5_readBoth_12 : decode cX5_readBoth 12 = .ok (.if_icmp .ge 59, 3) := by decide +kernel
theorem dX5_readBoth_15 : decode cX5_readBoth 15 = .ok (.iload_n 2, 1) := by decide +kernel
theorem dX5_readBoth_16 : decode cX5_readBoth 16 = .ok (.ifCond .eq 55, 3) := by decide +kernel
theorem dX5_readBoth_19 : decode cX5_readBoth 19 = .ok (.aload_n 0, 1) := by decide +kernel
theorem dX5_readBoth_20 : decode cX5_readBoth 20 = .ok (.ldc 149, 2) := by decide +kernel
theorem dX5_readBoth_22 : decode cX5_readBoth 22 = .ok (.invokevirtual 97, 3) := by decide +kernel
theorem dX5_readBoth_25 : decode cX5_readBoth 25 = .ok (.ifCond .eq 46, 3) := by decide +kernel
theorem dX5_readBoth_28 : decode cX5_readBoth 28 = .ok (.aload_n 0, 1) := by decide +kernel
theorem dX5_readBoth_29 : decode cX5_readBoth 29 = .ok (.getfield 20, 3) := by decide +kernel
theorem dX5_readBoth_32 : decode cX5_readBoth 32 = .ok (.getfield 109, 3) := by decide +kernel
theorem dX5_readBoth_35 : decode cX5_readBoth 35 = .ok (.istore 4, 2) := by decide +kernel
theorem dX5_readBoth_37 : decode cX5_readBoth 37 = .ok (.aload_n 0, 1) := by decide +kernel
theorem dX5_readBoth_38 : decode cX5_readBoth 38 = .ok (.getfield 20, 3) := by decide +kernel
theorem dX5_readBoth_41 : decode cX5_readBoth 41 = .ok (.iconst 3, 1) := by decide +kernel
theorem dX5_readBoth_42 : decode cX5_readBoth 42 = .ok (.iconst 0, 1) := by decide +kernel
theorem dX5_readBoth_43 : decode cX5_readBoth 43 = .ok (.invokevirtual 139, 3) := by decide +kernel
theorem dX5_readBoth_46 : decode cX5_readBoth 46 = .ok (.aload_n 0, 1) := by decide +kernel
theorem dX5_readBoth_47 : decode cX5_readBoth 47 = .ok (.invokevirtual 53, 3) := by decide +kernel
theorem dX5_readBoth_50 : decode cX5_readBoth 50 = .ok (.aload_n 0, 1) := by decide +kernel
theorem dX5_readBoth_51 : decode cX5_readBoth 51 = .ok (.iload_n 1, 1) := by decide +kernel
theorem dX5_readBoth_52 : decode cX5_readBoth 52 = .ok (.invokevirtual 146, 3) := by decide +kernel
theorem dX5_readBoth_55 : decode cX5_readBoth 55 = .ok (.istore_n 2, 1) := by decide +kernel
theorem dX5_readBoth_56 : decode cX5_readBoth 56 = .ok (.aload_n 0, 1) := by decide +kernel
theorem dX5_readBoth_57 : decode cX5_readBoth 57 = .ok (.getfield 20, 3) := by decide +kernel
theorem dX5_readBoth_60 : decode cX5_readBoth 60 = .ok (.iload 4, 2) := by decide +kernel
theorem dX5_readBoth_62 : decode cX5_readBoth 62 = .ok (.invokevirtual 142, 3) := by decide +kernel
theorem dX5_readBoth_65 : decode cX5_readBoth 65 = .ok (.iinc 3 1, 3) := by decide +kernel
theorem dX5_readBoth_68 : decode cX5_readBoth 68 = .ok (.goto (-60), 3) := by decide +kernel
theorem dX5_readBoth_71 : decode cX5_readBoth 71 = .ok (.iload_n 2, 1) := by decide +kernel
theorem dX5_readBoth_72 : decode cX5_readBoth 72 = .ok (.ireturn, 1) := by decide +kernel
def D_X5_readBoth_8b (kr : z_H → Option Nat → Int32 → Option (Int32 × z_H)) (k8 : z_H → Option Nat → Int32 → Int32 → Int32 → Option (Int32 × z_H)) (h : z_H) (l0 : Option Nat) (l1 : Int32) (l2 : Int32) (l3 : Int32) : Option (Int32 × z_H) :=
  if (400:Int32) ≤ l3 then
    if l2 = 0 ∨ l2 = 1 then some (l2, h) else none
  else
    if l2 = 0 then
      if l2 = 0 ∨ l2 = 1 then some (l2, h) else none
    else
      (z_ob 5 h l0).bind fun _ =>
      (D_X5_isWord  h l0 (13)).bind fun p2812 =>
      if p2812.1 = 0 then
        if l2 = 0 ∨ l2 = 1 then some (l2, p2812.2) else none
      else
        (z_gQ 5 p2812.2 l0 1).bind fun x2816 =>
        (z_gI 7 p2812.2 x2816 3).bind fun x2817 =>
        (z_gQ 5 p2812.2 l0 1).bind fun x2818 =>
        (z_ob 7 p2812.2 x2818).bind fun _ =>
        (D_X7_emit  p2812.2 x2818 (3:Int32) (0:Int32)).bind fun p2819 =>
        (z_ob 5 p2819 l0).bind fun _ =>
        (D_X5_advance  p2819 l0).bind fun p2821 =>
        (z_ob 5 p2821 l0).bind fun _ =>
        (D_X5_readPlain kr p2821 l0 l1).bind fun p2823 =>
        (z_gQ 5 p2823.2 l0 1).bind fun x2825 =>
        (z_ob 7 p2823.2 x2825).bind fun _ =>
        (D_X7_landHere  p2823.2 x2825 x2817).bind fun p2826 =>
        (some (l3 + (1:Int32))).bind fun x2828 =>
        k8 p2826 l0 l1 p2823.1 x2828
def D_X5_readBoth_8 (kr : z_H → Option Nat → Int32 → Option (Int32 × z_H)) (n : Nat) : z_H → Option Nat → Int32 → Int32 → Int32 → Option (Int32 × z_H) := Nat.rec (motive := fun _ => z_H → Option Nat → Int32 → Int32 → Int32 → Option (Int32 × z_H)) (fun _ _ _ _ _ => none) (fun _ k => D_X5_readBoth_8b kr  k) n
set_option maxRecDepth 100000 in
set_option maxHeartbeats 4000000 in
theorem S_X5_readBoth_8 {G : z_G} {l : Launch} {kr : z_H → Option Nat → Int32 → Option (Int32 × z_H)} {dk : Nat} (hkr : ∀ {h : z_H} {l0 : Option Nat} {l1 : Int32} {res : (Int32 × z_H)}, kr h l0 l1 = some res → z_Meth G l dk M_X5_readTest [z_r l0, .int l1] h res.2 (some (.int res.1))) (hdk : 60 ≤ dk)  (n : Nat) : ∀ {h : z_H} {l0 : Option Nat} {l1 : Int32} {l2 : Int32} {l3 : Int32} {res : (Int32 × z_H)}, D_X5_readBoth_8 kr  n h l0 l1 l2 l3 = some res → z_Run G l (dk + 2) M_X5_readBoth 8 [(0, z_r l0), (1, .int l1), (2, .int l2), (3, .int l3)] [] h res.2 (some (.int res.1)) := by
  induction n with
  | zero => intro h l0 l1 l2 l3 res e; cases e
  | succ n hk8 =>
    intro h l0 l1 l2 l3 res e
    replace e : D_X5_readBoth_8b kr  (D_X5_readBoth_8 kr  n) h l0 l1 l2 l3 = some res := e
    unfold D_X5_readBoth_8b at e
    refine z_iload_n 3 dX5_readBoth_8 rfl ?_
    refine z_sipush (v := 400) dX5_readBoth_9 (by decide) ?_
    refine z_icmp_ge (tgt := 71) dX5_readBoth_12 (by decide) (fun c2808 => ?_) (fun c2808 => ?_)
    · rw [if_pos c2808] at e
      refine z_iload_n 2 dX5_readBoth_71 rfl ?_
      replace e := z_ifs e; obtain ⟨c2809, e⟩ := e
      cases e
      exact z_zret dX5_readBoth_72 rfl (z_nz c2809).1
    · rw [if_neg c2808] at e
      refine z_iload_n 2 dX5_readBoth_15 rfl ?_
      refine z_if_eq (tgt := 71) dX5_readBoth_16 (by decide) (fun c2810 => ?_) (fun c2810 => ?_)
      · rw [if_pos c2810] at e
        refine z_iload_n 2 dX5_readBoth_71 rfl ?_
        replace e := z_ifs e; obtain ⟨c2811, e⟩ := e
        cases e
        exact z_zret dX5_readBoth_72 rfl (z_nz c2811).1
      · rw [if_neg c2810] at e
        refine z_aload_n 0 dX5_readBoth_19 rfl ?_
        refine z_ldcS (i := 9) rfl rfl dX5_readBoth_20 ?_
        replace e := z_bd e; obtain ⟨o2813, eo2813, e⟩ := e
        replace e := z_bd e; obtain ⟨p2812, ep2812, e⟩ := e
        refine z_cV [.retAddr (13)] (S_X5_isWord  ep2812) eo2813 rfl ml_X5_97 ck_X5_isWord vk_X5_isWord dX5_readBoth_22 (by omega) rfl (Nat.zero_le _) rfl ?_
        refine z_if_eq (tgt := 71) dX5_readBoth_25 (by decide) (fun c2814 => ?_) (fun c2814 => ?_)
        · rw [if_pos c2814] at e
          refine z_iload_n 2 dX5_readBoth_71 rfl ?_
          replace e := z_ifs e; obtain ⟨c2815, e⟩ := e
          cases e
          exact z_zret dX5_readBoth_72 rfl (z_nz c2815).1
        · rw [if_neg c2814] at e
          refine z_aload_n 0 dX5_readBoth_28 rfl ?_
          replace e := z_bd e; obtain ⟨x2816, ex2816, e⟩ := e
          refine z_getQ ex2816 lk_X5_20 dX5_readBoth_29 ?_
          replace e := z_bd e; obtain ⟨x2817, ex2817, e⟩ := e
          refine z_getI ex2817 lk_X5_109 dX5_readBoth_32 ?_
          refine z_istore (L' := [(4, .int x2817), (0, z_r l0), (1, .int l1), (2, .int l2), (3, .int l3)]) dX5_readBoth_35 (by decide) rfl ?_
          refine z_aload_n 1 dX5_readBoth_37 rfl ?_
          replace e := z_bd e; obtain ⟨x2818, ex2818, e⟩ := e
          refine z_getQ ex2818 lk_X5_20 dX5_readBoth_38 ?_
          refine z_iconst (v := 3) dX5_readBoth_41 (by decide) ?_
          refine z_iconst (v := 0) dX5_readBoth_42 (by decide) ?_
          replace e := z_bd e; obtain ⟨o2820, eo2820, e⟩ := e
          replace e := z_bd e; obtain ⟨p2819, ep2819, e⟩ := e
          refine z_cV [.int (3:Int32), .int (0:Int32)] (S_X7_emit  ep2819) eo2820 rfl ml_X5_139 ck_X7_emit vk_X7_emit dX5_readBoth_43 (by omega) rfl (Nat.zero_le _) rfl ?_
          refine z_aload_n 1 dX5_readBoth_46 rfl ?_
          replace e := z_bd e; obtain ⟨o2822, eo2822, e⟩ := e
          replace e := z_bd e; obtain ⟨p2821, ep2821, e⟩ := e
          refine z_cV [] (S_X5_advance  ep2821) eo2822 rfl ml_X5_53 ck_X5_advance vk_X5_advance dX5_readBoth_47 (by omega) rfl (Nat.zero_le _) rfl ?_
          refine z_aload_n 1 dX5_readBoth_50 rfl ?_
          refine z_iload_n 2 dX5_readBoth_51 rfl ?_
          replace e := z_bd e; obtain ⟨o2824, eo2824, e⟩ := e
          replace e := z_bd e; obtain ⟨p2823, ep2823, e⟩ := e
          refine z_cV [.int l1] (S_X5_readPlain @hkr hdk ep2823) eo2824 rfl ml_X5_146 ck_X5_readPlain vk_X5_readPlain dX5_readBoth_52 (by omega) rfl (Nat.zero_le _) rfl ?_
          refine z_istore_n (L' := [(2, .int p2823.1), (4, .int x2817), (0, z_r l0), (1, .int l1), (3, .int l3)]) dX5_readBoth_55 rfl (by decide) rfl ?_
          refine z_aload_n 2 dX5_readBoth_56 rfl ?_
          replace e := z_bd e; obtain ⟨x2825, ex2825, e⟩ := e
          refine z_getQ ex2825 lk_X5_20 dX5_readBoth_57 ?_
          refine z_iload 1 dX5_readBoth_60 rfl ?_
          replace e := z_bd e; obtain ⟨o2827, eo2827, e⟩ := e
          replace e := z_bd e; obtain ⟨p2826, ep2826, e⟩ := e
          refine z_cV [.int x2817] (S_X7_landHere  ep2826) eo2827 rfl ml_X5_142 ck_X7_landHere vk_X7_landHere dX5_readBoth_62 (by omega) rfl (Nat.zero_le _) rfl ?_
          replace e := z_bd e; obtain ⟨x2828, ex2828, e⟩ := e
          refine z_iinc (q := 4) (v := x2828) (L' := [(3, .int x2828), (2, .int p2823.1), (4, .int x2817), (0, z_r l0), (1, .int l1)]) dX5_readBoth_65 rfl (Option.some.inj ex2828) (by decide) rfl ?_
          refine z_goto (tgt := 8) dX5_readBoth_68 (by decide) ?_
          exact z_weak [3, 4, 1, 0] rfl (hk8 e)
def D_X5_readBoth (kr : z_H → Option Nat → Int32 → Option (Int32 × z_H)) (h : z_H) (l0 : Option Nat) (l1 : Int32) : Option (Int32 × z_H) :=
  (z_ob 5 h l0).bind fun _ =>
  (D_X5_readPlain kr h l0 l1).bind fun p2829 =>
  D_X5_readBoth_8 kr  z_F p2829.2 l0 l1 p2829.1 (0:Int32)
set_option maxRecDepth 100000 in
set_option maxHeartbeats 4000000 in
theorem S_X5_readBoth {G : z_G} {l : Launch} {kr : z_H → Option Nat → Int32 → Option (Int32 × z_H)} {dk : Nat} (hkr : ∀ {h : z_H} {l0 : Option Nat} {l1 : Int32} {res : (Int32 × z_H)}, kr h l0 l1 = some res → z_Meth G l dk M_X5_readTest [z_r l0, .int l1] h res.2 (some (.int res.1))) (hdk : 60 ≤ dk) {h : z_H} {l0 : Option Nat} {l1 : Int32} {res : (Int32 × z_H)} (e : D_X5_readBoth kr h l0 l1 = some res) : z_Meth G l (dk + 2) M_X5_readBoth [z_r l0, .int l1] h res.2 (some (.int res.1)) := by
  refine z_Meth.of ck_X5_readBoth.2.2.2.2 (by simp [lg_sl, z_ci, z_cj, z_cr, z_cx]) ck_X5_readBoth.1 ?_
  rw [show lv_args 0 [z_r l0, .int l1] = [(0, z_r l0), (1, .int l1)] from by simp [lv_args, z_ci, z_cj, z_cr, z_cx]]
  unfold D_X5_readBoth at e
  refine z_aload_n 0 dX5_readBoth_0 rfl ?_
  refine z_iload_n 1 dX5_readBoth_1 rfl ?_
  replace e := z_bd e; obtain ⟨o2830, eo2830, e⟩ := e
  replace e := z_bd e; obtain ⟨p2829, ep2829, e⟩ := e
  refine z_cV [.int l1] (S_X5_readPlain @hkr hdk ep2829) eo2830 rfl ml_X5_146 ck_X5_readPlain vk_X5_readPlain dX5_readBoth_2 (by omega) rfl (Nat.zero_le _) rfl ?_
  refine z_istore_n (L' := [(2, .int p2829.1), (0, z_r l0), (1, .int l1)]) dX5_readBoth_5 rfl (by decide) rfl ?_
  refine z_iconst (v := 0) dX5_readBoth_6 (by decide) ?_
  refine z_istore_n (L' := [(3, .int (0:Int32)), (2, .int p2829.1), (0, z_r l0), (1, .int l1)]) dX5_readBoth_7 rfl (by decide) rfl ?_
  exact z_weak [2, 3, 1, 0] rfl (S_X5_readBoth_8 @hkr hdk  z_F e)
theorem dX5_readTest_0 : decode cX5_readTest 0 = .ok (.aload_n 0, 1) := by decide +kernel
theorem dX5_readTest_1 : decode cX5_readTest 1 = .ok (.iload_n 1, 1) := by decide +kernel
theorem dX5_readTest_2 : decode cX5_readTest 2 = .ok (.invokevirtual 134, 3) := by decide +kernel
theorem dX5_readTest_5 : decode cX5_readTest 5 = .ok (.istore_n 2, 1) := by decide +kernel
theorem dX5_readTest_6 : decode cX5_readTest 6 = .ok (.iconst 0, 1) := by decide +kernel
theorem dX5_readTest_7 : decode cX5_readTest 7 = .ok (.istore_n 3, 1) := by decide +kernel
theorem dX5_readTest_8 : decode cX5_readTest 8 = .ok (.iload_n 3, 1) := by decide +kernel
theorem dX5_readTest_9 : decode cX5_readTest 9 = .ok (.sipush 400, 3) := by decide +kernel
theorem dX5_readTest_12 : decode cX5_readTest 12 = .ok (.if_icmp .ge 59, 3) := by decide +kernel
theorem dX5_readTest_15 : decode cX5_readTest 15 = .ok (.iload_n 2, 1) := by decide +kernel
theorem dX5_readTest_16 : decode cX5_readTest 16 = .ok (.ifCond .eq 55, 3) := by decide +kernel
theorem dX5_readTest_19 : decode cX5_readTest 19 = .ok (.aload_n 0, 1) := by decide +kernel
theorem dX5_readTest_20 : decode cX5_readTest 20 = .ok (.ldc 137, 2) := by decide +kernel
theorem dX5_readTest_22 : decode cX5_readTest 22 = .ok (.invokevirtual 97, 3) := by decide +kernel
theorem dX5_readTest_25 : decode cX5_readTest 25 = .ok (.ifCond .eq 46, 3) := by decide +kernel
theorem dX5_readTest_28 : decode cX5_readTest 28 = .ok (.aload_n 0, 1) := by decide +kernel
theorem dX5_readTest_29 : decode cX5_readTest 29 = .ok (.getfield 20, 3) := by decide +kernel
theorem dX5_readTest_32 : decode cX5_readTest 32 = .ok (.getfield 109, 3) := by decide +kernel
theorem dX5_readTest_35 : decode cX5_readTest 35 = .ok (.istore 4, 2) := by decide +kernel
theorem dX5_readTest_37 : decode cX5_readTest 37 = .ok (.aload_n 0, 1) := by decide +kernel
theorem dX5_readTest_38 : decode cX5_readTest 38 = .ok (.getfield 20, 3) := by decide +kernel
theorem dX5_readTest_41 : decode cX5_readTest 41 = .ok (.iconst 4, 1) := by decide +kernel
theorem dX5_readTest_42 : decode cX5_readTest 42 = .ok (.iconst 0, 1) := by decide +kernel
theorem dX5_readTest_43 : decode cX5_readTest 43 = .ok (.invokevirtual 139, 3) := by decide +kernel
theorem dX5_readTest_46 : decode cX5_readTest 46 = .ok (.aload_n 0, 1) := by decide +kernel
theorem dX5_readTest_47 : decode cX5_readTest 47 = .ok (.invokevirtual 53, 3) := by decide +kernel
theorem dX5_readTest_50 : decode cX5_readTest 50 = .ok (.aload_n 0, 1) := by decide +kernel
theorem dX5_readTest_51 : decode cX5_readTest 51 = .ok (.iload_n 1, 1) := by decide +kernel
theorem dX5_readTest_52 : decode cX5_readTest 52 = .ok (.invokevirtual 134, 3) := by decide +kernel
theorem dX5_readTest_55 : decode cX5_readTest 55 = .ok (.istore_n 2, 1) := by decide +kernel
theorem dX5_readTest_56 : decode cX5_readTest 56 = .ok (.aload_n 0, 1) := by decide +kernel
theorem dX5_readTest_57 : decode cX5_readTest 57 = .ok (.getfield 20, 3) := by decide +kernel
theorem dX5_readTest_60 : decode cX5_readTest 60 = .ok (.iload 4, 2) := by decide +kernel
theorem dX5_readTest_62 : decode cX5_readTest 62 = .ok (.invokevirtual 142, 3) := by decide +kernel
theorem dX5_readTest_65 : decode cX5_readTest 65 = .ok (.iinc 3 1, 3) := by decide +kernel
theorem dX5_readTest_68 : decode cX5_readTest 68 = .ok (.goto (-60), 3) := by decide +kernel
theorem dX5_readTest_71 : decode cX5_readTest 71 = .ok (.iload_n 2, 1) := by decide +kernel
theorem dX5_readTest_72 : decode cX5_readTest 72 = .ok (.ireturn, 1) := by decide +kernel
def D_X5_readTestB_8b (kr : z_H → Option Nat → Int32 → Option (Int32 × z_H)) (k8 : z_H → Option Nat → Int32 → Int32 → Int32 → Option (Int32 × z_H)) (h : z_H) (l0 : Option Nat) (l1 : Int32) (l2 : Int32) (l3 : Int32) : Option (Int32 × z_H) :=
  if (400:Int32) ≤ l3 then
    if l2 = 0 ∨ l2 = 1 then some (l2, h) else none
  else
    if l2 = 0 then
      if l2 = 0 ∨ l2 = 1 then some (l2, h) else none
    else
      (z_ob 5 h l0).bind fun _ =>
      (D_X5_isWord  h l0 (14)).bind fun p2835 =>
      if p2835.1 = 0 then
        if l2 = 0 ∨ l2 = 1 then some (l2, p2835.2) else none
      else
        (z_gQ 5 p2835.2 l0 1).bind fun x2839 =>
        (z_gI 7 p2835.2 x2839 3).bind fun x2840 =>
        (z_gQ 5 p2835.2 l0 1).bind fun x2841 =>
        (z_ob 7 p2835.2 x2841).bind fun _ =>
        (D_X7_emit  p2835.2 x2841 (4:Int32) (0:Int32)).bind fun p2842 =>
        (z_ob 5 p2842 l0).bind fun _ =>
        (D_X5_advance  p2842 l0).bind fun p2844 =>
        (z_ob 5 p2844 l0).bind fun _ =>
        (D_X5_readBoth kr p2844 l0 l1).bind fun p2846 =>
        (z_gQ 5 p2846.2 l0 1).bind fun x2848 =>
        (z_ob 7 p2846.2 x2848).bind fun _ =>
        (D_X7_landHere  p2846.2 x2848 x2840).bind fun p2849 =>
        (some (l3 + (1:Int32))).bind fun x2851 =>
        k8 p2849 l0 l1 p2846.1 x2851
def D_X5_readTestB_8 (kr : z_H → Option Nat → Int32 → Option (Int32 × z_H)) (n : Nat) : z_H → Option Nat → Int32 → Int32 → Int32 → Option (Int32 × z_H) := Nat.rec (motive := fun _ => z_H → Option Nat → Int32 → Int32 → Int32 → Option (Int32 × z_H)) (fun _ _ _ _ _ => none) (fun _ k => D_X5_readTestB_8b kr  k) n
set_option maxRecDepth 100000 in
set_option maxHeartbeats 4000000 in
theorem S_X5_readTestB_8 {G : z_G} {l : Launch} {kr : z_H → Option Nat → Int32 → Option (Int32 × z_H)} {dk : Nat} (hkr : ∀ {h : z_H} {l0 : Option Nat} {l1 : Int32} {res : (Int32 × z_H)}, kr h l0 l1 = some res → z_Meth G l dk M_X5_readTest [z_r l0, .int l1] h res.2 (some (.int res.1))) (hdk : 60 ≤ dk)  (n : Nat) : ∀ {h : z_H} {l0 : Option Nat} {l1 : Int32} {l2 : Int32} {l3 : Int32} {res : (Int32 × z_H)}, D_X5_readTestB_8 kr  n h l0 l1 l2 l3 = some res → z_Run G l (dk + 3) M_X5_readTest 8 [(0, z_r l0), (1, .int l1), (2, .int l2), (3, .int l3)] [] h res.2 (some (.int res.1)) := by
  induction n with
  | zero => intro h l0 l1 l2 l3 res e; cases e
  | succ n hk8 =>
    intro h l0 l1 l2 l3 res e
    replace e : D_X5_readTestB_8b kr  (D_X5_readTestB_8 kr  n) h l0 l1 l2 l3 = some res := e
    unfold D_X5_readTestB_8b at e
    refine z_iload_n 3 dX5_readTest_8 rfl ?_
    refine z_sipush (v := 400) dX5_readTest_9 (by decide) ?_
    refine z_icmp_ge (tgt := 71) dX5_readTest_12 (by decide) (fun c2831 => ?_) (fun c2831 => ?_)
    · rw [if_pos c2831] at e
      refine z_iload_n 2 dX5_readTest_71 rfl ?_
      replace e := z_ifs e; obtain ⟨c2832, e⟩ := e
      cases e
      exact z_zret dX5_readTest_72 rfl (z_nz c2832).1
    · rw [if_neg c2831] at e
      refine z_iload_n 2 dX5_readTest_15 rfl ?_
      refine z_if_eq (tgt := 71) dX5_readTest_16 (by decide) (fun c2833 => ?_) (fun c2833 => ?_)
      · rw [if_pos c2833] at e
        refine z_iload_n 2 dX5_readTest_71 rfl ?_
        replace e := z_ifs e; obtain ⟨c2834, e⟩ := e
        cases e
        exact z_zret dX5_readTest_72 rfl (z_nz c2834).1
      · rw [if_neg c2833] at e
        refine z_aload_n 0 dX5_readTest_19 rfl ?_
        refine z_ldcS (i := 10) rfl rfl dX5_readTest_20 ?_
        replace e := z_bd e; obtain ⟨o2836, eo2836, e⟩ := e
        replace e := z_bd e; obtain ⟨p2835, ep2835, e⟩ := e
        refine z_cV [.retAddr (14)] (S_X5_isWord  ep2835) eo2836 rfl ml_X5_97 ck_X5_isWord vk_X5_isWord dX5_readTest_22 (by omega) rfl (Nat.zero_le _) rfl ?_
        refine z_if_eq (tgt := 71) dX5_readTest_25 (by decide) (fun c2837 => ?_) (fun c2837 => ?_)
        · rw [if_pos c2837] at e
          refine z_iload_n 2 dX5_readTest_71 rfl ?_
          replace e := z_ifs e; obtain ⟨c2838, e⟩ := e
          cases e
          exact z_zret dX5_readTest_72 rfl (z_nz c2838).1
        · rw [if_neg c2837] at e
          refine z_aload_n 0 dX5_readTest_28 rfl ?_
          replace e := z_bd e; obtain ⟨x2839, ex2839, e⟩ := e
          refine z_getQ ex2839 lk_X5_20 dX5_readTest_29 ?_
          replace e := z_bd e; obtain ⟨x2840, ex2840, e⟩ := e
          refine z_getI ex2840 lk_X5_109 dX5_readTest_32 ?_
          refine z_istore (L' := [(4, .int x2840), (0, z_r l0), (1, .int l1), (2, .int l2), (3, .int l3)]) dX5_readTest_35 (by decide) rfl ?_
          refine z_aload_n 1 dX5_readTest_37 rfl ?_
          replace e := z_bd e; obtain ⟨x2841, ex2841, e⟩ := e
          refine z_getQ ex2841 lk_X5_20 dX5_readTest_38 ?_
          refine z_iconst (v := 4) dX5_readTest_41 (by decide) ?_
          refine z_iconst (v := 0) dX5_readTest_42 (by decide) ?_
          replace e := z_bd e; obtain ⟨o2843, eo2843, e⟩ := e
          replace e := z_bd e; obtain ⟨p2842, ep2842, e⟩ := e
          refine z_cV [.int (4:Int32), .int (0:Int32)] (S_X7_emit  ep2842) eo2843 rfl ml_X5_139 ck_X7_emit vk_X7_emit dX5_readTest_43 (by omega) rfl (Nat.zero_le _) rfl ?_
          refine z_aload_n 1 dX5_readTest_46 rfl ?_
          replace e := z_bd e; obtain ⟨o2845, eo2845, e⟩ := e
          replace e := z_bd e; obtain ⟨p2844, ep2844, e⟩ := e
          refine z_cV [] (S_X5_advance  ep2844) eo2845 rfl ml_X5_53 ck_X5_advance vk_X5_advance dX5_readTest_47 (by omega) rfl (Nat.zero_le _) rfl ?_
          refine z_aload_n 1 dX5_readTest_50 rfl ?_
          refine z_iload_n 2 dX5_readTest_51 rfl ?_
          replace e := z_bd e; obtain ⟨o2847, eo2847, e⟩ := e
          replace e := z_bd e; obtain ⟨p2846, ep2846, e⟩ := e
          refine z_cV [.int l1] (S_X5_readBoth @hkr hdk ep2846) eo2847 rfl ml_X5_134 ck_X5_readBoth vk_X5_readBoth dX5_readTest_52 (by omega) rfl (Nat.zero_le _) rfl ?_
          refine z_istore_n (L' := [(2, .int p2846.1), (4, .int x2840), (0, z_r l0), (1, .int l1), (3, .int l3)]) dX5_readTest_55 rfl (by decide) rfl ?_
          refine z_aload_n 2 dX5_readTest_56 rfl ?_
          replace e := z_bd e; obtain ⟨x2848, ex2848, e⟩ := e
          refine z_getQ ex2848 lk_X5_20 dX5_readTest_57 ?_
          refine z_iload 1 dX5_readTest_60 rfl ?_
          replace e := z_bd e; obtain ⟨o2850, eo2850, e⟩ := e
          replace e := z_bd e; obtain ⟨p2849, ep2849, e⟩ := e
          refine z_cV [.int x2840] (S_X7_landHere  ep2849) eo2850 rfl ml_X5_142 ck_X7_landHere vk_X7_landHere dX5_readTest_62 (by omega) rfl (Nat.zero_le _) rfl ?_
          replace e := z_bd e; obtain ⟨x2851, ex2851, e⟩ := e
          refine z_iinc (q := 4) (v := x2851) (L' := [(3, .int x2851), (2, .int p2846.1), (4, .int x2840), (0, z_r l0), (1, .int l1)]) dX5_readTest_65 rfl (Option.some.inj ex2851) (by decide) rfl ?_
          refine z_goto (tgt := 8) dX5_readTest_68 (by decide) ?_
          exact z_weak [3, 4, 1, 0] rfl (hk8 e)
def D_X5_readTestB (kr : z_H → Option Nat → Int32 → Option (Int32 × z_H)) (h : z_H) (l0 : Option Nat) (l1 : Int32) : Option (Int32 × z_H) :=
  (z_ob 5 h l0).bind fun _ =>
  (D_X5_readBoth kr h l0 l1).bind fun p2852 =>
  D_X5_readTestB_8 kr  z_F p2852.2 l0 l1 p2852.1 (0:Int32)
set_option maxRecDepth 100000 in
set_option maxHeartbeats 4000000 in
theorem S_X5_readTestB {G : z_G} {l : Launch} {kr : z_H → Option Nat → Int32 → Option (Int32 × z_H)} {dk : Nat} (hkr : ∀ {h : z_H} {l0 : Option Nat} {l1 : Int32} {res : (Int32 × z_H)}, kr h l0 l1 = some res → z_Meth G l dk M_X5_readTest [z_r l0, .int l1] h res.2 (some (.int res.1))) (hdk : 60 ≤ dk) {h : z_H} {l0 : Option Nat} {l1 : Int32} {res : (Int32 × z_H)} (e : D_X5_readTestB kr h l0 l1 = some res) : z_Meth G l (dk + 3) M_X5_readTest [z_r l0, .int l1] h res.2 (some (.int res.1)) := by
  refine z_Meth.of ck_X5_readTest.2.2.2.2 (by simp [lg_sl, z_ci, z_cj, z_cr, z_cx]) ck_X5_readTest.1 ?_
  rw [show lv_args 0 [z_r l0, .int l1] = [(0, z_r l0), (1, .int l1)] from by simp [lv_args, z_ci, z_cj, z_cr, z_cx]]
  unfold D_X5_readTestB at e
  refine z_aload_n 0 dX5_readTest_0 rfl ?_
  refine z_iload_n 1 dX5_readTest_1 rfl ?_
  replace e := z_bd e; obtain ⟨o2853, eo2853, e⟩ := e
  replace e := z_bd e; obtain ⟨p2852, ep2852, e⟩ := e
  refine z_cV [.int l1] (S_X5_readBoth @hkr hdk ep2852) eo2853 rfl ml_X5_134 ck_X5_readBoth vk_X5_readBoth dX5_readTest_2 (by omega) rfl (Nat.zero_le _) rfl ?_
  refine z_istore_n (L' := [(2, .int p2852.1), (0, z_r l0), (1, .int l1)]) dX5_readTest_5 rfl (by decide) rfl ?_
  refine z_iconst (v := 0) dX5_readTest_6 (by decide) ?_
  refine z_istore_n (L' := [(3, .int (0:Int32)), (2, .int p2852.1), (0, z_r l0), (1, .int l1)]) dX5_readTest_7 rfl (by decide) rfl ?_
  exact z_weak [2, 3, 1, 0] rfl (S_X5_readTestB_8 @hkr hdk  z_F e)
def D_X5_readTest (n : Nat) : z_H → Option Nat → Int32 → Option (Int32 × z_H) := Nat.rec (motive := fun _ => z_H → Option Nat → Int32 → Option (Int32 × z_H)) (fun _ _ _ => none) (fun _ k => D_X5_readTestB k) n
set_option maxRecDepth 100000 in
set_option maxHeartbeats 4000000 in
theorem S_X5_readTest {G : z_G} {l : Launch} (n : Nat) : ∀ {h : z_H} {l0 : Option Nat} {l1 : Int32} {res : (Int32 × z_H)}, D_X5_readTest n h l0 l1 = some res → z_Meth G l (60 + n * 3) M_X5_readTest [z_r l0, .int l1] h res.2 (some (.int res.1)) := by
  induction n with
  | zero => intro h l0 l1 res e; cases e
  | succ n ih =>
    intro h l0 l1 res e
    rw [show 60 + (n + 1) * 3 = (60 + n * 3) + 3 by omega]
    exact S_X5_readTestB (kr := D_X5_readTest n) (dk := 60 + n * 3) @ih (Nat.le_add_right _ _) e
theorem dX5_readClause_0 : decode cX5_readClause 0 = .ok (.aload_n 0, 1) := by decide +kernel
theorem dX5_readClause_1 : decode cX5_readClause 1 = .ok (.aload_n 0, 1) := by decide +kernel
theorem dX5_readClause_2 : decode cX5_readClause 2 = .ok (.getfield 31, 3) := by decide +kernel
theorem dX5_readClause_5 : decode cX5_readClause 5 = .ok (.ifCond .eq 8, 3) := by decide +kernel
theorem dX5_readClause_8 : decode cX5_readClause 8 = .ok (.ldc 101, 2) := by decide +kernel
theorem dX5_readClause_10 : decode cX5_readClause 10 = .ok (.goto 5, 3) := by decide +kernel
theorem dX5_readClause_13 : decode cX5_readClause 13 = .ok (.ldc 103, 2) := by decide +kernel
theorem dX5_readClause_15 : decode cX5_readClause 15 = .ok (.invokevirtual 90, 3) := by decide +kernel
theorem dX5_readClause_18 : decode cX5_readClause 18 = .ok (.istore_n 2, 1) := by decide +kernel
theorem dX5_readClause_19 : decode cX5_readClause 19 = .ok (.iload_n 2, 1) := by decide +kernel
theorem dX5_readClause_20 : decode cX5_readClause 20 = .ok (.iconst (-1), 1) := by decide +kernel
theorem dX5_readClause_21 : decode cX5_readClause 21 = .ok (.if_icmp .ne 8, 3) := by decide +kernel
theorem dX5_readClause_24 : decode cX5_readClause 24 = .ok (.aload_n 0, 1) := by decide +kernel
theorem dX5_readClause_25 : decode cX5_readClause 25 = .ok (.invokevirtual 67, 3) := by decide +kernel
theorem dX5_readClause_28 : decode cX5_readClause 28 = .ok (.ireturn, 1) := by decide +kernel
theorem dX5_readClause_29 : decode cX5_readClause 29 = .ok (.aload_n 0, 1) := by decide +kernel
theorem dX5_readClause_30 : decode cX5_readClause 30 = .ok (.getfield 31, 3) := by decide +kernel
theorem dX5_readClause_33 : decode cX5_readClause 33 = .ok (.ifCond .ne 6, 3) := by decide +kernel
theorem dX5_readClause_36 : decode cX5_readClause 36 = .ok (.iinc 2 5, 3) := by decide +kernel
theorem dX5_readClause_39 : decode cX5_readClause 39 = .ok (.aload_n 0, 1) := by decide +kernel
theorem dX5_readClause_40 : decode cX5_readClause 40 = .ok (.invokevirtual 53, 3) := by decide +kernel
theorem dX5_readClause_43 : decode cX5_readClause 43 = .ok (.aload_n 0, 1) := by decide +kernel
theorem dX5_readClause_44 : decode cX5_readClause 44 = .ok (.getfield 20, 3) := by decide +kernel
theorem dX5_readClause_47 : decode cX5_readClause 47 = .ok (.iload_n 1, 1) := by decide +kernel
theorem dX5_readClause_48 : decode cX5_readClause 48 = .ok (.iconst 0, 1) := by decide +kernel
theorem dX5_readClause_49 : decode cX5_readClause 49 = .ok (.iload_n 2, 1) := by decide +kernel
theorem dX5_readClause_50 : decode cX5_readClause 50 = .ok (.invokevirtual 105, 3) := by decide +kernel
theorem dX5_readClause_53 : decode cX5_readClause 53 = .ok (.aload_n 0, 1) := by decide +kernel
theorem dX5_readClause_54 : decode cX5_readClause 54 = .ok (.getfield 20, 3) := by decide +kernel
theorem dX5_readClause_57 : decode cX5_readClause 57 = .ok (.iload_n 1, 1) := by decide +kernel
theorem dX5_readClause_58 : decode cX5_readClause 58 = .ok (.iconst 1, 1) := by decide +kernel
theorem dX5_readClause_59 : decode cX5_readClause 59 = .ok (.iconst 1, 1) := by decide +kernel
theorem dX5_readClause_60 : decode cX5_readClause 60 = .ok (.invokevirtual 105, 3) := by decide +kernel
theorem dX5_readClause_63 : decode cX5_readClause 63 = .ok (.aload_n 0, 1) := by decide +kernel
theorem dX5_readClause_64 : decode cX5_readClause 64 = .ok (.getfield 20, 3) := by decide +kernel
theorem dX5_readClause_67 : decode cX5_readClause 67 = .ok (.iload_n 1, 1) := by decide +kernel
theorem dX5_readClause_68 : decode cX5_readClause 68 = .ok (.iconst 2, 1) := by decide +kernel
theorem dX5_readClause_69 : decode cX5_readClause 69 = .ok (.aload_n 0, 1) := by decide +kernel
theorem dX5_readClause_70 : decode cX5_readClause 70 = .ok (.getfield 20, 3) := by decide +kernel
theorem dX5_readClause_73 : decode cX5_readClause 73 = .ok (.getfield 109, 3) := by decide +kernel
theorem dX5_readClause_76 : decode cX5_readClause 76 = .ok (.invokevirtual 105, 3) := by decide +kernel
theorem dX5_readClause_79 : decode cX5_readClause 79 = .ok (.getstatic 112, 3) := by decide +kernel
theorem dX5_readClause_82 : decode cX5_readClause 82 = .ok (.iload_n 2, 1) := by decide +kernel
theorem dX5_readClause_83 : decode cX5_readClause 83 = .ok (.iaload, 1) := by decide +kernel
theorem dX5_readClause_84 : decode cX5_readClause 84 = .ok (.ifCond .le 13, 3) := by decide +kernel
theorem dX5_readClause_87 : decode cX5_readClause 87 = .ok (.aload_n 0, 1) := by decide +kernel
theorem dX5_readClause_88 : decode cX5_readClause 88 = .ok (.iconst 0, 1) := by decide +kernel
theorem dX5_readClause_89 : decode cX5_readClause 89 = .ok (.invokevirtual 115, 3) := by decide +kernel
theorem dX5_readClause_92 : decode cX5_readClause 92 = .ok (.ifCond .ne 5, 3) := by decide +kernel
theorem dX5_readClause_95 : decode cX5_readClause 95 = .ok (.iconst 0, 1) := by decide +kernel
theorem dX5_readClause_96 : decode cX5_readClause 96 = .ok (.ireturn, 1) := by decide +kernel
theorem dX5_readClause_97 : decode cX5_readClause 97 = .ok (.aload_n 0, 1) := by decide +kernel
theorem dX5_readClause_98 : decode cX5_readClause 98 = .ok (.getfield 20, 3) := by decide +kernel
theorem dX5_readClause_101 : decode cX5_readClause 101 = .ok (.iload_n 1, 1) := by decide +kernel
theorem dX5_readClause_102 : decode cX5_readClause 102 = .ok (.iconst 3, 1) := by decide +kernel
theorem dX5_readClause_103 : decode cX5_readClause 103 = .ok (.aload_n 0, 1) := by decide +kernel
theorem dX5_readClause_104 : decode cX5_readClause 104 = .ok (.getfield 20, 3) := by decide +kernel
theorem dX5_readClause_107 : decode cX5_readClause 107 = .ok (.getfield 109, 3) := by decide +kernel
theorem dX5_readClause_110 : decode cX5_readClause 110 = .ok (.invokevirtual 105, 3) := by decide +kernel
theorem dX5_readClause_113 : decode cX5_readClause 113 = .ok (.getstatic 112, 3) := by decide +kernel
theorem dX5_readClause_116 : decode cX5_readClause 116 = .ok (.iload_n 2, 1) := by decide +kernel
theorem dX5_readClause_117 : decode cX5_readClause 117 = .ok (.iaload, 1) := by decide +kernel
theorem dX5_readClause_118 : decode cX5_readClause 118 = .ok (.iconst 1, 1) := by decide +kernel
theorem dX5_readClause_119 : decode cX5_readClause 119 = .ok (.if_icmp .le 32, 3) := by decide +kernel
theorem dX5_readClause_122 : decode cX5_readClause 122 = .ok (.aload_n 0, 1) := by decide +kernel
theorem dX5_readClause_123 : decode cX5_readClause 123 = .ok (.iload_n 2, 1) := by decide +kernel
theorem dX5_readClause_124 : decode cX5_readClause 124 = .ok (.iconst 1, 1) := by decide +kernel
theorem dX5_readClause_125 : decode cX5_readClause 125 = .ok (.if_icmp .ne 8, 3) := by decide +kernel
theorem dX5_readClause_128 : decode cX5_readClause 128 = .ok (.ldc 118, 2) := by decide +kernel
theorem dX5_readClause_130 : decode cX5_readClause 130 = .ok (.goto 5, 3) := by decide +kernel
theorem dX5_readClause_133 : decode cX5_readClause 133 = .ok (.ldc 119, 2) := by decide +kernel
theorem dX5_readClause_135 : decode cX5_readClause 135 = .ok (.invokevirtual 121, 3) := by decide +kernel
theorem dX5_readClause_138 : decode cX5_readClause 138 = .ok (.ifCond .eq 11, 3) := by decide +kernel
theorem dX5_readClause_141 : decode cX5_readClause 141 = .ok (.aload_n 0, 1) := by decide +kernel
theorem dX5_readClause_142 : decode cX5_readClause 142 = .ok (.iconst 0, 1) := by decide +kernel
theorem dX5_readClause_143 : decode cX5_readClause 143 = .ok (.invokevirtual 115, 3) := by decide +kernel
theorem dX5_readClause_146 : decode cX5_readClause 146 = .ok (.ifCond .ne 5, 3) := by decide +kernel
theorem dX5_readClause_149 : decode cX5_readClause 149 = .ok (.iconst 0, 1) := by decide +kernel
theorem dX5_readClause_150 : decode cX5_readClause 150 = .ok (.ireturn, 1) := by decide +kernel
theorem dX5_readClause_151 : decode cX5_readClause 151 = .ok (.aload_n 0, 1) := by decide +kernel
theorem dX5_readClause_152 : decode cX5_readClause 152 = .ok (.getfield 20, 3) := by decide +kernel
theorem dX5_readClause_155 : decode cX5_readClause 155 = .ok (.iload_n 1, 1) := by decide +kernel
theorem dX5_readClause_156 : decode cX5_readClause 156 = .ok (.iconst 4, 1) := by decide +kernel
theorem dX5_readClause_157 : decode cX5_readClause 157 = .ok (.aload_n 0, 1) := by decide +kernel
theorem dX5_readClause_158 : decode cX5_readClause 158 = .ok (.getfield 20, 3) := by decide +kernel
theorem dX5_readClause_161 : decode cX5_readClause 161 = .ok (.getfield 109, 3) := by decide +kernel
theorem dX5_readClause_164 : decode cX5_readClause 164 = .ok (.invokevirtual 105, 3) := by decide +kernel
theorem dX5_readClause_167 : decode cX5_readClause 167 = .ok (.aload_n 0, 1) := by decide +kernel
theorem dX5_readClause_168 : decode cX5_readClause 168 = .ok (.getfield 31, 3) := by decide +kernel
theorem dX5_readClause_171 : decode cX5_readClause 171 = .ok (.ifCond .eq 22, 3) := by decide +kernel
theorem dX5_readClause_174 : decode cX5_readClause 174 = .ok (.aload_n 0, 1) := by decide +kernel
theorem dX5_readClause_175 : decode cX5_readClause 175 = .ok (.ldc 124, 2) := by decide +kernel
theorem dX5_readClause_177 : decode cX5_readClause 177 = .ok (.invokevirtual 97, 3) := by decide +kernel
theorem dX5_readClause_180 : decode cX5_readClause 180 = .ok (.ifCond .eq 13, 3) := by decide +kernel
theorem dX5_readClause_183 : decode cX5_readClause 183 = .ok (.aload_n 0, 1) := by decide +kernel
theorem dX5_readClause_184 : decode cX5_readClause 184 = .ok (.iload_n 1, 1) := by decide +kernel
theorem dX5_readClause_185 : decode cX5_readClause 185 = .ok (.invokevirtual 126, 3) := by decide +kernel
theorem dX5_readClause_188 : decode cX5_readClause 188 = .ok (.ifCond .ne 5, 3) := by decide +kernel
theorem dX5_readClause_191 : decode cX5_readClause 191 = .ok (.iconst 0, 1) := by decide +kernel
theorem dX5_readClause_192 : decode cX5_readClause 192 = .ok (.ireturn, 1) := by decide +kernel
theorem dX5_readClause_193 : decode cX5_readClause 193 = .ok (.aload_n 0, 1) := by decide +kernel
theorem dX5_readClause_194 : decode cX5_readClause 194 = .ok (.ldc 129, 2) := by decide +kernel
theorem dX5_readClause_196 : decode cX5_readClause 196 = .ok (.invokevirtual 97, 3) := by decide +kernel
theorem dX5_readClause_199 : decode cX5_readClause 199 = .ok (.ifCond .eq 17, 3) := by decide +kernel
theorem dX5_readClause_202 : decode cX5_readClause 202 = .ok (.aload_n 0, 1) := by decide +kernel
theorem dX5_readClause_203 : decode cX5_readClause 203 = .ok (.invokevirtual 53, 3) := by decide +kernel
theorem dX5_readClause_206 : decode cX5_readClause 206 = .ok (.aload_n 0, 1) := by decide +kernel
theorem dX5_readClause_207 : decode cX5_readClause 207 = .ok (.iconst 0, 1) := by decide +kernel
theorem dX5_readClause_208 : decode cX5_readClause 208 = .ok (.invokevirtual 131, 3) := by decide +kernel
theorem dX5_readClause_211 : decode cX5_readClause 211 = .ok (.ifCond .ne 5, 3) := by decide +kernel
theorem dX5_readClause_214 : decode cX5_readClause 214 = .ok (.iconst 0, 1) := by decide +kernel
theorem dX5_readClause_215 : decode cX5_readClause 215 = .ok (.ireturn, 1) := by decide +kernel
theorem dX5_readClause_216 : decode cX5_readClause 216 = .ok (.aload_n 0, 1) := by decide +kernel
theorem dX5_readClause_217 : decode cX5_readClause 217 = .ok (.getfield 20, 3) := by decide +kernel
theorem dX5_readClause_220 : decode cX5_readClause 220 = .ok (.iload_n 1, 1) := by decide +kernel
theorem dX5_readClause_221 : decode cX5_readClause 221 = .ok (.iconst 5, 1) := by decide +kernel
theorem dX5_readClause_222 : decode cX5_readClause 222 = .ok (.aload_n 0, 1) := by decide +kernel
theorem dX5_readClause_223 : decode cX5_readClause 223 = .ok (.getfield 20, 3) := by decide +kernel
theorem dX5_readClause_226 : decode cX5_readClause 226 = .ok (.getfield 109, 3) := by decide +kernel
theorem dX5_readClause_229 : decode cX5_readClause 229 = .ok (.invokevirtual 105, 3) := by decide +kernel
theorem dX5_readClause_232 : decode cX5_readClause 232 = .ok (.iconst 1, 1) := by decide +kernel
theorem dX5_readClause_233 : decode cX5_readClause 233 = .ok (.ireturn, 1) := by decide +kernel
def D_X5_readClause_216 (h : z_H) (l0 : Option Nat) (l1 : Int32) : Option (Int32 × z_H) :=
  (z_gQ 5 h l0 1).bind fun x2854 =>
  (z_gQ 5 h l0 1).bind fun x2855 =>
  (z_gI 7 h x2855 3).bind fun x2856 =>
  (z_ob 7 h x2854).bind fun _ =>
  (D_X7_set  h x2854 l1 (5:Int32) x2856).bind fun p2857 =>
  some ((1:Int32), p2857)
set_option maxRecDepth 100000 in
set_option maxHeartbeats 4000000 in
theorem S_X5_readClause_216 {G : z_G} {l : Launch}  {h : z_H} {l0 : Option Nat} {l1 : Int32} {res : (Int32 × z_H)} (e : D_X5_readClause_216  h l0 l1 = some res) : z_Run G l 97 M_X5_readClause 216 [(0, z_r l0), (1, .int l1)] [] h res.2 (some (.int res.1)) := by
  unfold D_X5_readClause_216 at e
  refine z_aload_n 0 dX5_readClause_216 rfl ?_
  replace e := z_bd e; obtain ⟨x2854, ex2854, e⟩ := e
  refine z_getQ ex2854 lk_X5_20 dX5_readClause_217 ?_
  refine z_iload_n 1 dX5_readClause_220 rfl ?_
  refine z_iconst (v := 5) dX5_readClause_221 (by decide) ?_
  refine z_aload_n 0 dX5_readClause_222 rfl ?_
  replace e := z_bd e; obtain ⟨x2855, ex2855, e⟩ := e
  refine z_getQ ex2855 lk_X5_20 dX5_readClause_223 ?_
  replace e := z_bd e; obtain ⟨x2856, ex2856, e⟩ := e
  refine z_getI ex2856 lk_X5_109 dX5_readClause_226 ?_
  replace e := z_bd e; obtain ⟨o2858, eo2858, e⟩ := e
  replace e := z_bd e; obtain ⟨p2857, ep2857, e⟩ := e
  refine z_cV [.int l1, .int (5:Int32), .int x2856] (S_X7_set  ep2857) eo2858 rfl ml_X5_105 ck_X7_set vk_X7_set dX5_readClause_229 (by decide) rfl (Nat.zero_le _) rfl ?_
  refine z_iconst (v := 1) dX5_readClause_232 (by decide) ?_
  cases e
  exact z_zret dX5_readClause_233 rfl (by decide)
def D_X5_readClause_193 (h : z_H) (l0 : Option Nat) (l1 : Int32) : Option (Int32 × z_H) :=
  (z_ob 5 h l0).bind fun _ =>
  (D_X5_isWord  h l0 (11)).bind fun p2859 =>
  if p2859.1 = 0 then
    D_X5_readClause_216   p2859.2 l0 l1
  else
    (z_ob 5 p2859.2 l0).bind fun _ =>
    (D_X5_advance  p2859.2 l0).bind fun p2862 =>
    (z_ob 5 p2862 l0).bind fun _ =>
    (D_X5_readTest 12 p2862 l0 (0:Int32)).bind fun p2864 =>
    if p2864.1 = 0 then
      some ((0:Int32), p2864.2)
    else
      D_X5_readClause_216   p2864.2 l0 l1
set_option maxRecDepth 100000 in
set_option maxHeartbeats 4000000 in
theorem S_X5_readClause_193 {G : z_G} {l : Launch}  {h : z_H} {l0 : Option Nat} {l1 : Int32} {res : (Int32 × z_H)} (e : D_X5_readClause_193  h l0 l1 = some res) : z_Run G l 97 M_X5_readClause 193 [(0, z_r l0), (1, .int l1)] [] h res.2 (some (.int res.1)) := by
  unfold D_X5_readClause_193 at e
  refine z_aload_n 0 dX5_readClause_193 rfl ?_
  refine z_ldcS (i := 7) rfl rfl dX5_readClause_194 ?_
  replace e := z_bd e; obtain ⟨o2860, eo2860, e⟩ := e
  replace e := z_bd e; obtain ⟨p2859, ep2859, e⟩ := e
  refine z_cV [.retAddr (11)] (S_X5_isWord  ep2859) eo2860 rfl ml_X5_97 ck_X5_isWord vk_X5_isWord dX5_readClause_196 (by decide) rfl (Nat.zero_le _) rfl ?_
  refine z_if_eq (tgt := 216) dX5_readClause_199 (by decide) (fun c2861 => ?_) (fun c2861 => ?_)
  · rw [if_pos c2861] at e
    exact z_weak [0, 1] rfl (S_X5_readClause_216   e)
  · rw [if_neg c2861] at e
    refine z_aload_n 0 dX5_readClause_202 rfl ?_
    replace e := z_bd e; obtain ⟨o2863, eo2863, e⟩ := e
    replace e := z_bd e; obtain ⟨p2862, ep2862, e⟩ := e
    refine z_cV [] (S_X5_advance  ep2862) eo2863 rfl ml_X5_53 ck_X5_advance vk_X5_advance dX5_readClause_203 (by decide) rfl (Nat.zero_le _) rfl ?_
    refine z_aload_n 0 dX5_readClause_206 rfl ?_
    refine z_iconst (v := 0) dX5_readClause_207 (by decide) ?_
    replace e := z_bd e; obtain ⟨o2865, eo2865, e⟩ := e
    replace e := z_bd e; obtain ⟨p2864, ep2864, e⟩ := e
    refine z_cV [.int (0:Int32)] (S_X5_readTest 12 ep2864) eo2865 rfl ml_X5_131 ck_X5_readTest vk_X5_readTest dX5_readClause_208 (by decide) rfl (Nat.zero_le _) rfl ?_
    refine z_if_ne (tgt := 216) dX5_readClause_211 (by decide) (fun c2866 => ?_) (fun c2866 => ?_)
    · rw [if_neg c2866] at e
      exact z_weak [0, 1] rfl (S_X5_readClause_216   e)
    · rw [if_pos c2866] at e
      refine z_iconst (v := 0) dX5_readClause_214 (by decide) ?_
      cases e
      exact z_zret dX5_readClause_215 rfl (by decide)
def D_X5_readClause_151 (h : z_H) (l0 : Option Nat) (l1 : Int32) : Option (Int32 × z_H) :=
  (z_gQ 5 h l0 1).bind fun x2867 =>
  (z_gQ 5 h l0 1).bind fun x2868 =>
  (z_gI 7 h x2868 3).bind fun x2869 =>
  (z_ob 7 h x2867).bind fun _ =>
  (D_X7_set  h x2867 l1 (4:Int32) x2869).bind fun p2870 =>
  (z_gI 5 p2870 l0 4).bind fun x2872 =>
  if x2872 = 0 then
    D_X5_readClause_193   p2870 l0 l1
  else
    (z_ob 5 p2870 l0).bind fun _ =>
    (D_X5_isWord  p2870 l0 (10)).bind fun p2874 =>
    if p2874.1 = 0 then
      D_X5_readClause_193   p2874.2 l0 l1
    else
      (z_ob 5 p2874.2 l0).bind fun _ =>
      (D_X5_readTimes  p2874.2 l0 l1).bind fun p2877 =>
      if p2877.1 = 0 then
        some ((0:Int32), p2877.2)
      else
        D_X5_readClause_193   p2877.2 l0 l1
set_option maxRecDepth 100000 in
set_option maxHeartbeats 4000000 in
theorem S_X5_readClause_151 {G : z_G} {l : Launch}  {h : z_H} {l0 : Option Nat} {l1 : Int32} {res : (Int32 × z_H)} (e : D_X5_readClause_151  h l0 l1 = some res) : z_Run G l 97 M_X5_readClause 151 [(0, z_r l0), (1, .int l1)] [] h res.2 (some (.int res.1)) := by
  unfold D_X5_readClause_151 at e
  refine z_aload_n 0 dX5_readClause_151 rfl ?_
  replace e := z_bd e; obtain ⟨x2867, ex2867, e⟩ := e
  refine z_getQ ex2867 lk_X5_20 dX5_readClause_152 ?_
  refine z_iload_n 1 dX5_readClause_155 rfl ?_
  refine z_iconst (v := 4) dX5_readClause_156 (by decide) ?_
  refine z_aload_n 0 dX5_readClause_157 rfl ?_
  replace e := z_bd e; obtain ⟨x2868, ex2868, e⟩ := e
  refine z_getQ ex2868 lk_X5_20 dX5_readClause_158 ?_
  replace e := z_bd e; obtain ⟨x2869, ex2869, e⟩ := e
  refine z_getI ex2869 lk_X5_109 dX5_readClause_161 ?_
  replace e := z_bd e; obtain ⟨o2871, eo2871, e⟩ := e
  replace e := z_bd e; obtain ⟨p2870, ep2870, e⟩ := e
  refine z_cV [.int l1, .int (4:Int32), .int x2869] (S_X7_set  ep2870) eo2871 rfl ml_X5_105 ck_X7_set vk_X7_set dX5_readClause_164 (by decide) rfl (Nat.zero_le _) rfl ?_
  refine z_aload_n 0 dX5_readClause_167 rfl ?_
  replace e := z_bd e; obtain ⟨x2872, ex2872, e⟩ := e
  refine z_getI ex2872 lk_X5_31 dX5_readClause_168 ?_
  refine z_if_eq (tgt := 193) dX5_readClause_171 (by decide) (fun c2873 => ?_) (fun c2873 => ?_)
  · rw [if_pos c2873] at e
    exact z_weak [0, 1] rfl (S_X5_readClause_193   e)
  · rw [if_neg c2873] at e
    refine z_aload_n 0 dX5_readClause_174 rfl ?_
    refine z_ldcS (i := 6) rfl rfl dX5_readClause_175 ?_
    replace e := z_bd e; obtain ⟨o2875, eo2875, e⟩ := e
    replace e := z_bd e; obtain ⟨p2874, ep2874, e⟩ := e
    refine z_cV [.retAddr (10)] (S_X5_isWord  ep2874) eo2875 rfl ml_X5_97 ck_X5_isWord vk_X5_isWord dX5_readClause_177 (by decide) rfl (Nat.zero_le _) rfl ?_
    refine z_if_eq (tgt := 193) dX5_readClause_180 (by decide) (fun c2876 => ?_) (fun c2876 => ?_)
    · rw [if_pos c2876] at e
      exact z_weak [0, 1] rfl (S_X5_readClause_193   e)
    · rw [if_neg c2876] at e
      refine z_aload_n 0 dX5_readClause_183 rfl ?_
      refine z_iload_n 1 dX5_readClause_184 rfl ?_
      replace e := z_bd e; obtain ⟨o2878, eo2878, e⟩ := e
      replace e := z_bd e; obtain ⟨p2877, ep2877, e⟩ := e
      refine z_cV [.int l1] (S_X5_readTimes  ep2877) eo2878 rfl ml_X5_126 ck_X5_readTimes vk_X5_readTimes dX5_readClause_185 (by decide) rfl (Nat.zero_le _) rfl ?_
      refine z_if_ne (tgt := 193) dX5_readClause_188 (by decide) (fun c2879 => ?_) (fun c2879 => ?_)
      · rw [if_neg c2879] at e
        exact z_weak [0, 1] rfl (S_X5_readClause_193   e)
      · rw [if_pos c2879] at e
        refine z_iconst (v := 0) dX5_readClause_191 (by decide) ?_
        cases e
        exact z_zret dX5_readClause_192 rfl (by decide)
def D_X5_readClause_135 (h : z_H) (l0 : Option Nat) (l1 : Int32) (s0 : Option Nat) (s1 : Nat) : Option (Int32 × z_H) :=
  (z_ob 5 h s0).bind fun _ =>
  (D_X5_skipWord  h s0 s1).bind fun p2880 =>
  if p2880.1 = 0 then
    some ((0:Int32), p2880.2)
  else
    (z_ob 5 p2880.2 l0).bind fun _ =>
    (D_X5_readSum 12 p2880.2 l0 (0:Int32)).bind fun p2883 =>
    if p2883.1 = 0 then
      some ((0:Int32), p2883.2)
    else
      D_X5_readClause_151   p2883.2 l0 l1
set_option maxRecDepth 100000 in
set_option maxHeartbeats 4000000 in
theorem S_X5_readClause_135 {G : z_G} {l : Launch}  {h : z_H} {l0 : Option Nat} {l1 : Int32} {s0 : Option Nat} {s1 : Nat} {res : (Int32 × z_H)} (e : D_X5_readClause_135  h l0 l1 s0 s1 = some res) : z_Run G l 97 M_X5_readClause 135 [(0, z_r l0), (1, .int l1)] [.retAddr s1, z_r s0] h res.2 (some (.int res.1)) := by
  unfold D_X5_readClause_135 at e
  replace e := z_bd e; obtain ⟨o2881, eo2881, e⟩ := e
  replace e := z_bd e; obtain ⟨p2880, ep2880, e⟩ := e
  refine z_cV [.retAddr s1] (S_X5_skipWord  ep2880) eo2881 rfl ml_X5_121 ck_X5_skipWord vk_X5_skipWord dX5_readClause_135 (by decide) rfl (Nat.zero_le _) rfl ?_
  refine z_if_eq (tgt := 149) dX5_readClause_138 (by decide) (fun c2882 => ?_) (fun c2882 => ?_)
  · rw [if_pos c2882] at e
    refine z_iconst (v := 0) dX5_readClause_149 (by decide) ?_
    cases e
    exact z_zret dX5_readClause_150 rfl (by decide)
  · rw [if_neg c2882] at e
    refine z_aload_n 0 dX5_readClause_141 rfl ?_
    refine z_iconst (v := 0) dX5_readClause_142 (by decide) ?_
    replace e := z_bd e; obtain ⟨o2884, eo2884, e⟩ := e
    replace e := z_bd e; obtain ⟨p2883, ep2883, e⟩ := e
    refine z_cV [.int (0:Int32)] (S_X5_readSum 12 ep2883) eo2884 rfl ml_X5_115 ck_X5_readSum vk_X5_readSum dX5_readClause_143 (by decide) rfl (Nat.zero_le _) rfl ?_
    refine z_if_ne (tgt := 151) dX5_readClause_146 (by decide) (fun c2885 => ?_) (fun c2885 => ?_)
    · rw [if_neg c2885] at e
      exact z_weak [0, 1] rfl (S_X5_readClause_151   e)
    · rw [if_pos c2885] at e
      refine z_iconst (v := 0) dX5_readClause_149 (by decide) ?_
      cases e
      exact z_zret dX5_readClause_150 rfl (by decide)
def D_X5_readClause_97 (h : z_H) (l0 : Option Nat) (l1 : Int32) (l2 : Int32) : Option (Int32 × z_H) :=
  (z_gQ 5 h l0 1).bind fun x2886 =>
  (z_gQ 5 h l0 1).bind fun x2887 =>
  (z_gI 7 h x2887 3).bind fun x2888 =>
  (z_ob 7 h x2886).bind fun _ =>
  (D_X7_set  h x2886 l1 (3:Int32) x2888).bind fun p2889 =>
  (z_xI (z_xs 3) l2).bind fun x2891 =>
  if x2891 ≤ (1:Int32) then
    D_X5_readClause_151   p2889 l0 l1
  else
    if l2 = (1:Int32) then
      D_X5_readClause_135   p2889 l0 l1 l0 (8)
    else
      D_X5_readClause_135   p2889 l0 l1 l0 (9)
set_option maxRecDepth 100000 in
set_option maxHeartbeats 4000000 in
theorem S_X5_readClause_97 {G : z_G} {l : Launch}  {h : z_H} {l0 : Option Nat} {l1 : Int32} {l2 : Int32} {res : (Int32 × z_H)} (e : D_X5_readClause_97  h l0 l1 l2 = some res) : z_Run G l 97 M_X5_readClause 97 [(0, z_r l0), (1, .int l1), (2, .int l2)] [] h res.2 (some (.int res.1)) := by
  unfold D_X5_readClause_97 at e
  refine z_aload_n 0 dX5_readClause_97 rfl ?_
  replace e := z_bd e; obtain ⟨x2886, ex2886, e⟩ := e
  refine z_getQ ex2886 lk_X5_20 dX5_readClause_98 ?_
  refine z_iload_n 1 dX5_readClause_101 rfl ?_
  refine z_iconst (v := 3) dX5_readClause_102 (by decide) ?_
  refine z_aload_n 0 dX5_readClause_103 rfl ?_
  replace e := z_bd e; obtain ⟨x2887, ex2887, e⟩ := e
  refine z_getQ ex2887 lk_X5_20 dX5_readClause_104 ?_
  replace e := z_bd e; obtain ⟨x2888, ex2888, e⟩ := e
  refine z_getI ex2888 lk_X5_109 dX5_readClause_107 ?_
  replace e := z_bd e; obtain ⟨o2890, eo2890, e⟩ := e
  replace e := z_bd e; obtain ⟨p2889, ep2889, e⟩ := e
  refine z_cV [.int l1, .int (3:Int32), .int x2888] (S_X7_set  ep2889) eo2890 rfl ml_X5_105 ck_X7_set vk_X7_set dX5_readClause_110 (by decide) rfl (Nat.zero_le _) rfl ?_
  refine z_getsN (q := (3, "SUMS_OF_VERB", 0)) (host := "SoleReader") (by decide) (by decide +kernel) dX5_readClause_113 ?_
  refine z_iload_n 2 dX5_readClause_116 rfl ?_
  replace e := z_bd e; obtain ⟨x2891, ex2891, e⟩ := e
  refine z_xald (p0 := z_xs 3) rfl ex2891 dX5_readClause_117 ?_
  refine z_iconst (v := 1) dX5_readClause_118 (by decide) ?_
  refine z_icmp_le (tgt := 151) dX5_readClause_119 (by decide) (fun c2892 => ?_) (fun c2892 => ?_)
  · rw [if_pos c2892] at e
    exact z_weak [0, 1] rfl (S_X5_readClause_151   e)
  · rw [if_neg c2892] at e
    refine z_aload_n 0 dX5_readClause_122 rfl ?_
    refine z_iload_n 2 dX5_readClause_123 rfl ?_
    refine z_iconst (v := 1) dX5_readClause_124 (by decide) ?_
    refine z_icmp_ne (tgt := 133) dX5_readClause_125 (by decide) (fun c2893 => ?_) (fun c2893 => ?_)
    · rw [if_neg c2893] at e
      refine z_ldcS (i := 5) rfl rfl dX5_readClause_133 ?_
      exact z_weak [0, 1] rfl (S_X5_readClause_135   e)
    · rw [if_pos c2893] at e
      refine z_ldcS (i := 4) rfl rfl dX5_readClause_128 ?_
      refine z_goto (tgt := 135) dX5_readClause_130 (by decide) ?_
      exact z_weak [0, 1] rfl (S_X5_readClause_135   e)
def D_X5_readClause_39 (h : z_H) (l0 : Option Nat) (l1 : Int32) (l2 : Int32) : Option (Int32 × z_H) :=
  (z_ob 5 h l0).bind fun _ =>
  (D_X5_advance  h l0).bind fun p2894 =>
  (z_gQ 5 p2894 l0 1).bind fun x2896 =>
  (z_ob 7 p2894 x2896).bind fun _ =>
  (D_X7_set  p2894 x2896 l1 (0:Int32) l2).bind fun p2897 =>
  (z_gQ 5 p2897 l0 1).bind fun x2899 =>
  (z_ob 7 p2897 x2899).bind fun _ =>
  (D_X7_set  p2897 x2899 l1 (1:Int32) (1:Int32)).bind fun p2900 =>
  (z_gQ 5 p2900 l0 1).bind fun x2902 =>
  (z_gQ 5 p2900 l0 1).bind fun x2903 =>
  (z_gI 7 p2900 x2903 3).bind fun x2904 =>
  (z_ob 7 p2900 x2902).bind fun _ =>
  (D_X7_set  p2900 x2902 l1 (2:Int32) x2904).bind fun p2905 =>
  (z_xI (z_xs 3) l2).bind fun x2907 =>
  if x2907 ≤ 0 then
    D_X5_readClause_97   p2905 l0 l1 l2
  else
    (z_ob 5 p2905 l0).bind fun _ =>
    (D_X5_readSum 12 p2905 l0 (0:Int32)).bind fun p2909 =>
    if p2909.1 = 0 then
      some ((0:Int32), p2909.2)
    else
      D_X5_readClause_97   p2909.2 l0 l1 l2
set_option maxRecDepth 100000 in
set_option maxHeartbeats 4000000 in
theorem S_X5_readClause_39 {G : z_G} {l : Launch}  {h : z_H} {l0 : Option Nat} {l1 : Int32} {l2 : Int32} {res : (Int32 × z_H)} (e : D_X5_readClause_39  h l0 l1 l2 = some res) : z_Run G l 97 M_X5_readClause 39 [(0, z_r l0), (1, .int l1), (2, .int l2)] [] h res.2 (some (.int res.1)) := by
  unfold D_X5_readClause_39 at e
  refine z_aload_n 0 dX5_readClause_39 rfl ?_
  replace e := z_bd e; obtain ⟨o2895, eo2895, e⟩ := e
  replace e := z_bd e; obtain ⟨p2894, ep2894, e⟩ := e
  refine z_cV [] (S_X5_advance  ep2894) eo2895 rfl ml_X5_53 ck_X5_advance vk_X5_advance dX5_readClause_40 (by decide) rfl (Nat.zero_le _) rfl ?_
  refine z_aload_n 0 dX5_readClause_43 rfl ?_
  replace e := z_bd e; obtain ⟨x2896, ex2896, e⟩ := e
  refine z_getQ ex2896 lk_X5_20 dX5_readClause_44 ?_
  refine z_iload_n 1 dX5_readClause_47 rfl ?_
  refine z_iconst (v := 0) dX5_readClause_48 (by decide) ?_
  refine z_iload_n 2 dX5_readClause_49 rfl ?_
  replace e := z_bd e; obtain ⟨o2898, eo2898, e⟩ := e
  replace e := z_bd e; obtain ⟨p2897, ep2897, e⟩ := e
  refine z_cV [.int l1, .int (0:Int32), .int l2] (S_X7_set  ep2897) eo2898 rfl ml_X5_105 ck_X7_set vk_X7_set dX5_readClause_50 (by decide) rfl (Nat.zero_le _) rfl ?_
  refine z_aload_n 0 dX5_readClause_53 rfl ?_
  replace e := z_bd e; obtain ⟨x2899, ex2899, e⟩ := e
  refine z_getQ ex2899 lk_X5_20 dX5_readClause_54 ?_
  refine z_iload_n 1 dX5_readClause_57 rfl ?_
  refine z_iconst (v := 1) dX5_readClause_58 (by decide) ?_
  refine z_iconst (v := 1) dX5_readClause_59 (by decide) ?_
  replace e := z_bd e; obtain ⟨o2901, eo2901, e⟩ := e
  replace e := z_bd e; obtain ⟨p2900, ep2900, e⟩ := e
  refine z_cV [.int l1, .int (1:Int32), .int (1:Int32)] (S_X7_set  ep2900) eo2901 rfl ml_X5_105 ck_X7_set vk_X7_set dX5_readClause_60 (by decide) rfl (Nat.zero_le _) rfl ?_
  refine z_aload_n 0 dX5_readClause_63 rfl ?_
  replace e := z_bd e; obtain ⟨x2902, ex2902, e⟩ := e
  refine z_getQ ex2902 lk_X5_20 dX5_readClause_64 ?_
  refine z_iload_n 1 dX5_readClause_67 rfl ?_
  refine z_iconst (v := 2) dX5_readClause_68 (by decide) ?_
  refine z_aload_n 0 dX5_readClause_69 rfl ?_
  replace e := z_bd e; obtain ⟨x2903, ex2903, e⟩ := e
  refine z_getQ ex2903 lk_X5_20 dX5_readClause_70 ?_
  replace e := z_bd e; obtain ⟨x2904, ex2904, e⟩ := e
  refine z_getI ex2904 lk_X5_109 dX5_readClause_73 ?_
  replace e := z_bd e; obtain ⟨o2906, eo2906, e⟩ := e
  replace e := z_bd e; obtain ⟨p2905, ep2905, e⟩ := e
  refine z_cV [.int l1, .int (2:Int32), .int x2904] (S_X7_set  ep2905) eo2906 rfl ml_X5_105 ck_X7_set vk_X7_set dX5_readClause_76 (by decide) rfl (Nat.zero_le _) rfl ?_
  refine z_getsN (q := (3, "SUMS_OF_VERB", 0)) (host := "SoleReader") (by decide) (by decide +kernel) dX5_readClause_79 ?_
  refine z_iload_n 2 dX5_readClause_82 rfl ?_
  replace e := z_bd e; obtain ⟨x2907, ex2907, e⟩ := e
  refine z_xald (p0 := z_xs 3) rfl ex2907 dX5_readClause_83 ?_
  refine z_if_le (tgt := 97) dX5_readClause_84 (by decide) (fun c2908 => ?_) (fun c2908 => ?_)
  · rw [if_pos c2908] at e
    exact z_weak [0, 1, 2] rfl (S_X5_readClause_97   e)
  · rw [if_neg c2908] at e
    refine z_aload_n 0 dX5_readClause_87 rfl ?_
    refine z_iconst (v := 0) dX5_readClause_88 (by decide) ?_
    replace e := z_bd e; obtain ⟨o2910, eo2910, e⟩ := e
    replace e := z_bd e; obtain ⟨p2909, ep2909, e⟩ := e
    refine z_cV [.int (0:Int32)] (S_X5_readSum 12 ep2909) eo2910 rfl ml_X5_115 ck_X5_readSum vk_X5_readSum dX5_readClause_89 (by decide) rfl (Nat.zero_le _) rfl ?_
    refine z_if_ne (tgt := 97) dX5_readClause_92 (by decide) (fun c2911 => ?_) (fun c2911 => ?_)
    · rw [if_neg c2911] at e
      exact z_weak [0, 1, 2] rfl (S_X5_readClause_97   e)
    · rw [if_pos c2911] at e
      refine z_iconst (v := 0) dX5_readClause_95 (by decide) ?_
      cases e
      exact z_zret dX5_readClause_96 rfl (by decide)
def D_X5_readClause_15 (h : z_H) (l0 : Option Nat) (l1 : Int32) (s0 : Option Nat) (s1 : Nat) : Option (Int32 × z_H) :=
  (z_ob 5 h s0).bind fun _ =>
  (D_X5_among  h s0 s1).bind fun p2912 =>
  if p2912.1 = (-1:Int32) then
    (z_ob 5 p2912.2 l0).bind fun _ =>
    (D_X5_failHere  p2912.2 l0).bind fun p2918 =>
    if p2918.1 = 0 ∨ p2918.1 = 1 then some (p2918.1, p2918.2) else none
  else
    (z_gI 5 p2912.2 l0 4).bind fun x2915 =>
    if x2915 = 0 then
      (some (p2912.1 + (5:Int32))).bind fun x2917 =>
      D_X5_readClause_39   p2912.2 l0 l1 x2917
    else
      D_X5_readClause_39   p2912.2 l0 l1 p2912.1
set_option maxRecDepth 100000 in
set_option maxHeartbeats 4000000 in
theorem S_X5_readClause_15 {G : z_G} {l : Launch}  {h : z_H} {l0 : Option Nat} {l1 : Int32} {s0 : Option Nat} {s1 : Nat} {res : (Int32 × z_H)} (e : D_X5_readClause_15  h l0 l1 s0 s1 = some res) : z_Run G l 97 M_X5_readClause 15 [(0, z_r l0), (1, .int l1)] [.retAddr s1, z_r s0] h res.2 (some (.int res.1)) := by
  unfold D_X5_readClause_15 at e
  replace e := z_bd e; obtain ⟨o2913, eo2913, e⟩ := e
  replace e := z_bd e; obtain ⟨p2912, ep2912, e⟩ := e
  refine z_cV [.retAddr s1] (S_X5_among  ep2912) eo2913 rfl ml_X5_90 ck_X5_among vk_X5_among dX5_readClause_15 (by decide) rfl (Nat.zero_le _) rfl ?_
  refine z_istore_n (L' := [(2, .int p2912.1), (0, z_r l0), (1, .int l1)]) dX5_readClause_18 rfl (by decide) rfl ?_
  refine z_iload_n 0 dX5_readClause_19 rfl ?_
  refine z_iconst (v := -1) dX5_readClause_20 (by decide) ?_
  refine z_icmp_ne (tgt := 29) dX5_readClause_21 (by decide) (fun c2914 => ?_) (fun c2914 => ?_)
  · rw [if_neg c2914] at e
    refine z_aload_n 1 dX5_readClause_29 rfl ?_
    replace e := z_bd e; obtain ⟨x2915, ex2915, e⟩ := e
    refine z_getI ex2915 lk_X5_31 dX5_readClause_30 ?_
    refine z_if_ne (tgt := 39) dX5_readClause_33 (by decide) (fun c2916 => ?_) (fun c2916 => ?_)
    · rw [if_neg c2916] at e
      exact z_weak [1, 2, 0] rfl (S_X5_readClause_39   e)
    · rw [if_pos c2916] at e
      replace e := z_bd e; obtain ⟨x2917, ex2917, e⟩ := e
      refine z_iinc (q := 0) (v := x2917) (L' := [(2, .int x2917), (0, z_r l0), (1, .int l1)]) dX5_readClause_36 rfl (Option.some.inj ex2917) (by decide) rfl ?_
      exact z_weak [1, 2, 0] rfl (S_X5_readClause_39   e)
  · rw [if_pos c2914] at e
    refine z_aload_n 1 dX5_readClause_24 rfl ?_
    replace e := z_bd e; obtain ⟨o2919, eo2919, e⟩ := e
    replace e := z_bd e; obtain ⟨p2918, ep2918, e⟩ := e
    refine z_cV [] (S_X5_failHere  ep2918) eo2919 rfl ml_X5_67 ck_X5_failHere vk_X5_failHere dX5_readClause_25 (by decide) rfl (Nat.zero_le _) rfl ?_
    replace e := z_ifs e; obtain ⟨c2920, e⟩ := e
    cases e
    exact z_zret dX5_readClause_28 rfl (z_nz c2920).1
def D_X5_readClause (h : z_H) (l0 : Option Nat) (l1 : Int32) : Option (Int32 × z_H) :=
  (z_gI 5 h l0 4).bind fun x2921 =>
  if x2921 = 0 then
    D_X5_readClause_15   h l0 l1 l0 (5)
  else
    D_X5_readClause_15   h l0 l1 l0 (4)
set_option maxRecDepth 100000 in
set_option maxHeartbeats 4000000 in
theorem S_X5_readClause {G : z_G} {l : Launch} {h : z_H} {l0 : Option Nat} {l1 : Int32} {res : (Int32 × z_H)} (e : D_X5_readClause h l0 l1 = some res) : z_Meth G l 97 M_X5_readClause [z_r l0, .int l1] h res.2 (some (.int res.1)) := by
  refine z_Meth.of ck_X5_readClause.2.2.2.2 (by simp [lg_sl, z_ci, z_cj, z_cr, z_cx]) ck_X5_readClause.1 ?_
  rw [show lv_args 0 [z_r l0, .int l1] = [(0, z_r l0), (1, .int l1)] from by simp [lv_args, z_ci, z_cj, z_cr, z_cx]]
  unfold D_X5_readClause at e
  refine z_aload_n 0 dX5_readClause_0 rfl ?_
  refine z_aload_n 0 dX5_readClause_1 rfl ?_
  replace e := z_bd e; obtain ⟨x2921, ex2921, e⟩ := e
  refine z_getI ex2921 lk_X5_31 dX5_readClause_2 ?_
  refine z_if_eq (tgt := 13) dX5_readClause_5 (by decide) (fun c2922 => ?_) (fun c2922 => ?_)
  · rw [if_pos c2922] at e
    refine z_ldcS (i := 1) rfl rfl dX5_readClause_13 ?_
    exact z_weak [0, 1] rfl (S_X5_readClause_15   e)
  · rw [if_neg c2922] at e
    refine z_ldcS (i := 0) rfl rfl dX5_readClause_8 ?_
    refine z_goto (tgt := 15) dX5_readClause_10 (by decide) ?_
    exact z_weak [0, 1] rfl (S_X5_readClause_15   e)
theorem dX5_read_0 : decode cX5_read 0 = .ok (.aload_n 0, 1) := by decide +kernel
theorem dX5_read_1 : decode cX5_read 1 = .ok (.iload_n 1, 1) := by decide +kernel
theorem dX5_read_2 : decode cX5_read 2 = .ok (.putfield 31, 3) := by decide +kernel
theorem dX5_read_5 : decode cX5_read 5 = .ok (.aload_n 0, 1) := by decide +kernel
theorem dX5_read_6 : decode cX5_read 6 = .ok (.iconst (-1), 1) := by decide +kernel
theorem dX5_read_7 : decode cX5_read 7 = .ok (.putfield 28, 3) := by decide +kernel
theorem dX5_read_10 : decode cX5_read 10 = .ok (.aload_n 0, 1) := by decide +kernel
theorem dX5_read_11 : decode cX5_read 11 = .ok (.iconst 0, 1) := by decide +kernel
theorem dX5_read_12 : decode cX5_read 12 = .ok (.putfield 38, 3) := by decide +kernel
theorem dX5_read_15 : decode cX5_read 15 = .ok (.aload_n 0, 1) := by decide +kernel
theorem dX5_read_16 : decode cX5_read 16 = .ok (.iconst 0, 1) := by decide +kernel
theorem dX5_read_17 : decode cX5_read 17 = .ok (.putfield 47, 3) := by decide +kernel
theorem dX5_read_20 : decode cX5_read 20 = .ok (.aload_n 0, 1) := by decide +kernel
theorem dX5_read_21 : decode cX5_read 21 = .ok (.getfield 20, 3) := by decide +kernel
theorem dX5_read_24 : decode cX5_read 24 = .ok (.invokevirtual 50, 3) := by decide +kernel
theorem dX5_read_27 : decode cX5_read 27 = .ok (.aload_n 0, 1) := by decide +kernel
theorem dX5_read_28 : decode cX5_read 28 = .ok (.invokevirtual 53, 3) := by decide +kernel
theorem dX5_read_31 : decode cX5_read 31 = .ok (.iconst 0, 1) := by decide +kernel
theorem dX5_read_32 : decode cX5_read 32 = .ok (.istore_n 2, 1) := by decide +kernel
theorem dX5_read_33 : decode cX5_read 33 = .ok (.iload_n 2, 1) := by decide +kernel
theorem dX5_read_34 : decode cX5_read 34 = .ok (.bipush 12, 2) := by decide +kernel
theorem dX5_read_36 : decode cX5_read 36 = .ok (.if_icmp .ge 50, 3) := by decide +kernel
theorem dX5_read_39 : decode cX5_read 39 = .ok (.aload_n 0, 1) := by decide +kernel
theorem dX5_read_40 : decode cX5_read 40 = .ok (.iload_n 2, 1) := by decide +kernel
theorem dX5_read_41 : decode cX5_read 41 = .ok (.invokevirtual 56, 3) := by decide +kernel
theorem dX5_read_44 : decode cX5_read 44 = .ok (.ifCond .ne 5, 3) := by decide +kernel
theorem dX5_read_47 : decode cX5_read 47 = .ok (.iconst 0, 1) := by decide +kernel
theorem dX5_read_48 : decode cX5_read 48 = .ok (.ireturn, 1) := by decide +kernel
theorem dX5_read_49 : decode cX5_read 49 = .ok (.aload_n 0, 1) := by decide +kernel
theorem dX5_read_50 : decode cX5_read 50 = .ok (.getfield 20, 3) := by decide +kernel
theorem dX5_read_53 : decode cX5_read 53 = .ok (.iload_n 2, 1) := by decide +kernel
theorem dX5_read_54 : decode cX5_read 54 = .ok (.iconst 1, 1) := by decide +kernel
theorem dX5_read_55 : decode cX5_read 55 = .ok (.iadd, 1) := by decide +kernel
theorem dX5_read_56 : decode cX5_read 56 = .ok (.putfield 60, 3) := by decide +kernel
theorem dX5_read_59 : decode cX5_read 59 = .ok (.aload_n 0, 1) := by decide +kernel
theorem dX5_read_60 : decode cX5_read 60 = .ok (.getfield 41, 3) := by decide +kernel
theorem dX5_read_63 : decode cX5_read 63 = .ok (.iconst 3, 1) := by decide +kernel
theorem dX5_read_64 : decode cX5_read 64 = .ok (.if_icmp .ne 5, 3) := by decide +kernel
theorem dX5_read_67 : decode cX5_read 67 = .ok (.iconst 1, 1) := by decide +kernel
theorem dX5_read_68 : decode cX5_read 68 = .ok (.ireturn, 1) := by decide +kernel
theorem dX5_read_69 : decode cX5_read 69 = .ok (.aload_n 0, 1) := by decide +kernel
theorem dX5_read_70 : decode cX5_read 70 = .ok (.bipush 59, 2) := by decide +kernel
theorem dX5_read_72 : decode cX5_read 72 = .ok (.invokevirtual 63, 3) := by decide +kernel
theorem dX5_read_75 : decode cX5_read 75 = .ok (.ifCond .ne 5, 3) := by decide +kernel
theorem dX5_read_78 : decode cX5_read 78 = .ok (.iconst 0, 1) := by decide +kernel
theorem dX5_read_79 : decode cX5_read 79 = .ok (.ireturn, 1) := by decide +kernel
theorem dX5_read_80 : decode cX5_read 80 = .ok (.iinc 2 1, 3) := by decide +kernel
theorem dX5_read_83 : decode cX5_read 83 = .ok (.goto (-50), 3) := by decide +kernel
theorem dX5_read_86 : decode cX5_read 86 = .ok (.aload_n 0, 1) := by decide +kernel
theorem dX5_read_87 : decode cX5_read 87 = .ok (.invokevirtual 67, 3) := by decide +kernel
theorem dX5_read_90 : decode cX5_read 90 = .ok (.ireturn, 1) := by decide +kernel
def D_X5_read_33b (k33 : z_H → Option Nat → Int32 → Option (Int32 × z_H)) (h : z_H) (l0 : Option Nat) (l2 : Int32) : Option (Int32 × z_H) :=
  if (12:Int32) ≤ l2 then
    (z_ob 5 h l0).bind fun _ =>
    (D_X5_failHere  h l0).bind fun p2924 =>
    if p2924.1 = 0 ∨ p2924.1 = 1 then some (p2924.1, p2924.2) else none
  else
    (z_ob 5 h l0).bind fun _ =>
    (D_X5_readClause  h l0 l2).bind fun p2927 =>
    if p2927.1 = 0 then
      some ((0:Int32), p2927.2)
    else
      (z_gQ 5 p2927.2 l0 1).bind fun x2930 =>
      (z_pV 7 p2927.2 x2930 4 (.int (l2 + (1:Int32)))).bind fun h2931 =>
      (z_gI 5 h2931 l0 7).bind fun x2932 =>
      if x2932 = (3:Int32) then
        some ((1:Int32), h2931)
      else
        (z_ob 5 h2931 l0).bind fun _ =>
        (D_X5_skipSign  h2931 l0 (59:Int32)).bind fun p2934 =>
        if p2934.1 = 0 then
          some ((0:Int32), p2934.2)
        else
          (some (l2 + (1:Int32))).bind fun x2937 =>
          k33 p2934.2 l0 x2937
def D_X5_read_33 (n : Nat) : z_H → Option Nat → Int32 → Option (Int32 × z_H) := Nat.rec (motive := fun _ => z_H → Option Nat → Int32 → Option (Int32 × z_H)) (fun _ _ _ => none) (fun _ k => D_X5_read_33b  k) n
set_option maxRecDepth 100000 in
set_option maxHeartbeats 4000000 in
theorem S_X5_read_33 {G : z_G} {l : Launch}  (n : Nat) : ∀ {h : z_H} {l0 : Option Nat} {l2 : Int32} {res : (Int32 × z_H)}, D_X5_read_33  n h l0 l2 = some res → z_Run G l 98 M_X5_read 33 [(0, z_r l0), (2, .int l2)] [] h res.2 (some (.int res.1)) := by
  induction n with
  | zero => intro h l0 l2 res e; cases e
  | succ n hk33 =>
    intro h l0 l2 res e
    replace e : D_X5_read_33b  (D_X5_read_33  n) h l0 l2 = some res := e
    unfold D_X5_read_33b at e
    refine z_iload_n 1 dX5_read_33 rfl ?_
    refine z_bipush (v := 12) dX5_read_34 (by decide) ?_
    refine z_icmp_ge (tgt := 86) dX5_read_36 (by decide) (fun c2923 => ?_) (fun c2923 => ?_)
    · rw [if_pos c2923] at e
      refine z_aload_n 0 dX5_read_86 rfl ?_
      replace e := z_bd e; obtain ⟨o2925, eo2925, e⟩ := e
      replace e := z_bd e; obtain ⟨p2924, ep2924, e⟩ := e
      refine z_cV [] (S_X5_failHere  ep2924) eo2925 rfl ml_X5_67 ck_X5_failHere vk_X5_failHere dX5_read_87 (by decide) rfl (Nat.zero_le _) rfl ?_
      replace e := z_ifs e; obtain ⟨c2926, e⟩ := e
      cases e
      exact z_zret dX5_read_90 rfl (z_nz c2926).1
    · rw [if_neg c2923] at e
      refine z_aload_n 0 dX5_read_39 rfl ?_
      refine z_iload_n 1 dX5_read_40 rfl ?_
      replace e := z_bd e; obtain ⟨o2928, eo2928, e⟩ := e
      replace e := z_bd e; obtain ⟨p2927, ep2927, e⟩ := e
      refine z_cV [.int l2] (S_X5_readClause  ep2927) eo2928 rfl ml_X5_56 ck_X5_readClause vk_X5_readClause dX5_read_41 (by decide) rfl (Nat.zero_le _) rfl ?_
      refine z_if_ne (tgt := 49) dX5_read_44 (by decide) (fun c2929 => ?_) (fun c2929 => ?_)
      · rw [if_neg c2929] at e
        refine z_aload_n 0 dX5_read_49 rfl ?_
        replace e := z_bd e; obtain ⟨x2930, ex2930, e⟩ := e
        refine z_getQ ex2930 lk_X5_20 dX5_read_50 ?_
        refine z_iload_n 1 dX5_read_53 rfl ?_
        refine z_iconst (v := 1) dX5_read_54 (by decide) ?_
        refine z_iadd dX5_read_55 ?_
        replace e := z_bd e; obtain ⟨h2931, eh2931, e⟩ := e
        refine z_putV eh2931 lk_X5_60 wk_7_4 (fun _ => rfl) (fun _ => rfl) dX5_read_56 ?_
        refine z_aload_n 0 dX5_read_59 rfl ?_
        replace e := z_bd e; obtain ⟨x2932, ex2932, e⟩ := e
        refine z_getI ex2932 lk_X5_41 dX5_read_60 ?_
        refine z_iconst (v := 3) dX5_read_63 (by decide) ?_
        refine z_icmp_ne (tgt := 69) dX5_read_64 (by decide) (fun c2933 => ?_) (fun c2933 => ?_)
        · rw [if_neg c2933] at e
          refine z_aload_n 0 dX5_read_69 rfl ?_
          refine z_bipush (v := 59) dX5_read_70 (by decide) ?_
          replace e := z_bd e; obtain ⟨o2935, eo2935, e⟩ := e
          replace e := z_bd e; obtain ⟨p2934, ep2934, e⟩ := e
          refine z_cV [.int (59:Int32)] (S_X5_skipSign  ep2934) eo2935 rfl ml_X5_63 ck_X5_skipSign vk_X5_skipSign dX5_read_72 (by decide) rfl (Nat.zero_le _) rfl ?_
          refine z_if_ne (tgt := 80) dX5_read_75 (by decide) (fun c2936 => ?_) (fun c2936 => ?_)
          · rw [if_neg c2936] at e
            replace e := z_bd e; obtain ⟨x2937, ex2937, e⟩ := e
            refine z_iinc (q := 1) (v := x2937) (L' := [(2, .int x2937), (0, z_r l0)]) dX5_read_80 rfl (Option.some.inj ex2937) (by decide) rfl ?_
            refine z_goto (tgt := 33) dX5_read_83 (by decide) ?_
            exact z_weak [1, 0] rfl (hk33 e)
          · rw [if_pos c2936] at e
            refine z_iconst (v := 0) dX5_read_78 (by decide) ?_
            cases e
            exact z_zret dX5_read_79 rfl (by decide)
        · rw [if_pos c2933] at e
          refine z_iconst (v := 1) dX5_read_67 (by decide) ?_
          cases e
          exact z_zret dX5_read_68 rfl (by decide)
      · rw [if_pos c2929] at e
        refine z_iconst (v := 0) dX5_read_47 (by decide) ?_
        cases e
        exact z_zret dX5_read_48 rfl (by decide)
def D_X5_read (h : z_H) (l0 : Option Nat) (l1 : Int32) : Option (Int32 × z_H) :=
  if l1 = 0 ∨ l1 = 1 then
  (z_pV 5 h l0 4 (.int l1)).bind fun h2938 =>
  (z_pV 5 h2938 l0 3 (.int (-1:Int32))).bind fun h2940 =>
  (z_pV 5 h2940 l0 6 (.int (0:Int32))).bind fun h2941 =>
  (z_pV 5 h2941 l0 9 (.int (0:Int32))).bind fun h2942 =>
  (z_gQ 5 h2942 l0 1).bind fun x2943 =>
  (z_ob 7 h2942 x2943).bind fun _ =>
  (D_X7_clear  h2942 x2943).bind fun p2944 =>
  (z_ob 5 p2944 l0).bind fun _ =>
  (D_X5_advance  p2944 l0).bind fun p2946 =>
  D_X5_read_33   z_F p2946 l0 (0:Int32)
  else none
set_option maxRecDepth 100000 in
set_option maxHeartbeats 4000000 in
theorem S_X5_read {G : z_G} {l : Launch} {h : z_H} {l0 : Option Nat} {l1 : Int32} {res : (Int32 × z_H)} (e : D_X5_read h l0 l1 = some res) : z_Meth G l 98 M_X5_read [z_r l0, .int l1] h res.2 (some (.int res.1)) := by
  refine z_Meth.of ck_X5_read.2.2.2.2 (by simp [lg_sl, z_ci, z_cj, z_cr, z_cx]) ck_X5_read.1 ?_
  rw [show lv_args 0 [z_r l0, .int l1] = [(0, z_r l0), (1, .int l1)] from by simp [lv_args, z_ci, z_cj, z_cr, z_cx]]
  unfold D_X5_read at e
  refine z_aload_n 0 dX5_read_0 rfl ?_
  refine z_iload_n 1 dX5_read_1 rfl ?_
  replace e := z_ifs e; obtain ⟨c2939, e⟩ := e
  replace e := z_bd e; obtain ⟨h2938, eh2938, e⟩ := e
  refine z_putV eh2938 lk_X5_31 wk_5_4 (fun _ => (z_nz c2939).1) (fun _ => (z_nz c2939).2) dX5_read_2 ?_
  refine z_aload_n 0 dX5_read_5 rfl ?_
  refine z_iconst (v := -1) dX5_read_6 (by decide) ?_
  replace e := z_bd e; obtain ⟨h2940, eh2940, e⟩ := e
  refine z_putV eh2940 lk_X5_28 wk_5_3 (fun _ => rfl) (fun _ => rfl) dX5_read_7 ?_
  refine z_aload_n 0 dX5_read_10 rfl ?_
  refine z_iconst (v := 0) dX5_read_11 (by decide) ?_
  replace e := z_bd e; obtain ⟨h2941, eh2941, e⟩ := e
  refine z_putV eh2941 lk_X5_38 wk_5_6 (fun _ => rfl) (fun _ => rfl) dX5_read_12 ?_
  refine z_aload_n 0 dX5_read_15 rfl ?_
  refine z_iconst (v := 0) dX5_read_16 (by decide) ?_
  replace e := z_bd e; obtain ⟨h2942, eh2942, e⟩ := e
  refine z_putV eh2942 lk_X5_47 wk_5_9 (fun _ => rfl) (fun _ => rfl) dX5_read_17 ?_
  refine z_aload_n 0 dX5_read_20 rfl ?_
  replace e := z_bd e; obtain ⟨x2943, ex2943, e⟩ := e
  refine z_getQ ex2943 lk_X5_20 dX5_read_21 ?_
  replace e := z_bd e; obtain ⟨o2945, eo2945, e⟩ := e
  replace e := z_bd e; obtain ⟨p2944, ep2944, e⟩ := e
  refine z_cV [] (S_X7_clear  ep2944) eo2945 rfl ml_X5_50 ck_X7_clear vk_X7_clear dX5_read_24 (by decide) rfl (Nat.zero_le _) rfl ?_
  refine z_aload_n 0 dX5_read_27 rfl ?_
  replace e := z_bd e; obtain ⟨o2947, eo2947, e⟩ := e
  replace e := z_bd e; obtain ⟨p2946, ep2946, e⟩ := e
  refine z_cV [] (S_X5_advance  ep2946) eo2947 rfl ml_X5_53 ck_X5_advance vk_X5_advance dX5_read_28 (by decide) rfl (Nat.zero_le _) rfl ?_
  refine z_iconst (v := 0) dX5_read_31 (by decide) ?_
  refine z_istore_n (L' := [(2, .int (0:Int32)), (0, z_r l0), (1, .int l1)]) dX5_read_32 rfl (by decide) rfl ?_
  exact z_weak [1, 0] rfl (S_X5_read_33   z_F e)
theorem dX8_become_0 : decode cX8_become 0 = .ok (.aload_n 1, 1) := by decide +kernel
theorem dX8_become_1 : decode cX8_become 1 = .ok (.getfield 11, 3) := by decide +kernel
theorem dX8_become_4 : decode cX8_become 4 = .ok (.iconst 0, 1) := by decide +kernel
theorem dX8_become_5 : decode cX8_become 5 = .ok (.aload_n 0, 1) := by decide +kernel
theorem dX8_become_6 : decode cX8_become 6 = .ok (.getfield 11, 3) := by decide +kernel
theorem dX8_become_9 : decode cX8_become 9 = .ok (.iconst 0, 1) := by decide +kernel
theorem dX8_become_10 : decode cX8_become 10 = .ok (.bipush 112, 2) := by decide +kernel
theorem dX8_become_12 : decode cX8_become 12 = .ok (.invokestatic 19, 3) := by decide +kernel
theorem dX8_become_15 : decode cX8_become 15 = .ok (.aload_n 0, 1) := by decide +kernel
theorem dX8_become_16 : decode cX8_become 16 = .ok (.aload_n 1, 1) := by decide +kernel
theorem dX8_become_17 : decode cX8_become 17 = .ok (.getfield 15, 3) := by decide +kernel
theorem dX8_become_20 : decode cX8_become 20 = .ok (.putfield 15, 3) := by decide +kernel
theorem dX8_become_23 : decode cX8_become 23 = .ok (.return_, 1) := by decide +kernel
def D_X8_become (h : z_H) (l0 : Option Nat) (l1 : Option Nat) : Option z_H :=
  (z_gQ 8 h l1 0).bind fun x2948 =>
  (z_gQ 8 h l0 0).bind fun x2949 =>
  (z_cI h x2948 (0:Int32) x2949 (0:Int32) (112:Int32)).bind fun h2950 =>
  (z_gI 8 h2950 l1 1).bind fun x2951 =>
  (z_pV 8 h2950 l0 1 (.int x2951)).bind fun h2952 =>
  some h2952
set_option maxRecDepth 100000 in
set_option maxHeartbeats 4000000 in
theorem S_X8_become {G : z_G} {l : Launch} {h : z_H} {l0 : Option Nat} {l1 : Option Nat} {res : z_H} (e : D_X8_become h l0 l1 = some res) : z_Meth G l 4 M_X8_become [z_r l0, z_r l1] h res none := by
  refine z_Meth.of ck_X8_become.2.2.2.2 (by simp [lg_sl, z_ci, z_cj, z_cr, z_cx]) ck_X8_become.1 ?_
  rw [show lv_args 0 [z_r l0, z_r l1] = [(0, z_r l0), (1, z_r l1)] from by simp [lv_args, z_ci, z_cj, z_cr, z_cx]]
  unfold D_X8_become at e
  refine z_aload_n 1 dX8_become_0 rfl ?_
  replace e := z_bd e; obtain ⟨x2948, ex2948, e⟩ := e
  refine z_getQ ex2948 lk_X8_11 dX8_become_1 ?_
  refine z_iconst (v := 0) dX8_become_4 (by decide) ?_
  refine z_aload_n 0 dX8_become_5 rfl ?_
  replace e := z_bd e; obtain ⟨x2949, ex2949, e⟩ := e
  refine z_getQ ex2949 lk_X8_11 dX8_become_6 ?_
  refine z_iconst (v := 0) dX8_become_9 (by decide) ?_
  refine z_bipush (v := 112) dX8_become_10 (by decide) ?_
  replace e := z_bd e; obtain ⟨h2950, eh2950, e⟩ := e
  refine z_cpyI eh2950 ml_X8_19 z_acok (by decide) (Nat.zero_le _) dX8_become_12 ?_
  refine z_aload_n 0 dX8_become_15 rfl ?_
  refine z_aload_n 1 dX8_become_16 rfl ?_
  replace e := z_bd e; obtain ⟨x2951, ex2951, e⟩ := e
  refine z_getI ex2951 lk_X8_15 dX8_become_17 ?_
  replace e := z_bd e; obtain ⟨h2952, eh2952, e⟩ := e
  refine z_putV eh2952 lk_X8_15 wk_8_1 (fun _ => rfl) (fun _ => rfl) dX8_become_20 ?_
  cases e
  exact z_vret dX8_become_23 rfl
