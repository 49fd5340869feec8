theorem dX2_setOrderWords_0 : decode cX2_setOrderWords 0 = .ok (.aload_n 0, 1) := by decide +kernel
theorem dX2_setOrderWords_1 : decode cX2_setOrderWords 1 = .ok (.getfield 35, 3) := by decide +kernel
theorem dX2_setOrderWords_4 : decode cX2_setOrderWords 4 = .ok (.getfield 89, 3) := by decide +kernel
theorem dX2_setOrderWords_7 : decode cX2_setOrderWords 7 = .ok (.astore_n 2, 1) := by decide +kernel
theorem dX2_setOrderWords_8 : decode cX2_setOrderWords 8 = .ok (.aload_n 2, 1) := by decide +kernel
theorem dX2_setOrderWords_9 : decode cX2_setOrderWords 9 = .ok (.iconst 0, 1) := by decide +kernel
theorem dX2_setOrderWords_10 : decode cX2_setOrderWords 10 = .ok (.aload_n 1, 1) := by decide +kernel
theorem dX2_setOrderWords_11 : decode cX2_setOrderWords 11 = .ok (.getfield 92, 3) := by decide +kernel
theorem dX2_setOrderWords_14 : decode cX2_setOrderWords 14 = .ok (.iconst 0, 1) := by decide +kernel
theorem dX2_setOrderWords_15 : decode cX2_setOrderWords 15 = .ok (.iaload, 1) := by decide +kernel
theorem dX2_setOrderWords_16 : decode cX2_setOrderWords 16 = .ok (.iastore, 1) := by decide +kernel
theorem dX2_setOrderWords_17 : decode cX2_setOrderWords 17 = .ok (.aload_n 2, 1) := by decide +kernel
theorem dX2_setOrderWords_18 : decode cX2_setOrderWords 18 = .ok (.iconst 1, 1) := by decide +kernel
theorem dX2_setOrderWords_19 : decode cX2_setOrderWords 19 = .ok (.aload_n 0, 1) := by decide +kernel
theorem dX2_setOrderWords_20 : decode cX2_setOrderWords 20 = .ok (.getfield 25, 3) := by decide +kernel
theorem dX2_setOrderWords_23 : decode cX2_setOrderWords 23 = .ok (.iastore, 1) := by decide +kernel
theorem dX2_setOrderWords_24 : decode cX2_setOrderWords 24 = .ok (.aload_n 2, 1) := by decide +kernel
theorem dX2_setOrderWords_25 : decode cX2_setOrderWords 25 = .ok (.iconst 2, 1) := by decide +kernel
theorem dX2_setOrderWords_26 : decode cX2_setOrderWords 26 = .ok (.aload_n 0, 1) := by decide +kernel
theorem dX2_setOrderWords_27 : decode cX2_setOrderWords 27 = .ok (.getfield 29, 3) := by decide +kernel
theorem dX2_setOrderWords_30 : decode cX2_setOrderWords 30 = .ok (.iastore, 1) := by decide +kernel
theorem dX2_setOrderWords_31 : decode cX2_setOrderWords 31 = .ok (.aload_n 2, 1) := by decide +kernel
theorem dX2_setOrderWords_32 : decode cX2_setOrderWords 32 = .ok (.iconst 3, 1) := by decide +kernel
theorem dX2_setOrderWords_33 : decode cX2_setOrderWords 33 = .ok (.aload_n 1, 1) := by decide +kernel
theorem dX2_setOrderWords_34 : decode cX2_setOrderWords 34 = .ok (.getfield 95, 3) := by decide +kernel
theorem dX2_setOrderWords_37 : decode cX2_setOrderWords 37 = .ok (.iastore, 1) := by decide +kernel
theorem dX2_setOrderWords_38 : decode cX2_setOrderWords 38 = .ok (.aload_n 2, 1) := by decide +kernel
theorem dX2_setOrderWords_39 : decode cX2_setOrderWords 39 = .ok (.iconst 4, 1) := by decide +kernel
theorem dX2_setOrderWords_40 : decode cX2_setOrderWords 40 = .ok (.aload_n 1, 1) := by decide +kernel
theorem dX2_setOrderWords_41 : decode cX2_setOrderWords 41 = .ok (.getfield 98, 3) := by decide +kernel
theorem dX2_setOrderWords_44 : decode cX2_setOrderWords 44 = .ok (.invokestatic 101, 3) := by decide +kernel
theorem dX2_setOrderWords_47 : decode cX2_setOrderWords 47 = .ok (.iastore, 1) := by decide +kernel
theorem dX2_setOrderWords_48 : decode cX2_setOrderWords 48 = .ok (.iconst 0, 1) := by decide +kernel
theorem dX2_setOrderWords_49 : decode cX2_setOrderWords 49 = .ok (.istore_n 3, 1) := by decide +kernel
theorem dX2_setOrderWords_50 : decode cX2_setOrderWords 50 = .ok (.iload_n 3, 1) := by decide +kernel
theorem dX2_setOrderWords_51 : decode cX2_setOrderWords 51 = .ok (.bipush 6, 2) := by decide +kernel
theorem dX2_setOrderWords_53 : decode cX2_setOrderWords 53 = .ok (.if_icmp .ge 78, 3) := by decide +kernel
theorem dX2_setOrderWords_56 : decode cX2_setOrderWords 56 = .ok (.aload_n 1, 1) := by decide +kernel
theorem dX2_setOrderWords_57 : decode cX2_setOrderWords 57 = .ok (.iload_n 3, 1) := by decide +kernel
theorem dX2_setOrderWords_58 : decode cX2_setOrderWords 58 = .ok (.invokevirtual 107, 3) := by decide +kernel
theorem dX2_setOrderWords_61 : decode cX2_setOrderWords 61 = .ok (.istore 4, 2) := by decide +kernel
theorem dX2_setOrderWords_63 : decode cX2_setOrderWords 63 = .ok (.aload_n 2, 1) := by decide +kernel
theorem dX2_setOrderWords_64 : decode cX2_setOrderWords 64 = .ok (.iconst 5, 1) := by decide +kernel
theorem dX2_setOrderWords_65 : decode cX2_setOrderWords 65 = .ok (.iload_n 3, 1) := by decide +kernel
theorem dX2_setOrderWords_66 : decode cX2_setOrderWords 66 = .ok (.iadd, 1) := by decide +kernel
theorem dX2_setOrderWords_67 : decode cX2_setOrderWords 67 = .ok (.iload 4, 2) := by decide +kernel
theorem dX2_setOrderWords_69 : decode cX2_setOrderWords 69 = .ok (.ifCond .eq 12, 3) := by decide +kernel
theorem dX2_setOrderWords_72 : decode cX2_setOrderWords 72 = .ok (.aload_n 1, 1) := by decide +kernel
theorem dX2_setOrderWords_73 : decode cX2_setOrderWords 73 = .ok (.getfield 111, 3) := by decide +kernel
theorem dX2_setOrderWords_76 : decode cX2_setOrderWords 76 = .ok (.iload_n 3, 1) := by decide +kernel
theorem dX2_setOrderWords_77 : decode cX2_setOrderWords 77 = .ok (.iaload, 1) := by decide +kernel
theorem dX2_setOrderWords_78 : decode cX2_setOrderWords 78 = .ok (.goto 4, 3) := by decide +kernel
theorem dX2_setOrderWords_81 : decode cX2_setOrderWords 81 = .ok (.iconst (-1), 1) := by decide +kernel
theorem dX2_setOrderWords_82 : decode cX2_setOrderWords 82 = .ok (.iastore, 1) := by decide +kernel
theorem dX2_setOrderWords_83 : decode cX2_setOrderWords 83 = .ok (.aload_n 2, 1) := by decide +kernel
theorem dX2_setOrderWords_84 : decode cX2_setOrderWords 84 = .ok (.bipush 11, 2) := by decide +kernel
theorem dX2_setOrderWords_86 : decode cX2_setOrderWords 86 = .ok (.iload_n 3, 1) := by decide +kernel
theorem dX2_setOrderWords_87 : decode cX2_setOrderWords 87 = .ok (.iadd, 1) := by decide +kernel
theorem dX2_setOrderWords_88 : decode cX2_setOrderWords 88 = .ok (.iload 4, 2) := by decide +kernel
theorem dX2_setOrderWords_90 : decode cX2_setOrderWords 90 = .ok (.ifCond .eq 12, 3) := by decide +kernel
theorem dX2_setOrderWords_93 : decode cX2_setOrderWords 93 = .ok (.aload_n 1, 1) := by decide +kernel
theorem dX2_setOrderWords_94 : decode cX2_setOrderWords 94 = .ok (.iload_n 3, 1) := by decide +kernel
theorem dX2_setOrderWords_95 : decode cX2_setOrderWords 95 = .ok (.iconst 0, 1) := by decide +kernel
theorem dX2_setOrderWords_96 : decode cX2_setOrderWords 96 = .ok (.invokevirtual 114, 3) := by decide +kernel
theorem dX2_setOrderWords_99 : decode cX2_setOrderWords 99 = .ok (.goto 4, 3) := by decide +kernel
theorem dX2_setOrderWords_102 : decode cX2_setOrderWords 102 = .ok (.iconst (-1), 1) := by decide +kernel
theorem dX2_setOrderWords_103 : decode cX2_setOrderWords 103 = .ok (.iastore, 1) := by decide +kernel
theorem dX2_setOrderWords_104 : decode cX2_setOrderWords 104 = .ok (.aload_n 2, 1) := by decide +kernel
theorem dX2_setOrderWords_105 : decode cX2_setOrderWords 105 = .ok (.bipush 17, 2) := by decide +kernel
theorem dX2_setOrderWords_107 : decode cX2_setOrderWords 107 = .ok (.iload_n 3, 1) := by decide +kernel
theorem dX2_setOrderWords_108 : decode cX2_setOrderWords 108 = .ok (.iadd, 1) := by decide +kernel
theorem dX2_setOrderWords_109 : decode cX2_setOrderWords 109 = .ok (.iload 4, 2) := by decide +kernel
theorem dX2_setOrderWords_111 : decode cX2_setOrderWords 111 = .ok (.ifCond .eq 12, 3) := by decide +kernel
theorem dX2_setOrderWords_114 : decode cX2_setOrderWords 114 = .ok (.aload_n 1, 1) := by decide +kernel
theorem dX2_setOrderWords_115 : decode cX2_setOrderWords 115 = .ok (.iload_n 3, 1) := by decide +kernel
theorem dX2_setOrderWords_116 : decode cX2_setOrderWords 116 = .ok (.iconst 1, 1) := by decide +kernel
theorem dX2_setOrderWords_117 : decode cX2_setOrderWords 117 = .ok (.invokevirtual 114, 3) := by decide +kernel
theorem dX2_setOrderWords_120 : decode cX2_setOrderWords 120 = .ok (.goto 4, 3) := by decide +kernel
theorem dX2_setOrderWords_123 : decode cX2_setOrderWords 123 = .ok (.iconst (-1), 1) := by decide +kernel
theorem dX2_setOrderWords_124 : decode cX2_setOrderWords 124 = .ok (.iastore, 1) := by decide +kernel
theorem dX2_setOrderWords_125 : decode cX2_setOrderWords 125 = .ok (.iinc 3 1, 3) := by decide +kernel
theorem dX2_setOrderWords_128 : decode cX2_setOrderWords 128 = .ok (.goto (-78), 3) := by decide +kernel
theorem dX2_setOrderWords_131 : decode cX2_setOrderWords 131 = .ok (.return_, 1) := by decide +kernel
def D_X2_setOrderWords_124 (k50 : z_H → Option Nat → Option Nat → Int32 → Option z_H) (h : z_H) (l1 : Option Nat) (l2 : Option Nat) (l3 : Int32) (s0 : Option Nat) (s1 : Int32) (s2 : Int32) : Option z_H :=
  (z_sI h s0 s1 s2).bind fun h2953 =>
  (some (l3 + (1:Int32))).bind fun x2954 =>
  k50 h2953 l1 l2 x2954
set_option maxRecDepth 100000 in
set_option maxHeartbeats 4000000 in
theorem S_X2_setOrderWords_124 {G : z_G} {l : Launch} {k50 : z_H → Option Nat → Option Nat → Int32 → Option z_H} (hk50 : ∀ {h : z_H} {l1 : Option Nat} {l2 : Option Nat} {l3 : Int32} {res : z_H}, k50 h l1 l2 l3 = some res → z_Run G l 5 M_X2_setOrderWords 50 [(1, z_r l1), (2, z_r l2), (3, .int l3)] [] h res none) {h : z_H} {l1 : Option Nat} {l2 : Option Nat} {l3 : Int32} {s0 : Option Nat} {s1 : Int32} {s2 : Int32} {res : z_H} (e : D_X2_setOrderWords_124 k50 h l1 l2 l3 s0 s1 s2 = some res) : z_Run G l 5 M_X2_setOrderWords 124 [(1, z_r l1), (2, z_r l2), (3, .int l3)] [.int s2, .int s1, z_r s0] h res none := by
  unfold D_X2_setOrderWords_124 at e
  replace e := z_bd e; obtain ⟨h2953, eh2953, e⟩ := e
  refine z_iast eh2953 dX2_setOrderWords_124 ?_
  replace e := z_bd e; obtain ⟨x2954, ex2954, e⟩ := e
  refine z_iinc (q := 2) (v := x2954) (L' := [(3, .int x2954), (1, z_r l1), (2, z_r l2)]) dX2_setOrderWords_125 rfl (Option.some.inj ex2954) (by decide) (by simp [z_cr]) ?_
  refine z_goto (tgt := 50) dX2_setOrderWords_128 (by decide) ?_
  exact z_weak [1, 2, 0] rfl (hk50 e)
def D_X2_setOrderWords_103 (k50 : z_H → Option Nat → Option Nat → Int32 → Option z_H) (h : z_H) (l1 : Option Nat) (l2 : Option Nat) (l3 : Int32) (l4 : Int32) (s0 : Option Nat) (s1 : Int32) (s2 : Int32) : Option z_H :=
  (z_sI h s0 s1 s2).bind fun h2955 =>
  if l4 = 0 then
    D_X2_setOrderWords_124  k50 h2955 l1 l2 l3 l2 ((17:Int32) + l3) (-1:Int32)
  else
    (z_ob 9 h2955 l1).bind fun _ =>
    (D_X9_wornAt  h2955 l1 l3 (1:Int32)).bind fun p2957 =>
    D_X2_setOrderWords_124  k50 p2957.2 l1 l2 l3 l2 ((17:Int32) + l3) p2957.1
set_option maxRecDepth 100000 in
set_option maxHeartbeats 4000000 in
theorem S_X2_setOrderWords_103 {G : z_G} {l : Launch} {k50 : z_H → Option Nat → Option Nat → Int32 → Option z_H} (hk50 : ∀ {h : z_H} {l1 : Option Nat} {l2 : Option Nat} {l3 : Int32} {res : z_H}, k50 h l1 l2 l3 = some res → z_Run G l 5 M_X2_setOrderWords 50 [(1, z_r l1), (2, z_r l2), (3, .int l3)] [] h res none) {h : z_H} {l1 : Option Nat} {l2 : Option Nat} {l3 : Int32} {l4 : Int32} {s0 : Option Nat} {s1 : Int32} {s2 : Int32} {res : z_H} (e : D_X2_setOrderWords_103 k50 h l1 l2 l3 l4 s0 s1 s2 = some res) : z_Run G l 5 M_X2_setOrderWords 103 [(1, z_r l1), (2, z_r l2), (3, .int l3), (4, .int l4)] [.int s2, .int s1, z_r s0] h res none := by
  unfold D_X2_setOrderWords_103 at e
  replace e := z_bd e; obtain ⟨h2955, eh2955, e⟩ := e
  refine z_iast eh2955 dX2_setOrderWords_103 ?_
  refine z_aload_n 1 dX2_setOrderWords_104 rfl ?_
  refine z_bipush (v := 17) dX2_setOrderWords_105 (by decide) ?_
  refine z_iload_n 2 dX2_setOrderWords_107 rfl ?_
  refine z_iadd dX2_setOrderWords_108 ?_
  refine z_iload 3 dX2_setOrderWords_109 rfl ?_
  refine z_if_eq (tgt := 123) dX2_setOrderWords_111 (by decide) (fun c2956 => ?_) (fun c2956 => ?_)
  · rw [if_pos c2956] at e
    refine z_iconst (v := -1) dX2_setOrderWords_123 (by decide) ?_
    exact z_weak [0, 1, 2] rfl (S_X2_setOrderWords_124  @hk50 e)
  · rw [if_neg c2956] at e
    refine z_aload_n 0 dX2_setOrderWords_114 rfl ?_
    refine z_iload_n 2 dX2_setOrderWords_115 rfl ?_
    refine z_iconst (v := 1) dX2_setOrderWords_116 (by decide) ?_
    replace e := z_bd e; obtain ⟨o2958, eo2958, e⟩ := e
    replace e := z_bd e; obtain ⟨p2957, ep2957, e⟩ := e
    refine z_cV [.int l3, .int (1:Int32)] (S_X9_wornAt  ep2957) eo2958 rfl ml_X2_114 ck_X9_wornAt vk_X9_wornAt dX2_setOrderWords_117 (by decide) rfl (by simp [z_ci, z_cj, z_cr, z_cx]) rfl ?_
    refine z_goto (tgt := 124) dX2_setOrderWords_120 (by decide) ?_
    exact z_weak [0, 1, 2] rfl (S_X2_setOrderWords_124  @hk50 e)
def D_X2_setOrderWords_82 (k50 : z_H → Option Nat → Option Nat → Int32 → Option z_H) (h : z_H) (l1 : Option Nat) (l2 : Option Nat) (l3 : Int32) (l4 : Int32) (s0 : Option Nat) (s1 : Int32) (s2 : Int32) : Option z_H :=
  (z_sI h s0 s1 s2).bind fun h2959 =>
  if l4 = 0 then
    D_X2_setOrderWords_103  k50 h2959 l1 l2 l3 l4 l2 ((11:Int32) + l3) (-1:Int32)
  else
    (z_ob 9 h2959 l1).bind fun _ =>
    (D_X9_wornAt  h2959 l1 l3 (0:Int32)).bind fun p2961 =>
    D_X2_setOrderWords_103  k50 p2961.2 l1 l2 l3 l4 l2 ((11:Int32) + l3) p2961.1
set_option maxRecDepth 100000 in
set_option maxHeartbeats 4000000 in
theorem S_X2_setOrderWords_82 {G : z_G} {l : Launch} {k50 : z_H → Option Nat → Option Nat → Int32 → Option z_H} (hk50 : ∀ {h : z_H} {l1 : Option Nat} {l2 : Option Nat} {l3 : Int32} {res : z_H}, k50 h l1 l2 l3 = some res → z_Run G l 5 M_X2_setOrderWords 50 [(1, z_r l1), (2, z_r l2), (3, .int l3)] [] h res none) {h : z_H} {l1 : Option Nat} {l2 : Option Nat} {l3 : Int32} {l4 : Int32} {s0 : Option Nat} {s1 : Int32} {s2 : Int32} {res : z_H} (e : D_X2_setOrderWords_82 k50 h l1 l2 l3 l4 s0 s1 s2 = some res) : z_Run G l 5 M_X2_setOrderWords 82 [(1, z_r l1), (2, z_r l2), (3, .int l3), (4, .int l4)] [.int s2, .int s1, z_r s0] h res none := by
  unfold D_X2_setOrderWords_82 at e
  replace e := z_bd e; obtain ⟨h2959, eh2959, e⟩ := e
  refine z_iast eh2959 dX2_setOrderWords_82 ?_
  refine z_aload_n 1 dX2_setOrderWords_83 rfl ?_
  refine z_bipush (v := 11) dX2_setOrderWords_84 (by decide) ?_
  refine z_iload_n 2 dX2_setOrderWords_86 rfl ?_
  refine z_iadd dX2_setOrderWords_87 ?_
  refine z_iload 3 dX2_setOrderWords_88 rfl ?_
  refine z_if_eq (tgt := 102) dX2_setOrderWords_90 (by decide) (fun c2960 => ?_) (fun c2960 => ?_)
  · rw [if_pos c2960] at e
    refine z_iconst (v := -1) dX2_setOrderWords_102 (by decide) ?_
    exact z_weak [0, 1, 2, 3] rfl (S_X2_setOrderWords_103  @hk50 e)
  · rw [if_neg c2960] at e
    refine z_aload_n 0 dX2_setOrderWords_93 rfl ?_
    refine z_iload_n 2 dX2_setOrderWords_94 rfl ?_
    refine z_iconst (v := 0) dX2_setOrderWords_95 (by decide) ?_
    replace e := z_bd e; obtain ⟨o2962, eo2962, e⟩ := e
    replace e := z_bd e; obtain ⟨p2961, ep2961, e⟩ := e
    refine z_cV [.int l3, .int (0:Int32)] (S_X9_wornAt  ep2961) eo2962 rfl ml_X2_114 ck_X9_wornAt vk_X9_wornAt dX2_setOrderWords_96 (by decide) rfl (by simp [z_ci, z_cj, z_cr, z_cx]) rfl ?_
    refine z_goto (tgt := 103) dX2_setOrderWords_99 (by decide) ?_
    exact z_weak [0, 1, 2, 3] rfl (S_X2_setOrderWords_103  @hk50 e)
def D_X2_setOrderWords_50b (k50 : z_H → Option Nat → Option Nat → Int32 → Option z_H) (h : z_H) (l1 : Option Nat) (l2 : Option Nat) (l3 : Int32) : Option z_H :=
  if (6:Int32) ≤ l3 then
    some h
  else
    (z_ob 9 h l1).bind fun _ =>
    (D_X9_hasPair  h l1 l3).bind fun p2964 =>
    if p2964.1 = 0 then
      D_X2_setOrderWords_82  k50 p2964.2 l1 l2 l3 p2964.1 l2 ((5:Int32) + l3) (-1:Int32)
    else
      (z_gQ 9 p2964.2 l1 0).bind fun x2967 =>
      (z_aI .int p2964.2 x2967 l3).bind fun x2968 =>
      D_X2_setOrderWords_82  k50 p2964.2 l1 l2 l3 p2964.1 l2 ((5:Int32) + l3) x2968
def D_X2_setOrderWords_50 (n : Nat) : z_H → Option Nat → Option Nat → Int32 → Option z_H := Nat.rec (motive := fun _ => z_H → Option Nat → Option Nat → Int32 → Option z_H) (fun _ _ _ _ => none) (fun _ k => D_X2_setOrderWords_50b  k) n
set_option maxRecDepth 100000 in
set_option maxHeartbeats 4000000 in
theorem S_X2_setOrderWords_50 {G : z_G} {l : Launch}  (n : Nat) : ∀ {h : z_H} {l1 : Option Nat} {l2 : Option Nat} {l3 : Int32} {res : z_H}, D_X2_setOrderWords_50  n h l1 l2 l3 = some res → z_Run G l 5 M_X2_setOrderWords 50 [(1, z_r l1), (2, z_r l2), (3, .int l3)] [] h res none := by
  induction n with
  | zero => intro h l1 l2 l3 res e; cases e
  | succ n hk50 =>
    intro h l1 l2 l3 res e
    replace e : D_X2_setOrderWords_50b  (D_X2_setOrderWords_50  n) h l1 l2 l3 = some res := e
    unfold D_X2_setOrderWords_50b at e
    refine z_iload_n 2 dX2_setOrderWords_50 rfl ?_
    refine z_bipush (v := 6) dX2_setOrderWords_51 (by decide) ?_
    refine z_icmp_ge (tgt := 131) dX2_setOrderWords_53 (by decide) (fun c2963 => ?_) (fun c2963 => ?_)
    · rw [if_pos c2963] at e
      cases e
      exact z_vret dX2_setOrderWords_131 rfl
    · rw [if_neg c2963] at e
      refine z_aload_n 0 dX2_setOrderWords_56 rfl ?_
      refine z_iload_n 2 dX2_setOrderWords_57 rfl ?_
      replace e := z_bd e; obtain ⟨o2965, eo2965, e⟩ := e
      replace e := z_bd e; obtain ⟨p2964, ep2964, e⟩ := e
      refine z_cV [.int l3] (S_X9_hasPair  ep2964) eo2965 rfl ml_X2_107 ck_X9_hasPair vk_X9_hasPair dX2_setOrderWords_58 (by decide) rfl (Nat.zero_le _) rfl ?_
      refine z_istore (L' := [(4, .int p2964.1), (1, z_r l1), (2, z_r l2), (3, .int l3)]) dX2_setOrderWords_61 (by decide) rfl ?_
      refine z_aload_n 2 dX2_setOrderWords_63 rfl ?_
      refine z_iconst (v := 5) dX2_setOrderWords_64 (by decide) ?_
      refine z_iload_n 3 dX2_setOrderWords_65 rfl ?_
      refine z_iadd dX2_setOrderWords_66 ?_
      refine z_iload 0 dX2_setOrderWords_67 rfl ?_
      refine z_if_eq (tgt := 81) dX2_setOrderWords_69 (by decide) (fun c2966 => ?_) (fun c2966 => ?_)
      · rw [if_pos c2966] at e
        refine z_iconst (v := -1) dX2_setOrderWords_81 (by decide) ?_
        exact z_weak [1, 2, 3, 0] rfl (S_X2_setOrderWords_82  @hk50 e)
      · rw [if_neg c2966] at e
        refine z_aload_n 1 dX2_setOrderWords_72 rfl ?_
        replace e := z_bd e; obtain ⟨x2967, ex2967, e⟩ := e
        refine z_getQ ex2967 lk_X2_111 dX2_setOrderWords_73 ?_
        refine z_iload_n 3 dX2_setOrderWords_76 rfl ?_
        replace e := z_bd e; obtain ⟨x2968, ex2968, e⟩ := e
        refine z_iald ex2968 dX2_setOrderWords_77 ?_
        refine z_goto (tgt := 82) dX2_setOrderWords_78 (by decide) ?_
        exact z_weak [1, 2, 3, 0] rfl (S_X2_setOrderWords_82  @hk50 e)
def D_X2_setOrderWords (h : z_H) (l0 : Option Nat) (l1 : Option Nat) : Option z_H :=
  (z_gQ 2 h l0 0).bind fun x2969 =>
  (z_gQ 1 h x2969 0).bind fun x2970 =>
  (z_gQ 9 h l1 4).bind fun x2971 =>
  (z_aI .int h x2971 (0:Int32)).bind fun x2972 =>
  (z_sI h x2970 (0:Int32) x2972).bind fun h2973 =>
  (z_gI 2 h2973 l0 4).bind fun x2974 =>
  (z_sI h2973 x2970 (1:Int32) x2974).bind fun h2975 =>
  (z_gI 2 h2975 l0 5).bind fun x2976 =>
  (z_sI h2975 x2970 (2:Int32) x2976).bind fun h2977 =>
  (z_gI 9 h2977 l1 8).bind fun x2978 =>
  (z_sI h2977 x2970 (3:Int32) x2978).bind fun h2979 =>
  (z_gI 9 h2979 l1 9).bind fun x2980 =>
  (D_J6_bitCount_0f7a4  h2979 x2980).bind fun p2981 =>
  (z_sI p2981.2 x2970 (4:Int32) p2981.1).bind fun h2982 =>
  D_X2_setOrderWords_50   z_F h2982 l1 x2970 (0:Int32)
set_option maxRecDepth 100000 in
set_option maxHeartbeats 4000000 in
theorem S_X2_setOrderWords {G : z_G} {l : Launch} {h : z_H} {l0 : Option Nat} {l1 : Option Nat} {res : z_H} (e : D_X2_setOrderWords h l0 l1 = some res) : z_Meth G l 5 M_X2_setOrderWords [z_r l0, z_r l1] h res none := by
  refine z_Meth.of ck_X2_setOrderWords.2.2.2.2 (by simp [lg_sl, z_ci, z_cj, z_cr, z_cx]) ck_X2_setOrderWords.1 ?_
  rw [show lv_args 0 [z_r l0, z_r l1] = [(0, z_r l0), (1, z_r l1)] from by simp [lv_args, z_ci, z_cj, z_cr, z_cx]]
  unfold D_X2_setOrderWords at e
  refine z_aload_n 0 dX2_setOrderWords_0 rfl ?_
  replace e := z_bd e; obtain ⟨x2969, ex2969, e⟩ := e
  refine z_getQ ex2969 lk_X2_35 dX2_setOrderWords_1 ?_
  replace e := z_bd e; obtain ⟨x2970, ex2970, e⟩ := e
  refine z_getQ ex2970 lk_X2_89 dX2_setOrderWords_4 ?_
  refine z_astore_n (L' := [(2, z_r x2970), (0, z_r l0), (1, z_r l1)]) dX2_setOrderWords_7 rfl (by decide) (by simp [z_cr]) ?_
  refine z_aload_n 0 dX2_setOrderWords_8 rfl ?_
  refine z_iconst (v := 0) dX2_setOrderWords_9 (by decide) ?_
  refine z_aload_n 2 dX2_setOrderWords_10 rfl ?_
  replace e := z_bd e; obtain ⟨x2971, ex2971, e⟩ := e
  refine z_getQ ex2971 lk_X2_92 dX2_setOrderWords_11 ?_
  refine z_iconst (v := 0) dX2_setOrderWords_14 (by decide) ?_
  replace e := z_bd e; obtain ⟨x2972, ex2972, e⟩ := e
  refine z_iald ex2972 dX2_setOrderWords_15 ?_
  replace e := z_bd e; obtain ⟨h2973, eh2973, e⟩ := e
  refine z_iast eh2973 dX2_setOrderWords_16 ?_
  refine z_aload_n 0 dX2_setOrderWords_17 rfl ?_
  refine z_iconst (v := 1) dX2_setOrderWords_18 (by decide) ?_
  refine z_aload_n 1 dX2_setOrderWords_19 rfl ?_
  replace e := z_bd e; obtain ⟨x2974, ex2974, e⟩ := e
  refine z_getI ex2974 lk_X2_25 dX2_setOrderWords_20 ?_
  replace e := z_bd e; obtain ⟨h2975, eh2975, e⟩ := e
  refine z_iast eh2975 dX2_setOrderWords_23 ?_
  refine z_aload_n 0 dX2_setOrderWords_24 rfl ?_
  refine z_iconst (v := 2) dX2_setOrderWords_25 (by decide) ?_
  refine z_aload_n 1 dX2_setOrderWords_26 rfl ?_
  replace e := z_bd e; obtain ⟨x2976, ex2976, e⟩ := e
  refine z_getI ex2976 lk_X2_29 dX2_setOrderWords_27 ?_
  replace e := z_bd e; obtain ⟨h2977, eh2977, e⟩ := e
  refine z_iast eh2977 dX2_setOrderWords_30 ?_
  refine z_aload_n 0 dX2_setOrderWords_31 rfl ?_
  refine z_iconst (v := 3) dX2_setOrderWords_32 (by decide) ?_
  refine z_aload_n 2 dX2_setOrderWords_33 rfl ?_
  replace e := z_bd e; obtain ⟨x2978, ex2978, e⟩ := e
  refine z_getI ex2978 lk_X2_95 dX2_setOrderWords_34 ?_
  replace e := z_bd e; obtain ⟨h2979, eh2979, e⟩ := e
  refine z_iast eh2979 dX2_setOrderWords_37 ?_
  refine z_aload_n 0 dX2_setOrderWords_38 rfl ?_
  refine z_iconst (v := 4) dX2_setOrderWords_39 (by decide) ?_
  refine z_aload_n 2 dX2_setOrderWords_40 rfl ?_
  replace e := z_bd e; obtain ⟨x2980, ex2980, e⟩ := e
  refine z_getI ex2980 lk_X2_98 dX2_setOrderWords_41 ?_
  replace e := z_bd e; obtain ⟨p2981, ep2981, e⟩ := e
  refine z_cS [.int x2980] (S_J6_bitCount_0f7a4  ep2981) ml_X2_101 ck_J6_bitCount_0f7a4 st_J6_bitCount_0f7a4 dX2_setOrderWords_44 (by decide) rfl (by simp [z_ci, z_cj, z_cr, z_cx]) rfl ?_
  replace e := z_bd e; obtain ⟨h2982, eh2982, e⟩ := e
  refine z_iast eh2982 dX2_setOrderWords_47 ?_
  refine z_iconst (v := 0) dX2_setOrderWords_48 (by decide) ?_
  refine z_istore_n (i := 3) (L' := [(3, .int (0:Int32)), (2, z_r x2970), (0, z_r l0), (1, z_r l1)]) dX2_setOrderWords_49 rfl (by decide) (by simp [z_cr, z_ci, z_cj]) ?_
  exact z_weak [3, 1, 0] rfl (S_X2_setOrderWords_50   z_F e)
theorem dX2_obey_0 : decode cX2_obey 0 = .ok (.aload_n 1, 1) := by decide +kernel
theorem dX2_obey_1 : decode cX2_obey 1 = .ok (.iload_n 2, 1) := by decide +kernel
theorem dX2_obey_2 : decode cX2_obey 2 = .ok (.iconst 3, 1) := by decide +kernel
theorem dX2_obey_3 : decode cX2_obey 3 = .ok (.invokevirtual 55, 3) := by decide +kernel
theorem dX2_obey_6 : decode cX2_obey 6 = .ok (.istore 5, 2) := by decide +kernel
theorem dX2_obey_8 : decode cX2_obey 8 = .ok (.aload_n 1, 1) := by decide +kernel
theorem dX2_obey_9 : decode cX2_obey 9 = .ok (.iload_n 2, 1) := by decide +kernel
theorem dX2_obey_10 : decode cX2_obey 10 = .ok (.iconst 4, 1) := by decide +kernel
theorem dX2_obey_11 : decode cX2_obey 11 = .ok (.invokevirtual 55, 3) := by decide +kernel
theorem dX2_obey_14 : decode cX2_obey 14 = .ok (.istore 6, 2) := by decide +kernel
theorem dX2_obey_16 : decode cX2_obey 16 = .ok (.aload_n 0, 1) := by decide +kernel
theorem dX2_obey_17 : decode cX2_obey 17 = .ok (.aload_n 3, 1) := by decide +kernel
theorem dX2_obey_18 : decode cX2_obey 18 = .ok (.invokevirtual 63, 3) := by decide +kernel
theorem dX2_obey_21 : decode cX2_obey 21 = .ok (.aload_n 0, 1) := by decide +kernel
theorem dX2_obey_22 : decode cX2_obey 22 = .ok (.getfield 35, 3) := by decide +kernel
theorem dX2_obey_25 : decode cX2_obey 25 = .ok (.aload_n 1, 1) := by decide +kernel
theorem dX2_obey_26 : decode cX2_obey 26 = .ok (.iload 6, 2) := by decide +kernel
theorem dX2_obey_28 : decode cX2_obey 28 = .ok (.aload_n 1, 1) := by decide +kernel
theorem dX2_obey_29 : decode cX2_obey 29 = .ok (.iload_n 2, 1) := by decide +kernel
theorem dX2_obey_30 : decode cX2_obey 30 = .ok (.iconst 5, 1) := by decide +kernel
theorem dX2_obey_31 : decode cX2_obey 31 = .ok (.invokevirtual 55, 3) := by decide +kernel
theorem dX2_obey_34 : decode cX2_obey 34 = .ok (.invokevirtual 66, 3) := by decide +kernel
theorem dX2_obey_37 : decode cX2_obey 37 = .ok (.ifCond .eq 14, 3) := by decide +kernel
theorem dX2_obey_40 : decode cX2_obey 40 = .ok (.aload_n 0, 1) := by decide +kernel
theorem dX2_obey_41 : decode cX2_obey 41 = .ok (.getfield 35, 3) := by decide +kernel
theorem dX2_obey_44 : decode cX2_obey 44 = .ok (.getfield 72, 3) := by decide +kernel
theorem dX2_obey_47 : decode cX2_obey 47 = .ok (.iconst 1, 1) := by decide +kernel
theorem dX2_obey_48 : decode cX2_obey 48 = .ok (.if_icmp .eq 5, 3) := by decide +kernel
theorem dX2_obey_51 : decode cX2_obey 51 = .ok (.iconst 1, 1) := by decide +kernel
theorem dX2_obey_52 : decode cX2_obey 52 = .ok (.ireturn, 1) := by decide +kernel
theorem dX2_obey_53 : decode cX2_obey 53 = .ok (.aload_n 0, 1) := by decide +kernel
theorem dX2_obey_54 : decode cX2_obey 54 = .ok (.getfield 35, 3) := by decide +kernel
theorem dX2_obey_57 : decode cX2_obey 57 = .ok (.aload_n 1, 1) := by decide +kernel
theorem dX2_obey_58 : decode cX2_obey 58 = .ok (.aload_n 1, 1) := by decide +kernel
theorem dX2_obey_59 : decode cX2_obey 59 = .ok (.iload_n 2, 1) := by decide +kernel
theorem dX2_obey_60 : decode cX2_obey 60 = .ok (.iconst 2, 1) := by decide +kernel
theorem dX2_obey_61 : decode cX2_obey 61 = .ok (.invokevirtual 55, 3) := by decide +kernel
theorem dX2_obey_64 : decode cX2_obey 64 = .ok (.iload 5, 2) := by decide +kernel
theorem dX2_obey_66 : decode cX2_obey 66 = .ok (.invokevirtual 66, 3) := by decide +kernel
theorem dX2_obey_69 : decode cX2_obey 69 = .ok (.ifCond .ne 5, 3) := by decide +kernel
theorem dX2_obey_72 : decode cX2_obey 72 = .ok (.iconst 0, 1) := by decide +kernel
theorem dX2_obey_73 : decode cX2_obey 73 = .ok (.ireturn, 1) := by decide +kernel
theorem dX2_obey_74 : decode cX2_obey 74 = .ok (.aload_n 0, 1) := by decide +kernel
theorem dX2_obey_75 : decode cX2_obey 75 = .ok (.getfield 35, 3) := by decide +kernel
theorem dX2_obey_78 : decode cX2_obey 78 = .ok (.getfield 72, 3) := by decide +kernel
theorem dX2_obey_81 : decode cX2_obey 81 = .ok (.istore 7, 2) := by decide +kernel
theorem dX2_obey_83 : decode cX2_obey 83 = .ok (.aload_n 0, 1) := by decide +kernel
theorem dX2_obey_84 : decode cX2_obey 84 = .ok (.getfield 35, 3) := by decide +kernel
theorem dX2_obey_87 : decode cX2_obey 87 = .ok (.aload_n 1, 1) := by decide +kernel
theorem dX2_obey_88 : decode cX2_obey 88 = .ok (.iload 5, 2) := by decide +kernel
theorem dX2_obey_90 : decode cX2_obey 90 = .ok (.iload 6, 2) := by decide +kernel
theorem dX2_obey_92 : decode cX2_obey 92 = .ok (.invokevirtual 66, 3) := by decide +kernel
theorem dX2_obey_95 : decode cX2_obey 95 = .ok (.ifCond .ne 5, 3) := by decide +kernel
theorem dX2_obey_98 : decode cX2_obey 98 = .ok (.iconst 0, 1) := by decide +kernel
theorem dX2_obey_99 : decode cX2_obey 99 = .ok (.ireturn, 1) := by decide +kernel
theorem dX2_obey_100 : decode cX2_obey 100 = .ok (.aload_n 1, 1) := by decide +kernel
theorem dX2_obey_101 : decode cX2_obey 101 = .ok (.iload_n 2, 1) := by decide +kernel
theorem dX2_obey_102 : decode cX2_obey 102 = .ok (.iconst 0, 1) := by decide +kernel
theorem dX2_obey_103 : decode cX2_obey 103 = .ok (.invokevirtual 55, 3) := by decide +kernel
theorem dX2_obey_106 : decode cX2_obey 106 = .ok (.istore 8, 2) := by decide +kernel
theorem dX2_obey_108 : decode cX2_obey 108 = .ok (.aload_n 0, 1) := by decide +kernel
theorem dX2_obey_109 : decode cX2_obey 109 = .ok (.getfield 39, 3) := by decide +kernel
theorem dX2_obey_112 : decode cX2_obey 112 = .ok (.aload_n 3, 1) := by decide +kernel
theorem dX2_obey_113 : decode cX2_obey 113 = .ok (.iload 8, 2) := by decide +kernel
theorem dX2_obey_115 : decode cX2_obey 115 = .ok (.iload 7, 2) := by decide +kernel
theorem dX2_obey_117 : decode cX2_obey 117 = .ok (.aload_n 0, 1) := by decide +kernel
theorem dX2_obey_118 : decode cX2_obey 118 = .ok (.getfield 35, 3) := by decide +kernel
theorem dX2_obey_121 : decode cX2_obey 121 = .ok (.getfield 72, 3) := by decide +kernel
theorem dX2_obey_124 : decode cX2_obey 124 = .ok (.invokevirtual 75, 3) := by decide +kernel
theorem dX2_obey_127 : decode cX2_obey 127 = .ok (.istore 9, 2) := by decide +kernel
theorem dX2_obey_129 : decode cX2_obey 129 = .ok (.iload 9, 2) := by decide +kernel
theorem dX2_obey_131 : decode cX2_obey 131 = .ok (.ifCond .ge 5, 3) := by decide +kernel
theorem dX2_obey_134 : decode cX2_obey 134 = .ok (.iconst 0, 1) := by decide +kernel
theorem dX2_obey_135 : decode cX2_obey 135 = .ok (.ireturn, 1) := by decide +kernel
theorem dX2_obey_136 : decode cX2_obey 136 = .ok (.aload 4, 2) := by decide +kernel
theorem dX2_obey_138 : decode cX2_obey 138 = .ok (.aload_n 0, 1) := by decide +kernel
theorem dX2_obey_139 : decode cX2_obey 139 = .ok (.getfield 39, 3) := by decide +kernel
theorem dX2_obey_142 : decode cX2_obey 142 = .ok (.getfield 81, 3) := by decide +kernel
theorem dX2_obey_145 : decode cX2_obey 145 = .ok (.invokevirtual 85, 3) := by decide +kernel
theorem dX2_obey_148 : decode cX2_obey 148 = .ok (.aload_n 0, 1) := by decide +kernel
theorem dX2_obey_149 : decode cX2_obey 149 = .ok (.dup, 1) := by decide +kernel
theorem dX2_obey_150 : decode cX2_obey 150 = .ok (.getfield 25, 3) := by decide +kernel
theorem dX2_obey_153 : decode cX2_obey 153 = .ok (.iconst 1, 1) := by decide +kernel
theorem dX2_obey_154 : decode cX2_obey 154 = .ok (.iadd, 1) := by decide +kernel
theorem dX2_obey_155 : decode cX2_obey 155 = .ok (.putfield 25, 3) := by decide +kernel
theorem dX2_obey_158 : decode cX2_obey 158 = .ok (.iload 8, 2) := by decide +kernel
theorem dX2_obey_160 : decode cX2_obey 160 = .ok (.ifCond .ne 9, 3) := by decide +kernel
theorem dX2_obey_163 : decode cX2_obey 163 = .ok (.aload_n 0, 1) := by decide +kernel
theorem dX2_obey_164 : decode cX2_obey 164 = .ok (.iload 9, 2) := by decide +kernel
theorem dX2_obey_166 : decode cX2_obey 166 = .ok (.putfield 29, 3) := by decide +kernel
theorem dX2_obey_169 : decode cX2_obey 169 = .ok (.iconst 1, 1) := by decide +kernel
theorem dX2_obey_170 : decode cX2_obey 170 = .ok (.ireturn, 1) := by decide +kernel
def D_X2_obey (h : z_H) (l0 : Option Nat) (l1 : Option Nat) (l2 : Int32) (l3 : Option Nat) (l4 : Option Nat) : Option (Int32 × z_H) :=
  (z_ob 7 h l1).bind fun _ =>
  (D_X7_field  h l1 l2 (3:Int32)).bind fun p2983 =>
  (z_ob 7 p2983.2 l1).bind fun _ =>
  (D_X7_field  p2983.2 l1 l2 (4:Int32)).bind fun p2985 =>
  (z_ob 2 p2985.2 l0).bind fun _ =>
  (D_X2_setOrderWords  p2985.2 l0 l3).bind fun p2987 =>
  (z_gQ 2 p2987 l0 0).bind fun x2989 =>
  (z_ob 7 p2987 l1).bind fun _ =>
  (D_X7_field  p2987 l1 l2 (5:Int32)).bind fun p2990 =>
  (z_ob 1 p2990.2 x2989).bind fun _ =>
  (D_X1_reckon  p2990.2 x2989 l1 p2985.1 p2990.1).bind fun p2992 =>
  if p2992.1 = 0 then
    some ((1:Int32), p2992.2)
  else
    (z_gQ 2 p2992.2 l0 0).bind fun x2995 =>
    (z_gI 1 p2992.2 x2995 2).bind fun x2996 =>
    if x2996 = (1:Int32) then
      (z_gQ 2 p2992.2 l0 0).bind fun x2998 =>
      (z_ob 7 p2992.2 l1).bind fun _ =>
      (D_X7_field  p2992.2 l1 l2 (2:Int32)).bind fun p2999 =>
      (z_ob 1 p2999.2 x2998).bind fun _ =>
      (D_X1_reckon  p2999.2 x2998 l1 p2999.1 p2983.1).bind fun p3001 =>
      if p3001.1 = 0 then
        some ((0:Int32), p3001.2)
      else
        (z_gQ 2 p3001.2 l0 0).bind fun x3004 =>
        (z_gI 1 p3001.2 x3004 2).bind fun x3005 =>
        (z_gQ 2 p3001.2 l0 0).bind fun x3006 =>
        (z_ob 1 p3001.2 x3006).bind fun _ =>
        (D_X1_reckon  p3001.2 x3006 l1 p2983.1 p2985.1).bind fun p3007 =>
        if p3007.1 = 0 then
          some ((0:Int32), p3007.2)
        else
          (z_ob 7 p3007.2 l1).bind fun _ =>
          (D_X7_field  p3007.2 l1 l2 (0:Int32)).bind fun p3010 =>
          (z_gQ 2 p3010.2 l0 1).bind fun x3012 =>
          (z_gQ 2 p3010.2 l0 0).bind fun x3013 =>
          (z_gI 1 p3010.2 x3013 2).bind fun x3014 =>
          (z_ob 0 p3010.2 x3012).bind fun _ =>
          (D_X0_carryOut  p3010.2 x3012 l3 p3010.1 x3005 x3014).bind fun p3015 =>
          if 0 ≤ p3015.1 then
            (z_gQ 2 p3015.2 l0 1).bind fun x3018 =>
            (z_gQ 0 p3015.2 x3018 1).bind fun x3019 =>
            (z_ob 8 p3015.2 l4).bind fun _ =>
            (D_X8_add  p3015.2 l4 x3019).bind fun p3020 =>
            (z_gI 2 p3020 l0 4).bind fun x3022 =>
            (z_pV 2 p3020 l0 4 (.int (x3022 + (1:Int32)))).bind fun h3023 =>
            if p3010.1 = 0 then
              (z_pV 2 h3023 l0 5 (.int p3015.1)).bind fun h3025 =>
              some ((1:Int32), h3025)
            else
              some ((1:Int32), h3023)
          else
            some ((0:Int32), p3015.2)
    else
      some ((1:Int32), p2992.2)
set_option maxRecDepth 100000 in
set_option maxHeartbeats 4000000 in
theorem S_X2_obey {G : z_G} {l : Launch} {h : z_H} {l0 : Option Nat} {l1 : Option Nat} {l2 : Int32} {l3 : Option Nat} {l4 : Option Nat} {res : (Int32 × z_H)} (e : D_X2_obey h l0 l1 l2 l3 l4 = some res) : z_Meth G l 9 M_X2_obey [z_r l0, z_r l1, .int l2, z_r l3, z_r l4] h res.2 (some (.int res.1)) := by
  refine z_Meth.of ck_X2_obey.2.2.2.2 (by simp [lg_sl, z_ci, z_cj, z_cr, z_cx]) ck_X2_obey.1 ?_
  rw [show lv_args 0 [z_r l0, z_r l1, .int l2, z_r l3, z_r l4] = [(0, z_r l0), (1, z_r l1), (2, .int l2), (3, z_r l3), (4, z_r l4)] from by simp [lv_args, z_ci, z_cj, z_cr, z_cx]]
  unfold D_X2_obey at e
  refine z_aload_n 1 dX2_obey_0 rfl ?_
  refine z_iload_n 2 dX2_obey_1 rfl ?_
  refine z_iconst (v := 3) dX2_obey_2 (by decide) ?_
  replace e := z_bd e; obtain ⟨o2984, eo2984, e⟩ := e
  replace e := z_bd e; obtain ⟨p2983, ep2983, e⟩ := e
  refine z_cV [.int l2, .int (3:Int32)] (S_X7_field  ep2983) eo2984 rfl ml_X2_55 ck_X7_field vk_X7_field dX2_obey_3 (by decide) rfl (Nat.zero_le _) rfl ?_
  refine z_istore (L' := [(5, .int p2983.1), (0, z_r l0), (1, z_r l1), (2, .int l2), (3, z_r l3), (4, z_r l4)]) dX2_obey_6 (by decide) (by simp [z_cr]) ?_
  refine z_aload_n 2 dX2_obey_8 rfl ?_
  refine z_iload_n 3 dX2_obey_9 rfl ?_
  refine z_iconst (v := 4) dX2_obey_10 (by decide) ?_
  replace e := z_bd e; obtain ⟨o2986, eo2986, e⟩ := e
  replace e := z_bd e; obtain ⟨p2985, ep2985, e⟩ := e
  refine z_cV [.int l2, .int (4:Int32)] (S_X7_field  ep2985) eo2986 rfl ml_X2_55 ck_X7_field vk_X7_field dX2_obey_11 (by decide) rfl (Nat.zero_le _) rfl ?_
  refine z_istore (L' := [(6, .int p2985.1), (5, .int p2983.1), (0, z_r l0), (1, z_r l1), (2, .int l2), (3, z_r l3), (4, z_r l4)]) dX2_obey_14 (by decide) rfl ?_
  refine z_aload_n 2 dX2_obey_16 rfl ?_
  refine z_aload_n 5 dX2_obey_17 rfl ?_
  replace e := z_bd e; obtain ⟨o2988, eo2988, e⟩ := e
  replace e := z_bd e; obtain ⟨p2987, ep2987, e⟩ := e
  refine z_cV [z_r l3] (S_X2_setOrderWords  ep2987) eo2988 rfl ml_X2_63 ck_X2_setOrderWords vk_X2_setOrderWords dX2_obey_18 (by decide) rfl (Nat.zero_le _) rfl ?_
  refine z_aload_n 2 dX2_obey_21 rfl ?_
  replace e := z_bd e; obtain ⟨x2989, ex2989, e⟩ := e
  refine z_getQ ex2989 lk_X2_35 dX2_obey_22 ?_
  refine z_aload_n 3 dX2_obey_25 rfl ?_
  refine z_iload 0 dX2_obey_26 rfl ?_
  refine z_aload_n 3 dX2_obey_28 rfl ?_
  refine z_iload_n 4 dX2_obey_29 rfl ?_
  refine z_iconst (v := 5) dX2_obey_30 (by decide) ?_
  replace e := z_bd e; obtain ⟨o2991, eo2991, e⟩ := e
  replace e := z_bd e; obtain ⟨p2990, ep2990, e⟩ := e
  refine z_cV [.int l2, .int (5:Int32)] (S_X7_field  ep2990) eo2991 rfl ml_X2_55 ck_X7_field vk_X7_field dX2_obey_31 (by decide) rfl (by simp [z_ci, z_cj, z_cr, z_cx]) rfl ?_
  replace e := z_bd e; obtain ⟨o2993, eo2993, e⟩ := e
  replace e := z_bd e; obtain ⟨p2992, ep2992, e⟩ := e
  refine z_cV [z_r l1, .int p2985.1, .int p2990.1] (S_X1_reckon  ep2992) eo2993 rfl ml_X2_66 ck_X1_reckon vk_X1_reckon dX2_obey_34 (by decide) rfl (Nat.zero_le _) rfl ?_
  refine z_if_eq (tgt := 51) dX2_obey_37 (by decide) (fun c2994 => ?_) (fun c2994 => ?_)
  · rw [if_pos c2994] at e
    refine z_iconst (v := 1) dX2_obey_51 (by decide) ?_
    cases e
    exact z_zret dX2_obey_52 rfl (by decide)
  · rw [if_neg c2994] at e
    refine z_aload_n 2 dX2_obey_40 rfl ?_
    replace e := z_bd e; obtain ⟨x2995, ex2995, e⟩ := e
    refine z_getQ ex2995 lk_X2_35 dX2_obey_41 ?_
    replace e := z_bd e; obtain ⟨x2996, ex2996, e⟩ := e
    refine z_getI ex2996 lk_X2_72 dX2_obey_44 ?_
    refine z_iconst (v := 1) dX2_obey_47 (by decide) ?_
    refine z_icmp_eq (tgt := 53) dX2_obey_48 (by decide) (fun c2997 => ?_) (fun c2997 => ?_)
    · rw [if_pos c2997] at e
      refine z_aload_n 2 dX2_obey_53 rfl ?_
      replace e := z_bd e; obtain ⟨x2998, ex2998, e⟩ := e
      refine z_getQ ex2998 lk_X2_35 dX2_obey_54 ?_
      refine z_aload_n 3 dX2_obey_57 rfl ?_
      refine z_aload_n 3 dX2_obey_58 rfl ?_
      refine z_iload_n 4 dX2_obey_59 rfl ?_
      refine z_iconst (v := 2) dX2_obey_60 (by decide) ?_
      replace e := z_bd e; obtain ⟨o3000, eo3000, e⟩ := e
      replace e := z_bd e; obtain ⟨p2999, ep2999, e⟩ := e
      refine z_cV [.int l2, .int (2:Int32)] (S_X7_field  ep2999) eo3000 rfl ml_X2_55 ck_X7_field vk_X7_field dX2_obey_61 (by decide) rfl (by simp [z_ci, z_cj, z_cr, z_cx]) rfl ?_
      refine z_iload 1 dX2_obey_64 rfl ?_
      replace e := z_bd e; obtain ⟨o3002, eo3002, e⟩ := e
      replace e := z_bd e; obtain ⟨p3001, ep3001, e⟩ := e
      refine z_cV [z_r l1, .int p2999.1, .int p2983.1] (S_X1_reckon  ep3001) eo3002 rfl ml_X2_66 ck_X1_reckon vk_X1_reckon dX2_obey_66 (by decide) rfl (Nat.zero_le _) rfl ?_
      refine z_if_ne (tgt := 74) dX2_obey_69 (by decide) (fun c3003 => ?_) (fun c3003 => ?_)
      · rw [if_neg c3003] at e
        refine z_aload_n 2 dX2_obey_74 rfl ?_
        replace e := z_bd e; obtain ⟨x3004, ex3004, e⟩ := e
        refine z_getQ ex3004 lk_X2_35 dX2_obey_75 ?_
        replace e := z_bd e; obtain ⟨x3005, ex3005, e⟩ := e
        refine z_getI ex3005 lk_X2_72 dX2_obey_78 ?_
        refine z_istore (L' := [(7, .int x3005), (6, .int p2985.1), (5, .int p2983.1), (0, z_r l0), (1, z_r l1), (2, .int l2), (3, z_r l3), (4, z_r l4)]) dX2_obey_81 (by decide) rfl ?_
        refine z_aload_n 3 dX2_obey_83 rfl ?_
        replace e := z_bd e; obtain ⟨x3006, ex3006, e⟩ := e
        refine z_getQ ex3006 lk_X2_35 dX2_obey_84 ?_
        refine z_aload_n 4 dX2_obey_87 rfl ?_
        refine z_iload 2 dX2_obey_88 rfl ?_
        refine z_iload 1 dX2_obey_90 rfl ?_
        replace e := z_bd e; obtain ⟨o3008, eo3008, e⟩ := e
        replace e := z_bd e; obtain ⟨p3007, ep3007, e⟩ := e
        refine z_cV [z_r l1, .int p2983.1, .int p2985.1] (S_X1_reckon  ep3007) eo3008 rfl ml_X2_66 ck_X1_reckon vk_X1_reckon dX2_obey_92 (by decide) rfl (Nat.zero_le _) rfl ?_
        refine z_if_ne (tgt := 100) dX2_obey_95 (by decide) (fun c3009 => ?_) (fun c3009 => ?_)
        · rw [if_neg c3009] at e
          refine z_aload_n 4 dX2_obey_100 rfl ?_
          refine z_iload_n 5 dX2_obey_101 rfl ?_
          refine z_iconst (v := 0) dX2_obey_102 (by decide) ?_
          replace e := z_bd e; obtain ⟨o3011, eo3011, e⟩ := e
          replace e := z_bd e; obtain ⟨p3010, ep3010, e⟩ := e
          refine z_cV [.int l2, .int (0:Int32)] (S_X7_field  ep3010) eo3011 rfl ml_X2_55 ck_X7_field vk_X7_field dX2_obey_103 (by decide) rfl (Nat.zero_le _) rfl ?_
          refine z_istore (L' := [(8, .int p3010.1), (7, .int x3005), (6, .int p2985.1), (5, .int p2983.1), (0, z_r l0), (1, z_r l1), (2, .int l2), (3, z_r l3), (4, z_r l4)]) dX2_obey_106 (by decide) rfl ?_
          refine z_aload_n 4 dX2_obey_108 rfl ?_
          replace e := z_bd e; obtain ⟨x3012, ex3012, e⟩ := e
          refine z_getQ ex3012 lk_X2_39 dX2_obey_109 ?_
          refine z_aload_n 7 dX2_obey_112 rfl ?_
          refine z_iload 0 dX2_obey_113 rfl ?_
          refine z_iload 1 dX2_obey_115 rfl ?_
          refine z_aload_n 4 dX2_obey_117 rfl ?_
          replace e := z_bd e; obtain ⟨x3013, ex3013, e⟩ := e
          refine z_getQ ex3013 lk_X2_35 dX2_obey_118 ?_
          replace e := z_bd e; obtain ⟨x3014, ex3014, e⟩ := e
          refine z_getI ex3014 lk_X2_72 dX2_obey_121 ?_
          replace e := z_bd e; obtain ⟨o3016, eo3016, e⟩ := e
          replace e := z_bd e; obtain ⟨p3015, ep3015, e⟩ := e
          refine z_cV [z_r l3, .int p3010.1, .int x3005, .int x3014] (S_X0_carryOut  ep3015) eo3016 rfl ml_X2_75 ck_X0_carryOut vk_X0_carryOut dX2_obey_124 (by decide) rfl (Nat.zero_le _) rfl ?_
          refine z_istore (L' := [(9, .int p3015.1), (8, .int p3010.1), (7, .int x3005), (6, .int p2985.1), (5, .int p2983.1), (0, z_r l0), (1, z_r l1), (2, .int l2), (3, z_r l3), (4, z_r l4)]) dX2_obey_127 (by decide) rfl ?_
          refine z_iload 0 dX2_obey_129 rfl ?_
          refine z_if_ge (tgt := 136) dX2_obey_131 (by decide) (fun c3017 => ?_) (fun c3017 => ?_)
          · rw [if_pos c3017] at e
            refine z_aload 9 dX2_obey_136 rfl ?_
            refine z_aload_n 5 dX2_obey_138 rfl ?_
            replace e := z_bd e; obtain ⟨x3018, ex3018, e⟩ := e
            refine z_getQ ex3018 lk_X2_39 dX2_obey_139 ?_
            replace e := z_bd e; obtain ⟨x3019, ex3019, e⟩ := e
            refine z_getQ ex3019 lk_X2_81 dX2_obey_142 ?_
            replace e := z_bd e; obtain ⟨o3021, eo3021, e⟩ := e
            replace e := z_bd e; obtain ⟨p3020, ep3020, e⟩ := e
            refine z_cV [z_r x3019] (S_X8_add  ep3020) eo3021 rfl ml_X2_85 ck_X8_add vk_X8_add dX2_obey_145 (by decide) rfl (Nat.zero_le _) rfl ?_
            refine z_aload_n 5 dX2_obey_148 rfl ?_
            refine z_dup dX2_obey_149 (z_cr _) ?_
            replace e := z_bd e; obtain ⟨x3022, ex3022, e⟩ := e
            refine z_getI ex3022 lk_X2_25 dX2_obey_150 ?_
            refine z_iconst (v := 1) dX2_obey_153 (by decide) ?_
            refine z_iadd dX2_obey_154 ?_
            replace e := z_bd e; obtain ⟨h3023, eh3023, e⟩ := e
            refine z_putV eh3023 lk_X2_25 wk_2_4 (fun _ => rfl) (fun _ => rfl) dX2_obey_155 ?_
            refine z_iload 1 dX2_obey_158 rfl ?_
            refine z_if_ne (tgt := 169) dX2_obey_160 (by decide) (fun c3024 => ?_) (fun c3024 => ?_)
            · rw [if_neg c3024] at e
              refine z_iconst (v := 1) dX2_obey_169 (by decide) ?_
              cases e
              exact z_zret dX2_obey_170 rfl (by decide)
            · rw [if_pos c3024] at e
              refine z_aload_n 5 dX2_obey_163 rfl ?_
              refine z_iload 0 dX2_obey_164 rfl ?_
              replace e := z_bd e; obtain ⟨h3025, eh3025, e⟩ := e
              refine z_putV eh3025 lk_X2_29 wk_2_5 (fun _ => rfl) (fun _ => rfl) dX2_obey_166 ?_
              refine z_iconst (v := 1) dX2_obey_169 (by decide) ?_
              cases e
              exact z_zret dX2_obey_170 rfl (by decide)
          · rw [if_neg c3017] at e
            refine z_iconst (v := 0) dX2_obey_134 (by decide) ?_
            cases e
            exact z_zret dX2_obey_135 rfl (by decide)
        · rw [if_pos c3009] at e
          refine z_iconst (v := 0) dX2_obey_98 (by decide) ?_
          cases e
          exact z_zret dX2_obey_99 rfl (by decide)
      · rw [if_pos c3003] at e
        refine z_iconst (v := 0) dX2_obey_72 (by decide) ?_
        cases e
        exact z_zret dX2_obey_73 rfl (by decide)
    · rw [if_neg c2997] at e
      refine z_iconst (v := 1) dX2_obey_51 (by decide) ?_
      cases e
      exact z_zret dX2_obey_52 rfl (by decide)
theorem dX2_run_0 : decode cX2_run 0 = .ok (.aload_n 0, 1) := by decide +kernel
theorem dX2_run_1 : decode cX2_run 1 = .ok (.getfield 12, 3) := by decide +kernel
theorem dX2_run_4 : decode cX2_run 4 = .ok (.aload_n 2, 1) := by decide +kernel
theorem dX2_run_5 : decode cX2_run 5 = .ok (.invokevirtual 43, 3) := by decide +kernel
theorem dX2_run_8 : decode cX2_run 8 = .ok (.aload_n 0, 1) := by decide +kernel
theorem dX2_run_9 : decode cX2_run 9 = .ok (.getfield 21, 3) := by decide +kernel
theorem dX2_run_12 : decode cX2_run 12 = .ok (.aload_n 3, 1) := by decide +kernel
theorem dX2_run_13 : decode cX2_run 13 = .ok (.invokevirtual 47, 3) := by decide +kernel
theorem dX2_run_16 : decode cX2_run 16 = .ok (.aload_n 0, 1) := by decide +kernel
theorem dX2_run_17 : decode cX2_run 17 = .ok (.iconst 0, 1) := by decide +kernel
theorem dX2_run_18 : decode cX2_run 18 = .ok (.putfield 25, 3) := by decide +kernel
theorem dX2_run_21 : decode cX2_run 21 = .ok (.aload_n 0, 1) := by decide +kernel
theorem dX2_run_22 : decode cX2_run 22 = .ok (.iconst (-1), 1) := by decide +kernel
theorem dX2_run_23 : decode cX2_run 23 = .ok (.putfield 29, 3) := by decide +kernel
theorem dX2_run_26 : decode cX2_run 26 = .ok (.iconst 0, 1) := by decide +kernel
theorem dX2_run_27 : decode cX2_run 27 = .ok (.istore 4, 2) := by decide +kernel
theorem dX2_run_29 : decode cX2_run 29 = .ok (.iload 4, 2) := by decide +kernel
theorem dX2_run_31 : decode cX2_run 31 = .ok (.aload_n 1, 1) := by decide +kernel
theorem dX2_run_32 : decode cX2_run 32 = .ok (.getfield 50, 3) := by decide +kernel
theorem dX2_run_35 : decode cX2_run 35 = .ok (.if_icmp .ge 71, 3) := by decide +kernel
theorem dX2_run_38 : decode cX2_run 38 = .ok (.aload_n 1, 1) := by decide +kernel
theorem dX2_run_39 : decode cX2_run 39 = .ok (.iload 4, 2) := by decide +kernel
theorem dX2_run_41 : decode cX2_run 41 = .ok (.iconst 1, 1) := by decide +kernel
theorem dX2_run_42 : decode cX2_run 42 = .ok (.invokevirtual 55, 3) := by decide +kernel
theorem dX2_run_45 : decode cX2_run 45 = .ok (.istore 5, 2) := by decide +kernel
theorem dX2_run_47 : decode cX2_run 47 = .ok (.iconst 0, 1) := by decide +kernel
theorem dX2_run_48 : decode cX2_run 48 = .ok (.istore 6, 2) := by decide +kernel
theorem dX2_run_50 : decode cX2_run 50 = .ok (.iload 6, 2) := by decide +kernel
theorem dX2_run_52 : decode cX2_run 52 = .ok (.iload 5, 2) := by decide +kernel
theorem dX2_run_54 : decode cX2_run 54 = .ok (.if_icmp .ge 46, 3) := by decide +kernel
theorem dX2_run_57 : decode cX2_run 57 = .ok (.aload_n 0, 1) := by decide +kernel
theorem dX2_run_58 : decode cX2_run 58 = .ok (.aload_n 1, 1) := by decide +kernel
theorem dX2_run_59 : decode cX2_run 59 = .ok (.iload 4, 2) := by decide +kernel
theorem dX2_run_61 : decode cX2_run 61 = .ok (.aload_n 2, 1) := by decide +kernel
theorem dX2_run_62 : decode cX2_run 62 = .ok (.aload_n 3, 1) := by decide +kernel
theorem dX2_run_63 : decode cX2_run 63 = .ok (.invokevirtual 59, 3) := by decide +kernel
theorem dX2_run_66 : decode cX2_run 66 = .ok (.ifCond .ne 28, 3) := by decide +kernel
theorem dX2_run_69 : decode cX2_run 69 = .ok (.aload_n 2, 1) := by decide +kernel
theorem dX2_run_70 : decode cX2_run 70 = .ok (.aload_n 0, 1) := by decide +kernel
theorem dX2_run_71 : decode cX2_run 71 = .ok (.getfield 12, 3) := by decide +kernel
theorem dX2_run_74 : decode cX2_run 74 = .ok (.invokevirtual 43, 3) := by decide +kernel
theorem dX2_run_77 : decode cX2_run 77 = .ok (.aload_n 3, 1) := by decide +kernel
theorem dX2_run_78 : decode cX2_run 78 = .ok (.aload_n 0, 1) := by decide +kernel
theorem dX2_run_79 : decode cX2_run 79 = .ok (.getfield 21, 3) := by decide +kernel
theorem dX2_run_82 : decode cX2_run 82 = .ok (.invokevirtual 47, 3) := by decide +kernel
theorem dX2_run_85 : decode cX2_run 85 = .ok (.aload_n 0, 1) := by decide +kernel
theorem dX2_run_86 : decode cX2_run 86 = .ok (.iload 4, 2) := by decide +kernel
theorem dX2_run_88 : decode cX2_run 88 = .ok (.putfield 32, 3) := by decide +kernel
theorem dX2_run_91 : decode cX2_run 91 = .ok (.bipush (-3), 2) := by decide +kernel
theorem dX2_run_93 : decode cX2_run 93 = .ok (.ireturn, 1) := by decide +kernel
theorem dX2_run_94 : decode cX2_run 94 = .ok (.iinc 6 1, 3) := by decide +kernel
theorem dX2_run_97 : decode cX2_run 97 = .ok (.goto (-47), 3) := by decide +kernel
theorem dX2_run_100 : decode cX2_run 100 = .ok (.iinc 4 1, 3) := by decide +kernel
theorem dX2_run_103 : decode cX2_run 103 = .ok (.goto (-74), 3) := by decide +kernel
theorem dX2_run_106 : decode cX2_run 106 = .ok (.aload_n 0, 1) := by decide +kernel
theorem dX2_run_107 : decode cX2_run 107 = .ok (.getfield 25, 3) := by decide +kernel
theorem dX2_run_110 : decode cX2_run 110 = .ok (.ireturn, 1) := by decide +kernel
def D_X2_run_50b (k29 : z_H → Option Nat → Option Nat → Option Nat → Option Nat → Int32 → Option (Int32 × z_H)) (k50 : z_H → Option Nat → Option Nat → Option Nat → Option Nat → Int32 → Int32 → Int32 → Option (Int32 × z_H)) (h : z_H) (l0 : Option Nat) (l1 : Option Nat) (l2 : Option Nat) (l3 : Option Nat) (l4 : Int32) (l5 : Int32) (l6 : Int32) : Option (Int32 × z_H) :=
  if l5 ≤ l6 then
    (some (l4 + (1:Int32))).bind fun x3027 =>
    k29 h l0 l1 l2 l3 x3027
  else
    (z_ob 2 h l0).bind fun _ =>
    (D_X2_obey  h l0 l1 l4 l2 l3).bind fun p3028 =>
    if p3028.1 = 0 then
      (z_gQ 2 p3028.2 l0 2).bind fun x3032 =>
      (z_ob 9 p3028.2 l2).bind fun _ =>
      (D_X9_become  p3028.2 l2 x3032).bind fun p3033 =>
      (z_gQ 2 p3033 l0 3).bind fun x3035 =>
      (z_ob 8 p3033 l3).bind fun _ =>
      (D_X8_become  p3033 l3 x3035).bind fun p3036 =>
      (z_pV 2 p3036 l0 6 (.int l4)).bind fun h3038 =>
      some ((-3:Int32), h3038)
    else
      (some (l6 + (1:Int32))).bind fun x3031 =>
      k50 p3028.2 l0 l1 l2 l3 l4 l5 x3031
def D_X2_run_50 (k29 : z_H → Option Nat → Option Nat → Option Nat → Option Nat → Int32 → Option (Int32 × z_H)) (n : Nat) : z_H → Option Nat → Option Nat → Option Nat → Option Nat → Int32 → Int32 → Int32 → Option (Int32 × z_H) := Nat.rec (motive := fun _ => z_H → Option Nat → Option Nat → Option Nat → Option Nat → Int32 → Int32 → Int32 → Option (Int32 × z_H)) (fun _ _ _ _ _ _ _ _ => none) (fun _ k => D_X2_run_50b k29 k) n
set_option maxRecDepth 100000 in
set_option maxHeartbeats 4000000 in
theorem S_X2_run_50 {G : z_G} {l : Launch} {k29 : z_H → Option Nat → Option Nat → Option Nat → Option Nat → Int32 → Option (Int32 × z_H)} (hk29 : ∀ {h : z_H} {l0 : Option Nat} {l1 : Option Nat} {l2 : Option Nat} {l3 : Option Nat} {l4 : Int32} {res : (Int32 × z_H)}, k29 h l0 l1 l2 l3 l4 = some res → z_Run G l 10 M_X2_run 29 [(0, z_r l0), (1, z_r l1), (2, z_r l2), (3, z_r l3), (4, .int l4)] [] h res.2 (some (.int res.1))) (n : Nat) : ∀ {h : z_H} {l0 : Option Nat} {l1 : Option Nat} {l2 : Option Nat} {l3 : Option Nat} {l4 : Int32} {l5 : Int32} {l6 : Int32} {res : (Int32 × z_H)}, D_X2_run_50 k29 n h l0 l1 l2 l3 l4 l5 l6 = some res → z_Run G l 10 M_X2_run 50 [(0, z_r l0), (1, z_r l1), (2, z_r l2), (3, z_r l3), (4, .int l4), (5, .int l5), (6, .int l6)] [] h res.2 (some (.int res.1)) := by
  induction n with
  | zero => intro h l0 l1 l2 l3 l4 l5 l6 res e; cases e
  | succ n hk50 =>
    intro h l0 l1 l2 l3 l4 l5 l6 res e
    replace e : D_X2_run_50b k29 (D_X2_run_50 k29 n) h l0 l1 l2 l3 l4 l5 l6 = some res := e
    unfold D_X2_run_50b at e
    refine z_iload 6 dX2_run_50 rfl ?_
    refine z_iload 5 dX2_run_52 rfl ?_
    refine z_icmp_ge (tgt := 100) dX2_run_54 (by decide) (fun c3026 => ?_) (fun c3026 => ?_)
    · rw [if_pos c3026] at e
      replace e := z_bd e; obtain ⟨x3027, ex3027, e⟩ := e
      refine z_iinc (q := 4) (v := x3027) (L' := [(4, .int x3027), (0, z_r l0), (1, z_r l1), (2, z_r l2), (3, z_r l3), (5, .int l5), (6, .int l6)]) dX2_run_100 rfl (Option.some.inj ex3027) (by decide) (by simp [z_cr]) ?_
      refine z_goto (tgt := 29) dX2_run_103 (by decide) ?_
      exact z_weak [1, 2, 3, 4, 0] rfl (hk29 e)
    · rw [if_neg c3026] at e
      refine z_aload_n 0 dX2_run_57 rfl ?_
      refine z_aload_n 1 dX2_run_58 rfl ?_
      refine z_iload 4 dX2_run_59 rfl ?_
      refine z_aload_n 2 dX2_run_61 rfl ?_
      refine z_aload_n 3 dX2_run_62 rfl ?_
      replace e := z_bd e; obtain ⟨o3029, eo3029, e⟩ := e
      replace e := z_bd e; obtain ⟨p3028, ep3028, e⟩ := e
      refine z_cV [z_r l1, .int l4, z_r l2, z_r l3] (S_X2_obey  ep3028) eo3029 rfl ml_X2_59 ck_X2_obey vk_X2_obey dX2_run_63 (by decide) rfl (Nat.zero_le _) rfl ?_
      refine z_if_ne (tgt := 94) dX2_run_66 (by decide) (fun c3030 => ?_) (fun c3030 => ?_)
      · rw [if_neg c3030] at e
        replace e := z_bd e; obtain ⟨x3031, ex3031, e⟩ := e
        refine z_iinc (q := 6) (v := x3031) (L' := [(6, .int x3031), (0, z_r l0), (1, z_r l1), (2, z_r l2), (3, z_r l3), (4, .int l4), (5, .int l5)]) dX2_run_94 rfl (Option.some.inj ex3031) (by decide) rfl ?_
        refine z_goto (tgt := 50) dX2_run_97 (by decide) ?_
        exact z_weak [1, 2, 3, 4, 5, 6, 0] rfl (hk50 e)
      · rw [if_pos c3030] at e
        refine z_aload_n 2 dX2_run_69 rfl ?_
        refine z_aload_n 0 dX2_run_70 rfl ?_
        replace e := z_bd e; obtain ⟨x3032, ex3032, e⟩ := e
        refine z_getQ ex3032 lk_X2_12 dX2_run_71 ?_
        replace e := z_bd e; obtain ⟨o3034, eo3034, e⟩ := e
        replace e := z_bd e; obtain ⟨p3033, ep3033, e⟩ := e
        refine z_cV [z_r x3032] (S_X9_become  ep3033) eo3034 rfl ml_X2_43 ck_X9_become vk_X9_become dX2_run_74 (by decide) rfl (Nat.zero_le _) rfl ?_
        refine z_aload_n 3 dX2_run_77 rfl ?_
        refine z_aload_n 0 dX2_run_78 rfl ?_
        replace e := z_bd e; obtain ⟨x3035, ex3035, e⟩ := e
        refine z_getQ ex3035 lk_X2_21 dX2_run_79 ?_
        replace e := z_bd e; obtain ⟨o3037, eo3037, e⟩ := e
        replace e := z_bd e; obtain ⟨p3036, ep3036, e⟩ := e
        refine z_cV [z_r x3035] (S_X8_become  ep3036) eo3037 rfl ml_X2_47 ck_X8_become vk_X8_become dX2_run_82 (by decide) rfl (Nat.zero_le _) rfl ?_
        refine z_aload_n 0 dX2_run_85 rfl ?_
        refine z_iload 4 dX2_run_86 rfl ?_
        replace e := z_bd e; obtain ⟨h3038, eh3038, e⟩ := e
        refine z_putV eh3038 lk_X2_32 wk_2_6 (fun _ => rfl) (fun _ => rfl) dX2_run_88 ?_
        refine z_bipush (v := -3) dX2_run_91 (by decide) ?_
        cases e
        exact z_iret dX2_run_93 rfl
def D_X2_run_29b (k29 : z_H → Option Nat → Option Nat → Option Nat → Option Nat → Int32 → Option (Int32 × z_H)) (h : z_H) (l0 : Option Nat) (l1 : Option Nat) (l2 : Option Nat) (l3 : Option Nat) (l4 : Int32) : Option (Int32 × z_H) :=
  (z_gI 7 h l1 4).bind fun x3039 =>
  if x3039 ≤ l4 then
    (z_gI 2 h l0 4).bind fun x3041 =>
    some (x3041, h)
  else
    (z_ob 7 h l1).bind fun _ =>
    (D_X7_field  h l1 l4 (1:Int32)).bind fun p3042 =>
    D_X2_run_50  k29 z_F p3042.2 l0 l1 l2 l3 l4 p3042.1 (0:Int32)
def D_X2_run_29 (n : Nat) : z_H → Option Nat → Option Nat → Option Nat → Option Nat → Int32 → Option (Int32 × z_H) := Nat.rec (motive := fun _ => z_H → Option Nat → Option Nat → Option Nat → Option Nat → Int32 → Option (Int32 × z_H)) (fun _ _ _ _ _ _ => none) (fun _ k => D_X2_run_29b  k) n
set_option maxRecDepth 100000 in
set_option maxHeartbeats 4000000 in
theorem S_X2_run_29 {G : z_G} {l : Launch}  (n : Nat) : ∀ {h : z_H} {l0 : Option Nat} {l1 : Option Nat} {l2 : Option Nat} {l3 : Option Nat} {l4 : Int32} {res : (Int32 × z_H)}, D_X2_run_29  n h l0 l1 l2 l3 l4 = some res → z_Run G l 10 M_X2_run 29 [(0, z_r l0), (1, z_r l1), (2, z_r l2), (3, z_r l3), (4, .int l4)] [] h res.2 (some (.int res.1)) := by
  induction n with
  | zero => intro h l0 l1 l2 l3 l4 res e; cases e
  | succ n hk29 =>
    intro h l0 l1 l2 l3 l4 res e
    replace e : D_X2_run_29b  (D_X2_run_29  n) h l0 l1 l2 l3 l4 = some res := e
    unfold D_X2_run_29b at e
    refine z_iload 4 dX2_run_29 rfl ?_
    refine z_aload_n 1 dX2_run_31 rfl ?_
    replace e := z_bd e; obtain ⟨x3039, ex3039, e⟩ := e
    refine z_getI ex3039 lk_X2_50 dX2_run_32 ?_
    refine z_icmp_ge (tgt := 106) dX2_run_35 (by decide) (fun c3040 => ?_) (fun c3040 => ?_)
    · rw [if_pos c3040] at e
      refine z_aload_n 0 dX2_run_106 rfl ?_
      replace e := z_bd e; obtain ⟨x3041, ex3041, e⟩ := e
      refine z_getI ex3041 lk_X2_25 dX2_run_107 ?_
      cases e
      exact z_iret dX2_run_110 rfl
    · rw [if_neg c3040] at e
      refine z_aload_n 1 dX2_run_38 rfl ?_
      refine z_iload 4 dX2_run_39 rfl ?_
      refine z_iconst (v := 1) dX2_run_41 (by decide) ?_
      replace e := z_bd e; obtain ⟨o3043, eo3043, e⟩ := e
      replace e := z_bd e; obtain ⟨p3042, ep3042, e⟩ := e
      refine z_cV [.int l4, .int (1:Int32)] (S_X7_field  ep3042) eo3043 rfl ml_X2_55 ck_X7_field vk_X7_field dX2_run_42 (by decide) rfl (Nat.zero_le _) rfl ?_
      refine z_istore (L' := [(5, .int p3042.1), (0, z_r l0), (1, z_r l1), (2, z_r l2), (3, z_r l3), (4, .int l4)]) dX2_run_45 (by decide) rfl ?_
      refine z_iconst (v := 0) dX2_run_47 (by decide) ?_
      refine z_istore (L' := [(6, .int (0:Int32)), (5, .int p3042.1), (0, z_r l0), (1, z_r l1), (2, z_r l2), (3, z_r l3), (4, .int l4)]) dX2_run_48 (by decide) rfl ?_
      exact z_weak [2, 3, 4, 5, 6, 1, 0] rfl (S_X2_run_50  @hk29 z_F e)
def D_X2_run (h : z_H) (l0 : Option Nat) (l1 : Option Nat) (l2 : Option Nat) (l3 : Option Nat) : Option (Int32 × z_H) :=
  (z_gQ 2 h l0 2).bind fun x3044 =>
  (z_ob 9 h x3044).bind fun _ =>
  (D_X9_become  h x3044 l2).bind fun p3045 =>
  (z_gQ 2 p3045 l0 3).bind fun x3047 =>
  (z_ob 8 p3045 x3047).bind fun _ =>
  (D_X8_become  p3045 x3047 l3).bind fun p3048 =>
  (z_pV 2 p3048 l0 4 (.int (0:Int32))).bind fun h3050 =>
  (z_pV 2 h3050 l0 5 (.int (-1:Int32))).bind fun h3051 =>
  D_X2_run_29   z_F h3051 l0 l1 l2 l3 (0:Int32)
set_option maxRecDepth 100000 in
set_option maxHeartbeats 4000000 in
theorem S_X2_run {G : z_G} {l : Launch} {h : z_H} {l0 : Option Nat} {l1 : Option Nat} {l2 : Option Nat} {l3 : Option Nat} {res : (Int32 × z_H)} (e : D_X2_run h l0 l1 l2 l3 = some res) : z_Meth G l 10 M_X2_run [z_r l0, z_r l1, z_r l2, z_r l3] h res.2 (some (.int res.1)) := by
  refine z_Meth.of ck_X2_run.2.2.2.2 (by simp [lg_sl, z_ci, z_cj, z_cr, z_cx]) ck_X2_run.1 ?_
  rw [show lv_args 0 [z_r l0, z_r l1, z_r l2, z_r l3] = [(0, z_r l0), (1, z_r l1), (2, z_r l2), (3, z_r l3)] from by simp [lv_args, z_ci, z_cj, z_cr, z_cx]]
  unfold D_X2_run at e
  refine z_aload_n 0 dX2_run_0 rfl ?_
  replace e := z_bd e; obtain ⟨x3044, ex3044, e⟩ := e
  refine z_getQ ex3044 lk_X2_12 dX2_run_1 ?_
  refine z_aload_n 2 dX2_run_4 rfl ?_
  replace e := z_bd e; obtain ⟨o3046, eo3046, e⟩ := e
  replace e := z_bd e; obtain ⟨p3045, ep3045, e⟩ := e
  refine z_cV [z_r l2] (S_X9_become  ep3045) eo3046 rfl ml_X2_43 ck_X9_become vk_X9_become dX2_run_5 (by decide) rfl (Nat.zero_le _) rfl ?_
  refine z_aload_n 0 dX2_run_8 rfl ?_
  replace e := z_bd e; obtain ⟨x3047, ex3047, e⟩ := e
  refine z_getQ ex3047 lk_X2_21 dX2_run_9 ?_
  refine z_aload_n 3 dX2_run_12 rfl ?_
  replace e := z_bd e; obtain ⟨o3049, eo3049, e⟩ := e
  replace e := z_bd e; obtain ⟨p3048, ep3048, e⟩ := e
  refine z_cV [z_r l3] (S_X8_become  ep3048) eo3049 rfl ml_X2_47 ck_X8_become vk_X8_become dX2_run_13 (by decide) rfl (Nat.zero_le _) rfl ?_
  refine z_aload_n 0 dX2_run_16 rfl ?_
  refine z_iconst (v := 0) dX2_run_17 (by decide) ?_
  replace e := z_bd e; obtain ⟨h3050, eh3050, e⟩ := e
  refine z_putV eh3050 lk_X2_25 wk_2_4 (fun _ => rfl) (fun _ => rfl) dX2_run_18 ?_
  refine z_aload_n 0 dX2_run_21 rfl ?_
  refine z_iconst (v := -1) dX2_run_22 (by decide) ?_
  replace e := z_bd e; obtain ⟨h3051, eh3051, e⟩ := e
  refine z_putV eh3051 lk_X2_29 wk_2_5 (fun _ => rfl) (fun _ => rfl) dX2_run_23 ?_
  refine z_iconst (v := 0) dX2_run_26 (by decide) ?_
  refine z_istore (L' := [(4, .int (0:Int32)), (0, z_r l0), (1, z_r l1), (2, z_r l2), (3, z_r l3)]) dX2_run_27 (by decide) (by simp [z_cr]) ?_
  exact z_weak [1, 2, 3, 4, 0] rfl (S_X2_run_29   z_F e)
theorem dX10_orders_0 : decode cX10_orders 0 = .ok (.aload_n 0, 1) := by decide +kernel
theorem dX10_orders_1 : decode cX10_orders 1 = .ok (.getfield 62, 3) := by decide +kernel
theorem dX10_orders_4 : decode cX10_orders 4 = .ok (.iconst (-1), 1) := by decide +kernel
theorem dX10_orders_5 : decode cX10_orders 5 = .ok (.putfield 201, 3) := by decide +kernel
theorem dX10_orders_8 : decode cX10_orders 8 = .ok (.aload_n 0, 1) := by decide +kernel
theorem dX10_orders_9 : decode cX10_orders 9 = .ok (.getfield 37, 3) := by decide +kernel
theorem dX10_orders_12 : decode cX10_orders 12 = .ok (.iconst 1, 1) := by decide +kernel
theorem dX10_orders_13 : decode cX10_orders 13 = .ok (.invokevirtual 184, 3) := by decide +kernel
theorem dX10_orders_16 : decode cX10_orders 16 = .ok (.istore_n 1, 1) := by decide +kernel
theorem dX10_orders_17 : decode cX10_orders 17 = .ok (.aload_n 0, 1) := by decide +kernel
theorem dX10_orders_18 : decode cX10_orders 18 = .ok (.getfield 37, 3) := by decide +kernel
theorem dX10_orders_21 : decode cX10_orders 21 = .ok (.iconst 0, 1) := by decide +kernel
theorem dX10_orders_22 : decode cX10_orders 22 = .ok (.putfield 171, 3) := by decide +kernel
theorem dX10_orders_25 : decode cX10_orders 25 = .ok (.iload_n 1, 1) := by decide +kernel
theorem dX10_orders_26 : decode cX10_orders 26 = .ok (.ifCond .ne 10, 3) := by decide +kernel
theorem dX10_orders_29 : decode cX10_orders 29 = .ok (.aload_n 0, 1) := by decide +kernel
theorem dX10_orders_30 : decode cX10_orders 30 = .ok (.bipush (-6), 2) := by decide +kernel
theorem dX10_orders_32 : decode cX10_orders 32 = .ok (.invokevirtual 104, 3) := by decide +kernel
theorem dX10_orders_35 : decode cX10_orders 35 = .ok (.ireturn, 1) := by decide +kernel
theorem dX10_orders_36 : decode cX10_orders 36 = .ok (.aload_n 0, 1) := by decide +kernel
theorem dX10_orders_37 : decode cX10_orders 37 = .ok (.getfield 62, 3) := by decide +kernel
theorem dX10_orders_40 : decode cX10_orders 40 = .ok (.aload_n 0, 1) := by decide +kernel
theorem dX10_orders_41 : decode cX10_orders 41 = .ok (.getfield 37, 3) := by decide +kernel
theorem dX10_orders_44 : decode cX10_orders 44 = .ok (.getfield 192, 3) := by decide +kernel
theorem dX10_orders_47 : decode cX10_orders 47 = .ok (.aload_n 0, 1) := by decide +kernel
theorem dX10_orders_48 : decode cX10_orders 48 = .ok (.getfield 12, 3) := by decide +kernel
theorem dX10_orders_51 : decode cX10_orders 51 = .ok (.aload_n 0, 1) := by decide +kernel
theorem dX10_orders_52 : decode cX10_orders 52 = .ok (.getfield 30, 3) := by decide +kernel
theorem dX10_orders_55 : decode cX10_orders 55 = .ok (.invokevirtual 204, 3) := by decide +kernel
theorem dX10_orders_58 : decode cX10_orders 58 = .ok (.istore_n 2, 1) := by decide +kernel
theorem dX10_orders_59 : decode cX10_orders 59 = .ok (.iload_n 2, 1) := by decide +kernel
theorem dX10_orders_60 : decode cX10_orders 60 = .ok (.ifCond .ge 11, 3) := by decide +kernel
theorem dX10_orders_63 : decode cX10_orders 63 = .ok (.aload_n 0, 1) := by decide +kernel
theorem dX10_orders_64 : decode cX10_orders 64 = .ok (.iload_n 2, 1) := by decide +kernel
theorem dX10_orders_65 : decode cX10_orders 65 = .ok (.invokevirtual 104, 3) := by decide +kernel
theorem dX10_orders_68 : decode cX10_orders 68 = .ok (.goto 8, 3) := by decide +kernel
theorem dX10_orders_71 : decode cX10_orders 71 = .ok (.aload_n 0, 1) := by decide +kernel
theorem dX10_orders_72 : decode cX10_orders 72 = .ok (.iload_n 2, 1) := by decide +kernel
theorem dX10_orders_73 : decode cX10_orders 73 = .ok (.invokevirtual 118, 3) := by decide +kernel
theorem dX10_orders_76 : decode cX10_orders 76 = .ok (.ireturn, 1) := by decide +kernel
def D_X10_orders (h : z_H) (l0 : Option Nat) : Option (Int32 × z_H) :=
  (z_gQ 10 h l0 8).bind fun x3052 =>
  (z_pV 2 h x3052 6 (.int (-1:Int32))).bind fun h3053 =>
  (z_gQ 10 h3053 l0 5).bind fun x3054 =>
  (z_ob 5 h3053 x3054).bind fun _ =>
  (D_X5_read  h3053 x3054 (1:Int32)).bind fun p3055 =>
  (z_gQ 10 p3055.2 l0 5).bind fun x3057 =>
  (z_pV 5 p3055.2 x3057 2 (.int (0:Int32))).bind fun h3058 =>
  if p3055.1 = 0 then
    (z_ob 10 h3058 l0).bind fun _ =>
    (D_X10_refuse  h3058 l0 (-6:Int32)).bind fun p3072 =>
    some (p3072.1, p3072.2)
  else
    (z_gQ 10 h3058 l0 8).bind fun x3060 =>
    (z_gQ 10 h3058 l0 5).bind fun x3061 =>
    (z_gQ 5 h3058 x3061 1).bind fun x3062 =>
    (z_gQ 10 h3058 l0 0).bind fun x3063 =>
    (z_gQ 10 h3058 l0 4).bind fun x3064 =>
    (z_ob 2 h3058 x3060).bind fun _ =>
    (D_X2_run  h3058 x3060 x3062 x3063 x3064).bind fun p3065 =>
    if 0 ≤ p3065.1 then
      (z_ob 10 p3065.2 l0).bind fun _ =>
      (D_X10_grant  p3065.2 l0 p3065.1).bind fun p3068 =>
      some (p3068.1, p3068.2)
    else
      (z_ob 10 p3065.2 l0).bind fun _ =>
      (D_X10_refuse  p3065.2 l0 p3065.1).bind fun p3070 =>
      some (p3070.1, p3070.2)
set_option maxRecDepth 100000 in
set_option maxHeartbeats 4000000 in
theorem S_X10_orders {G : z_G} {l : Launch} {h : z_H} {l0 : Option Nat} {res : (Int32 × z_H)} (e : D_X10_orders h l0 = some res) : z_Meth G l 99 M_X10_orders [z_r l0] h res.2 (some (.int res.1)) := by
  refine z_Meth.of ck_X10_orders.2.2.2.2 (by simp [lg_sl, z_ci, z_cj, z_cr, z_cx]) ck_X10_orders.1 ?_
  rw [show lv_args 0 [z_r l0] = [(0, z_r l0)] from by simp [lv_args, z_ci, z_cj, z_cr, z_cx]]
  unfold D_X10_orders at e
  refine z_aload_n 0 dX10_orders_0 rfl ?_
  replace e := z_bd e; obtain ⟨x3052, ex3052, e⟩ := e
  refine z_getQ ex3052 lk_X10_62 dX10_orders_1 ?_
  refine z_iconst (v := -1) dX10_orders_4 (by decide) ?_
  replace e := z_bd e; obtain ⟨h3053, eh3053, e⟩ := e
  refine z_putV eh3053 lk_X10_201 wk_2_6 (fun _ => rfl) (fun _ => rfl) dX10_orders_5 ?_
  refine z_aload_n 0 dX10_orders_8 rfl ?_
  replace e := z_bd e; obtain ⟨x3054, ex3054, e⟩ := e
  refine z_getQ ex3054 lk_X10_37 dX10_orders_9 ?_
  refine z_iconst (v := 1) dX10_orders_12 (by decide) ?_
  replace e := z_bd e; obtain ⟨o3056, eo3056, e⟩ := e
  replace e := z_bd e; obtain ⟨p3055, ep3055, e⟩ := e
  refine z_cV [.int (1:Int32)] (S_X5_read  ep3055) eo3056 rfl ml_X10_184 ck_X5_read vk_X5_read dX10_orders_13 (by decide) rfl (Nat.zero_le _) rfl ?_
  refine z_istore_n (L' := [(1, .int p3055.1), (0, z_r l0)]) dX10_orders_16 rfl (by decide) (by simp [z_cr]) ?_
  refine z_aload_n 1 dX10_orders_17 rfl ?_
  replace e := z_bd e; obtain ⟨x3057, ex3057, e⟩ := e
  refine z_getQ ex3057 lk_X10_37 dX10_orders_18 ?_
  refine z_iconst (v := 0) dX10_orders_21 (by decide) ?_
  replace e := z_bd e; obtain ⟨h3058, eh3058, e⟩ := e
  refine z_putV eh3058 lk_X10_171 wk_5_2 (fun _ => rfl) (fun _ => rfl) dX10_orders_22 ?_
  refine z_iload_n 0 dX10_orders_25 rfl ?_
  refine z_if_ne (tgt := 36) dX10_orders_26 (by decide) (fun c3059 => ?_) (fun c3059 => ?_)
  · rw [if_neg c3059] at e
    refine z_aload_n 1 dX10_orders_36 rfl ?_
    replace e := z_bd e; obtain ⟨x3060, ex3060, e⟩ := e
    refine z_getQ ex3060 lk_X10_62 dX10_orders_37 ?_
    refine z_aload_n 1 dX10_orders_40 rfl ?_
    replace e := z_bd e; obtain ⟨x3061, ex3061, e⟩ := e
    refine z_getQ ex3061 lk_X10_37 dX10_orders_41 ?_
    replace e := z_bd e; obtain ⟨x3062, ex3062, e⟩ := e
    refine z_getQ ex3062 lk_X10_192 dX10_orders_44 ?_
    refine z_aload_n 1 dX10_orders_47 rfl ?_
    replace e := z_bd e; obtain ⟨x3063, ex3063, e⟩ := e
    refine z_getQ ex3063 lk_X10_12 dX10_orders_48 ?_
    refine z_aload_n 1 dX10_orders_51 rfl ?_
    replace e := z_bd e; obtain ⟨x3064, ex3064, e⟩ := e
    refine z_getQ ex3064 lk_X10_30 dX10_orders_52 ?_
    replace e := z_bd e; obtain ⟨o3066, eo3066, e⟩ := e
    replace e := z_bd e; obtain ⟨p3065, ep3065, e⟩ := e
    refine z_cV [z_r x3062, z_r x3063, z_r x3064] (S_X2_run  ep3065) eo3066 rfl ml_X10_204 ck_X2_run vk_X2_run dX10_orders_55 (by decide) rfl (Nat.zero_le _) rfl ?_
    refine z_istore_n (L' := [(2, .int p3065.1), (1, .int p3055.1), (0, z_r l0)]) dX10_orders_58 rfl (by decide) rfl ?_
    refine z_iload_n 0 dX10_orders_59 rfl ?_
    refine z_if_ge (tgt := 71) dX10_orders_60 (by decide) (fun c3067 => ?_) (fun c3067 => ?_)
    · rw [if_pos c3067] at e
      refine z_aload_n 2 dX10_orders_71 rfl ?_
      refine z_iload_n 0 dX10_orders_72 rfl ?_
      replace e := z_bd e; obtain ⟨o3069, eo3069, e⟩ := e
      replace e := z_bd e; obtain ⟨p3068, ep3068, e⟩ := e
      refine z_cV [.int p3065.1] (S_X10_grant  ep3068) eo3069 rfl ml_X10_118 ck_X10_grant vk_X10_grant dX10_orders_73 (by decide) rfl (Nat.zero_le _) rfl ?_
      cases e
      exact z_iret dX10_orders_76 rfl
    · rw [if_neg c3067] at e
      refine z_aload_n 2 dX10_orders_63 rfl ?_
      refine z_iload_n 0 dX10_orders_64 rfl ?_
      replace e := z_bd e; obtain ⟨o3071, eo3071, e⟩ := e
      replace e := z_bd e; obtain ⟨p3070, ep3070, e⟩ := e
      refine z_cV [.int p3065.1] (S_X10_refuse  ep3070) eo3071 rfl ml_X10_104 ck_X10_refuse vk_X10_refuse dX10_orders_65 (by decide) rfl (Nat.zero_le _) rfl ?_
      refine z_goto (tgt := 76) dX10_orders_68 (by decide) ?_
      cases e
      exact z_iret dX10_orders_76 rfl
  · rw [if_pos c3059] at e
    refine z_aload_n 1 dX10_orders_29 rfl ?_
    refine z_bipush (v := -6) dX10_orders_30 (by decide) ?_
    replace e := z_bd e; obtain ⟨o3073, eo3073, e⟩ := e
    replace e := z_bd e; obtain ⟨p3072, ep3072, e⟩ := e
    refine z_cV [.int (-6:Int32)] (S_X10_refuse  ep3072) eo3073 rfl ml_X10_104 ck_X10_refuse vk_X10_refuse dX10_orders_32 (by decide) rfl (Nat.zero_le _) rfl ?_
    cases e
    exact z_iret dX10_orders_35 rfl
theorem dX11_isSmall_0 : decode cX11_isSmall 0 = .ok (.iload_n 0, 1) := by decide +kernel
theorem dX11_isSmall_1 : decode cX11_isSmall 1 = .ok (.bipush 97, 2) := by decide +kernel
theorem dX11_isSmall_3 : decode cX11_isSmall 3 = .ok (.if_icmp .lt 13, 3) := by decide +kernel
theorem dX11_isSmall_6 : decode cX11_isSmall 6 = .ok (.iload_n 0, 1) := by decide +kernel
theorem dX11_isSmall_7 : decode cX11_isSmall 7 = .ok (.bipush 122, 2) := by decide +kernel
theorem dX11_isSmall_9 : decode cX11_isSmall 9 = .ok (.if_icmp .gt 7, 3) := by decide +kernel
theorem dX11_isSmall_12 : decode cX11_isSmall 12 = .ok (.iconst 1, 1) := by decide +kernel
theorem dX11_isSmall_13 : decode cX11_isSmall 13 = .ok (.goto 4, 3) := by decide +kernel
theorem dX11_isSmall_16 : decode cX11_isSmall 16 = .ok (.iconst 0, 1) := by decide +kernel
theorem dX11_isSmall_17 : decode cX11_isSmall 17 = .ok (.ireturn, 1) := by decide +kernel
def D_X11_isSmall (h : z_H) (l0 : Int32) : Option (Int32 × z_H) :=
  if l0 < (97:Int32) then
    some ((0:Int32), h)
  else
    if (122:Int32) < l0 then
      some ((0:Int32), h)
    else
      some ((1:Int32), h)
set_option maxRecDepth 100000 in
set_option maxHeartbeats 4000000 in
theorem S_X11_isSmall {G : z_G} {l : Launch} {h : z_H} {l0 : Int32} {res : (Int32 × z_H)} (e : D_X11_isSmall h l0 = some res) : z_Meth G l 4 M_X11_isSmall [.int l0] h res.2 (some (.int res.1)) := by
  refine z_Meth.of ck_X11_isSmall.2.2.2.2 (by simp [lg_sl, z_ci, z_cj, z_cr, z_cx]) ck_X11_isSmall.1 ?_
  rw [show lv_args 0 [.int l0] = [(0, .int l0)] from rfl]
  unfold D_X11_isSmall at e
  refine z_iload_n 0 dX11_isSmall_0 rfl ?_
  refine z_bipush (v := 97) dX11_isSmall_1 (by decide) ?_
  refine z_icmp_lt (tgt := 16) dX11_isSmall_3 (by decide) (fun c3074 => ?_) (fun c3074 => ?_)
  · rw [if_pos c3074] at e
    refine z_iconst (v := 0) dX11_isSmall_16 (by decide) ?_
    cases e
    exact z_zret dX11_isSmall_17 rfl (by decide)
  · rw [if_neg c3074] at e
    refine z_iload_n 0 dX11_isSmall_6 rfl ?_
    refine z_bipush (v := 122) dX11_isSmall_7 (by decide) ?_
    refine z_icmp_gt (tgt := 16) dX11_isSmall_9 (by decide) (fun c3075 => ?_) (fun c3075 => ?_)
    · rw [if_pos c3075] at e
      refine z_iconst (v := 0) dX11_isSmall_16 (by decide) ?_
      cases e
      exact z_zret dX11_isSmall_17 rfl (by decide)
    · rw [if_neg c3075] at e
      refine z_iconst (v := 1) dX11_isSmall_12 (by decide) ?_
      refine z_goto (tgt := 17) dX11_isSmall_13 (by decide) ?_
      cases e
      exact z_zret dX11_isSmall_17 rfl (by decide)
theorem dX11_isDigit_0 : decode cX11_isDigit 0 = .ok (.iload_n 0, 1) := by decide +kernel
theorem dX11_isDigit_1 : decode cX11_isDigit 1 = .ok (.bipush 48, 2) := by decide +kernel
theorem dX11_isDigit_3 : decode cX11_isDigit 3 = .ok (.if_icmp .lt 13, 3) := by decide +kernel
theorem dX11_isDigit_6 : decode cX11_isDigit 6 = .ok (.iload_n 0, 1) := by decide +kernel
theorem dX11_isDigit_7 : decode cX11_isDigit 7 = .ok (.bipush 57, 2) := by decide +kernel
theorem dX11_isDigit_9 : decode cX11_isDigit 9 = .ok (.if_icmp .gt 7, 3) := by decide +kernel
theorem dX11_isDigit_12 : decode cX11_isDigit 12 = .ok (.iconst 1, 1) := by decide +kernel
theorem dX11_isDigit_13 : decode cX11_isDigit 13 = .ok (.goto 4, 3) := by decide +kernel
theorem dX11_isDigit_16 : decode cX11_isDigit 16 = .ok (.iconst 0, 1) := by decide +kernel
theorem dX11_isDigit_17 : decode cX11_isDigit 17 = .ok (.ireturn, 1) := by decide +kernel
def D_X11_isDigit (h : z_H) (l0 : Int32) : Option (Int32 × z_H) :=
  if l0 < (48:Int32) then
    some ((0:Int32), h)
  else
    if (57:Int32) < l0 then
      some ((0:Int32), h)
    else
      some ((1:Int32), h)
set_option maxRecDepth 100000 in
set_option maxHeartbeats 4000000 in
theorem S_X11_isDigit {G : z_G} {l : Launch} {h : z_H} {l0 : Int32} {res : (Int32 × z_H)} (e : D_X11_isDigit h l0 = some res) : z_Meth G l 4 M_X11_isDigit [.int l0] h res.2 (some (.int res.1)) := by
  refine z_Meth.of ck_X11_isDigit.2.2.2.2 (by simp [lg_sl, z_ci, z_cj, z_cr, z_cx]) ck_X11_isDigit.1 ?_
  rw [show lv_args 0 [.int l0] = [(0, .int l0)] from rfl]
  unfold D_X11_isDigit at e
  refine z_iload_n 0 dX11_isDigit_0 rfl ?_
  refine z_bipush (v := 48) dX11_isDigit_1 (by decide) ?_
  refine z_icmp_lt (tgt := 16) dX11_isDigit_3 (by decide) (fun c3076 => ?_) (fun c3076 => ?_)
  · rw [if_pos c3076] at e
    refine z_iconst (v := 0) dX11_isDigit_16 (by decide) ?_
    cases e
    exact z_zret dX11_isDigit_17 rfl (by decide)
  · rw [if_neg c3076] at e
    refine z_iload_n 0 dX11_isDigit_6 rfl ?_
    refine z_bipush (v := 57) dX11_isDigit_7 (by decide) ?_
    refine z_icmp_gt (tgt := 16) dX11_isDigit_9 (by decide) (fun c3077 => ?_) (fun c3077 => ?_)
    · rw [if_pos c3077] at e
      refine z_iconst (v := 0) dX11_isDigit_16 (by decide) ?_
      cases e
      exact z_zret dX11_isDigit_17 rfl (by decide)
    · rw [if_neg c3077] at e
      refine z_iconst (v := 1) dX11_isDigit_12 (by decide) ?_
      refine z_goto (tgt := 17) dX11_isDigit_13 (by decide) ?_
      cases e
      exact z_zret dX11_isDigit_17 rfl (by decide)
theorem dX11_next_0 : decode cX11_next 0 = .ok (.aload_n 0, 1) := by decide +kernel
theorem dX11_next_1 : decode cX11_next 1 = .ok (.aload_n 0, 1) := by decide +kernel
theorem dX11_next_2 : decode cX11_next 2 = .ok (.getfield 248, 3) := by decide +kernel
theorem dX11_next_5 : decode cX11_next 5 = .ok (.putfield 258, 3) := by decide +kernel
theorem dX11_next_8 : decode cX11_next 8 = .ok (.aload_n 0, 1) := by decide +kernel
theorem dX11_next_9 : decode cX11_next 9 = .ok (.getfield 258, 3) := by decide +kernel
theorem dX11_next_12 : decode cX11_next 12 = .ok (.aload_n 0, 1) := by decide +kernel
theorem dX11_next_13 : decode cX11_next 13 = .ok (.getfield 239, 3) := by decide +kernel
theorem dX11_next_16 : decode cX11_next 16 = .ok (.if_icmp .ge 30, 3) := by decide +kernel
theorem dX11_next_19 : decode cX11_next 19 = .ok (.aload_n 0, 1) := by decide +kernel
theorem dX11_next_20 : decode cX11_next 20 = .ok (.getfield 35, 3) := by decide +kernel
theorem dX11_next_23 : decode cX11_next 23 = .ok (.aload_n 0, 1) := by decide +kernel
theorem dX11_next_24 : decode cX11_next 24 = .ok (.getfield 258, 3) := by decide +kernel
theorem dX11_next_27 : decode cX11_next 27 = .ok (.iaload, 1) := by decide +kernel
theorem dX11_next_28 : decode cX11_next 28 = .ok (.bipush 32, 2) := by decide +kernel
theorem dX11_next_30 : decode cX11_next 30 = .ok (.if_icmp .ne 16, 3) := by decide +kernel
theorem dX11_next_33 : decode cX11_next 33 = .ok (.aload_n 0, 1) := by decide +kernel
theorem dX11_next_34 : decode cX11_next 34 = .ok (.dup, 1) := by decide +kernel
theorem dX11_next_35 : decode cX11_next 35 = .ok (.getfield 258, 3) := by decide +kernel
theorem dX11_next_38 : decode cX11_next 38 = .ok (.iconst 1, 1) := by decide +kernel
theorem dX11_next_39 : decode cX11_next 39 = .ok (.iadd, 1) := by decide +kernel
theorem dX11_next_40 : decode cX11_next 40 = .ok (.putfield 258, 3) := by decide +kernel
theorem dX11_next_43 : decode cX11_next 43 = .ok (.goto (-35), 3) := by decide +kernel
theorem dX11_next_46 : decode cX11_next 46 = .ok (.aload_n 0, 1) := by decide +kernel
theorem dX11_next_47 : decode cX11_next 47 = .ok (.aload_n 0, 1) := by decide +kernel
theorem dX11_next_48 : decode cX11_next 48 = .ok (.getfield 258, 3) := by decide +kernel
theorem dX11_next_51 : decode cX11_next 51 = .ok (.putfield 248, 3) := by decide +kernel
theorem dX11_next_54 : decode cX11_next 54 = .ok (.aload_n 0, 1) := by decide +kernel
theorem dX11_next_55 : decode cX11_next 55 = .ok (.lconst 0, 1) := by decide +kernel
theorem dX11_next_56 : decode cX11_next 56 = .ok (.putfield 261, 3) := by decide +kernel
theorem dX11_next_59 : decode cX11_next 59 = .ok (.aload_n 0, 1) := by decide +kernel
theorem dX11_next_60 : decode cX11_next 60 = .ok (.aload_n 0, 1) := by decide +kernel
theorem dX11_next_61 : decode cX11_next 61 = .ok (.getfield 258, 3) := by decide +kernel
theorem dX11_next_64 : decode cX11_next 64 = .ok (.aload_n 0, 1) := by decide +kernel
theorem dX11_next_65 : decode cX11_next 65 = .ok (.getfield 239, 3) := by decide +kernel
theorem dX11_next_68 : decode cX11_next 68 = .ok (.if_icmp .ne 7, 3) := by decide +kernel
theorem dX11_next_71 : decode cX11_next 71 = .ok (.iconst 0, 1) := by decide +kernel
theorem dX11_next_72 : decode cX11_next 72 = .ok (.goto 42, 3) := by decide +kernel
theorem dX11_next_75 : decode cX11_next 75 = .ok (.aload_n 0, 1) := by decide +kernel
theorem dX11_next_76 : decode cX11_next 76 = .ok (.getfield 35, 3) := by decide +kernel
theorem dX11_next_79 : decode cX11_next 79 = .ok (.aload_n 0, 1) := by decide +kernel
theorem dX11_next_80 : decode cX11_next 80 = .ok (.getfield 258, 3) := by decide +kernel
theorem dX11_next_83 : decode cX11_next 83 = .ok (.iaload, 1) := by decide +kernel
theorem dX11_next_84 : decode cX11_next 84 = .ok (.invokestatic 265, 3) := by decide +kernel
theorem dX11_next_87 : decode cX11_next 87 = .ok (.ifCond .eq 7, 3) := by decide +kernel
theorem dX11_next_90 : decode cX11_next 90 = .ok (.iconst 1, 1) := by decide +kernel
theorem dX11_next_91 : decode cX11_next 91 = .ok (.goto 23, 3) := by decide +kernel
theorem dX11_next_94 : decode cX11_next 94 = .ok (.aload_n 0, 1) := by decide +kernel
theorem dX11_next_95 : decode cX11_next 95 = .ok (.getfield 35, 3) := by decide +kernel
theorem dX11_next_98 : decode cX11_next 98 = .ok (.aload_n 0, 1) := by decide +kernel
theorem dX11_next_99 : decode cX11_next 99 = .ok (.getfield 258, 3) := by decide +kernel
theorem dX11_next_102 : decode cX11_next 102 = .ok (.iaload, 1) := by decide +kernel
theorem dX11_next_103 : decode cX11_next 103 = .ok (.invokestatic 268, 3) := by decide +kernel
theorem dX11_next_106 : decode cX11_next 106 = .ok (.ifCond .eq 7, 3) := by decide +kernel
theorem dX11_next_109 : decode cX11_next 109 = .ok (.iconst 2, 1) := by decide +kernel
theorem dX11_next_110 : decode cX11_next 110 = .ok (.goto 4, 3) := by decide +kernel
theorem dX11_next_113 : decode cX11_next 113 = .ok (.iconst 3, 1) := by decide +kernel
theorem dX11_next_114 : decode cX11_next 114 = .ok (.putfield 271, 3) := by decide +kernel
theorem dX11_next_117 : decode cX11_next 117 = .ok (.aload_n 0, 1) := by decide +kernel
theorem dX11_next_118 : decode cX11_next 118 = .ok (.getfield 271, 3) := by decide +kernel
theorem dX11_next_121 : decode cX11_next 121 = .ok (.iconst 3, 1) := by decide +kernel
theorem dX11_next_122 : decode cX11_next 122 = .ok (.if_icmp .ne 27, 3) := by decide +kernel
theorem dX11_next_125 : decode cX11_next 125 = .ok (.aload_n 0, 1) := by decide +kernel
theorem dX11_next_126 : decode cX11_next 126 = .ok (.aload_n 0, 1) := by decide +kernel
theorem dX11_next_127 : decode cX11_next 127 = .ok (.getfield 35, 3) := by decide +kernel
theorem dX11_next_130 : decode cX11_next 130 = .ok (.aload_n 0, 1) := by decide +kernel
theorem dX11_next_131 : decode cX11_next 131 = .ok (.getfield 258, 3) := by decide +kernel
theorem dX11_next_134 : decode cX11_next 134 = .ok (.iaload, 1) := by decide +kernel
theorem dX11_next_135 : decode cX11_next 135 = .ok (.i2l, 1) := by decide +kernel
theorem dX11_next_136 : decode cX11_next 136 = .ok (.putfield 261, 3) := by decide +kernel
theorem dX11_next_139 : decode cX11_next 139 = .ok (.aload_n 0, 1) := by decide +kernel
theorem dX11_next_140 : decode cX11_next 140 = .ok (.dup, 1) := by decide +kernel
theorem dX11_next_141 : decode cX11_next 141 = .ok (.getfield 248, 3) := by decide +kernel
theorem dX11_next_144 : decode cX11_next 144 = .ok (.iconst 1, 1) := by decide +kernel
theorem dX11_next_145 : decode cX11_next 145 = .ok (.iadd, 1) := by decide +kernel
theorem dX11_next_146 : decode cX11_next 146 = .ok (.putfield 248, 3) := by decide +kernel
theorem dX11_next_149 : decode cX11_next 149 = .ok (.aload_n 0, 1) := by decide +kernel
theorem dX11_next_150 : decode cX11_next 150 = .ok (.getfield 271, 3) := by decide +kernel
theorem dX11_next_153 : decode cX11_next 153 = .ok (.iconst 1, 1) := by decide +kernel
theorem dX11_next_154 : decode cX11_next 154 = .ok (.if_icmp .ne 89, 3) := by decide +kernel
theorem dX11_next_157 : decode cX11_next 157 = .ok (.aload_n 0, 1) := by decide +kernel
theorem dX11_next_158 : decode cX11_next 158 = .ok (.getfield 248, 3) := by decide +kernel
theorem dX11_next_161 : decode cX11_next 161 = .ok (.aload_n 0, 1) := by decide +kernel
theorem dX11_next_162 : decode cX11_next 162 = .ok (.getfield 239, 3) := by decide +kernel
theorem dX11_next_165 : decode cX11_next 165 = .ok (.if_icmp .ge 78, 3) := by decide +kernel
theorem dX11_next_168 : decode cX11_next 168 = .ok (.aload_n 0, 1) := by decide +kernel
theorem dX11_next_169 : decode cX11_next 169 = .ok (.getfield 35, 3) := by decide +kernel
theorem dX11_next_172 : decode cX11_next 172 = .ok (.aload_n 0, 1) := by decide +kernel
theorem dX11_next_173 : decode cX11_next 173 = .ok (.getfield 248, 3) := by decide +kernel
theorem dX11_next_176 : decode cX11_next 176 = .ok (.iaload, 1) := by decide +kernel
theorem dX11_next_177 : decode cX11_next 177 = .ok (.invokestatic 265, 3) := by decide +kernel
theorem dX11_next_180 : decode cX11_next 180 = .ok (.ifCond .eq 63, 3) := by decide +kernel
theorem dX11_next_183 : decode cX11_next 183 = .ok (.aload_n 0, 1) := by decide +kernel
theorem dX11_next_184 : decode cX11_next 184 = .ok (.aload_n 0, 1) := by decide +kernel
theorem dX11_next_185 : decode cX11_next 185 = .ok (.getfield 248, 3) := by decide +kernel
theorem dX11_next_188 : decode cX11_next 188 = .ok (.aload_n 0, 1) := by decide +kernel
theorem dX11_next_189 : decode cX11_next 189 = .ok (.getfield 258, 3) := by decide +kernel
theorem dX11_next_192 : decode cX11_next 192 = .ok (.isub, 1) := by decide +kernel
theorem dX11_next_193 : decode cX11_next 193 = .ok (.bipush 10, 2) := by decide +kernel
theorem dX11_next_195 : decode cX11_next 195 = .ok (.if_icmp .ge 29, 3) := by decide +kernel
theorem dX11_next_198 : decode cX11_next 198 = .ok (.aload_n 0, 1) := by decide +kernel
theorem dX11_next_199 : decode cX11_next 199 = .ok (.getfield 261, 3) := by decide +kernel
theorem dX11_next_202 : decode cX11_next 202 = .ok (.ldc2_w 274, 3) := by decide +kernel
theorem dX11_next_205 : decode cX11_next 205 = .ok (.lmul, 1) := by decide +kernel
theorem dX11_next_206 : decode cX11_next 206 = .ok (.aload_n 0, 1) := by decide +kernel
theorem dX11_next_207 : decode cX11_next 207 = .ok (.getfield 35, 3) := by decide +kernel
theorem dX11_next_210 : decode cX11_next 210 = .ok (.aload_n 0, 1) := by decide +kernel
theorem dX11_next_211 : decode cX11_next 211 = .ok (.getfield 248, 3) := by decide +kernel
theorem dX11_next_214 : decode cX11_next 214 = .ok (.iaload, 1) := by decide +kernel
theorem dX11_next_215 : decode cX11_next 215 = .ok (.i2l, 1) := by decide +kernel
theorem dX11_next_216 : decode cX11_next 216 = .ok (.ladd, 1) := by decide +kernel
theorem dX11_next_217 : decode cX11_next 217 = .ok (.ldc2_w 276, 3) := by decide +kernel
theorem dX11_next_220 : decode cX11_next 220 = .ok (.lsub, 1) := by decide +kernel
theorem dX11_next_221 : decode cX11_next 221 = .ok (.goto 6, 3) := by decide +kernel
theorem dX11_next_224 : decode cX11_next 224 = .ok (.ldc2_w 278, 3) := by decide +kernel
theorem dX11_next_227 : decode cX11_next 227 = .ok (.putfield 261, 3) := by decide +kernel
theorem dX11_next_230 : decode cX11_next 230 = .ok (.aload_n 0, 1) := by decide +kernel
theorem dX11_next_231 : decode cX11_next 231 = .ok (.dup, 1) := by decide +kernel
theorem dX11_next_232 : decode cX11_next 232 = .ok (.getfield 248, 3) := by decide +kernel
theorem dX11_next_235 : decode cX11_next 235 = .ok (.iconst 1, 1) := by decide +kernel
theorem dX11_next_236 : decode cX11_next 236 = .ok (.iadd, 1) := by decide +kernel
theorem dX11_next_237 : decode cX11_next 237 = .ok (.putfield 248, 3) := by decide +kernel
theorem dX11_next_240 : decode cX11_next 240 = .ok (.goto (-91), 3) := by decide +kernel
theorem dX11_next_243 : decode cX11_next 243 = .ok (.aload_n 0, 1) := by decide +kernel
theorem dX11_next_244 : decode cX11_next 244 = .ok (.getfield 271, 3) := by decide +kernel
theorem dX11_next_247 : decode cX11_next 247 = .ok (.iconst 2, 1) := by decide +kernel
theorem dX11_next_248 : decode cX11_next 248 = .ok (.if_icmp .ne 87, 3) := by decide +kernel
theorem dX11_next_251 : decode cX11_next 251 = .ok (.aload_n 0, 1) := by decide +kernel
theorem dX11_next_252 : decode cX11_next 252 = .ok (.getfield 248, 3) := by decide +kernel
theorem dX11_next_255 : decode cX11_next 255 = .ok (.aload_n 0, 1) := by decide +kernel
theorem dX11_next_256 : decode cX11_next 256 = .ok (.getfield 239, 3) := by decide +kernel
theorem dX11_next_259 : decode cX11_next 259 = .ok (.if_icmp .ge 76, 3) := by decide +kernel
theorem dX11_next_262 : decode cX11_next 262 = .ok (.aload_n 0, 1) := by decide +kernel
theorem dX11_next_263 : decode cX11_next 263 = .ok (.getfield 35, 3) := by decide +kernel
theorem dX11_next_266 : decode cX11_next 266 = .ok (.aload_n 0, 1) := by decide +kernel
theorem dX11_next_267 : decode cX11_next 267 = .ok (.getfield 248, 3) := by decide +kernel
theorem dX11_next_270 : decode cX11_next 270 = .ok (.iaload, 1) := by decide +kernel
theorem dX11_next_271 : decode cX11_next 271 = .ok (.invokestatic 268, 3) := by decide +kernel
theorem dX11_next_274 : decode cX11_next 274 = .ok (.ifCond .eq 61, 3) := by decide +kernel
theorem dX11_next_277 : decode cX11_next 277 = .ok (.aload_n 0, 1) := by decide +kernel
theorem dX11_next_278 : decode cX11_next 278 = .ok (.aload_n 0, 1) := by decide +kernel
theorem dX11_next_279 : decode cX11_next 279 = .ok (.getfield 261, 3) := by decide +kernel
theorem dX11_next_282 : decode cX11_next 282 = .ok (.ldc2_w 280, 3) := by decide +kernel
theorem dX11_next_285 : decode cX11_next 285 = .ok (.lcmp, 1) := by decide +kernel
theorem dX11_next_286 : decode cX11_next 286 = .ok (.ifCond .le 10, 3) := by decide +kernel
theorem dX11_next_289 : decode cX11_next 289 = .ok (.aload_n 0, 1) := by decide +kernel
theorem dX11_next_290 : decode cX11_next 290 = .ok (.getfield 261, 3) := by decide +kernel
theorem dX11_next_293 : decode cX11_next 293 = .ok (.goto 26, 3) := by decide +kernel
theorem dX11_next_296 : decode cX11_next 296 = .ok (.aload_n 0, 1) := by decide +kernel
theorem dX11_next_297 : decode cX11_next 297 = .ok (.getfield 261, 3) := by decide +kernel
theorem dX11_next_300 : decode cX11_next 300 = .ok (.ldc2_w 234, 3) := by decide +kernel
theorem dX11_next_303 : decode cX11_next 303 = .ok (.lmul, 1) := by decide +kernel
theorem dX11_next_304 : decode cX11_next 304 = .ok (.aload_n 0, 1) := by decide +kernel
theorem dX11_next_305 : decode cX11_next 305 = .ok (.getfield 35, 3) := by decide +kernel
theorem dX11_next_308 : decode cX11_next 308 = .ok (.aload_n 0, 1) := by decide +kernel
theorem dX11_next_309 : decode cX11_next 309 = .ok (.getfield 248, 3) := by decide +kernel
theorem dX11_next_312 : decode cX11_next 312 = .ok (.iaload, 1) := by decide +kernel
theorem dX11_next_313 : decode cX11_next 313 = .ok (.i2l, 1) := by decide +kernel
theorem dX11_next_314 : decode cX11_next 314 = .ok (.ladd, 1) := by decide +kernel
theorem dX11_next_315 : decode cX11_next 315 = .ok (.ldc2_w 282, 3) := by decide +kernel
theorem dX11_next_318 : decode cX11_next 318 = .ok (.lsub, 1) := by decide +kernel
theorem dX11_next_319 : decode cX11_next 319 = .ok (.putfield 261, 3) := by decide +kernel
theorem dX11_next_322 : decode cX11_next 322 = .ok (.aload_n 0, 1) := by decide +kernel
theorem dX11_next_323 : decode cX11_next 323 = .ok (.dup, 1) := by decide +kernel
theorem dX11_next_324 : decode cX11_next 324 = .ok (.getfield 248, 3) := by decide +kernel
theorem dX11_next_327 : decode cX11_next 327 = .ok (.iconst 1, 1) := by decide +kernel
theorem dX11_next_328 : decode cX11_next 328 = .ok (.iadd, 1) := by decide +kernel
theorem dX11_next_329 : decode cX11_next 329 = .ok (.putfield 248, 3) := by decide +kernel
theorem dX11_next_332 : decode cX11_next 332 = .ok (.goto (-89), 3) := by decide +kernel
theorem dX11_next_335 : decode cX11_next 335 = .ok (.return_, 1) := by decide +kernel
def D_X11_next_319 (k243 : z_H → Option Nat → Option z_H) (h : z_H) (l0 : Option Nat) (s0 : Option Nat) (s1 : Int64) : Option z_H :=
  (z_pV 11 h s0 17 (.long s1)).bind fun h3078 =>
  (z_gI 11 h3078 l0 15).bind fun x3079 =>
  (z_pV 11 h3078 l0 15 (.int (x3079 + (1:Int32)))).bind fun h3080 =>
  k243 h3080 l0
set_option maxRecDepth 100000 in
set_option maxHeartbeats 4000000 in
theorem S_X11_next_319 {G : z_G} {l : Launch} {k243 : z_H → Option Nat → Option z_H} (hk243 : ∀ {h : z_H} {l0 : Option Nat} {res : z_H}, k243 h l0 = some res → z_Run G l 5 M_X11_next 243 [(0, z_r l0)] [] h res none) {h : z_H} {l0 : Option Nat} {s0 : Option Nat} {s1 : Int64} {res : z_H} (e : D_X11_next_319 k243 h l0 s0 s1 = some res) : z_Run G l 5 M_X11_next 319 [(0, z_r l0)] [.long s1, z_r s0] h res none := by
  unfold D_X11_next_319 at e
  replace e := z_bd e; obtain ⟨h3078, eh3078, e⟩ := e
  refine z_putV eh3078 lk_X11_261 wk_11_17 (fun _ => rfl) (fun _ => rfl) dX11_next_319 ?_
  refine z_aload_n 0 dX11_next_322 rfl ?_
  refine z_dup dX11_next_323 (z_cr _) ?_
  replace e := z_bd e; obtain ⟨x3079, ex3079, e⟩ := e
  refine z_getI ex3079 lk_X11_248 dX11_next_324 ?_
  refine z_iconst (v := 1) dX11_next_327 (by decide) ?_
  refine z_iadd dX11_next_328 ?_
  replace e := z_bd e; obtain ⟨h3080, eh3080, e⟩ := e
  refine z_putV eh3080 lk_X11_248 wk_11_15 (fun _ => rfl) (fun _ => rfl) dX11_next_329 ?_
  refine z_goto (tgt := 243) dX11_next_332 (by decide) ?_
  exact z_weak [0] rfl (hk243 e)
def D_X11_next_243b (k243 : z_H → Option Nat → Option z_H) (h : z_H) (l0 : Option Nat) : Option z_H :=
  (z_gI 11 h l0 16).bind fun x3081 =>
  if x3081 = (2:Int32) then
    (z_gI 11 h l0 15).bind fun x3083 =>
    (z_gI 11 h l0 13).bind fun x3084 =>
    if x3084 ≤ x3083 then
      some h
    else
      (z_gQ 11 h l0 12).bind fun x3086 =>
      (z_gI 11 h l0 15).bind fun x3087 =>
      (z_aI .int h x3086 x3087).bind fun x3088 =>
      (D_X11_isDigit  h x3088).bind fun p3089 =>
      if p3089.1 = 0 then
        some p3089.2
      else
        (z_gJ 11 p3089.2 l0 17).bind fun x3091 =>
        if (lg_cmp x3091 (1000000:Int64)) ≤ 0 then
          (z_gJ 11 p3089.2 l0 17).bind fun x3093 =>
          (z_gQ 11 p3089.2 l0 12).bind fun x3094 =>
          (z_gI 11 p3089.2 l0 15).bind fun x3095 =>
          (z_aI .int p3089.2 x3094 x3095).bind fun x3096 =>
          D_X11_next_319  k243 p3089.2 l0 l0 (((x3093 * (10:Int64)) + (Int32.toInt64 x3096)) - (48:Int64))
        else
          (z_gJ 11 p3089.2 l0 17).bind fun x3097 =>
          D_X11_next_319  k243 p3089.2 l0 l0 x3097
  else
    some h
def D_X11_next_243 (n : Nat) : z_H → Option Nat → Option z_H := Nat.rec (motive := fun _ => z_H → Option Nat → Option z_H) (fun _ _ => none) (fun _ k => D_X11_next_243b  k) n
set_option maxRecDepth 100000 in
set_option maxHeartbeats 4000000 in
theorem S_X11_next_243 {G : z_G} {l : Launch}  (n : Nat) : ∀ {h : z_H} {l0 : Option Nat} {res : z_H}, D_X11_next_243  n h l0 = some res → z_Run G l 5 M_X11_next 243 [(0, z_r l0)] [] h res none := by
  induction n with
  | zero => intro h l0 res e; cases e
  | succ n hk243 =>
    intro h l0 res e
    replace e : D_X11_next_243b  (D_X11_next_243  n) h l0 = some res := e
    unfold D_X11_next_243b at e
    refine z_aload_n 0 dX11_next_243 rfl ?_
    replace e := z_bd e; obtain ⟨x3081, ex3081, e⟩ := e
    refine z_getI ex3081 lk_X11_271 dX11_next_244 ?_
    refine z_iconst (v := 2) dX11_next_247 (by decide) ?_
    refine z_icmp_ne (tgt := 335) dX11_next_248 (by decide) (fun c3082 => ?_) (fun c3082 => ?_)
    · rw [if_neg c3082] at e
      cases e
      exact z_vret dX11_next_335 rfl
    · rw [if_pos c3082] at e
      refine z_aload_n 0 dX11_next_251 rfl ?_
      replace e := z_bd e; obtain ⟨x3083, ex3083, e⟩ := e
      refine z_getI ex3083 lk_X11_248 dX11_next_252 ?_
      refine z_aload_n 0 dX11_next_255 rfl ?_
      replace e := z_bd e; obtain ⟨x3084, ex3084, e⟩ := e
      refine z_getI ex3084 lk_X11_239 dX11_next_256 ?_
      refine z_icmp_ge (tgt := 335) dX11_next_259 (by decide) (fun c3085 => ?_) (fun c3085 => ?_)
      · rw [if_pos c3085] at e
        cases e
        exact z_vret dX11_next_335 rfl
      · rw [if_neg c3085] at e
        refine z_aload_n 0 dX11_next_262 rfl ?_
        replace e := z_bd e; obtain ⟨x3086, ex3086, e⟩ := e
        refine z_getQ ex3086 lk_X11_35 dX11_next_263 ?_
        refine z_aload_n 0 dX11_next_266 rfl ?_
        replace e := z_bd e; obtain ⟨x3087, ex3087, e⟩ := e
        refine z_getI ex3087 lk_X11_248 dX11_next_267 ?_
        replace e := z_bd e; obtain ⟨x3088, ex3088, e⟩ := e
        refine z_iald ex3088 dX11_next_270 ?_
        replace e := z_bd e; obtain ⟨p3089, ep3089, e⟩ := e
        refine z_cS [.int x3088] (S_X11_isDigit  ep3089) ml_X11_268 ck_X11_isDigit st_X11_isDigit dX11_next_271 (by decide) rfl (Nat.zero_le _) rfl ?_
        refine z_if_eq (tgt := 335) dX11_next_274 (by decide) (fun c3090 => ?_) (fun c3090 => ?_)
        · rw [if_pos c3090] at e
          cases e
          exact z_vret dX11_next_335 rfl
        · rw [if_neg c3090] at e
          refine z_aload_n 0 dX11_next_277 rfl ?_
          refine z_aload_n 0 dX11_next_278 rfl ?_
          replace e := z_bd e; obtain ⟨x3091, ex3091, e⟩ := e
          refine z_getJ ex3091 lk_X11_261 dX11_next_279 ?_
          refine z_ldc2 dX11_next_282 kj_X11_280 ?_
          refine z_lcmp dX11_next_285 ?_
          refine z_if_le (tgt := 296) dX11_next_286 (by decide) (fun c3092 => ?_) (fun c3092 => ?_)
          · rw [if_pos c3092] at e
            refine z_aload_n 0 dX11_next_296 rfl ?_
            replace e := z_bd e; obtain ⟨x3093, ex3093, e⟩ := e
            refine z_getJ ex3093 lk_X11_261 dX11_next_297 ?_
            refine z_ldc2 dX11_next_300 kj_X11_234 ?_
            refine z_lmul dX11_next_303 ?_
            refine z_aload_n 0 dX11_next_304 rfl ?_
            replace e := z_bd e; obtain ⟨x3094, ex3094, e⟩ := e
            refine z_getQ ex3094 lk_X11_35 dX11_next_305 ?_
            refine z_aload_n 0 dX11_next_308 rfl ?_
            replace e := z_bd e; obtain ⟨x3095, ex3095, e⟩ := e
            refine z_getI ex3095 lk_X11_248 dX11_next_309 ?_
            replace e := z_bd e; obtain ⟨x3096, ex3096, e⟩ := e
            refine z_iald ex3096 dX11_next_312 ?_
            refine z_i2l dX11_next_313 ?_
            refine z_ladd dX11_next_314 ?_
            refine z_ldc2 dX11_next_315 kj_X11_282 ?_
            refine z_lsub dX11_next_318 ?_
            exact z_weak [0] rfl (S_X11_next_319  @hk243 e)
          · rw [if_neg c3092] at e
            refine z_aload_n 0 dX11_next_289 rfl ?_
            replace e := z_bd e; obtain ⟨x3097, ex3097, e⟩ := e
            refine z_getJ ex3097 lk_X11_261 dX11_next_290 ?_
            refine z_goto (tgt := 319) dX11_next_293 (by decide) ?_
            exact z_weak [0] rfl (S_X11_next_319  @hk243 e)
def D_X11_next_227 (k149 : z_H → Option Nat → Option z_H) (h : z_H) (l0 : Option Nat) (s0 : Option Nat) (s1 : Int64) : Option z_H :=
  (z_pV 11 h s0 17 (.long s1)).bind fun h3098 =>
  (z_gI 11 h3098 l0 15).bind fun x3099 =>
  (z_pV 11 h3098 l0 15 (.int (x3099 + (1:Int32)))).bind fun h3100 =>
  k149 h3100 l0
set_option maxRecDepth 100000 in
set_option maxHeartbeats 4000000 in
theorem S_X11_next_227 {G : z_G} {l : Launch} {k149 : z_H → Option Nat → Option z_H} (hk149 : ∀ {h : z_H} {l0 : Option Nat} {res : z_H}, k149 h l0 = some res → z_Run G l 5 M_X11_next 149 [(0, z_r l0)] [] h res none) {h : z_H} {l0 : Option Nat} {s0 : Option Nat} {s1 : Int64} {res : z_H} (e : D_X11_next_227 k149 h l0 s0 s1 = some res) : z_Run G l 5 M_X11_next 227 [(0, z_r l0)] [.long s1, z_r s0] h res none := by
  unfold D_X11_next_227 at e
  replace e := z_bd e; obtain ⟨h3098, eh3098, e⟩ := e
  refine z_putV eh3098 lk_X11_261 wk_11_17 (fun _ => rfl) (fun _ => rfl) dX11_next_227 ?_
  refine z_aload_n 0 dX11_next_230 rfl ?_
  refine z_dup dX11_next_231 (z_cr _) ?_
  replace e := z_bd e; obtain ⟨x3099, ex3099, e⟩ := e
  refine z_getI ex3099 lk_X11_248 dX11_next_232 ?_
  refine z_iconst (v := 1) dX11_next_235 (by decide) ?_
  refine z_iadd dX11_next_236 ?_
  replace e := z_bd e; obtain ⟨h3100, eh3100, e⟩ := e
  refine z_putV eh3100 lk_X11_248 wk_11_15 (fun _ => rfl) (fun _ => rfl) dX11_next_237 ?_
  refine z_goto (tgt := 149) dX11_next_240 (by decide) ?_
  exact z_weak [0] rfl (hk149 e)
def D_X11_next_149b (k149 : z_H → Option Nat → Option z_H) (h : z_H) (l0 : Option Nat) : Option z_H :=
  (z_gI 11 h l0 16).bind fun x3101 =>
  if x3101 = (1:Int32) then
    (z_gI 11 h l0 15).bind fun x3103 =>
    (z_gI 11 h l0 13).bind fun x3104 =>
    if x3104 ≤ x3103 then
      D_X11_next_243   z_F h l0
    else
      (z_gQ 11 h l0 12).bind fun x3106 =>
      (z_gI 11 h l0 15).bind fun x3107 =>
      (z_aI .int h x3106 x3107).bind fun x3108 =>
      (D_X11_isSmall  h x3108).bind fun p3109 =>
      if p3109.1 = 0 then
        D_X11_next_243   z_F p3109.2 l0
      else
        (z_gI 11 p3109.2 l0 15).bind fun x3111 =>
        (z_gI 11 p3109.2 l0 14).bind fun x3112 =>
        if (10:Int32) ≤ (x3111 - x3112) then
          D_X11_next_227  k149 p3109.2 l0 l0 (-1:Int64)
        else
          (z_gJ 11 p3109.2 l0 17).bind fun x3114 =>
          (z_gQ 11 p3109.2 l0 12).bind fun x3115 =>
          (z_gI 11 p3109.2 l0 15).bind fun x3116 =>
          (z_aI .int p3109.2 x3115 x3116).bind fun x3117 =>
          D_X11_next_227  k149 p3109.2 l0 l0 (((x3114 * (32:Int64)) + (Int32.toInt64 x3117)) - (96:Int64))
  else
    D_X11_next_243   z_F h l0
def D_X11_next_149 (n : Nat) : z_H → Option Nat → Option z_H := Nat.rec (motive := fun _ => z_H → Option Nat → Option z_H) (fun _ _ => none) (fun _ k => D_X11_next_149b  k) n
set_option maxRecDepth 100000 in
set_option maxHeartbeats 4000000 in
theorem S_X11_next_149 {G : z_G} {l : Launch}  (n : Nat) : ∀ {h : z_H} {l0 : Option Nat} {res : z_H}, D_X11_next_149  n h l0 = some res → z_Run G l 5 M_X11_next 149 [(0, z_r l0)] [] h res none := by
  induction n with
  | zero => intro h l0 res e; cases e
  | succ n hk149 =>
    intro h l0 res e
    replace e : D_X11_next_149b  (D_X11_next_149  n) h l0 = some res := e
    unfold D_X11_next_149b at e
    refine z_aload_n 0 dX11_next_149 rfl ?_
    replace e := z_bd e; obtain ⟨x3101, ex3101, e⟩ := e
    refine z_getI ex3101 lk_X11_271 dX11_next_150 ?_
    refine z_iconst (v := 1) dX11_next_153 (by decide) ?_
    refine z_icmp_ne (tgt := 243) dX11_next_154 (by decide) (fun c3102 => ?_) (fun c3102 => ?_)
    · rw [if_neg c3102] at e
      exact z_weak [0] rfl (S_X11_next_243   z_F e)
    · rw [if_pos c3102] at e
      refine z_aload_n 0 dX11_next_157 rfl ?_
      replace e := z_bd e; obtain ⟨x3103, ex3103, e⟩ := e
      refine z_getI ex3103 lk_X11_248 dX11_next_158 ?_
      refine z_aload_n 0 dX11_next_161 rfl ?_
      replace e := z_bd e; obtain ⟨x3104, ex3104, e⟩ := e
      refine z_getI ex3104 lk_X11_239 dX11_next_162 ?_
      refine z_icmp_ge (tgt := 243) dX11_next_165 (by decide) (fun c3105 => ?_) (fun c3105 => ?_)
      · rw [if_pos c3105] at e
        exact z_weak [0] rfl (S_X11_next_243   z_F e)
      · rw [if_neg c3105] at e
        refine z_aload_n 0 dX11_next_168 rfl ?_
        replace e := z_bd e; obtain ⟨x3106, ex3106, e⟩ := e
        refine z_getQ ex3106 lk_X11_35 dX11_next_169 ?_
        refine z_aload_n 0 dX11_next_172 rfl ?_
        replace e := z_bd e; obtain ⟨x3107, ex3107, e⟩ := e
        refine z_getI ex3107 lk_X11_248 dX11_next_173 ?_
        replace e := z_bd e; obtain ⟨x3108, ex3108, e⟩ := e
        refine z_iald ex3108 dX11_next_176 ?_
        replace e := z_bd e; obtain ⟨p3109, ep3109, e⟩ := e
        refine z_cS [.int x3108] (S_X11_isSmall  ep3109) ml_X11_265 ck_X11_isSmall st_X11_isSmall dX11_next_177 (by decide) rfl (Nat.zero_le _) rfl ?_
        refine z_if_eq (tgt := 243) dX11_next_180 (by decide) (fun c3110 => ?_) (fun c3110 => ?_)
        · rw [if_pos c3110] at e
          exact z_weak [0] rfl (S_X11_next_243   z_F e)
        · rw [if_neg c3110] at e
          refine z_aload_n 0 dX11_next_183 rfl ?_
          refine z_aload_n 0 dX11_next_184 rfl ?_
          replace e := z_bd e; obtain ⟨x3111, ex3111, e⟩ := e
          refine z_getI ex3111 lk_X11_248 dX11_next_185 ?_
          refine z_aload_n 0 dX11_next_188 rfl ?_
          replace e := z_bd e; obtain ⟨x3112, ex3112, e⟩ := e
          refine z_getI ex3112 lk_X11_258 dX11_next_189 ?_
          refine z_isub dX11_next_192 ?_
          refine z_bipush (v := 10) dX11_next_193 (by decide) ?_
          refine z_icmp_ge (tgt := 224) dX11_next_195 (by decide) (fun c3113 => ?_) (fun c3113 => ?_)
          · rw [if_pos c3113] at e
            refine z_ldc2 dX11_next_224 kj_X11_278 ?_
            exact z_weak [0] rfl (S_X11_next_227  @hk149 e)
          · rw [if_neg c3113] at e
            refine z_aload_n 0 dX11_next_198 rfl ?_
            replace e := z_bd e; obtain ⟨x3114, ex3114, e⟩ := e
            refine z_getJ ex3114 lk_X11_261 dX11_next_199 ?_
            refine z_ldc2 dX11_next_202 kj_X11_274 ?_
            refine z_lmul dX11_next_205 ?_
            refine z_aload_n 0 dX11_next_206 rfl ?_
            replace e := z_bd e; obtain ⟨x3115, ex3115, e⟩ := e
            refine z_getQ ex3115 lk_X11_35 dX11_next_207 ?_
            refine z_aload_n 0 dX11_next_210 rfl ?_
            replace e := z_bd e; obtain ⟨x3116, ex3116, e⟩ := e
            refine z_getI ex3116 lk_X11_248 dX11_next_211 ?_
            replace e := z_bd e; obtain ⟨x3117, ex3117, e⟩ := e
            refine z_iald ex3117 dX11_next_214 ?_
            refine z_i2l dX11_next_215 ?_
            refine z_ladd dX11_next_216 ?_
            refine z_ldc2 dX11_next_217 kj_X11_276 ?_
            refine z_lsub dX11_next_220 ?_
            refine z_goto (tgt := 227) dX11_next_221 (by decide) ?_
            exact z_weak [0] rfl (S_X11_next_227  @hk149 e)
def D_X11_next_114 (h : z_H) (l0 : Option Nat) (s0 : Option Nat) (s1 : Int32) : Option z_H :=
  (z_pV 11 h s0 16 (.int s1)).bind fun h3118 =>
  (z_gI 11 h3118 l0 16).bind fun x3119 =>
  if x3119 = (3:Int32) then
    (z_gQ 11 h3118 l0 12).bind fun x3121 =>
    (z_gI 11 h3118 l0 14).bind fun x3122 =>
    (z_aI .int h3118 x3121 x3122).bind fun x3123 =>
    (z_pV 11 h3118 l0 17 (.long (Int32.toInt64 x3123))).bind fun h3124 =>
    (z_gI 11 h3124 l0 15).bind fun x3125 =>
    (z_pV 11 h3124 l0 15 (.int (x3125 + (1:Int32)))).bind fun h3126 =>
    D_X11_next_149   z_F h3126 l0
  else
    D_X11_next_149   z_F h3118 l0
set_option maxRecDepth 100000 in
set_option maxHeartbeats 4000000 in
theorem S_X11_next_114 {G : z_G} {l : Launch}  {h : z_H} {l0 : Option Nat} {s0 : Option Nat} {s1 : Int32} {res : z_H} (e : D_X11_next_114  h l0 s0 s1 = some res) : z_Run G l 5 M_X11_next 114 [(0, z_r l0)] [.int s1, z_r s0] h res none := by
  unfold D_X11_next_114 at e
  replace e := z_bd e; obtain ⟨h3118, eh3118, e⟩ := e
  refine z_putV eh3118 lk_X11_271 wk_11_16 (fun _ => rfl) (fun _ => rfl) dX11_next_114 ?_
  refine z_aload_n 0 dX11_next_117 rfl ?_
  replace e := z_bd e; obtain ⟨x3119, ex3119, e⟩ := e
  refine z_getI ex3119 lk_X11_271 dX11_next_118 ?_
  refine z_iconst (v := 3) dX11_next_121 (by decide) ?_
  refine z_icmp_ne (tgt := 149) dX11_next_122 (by decide) (fun c3120 => ?_) (fun c3120 => ?_)
  · rw [if_neg c3120] at e
    exact z_weak [0] rfl (S_X11_next_149   z_F e)
  · rw [if_pos c3120] at e
    refine z_aload_n 0 dX11_next_125 rfl ?_
    refine z_aload_n 0 dX11_next_126 rfl ?_
    replace e := z_bd e; obtain ⟨x3121, ex3121, e⟩ := e
    refine z_getQ ex3121 lk_X11_35 dX11_next_127 ?_
    refine z_aload_n 0 dX11_next_130 rfl ?_
    replace e := z_bd e; obtain ⟨x3122, ex3122, e⟩ := e
    refine z_getI ex3122 lk_X11_258 dX11_next_131 ?_
    replace e := z_bd e; obtain ⟨x3123, ex3123, e⟩ := e
    refine z_iald ex3123 dX11_next_134 ?_
    refine z_i2l dX11_next_135 ?_
    replace e := z_bd e; obtain ⟨h3124, eh3124, e⟩ := e
    refine z_putV eh3124 lk_X11_261 wk_11_17 (fun _ => rfl) (fun _ => rfl) dX11_next_136 ?_
    refine z_aload_n 0 dX11_next_139 rfl ?_
    refine z_dup dX11_next_140 (z_cr _) ?_
    replace e := z_bd e; obtain ⟨x3125, ex3125, e⟩ := e
    refine z_getI ex3125 lk_X11_248 dX11_next_141 ?_
    refine z_iconst (v := 1) dX11_next_144 (by decide) ?_
    refine z_iadd dX11_next_145 ?_
    replace e := z_bd e; obtain ⟨h3126, eh3126, e⟩ := e
    refine z_putV eh3126 lk_X11_248 wk_11_15 (fun _ => rfl) (fun _ => rfl) dX11_next_146 ?_
    exact z_weak [0] rfl (S_X11_next_149   z_F e)
def D_X11_next_46 (h : z_H) (l0 : Option Nat) : Option z_H :=
  (z_gI 11 h l0 14).bind fun x3127 =>
  (z_pV 11 h l0 15 (.int x3127)).bind fun h3128 =>
  (z_pV 11 h3128 l0 17 (.long (0:Int64))).bind fun h3129 =>
  (z_gI 11 h3129 l0 14).bind fun x3130 =>
  (z_gI 11 h3129 l0 13).bind fun x3131 =>
  if x3130 = x3131 then
    D_X11_next_114   h3129 l0 l0 (0:Int32)
  else
    (z_gQ 11 h3129 l0 12).bind fun x3133 =>
    (z_gI 11 h3129 l0 14).bind fun x3134 =>
    (z_aI .int h3129 x3133 x3134).bind fun x3135 =>
    (D_X11_isSmall  h3129 x3135).bind fun p3136 =>
    if p3136.1 = 0 then
      (z_gQ 11 p3136.2 l0 12).bind fun x3138 =>
      (z_gI 11 p3136.2 l0 14).bind fun x3139 =>
      (z_aI .int p3136.2 x3138 x3139).bind fun x3140 =>
      (D_X11_isDigit  p3136.2 x3140).bind fun p3141 =>
      if p3141.1 = 0 then
        D_X11_next_114   p3141.2 l0 l0 (3:Int32)
      else
        D_X11_next_114   p3141.2 l0 l0 (2:Int32)
    else
      D_X11_next_114   p3136.2 l0 l0 (1:Int32)
set_option maxRecDepth 100000 in
set_option maxHeartbeats 4000000 in
theorem S_X11_next_46 {G : z_G} {l : Launch}  {h : z_H} {l0 : Option Nat} {res : z_H} (e : D_X11_next_46  h l0 = some res) : z_Run G l 5 M_X11_next 46 [(0, z_r l0)] [] h res none := by
  unfold D_X11_next_46 at e
  refine z_aload_n 0 dX11_next_46 rfl ?_
  refine z_aload_n 0 dX11_next_47 rfl ?_
  replace e := z_bd e; obtain ⟨x3127, ex3127, e⟩ := e
  refine z_getI ex3127 lk_X11_258 dX11_next_48 ?_
  replace e := z_bd e; obtain ⟨h3128, eh3128, e⟩ := e
  refine z_putV eh3128 lk_X11_248 wk_11_15 (fun _ => rfl) (fun _ => rfl) dX11_next_51 ?_
  refine z_aload_n 0 dX11_next_54 rfl ?_
  refine z_lconst (v := 0) dX11_next_55 (by decide) ?_
  replace e := z_bd e; obtain ⟨h3129, eh3129, e⟩ := e
  refine z_putV eh3129 lk_X11_261 wk_11_17 (fun _ => rfl) (fun _ => rfl) dX11_next_56 ?_
  refine z_aload_n 0 dX11_next_59 rfl ?_
  refine z_aload_n 0 dX11_next_60 rfl ?_
  replace e := z_bd e; obtain ⟨x3130, ex3130, e⟩ := e
  refine z_getI ex3130 lk_X11_258 dX11_next_61 ?_
  refine z_aload_n 0 dX11_next_64 rfl ?_
  replace e := z_bd e; obtain ⟨x3131, ex3131, e⟩ := e
  refine z_getI ex3131 lk_X11_239 dX11_next_65 ?_
  refine z_icmp_ne (tgt := 75) dX11_next_68 (by decide) (fun c3132 => ?_) (fun c3132 => ?_)
  · rw [if_neg c3132] at e
    refine z_aload_n 0 dX11_next_75 rfl ?_
    replace e := z_bd e; obtain ⟨x3133, ex3133, e⟩ := e
    refine z_getQ ex3133 lk_X11_35 dX11_next_76 ?_
    refine z_aload_n 0 dX11_next_79 rfl ?_
    replace e := z_bd e; obtain ⟨x3134, ex3134, e⟩ := e
    refine z_getI ex3134 lk_X11_258 dX11_next_80 ?_
    replace e := z_bd e; obtain ⟨x3135, ex3135, e⟩ := e
    refine z_iald ex3135 dX11_next_83 ?_
    replace e := z_bd e; obtain ⟨p3136, ep3136, e⟩ := e
    refine z_cS [.int x3135] (S_X11_isSmall  ep3136) ml_X11_265 ck_X11_isSmall st_X11_isSmall dX11_next_84 (by decide) rfl (by simp [z_ci, z_cj, z_cr, z_cx]) rfl ?_
    refine z_if_eq (tgt := 94) dX11_next_87 (by decide) (fun c3137 => ?_) (fun c3137 => ?_)
    · rw [if_pos c3137] at e
      refine z_aload_n 0 dX11_next_94 rfl ?_
      replace e := z_bd e; obtain ⟨x3138, ex3138, e⟩ := e
      refine z_getQ ex3138 lk_X11_35 dX11_next_95 ?_
      refine z_aload_n 0 dX11_next_98 rfl ?_
      replace e := z_bd e; obtain ⟨x3139, ex3139, e⟩ := e
      refine z_getI ex3139 lk_X11_258 dX11_next_99 ?_
      replace e := z_bd e; obtain ⟨x3140, ex3140, e⟩ := e
      refine z_iald ex3140 dX11_next_102 ?_
      replace e := z_bd e; obtain ⟨p3141, ep3141, e⟩ := e
      refine z_cS [.int x3140] (S_X11_isDigit  ep3141) ml_X11_268 ck_X11_isDigit st_X11_isDigit dX11_next_103 (by decide) rfl (by simp [z_ci, z_cj, z_cr, z_cx]) rfl ?_
      refine z_if_eq (tgt := 113) dX11_next_106 (by decide) (fun c3142 => ?_) (fun c3142 => ?_)
      · rw [if_pos c3142] at e
        refine z_iconst (v := 3) dX11_next_113 (by decide) ?_
        exact z_weak [0] rfl (S_X11_next_114   e)
      · rw [if_neg c3142] at e
        refine z_iconst (v := 2) dX11_next_109 (by decide) ?_
        refine z_goto (tgt := 114) dX11_next_110 (by decide) ?_
        exact z_weak [0] rfl (S_X11_next_114   e)
    · rw [if_neg c3137] at e
      refine z_iconst (v := 1) dX11_next_90 (by decide) ?_
      refine z_goto (tgt := 114) dX11_next_91 (by decide) ?_
      exact z_weak [0] rfl (S_X11_next_114   e)
  · rw [if_pos c3132] at e
    refine z_iconst (v := 0) dX11_next_71 (by decide) ?_
    refine z_goto (tgt := 114) dX11_next_72 (by decide) ?_
    exact z_weak [0] rfl (S_X11_next_114   e)
def D_X11_next_8b (k8 : z_H → Option Nat → Option z_H) (h : z_H) (l0 : Option Nat) : Option z_H :=
  (z_gI 11 h l0 14).bind fun x3143 =>
  (z_gI 11 h l0 13).bind fun x3144 =>
  if x3144 ≤ x3143 then
    D_X11_next_46   h l0
  else
    (z_gQ 11 h l0 12).bind fun x3146 =>
    (z_gI 11 h l0 14).bind fun x3147 =>
    (z_aI .int h x3146 x3147).bind fun x3148 =>
    if x3148 = (32:Int32) then
      (z_gI 11 h l0 14).bind fun x3150 =>
      (z_pV 11 h l0 14 (.int (x3150 + (1:Int32)))).bind fun h3151 =>
      k8 h3151 l0
    else
      D_X11_next_46   h l0
def D_X11_next_8 (n : Nat) : z_H → Option Nat → Option z_H := Nat.rec (motive := fun _ => z_H → Option Nat → Option z_H) (fun _ _ => none) (fun _ k => D_X11_next_8b  k) n
set_option maxRecDepth 100000 in
set_option maxHeartbeats 4000000 in
theorem S_X11_next_8 {G : z_G} {l : Launch}  (n : Nat) : ∀ {h : z_H} {l0 : Option Nat} {res : z_H}, D_X11_next_8  n h l0 = some res → z_Run G l 5 M_X11_next 8 [(0, z_r l0)] [] h res none := by
  induction n with
  | zero => intro h l0 res e; cases e
  | succ n hk8 =>
    intro h l0 res e
    replace e : D_X11_next_8b  (D_X11_next_8  n) h l0 = some res := e
    unfold D_X11_next_8b at e
    refine z_aload_n 0 dX11_next_8 rfl ?_
    replace e := z_bd e; obtain ⟨x3143, ex3143, e⟩ := e
    refine z_getI ex3143 lk_X11_258 dX11_next_9 ?_
    refine z_aload_n 0 dX11_next_12 rfl ?_
    replace e := z_bd e; obtain ⟨x3144, ex3144, e⟩ := e
    refine z_getI ex3144 lk_X11_239 dX11_next_13 ?_
    refine z_icmp_ge (tgt := 46) dX11_next_16 (by decide) (fun c3145 => ?_) (fun c3145 => ?_)
    · rw [if_pos c3145] at e
      exact z_weak [0] rfl (S_X11_next_46   e)
    · rw [if_neg c3145] at e
      refine z_aload_n 0 dX11_next_19 rfl ?_
      replace e := z_bd e; obtain ⟨x3146, ex3146, e⟩ := e
      refine z_getQ ex3146 lk_X11_35 dX11_next_20 ?_
      refine z_aload_n 0 dX11_next_23 rfl ?_
      replace e := z_bd e; obtain ⟨x3147, ex3147, e⟩ := e
      refine z_getI ex3147 lk_X11_258 dX11_next_24 ?_
      replace e := z_bd e; obtain ⟨x3148, ex3148, e⟩ := e
      refine z_iald ex3148 dX11_next_27 ?_
      refine z_bipush (v := 32) dX11_next_28 (by decide) ?_
      refine z_icmp_ne (tgt := 46) dX11_next_30 (by decide) (fun c3149 => ?_) (fun c3149 => ?_)
      · rw [if_neg c3149] at e
        exact z_weak [0] rfl (S_X11_next_46   e)
      · rw [if_pos c3149] at e
        refine z_aload_n 0 dX11_next_33 rfl ?_
        refine z_dup dX11_next_34 (z_cr _) ?_
        replace e := z_bd e; obtain ⟨x3150, ex3150, e⟩ := e
        refine z_getI ex3150 lk_X11_258 dX11_next_35 ?_
        refine z_iconst (v := 1) dX11_next_38 (by decide) ?_
        refine z_iadd dX11_next_39 ?_
        replace e := z_bd e; obtain ⟨h3151, eh3151, e⟩ := e
        refine z_putV eh3151 lk_X11_258 wk_11_14 (fun _ => rfl) (fun _ => rfl) dX11_next_40 ?_
        refine z_goto (tgt := 8) dX11_next_43 (by decide) ?_
        exact z_weak [0] rfl (hk8 e)
def D_X11_next (h : z_H) (l0 : Option Nat) : Option z_H :=
  (z_gI 11 h l0 15).bind fun x3152 =>
  (z_pV 11 h l0 14 (.int x3152)).bind fun h3153 =>
  D_X11_next_8   z_F h3153 l0
set_option maxRecDepth 100000 in
set_option maxHeartbeats 4000000 in
theorem S_X11_next {G : z_G} {l : Launch} {h : z_H} {l0 : Option Nat} {res : z_H} (e : D_X11_next h l0 = some res) : z_Meth G l 5 M_X11_next [z_r l0] h res none := by
  refine z_Meth.of ck_X11_next.2.2.2.2 (by simp [lg_sl, z_ci, z_cj, z_cr, z_cx]) ck_X11_next.1 ?_
  rw [show lv_args 0 [z_r l0] = [(0, z_r l0)] from by simp [lv_args, z_ci, z_cj, z_cr, z_cx]]
  unfold D_X11_next at e
  refine z_aload_n 0 dX11_next_0 rfl ?_
  refine z_aload_n 0 dX11_next_1 rfl ?_
  replace e := z_bd e; obtain ⟨x3152, ex3152, e⟩ := e
  refine z_getI ex3152 lk_X11_248 dX11_next_2 ?_
  replace e := z_bd e; obtain ⟨h3153, eh3153, e⟩ := e
  refine z_putV eh3153 lk_X11_258 wk_11_14 (fun _ => rfl) (fun _ => rfl) dX11_next_5 ?_
  exact z_weak [0] rfl (S_X11_next_8   z_F e)
theorem dX11_begin_0 : decode cX11_begin 0 = .ok (.aload_n 0, 1) := by decide +kernel
theorem dX11_begin_1 : decode cX11_begin 1 = .ok (.iconst 0, 1) := by decide +kernel
theorem dX11_begin_2 : decode cX11_begin 2 = .ok (.putfield 248, 3) := by decide +kernel
theorem dX11_begin_5 : decode cX11_begin 5 = .ok (.aload_n 0, 1) := by decide +kernel
theorem dX11_begin_6 : decode cX11_begin 6 = .ok (.iconst 0, 1) := by decide +kernel
theorem dX11_begin_7 : decode cX11_begin 7 = .ok (.putfield 251, 3) := by decide +kernel
theorem dX11_begin_10 : decode cX11_begin 10 = .ok (.aload_n 0, 1) := by decide +kernel
theorem dX11_begin_11 : decode cX11_begin 11 = .ok (.iconst (-1), 1) := by decide +kernel
theorem dX11_begin_12 : decode cX11_begin 12 = .ok (.putfield 38, 3) := by decide +kernel
theorem dX11_begin_15 : decode cX11_begin 15 = .ok (.aload_n 0, 1) := by decide +kernel
theorem dX11_begin_16 : decode cX11_begin 16 = .ok (.invokevirtual 255, 3) := by decide +kernel
theorem dX11_begin_19 : decode cX11_begin 19 = .ok (.return_, 1) := by decide +kernel
def D_X11_begin (h : z_H) (l0 : Option Nat) : Option z_H :=
  (z_pV 11 h l0 15 (.int (0:Int32))).bind fun h3154 =>
  (z_pV 11 h3154 l0 19 (.int (0:Int32))).bind fun h3155 =>
  (z_pV 11 h3155 l0 18 (.int (-1:Int32))).bind fun h3156 =>
  (z_ob 11 h3156 l0).bind fun _ =>
  (D_X11_next  h3156 l0).bind fun p3157 =>
  some p3157
set_option maxRecDepth 100000 in
set_option maxHeartbeats 4000000 in
theorem S_X11_begin {G : z_G} {l : Launch} {h : z_H} {l0 : Option Nat} {res : z_H} (e : D_X11_begin h l0 = some res) : z_Meth G l 6 M_X11_begin [z_r l0] h res none := by
  refine z_Meth.of ck_X11_begin.2.2.2.2 (by simp [lg_sl, z_ci, z_cj, z_cr, z_cx]) ck_X11_begin.1 ?_
  rw [show lv_args 0 [z_r l0] = [(0, z_r l0)] from by simp [lv_args, z_ci, z_cj, z_cr, z_cx]]
  unfold D_X11_begin at e
  refine z_aload_n 0 dX11_begin_0 rfl ?_
  refine z_iconst (v := 0) dX11_begin_1 (by decide) ?_
  replace e := z_bd e; obtain ⟨h3154, eh3154, e⟩ := e
  refine z_putV eh3154 lk_X11_248 wk_11_15 (fun _ => rfl) (fun _ => rfl) dX11_begin_2 ?_
  refine z_aload_n 0 dX11_begin_5 rfl ?_
  refine z_iconst (v := 0) dX11_begin_6 (by decide) ?_
  replace e := z_bd e; obtain ⟨h3155, eh3155, e⟩ := e
  refine z_putV eh3155 lk_X11_251 wk_11_19 (fun _ => (z_nz (Or.inl rfl)).1) (fun _ => (z_nz (Or.inl rfl)).2) dX11_begin_7 ?_
  refine z_aload_n 0 dX11_begin_10 rfl ?_
  refine z_iconst (v := -1) dX11_begin_11 (by decide) ?_
  replace e := z_bd e; obtain ⟨h3156, eh3156, e⟩ := e
  refine z_putV eh3156 lk_X11_38 wk_11_18 (fun _ => rfl) (fun _ => rfl) dX11_begin_12 ?_
  refine z_aload_n 0 dX11_begin_15 rfl ?_
  replace e := z_bd e; obtain ⟨o3158, eo3158, e⟩ := e
  replace e := z_bd e; obtain ⟨p3157, ep3157, e⟩ := e
  refine z_cV [] (S_X11_next  ep3157) eo3158 rfl ml_X11_255 ck_X11_next vk_X11_next dX11_begin_16 (by decide) rfl (Nat.zero_le _) rfl ?_
  cases e
  exact z_vret dX11_begin_19 rfl
theorem dX11_beginText_0 : decode cX11_beginText 0 = .ok (.aload_n 0, 1) := by decide +kernel
theorem dX11_beginText_1 : decode cX11_beginText 1 = .ok (.iload_n 1, 1) := by decide +kernel
theorem dX11_beginText_2 : decode cX11_beginText 2 = .ok (.putfield 324, 3) := by decide +kernel
theorem dX11_beginText_5 : decode cX11_beginText 5 = .ok (.aload_n 0, 1) := by decide +kernel
theorem dX11_beginText_6 : decode cX11_beginText 6 = .ok (.invokevirtual 375, 3) := by decide +kernel
theorem dX11_beginText_9 : decode cX11_beginText 9 = .ok (.aload_n 0, 1) := by decide +kernel
theorem dX11_beginText_10 : decode cX11_beginText 10 = .ok (.iconst 0, 1) := by decide +kernel
theorem dX11_beginText_11 : decode cX11_beginText 11 = .ok (.putfield 378, 3) := by decide +kernel
theorem dX11_beginText_14 : decode cX11_beginText 14 = .ok (.aload_n 0, 1) := by decide +kernel
theorem dX11_beginText_15 : decode cX11_beginText 15 = .ok (.iconst 0, 1) := by decide +kernel
theorem dX11_beginText_16 : decode cX11_beginText 16 = .ok (.putfield 288, 3) := by decide +kernel
theorem dX11_beginText_19 : decode cX11_beginText 19 = .ok (.aload_n 0, 1) := by decide +kernel
theorem dX11_beginText_20 : decode cX11_beginText 20 = .ok (.iconst 0, 1) := by decide +kernel
theorem dX11_beginText_21 : decode cX11_beginText 21 = .ok (.putfield 315, 3) := by decide +kernel
theorem dX11_beginText_24 : decode cX11_beginText 24 = .ok (.return_, 1) := by decide +kernel
def D_X11_beginText (h : z_H) (l0 : Option Nat) (l1 : Int32) : Option z_H :=
  if l1 = 0 ∨ l1 = 1 then
  (z_pV 11 h l0 20 (.int l1)).bind fun h3159 =>
  (z_ob 11 h3159 l0).bind fun _ =>
  (D_X11_begin  h3159 l0).bind fun p3161 =>
  (z_pV 11 p3161 l0 21 (.int (0:Int32))).bind fun h3163 =>
  (z_pV 11 h3163 l0 23 (.int (0:Int32))).bind fun h3164 =>
  (z_pV 11 h3164 l0 26 (.int (0:Int32))).bind fun h3165 =>
  some h3165
  else none
set_option maxRecDepth 100000 in
set_option maxHeartbeats 4000000 in
theorem S_X11_beginText {G : z_G} {l : Launch} {h : z_H} {l0 : Option Nat} {l1 : Int32} {res : z_H} (e : D_X11_beginText h l0 l1 = some res) : z_Meth G l 7 M_X11_beginText [z_r l0, .int l1] h res none := by
  refine z_Meth.of ck_X11_beginText.2.2.2.2 (by simp [lg_sl, z_ci, z_cj, z_cr, z_cx]) ck_X11_beginText.1 ?_
  rw [show lv_args 0 [z_r l0, .int l1] = [(0, z_r l0), (1, .int l1)] from by simp [lv_args, z_ci, z_cj, z_cr, z_cx]]
  unfold D_X11_beginText at e
  refine z_aload_n 0 dX11_beginText_0 rfl ?_
  refine z_iload_n 1 dX11_beginText_1 rfl ?_
  replace e := z_ifs e; obtain ⟨c3160, e⟩ := e
  replace e := z_bd e; obtain ⟨h3159, eh3159, e⟩ := e
  refine z_putV eh3159 lk_X11_324 wk_11_20 (fun _ => (z_nz c3160).1) (fun _ => (z_nz c3160).2) dX11_beginText_2 ?_
  refine z_aload_n 0 dX11_beginText_5 rfl ?_
  replace e := z_bd e; obtain ⟨o3162, eo3162, e⟩ := e
  replace e := z_bd e; obtain ⟨p3161, ep3161, e⟩ := e
  refine z_cV [] (S_X11_begin  ep3161) eo3162 rfl ml_X11_375 ck_X11_begin vk_X11_begin dX11_beginText_6 (by decide) rfl (Nat.zero_le _) rfl ?_
  refine z_aload_n 0 dX11_beginText_9 rfl ?_
  refine z_iconst (v := 0) dX11_beginText_10 (by decide) ?_
  replace e := z_bd e; obtain ⟨h3163, eh3163, e⟩ := e
  refine z_putV eh3163 lk_X11_378 wk_11_21 (fun _ => rfl) (fun _ => rfl) dX11_beginText_11 ?_
  refine z_aload_n 0 dX11_beginText_14 rfl ?_
  refine z_iconst (v := 0) dX11_beginText_15 (by decide) ?_
  replace e := z_bd e; obtain ⟨h3164, eh3164, e⟩ := e
  refine z_putV eh3164 lk_X11_288 wk_11_23 (fun _ => rfl) (fun _ => rfl) dX11_beginText_16 ?_
  refine z_aload_n 0 dX11_beginText_19 rfl ?_
  refine z_iconst (v := 0) dX11_beginText_20 (by decide) ?_
  replace e := z_bd e; obtain ⟨h3165, eh3165, e⟩ := e
  refine z_putV eh3165 lk_X11_315 wk_11_26 (fun _ => rfl) (fun _ => rfl) dX11_beginText_21 ?_
  cases e
  exact z_vret dX11_beginText_24 rfl
theorem dX11_isWord_0 : decode cX11_isWord 0 = .ok (.aload_n 0, 1) := by decide +kernel
theorem dX11_isWord_1 : decode cX11_isWord 1 = .ok (.getfield 271, 3) := by decide +kernel
theorem dX11_isWord_4 : decode cX11_isWord 4 = .ok (.iconst 1, 1) := by decide +kernel
theorem dX11_isWord_5 : decode cX11_isWord 5 = .ok (.if_icmp .ne 16, 3) := by decide +kernel
theorem dX11_isWord_8 : decode cX11_isWord 8 = .ok (.aload_n 0, 1) := by decide +kernel
theorem dX11_isWord_9 : decode cX11_isWord 9 = .ok (.getfield 261, 3) := by decide +kernel
theorem dX11_isWord_12 : decode cX11_isWord 12 = .ok (.lload_n 1, 1) := by decide +kernel
theorem dX11_isWord_13 : decode cX11_isWord 13 = .ok (.lcmp, 1) := by decide +kernel
theorem dX11_isWord_14 : decode cX11_isWord 14 = .ok (.ifCond .ne 7, 3) := by decide +kernel
theorem dX11_isWord_17 : decode cX11_isWord 17 = .ok (.iconst 1, 1) := by decide +kernel
theorem dX11_isWord_18 : decode cX11_isWord 18 = .ok (.goto 4, 3) := by decide +kernel
theorem dX11_isWord_21 : decode cX11_isWord 21 = .ok (.iconst 0, 1) := by decide +kernel
theorem dX11_isWord_22 : decode cX11_isWord 22 = .ok (.ireturn, 1) := by decide +kernel
def D_X11_isWord (h : z_H) (l0 : Option Nat) (l1 : Int64) : Option (Int32 × z_H) :=
  (z_gI 11 h l0 16).bind fun x3166 =>
  if x3166 = (1:Int32) then
    (z_gJ 11 h l0 17).bind fun x3168 =>
    if (lg_cmp x3168 l1) = 0 then
      some ((1:Int32), h)
    else
      some ((0:Int32), h)
  else
    some ((0:Int32), h)
set_option maxRecDepth 100000 in
set_option maxHeartbeats 4000000 in
theorem S_X11_isWord {G : z_G} {l : Launch} {h : z_H} {l0 : Option Nat} {l1 : Int64} {res : (Int32 × z_H)} (e : D_X11_isWord h l0 l1 = some res) : z_Meth G l 4 M_X11_isWord [z_r l0, .long l1] h res.2 (some (.int res.1)) := by
  refine z_Meth.of ck_X11_isWord.2.2.2.2 (by simp [lg_sl, z_ci, z_cj, z_cr, z_cx]) ck_X11_isWord.1 ?_
  rw [show lv_args 0 [z_r l0, .long l1] = [(0, z_r l0), (1, .long l1)] from by simp [lv_args, z_ci, z_cj, z_cr, z_cx]]
  unfold D_X11_isWord at e
  refine z_aload_n 0 dX11_isWord_0 rfl ?_
  replace e := z_bd e; obtain ⟨x3166, ex3166, e⟩ := e
  refine z_getI ex3166 lk_X11_271 dX11_isWord_1 ?_
  refine z_iconst (v := 1) dX11_isWord_4 (by decide) ?_
  refine z_icmp_ne (tgt := 21) dX11_isWord_5 (by decide) (fun c3167 => ?_) (fun c3167 => ?_)
  · rw [if_neg c3167] at e
    refine z_iconst (v := 0) dX11_isWord_21 (by decide) ?_
    cases e
    exact z_zret dX11_isWord_22 rfl (by decide)
  · rw [if_pos c3167] at e
    refine z_aload_n 0 dX11_isWord_8 rfl ?_
    replace e := z_bd e; obtain ⟨x3168, ex3168, e⟩ := e
    refine z_getJ ex3168 lk_X11_261 dX11_isWord_9 ?_
    refine z_lload_n 1 dX11_isWord_12 rfl ?_
    refine z_lcmp dX11_isWord_13 ?_
    refine z_if_ne (tgt := 21) dX11_isWord_14 (by decide) (fun c3169 => ?_) (fun c3169 => ?_)
    · rw [if_neg c3169] at e
      refine z_iconst (v := 0) dX11_isWord_21 (by decide) ?_
      cases e
      exact z_zret dX11_isWord_22 rfl (by decide)
    · rw [if_pos c3169] at e
      refine z_iconst (v := 1) dX11_isWord_17 (by decide) ?_
      refine z_goto (tgt := 22) dX11_isWord_18 (by decide) ?_
      cases e
      exact z_zret dX11_isWord_22 rfl (by decide)
theorem dX11_must_0 : decode cX11_must 0 = .ok (.aload_n 0, 1) := by decide +kernel
theorem dX11_must_1 : decode cX11_must 1 = .ok (.getfield 251, 3) := by decide +kernel
theorem dX11_must_4 : decode cX11_must 4 = .ok (.ifCond .ne 20, 3) := by decide +kernel
theorem dX11_must_7 : decode cX11_must 7 = .ok (.iload_n 1, 1) := by decide +kernel
theorem dX11_must_8 : decode cX11_must 8 = .ok (.ifCond .ne 16, 3) := by decide +kernel
theorem dX11_must_11 : decode cX11_must 11 = .ok (.aload_n 0, 1) := by decide +kernel
theorem dX11_must_12 : decode cX11_must 12 = .ok (.iconst 1, 1) := by decide +kernel
theorem dX11_must_13 : decode cX11_must 13 = .ok (.putfield 251, 3) := by decide +kernel
theorem dX11_must_16 : decode cX11_must 16 = .ok (.aload_n 0, 1) := by decide +kernel
theorem dX11_must_17 : decode cX11_must 17 = .ok (.aload_n 0, 1) := by decide +kernel
theorem dX11_must_18 : decode cX11_must 18 = .ok (.getfield 258, 3) := by decide +kernel
theorem dX11_must_21 : decode cX11_must 21 = .ok (.putfield 38, 3) := by decide +kernel
theorem dX11_must_24 : decode cX11_must 24 = .ok (.aload_n 0, 1) := by decide +kernel
theorem dX11_must_25 : decode cX11_must 25 = .ok (.getfield 251, 3) := by decide +kernel
theorem dX11_must_28 : decode cX11_must 28 = .ok (.ifCond .ne 7, 3) := by decide +kernel
theorem dX11_must_31 : decode cX11_must 31 = .ok (.aload_n 0, 1) := by decide +kernel
theorem dX11_must_32 : decode cX11_must 32 = .ok (.invokevirtual 255, 3) := by decide +kernel
theorem dX11_must_35 : decode cX11_must 35 = .ok (.return_, 1) := by decide +kernel
def D_X11_must_24 (h : z_H) (l0 : Option Nat) : Option z_H :=
  (z_gI 11 h l0 19).bind fun x3170 =>
  if x3170 = 0 then
    (z_ob 11 h l0).bind fun _ =>
    (D_X11_next  h l0).bind fun p3172 =>
    some p3172
  else
    some h
set_option maxRecDepth 100000 in
set_option maxHeartbeats 4000000 in
theorem S_X11_must_24 {G : z_G} {l : Launch}  {h : z_H} {l0 : Option Nat} {res : z_H} (e : D_X11_must_24  h l0 = some res) : z_Run G l 6 M_X11_must 24 [(0, z_r l0)] [] h res none := by
  unfold D_X11_must_24 at e
  refine z_aload_n 0 dX11_must_24 rfl ?_
  replace e := z_bd e; obtain ⟨x3170, ex3170, e⟩ := e
  refine z_getI ex3170 lk_X11_251 dX11_must_25 ?_
  refine z_if_ne (tgt := 35) dX11_must_28 (by decide) (fun c3171 => ?_) (fun c3171 => ?_)
  · rw [if_neg c3171] at e
    cases e
    exact z_vret dX11_must_35 rfl
  · rw [if_pos c3171] at e
    refine z_aload_n 0 dX11_must_31 rfl ?_
    replace e := z_bd e; obtain ⟨o3173, eo3173, e⟩ := e
    replace e := z_bd e; obtain ⟨p3172, ep3172, e⟩ := e
    refine z_cV [] (S_X11_next  ep3172) eo3173 rfl ml_X11_255 ck_X11_next vk_X11_next dX11_must_32 (by decide) rfl (Nat.zero_le _) rfl ?_
    cases e
    exact z_vret dX11_must_35 rfl
def D_X11_must (h : z_H) (l0 : Option Nat) (l1 : Int32) : Option z_H :=
  (z_gI 11 h l0 19).bind fun x3174 =>
  if x3174 = 0 then
    if l1 = 0 then
      (z_pV 11 h l0 19 (.int (1:Int32))).bind fun h3177 =>
      (z_gI 11 h3177 l0 14).bind fun x3178 =>
      (z_pV 11 h3177 l0 18 (.int x3178)).bind fun h3179 =>
      D_X11_must_24   h3179 l0
    else
      D_X11_must_24   h l0
  else
    D_X11_must_24   h l0
set_option maxRecDepth 100000 in
set_option maxHeartbeats 4000000 in
theorem S_X11_must {G : z_G} {l : Launch} {h : z_H} {l0 : Option Nat} {l1 : Int32} {res : z_H} (e : D_X11_must h l0 l1 = some res) : z_Meth G l 6 M_X11_must [z_r l0, .int l1] h res none := by
  refine z_Meth.of ck_X11_must.2.2.2.2 (by simp [lg_sl, z_ci, z_cj, z_cr, z_cx]) ck_X11_must.1 ?_
  rw [show lv_args 0 [z_r l0, .int l1] = [(0, z_r l0), (1, .int l1)] from by simp [lv_args, z_ci, z_cj, z_cr, z_cx]]
  unfold D_X11_must at e
  refine z_aload_n 0 dX11_must_0 rfl ?_
  replace e := z_bd e; obtain ⟨x3174, ex3174, e⟩ := e
  refine z_getI ex3174 lk_X11_251 dX11_must_1 ?_
  refine z_if_ne (tgt := 24) dX11_must_4 (by decide) (fun c3175 => ?_) (fun c3175 => ?_)
  · rw [if_neg c3175] at e
    exact z_weak [0] rfl (S_X11_must_24   e)
  · rw [if_pos c3175] at e
    refine z_iload_n 1 dX11_must_7 rfl ?_
    refine z_if_ne (tgt := 24) dX11_must_8 (by decide) (fun c3176 => ?_) (fun c3176 => ?_)
    · rw [if_neg c3176] at e
      exact z_weak [0] rfl (S_X11_must_24   e)
    · rw [if_pos c3176] at e
      refine z_aload_n 0 dX11_must_11 rfl ?_
      refine z_iconst (v := 1) dX11_must_12 (by decide) ?_
      replace e := z_bd e; obtain ⟨h3177, eh3177, e⟩ := e
      refine z_putV eh3177 lk_X11_251 wk_11_19 (fun _ => (z_nz (Or.inr rfl)).1) (fun _ => (z_nz (Or.inr rfl)).2) dX11_must_13 ?_
      refine z_aload_n 0 dX11_must_16 rfl ?_
      refine z_aload_n 0 dX11_must_17 rfl ?_
      replace e := z_bd e; obtain ⟨x3178, ex3178, e⟩ := e
      refine z_getI ex3178 lk_X11_258 dX11_must_18 ?_
      replace e := z_bd e; obtain ⟨h3179, eh3179, e⟩ := e
      refine z_putV eh3179 lk_X11_38 wk_11_18 (fun _ => rfl) (fun _ => rfl) dX11_must_21 ?_
      exact z_weak [0] rfl (S_X11_must_24   e)
theorem dX11_push_0 : decode cX11_push 0 = .ok (.aload_n 0, 1) := by decide +kernel
theorem dX11_push_1 : decode cX11_push 1 = .ok (.getfield 51, 3) := by decide +kernel
theorem dX11_push_4 : decode cX11_push 4 = .ok (.aload_n 0, 1) := by decide +kernel
theorem dX11_push_5 : decode cX11_push 5 = .ok (.getfield 291, 3) := by decide +kernel
theorem dX11_push_8 : decode cX11_push 8 = .ok (.iload_n 1, 1) := by decide +kernel
theorem dX11_push_9 : decode cX11_push 9 = .ok (.iastore, 1) := by decide +kernel
theorem dX11_push_10 : decode cX11_push 10 = .ok (.aload_n 0, 1) := by decide +kernel
theorem dX11_push_11 : decode cX11_push 11 = .ok (.getfield 54, 3) := by decide +kernel
theorem dX11_push_14 : decode cX11_push 14 = .ok (.aload_n 0, 1) := by decide +kernel
theorem dX11_push_15 : decode cX11_push 15 = .ok (.getfield 291, 3) := by decide +kernel
theorem dX11_push_18 : decode cX11_push 18 = .ok (.iload_n 2, 1) := by decide +kernel
theorem dX11_push_19 : decode cX11_push 19 = .ok (.iastore, 1) := by decide +kernel
theorem dX11_push_20 : decode cX11_push 20 = .ok (.aload_n 0, 1) := by decide +kernel
theorem dX11_push_21 : decode cX11_push 21 = .ok (.dup, 1) := by decide +kernel
theorem dX11_push_22 : decode cX11_push 22 = .ok (.getfield 291, 3) := by decide +kernel
theorem dX11_push_25 : decode cX11_push 25 = .ok (.iconst 1, 1) := by decide +kernel
theorem dX11_push_26 : decode cX11_push 26 = .ok (.iadd, 1) := by decide +kernel
theorem dX11_push_27 : decode cX11_push 27 = .ok (.putfield 291, 3) := by decide +kernel
theorem dX11_push_30 : decode cX11_push 30 = .ok (.return_, 1) := by decide +kernel
def D_X11_push (h : z_H) (l0 : Option Nat) (l1 : Int32) (l2 : Int32) : Option z_H :=
  (z_gQ 11 h l0 27).bind fun x3180 =>
  (z_gI 11 h l0 29).bind fun x3181 =>
  (z_sI h x3180 x3181 l1).bind fun h3182 =>
  (z_gQ 11 h3182 l0 28).bind fun x3183 =>
  (z_gI 11 h3182 l0 29).bind fun x3184 =>
  (z_sI h3182 x3183 x3184 l2).bind fun h3185 =>
  (z_gI 11 h3185 l0 29).bind fun x3186 =>
  (z_pV 11 h3185 l0 29 (.int (x3186 + (1:Int32)))).bind fun h3187 =>
  some h3187
set_option maxRecDepth 100000 in
set_option maxHeartbeats 4000000 in
theorem S_X11_push {G : z_G} {l : Launch} {h : z_H} {l0 : Option Nat} {l1 : Int32} {l2 : Int32} {res : z_H} (e : D_X11_push h l0 l1 l2 = some res) : z_Meth G l 4 M_X11_push [z_r l0, .int l1, .int l2] h res none := by
  refine z_Meth.of ck_X11_push.2.2.2.2 (by simp [lg_sl, z_ci, z_cj, z_cr, z_cx]) ck_X11_push.1 ?_
  rw [show lv_args 0 [z_r l0, .int l1, .int l2] = [(0, z_r l0), (1, .int l1), (2, .int l2)] from by simp [lv_args, z_ci, z_cj, z_cr, z_cx]]
  unfold D_X11_push at e
  refine z_aload_n 0 dX11_push_0 rfl ?_
  replace e := z_bd e; obtain ⟨x3180, ex3180, e⟩ := e
  refine z_getQ ex3180 lk_X11_51 dX11_push_1 ?_
  refine z_aload_n 0 dX11_push_4 rfl ?_
  replace e := z_bd e; obtain ⟨x3181, ex3181, e⟩ := e
  refine z_getI ex3181 lk_X11_291 dX11_push_5 ?_
  refine z_iload_n 1 dX11_push_8 rfl ?_
  replace e := z_bd e; obtain ⟨h3182, eh3182, e⟩ := e
  refine z_iast eh3182 dX11_push_9 ?_
  refine z_aload_n 0 dX11_push_10 rfl ?_
  replace e := z_bd e; obtain ⟨x3183, ex3183, e⟩ := e
  refine z_getQ ex3183 lk_X11_54 dX11_push_11 ?_
  refine z_aload_n 0 dX11_push_14 rfl ?_
  replace e := z_bd e; obtain ⟨x3184, ex3184, e⟩ := e
  refine z_getI ex3184 lk_X11_291 dX11_push_15 ?_
  refine z_iload_n 2 dX11_push_18 rfl ?_
  replace e := z_bd e; obtain ⟨h3185, eh3185, e⟩ := e
  refine z_iast eh3185 dX11_push_19 ?_
  refine z_aload_n 0 dX11_push_20 rfl ?_
  refine z_dup dX11_push_21 (z_cr _) ?_
  replace e := z_bd e; obtain ⟨x3186, ex3186, e⟩ := e
  refine z_getI ex3186 lk_X11_291 dX11_push_22 ?_
  refine z_iconst (v := 1) dX11_push_25 (by decide) ?_
  refine z_iadd dX11_push_26 ?_
  replace e := z_bd e; obtain ⟨h3187, eh3187, e⟩ := e
  refine z_putV eh3187 lk_X11_291 wk_11_29 (fun _ => rfl) (fun _ => rfl) dX11_push_27 ?_
  cases e
  exact z_vret dX11_push_30 rfl
theorem dX11_isSign_0 : decode cX11_isSign 0 = .ok (.aload_n 0, 1) := by decide +kernel
theorem dX11_isSign_1 : decode cX11_isSign 1 = .ok (.getfield 271, 3) := by decide +kernel
theorem dX11_isSign_4 : decode cX11_isSign 4 = .ok (.iconst 3, 1) := by decide +kernel
theorem dX11_isSign_5 : decode cX11_isSign 5 = .ok (.if_icmp .ne 17, 3) := by decide +kernel
theorem dX11_isSign_8 : decode cX11_isSign 8 = .ok (.aload_n 0, 1) := by decide +kernel
theorem dX11_isSign_9 : decode cX11_isSign 9 = .ok (.getfield 261, 3) := by decide +kernel
theorem dX11_isSign_12 : decode cX11_isSign 12 = .ok (.iload_n 1, 1) := by decide +kernel
theorem dX11_isSign_13 : decode cX11_isSign 13 = .ok (.i2l, 1) := by decide +kernel
theorem dX11_isSign_14 : decode cX11_isSign 14 = .ok (.lcmp, 1) := by decide +kernel
theorem dX11_isSign_15 : decode cX11_isSign 15 = .ok (.ifCond .ne 7, 3) := by decide +kernel
theorem dX11_isSign_18 : decode cX11_isSign 18 = .ok (.iconst 1, 1) := by decide +kernel
theorem dX11_isSign_19 : decode cX11_isSign 19 = .ok (.goto 4, 3) := by decide +kernel
theorem dX11_isSign_22 : decode cX11_isSign 22 = .ok (.iconst 0, 1) := by decide +kernel
theorem dX11_isSign_23 : decode cX11_isSign 23 = .ok (.ireturn, 1) := by decide +kernel
def D_X11_isSign (h : z_H) (l0 : Option Nat) (l1 : Int32) : Option (Int32 × z_H) :=
  (z_gI 11 h l0 16).bind fun x3188 =>
  if x3188 = (3:Int32) then
    (z_gJ 11 h l0 17).bind fun x3190 =>
    if (lg_cmp x3190 (Int32.toInt64 l1)) = 0 then
      some ((1:Int32), h)
    else
      some ((0:Int32), h)
  else
    some ((0:Int32), h)
set_option maxRecDepth 100000 in
set_option maxHeartbeats 4000000 in
theorem S_X11_isSign {G : z_G} {l : Launch} {h : z_H} {l0 : Option Nat} {l1 : Int32} {res : (Int32 × z_H)} (e : D_X11_isSign h l0 l1 = some res) : z_Meth G l 4 M_X11_isSign [z_r l0, .int l1] h res.2 (some (.int res.1)) := by
  refine z_Meth.of ck_X11_isSign.2.2.2.2 (by simp [lg_sl, z_ci, z_cj, z_cr, z_cx]) ck_X11_isSign.1 ?_
  rw [show lv_args 0 [z_r l0, .int l1] = [(0, z_r l0), (1, .int l1)] from by simp [lv_args, z_ci, z_cj, z_cr, z_cx]]
  unfold D_X11_isSign at e
  refine z_aload_n 0 dX11_isSign_0 rfl ?_
  replace e := z_bd e; obtain ⟨x3188, ex3188, e⟩ := e
  refine z_getI ex3188 lk_X11_271 dX11_isSign_1 ?_
  refine z_iconst (v := 3) dX11_isSign_4 (by decide) ?_
  refine z_icmp_ne (tgt := 22) dX11_isSign_5 (by decide) (fun c3189 => ?_) (fun c3189 => ?_)
  · rw [if_neg c3189] at e
    refine z_iconst (v := 0) dX11_isSign_22 (by decide) ?_
    cases e
    exact z_zret dX11_isSign_23 rfl (by decide)
  · rw [if_pos c3189] at e
    refine z_aload_n 0 dX11_isSign_8 rfl ?_
    replace e := z_bd e; obtain ⟨x3190, ex3190, e⟩ := e
    refine z_getJ ex3190 lk_X11_261 dX11_isSign_9 ?_
    refine z_iload_n 1 dX11_isSign_12 rfl ?_
    refine z_i2l dX11_isSign_13 ?_
    refine z_lcmp dX11_isSign_14 ?_
    refine z_if_ne (tgt := 22) dX11_isSign_15 (by decide) (fun c3191 => ?_) (fun c3191 => ?_)
    · rw [if_neg c3191] at e
      refine z_iconst (v := 0) dX11_isSign_22 (by decide) ?_
      cases e
      exact z_zret dX11_isSign_23 rfl (by decide)
    · rw [if_pos c3191] at e
      refine z_iconst (v := 1) dX11_isSign_18 (by decide) ?_
      refine z_goto (tgt := 23) dX11_isSign_19 (by decide) ?_
      cases e
      exact z_zret dX11_isSign_23 rfl (by decide)
theorem dX11_openBracket_0 : decode cX11_openBracket 0 = .ok (.aload_n 0, 1) := by decide +kernel
theorem dX11_openBracket_1 : decode cX11_openBracket 1 = .ok (.aload_n 0, 1) := by decide +kernel
theorem dX11_openBracket_2 : decode cX11_openBracket 2 = .ok (.getfield 309, 3) := by decide +kernel
theorem dX11_openBracket_5 : decode cX11_openBracket 5 = .ok (.bipush 8, 2) := by decide +kernel
theorem dX11_openBracket_7 : decode cX11_openBracket 7 = .ok (.if_icmp .ge 7, 3) := by decide +kernel
theorem dX11_openBracket_10 : decode cX11_openBracket 10 = .ok (.iconst 1, 1) := by decide +kernel
theorem dX11_openBracket_11 : decode cX11_openBracket 11 = .ok (.goto 4, 3) := by decide +kernel
theorem dX11_openBracket_14 : decode cX11_openBracket 14 = .ok (.iconst 0, 1) := by decide +kernel
theorem dX11_openBracket_15 : decode cX11_openBracket 15 = .ok (.invokevirtual 284, 3) := by decide +kernel
theorem dX11_openBracket_18 : decode cX11_openBracket 18 = .ok (.aload_n 0, 1) := by decide +kernel
theorem dX11_openBracket_19 : decode cX11_openBracket 19 = .ok (.getfield 251, 3) := by decide +kernel
theorem dX11_openBracket_22 : decode cX11_openBracket 22 = .ok (.ifCond .ne 19, 3) := by decide +kernel
theorem dX11_openBracket_25 : decode cX11_openBracket 25 = .ok (.aload_n 0, 1) := by decide +kernel
theorem dX11_openBracket_26 : decode cX11_openBracket 26 = .ok (.dup, 1) := by decide +kernel
theorem dX11_openBracket_27 : decode cX11_openBracket 27 = .ok (.getfield 309, 3) := by decide +kernel
theorem dX11_openBracket_30 : decode cX11_openBracket 30 = .ok (.iconst 1, 1) := by decide +kernel
theorem dX11_openBracket_31 : decode cX11_openBracket 31 = .ok (.iadd, 1) := by decide +kernel
theorem dX11_openBracket_32 : decode cX11_openBracket 32 = .ok (.putfield 309, 3) := by decide +kernel
theorem dX11_openBracket_35 : decode cX11_openBracket 35 = .ok (.aload_n 0, 1) := by decide +kernel
theorem dX11_openBracket_36 : decode cX11_openBracket 36 = .ok (.iload_n 1, 1) := by decide +kernel
theorem dX11_openBracket_37 : decode cX11_openBracket 37 = .ok (.iconst 0, 1) := by decide +kernel
theorem dX11_openBracket_38 : decode cX11_openBracket 38 = .ok (.invokevirtual 312, 3) := by decide +kernel
theorem dX11_openBracket_41 : decode cX11_openBracket 41 = .ok (.return_, 1) := by decide +kernel
def D_X11_openBracket_15 (h : z_H) (l0 : Option Nat) (l1 : Int32) (s0 : Option Nat) (s1 : Int32) : Option z_H :=
  (z_ob 11 h s0).bind fun _ =>
  (D_X11_must  h s0 s1).bind fun p3192 =>
  (z_gI 11 p3192 l0 19).bind fun x3194 =>
  if x3194 = 0 then
    (z_gI 11 p3192 l0 30).bind fun x3196 =>
    (z_pV 11 p3192 l0 30 (.int (x3196 + (1:Int32)))).bind fun h3197 =>
    (z_ob 11 h3197 l0).bind fun _ =>
    (D_X11_push  h3197 l0 l1 (0:Int32)).bind fun p3198 =>
    some p3198
  else
    some p3192
set_option maxRecDepth 100000 in
set_option maxHeartbeats 4000000 in
theorem S_X11_openBracket_15 {G : z_G} {l : Launch}  {h : z_H} {l0 : Option Nat} {l1 : Int32} {s0 : Option Nat} {s1 : Int32} {res : z_H} (e : D_X11_openBracket_15  h l0 l1 s0 s1 = some res) : z_Run G l 7 M_X11_openBracket 15 [(0, z_r l0), (1, .int l1)] [.int s1, z_r s0] h res none := by
  unfold D_X11_openBracket_15 at e
  replace e := z_bd e; obtain ⟨o3193, eo3193, e⟩ := e
  replace e := z_bd e; obtain ⟨p3192, ep3192, e⟩ := e
  refine z_cV [.int s1] (S_X11_must  ep3192) eo3193 rfl ml_X11_284 ck_X11_must vk_X11_must dX11_openBracket_15 (by decide) rfl (Nat.zero_le _) rfl ?_
  refine z_aload_n 0 dX11_openBracket_18 rfl ?_
  replace e := z_bd e; obtain ⟨x3194, ex3194, e⟩ := e
  refine z_getI ex3194 lk_X11_251 dX11_openBracket_19 ?_
  refine z_if_ne (tgt := 41) dX11_openBracket_22 (by decide) (fun c3195 => ?_) (fun c3195 => ?_)
  · rw [if_neg c3195] at e
    cases e
    exact z_vret dX11_openBracket_41 rfl
  · rw [if_pos c3195] at e
    refine z_aload_n 0 dX11_openBracket_25 rfl ?_
    refine z_dup dX11_openBracket_26 (z_cr _) ?_
    replace e := z_bd e; obtain ⟨x3196, ex3196, e⟩ := e
    refine z_getI ex3196 lk_X11_309 dX11_openBracket_27 ?_
    refine z_iconst (v := 1) dX11_openBracket_30 (by decide) ?_
    refine z_iadd dX11_openBracket_31 ?_
    replace e := z_bd e; obtain ⟨h3197, eh3197, e⟩ := e
    refine z_putV eh3197 lk_X11_309 wk_11_30 (fun _ => rfl) (fun _ => rfl) dX11_openBracket_32 ?_
    refine z_aload_n 0 dX11_openBracket_35 rfl ?_
    refine z_iload_n 1 dX11_openBracket_36 rfl ?_
    refine z_iconst (v := 0) dX11_openBracket_37 (by decide) ?_
    replace e := z_bd e; obtain ⟨o3199, eo3199, e⟩ := e
    replace e := z_bd e; obtain ⟨p3198, ep3198, e⟩ := e
    refine z_cV [.int l1, .int (0:Int32)] (S_X11_push  ep3198) eo3199 rfl ml_X11_312 ck_X11_push vk_X11_push dX11_openBracket_38 (by decide) rfl (Nat.zero_le _) rfl ?_
    cases e
    exact z_vret dX11_openBracket_41 rfl
def D_X11_openBracket (h : z_H) (l0 : Option Nat) (l1 : Int32) : Option z_H :=
  (z_gI 11 h l0 30).bind fun x3200 =>
  if (8:Int32) ≤ x3200 then
    D_X11_openBracket_15   h l0 l1 l0 (0:Int32)
  else
    D_X11_openBracket_15   h l0 l1 l0 (1:Int32)
set_option maxRecDepth 100000 in
set_option maxHeartbeats 4000000 in
theorem S_X11_openBracket {G : z_G} {l : Launch} {h : z_H} {l0 : Option Nat} {l1 : Int32} {res : z_H} (e : D_X11_openBracket h l0 l1 = some res) : z_Meth G l 7 M_X11_openBracket [z_r l0, .int l1] h res none := by
  refine z_Meth.of ck_X11_openBracket.2.2.2.2 (by simp [lg_sl, z_ci, z_cj, z_cr, z_cx]) ck_X11_openBracket.1 ?_
  rw [show lv_args 0 [z_r l0, .int l1] = [(0, z_r l0), (1, .int l1)] from by simp [lv_args, z_ci, z_cj, z_cr, z_cx]]
  unfold D_X11_openBracket at e
  refine z_aload_n 0 dX11_openBracket_0 rfl ?_
  refine z_aload_n 0 dX11_openBracket_1 rfl ?_
  replace e := z_bd e; obtain ⟨x3200, ex3200, e⟩ := e
  refine z_getI ex3200 lk_X11_309 dX11_openBracket_2 ?_
  refine z_bipush (v := 8) dX11_openBracket_5 (by decide) ?_
  refine z_icmp_ge (tgt := 14) dX11_openBracket_7 (by decide) (fun c3201 => ?_) (fun c3201 => ?_)
  · rw [if_pos c3201] at e
    refine z_iconst (v := 0) dX11_openBracket_14 (by decide) ?_
    exact z_weak [0, 1] rfl (S_X11_openBracket_15   e)
  · rw [if_neg c3201] at e
    refine z_iconst (v := 1) dX11_openBracket_10 (by decide) ?_
    refine z_goto (tgt := 15) dX11_openBracket_11 (by decide) ?_
    exact z_weak [0, 1] rfl (S_X11_openBracket_15   e)
theorem dX11_orderPartAt_0 : decode cX11_orderPartAt 0 = .ok (.iconst (-1), 1) := by decide +kernel
theorem dX11_orderPartAt_1 : decode cX11_orderPartAt 1 = .ok (.istore_n 1, 1) := by decide +kernel
theorem dX11_orderPartAt_2 : decode cX11_orderPartAt 2 = .ok (.iconst 0, 1) := by decide +kernel
theorem dX11_orderPartAt_3 : decode cX11_orderPartAt 3 = .ok (.istore_n 2, 1) := by decide +kernel
theorem dX11_orderPartAt_4 : decode cX11_orderPartAt 4 = .ok (.iload_n 2, 1) := by decide +kernel
theorem dX11_orderPartAt_5 : decode cX11_orderPartAt 5 = .ok (.bipush 8, 2) := by decide +kernel
theorem dX11_orderPartAt_7 : decode cX11_orderPartAt 7 = .ok (.if_icmp .ge 30, 3) := by decide +kernel
theorem dX11_orderPartAt_10 : decode cX11_orderPartAt 10 = .ok (.aload_n 0, 1) := by decide +kernel
theorem dX11_orderPartAt_11 : decode cX11_orderPartAt 11 = .ok (.aload_n 0, 1) := by decide +kernel
theorem dX11_orderPartAt_12 : decode cX11_orderPartAt 12 = .ok (.getfield 93, 3) := by decide +kernel
theorem dX11_orderPartAt_15 : decode cX11_orderPartAt 15 = .ok (.iload_n 2, 1) := by decide +kernel
theorem dX11_orderPartAt_16 : decode cX11_orderPartAt 16 = .ok (.laload, 1) := by decide +kernel
theorem dX11_orderPartAt_17 : decode cX11_orderPartAt 17 = .ok (.invokevirtual 305, 3) := by decide +kernel
theorem dX11_orderPartAt_20 : decode cX11_orderPartAt 20 = .ok (.ifCond .eq 9, 3) := by decide +kernel
theorem dX11_orderPartAt_23 : decode cX11_orderPartAt 23 = .ok (.iload_n 2, 1) := by decide +kernel
theorem dX11_orderPartAt_24 : decode cX11_orderPartAt 24 = .ok (.iconst 1, 1) := by decide +kernel
theorem dX11_orderPartAt_25 : decode cX11_orderPartAt 25 = .ok (.iadd, 1) := by decide +kernel
theorem dX11_orderPartAt_26 : decode cX11_orderPartAt 26 = .ok (.goto 4, 3) := by decide +kernel
theorem dX11_orderPartAt_29 : decode cX11_orderPartAt 29 = .ok (.iload_n 1, 1) := by decide +kernel
theorem dX11_orderPartAt_30 : decode cX11_orderPartAt 30 = .ok (.istore_n 1, 1) := by decide +kernel
theorem dX11_orderPartAt_31 : decode cX11_orderPartAt 31 = .ok (.iinc 2 1, 3) := by decide +kernel
theorem dX11_orderPartAt_34 : decode cX11_orderPartAt 34 = .ok (.goto (-30), 3) := by decide +kernel
theorem dX11_orderPartAt_37 : decode cX11_orderPartAt 37 = .ok (.iload_n 1, 1) := by decide +kernel
theorem dX11_orderPartAt_38 : decode cX11_orderPartAt 38 = .ok (.ireturn, 1) := by decide +kernel
def D_X11_orderPartAt_30 (k4 : z_H → Option Nat → Int32 → Int32 → Option (Int32 × z_H)) (h : z_H) (l0 : Option Nat) (l2 : Int32) (s0 : Int32) : Option (Int32 × z_H) :=
  (some (l2 + (1:Int32))).bind fun x3202 =>
  k4 h l0 s0 x3202
set_option maxRecDepth 100000 in
set_option maxHeartbeats 4000000 in
theorem S_X11_orderPartAt_30 {G : z_G} {l : Launch} {k4 : z_H → Option Nat → Int32 → Int32 → Option (Int32 × z_H)} (hk4 : ∀ {h : z_H} {l0 : Option Nat} {l1 : Int32} {l2 : Int32} {res : (Int32 × z_H)}, k4 h l0 l1 l2 = some res → z_Run G l 5 M_X11_orderPartAt 4 [(0, z_r l0), (1, .int l1), (2, .int l2)] [] h res.2 (some (.int res.1))) {h : z_H} {l0 : Option Nat} {l2 : Int32} {s0 : Int32} {res : (Int32 × z_H)} (e : D_X11_orderPartAt_30 k4 h l0 l2 s0 = some res) : z_Run G l 5 M_X11_orderPartAt 30 [(0, z_r l0), (2, .int l2)] [.int s0] h res.2 (some (.int res.1)) := by
  unfold D_X11_orderPartAt_30 at e
  refine z_istore_n (L' := [(1, .int s0), (0, z_r l0), (2, .int l2)]) dX11_orderPartAt_30 rfl (by decide) (by simp [z_cr]) ?_
  replace e := z_bd e; obtain ⟨x3202, ex3202, e⟩ := e
  refine z_iinc (q := 2) (v := x3202) (L' := [(2, .int x3202), (1, .int s0), (0, z_r l0)]) dX11_orderPartAt_31 rfl (Option.some.inj ex3202) (by decide) rfl ?_
  refine z_goto (tgt := 4) dX11_orderPartAt_34 (by decide) ?_
  exact z_weak [2, 1, 0] rfl (hk4 e)
def D_X11_orderPartAt_4b (k4 : z_H → Option Nat → Int32 → Int32 → Option (Int32 × z_H)) (h : z_H) (l0 : Option Nat) (l1 : Int32) (l2 : Int32) : Option (Int32 × z_H) :=
  if (8:Int32) ≤ l2 then
    some (l1, h)
  else
    (z_gQ 11 h l0 32).bind fun x3204 =>
    (z_aJ h x3204 l2).bind fun x3205 =>
    (z_ob 11 h l0).bind fun _ =>
    (D_X11_isWord  h l0 x3205).bind fun p3206 =>
    if p3206.1 = 0 then
      D_X11_orderPartAt_30  k4 p3206.2 l0 l2 l1
    else
      D_X11_orderPartAt_30  k4 p3206.2 l0 l2 (l2 + (1:Int32))
def D_X11_orderPartAt_4 (n : Nat) : z_H → Option Nat → Int32 → Int32 → Option (Int32 × z_H) := Nat.rec (motive := fun _ => z_H → Option Nat → Int32 → Int32 → Option (Int32 × z_H)) (fun _ _ _ _ => none) (fun _ k => D_X11_orderPartAt_4b  k) n
set_option maxRecDepth 100000 in
set_option maxHeartbeats 4000000 in
theorem S_X11_orderPartAt_4 {G : z_G} {l : Launch}  (n : Nat) : ∀ {h : z_H} {l0 : Option Nat} {l1 : Int32} {l2 : Int32} {res : (Int32 × z_H)}, D_X11_orderPartAt_4  n h l0 l1 l2 = some res → z_Run G l 5 M_X11_orderPartAt 4 [(0, z_r l0), (1, .int l1), (2, .int l2)] [] h res.2 (some (.int res.1)) := by
  induction n with
  | zero => intro h l0 l1 l2 res e; cases e
  | succ n hk4 =>
    intro h l0 l1 l2 res e
    replace e : D_X11_orderPartAt_4b  (D_X11_orderPartAt_4  n) h l0 l1 l2 = some res := e
    unfold D_X11_orderPartAt_4b at e
    refine z_iload_n 2 dX11_orderPartAt_4 rfl ?_
    refine z_bipush (v := 8) dX11_orderPartAt_5 (by decide) ?_
    refine z_icmp_ge (tgt := 37) dX11_orderPartAt_7 (by decide) (fun c3203 => ?_) (fun c3203 => ?_)
    · rw [if_pos c3203] at e
      refine z_iload_n 1 dX11_orderPartAt_37 rfl ?_
      cases e
      exact z_iret dX11_orderPartAt_38 rfl
    · rw [if_neg c3203] at e
      refine z_aload_n 0 dX11_orderPartAt_10 rfl ?_
      refine z_aload_n 0 dX11_orderPartAt_11 rfl ?_
      replace e := z_bd e; obtain ⟨x3204, ex3204, e⟩ := e
      refine z_getQ ex3204 lk_X11_93 dX11_orderPartAt_12 ?_
      refine z_iload_n 2 dX11_orderPartAt_15 rfl ?_
      replace e := z_bd e; obtain ⟨x3205, ex3205, e⟩ := e
      refine z_lald ex3205 dX11_orderPartAt_16 ?_
      replace e := z_bd e; obtain ⟨o3207, eo3207, e⟩ := e
      replace e := z_bd e; obtain ⟨p3206, ep3206, e⟩ := e
      refine z_cV [.long x3205] (S_X11_isWord  ep3206) eo3207 rfl ml_X11_305 ck_X11_isWord vk_X11_isWord dX11_orderPartAt_17 (by decide) rfl (Nat.zero_le _) rfl ?_
      refine z_if_eq (tgt := 29) dX11_orderPartAt_20 (by decide) (fun c3208 => ?_) (fun c3208 => ?_)
      · rw [if_pos c3208] at e
        refine z_iload_n 1 dX11_orderPartAt_29 rfl ?_
        exact z_weak [0, 2] rfl (S_X11_orderPartAt_30  @hk4 e)
      · rw [if_neg c3208] at e
        refine z_iload_n 2 dX11_orderPartAt_23 rfl ?_
        refine z_iconst (v := 1) dX11_orderPartAt_24 (by decide) ?_
        refine z_iadd dX11_orderPartAt_25 ?_
        refine z_goto (tgt := 30) dX11_orderPartAt_26 (by decide) ?_
        exact z_weak [0, 2] rfl (S_X11_orderPartAt_30  @hk4 e)
def D_X11_orderPartAt (h : z_H) (l0 : Option Nat) : Option (Int32 × z_H) :=
  D_X11_orderPartAt_4   z_F h l0 (-1:Int32) (0:Int32)
set_option maxRecDepth 100000 in
set_option maxHeartbeats 4000000 in
theorem S_X11_orderPartAt {G : z_G} {l : Launch} {h : z_H} {l0 : Option Nat} {res : (Int32 × z_H)} (e : D_X11_orderPartAt h l0 = some res) : z_Meth G l 5 M_X11_orderPartAt [z_r l0] h res.2 (some (.int res.1)) := by
  refine z_Meth.of ck_X11_orderPartAt.2.2.2.2 (by simp [lg_sl, z_ci, z_cj, z_cr, z_cx]) ck_X11_orderPartAt.1 ?_
  rw [show lv_args 0 [z_r l0] = [(0, z_r l0)] from by simp [lv_args, z_ci, z_cj, z_cr, z_cx]]
  unfold D_X11_orderPartAt at e
  refine z_iconst (v := -1) dX11_orderPartAt_0 (by decide) ?_
  refine z_istore_n (L' := [(1, .int (-1:Int32)), (0, z_r l0)]) dX11_orderPartAt_1 rfl (by decide) (by simp [z_cr]) ?_
  refine z_iconst (v := 0) dX11_orderPartAt_2 (by decide) ?_
  refine z_istore_n (L' := [(2, .int (0:Int32)), (1, .int (-1:Int32)), (0, z_r l0)]) dX11_orderPartAt_3 rfl (by decide) rfl ?_
  exact z_weak [2, 1, 0] rfl (S_X11_orderPartAt_4   z_F e)
theorem dX11_partAt_0 : decode cX11_partAt 0 = .ok (.iconst (-1), 1) := by decide +kernel
theorem dX11_partAt_1 : decode cX11_partAt 1 = .ok (.istore_n 1, 1) := by decide +kernel
theorem dX11_partAt_2 : decode cX11_partAt 2 = .ok (.iconst 0, 1) := by decide +kernel
theorem dX11_partAt_3 : decode cX11_partAt 3 = .ok (.istore_n 2, 1) := by decide +kernel
theorem dX11_partAt_4 : decode cX11_partAt 4 = .ok (.iload_n 2, 1) := by decide +kernel
theorem dX11_partAt_5 : decode cX11_partAt 5 = .ok (.bipush 9, 2) := by decide +kernel
theorem dX11_partAt_7 : decode cX11_partAt 7 = .ok (.if_icmp .ge 30, 3) := by decide +kernel
theorem dX11_partAt_10 : decode cX11_partAt 10 = .ok (.aload_n 0, 1) := by decide +kernel
theorem dX11_partAt_11 : decode cX11_partAt 11 = .ok (.aload_n 0, 1) := by decide +kernel
theorem dX11_partAt_12 : decode cX11_partAt 12 = .ok (.getfield 75, 3) := by decide +kernel
theorem dX11_partAt_15 : decode cX11_partAt 15 = .ok (.iload_n 2, 1) := by decide +kernel
theorem dX11_partAt_16 : decode cX11_partAt 16 = .ok (.laload, 1) := by decide +kernel
theorem dX11_partAt_17 : decode cX11_partAt 17 = .ok (.invokevirtual 305, 3) := by decide +kernel
theorem dX11_partAt_20 : decode cX11_partAt 20 = .ok (.ifCond .eq 9, 3) := by decide +kernel
theorem dX11_partAt_23 : decode cX11_partAt 23 = .ok (.iload_n 2, 1) := by decide +kernel
theorem dX11_partAt_24 : decode cX11_partAt 24 = .ok (.iconst 1, 1) := by decide +kernel
theorem dX11_partAt_25 : decode cX11_partAt 25 = .ok (.iadd, 1) := by decide +kernel
theorem dX11_partAt_26 : decode cX11_partAt 26 = .ok (.goto 4, 3) := by decide +kernel
theorem dX11_partAt_29 : decode cX11_partAt 29 = .ok (.iload_n 1, 1) := by decide +kernel
theorem dX11_partAt_30 : decode cX11_partAt 30 = .ok (.istore_n 1, 1) := by decide +kernel
theorem dX11_partAt_31 : decode cX11_partAt 31 = .ok (.iinc 2 1, 3) := by decide +kernel
theorem dX11_partAt_34 : decode cX11_partAt 34 = .ok (.goto (-30), 3) := by decide +kernel
theorem dX11_partAt_37 : decode cX11_partAt 37 = .ok (.iload_n 1, 1) := by decide +kernel
theorem dX11_partAt_38 : decode cX11_partAt 38 = .ok (.ireturn, 1) := by decide +kernel
def D_X11_partAt_30 (k4 : z_H → Option Nat → Int32 → Int32 → Option (Int32 × z_H)) (h : z_H) (l0 : Option Nat) (l2 : Int32) (s0 : Int32) : Option (Int32 × z_H) :=
  (some (l2 + (1:Int32))).bind fun x3209 =>
  k4 h l0 s0 x3209
set_option maxRecDepth 100000 in
set_option maxHeartbeats 4000000 in
theorem S_X11_partAt_30 {G : z_G} {l : Launch} {k4 : z_H → Option Nat → Int32 → Int32 → Option (Int32 × z_H)} (hk4 : ∀ {h : z_H} {l0 : Option Nat} {l1 : Int32} {l2 : Int32} {res : (Int32 × z_H)}, k4 h l0 l1 l2 = some res → z_Run G l 5 M_X11_partAt 4 [(0, z_r l0), (1, .int l1), (2, .int l2)] [] h res.2 (some (.int res.1))) {h : z_H} {l0 : Option Nat} {l2 : Int32} {s0 : Int32} {res : (Int32 × z_H)} (e : D_X11_partAt_30 k4 h l0 l2 s0 = some res) : z_Run G l 5 M_X11_partAt 30 [(0, z_r l0), (2, .int l2)] [.int s0] h res.2 (some (.int res.1)) := by
  unfold D_X11_partAt_30 at e
  refine z_istore_n (L' := [(1, .int s0), (0, z_r l0), (2, .int l2)]) dX11_partAt_30 rfl (by decide) (by simp [z_cr]) ?_
  replace e := z_bd e; obtain ⟨x3209, ex3209, e⟩ := e
  refine z_iinc (q := 2) (v := x3209) (L' := [(2, .int x3209), (1, .int s0), (0, z_r l0)]) dX11_partAt_31 rfl (Option.some.inj ex3209) (by decide) rfl ?_
  refine z_goto (tgt := 4) dX11_partAt_34 (by decide) ?_
  exact z_weak [2, 1, 0] rfl (hk4 e)
def D_X11_partAt_4b (k4 : z_H → Option Nat → Int32 → Int32 → Option (Int32 × z_H)) (h : z_H) (l0 : Option Nat) (l1 : Int32) (l2 : Int32) : Option (Int32 × z_H) :=
  if (9:Int32) ≤ l2 then
    some (l1, h)
  else
    (z_gQ 11 h l0 31).bind fun x3211 =>
    (z_aJ h x3211 l2).bind fun x3212 =>
    (z_ob 11 h l0).bind fun _ =>
    (D_X11_isWord  h l0 x3212).bind fun p3213 =>
    if p3213.1 = 0 then
      D_X11_partAt_30  k4 p3213.2 l0 l2 l1
    else
      D_X11_partAt_30  k4 p3213.2 l0 l2 (l2 + (1:Int32))
def D_X11_partAt_4 (n : Nat) : z_H → Option Nat → Int32 → Int32 → Option (Int32 × z_H) := Nat.rec (motive := fun _ => z_H → Option Nat → Int32 → Int32 → Option (Int32 × z_H)) (fun _ _ _ _ => none) (fun _ k => D_X11_partAt_4b  k) n
set_option maxRecDepth 100000 in
set_option maxHeartbeats 4000000 in
theorem S_X11_partAt_4 {G : z_G} {l : Launch}  (n : Nat) : ∀ {h : z_H} {l0 : Option Nat} {l1 : Int32} {l2 : Int32} {res : (Int32 × z_H)}, D_X11_partAt_4  n h l0 l1 l2 = some res → z_Run G l 5 M_X11_partAt 4 [(0, z_r l0), (1, .int l1), (2, .int l2)] [] h res.2 (some (.int res.1)) := by
  induction n with
  | zero => intro h l0 l1 l2 res e; cases e
  | succ n hk4 =>
    intro h l0 l1 l2 res e
    replace e : D_X11_partAt_4b  (D_X11_partAt_4  n) h l0 l1 l2 = some res := e
    unfold D_X11_partAt_4b at e
    refine z_iload_n 2 dX11_partAt_4 rfl ?_
    refine z_bipush (v := 9) dX11_partAt_5 (by decide) ?_
    refine z_icmp_ge (tgt := 37) dX11_partAt_7 (by decide) (fun c3210 => ?_) (fun c3210 => ?_)
    · rw [if_pos c3210] at e
      refine z_iload_n 1 dX11_partAt_37 rfl ?_
      cases e
      exact z_iret dX11_partAt_38 rfl
    · rw [if_neg c3210] at e
      refine z_aload_n 0 dX11_partAt_10 rfl ?_
      refine z_aload_n 0 dX11_partAt_11 rfl ?_
      replace e := z_bd e; obtain ⟨x3211, ex3211, e⟩ := e
      refine z_getQ ex3211 lk_X11_75 dX11_partAt_12 ?_
      refine z_iload_n 2 dX11_partAt_15 rfl ?_
      replace e := z_bd e; obtain ⟨x3212, ex3212, e⟩ := e
      refine z_lald ex3212 dX11_partAt_16 ?_
      replace e := z_bd e; obtain ⟨o3214, eo3214, e⟩ := e
      replace e := z_bd e; obtain ⟨p3213, ep3213, e⟩ := e
      refine z_cV [.long x3212] (S_X11_isWord  ep3213) eo3214 rfl ml_X11_305 ck_X11_isWord vk_X11_isWord dX11_partAt_17 (by decide) rfl (Nat.zero_le _) rfl ?_
      refine z_if_eq (tgt := 29) dX11_partAt_20 (by decide) (fun c3215 => ?_) (fun c3215 => ?_)
      · rw [if_pos c3215] at e
        refine z_iload_n 1 dX11_partAt_29 rfl ?_
        exact z_weak [0, 2] rfl (S_X11_partAt_30  @hk4 e)
      · rw [if_neg c3215] at e
        refine z_iload_n 2 dX11_partAt_23 rfl ?_
        refine z_iconst (v := 1) dX11_partAt_24 (by decide) ?_
        refine z_iadd dX11_partAt_25 ?_
        refine z_goto (tgt := 30) dX11_partAt_26 (by decide) ?_
        exact z_weak [0, 2] rfl (S_X11_partAt_30  @hk4 e)
def D_X11_partAt (h : z_H) (l0 : Option Nat) : Option (Int32 × z_H) :=
  D_X11_partAt_4   z_F h l0 (-1:Int32) (0:Int32)
set_option maxRecDepth 100000 in
set_option maxHeartbeats 4000000 in
theorem S_X11_partAt {G : z_G} {l : Launch} {h : z_H} {l0 : Option Nat} {res : (Int32 × z_H)} (e : D_X11_partAt h l0 = some res) : z_Meth G l 5 M_X11_partAt [z_r l0] h res.2 (some (.int res.1)) := by
  refine z_Meth.of ck_X11_partAt.2.2.2.2 (by simp [lg_sl, z_ci, z_cj, z_cr, z_cx]) ck_X11_partAt.1 ?_
  rw [show lv_args 0 [z_r l0] = [(0, z_r l0)] from by simp [lv_args, z_ci, z_cj, z_cr, z_cx]]
  unfold D_X11_partAt at e
  refine z_iconst (v := -1) dX11_partAt_0 (by decide) ?_
  refine z_istore_n (L' := [(1, .int (-1:Int32)), (0, z_r l0)]) dX11_partAt_1 rfl (by decide) (by simp [z_cr]) ?_
  refine z_iconst (v := 0) dX11_partAt_2 (by decide) ?_
  refine z_istore_n (L' := [(2, .int (0:Int32)), (1, .int (-1:Int32)), (0, z_r l0)]) dX11_partAt_3 rfl (by decide) rfl ?_
  exact z_weak [2, 1, 0] rfl (S_X11_partAt_4   z_F e)
theorem dX11_emit_0 : decode cX11_emit 0 = .ok (.aload_n 0, 1) := by decide +kernel
theorem dX11_emit_1 : decode cX11_emit 1 = .ok (.getfield 45, 3) := by decide +kernel
theorem dX11_emit_4 : decode cX11_emit 4 = .ok (.aload_n 0, 1) := by decide +kernel
theorem dX11_emit_5 : decode cX11_emit 5 = .ok (.getfield 288, 3) := by decide +kernel
theorem dX11_emit_8 : decode cX11_emit 8 = .ok (.iload_n 1, 1) := by decide +kernel
theorem dX11_emit_9 : decode cX11_emit 9 = .ok (.iastore, 1) := by decide +kernel
theorem dX11_emit_10 : decode cX11_emit 10 = .ok (.aload_n 0, 1) := by decide +kernel
theorem dX11_emit_11 : decode cX11_emit 11 = .ok (.getfield 48, 3) := by decide +kernel
theorem dX11_emit_14 : decode cX11_emit 14 = .ok (.aload_n 0, 1) := by decide +kernel
theorem dX11_emit_15 : decode cX11_emit 15 = .ok (.getfield 288, 3) := by decide +kernel
theorem dX11_emit_18 : decode cX11_emit 18 = .ok (.iload_n 2, 1) := by decide +kernel
theorem dX11_emit_19 : decode cX11_emit 19 = .ok (.iastore, 1) := by decide +kernel
theorem dX11_emit_20 : decode cX11_emit 20 = .ok (.aload_n 0, 1) := by decide +kernel
theorem dX11_emit_21 : decode cX11_emit 21 = .ok (.dup, 1) := by decide +kernel
theorem dX11_emit_22 : decode cX11_emit 22 = .ok (.getfield 288, 3) := by decide +kernel
theorem dX11_emit_25 : decode cX11_emit 25 = .ok (.iconst 1, 1) := by decide +kernel
theorem dX11_emit_26 : decode cX11_emit 26 = .ok (.iadd, 1) := by decide +kernel
theorem dX11_emit_27 : decode cX11_emit 27 = .ok (.putfield 288, 3) := by decide +kernel
theorem dX11_emit_30 : decode cX11_emit 30 = .ok (.return_, 1) := by decide +kernel
def D_X11_emit (h : z_H) (l0 : Option Nat) (l1 : Int32) (l2 : Int32) : Option z_H :=
  (z_gQ 11 h l0 24).bind fun x3216 =>
  (z_gI 11 h l0 23).bind fun x3217 =>
  (z_sI h x3216 x3217 l1).bind fun h3218 =>
  (z_gQ 11 h3218 l0 25).bind fun x3219 =>
  (z_gI 11 h3218 l0 23).bind fun x3220 =>
  (z_sI h3218 x3219 x3220 l2).bind fun h3221 =>
  (z_gI 11 h3221 l0 23).bind fun x3222 =>
  (z_pV 11 h3221 l0 23 (.int (x3222 + (1:Int32)))).bind fun h3223 =>
  some h3223
set_option maxRecDepth 100000 in
set_option maxHeartbeats 4000000 in
theorem S_X11_emit {G : z_G} {l : Launch} {h : z_H} {l0 : Option Nat} {l1 : Int32} {l2 : Int32} {res : z_H} (e : D_X11_emit h l0 l1 l2 = some res) : z_Meth G l 4 M_X11_emit [z_r l0, .int l1, .int l2] h res none := by
  refine z_Meth.of ck_X11_emit.2.2.2.2 (by simp [lg_sl, z_ci, z_cj, z_cr, z_cx]) ck_X11_emit.1 ?_
  rw [show lv_args 0 [z_r l0, .int l1, .int l2] = [(0, z_r l0), (1, .int l1), (2, .int l2)] from by simp [lv_args, z_ci, z_cj, z_cr, z_cx]]
  unfold D_X11_emit at e
  refine z_aload_n 0 dX11_emit_0 rfl ?_
  replace e := z_bd e; obtain ⟨x3216, ex3216, e⟩ := e
  refine z_getQ ex3216 lk_X11_45 dX11_emit_1 ?_
  refine z_aload_n 0 dX11_emit_4 rfl ?_
  replace e := z_bd e; obtain ⟨x3217, ex3217, e⟩ := e
  refine z_getI ex3217 lk_X11_288 dX11_emit_5 ?_
  refine z_iload_n 1 dX11_emit_8 rfl ?_
  replace e := z_bd e; obtain ⟨h3218, eh3218, e⟩ := e
  refine z_iast eh3218 dX11_emit_9 ?_
  refine z_aload_n 0 dX11_emit_10 rfl ?_
  replace e := z_bd e; obtain ⟨x3219, ex3219, e⟩ := e
  refine z_getQ ex3219 lk_X11_48 dX11_emit_11 ?_
  refine z_aload_n 0 dX11_emit_14 rfl ?_
  replace e := z_bd e; obtain ⟨x3220, ex3220, e⟩ := e
  refine z_getI ex3220 lk_X11_288 dX11_emit_15 ?_
  refine z_iload_n 2 dX11_emit_18 rfl ?_
  replace e := z_bd e; obtain ⟨h3221, eh3221, e⟩ := e
  refine z_iast eh3221 dX11_emit_19 ?_
  refine z_aload_n 0 dX11_emit_20 rfl ?_
  refine z_dup dX11_emit_21 (z_cr _) ?_
  replace e := z_bd e; obtain ⟨x3222, ex3222, e⟩ := e
  refine z_getI ex3222 lk_X11_288 dX11_emit_22 ?_
  refine z_iconst (v := 1) dX11_emit_25 (by decide) ?_
  refine z_iadd dX11_emit_26 ?_
  replace e := z_bd e; obtain ⟨h3223, eh3223, e⟩ := e
  refine z_putV eh3223 lk_X11_288 wk_11_23 (fun _ => rfl) (fun _ => rfl) dX11_emit_27 ?_
  cases e
  exact z_vret dX11_emit_30 rfl
theorem dX11_leaf_0 : decode cX11_leaf 0 = .ok (.aload_n 0, 1) := by decide +kernel
theorem dX11_leaf_1 : decode cX11_leaf 1 = .ok (.iload_n 1, 1) := by decide +kernel
theorem dX11_leaf_2 : decode cX11_leaf 2 = .ok (.ifCond .eq 16, 3) := by decide +kernel
theorem dX11_leaf_5 : decode cX11_leaf 5 = .ok (.aload_n 0, 1) := by decide +kernel
theorem dX11_leaf_6 : decode cX11_leaf 6 = .ok (.getfield 315, 3) := by decide +kernel
theorem dX11_leaf_9 : decode cX11_leaf 9 = .ok (.bipush 50, 2) := by decide +kernel
theorem dX11_leaf_11 : decode cX11_leaf 11 = .ok (.if_icmp .ge 7, 3) := by decide +kernel
theorem dX11_leaf_14 : decode cX11_leaf 14 = .ok (.iconst 1, 1) := by decide +kernel
theorem dX11_leaf_15 : decode cX11_leaf 15 = .ok (.goto 4, 3) := by decide +kernel
theorem dX11_leaf_18 : decode cX11_leaf 18 = .ok (.iconst 0, 1) := by decide +kernel
theorem dX11_leaf_19 : decode cX11_leaf 19 = .ok (.invokevirtual 284, 3) := by decide +kernel
theorem dX11_leaf_22 : decode cX11_leaf 22 = .ok (.aload_n 0, 1) := by decide +kernel
theorem dX11_leaf_23 : decode cX11_leaf 23 = .ok (.getfield 251, 3) := by decide +kernel
theorem dX11_leaf_26 : decode cX11_leaf 26 = .ok (.ifCond .ne 19, 3) := by decide +kernel
theorem dX11_leaf_29 : decode cX11_leaf 29 = .ok (.aload_n 0, 1) := by decide +kernel
theorem dX11_leaf_30 : decode cX11_leaf 30 = .ok (.iload_n 2, 1) := by decide +kernel
theorem dX11_leaf_31 : decode cX11_leaf 31 = .ok (.iload_n 3, 1) := by decide +kernel
theorem dX11_leaf_32 : decode cX11_leaf 32 = .ok (.invokevirtual 297, 3) := by decide +kernel
theorem dX11_leaf_35 : decode cX11_leaf 35 = .ok (.aload_n 0, 1) := by decide +kernel
theorem dX11_leaf_36 : decode cX11_leaf 36 = .ok (.dup, 1) := by decide +kernel
theorem dX11_leaf_37 : decode cX11_leaf 37 = .ok (.getfield 315, 3) := by decide +kernel
theorem dX11_leaf_40 : decode cX11_leaf 40 = .ok (.iconst 1, 1) := by decide +kernel
theorem dX11_leaf_41 : decode cX11_leaf 41 = .ok (.iadd, 1) := by decide +kernel
theorem dX11_leaf_42 : decode cX11_leaf 42 = .ok (.putfield 315, 3) := by decide +kernel
theorem dX11_leaf_45 : decode cX11_leaf 45 = .ok (.return_, 1) := by decide +kernel
def D_X11_leaf_19 (h : z_H) (l0 : Option Nat) (l2 : Int32) (l3 : Int32) (s0 : Option Nat) (s1 : Int32) : Option z_H :=
  (z_ob 11 h s0).bind fun _ =>
  (D_X11_must  h s0 s1).bind fun p3224 =>
  (z_gI 11 p3224 l0 19).bind fun x3226 =>
  if x3226 = 0 then
    (z_ob 11 p3224 l0).bind fun _ =>
    (D_X11_emit  p3224 l0 l2 l3).bind fun p3228 =>
    (z_gI 11 p3228 l0 26).bind fun x3230 =>
    (z_pV 11 p3228 l0 26 (.int (x3230 + (1:Int32)))).bind fun h3231 =>
    some h3231
  else
    some p3224
set_option maxRecDepth 100000 in
set_option maxHeartbeats 4000000 in
theorem S_X11_leaf_19 {G : z_G} {l : Launch}  {h : z_H} {l0 : Option Nat} {l2 : Int32} {l3 : Int32} {s0 : Option Nat} {s1 : Int32} {res : z_H} (e : D_X11_leaf_19  h l0 l2 l3 s0 s1 = some res) : z_Run G l 7 M_X11_leaf 19 [(0, z_r l0), (2, .int l2), (3, .int l3)] [.int s1, z_r s0] h res none := by
  unfold D_X11_leaf_19 at e
  replace e := z_bd e; obtain ⟨o3225, eo3225, e⟩ := e
  replace e := z_bd e; obtain ⟨p3224, ep3224, e⟩ := e
  refine z_cV [.int s1] (S_X11_must  ep3224) eo3225 rfl ml_X11_284 ck_X11_must vk_X11_must dX11_leaf_19 (by decide) rfl (Nat.zero_le _) rfl ?_
  refine z_aload_n 0 dX11_leaf_22 rfl ?_
  replace e := z_bd e; obtain ⟨x3226, ex3226, e⟩ := e
  refine z_getI ex3226 lk_X11_251 dX11_leaf_23 ?_
  refine z_if_ne (tgt := 45) dX11_leaf_26 (by decide) (fun c3227 => ?_) (fun c3227 => ?_)
  · rw [if_neg c3227] at e
    cases e
    exact z_vret dX11_leaf_45 rfl
  · rw [if_pos c3227] at e
    refine z_aload_n 0 dX11_leaf_29 rfl ?_
    refine z_iload_n 1 dX11_leaf_30 rfl ?_
    refine z_iload_n 2 dX11_leaf_31 rfl ?_
    replace e := z_bd e; obtain ⟨o3229, eo3229, e⟩ := e
    replace e := z_bd e; obtain ⟨p3228, ep3228, e⟩ := e
    refine z_cV [.int l2, .int l3] (S_X11_emit  ep3228) eo3229 rfl ml_X11_297 ck_X11_emit vk_X11_emit dX11_leaf_32 (by decide) rfl (Nat.zero_le _) rfl ?_
    refine z_aload_n 0 dX11_leaf_35 rfl ?_
    refine z_dup dX11_leaf_36 (z_cr _) ?_
    replace e := z_bd e; obtain ⟨x3230, ex3230, e⟩ := e
    refine z_getI ex3230 lk_X11_315 dX11_leaf_37 ?_
    refine z_iconst (v := 1) dX11_leaf_40 (by decide) ?_
    refine z_iadd dX11_leaf_41 ?_
    replace e := z_bd e; obtain ⟨h3231, eh3231, e⟩ := e
    refine z_putV eh3231 lk_X11_315 wk_11_26 (fun _ => rfl) (fun _ => rfl) dX11_leaf_42 ?_
    cases e
    exact z_vret dX11_leaf_45 rfl
def D_X11_leaf_18 (h : z_H) (l0 : Option Nat) (l2 : Int32) (l3 : Int32) (s0 : Option Nat) : Option z_H :=
  D_X11_leaf_19   h l0 l2 l3 s0 (0:Int32)
set_option maxRecDepth 100000 in
set_option maxHeartbeats 4000000 in
theorem S_X11_leaf_18 {G : z_G} {l : Launch}  {h : z_H} {l0 : Option Nat} {l2 : Int32} {l3 : Int32} {s0 : Option Nat} {res : z_H} (e : D_X11_leaf_18  h l0 l2 l3 s0 = some res) : z_Run G l 7 M_X11_leaf 18 [(0, z_r l0), (2, .int l2), (3, .int l3)] [z_r s0] h res none := by
  unfold D_X11_leaf_18 at e
  refine z_iconst (v := 0) dX11_leaf_18 (by decide) ?_
  exact z_weak [0, 1, 2] rfl (S_X11_leaf_19   e)
def D_X11_leaf (h : z_H) (l0 : Option Nat) (l1 : Int32) (l2 : Int32) (l3 : Int32) : Option z_H :=
  if l1 = 0 then
    D_X11_leaf_18   h l0 l2 l3 l0
  else
    (z_gI 11 h l0 26).bind fun x3233 =>
    if (50:Int32) ≤ x3233 then
      D_X11_leaf_18   h l0 l2 l3 l0
    else
      D_X11_leaf_19   h l0 l2 l3 l0 (1:Int32)
set_option maxRecDepth 100000 in
set_option maxHeartbeats 4000000 in
theorem S_X11_leaf {G : z_G} {l : Launch} {h : z_H} {l0 : Option Nat} {l1 : Int32} {l2 : Int32} {l3 : Int32} {res : z_H} (e : D_X11_leaf h l0 l1 l2 l3 = some res) : z_Meth G l 7 M_X11_leaf [z_r l0, .int l1, .int l2, .int l3] h res none := by
  refine z_Meth.of ck_X11_leaf.2.2.2.2 (by simp [lg_sl, z_ci, z_cj, z_cr, z_cx]) ck_X11_leaf.1 ?_
  rw [show lv_args 0 [z_r l0, .int l1, .int l2, .int l3] = [(0, z_r l0), (1, .int l1), (2, .int l2), (3, .int l3)] from by simp [lv_args, z_ci, z_cj, z_cr, z_cx]]
  unfold D_X11_leaf at e
  refine z_aload_n 0 dX11_leaf_0 rfl ?_
  refine z_iload_n 1 dX11_leaf_1 rfl ?_
  refine z_if_eq (tgt := 18) dX11_leaf_2 (by decide) (fun c3232 => ?_) (fun c3232 => ?_)
  · rw [if_pos c3232] at e
    exact z_weak [0, 2, 3] rfl (S_X11_leaf_18   e)
  · rw [if_neg c3232] at e
    refine z_aload_n 0 dX11_leaf_5 rfl ?_
    replace e := z_bd e; obtain ⟨x3233, ex3233, e⟩ := e
    refine z_getI ex3233 lk_X11_315 dX11_leaf_6 ?_
    refine z_bipush (v := 50) dX11_leaf_9 (by decide) ?_
    refine z_icmp_ge (tgt := 18) dX11_leaf_11 (by decide) (fun c3234 => ?_) (fun c3234 => ?_)
    · rw [if_pos c3234] at e
      exact z_weak [0, 2, 3] rfl (S_X11_leaf_18   e)
    · rw [if_neg c3234] at e
      refine z_iconst (v := 1) dX11_leaf_14 (by decide) ?_
      refine z_goto (tgt := 19) dX11_leaf_15 (by decide) ?_
      exact z_weak [0, 2, 3] rfl (S_X11_leaf_19   e)
theorem dX11_number_0 : decode cX11_number 0 = .ok (.aload_n 0, 1) := by decide +kernel
theorem dX11_number_1 : decode cX11_number 1 = .ok (.getfield 261, 3) := by decide +kernel
theorem dX11_number_4 : decode cX11_number 4 = .ok (.l2i, 1) := by decide +kernel
theorem dX11_number_5 : decode cX11_number 5 = .ok (.istore 5, 2) := by decide +kernel
theorem dX11_number_7 : decode cX11_number 7 = .ok (.aload_n 0, 1) := by decide +kernel
theorem dX11_number_8 : decode cX11_number 8 = .ok (.aload_n 0, 1) := by decide +kernel
theorem dX11_number_9 : decode cX11_number 9 = .ok (.getfield 271, 3) := by decide +kernel
theorem dX11_number_12 : decode cX11_number 12 = .ok (.iconst 2, 1) := by decide +kernel
theorem dX11_number_13 : decode cX11_number 13 = .ok (.if_icmp .ne 19, 3) := by decide +kernel
theorem dX11_number_16 : decode cX11_number 16 = .ok (.aload_n 0, 1) := by decide +kernel
theorem dX11_number_17 : decode cX11_number 17 = .ok (.getfield 261, 3) := by decide +kernel
theorem dX11_number_20 : decode cX11_number 20 = .ok (.lload_n 1, 1) := by decide +kernel
theorem dX11_number_21 : decode cX11_number 21 = .ok (.lload_n 3, 1) := by decide +kernel
theorem dX11_number_22 : decode cX11_number 22 = .ok (.invokestatic 186, 3) := by decide +kernel
theorem dX11_number_25 : decode cX11_number 25 = .ok (.ifCond .eq 7, 3) := by decide +kernel
theorem dX11_number_28 : decode cX11_number 28 = .ok (.iconst 1, 1) := by decide +kernel
theorem dX11_number_29 : decode cX11_number 29 = .ok (.goto 4, 3) := by decide +kernel
theorem dX11_number_32 : decode cX11_number 32 = .ok (.iconst 0, 1) := by decide +kernel
theorem dX11_number_33 : decode cX11_number 33 = .ok (.invokevirtual 284, 3) := by decide +kernel
theorem dX11_number_36 : decode cX11_number 36 = .ok (.iload 5, 2) := by decide +kernel
theorem dX11_number_38 : decode cX11_number 38 = .ok (.ireturn, 1) := by decide +kernel
def D_X11_number_33 (h : z_H) (l5 : Int32) (s0 : Option Nat) (s1 : Int32) : Option (Int32 × z_H) :=
  (z_ob 11 h s0).bind fun _ =>
  (D_X11_must  h s0 s1).bind fun p3235 =>
  some (l5, p3235)
set_option maxRecDepth 100000 in
set_option maxHeartbeats 4000000 in
theorem S_X11_number_33 {G : z_G} {l : Launch}  {h : z_H} {l5 : Int32} {s0 : Option Nat} {s1 : Int32} {res : (Int32 × z_H)} (e : D_X11_number_33  h l5 s0 s1 = some res) : z_Run G l 7 M_X11_number 33 [(5, .int l5)] [.int s1, z_r s0] h res.2 (some (.int res.1)) := by
  unfold D_X11_number_33 at e
  replace e := z_bd e; obtain ⟨o3236, eo3236, e⟩ := e
  replace e := z_bd e; obtain ⟨p3235, ep3235, e⟩ := e
  refine z_cV [.int s1] (S_X11_must  ep3235) eo3236 rfl ml_X11_284 ck_X11_must vk_X11_must dX11_number_33 (by decide) rfl (Nat.zero_le _) rfl ?_
  refine z_iload 0 dX11_number_36 rfl ?_
  cases e
  exact z_iret dX11_number_38 rfl
def D_X11_number_32 (h : z_H) (l5 : Int32) (s0 : Option Nat) : Option (Int32 × z_H) :=
  D_X11_number_33   h l5 s0 (0:Int32)
set_option maxRecDepth 100000 in
set_option maxHeartbeats 4000000 in
theorem S_X11_number_32 {G : z_G} {l : Launch}  {h : z_H} {l5 : Int32} {s0 : Option Nat} {res : (Int32 × z_H)} (e : D_X11_number_32  h l5 s0 = some res) : z_Run G l 7 M_X11_number 32 [(5, .int l5)] [z_r s0] h res.2 (some (.int res.1)) := by
  unfold D_X11_number_32 at e
  refine z_iconst (v := 0) dX11_number_32 (by decide) ?_
  exact z_weak [0] rfl (S_X11_number_33   e)
def D_X11_number (h : z_H) (l0 : Option Nat) (l1 : Int64) (l3 : Int64) : Option (Int32 × z_H) :=
  (z_gJ 11 h l0 17).bind fun x3237 =>
  (some (Int64.toInt32 x3237)).bind fun x3238 =>
  (z_gI 11 h l0 16).bind fun x3239 =>
  if x3239 = (2:Int32) then
    (z_gJ 11 h l0 17).bind fun x3241 =>
    (D_X11_in  h x3241 l1 l3).bind fun p3242 =>
    if p3242.1 = 0 then
      D_X11_number_32   p3242.2 x3238 l0
    else
      D_X11_number_33   p3242.2 x3238 l0 (1:Int32)
  else
    D_X11_number_32   h x3238 l0
set_option maxRecDepth 100000 in
set_option maxHeartbeats 4000000 in
theorem S_X11_number {G : z_G} {l : Launch} {h : z_H} {l0 : Option Nat} {l1 : Int64} {l3 : Int64} {res : (Int32 × z_H)} (e : D_X11_number h l0 l1 l3 = some res) : z_Meth G l 7 M_X11_number [z_r l0, .long l1, .long l3] h res.2 (some (.int res.1)) := by
  refine z_Meth.of ck_X11_number.2.2.2.2 (by simp [lg_sl, z_ci, z_cj, z_cr, z_cx]) ck_X11_number.1 ?_
  rw [show lv_args 0 [z_r l0, .long l1, .long l3] = [(0, z_r l0), (1, .long l1), (3, .long l3)] from by simp [lv_args, z_ci, z_cj, z_cr, z_cx]]
  unfold D_X11_number at e
  refine z_aload_n 0 dX11_number_0 rfl ?_
  replace e := z_bd e; obtain ⟨x3237, ex3237, e⟩ := e
  refine z_getJ ex3237 lk_X11_261 dX11_number_1 ?_
  refine z_l2i dX11_number_4 ?_
  replace e := z_bd e; obtain ⟨x3238, ex3238, e⟩ := e
  refine z_topI ex3238 ?_
  refine z_istore (L' := [(5, .int x3238), (0, z_r l0), (1, .long l1), (3, .long l3)]) dX11_number_5 (by decide) rfl ?_
  refine z_aload_n 1 dX11_number_7 rfl ?_
  refine z_aload_n 1 dX11_number_8 rfl ?_
  replace e := z_bd e; obtain ⟨x3239, ex3239, e⟩ := e
  refine z_getI ex3239 lk_X11_271 dX11_number_9 ?_
  refine z_iconst (v := 2) dX11_number_12 (by decide) ?_
  refine z_icmp_ne (tgt := 32) dX11_number_13 (by decide) (fun c3240 => ?_) (fun c3240 => ?_)
  · rw [if_neg c3240] at e
    exact z_weak [0] rfl (S_X11_number_32   e)
  · rw [if_pos c3240] at e
    refine z_aload_n 1 dX11_number_16 rfl ?_
    replace e := z_bd e; obtain ⟨x3241, ex3241, e⟩ := e
    refine z_getJ ex3241 lk_X11_261 dX11_number_17 ?_
    refine z_lload_n 2 dX11_number_20 rfl ?_
    refine z_lload_n 3 dX11_number_21 rfl ?_
    replace e := z_bd e; obtain ⟨p3242, ep3242, e⟩ := e
    refine z_cS [.long x3241, .long l1, .long l3] (S_X11_in  ep3242) ml_X11_186 ck_X11_in st_X11_in dX11_number_22 (by decide) rfl (by simp [z_ci, z_cj, z_cr, z_cx]) rfl ?_
    refine z_if_eq (tgt := 32) dX11_number_25 (by decide) (fun c3243 => ?_) (fun c3243 => ?_)
    · rw [if_pos c3243] at e
      exact z_weak [0] rfl (S_X11_number_32   e)
    · rw [if_neg c3243] at e
      refine z_iconst (v := 1) dX11_number_28 (by decide) ?_
      refine z_goto (tgt := 33) dX11_number_29 (by decide) ?_
      exact z_weak [0] rfl (S_X11_number_33   e)
