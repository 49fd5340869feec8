section ZR
variable {G : z_G} {l : Launch} {d : Nat} {M : z_M} {pc : Nat} {L : List (Nat × Value)} {S : List Value} {h hF : z_H} {r : Option Value}
theorem z_iadd {x y : Int32} (hd : decode M.2.1 pc = .ok (.iadd, 1))  (k : z_Run G l d M (pc + 1) L (.int (x + y) :: S) h hF r) : z_Run G l d M pc L (.int y :: .int x :: S) h hF r := z_pure (fun C _ k => lv_iadd C.1 C.2.1 hd k) k
theorem z_isub {x y : Int32} (hd : decode M.2.1 pc = .ok (.isub, 1))  (k : z_Run G l d M (pc + 1) L (.int (x - y) :: S) h hF r) : z_Run G l d M pc L (.int y :: .int x :: S) h hF r := z_pure (fun C _ k => lv_isub C.1 C.2.1 hd k) k
theorem z_imul {x y : Int32} (hd : decode M.2.1 pc = .ok (.imul, 1))  (k : z_Run G l d M (pc + 1) L (.int (x * y) :: S) h hF r) : z_Run G l d M pc L (.int y :: .int x :: S) h hF r := z_pure (fun C _ k => lv_imul C.1 C.2.1 hd k) k
theorem z_iand {x y : Int32} (hd : decode M.2.1 pc = .ok (.iand, 1))  (k : z_Run G l d M (pc + 1) L (.int (x &&& y) :: S) h hF r) : z_Run G l d M pc L (.int y :: .int x :: S) h hF r := z_pure (fun C _ k => lv_iand C.1 C.2.1 hd k) k
theorem z_ior {x y : Int32} (hd : decode M.2.1 pc = .ok (.ior, 1))  (k : z_Run G l d M (pc + 1) L (.int (x ||| y) :: S) h hF r) : z_Run G l d M pc L (.int y :: .int x :: S) h hF r := z_pure (fun C _ k => lv_ior C.1 C.2.1 hd k) k
theorem z_ixor {x y : Int32} (hd : decode M.2.1 pc = .ok (.ixor, 1))  (k : z_Run G l d M (pc + 1) L (.int (x ^^^ y) :: S) h hF r) : z_Run G l d M pc L (.int y :: .int x :: S) h hF r := z_pure (fun C _ k => lv_ixor C.1 C.2.1 hd k) k
theorem z_ishl {x y : Int32} (hd : decode M.2.1 pc = .ok (.ishl, 1))  (k : z_Run G l d M (pc + 1) L (.int (x <<< (y &&& 31)) :: S) h hF r) : z_Run G l d M pc L (.int y :: .int x :: S) h hF r := z_pure (fun C _ k => lv_ishl C.1 C.2.1 hd k) k
theorem z_ishr {x y : Int32} (hd : decode M.2.1 pc = .ok (.ishr, 1))  (k : z_Run G l d M (pc + 1) L (.int (x >>> (y &&& 31)) :: S) h hF r) : z_Run G l d M pc L (.int y :: .int x :: S) h hF r := z_pure (fun C _ k => lv_ishr C.1 C.2.1 hd k) k
theorem z_iushr {x y : Int32} (hd : decode M.2.1 pc = .ok (.iushr, 1))  (k : z_Run G l d M (pc + 1) L (.int ((x.toUInt32 >>> (y.toUInt32 &&& Int32.toUInt32 31)).toInt32) :: S) h hF r) : z_Run G l d M pc L (.int y :: .int x :: S) h hF r := z_pure (fun C _ k => lv_iushr C.1 C.2.1 hd rfl k) k
theorem z_idiv {x y : Int32} (hd : decode M.2.1 pc = .ok (.idiv, 1)) (hne : ¬ y = 0) (k : z_Run G l d M (pc + 1) L (.int (x / y) :: S) h hF r) : z_Run G l d M pc L (.int y :: .int x :: S) h hF r := z_pure (fun C _ k => lv_idiv C.1 C.2.1 hd hne k) k
theorem z_irem {x y : Int32} (hd : decode M.2.1 pc = .ok (.irem, 1)) (hne : ¬ y = 0) (k : z_Run G l d M (pc + 1) L (.int (x - x / y * y) :: S) h hF r) : z_Run G l d M pc L (.int y :: .int x :: S) h hF r := z_pure (fun C _ k => lv_irem C.1 C.2.1 hd hne k) k
theorem z_ineg {x : Int32} (hd : decode M.2.1 pc = .ok (.ineg, 1))  (k : z_Run G l d M (pc + 1) L (.int (-x) :: S) h hF r) : z_Run G l d M pc L (.int x :: S) h hF r := z_pure (fun C _ k => lv_ineg C.1 C.2.1 hd k) k
theorem z_ladd {x y : Int64} (hd : decode M.2.1 pc = .ok (.ladd, 1))  (k : z_Run G l d M (pc + 1) L (.long (x + y) :: S) h hF r) : z_Run G l d M pc L (.long y :: .long x :: S) h hF r := z_pure (fun C _ k => lv_ladd C.1 C.2.1 hd k) k
theorem z_lsub {x y : Int64} (hd : decode M.2.1 pc = .ok (.lsub, 1))  (k : z_Run G l d M (pc + 1) L (.long (x - y) :: S) h hF r) : z_Run G l d M pc L (.long y :: .long x :: S) h hF r := z_pure (fun C _ k => lv_lsub C.1 C.2.1 hd k) k
theorem z_lmul {x y : Int64} (hd : decode M.2.1 pc = .ok (.lmul, 1))  (k : z_Run G l d M (pc + 1) L (.long (x * y) :: S) h hF r) : z_Run G l d M pc L (.long y :: .long x :: S) h hF r := z_pure (fun C _ k => lv_lmul C.1 C.2.1 hd k) k
theorem z_ldiv {x y : Int64} (hd : decode M.2.1 pc = .ok (.ldiv, 1)) (hne : ¬ y = 0) (k : z_Run G l d M (pc + 1) L (.long (x / y) :: S) h hF r) : z_Run G l d M pc L (.long y :: .long x :: S) h hF r := z_pure (fun C _ k => lv_ldiv C.1 C.2.1 hd hne k) k
theorem z_lrem {x y : Int64} (hd : decode M.2.1 pc = .ok (.lrem, 1)) (hne : ¬ y = 0) (k : z_Run G l d M (pc + 1) L (.long (x - x / y * y) :: S) h hF r) : z_Run G l d M pc L (.long y :: .long x :: S) h hF r := z_pure (fun C _ k => lv_lrem C.1 C.2.1 hd hne k) k
theorem z_i2l {x : Int32} (hd : decode M.2.1 pc = .ok (.i2l, 1))  (k : z_Run G l d M (pc + 1) L (.long (x.toInt64) :: S) h hF r) : z_Run G l d M pc L (.int x :: S) h hF r := z_pure (fun C _ k => lv_i2l C.1 C.2.1 hd rfl k) k
theorem z_l2i {x : Int64} (hd : decode M.2.1 pc = .ok (.l2i, 1))  (k : z_Run G l d M (pc + 1) L (.int (x.toInt32) :: S) h hF r) : z_Run G l d M pc L (.long x :: S) h hF r := z_pure (fun C _ k => lv_l2i C.1 C.2.1 hd rfl k) k
theorem z_lcmp {x y : Int64} (hd : decode M.2.1 pc = .ok (.lcmp, 1))  (k : z_Run G l d M (pc + 1) L (.int (lg_cmp x y) :: S) h hF r) : z_Run G l d M pc L (.long y :: .long x :: S) h hF r := z_pure (fun C _ k => W.lcmp C.1 C.2.1 hd k) k
theorem z_iconst {n : Int} {v : Int32} (hd : decode M.2.1 pc = .ok (.iconst n, 1)) (hv : Int32.ofInt n = v) (k : z_Run G l d M (pc + 1) L (.int v :: S) h hF r) : z_Run G l d M pc L (S) h hF r := z_pure (fun C _ k => lv_iconst C.1 C.2.1 hd hv k) k
theorem z_bipush {n : Int} {v : Int32} (hd : decode M.2.1 pc = .ok (.bipush n, 2)) (hv : (Int8.ofInt n).toInt32 = v) (k : z_Run G l d M (pc + 2) L (.int v :: S) h hF r) : z_Run G l d M pc L (S) h hF r := z_pure (fun C _ k => lv_bipush C.1 C.2.1 hd hv k) k
theorem z_sipush {n : Int} {v : Int32} (hd : decode M.2.1 pc = .ok (.sipush n, 3)) (hv : (Int16.ofInt n).toInt32 = v) (k : z_Run G l d M (pc + 3) L (.int v :: S) h hF r) : z_Run G l d M pc L (S) h hF r := z_pure (fun C _ k => lv_sipush C.1 C.2.1 hd hv k) k
theorem z_lconst {n : Fin 2} {v : Int64} (hd : decode M.2.1 pc = .ok (.lconst n, 1)) (hv : Int64.ofNat (n : Nat) = v) (k : z_Run G l d M (pc + 1) L (.long v :: S) h hF r) : z_Run G l d M pc L (S) h hF r := z_pure (fun C _ k => lv_lconst C.1 C.2.1 hd hv k) k
theorem z_ldc {index : Nat} {v : Int32} (hd : decode M.2.1 pc = .ok (.ldc index, 2)) (hw : Cond.constant M.1.cls index v ∈ lw_tbl) (k : z_Run G l d M (pc + 2) L (.int v :: S) h hF r) : z_Run G l d M pc L (S) h hF r := z_pure (fun C _ k => lv_ldc C.1 C.2.1 C.2.2.2.2.1 (C.2.2.2.2.2.1 _ hw rfl) hd k) k
theorem z_ldcw {index : Nat} {v : Int32} (hd : decode M.2.1 pc = .ok (.ldc_w index, 3)) (hw : Cond.constant M.1.cls index v ∈ lw_tbl) (k : z_Run G l d M (pc + 3) L (.int v :: S) h hF r) : z_Run G l d M pc L (S) h hF r := z_pure (fun C _ k => lv_ldcw C.1 C.2.1 C.2.2.2.2.1 (C.2.2.2.2.2.1 _ hw rfl) hd k) k
theorem z_ldc2 {index : Nat} {v : Int64} (hd : decode M.2.1 pc = .ok (.ldc2_w index, 3)) (hw : Cond.constantLong M.1.cls index v ∈ lw_tbl) (k : z_Run G l d M (pc + 3) L (.long v :: S) h hF r) : z_Run G l d M pc L (S) h hF r := z_pure (fun C _ k => lv_ldc2 C.1 C.2.1 C.2.2.2.2.1 (C.2.2.2.2.2.1 _ hw rfl) hd k) k
theorem z_null  (hd : decode M.2.1 pc = .ok (.aconst_null, 1))  (k : z_Run G l d M (pc + 1) L (.null :: S) h hF r) : z_Run G l d M pc L (S) h hF r := z_pure (fun C _ k => lv_null C.1 C.2.1 hd k) k
theorem z_cat (G : z_G) (v : Value) : (z_t G v).category = v.category := by cases v <;> rfl
theorem z_dup {v : Value} (hd : decode M.2.1 pc = .ok (.dup, 1)) (hv : v.category = 1) (k : z_Run G l d M (pc + 1) L (v :: v :: S) h hF r) : z_Run G l d M pc L (v :: S) h hF r := z_pure (fun C _ k => lv_dup C.1 C.2.1 hd ((z_cat G v).trans hv) k) k
theorem z_dup2 {v w : Value} (hd : decode M.2.1 pc = .ok (.dup2, 1)) (hv : v.category = 1) (hw : w.category = 1) (k : z_Run G l d M (pc + 1) L (v :: w :: v :: w :: S) h hF r) : z_Run G l d M pc L (v :: w :: S) h hF r := z_pure (fun C _ k => lv_dup2_11 C.1 C.2.1 hd ((z_cat G v).trans hv) ((z_cat G w).trans hw) k) k
theorem z_dup_x1 {v w : Value} (hd : decode M.2.1 pc = .ok (.dup_x1, 1)) (hv : v.category = 1) (hw : w.category = 1) (k : z_Run G l d M (pc + 1) L (v :: w :: v :: S) h hF r) : z_Run G l d M pc L (v :: w :: S) h hF r := z_pure (fun C _ k => lv_dup_x1 C.1 C.2.1 hd ((z_cat G v).trans hv) ((z_cat G w).trans hw) k) k
theorem z_pop {v : Value} (hd : decode M.2.1 pc = .ok (.pop, 1)) (hv : v.category = 1) (k : z_Run G l d M (pc + 1) L (S) h hF r) : z_Run G l d M pc L (v :: S) h hF r := z_pure (fun C _ k => lv_pop C.1 C.2.1 hd ((z_cat G v).trans hv) k) k
theorem z_goto {off : Int} {tgt : Nat} (hd : decode M.2.1 pc = .ok (.goto off, 3)) (ht : (pc : Int) + off = (tgt : Int)) (k : z_Run G l d M tgt L S h hF r) : z_Run G l d M pc L S h hF r := z_pure (fun C _ k => lv_goto C.1 C.2.1 hd ht k) k
theorem z_if_eq {x : Int32} {off : Int} {tgt : Nat} (hd : decode M.2.1 pc = .ok (.ifCond .eq off, 3)) (ht : (pc : Int) + off = (tgt : Int)) (kt : x = 0 → z_Run G l d M tgt L S h hF r) (kf : ¬ x = 0 → z_Run G l d M (pc + 3) L S h hF r) : z_Run G l d M pc L (.int x :: S) h hF r := by
  by_cases hc : x = 0
  · exact z_pure (fun C _ k => lv_if_eq C.1 C.2.1 hd ht (fun _ => k) (fun q => absurd hc q)) (kt hc)
  · exact z_pure (fun C _ k => lv_if_eq C.1 C.2.1 hd ht (fun q => absurd q hc) (fun _ => k)) (kf hc)
theorem z_icmp_eq {x y : Int32} {off : Int} {tgt : Nat} (hd : decode M.2.1 pc = .ok (.if_icmp .eq off, 3)) (ht : (pc : Int) + off = (tgt : Int)) (kt : x = y → z_Run G l d M tgt L S h hF r) (kf : ¬ x = y → z_Run G l d M (pc + 3) L S h hF r) : z_Run G l d M pc L (.int y :: .int x :: S) h hF r := by
  by_cases hc : x = y
  · exact z_pure (fun C _ k => lv_icmp_eq C.1 C.2.1 hd ht (fun _ => k) (fun q => absurd hc q)) (kt hc)
  · exact z_pure (fun C _ k => lv_icmp_eq C.1 C.2.1 hd ht (fun q => absurd q hc) (fun _ => k)) (kf hc)
theorem z_if_ne {x : Int32} {off : Int} {tgt : Nat} (hd : decode M.2.1 pc = .ok (.ifCond .ne off, 3)) (ht : (pc : Int) + off = (tgt : Int)) (kt : ¬ x = 0 → z_Run G l d M tgt L S h hF r) (kf : x = 0 → z_Run G l d M (pc + 3) L S h hF r) : z_Run G l d M pc L (.int x :: S) h hF r := by
  by_cases hc : x = 0
  · exact z_pure (fun C _ k => lv_if_ne C.1 C.2.1 hd ht (fun q => absurd hc q) (fun _ => k)) (kf hc)
  · exact z_pure (fun C _ k => lv_if_ne C.1 C.2.1 hd ht (fun _ => k) (fun q => absurd q hc)) (kt hc)
theorem z_icmp_ne {x y : Int32} {off : Int} {tgt : Nat} (hd : decode M.2.1 pc = .ok (.if_icmp .ne off, 3)) (ht : (pc : Int) + off = (tgt : Int)) (kt : ¬ x = y → z_Run G l d M tgt L S h hF r) (kf : x = y → z_Run G l d M (pc + 3) L S h hF r) : z_Run G l d M pc L (.int y :: .int x :: S) h hF r := by
  by_cases hc : x = y
  · exact z_pure (fun C _ k => lv_icmp_ne C.1 C.2.1 hd ht (fun q => absurd hc q) (fun _ => k)) (kf hc)
  · exact z_pure (fun C _ k => lv_icmp_ne C.1 C.2.1 hd ht (fun _ => k) (fun q => absurd q hc)) (kt hc)
theorem z_if_lt {x : Int32} {off : Int} {tgt : Nat} (hd : decode M.2.1 pc = .ok (.ifCond .lt off, 3)) (ht : (pc : Int) + off = (tgt : Int)) (kt : x < 0 → z_Run G l d M tgt L S h hF r) (kf : ¬ x < 0 → z_Run G l d M (pc + 3) L S h hF r) : z_Run G l d M pc L (.int x :: S) h hF r := by
  by_cases hc : x < 0
  · exact z_pure (fun C _ k => lv_if_lt C.1 C.2.1 hd ht (fun _ => k) (fun q => absurd hc q)) (kt hc)
  · exact z_pure (fun C _ k => lv_if_lt C.1 C.2.1 hd ht (fun q => absurd q hc) (fun _ => k)) (kf hc)
theorem z_icmp_lt {x y : Int32} {off : Int} {tgt : Nat} (hd : decode M.2.1 pc = .ok (.if_icmp .lt off, 3)) (ht : (pc : Int) + off = (tgt : Int)) (kt : x < y → z_Run G l d M tgt L S h hF r) (kf : ¬ x < y → z_Run G l d M (pc + 3) L S h hF r) : z_Run G l d M pc L (.int y :: .int x :: S) h hF r := by
  by_cases hc : x < y
  · exact z_pure (fun C _ k => lv_icmp_lt C.1 C.2.1 hd ht (fun _ => k) (fun q => absurd hc q)) (kt hc)
  · exact z_pure (fun C _ k => lv_icmp_lt C.1 C.2.1 hd ht (fun q => absurd q hc) (fun _ => k)) (kf hc)
theorem z_if_ge {x : Int32} {off : Int} {tgt : Nat} (hd : decode M.2.1 pc = .ok (.ifCond .ge off, 3)) (ht : (pc : Int) + off = (tgt : Int)) (kt : 0 ≤ x → z_Run G l d M tgt L S h hF r) (kf : ¬ 0 ≤ x → z_Run G l d M (pc + 3) L S h hF r) : z_Run G l d M pc L (.int x :: S) h hF r := by
  by_cases hc : 0 ≤ x
  · exact z_pure (fun C _ k => lv_if_ge C.1 C.2.1 hd ht (fun _ => k) (fun q => absurd hc q)) (kt hc)
  · exact z_pure (fun C _ k => lv_if_ge C.1 C.2.1 hd ht (fun q => absurd q hc) (fun _ => k)) (kf hc)
theorem z_icmp_ge {x y : Int32} {off : Int} {tgt : Nat} (hd : decode M.2.1 pc = .ok (.if_icmp .ge off, 3)) (ht : (pc : Int) + off = (tgt : Int)) (kt : y ≤ x → z_Run G l d M tgt L S h hF r) (kf : ¬ y ≤ x → z_Run G l d M (pc + 3) L S h hF r) : z_Run G l d M pc L (.int y :: .int x :: S) h hF r := by
  by_cases hc : y ≤ x
  · exact z_pure (fun C _ k => lv_icmp_ge C.1 C.2.1 hd ht (fun _ => k) (fun q => absurd hc q)) (kt hc)
  · exact z_pure (fun C _ k => lv_icmp_ge C.1 C.2.1 hd ht (fun q => absurd q hc) (fun _ => k)) (kf hc)
theorem z_if_gt {x : Int32} {off : Int} {tgt : Nat} (hd : decode M.2.1 pc = .ok (.ifCond .gt off, 3)) (ht : (pc : Int) + off = (tgt : Int)) (kt : 0 < x → z_Run G l d M tgt L S h hF r) (kf : ¬ 0 < x → z_Run G l d M (pc + 3) L S h hF r) : z_Run G l d M pc L (.int x :: S) h hF r := by
  by_cases hc : 0 < x
  · exact z_pure (fun C _ k => lv_if_gt C.1 C.2.1 hd ht (fun _ => k) (fun q => absurd hc q)) (kt hc)
  · exact z_pure (fun C _ k => lv_if_gt C.1 C.2.1 hd ht (fun q => absurd q hc) (fun _ => k)) (kf hc)
theorem z_icmp_gt {x y : Int32} {off : Int} {tgt : Nat} (hd : decode M.2.1 pc = .ok (.if_icmp .gt off, 3)) (ht : (pc : Int) + off = (tgt : Int)) (kt : y < x → z_Run G l d M tgt L S h hF r) (kf : ¬ y < x → z_Run G l d M (pc + 3) L S h hF r) : z_Run G l d M pc L (.int y :: .int x :: S) h hF r := by
  by_cases hc : y < x
  · exact z_pure (fun C _ k => lv_icmp_gt C.1 C.2.1 hd ht (fun _ => k) (fun q => absurd hc q)) (kt hc)
  · exact z_pure (fun C _ k => lv_icmp_gt C.1 C.2.1 hd ht (fun q => absurd q hc) (fun _ => k)) (kf hc)
theorem z_if_le {x : Int32} {off : Int} {tgt : Nat} (hd : decode M.2.1 pc = .ok (.ifCond .le off, 3)) (ht : (pc : Int) + off = (tgt : Int)) (kt : x ≤ 0 → z_Run G l d M tgt L S h hF r) (kf : ¬ x ≤ 0 → z_Run G l d M (pc + 3) L S h hF r) : z_Run G l d M pc L (.int x :: S) h hF r := by
  by_cases hc : x ≤ 0
  · exact z_pure (fun C _ k => lv_if_le C.1 C.2.1 hd ht (fun _ => k) (fun q => absurd hc q)) (kt hc)
  · exact z_pure (fun C _ k => lv_if_le C.1 C.2.1 hd ht (fun q => absurd q hc) (fun _ => k)) (kf hc)
theorem z_icmp_le {x y : Int32} {off : Int} {tgt : Nat} (hd : decode M.2.1 pc = .ok (.if_icmp .le off, 3)) (ht : (pc : Int) + off = (tgt : Int)) (kt : x ≤ y → z_Run G l d M tgt L S h hF r) (kf : ¬ x ≤ y → z_Run G l d M (pc + 3) L S h hF r) : z_Run G l d M pc L (.int y :: .int x :: S) h hF r := by
  by_cases hc : x ≤ y
  · exact z_pure (fun C _ k => lv_icmp_le C.1 C.2.1 hd ht (fun _ => k) (fun q => absurd hc q)) (kt hc)
  · exact z_pure (fun C _ k => lv_icmp_le C.1 C.2.1 hd ht (fun q => absurd q hc) (fun _ => k)) (kf hc)
theorem z_iload {i : Nat} {x : Int32} (q : Nat) (hd : decode M.2.1 pc = .ok (.iload i, 2)) (hq : L[q]? = some (i, .int x)) (k : z_Run G l d M (pc + 2) L (.int x :: S) h hF r) : z_Run G l d M pc L S h hF r := z_pure (fun C hl k => lv_iload C.1 C.2.1 hd (z_at hl hq) k) k
theorem z_iload_n {i : Fin 4} {x : Int32} (q : Nat) (hd : decode M.2.1 pc = .ok (.iload_n i, 1)) (hq : L[q]? = some ((i : Nat), .int x)) (k : z_Run G l d M (pc + 1) L (.int x :: S) h hF r) : z_Run G l d M pc L S h hF r := z_pure (fun C hl k => lv_iload_n C.1 C.2.1 hd rfl (z_at hl hq) k) k
theorem z_lload {i : Nat} {x : Int64} (q : Nat) (hd : decode M.2.1 pc = .ok (.lload i, 2)) (hq : L[q]? = some (i, .long x)) (k : z_Run G l d M (pc + 2) L (.long x :: S) h hF r) : z_Run G l d M pc L S h hF r := z_pure (fun C hl k => lv_lload C.1 C.2.1 hd (z_at hl hq) k) k
theorem z_lload_n {i : Fin 4} {x : Int64} (q : Nat) (hd : decode M.2.1 pc = .ok (.lload_n i, 1)) (hq : L[q]? = some ((i : Nat), .long x)) (k : z_Run G l d M (pc + 1) L (.long x :: S) h hF r) : z_Run G l d M pc L S h hF r := z_pure (fun C hl k => lv_lload_n C.1 C.2.1 hd rfl (z_at hl hq) k) k
theorem z_aload {i : Nat} {x : Option Nat} (q : Nat) (hd : decode M.2.1 pc = .ok (.aload i, 2)) (hq : L[q]? = some ((i : Nat), z_r x)) (k : z_Run G l d M (pc + 2) L (z_r x :: S) h hF r) : z_Run G l d M pc L S h hF r := by
  cases x with
  | none => exact z_pure (fun C hl k => lv_aloadN C.1 C.2.1 hd (z_at hl hq) k) k
  | some a => exact z_pure (fun C hl k => lv_aload C.1 C.2.1 hd (z_at hl hq) k) k
theorem z_xload {i : Nat} {x : Nat} (q : Nat) (hd : decode M.2.1 pc = .ok (.aload i, 2)) (hq : L[q]? = some ((i : Nat), .retAddr x)) (k : z_Run G l d M (pc + 2) L (.retAddr x :: S) h hF r) : z_Run G l d M pc L S h hF r := z_pure (fun C hl k => lv_aload C.1 C.2.1 hd (z_at hl hq) k) k
theorem z_aload_n {i : Fin 4} {x : Option Nat} (q : Nat) (hd : decode M.2.1 pc = .ok (.aload_n i, 1)) (hq : L[q]? = some ((i : Nat), z_r x)) (k : z_Run G l d M (pc + 1) L (z_r x :: S) h hF r) : z_Run G l d M pc L S h hF r := by
  cases x with
  | none => exact z_pure (fun C hl k => lv_aload_nN C.1 C.2.1 hd rfl (z_at hl hq) k) k
  | some a => exact z_pure (fun C hl k => lv_aload_n C.1 C.2.1 hd rfl (z_at hl hq) k) k
theorem z_xload_n {i : Fin 4} {x : Nat} (q : Nat) (hd : decode M.2.1 pc = .ok (.aload_n i, 1)) (hq : L[q]? = some ((i : Nat), .retAddr x)) (k : z_Run G l d M (pc + 1) L (.retAddr x :: S) h hF r) : z_Run G l d M pc L S h hF r := z_pure (fun C hl k => lv_aload_n C.1 C.2.1 hd rfl (z_at hl hq) k) k
theorem z_fil {G : z_G} {L L' : List (Nat × Value)} {i : Nat} {v : Value} (hl : (i, v) :: L.filter (fun q => !(q.1 == i) && !(q.1 + 1 == i && q.2.category == 2)) = L') : (i, z_t G v) :: (z_tl G L).filter (fun q => !(q.1 == i) && !(q.1 + 1 == i && q.2.category == 2)) = z_tl G L' := by
  rw [← hl]
  simp [z_tl, List.filter_map, Function.comp_def, z_cat]
theorem z_fil2 {G : z_G} {L L' : List (Nat × Value)} {i : Nat} {v : Value} (hl : (i, v) :: L.filter (fun q => !(q.1 == i) && (!(q.1 == i + 1) && !(q.1 + 1 == i && q.2.category == 2))) = L') : (i, z_t G v) :: (z_tl G L).filter (fun q => !(q.1 == i) && (!(q.1 == i + 1) && !(q.1 + 1 == i && q.2.category == 2))) = z_tl G L' := by
  rw [← hl]
  simp [z_tl, List.filter_map, Function.comp_def, z_cat]
theorem z_istore {i : Nat} {x : Int32} {L' : List (Nat × Value)} (hd : decode M.2.1 pc = .ok (.istore i, 2)) (hn : i < M.2.2.1) (hl : (i, Value.int x) :: L.filter (fun q => !(q.1 == i) && !(q.1 + 1 == i && q.2.category == 2)) = L') (k : z_Run G l d M (pc + 2) L' S h hF r) : z_Run G l d M pc L (.int x :: S) h hF r := z_store (fun C hL k => lv_istore C.1 C.2.1 hd hL hn (z_fil hl) k) k
theorem z_istore_n {n : Fin 4} {i : Nat} {x : Int32} {L' : List (Nat × Value)} (hd : decode M.2.1 pc = .ok (.istore_n n, 1)) (hi : (n : Nat) = i) (hn : i < M.2.2.1) (hl : (i, Value.int x) :: L.filter (fun q => !(q.1 == i) && !(q.1 + 1 == i && q.2.category == 2)) = L') (k : z_Run G l d M (pc + 1) L' S h hF r) : z_Run G l d M pc L (.int x :: S) h hF r := z_store (fun C hL k => lv_istore_n C.1 C.2.1 hd hi hL hn (z_fil hl) k) k
theorem z_lstore {i : Nat} {x : Int64} {L' : List (Nat × Value)} (hd : decode M.2.1 pc = .ok (.lstore i, 2)) (hn : i + 1 < M.2.2.1) (hl : (i, Value.long x) :: L.filter (fun q => !(q.1 == i) && (!(q.1 == i + 1) && !(q.1 + 1 == i && q.2.category == 2))) = L') (k : z_Run G l d M (pc + 2) L' S h hF r) : z_Run G l d M pc L (.long x :: S) h hF r := z_store (fun C hL k => lv_lstore C.1 C.2.1 hd hL hn (z_fil2 hl) k) k
theorem z_lstore_n {n : Fin 4} {i : Nat} {x : Int64} {L' : List (Nat × Value)} (hd : decode M.2.1 pc = .ok (.lstore_n n, 1)) (hi : (n : Nat) = i) (hn : i + 1 < M.2.2.1) (hl : (i, Value.long x) :: L.filter (fun q => !(q.1 == i) && (!(q.1 == i + 1) && !(q.1 + 1 == i && q.2.category == 2))) = L') (k : z_Run G l d M (pc + 1) L' S h hF r) : z_Run G l d M pc L (.long x :: S) h hF r := z_store (fun C hL k => lv_lstore_n C.1 C.2.1 hd hi hL hn (z_fil2 hl) k) k
theorem z_astore {i : Nat} {x : Option Nat} {L' : List (Nat × Value)} (hd : decode M.2.1 pc = .ok (.astore i, 2)) (hn : i < M.2.2.1) (hl : (i, z_r x) :: L.filter (fun q => !(q.1 == i) && !(q.1 + 1 == i && q.2.category == 2)) = L') (k : z_Run G l d M (pc + 2) L' S h hF r) : z_Run G l d M pc L (z_r x :: S) h hF r := by
  cases x with
  | none => exact z_store (fun C hL k => lv_astoreN C.1 C.2.1 hd hL hn (z_fil hl) k) k
  | some a => exact z_store (fun C hL k => lv_astore C.1 C.2.1 hd hL hn (z_fil hl) k) k
theorem z_astore_n {n : Fin 4} {i : Nat} {x : Option Nat} {L' : List (Nat × Value)} (hd : decode M.2.1 pc = .ok (.astore_n n, 1)) (hi : (n : Nat) = i) (hn : i < M.2.2.1) (hl : (i, z_r x) :: L.filter (fun q => !(q.1 == i) && !(q.1 + 1 == i && q.2.category == 2)) = L') (k : z_Run G l d M (pc + 1) L' S h hF r) : z_Run G l d M pc L (z_r x :: S) h hF r := by
  cases x with
  | none => exact z_store (fun C hL k => lv_astore_nN C.1 C.2.1 hd hi hL hn (z_fil hl) k) k
  | some a => exact z_store (fun C hL k => lv_astore_n C.1 C.2.1 hd hi hL hn (z_fil hl) k) k
theorem z_iinc {i q : Nat} {n : Int} {x v : Int32} {L' : List (Nat × Value)} (hd : decode M.2.1 pc = .ok (.iinc i n, 3)) (hq : L[q]? = some (i, .int x)) (hv : x + Int32.ofInt n = v) (hn : i < M.2.2.1) (hl : (i, Value.int v) :: L.filter (fun q => !(q.1 == i) && !(q.1 + 1 == i && q.2.category == 2)) = L') (k : z_Run G l d M (pc + 3) L' S h hF r) : z_Run G l d M pc L S h hF r := z_store (fun C hL k => lv_iinc (k := q) C.1 C.2.1 hd hL (by rw [z_tl, List.getElem?_map, hq]; rfl) hv hn (z_fil hl) k) k
theorem z_ifnull {x : Option Nat} {off : Int} {tgt : Nat} (hd : decode M.2.1 pc = .ok (.ifnull off, 3)) (ht : (pc : Int) + off = (tgt : Int)) (kt : x = none → z_Run G l d M tgt L S h hF r) (kf : ¬ x = none → z_Run G l d M (pc + 3) L S h hF r) : z_Run G l d M pc L (z_r x :: S) h hF r := by
  cases x with
  | none => exact z_pure (fun C _ k => lv_ifnullN C.1 C.2.1 hd ht k) (kt rfl)
  | some a => exact z_pure (fun C _ k => lv_ifnull C.1 C.2.1 hd k) (kf (fun q => by cases q))
theorem z_ifnonnull {x : Option Nat} {off : Int} {tgt : Nat} (hd : decode M.2.1 pc = .ok (.ifnonnull off, 3)) (ht : (pc : Int) + off = (tgt : Int)) (kt : ¬ x = none → z_Run G l d M tgt L S h hF r) (kf : x = none → z_Run G l d M (pc + 3) L S h hF r) : z_Run G l d M pc L (z_r x :: S) h hF r := by
  cases x with
  | none => exact z_pure (fun C _ k => lv_ifnonnullN C.1 C.2.1 hd k) (kf rfl)
  | some a => exact z_pure (fun C _ k => lv_ifnonnull C.1 C.2.1 hd ht k) (kt (fun q => by cases q))
theorem z_tableIn {dflt lo hi : Int} {offs : Array Int} {len : Nat} {x : Int32} {off : Int} {tgt : Nat} (hd : decode M.2.1 pc = .ok (.tableswitch dflt lo hi offs, len)) (h1 : ¬ x.toInt < lo) (h2 : ¬ hi < x.toInt) (ho : offs[(x.toInt - lo).toNat]? = some off) (ht : (pc : Int) + off = (tgt : Int)) (k : z_Run G l d M tgt L S h hF r) : z_Run G l d M pc L (.int x :: S) h hF r := z_pure (fun C _ k => lv_tableIn C.1 C.2.1 hd h1 h2 ho ht k) k
theorem z_tableOut {dflt lo hi : Int} {offs : Array Int} {len : Nat} {x : Int32} {tgt : Nat} (hd : decode M.2.1 pc = .ok (.tableswitch dflt lo hi offs, len)) (h1 : x.toInt < lo ∨ hi < x.toInt) (ht : (pc : Int) + dflt = (tgt : Int)) (k : z_Run G l d M tgt L S h hF r) : z_Run G l d M pc L (.int x :: S) h hF r := z_pure (fun C _ k => lv_tableOut C.1 C.2.1 hd h1 ht k) k
theorem z_ret0 {G : z_G} {s : State} {H : Heap} {locs : List Loc} {h : z_H} {r : Option Value} {args : Array Value} (hh : z_hp G h H) (hS : va_S (z_A G) s.heap H locs) : ∀ t : State, t.heap = H → s.WarmedH t.vm → z_Q G h r args s (.returned (r.map (z_t G))) t := fun t ht _ => ⟨rfl, by rw [ht]; exact hh, hS.F ht⟩
theorem z_iret {v : Int32} (hd : decode M.2.1 pc = .ok (.ireturn, 1)) (hr : M.2.2.2 = some .int) : z_Run G l d M pc L [.int v] h h (some (.int v)) :=
  ⟨⟨Nat.le_refl _, Nat.le_refl _⟩, fun n0 s0 p e R s m args below meth c C hn hs H locs ls hh hS hL => W.iret C.1 C.2.1 (C.2.2.1.trans hr) (z_ret0 (r := some (.int v)) hh hS) hS.2.2 hd C.2.2.2.2.2.2.1⟩
theorem z_zret {v : Int32} {ty : FieldType} (hd : decode M.2.1 pc = .ok (.ireturn, 1)) (hr : M.2.2.2 = some ty) (hv : narrow ty (.int v) = .int v) : z_Run G l d M pc L [.int v] h h (some (.int v)) :=
  ⟨⟨Nat.le_refl _, Nat.le_refl _⟩, fun n0 s0 p e R s m args below meth c C hn hs H locs ls hh hS hL => W.zret C.1 C.2.1 (C.2.2.1.trans hr) hv (z_ret0 (r := some (.int v)) hh hS) hS.2.2 hd C.2.2.2.2.2.2.1⟩
theorem z_lret {v : Int64} (hd : decode M.2.1 pc = .ok (.lreturn, 1)) (hr : M.2.2.2 = some .long) : z_Run G l d M pc L [.long v] h h (some (.long v)) :=
  ⟨⟨Nat.le_refl _, Nat.le_refl _⟩, fun n0 s0 p e R s m args below meth c C hn hs H locs ls hh hS hL => W.lret C.1 C.2.1 (C.2.2.1.trans hr) (z_ret0 (r := some (.long v)) hh hS) hS.2.2 hd C.2.2.2.2.2.2.1⟩
theorem z_vret (hd : decode M.2.1 pc = .ok (.return_, 1)) (hr : M.2.2.2 = none) : z_Run G l d M pc L [] h h none :=
  ⟨⟨Nat.le_refl _, Nat.le_refl _⟩, fun n0 s0 p e R s m args below meth c C hn hs H locs ls hh hS hL => W.vret C.1 C.2.1 (C.2.2.1.trans hr) (z_ret0 (r := none) hh hS) hS.2.2 hd C.2.2.2.2.2.2.1⟩
end ZR
