theorem z_ls_TERM_MOST : Cond.laysStatic "SoleReader" "TERM_MOST" "[I" ∈ lw_tbl := z_t1 (List.mem_of_getElem? (i := 36) rfl)
theorem z_ls_REFUSALS : Cond.laysStatic "SoleReader" "REFUSALS" "[I" ∈ lw_tbl := z_t5 (List.mem_of_getElem? (i := 81) rfl)
theorem z_ls_SUMS_OF_VERB : Cond.laysStatic "SoleReader" "SUMS_OF_VERB" "[I" ∈ lw_tbl := z_t3 (List.mem_of_getElem? (i := 144) rfl)
theorem z_ls_CS : Cond.laysStatic "java/lang/String" "COMPACT_STRINGS" "Z" ∈ lw_tbl := z_t3 (List.mem_of_getElem? (i := 96) rfl)
theorem z_ls_FM : Cond.laysStatic "jdk/internal/util/Preconditions" "SIOOBE_FORMATTER" "Ljava/util/function/BiFunction;" ∈ lw_tbl := z_t3 (List.mem_of_getElem? (i := 112) rfl)
theorem z_ini_SR : Cond.initialized "SoleReader" ∈ lw_tbl := z_t1 (List.mem_of_getElem? (i := 1) rfl)
theorem z_ini_St : Cond.initialized "java/lang/String" ∈ lw_tbl := z_t1 (List.mem_of_getElem? (i := 14) rfl)
theorem z_ini_Pr : Cond.initialized "jdk/internal/util/Preconditions" ∈ lw_tbl := z_t1 (List.mem_of_getElem? (i := 16) rfl)
theorem z_ins_0 : Cond.instantiable RX0 2 ∈ lw_tbl := z_t1 (List.mem_of_getElem? (i := 216) rfl)
theorem z_ins_1 : Cond.instantiable RX1 3 ∈ lw_tbl := z_t1 (List.mem_of_getElem? (i := 197) rfl)
theorem z_ins_2 : Cond.instantiable RX2 7 ∈ lw_tbl := z_t1 (List.mem_of_getElem? (i := 231) rfl)
theorem z_ins_3 : Cond.instantiable RX3 6 ∈ lw_tbl := z_t2 (List.mem_of_getElem? (i := 84) rfl)
theorem z_ins_4 : Cond.instantiable RX4 9 ∈ lw_tbl := z_t2 (List.mem_of_getElem? (i := 24) rfl)
theorem z_ins_5 : Cond.instantiable RX5 10 ∈ lw_tbl := z_t1 (List.mem_of_getElem? (i := 127) rfl)
theorem z_ins_6 : Cond.instantiable RX6 6 ∈ lw_tbl := z_t2 (List.mem_of_getElem? (i := 59) rfl)
theorem z_ins_7 : Cond.instantiable RX7 5 ∈ lw_tbl := z_t1 (List.mem_of_getElem? (i := 133) rfl)
theorem z_ins_8 : Cond.instantiable RX8 2 ∈ lw_tbl := z_t1 (List.mem_of_getElem? (i := 112) rfl)
theorem z_ins_9 : Cond.instantiable RX9 13 ∈ lw_tbl := z_t1 (List.mem_of_getElem? (i := 30) rfl)
theorem z_ins_10 : Cond.instantiable RX10 15 ∈ lw_tbl := z_t1 (List.mem_of_getElem? (i := 22) rfl)
theorem z_ins_11 : Cond.instantiable RX11 59 ∈ lw_tbl := z_t5 (List.mem_of_getElem? (i := 88) rfl)
theorem z_ao9 : Cond.arrayOver (.object RX9) ∈ lw_tbl := z_t1 (List.mem_of_getElem? (i := 110) rfl)
theorem z_ao7 : Cond.arrayOver (.object RX7) ∈ lw_tbl := z_t1 (List.mem_of_getElem? (i := 38) rfl)
theorem z_nf_X9_24 : Cond.fieldLinkNest "SoleReader$Yard" 24 "SoleReader" "TERM_MOST" "[I" "SoleReader" ∈ lw_tbl := z_t1 (List.mem_of_getElem? (i := 35) rfl)
theorem z_nm_X10_29 : Cond.methodLinkNest "SoleReader" 29 yX8_init "SoleReader" ∈ lw_tbl := z_t1 (List.mem_of_getElem? (i := 113) rfl)
theorem z_nm_X10_36 : Cond.methodLinkNest "SoleReader" 36 yX5_init "SoleReader" ∈ lw_tbl := z_t1 (List.mem_of_getElem? (i := 128) rfl)
theorem z_nm_X10_43 : Cond.methodLinkNest "SoleReader" 43 yX1_init "SoleReader" ∈ lw_tbl := z_t1 (List.mem_of_getElem? (i := 198) rfl)
theorem z_nm_X2_20 : Cond.methodLinkNest "SoleReader$Errands" 20 yX8_init "SoleReader" ∈ lw_tbl := z_t1 (List.mem_of_getElem? (i := 239) rfl)
theorem z_nm_X10_84 : Cond.methodLinkNest "SoleReader" 84 yX3_init "SoleReader" ∈ lw_tbl := z_t2 (List.mem_of_getElem? (i := 85) rfl)
theorem z_sr_101 : Cond.stringRef "SoleReader$Reader" 101 "step turn pause mend pass" ∈ lw_tbl := z_t3 (List.mem_of_getElem? (i := 81) rfl)
theorem z_sr_103 : Cond.stringRef "SoleReader$Reader" 103 "wears leaves bars" ∈ lw_tbl := z_t3 (List.mem_of_getElem? (i := 82) rfl)
theorem z_nf_X5_112 : Cond.fieldLinkNest "SoleReader$Reader" 112 "SoleReader" "SUMS_OF_VERB" "[I" "SoleReader" ∈ lw_tbl := z_t3 (List.mem_of_getElem? (i := 143) rfl)
theorem z_sr_162 : Cond.stringRef "SoleReader$Reader" 162 "day done latest pairs walls cell toe heel" ∈ lw_tbl := z_t3 (List.mem_of_getElem? (i := 173) rfl)
theorem z_sr_164 : Cond.stringRef "SoleReader$Reader" 164 "pair load part worn x y way day mood" ∈ lw_tbl := z_t3 (List.mem_of_getElem? (i := 174) rfl)
theorem z_sr_118 : Cond.stringRef "SoleReader$Reader" 118 "to" ∈ lw_tbl := z_t3 (List.mem_of_getElem? (i := 175) rfl)
theorem z_sr_119 : Cond.stringRef "SoleReader$Reader" 119 "at" ∈ lw_tbl := z_t3 (List.mem_of_getElem? (i := 176) rfl)
theorem z_sr_124 : Cond.stringRef "SoleReader$Reader" 124 "times" ∈ lw_tbl := z_t3 (List.mem_of_getElem? (i := 185) rfl)
theorem z_sr_129 : Cond.stringRef "SoleReader$Reader" 129 "if" ∈ lw_tbl := z_t3 (List.mem_of_getElem? (i := 190) rfl)
theorem z_sr_151 : Cond.stringRef "SoleReader$Reader" 151 "not" ∈ lw_tbl := z_t3 (List.mem_of_getElem? (i := 203) rfl)
theorem z_sr_149 : Cond.stringRef "SoleReader$Reader" 149 "and" ∈ lw_tbl := z_t3 (List.mem_of_getElem? (i := 204) rfl)
theorem z_sr_137 : Cond.stringRef "SoleReader$Reader" 137 "or" ∈ lw_tbl := z_t3 (List.mem_of_getElem? (i := 209) rfl)
theorem z_nm_X0_21 : Cond.methodLinkNest "SoleReader$Acts" 21 yX10_isPart "SoleReader" ∈ lw_tbl := z_t4 (List.mem_of_getElem? (i := 20) rfl)
theorem z_nf_X0_83 : Cond.fieldLinkNest "SoleReader$Acts" 83 "SoleReader" "TERM_MOST" "[I" "SoleReader" ∈ lw_tbl := z_t4 (List.mem_of_getElem? (i := 25) rfl)
theorem z_nm_X0_77 : Cond.methodLinkNest "SoleReader$Acts" 77 yX10_turned "SoleReader" ∈ lw_tbl := z_t4 (List.mem_of_getElem? (i := 38) rfl)
theorem z_nm_X4_48 : Cond.methodLinkNest "SoleReader$Paths" 48 yX10_turned "SoleReader" ∈ lw_tbl := z_t4 (List.mem_of_getElem? (i := 154) rfl)
theorem z_a1 {a b : Cond} {args : Array Value} {s : State} (h : (Cond.and a b).before args s = true) : a.before args s = true := by
  rw [Cond.before_and, Bool.and_eq_true] at h; exact h.1
theorem z_a2 {a b : Cond} {args : Array Value} {s : State} (h : (Cond.and a b).before args s = true) : b.before args s = true := by
  rw [Cond.before_and, Bool.and_eq_true] at h; exact h.2
theorem nv_0 {args : Array Value} {s : State} (h : narrow_1.before args s = true) : ((Jvm.Cond.arrayOf (Jvm.Term.static "SoleReader" "TERM_MOST" "[I") Jvm.ClassFile.FieldType.int)).before args s = true := z_a2 (z_a2 (z_a1 (z_a1 (z_a1 (z_a1 (z_a1 (z_a1 (h))))))))
theorem nv_1 {args : Array Value} {s : State} (h : narrow_1.before args s = true) : ((Jvm.Cond.eq (Jvm.Term.length (Jvm.Term.static "SoleReader" "TERM_MOST" "[I")) (Jvm.Term.int (3 : Int32)))).before args s = true := z_a1 (z_a1 (z_a2 (z_a1 (z_a1 (z_a1 (z_a1 (z_a1 (h))))))))
theorem nv_2 {args : Array Value} {s : State} (h : narrow_1.before args s = true) : ((Jvm.Cond.eq (Jvm.Term.elem (Jvm.Term.static "SoleReader" "TERM_MOST" "[I") (Jvm.Term.int (0 : Int32))) (Jvm.Term.int (999 : Int32)))).before args s = true := z_a2 (z_a1 (z_a2 (z_a1 (z_a1 (z_a1 (z_a1 (z_a1 (h))))))))
theorem nv_3 {args : Array Value} {s : State} (h : narrow_1.before args s = true) : ((Jvm.Cond.eq (Jvm.Term.elem (Jvm.Term.static "SoleReader" "TERM_MOST" "[I") (Jvm.Term.int (1 : Int32))) (Jvm.Term.int (10 : Int32)))).before args s = true := z_a1 (z_a2 (z_a2 (z_a1 (z_a1 (z_a1 (z_a1 (z_a1 (h))))))))
theorem nv_4 {args : Array Value} {s : State} (h : narrow_1.before args s = true) : ((Jvm.Cond.eq (Jvm.Term.elem (Jvm.Term.static "SoleReader" "TERM_MOST" "[I") (Jvm.Term.int (2 : Int32))) (Jvm.Term.int (9 : Int32)))).before args s = true := z_a1 (z_a2 (z_a2 (z_a2 (z_a1 (z_a1 (z_a1 (z_a1 (z_a1 (h)))))))))
theorem nv_5 {args : Array Value} {s : State} (h : narrow_1.before args s = true) : ((Jvm.Cond.arrayOf (Jvm.Term.static "SoleReader" "REFUSALS" "[I") Jvm.ClassFile.FieldType.int)).before args s = true := z_a1 (z_a2 (z_a2 (z_a2 (z_a1 (z_a2 (z_a1 (z_a1 (z_a1 (h)))))))))
theorem nv_6 {args : Array Value} {s : State} (h : narrow_1.before args s = true) : ((Jvm.Cond.eq (Jvm.Term.length (Jvm.Term.static "SoleReader" "REFUSALS" "[I")) (Jvm.Term.int (5 : Int32)))).before args s = true := z_a2 (z_a2 (z_a2 (z_a2 (z_a1 (z_a2 (z_a1 (z_a1 (z_a1 (h)))))))))
theorem nv_7 {args : Array Value} {s : State} (h : narrow_1.before args s = true) : ((Jvm.Cond.eq (Jvm.Term.elem (Jvm.Term.static "SoleReader" "REFUSALS" "[I") (Jvm.Term.int (0 : Int32))) (Jvm.Term.int (1 : Int32)))).before args s = true := z_a1 (z_a1 (z_a1 (z_a2 (z_a2 (z_a1 (z_a1 (z_a1 (h))))))))
theorem nv_8 {args : Array Value} {s : State} (h : narrow_1.before args s = true) : ((Jvm.Cond.eq (Jvm.Term.elem (Jvm.Term.static "SoleReader" "REFUSALS" "[I") (Jvm.Term.int (1 : Int32))) (Jvm.Term.int (2 : Int32)))).before args s = true := z_a2 (z_a1 (z_a1 (z_a2 (z_a2 (z_a1 (z_a1 (z_a1 (h))))))))
theorem nv_9 {args : Array Value} {s : State} (h : narrow_1.before args s = true) : ((Jvm.Cond.eq (Jvm.Term.elem (Jvm.Term.static "SoleReader" "REFUSALS" "[I") (Jvm.Term.int (2 : Int32))) (Jvm.Term.int (3 : Int32)))).before args s = true := z_a1 (z_a2 (z_a1 (z_a2 (z_a2 (z_a1 (z_a1 (z_a1 (h))))))))
theorem nv_10 {args : Array Value} {s : State} (h : narrow_1.before args s = true) : ((Jvm.Cond.eq (Jvm.Term.elem (Jvm.Term.static "SoleReader" "REFUSALS" "[I") (Jvm.Term.int (3 : Int32))) (Jvm.Term.int (5 : Int32)))).before args s = true := z_a1 (z_a2 (z_a2 (z_a1 (z_a2 (z_a2 (z_a1 (z_a1 (z_a1 (h)))))))))
theorem nv_11 {args : Array Value} {s : State} (h : narrow_1.before args s = true) : ((Jvm.Cond.eq (Jvm.Term.elem (Jvm.Term.static "SoleReader" "REFUSALS" "[I") (Jvm.Term.int (4 : Int32))) (Jvm.Term.int (6 : Int32)))).before args s = true := z_a2 (z_a2 (z_a2 (z_a1 (z_a2 (z_a2 (z_a1 (z_a1 (z_a1 (h)))))))))
theorem nv_12 {args : Array Value} {s : State} (h : narrow_1.before args s = true) : ((Jvm.Cond.arrayOf (Jvm.Term.static "SoleReader" "SUMS_OF_VERB" "[I") Jvm.ClassFile.FieldType.int)).before args s = true := z_a2 (z_a1 (z_a2 (z_a2 (z_a1 (z_a1 (z_a1 (z_a1 (h))))))))
theorem nv_13 {args : Array Value} {s : State} (h : narrow_1.before args s = true) : ((Jvm.Cond.eq (Jvm.Term.length (Jvm.Term.static "SoleReader" "SUMS_OF_VERB" "[I")) (Jvm.Term.int (8 : Int32)))).before args s = true := z_a1 (z_a2 (z_a2 (z_a2 (z_a1 (z_a1 (z_a1 (z_a1 (h))))))))
theorem nv_14 {args : Array Value} {s : State} (h : narrow_1.before args s = true) : ((Jvm.Cond.eq (Jvm.Term.elem (Jvm.Term.static "SoleReader" "SUMS_OF_VERB" "[I") (Jvm.Term.int (0 : Int32))) (Jvm.Term.int (1 : Int32)))).before args s = true := z_a1 (z_a2 (z_a2 (z_a2 (z_a2 (z_a1 (z_a1 (z_a1 (z_a1 (h)))))))))
theorem nv_15 {args : Array Value} {s : State} (h : narrow_1.before args s = true) : ((Jvm.Cond.eq (Jvm.Term.elem (Jvm.Term.static "SoleReader" "SUMS_OF_VERB" "[I") (Jvm.Term.int (1 : Int32))) (Jvm.Term.int (2 : Int32)))).before args s = true := z_a2 (z_a2 (z_a2 (z_a2 (z_a2 (z_a1 (z_a1 (z_a1 (z_a1 (h)))))))))
theorem nv_16 {args : Array Value} {s : State} (h : narrow_1.before args s = true) : ((Jvm.Cond.eq (Jvm.Term.elem (Jvm.Term.static "SoleReader" "SUMS_OF_VERB" "[I") (Jvm.Term.int (2 : Int32))) (Jvm.Term.int (1 : Int32)))).before args s = true := z_a1 (z_a1 (z_a1 (z_a1 (z_a2 (z_a1 (z_a1 (z_a1 (h))))))))
theorem nv_17 {args : Array Value} {s : State} (h : narrow_1.before args s = true) : ((Jvm.Cond.eq (Jvm.Term.elem (Jvm.Term.static "SoleReader" "SUMS_OF_VERB" "[I") (Jvm.Term.int (3 : Int32))) (Jvm.Term.int (2 : Int32)))).before args s = true := z_a2 (z_a1 (z_a1 (z_a1 (z_a2 (z_a1 (z_a1 (z_a1 (h))))))))
theorem nv_18 {args : Array Value} {s : State} (h : narrow_1.before args s = true) : ((Jvm.Cond.eq (Jvm.Term.elem (Jvm.Term.static "SoleReader" "SUMS_OF_VERB" "[I") (Jvm.Term.int (4 : Int32))) (Jvm.Term.int (0 : Int32)))).before args s = true := z_a1 (z_a2 (z_a1 (z_a1 (z_a2 (z_a1 (z_a1 (z_a1 (h))))))))
theorem nv_19 {args : Array Value} {s : State} (h : narrow_1.before args s = true) : ((Jvm.Cond.eq (Jvm.Term.elem (Jvm.Term.static "SoleReader" "SUMS_OF_VERB" "[I") (Jvm.Term.int (5 : Int32))) (Jvm.Term.int (1 : Int32)))).before args s = true := z_a2 (z_a2 (z_a1 (z_a1 (z_a2 (z_a1 (z_a1 (z_a1 (h))))))))
theorem nv_20 {args : Array Value} {s : State} (h : narrow_1.before args s = true) : ((Jvm.Cond.eq (Jvm.Term.elem (Jvm.Term.static "SoleReader" "SUMS_OF_VERB" "[I") (Jvm.Term.int (6 : Int32))) (Jvm.Term.int (1 : Int32)))).before args s = true := z_a1 (z_a1 (z_a2 (z_a1 (z_a2 (z_a1 (z_a1 (z_a1 (h))))))))
theorem nv_21 {args : Array Value} {s : State} (h : narrow_1.before args s = true) : ((Jvm.Cond.eq (Jvm.Term.elem (Jvm.Term.static "SoleReader" "SUMS_OF_VERB" "[I") (Jvm.Term.int (7 : Int32))) (Jvm.Term.int (0 : Int32)))).before args s = true := z_a2 (z_a1 (z_a2 (z_a1 (z_a2 (z_a1 (z_a1 (z_a1 (h))))))))
theorem nv_22 {args : Array Value} {s : State} (h : narrow_1.before args s = true) : ((Jvm.Cond.eq (Jvm.Term.static "java/lang/String" "COMPACT_STRINGS" "Z") (Jvm.Term.int (1 : Int32)))).before args s = true := z_a2 (z_a2 (z_a2 (z_a2 (z_a1 (z_a1 (z_a1 (z_a1 (z_a1 (h)))))))))
theorem nv_23 {args : Array Value} {s : State} (h : narrow_1.before args s = true) : ((Jvm.Cond.isRef (Jvm.Term.static "jdk/internal/util/Preconditions" "SIOOBE_FORMATTER" "Ljava/util/function/BiFunction;"))).before args s = true := z_a1 (z_a1 (z_a1 (z_a2 (z_a1 (z_a1 (z_a1 (z_a1 (h))))))))
theorem nv_24 {args : Array Value} {s : State} (h : narrow_1.before args s = true) : ((Jvm.Cond.exactly (Jvm.Term.string "SoleReader$Reader" (101 : Nat)) "java/lang/String")).before args s = true := z_a2 (z_a1 (z_a1 (z_a1 (z_a2 (z_a2 (z_a1 (z_a1 (h))))))))
theorem nv_25 {args : Array Value} {s : State} (h : narrow_1.before args s = true) : ((Jvm.Cond.exactly (Jvm.Term.string "SoleReader$Reader" (103 : Nat)) "java/lang/String")).before args s = true := z_a1 (z_a2 (z_a1 (z_a2 (z_a1 (z_a1 (z_a2 (z_a1 (h))))))))
theorem nv_26 {args : Array Value} {s : State} (h : narrow_1.before args s = true) : ((Jvm.Cond.exactly (Jvm.Term.string "SoleReader$Reader" (162 : Nat)) "java/lang/String")).before args s = true := z_a2 (z_a1 (z_a2 (z_a2 (z_a2 (z_a1 (z_a2 (z_a1 (h))))))))
theorem nv_27 {args : Array Value} {s : State} (h : narrow_1.before args s = true) : ((Jvm.Cond.exactly (Jvm.Term.string "SoleReader$Reader" (164 : Nat)) "java/lang/String")).before args s = true := z_a1 (z_a2 (z_a2 (z_a1 (z_a1 (z_a1 (z_a1 (z_a2 (h))))))))
theorem nv_28 {args : Array Value} {s : State} (h : narrow_1.before args s = true) : ((Jvm.Cond.exactly (Jvm.Term.string "SoleReader$Reader" (118 : Nat)) "java/lang/String")).before args s = true := z_a2 (z_a2 (z_a1 (z_a2 (z_a1 (z_a2 (z_a1 (z_a2 (h))))))))
theorem nv_29 {args : Array Value} {s : State} (h : narrow_1.before args s = true) : ((Jvm.Cond.exactly (Jvm.Term.string "SoleReader$Reader" (119 : Nat)) "java/lang/String")).before args s = true := z_a1 (z_a1 (z_a2 (z_a1 (z_a2 (z_a2 (z_a1 (z_a2 (h))))))))
theorem nv_30 {args : Array Value} {s : State} (h : narrow_1.before args s = true) : ((Jvm.Cond.exactly (Jvm.Term.string "SoleReader$Reader" (124 : Nat)) "java/lang/String")).before args s = true := z_a2 (z_a1 (z_a2 (z_a2 (z_a2 (z_a2 (z_a1 (z_a2 (h))))))))
theorem nv_31 {args : Array Value} {s : State} (h : narrow_1.before args s = true) : ((Jvm.Cond.exactly (Jvm.Term.string "SoleReader$Reader" (129 : Nat)) "java/lang/String")).before args s = true := z_a1 (z_a2 (z_a1 (z_a2 (z_a1 (z_a1 (z_a2 (z_a2 (h))))))))
theorem nv_32 {args : Array Value} {s : State} (h : narrow_1.before args s = true) : ((Jvm.Cond.exactly (Jvm.Term.string "SoleReader$Reader" (151 : Nat)) "java/lang/String")).before args s = true := z_a1 (z_a2 (z_a2 (z_a1 (z_a2 (z_a1 (z_a2 (z_a2 (h))))))))
theorem nv_33 {args : Array Value} {s : State} (h : narrow_1.before args s = true) : ((Jvm.Cond.exactly (Jvm.Term.string "SoleReader$Reader" (149 : Nat)) "java/lang/String")).before args s = true := z_a1 (z_a2 (z_a1 (z_a1 (z_a1 (z_a2 (z_a2 (z_a2 (h))))))))
theorem nv_34 {args : Array Value} {s : State} (h : narrow_1.before args s = true) : ((Jvm.Cond.exactly (Jvm.Term.string "SoleReader$Reader" (137 : Nat)) "java/lang/String")).before args s = true := z_a1 (z_a1 (z_a1 (z_a1 (z_a2 (z_a2 (z_a2 (z_a2 (h))))))))
theorem nv_35 {args : Array Value} {s : State} (h : narrow_1.before args s = true) : ((Jvm.Cond.eq (Jvm.Term.field (Jvm.Term.string "SoleReader$Reader" (101 : Nat)) "java/lang/String" "coder" "B") (Jvm.Term.int (0 : Int32)))).before args s = true := z_a1 (z_a2 (z_a1 (z_a1 (z_a2 (z_a2 (z_a1 (z_a1 (h))))))))
theorem nv_36 {args : Array Value} {s : State} (h : narrow_1.before args s = true) : ((Jvm.Cond.eq (Jvm.Term.field (Jvm.Term.string "SoleReader$Reader" (103 : Nat)) "java/lang/String" "coder" "B") (Jvm.Term.int (0 : Int32)))).before args s = true := z_a2 (z_a2 (z_a1 (z_a2 (z_a1 (z_a1 (z_a2 (z_a1 (h))))))))
theorem nv_37 {args : Array Value} {s : State} (h : narrow_1.before args s = true) : ((Jvm.Cond.eq (Jvm.Term.field (Jvm.Term.string "SoleReader$Reader" (162 : Nat)) "java/lang/String" "coder" "B") (Jvm.Term.int (0 : Int32)))).before args s = true := z_a1 (z_a2 (z_a2 (z_a2 (z_a2 (z_a1 (z_a2 (z_a1 (h))))))))
theorem nv_38 {args : Array Value} {s : State} (h : narrow_1.before args s = true) : ((Jvm.Cond.eq (Jvm.Term.field (Jvm.Term.string "SoleReader$Reader" (164 : Nat)) "java/lang/String" "coder" "B") (Jvm.Term.int (0 : Int32)))).before args s = true := z_a1 (z_a2 (z_a2 (z_a2 (z_a1 (z_a1 (z_a1 (z_a1 (z_a2 (h)))))))))
theorem nv_39 {args : Array Value} {s : State} (h : narrow_1.before args s = true) : ((Jvm.Cond.eq (Jvm.Term.field (Jvm.Term.string "SoleReader$Reader" (118 : Nat)) "java/lang/String" "coder" "B") (Jvm.Term.int (0 : Int32)))).before args s = true := z_a1 (z_a1 (z_a2 (z_a2 (z_a1 (z_a2 (z_a1 (z_a2 (h))))))))
theorem nv_40 {args : Array Value} {s : State} (h : narrow_1.before args s = true) : ((Jvm.Cond.eq (Jvm.Term.field (Jvm.Term.string "SoleReader$Reader" (119 : Nat)) "java/lang/String" "coder" "B") (Jvm.Term.int (0 : Int32)))).before args s = true := z_a2 (z_a1 (z_a2 (z_a1 (z_a2 (z_a2 (z_a1 (z_a2 (h))))))))
theorem nv_41 {args : Array Value} {s : State} (h : narrow_1.before args s = true) : ((Jvm.Cond.eq (Jvm.Term.field (Jvm.Term.string "SoleReader$Reader" (124 : Nat)) "java/lang/String" "coder" "B") (Jvm.Term.int (0 : Int32)))).before args s = true := z_a1 (z_a2 (z_a2 (z_a2 (z_a2 (z_a2 (z_a1 (z_a2 (h))))))))
theorem nv_42 {args : Array Value} {s : State} (h : narrow_1.before args s = true) : ((Jvm.Cond.eq (Jvm.Term.field (Jvm.Term.string "SoleReader$Reader" (129 : Nat)) "java/lang/String" "coder" "B") (Jvm.Term.int (0 : Int32)))).before args s = true := z_a2 (z_a2 (z_a1 (z_a2 (z_a1 (z_a1 (z_a2 (z_a2 (h))))))))
theorem nv_43 {args : Array Value} {s : State} (h : narrow_1.before args s = true) : ((Jvm.Cond.eq (Jvm.Term.field (Jvm.Term.string "SoleReader$Reader" (151 : Nat)) "java/lang/String" "coder" "B") (Jvm.Term.int (0 : Int32)))).before args s = true := z_a1 (z_a2 (z_a2 (z_a2 (z_a1 (z_a2 (z_a1 (z_a2 (z_a2 (h)))))))))
theorem nv_44 {args : Array Value} {s : State} (h : narrow_1.before args s = true) : ((Jvm.Cond.eq (Jvm.Term.field (Jvm.Term.string "SoleReader$Reader" (149 : Nat)) "java/lang/String" "coder" "B") (Jvm.Term.int (0 : Int32)))).before args s = true := z_a2 (z_a2 (z_a1 (z_a1 (z_a1 (z_a2 (z_a2 (z_a2 (h))))))))
theorem nv_45 {args : Array Value} {s : State} (h : narrow_1.before args s = true) : ((Jvm.Cond.eq (Jvm.Term.field (Jvm.Term.string "SoleReader$Reader" (137 : Nat)) "java/lang/String" "coder" "B") (Jvm.Term.int (0 : Int32)))).before args s = true := z_a2 (z_a1 (z_a1 (z_a1 (z_a2 (z_a2 (z_a2 (z_a2 (h))))))))
theorem nv_46 {args : Array Value} {s : State} (h : narrow_1.before args s = true) : ((Jvm.Cond.arrayOf (Jvm.Term.field (Jvm.Term.string "SoleReader$Reader" (101 : Nat)) "java/lang/String" "value" "[B") Jvm.ClassFile.FieldType.byte)).before args s = true := z_a2 (z_a2 (z_a1 (z_a1 (z_a2 (z_a2 (z_a1 (z_a1 (h))))))))
theorem nv_47 {args : Array Value} {s : State} (h : narrow_1.before args s = true) : ((Jvm.Cond.arrayOf (Jvm.Term.field (Jvm.Term.string "SoleReader$Reader" (103 : Nat)) "java/lang/String" "value" "[B") Jvm.ClassFile.FieldType.byte)).before args s = true := z_a1 (z_a1 (z_a2 (z_a2 (z_a1 (z_a1 (z_a2 (z_a1 (h))))))))
theorem nv_48 {args : Array Value} {s : State} (h : narrow_1.before args s = true) : ((Jvm.Cond.arrayOf (Jvm.Term.field (Jvm.Term.string "SoleReader$Reader" (162 : Nat)) "java/lang/String" "value" "[B") Jvm.ClassFile.FieldType.byte)).before args s = true := z_a1 (z_a2 (z_a2 (z_a2 (z_a2 (z_a2 (z_a1 (z_a2 (z_a1 (h)))))))))
theorem nv_49 {args : Array Value} {s : State} (h : narrow_1.before args s = true) : ((Jvm.Cond.arrayOf (Jvm.Term.field (Jvm.Term.string "SoleReader$Reader" (164 : Nat)) "java/lang/String" "value" "[B") Jvm.ClassFile.FieldType.byte)).before args s = true := z_a2 (z_a2 (z_a2 (z_a2 (z_a1 (z_a1 (z_a1 (z_a1 (z_a2 (h)))))))))
theorem nv_50 {args : Array Value} {s : State} (h : narrow_1.before args s = true) : ((Jvm.Cond.arrayOf (Jvm.Term.field (Jvm.Term.string "SoleReader$Reader" (118 : Nat)) "java/lang/String" "value" "[B") Jvm.ClassFile.FieldType.byte)).before args s = true := z_a2 (z_a1 (z_a2 (z_a2 (z_a1 (z_a2 (z_a1 (z_a2 (h))))))))
theorem nv_51 {args : Array Value} {s : State} (h : narrow_1.before args s = true) : ((Jvm.Cond.arrayOf (Jvm.Term.field (Jvm.Term.string "SoleReader$Reader" (119 : Nat)) "java/lang/String" "value" "[B") Jvm.ClassFile.FieldType.byte)).before args s = true := z_a1 (z_a2 (z_a2 (z_a1 (z_a2 (z_a2 (z_a1 (z_a2 (h))))))))
theorem nv_52 {args : Array Value} {s : State} (h : narrow_1.before args s = true) : ((Jvm.Cond.arrayOf (Jvm.Term.field (Jvm.Term.string "SoleReader$Reader" (124 : Nat)) "java/lang/String" "value" "[B") Jvm.ClassFile.FieldType.byte)).before args s = true := z_a1 (z_a2 (z_a2 (z_a2 (z_a2 (z_a2 (z_a2 (z_a1 (z_a2 (h)))))))))
theorem nv_53 {args : Array Value} {s : State} (h : narrow_1.before args s = true) : ((Jvm.Cond.arrayOf (Jvm.Term.field (Jvm.Term.string "SoleReader$Reader" (129 : Nat)) "java/lang/String" "value" "[B") Jvm.ClassFile.FieldType.byte)).before args s = true := z_a1 (z_a1 (z_a2 (z_a2 (z_a1 (z_a1 (z_a2 (z_a2 (h))))))))
theorem nv_54 {args : Array Value} {s : State} (h : narrow_1.before args s = true) : ((Jvm.Cond.arrayOf (Jvm.Term.field (Jvm.Term.string "SoleReader$Reader" (151 : Nat)) "java/lang/String" "value" "[B") Jvm.ClassFile.FieldType.byte)).before args s = true := z_a2 (z_a2 (z_a2 (z_a2 (z_a1 (z_a2 (z_a1 (z_a2 (z_a2 (h)))))))))
theorem nv_55 {args : Array Value} {s : State} (h : narrow_1.before args s = true) : ((Jvm.Cond.arrayOf (Jvm.Term.field (Jvm.Term.string "SoleReader$Reader" (149 : Nat)) "java/lang/String" "value" "[B") Jvm.ClassFile.FieldType.byte)).before args s = true := z_a1 (z_a1 (z_a2 (z_a1 (z_a1 (z_a2 (z_a2 (z_a2 (h))))))))
theorem nv_56 {args : Array Value} {s : State} (h : narrow_1.before args s = true) : ((Jvm.Cond.arrayOf (Jvm.Term.field (Jvm.Term.string "SoleReader$Reader" (137 : Nat)) "java/lang/String" "value" "[B") Jvm.ClassFile.FieldType.byte)).before args s = true := z_a1 (z_a2 (z_a1 (z_a1 (z_a2 (z_a2 (z_a2 (z_a2 (h))))))))
theorem nv_57 {args : Array Value} {s : State} (h : narrow_1.before args s = true) : ((Jvm.Cond.eq (Jvm.Term.length (Jvm.Term.field (Jvm.Term.string "SoleReader$Reader" (101 : Nat)) "java/lang/String" "value" "[B")) (Jvm.Term.int (25 : Int32)))).before args s = true := z_a1 (z_a1 (z_a2 (z_a1 (z_a2 (z_a2 (z_a1 (z_a1 (h))))))))
theorem nv_58 {args : Array Value} {s : State} (h : narrow_1.before args s = true) : ((Jvm.Cond.eq (Jvm.Term.length (Jvm.Term.field (Jvm.Term.string "SoleReader$Reader" (103 : Nat)) "java/lang/String" "value" "[B")) (Jvm.Term.int (17 : Int32)))).before args s = true := z_a2 (z_a1 (z_a2 (z_a2 (z_a1 (z_a1 (z_a2 (z_a1 (h))))))))
theorem nv_59 {args : Array Value} {s : State} (h : narrow_1.before args s = true) : ((Jvm.Cond.eq (Jvm.Term.length (Jvm.Term.field (Jvm.Term.string "SoleReader$Reader" (162 : Nat)) "java/lang/String" "value" "[B")) (Jvm.Term.int (41 : Int32)))).before args s = true := z_a2 (z_a2 (z_a2 (z_a2 (z_a2 (z_a2 (z_a1 (z_a2 (z_a1 (h)))))))))
theorem nv_60 {args : Array Value} {s : State} (h : narrow_1.before args s = true) : ((Jvm.Cond.eq (Jvm.Term.length (Jvm.Term.field (Jvm.Term.string "SoleReader$Reader" (164 : Nat)) "java/lang/String" "value" "[B")) (Jvm.Term.int (36 : Int32)))).before args s = true := z_a1 (z_a1 (z_a1 (z_a2 (z_a1 (z_a1 (z_a1 (z_a2 (h))))))))
theorem nv_61 {args : Array Value} {s : State} (h : narrow_1.before args s = true) : ((Jvm.Cond.eq (Jvm.Term.length (Jvm.Term.field (Jvm.Term.string "SoleReader$Reader" (118 : Nat)) "java/lang/String" "value" "[B")) (Jvm.Term.int (2 : Int32)))).before args s = true := z_a1 (z_a2 (z_a2 (z_a2 (z_a1 (z_a2 (z_a1 (z_a2 (h))))))))
theorem nv_62 {args : Array Value} {s : State} (h : narrow_1.before args s = true) : ((Jvm.Cond.eq (Jvm.Term.length (Jvm.Term.field (Jvm.Term.string "SoleReader$Reader" (119 : Nat)) "java/lang/String" "value" "[B")) (Jvm.Term.int (2 : Int32)))).before args s = true := z_a1 (z_a2 (z_a2 (z_a2 (z_a1 (z_a2 (z_a2 (z_a1 (z_a2 (h)))))))))
theorem nv_63 {args : Array Value} {s : State} (h : narrow_1.before args s = true) : ((Jvm.Cond.eq (Jvm.Term.length (Jvm.Term.field (Jvm.Term.string "SoleReader$Reader" (124 : Nat)) "java/lang/String" "value" "[B")) (Jvm.Term.int (5 : Int32)))).before args s = true := z_a2 (z_a2 (z_a2 (z_a2 (z_a2 (z_a2 (z_a2 (z_a1 (z_a2 (h)))))))))
theorem nv_64 {args : Array Value} {s : State} (h : narrow_1.before args s = true) : ((Jvm.Cond.eq (Jvm.Term.length (Jvm.Term.field (Jvm.Term.string "SoleReader$Reader" (129 : Nat)) "java/lang/String" "value" "[B")) (Jvm.Term.int (2 : Int32)))).before args s = true := z_a2 (z_a1 (z_a2 (z_a2 (z_a1 (z_a1 (z_a2 (z_a2 (h))))))))
theorem nv_65 {args : Array Value} {s : State} (h : narrow_1.before args s = true) : ((Jvm.Cond.eq (Jvm.Term.length (Jvm.Term.field (Jvm.Term.string "SoleReader$Reader" (151 : Nat)) "java/lang/String" "value" "[B")) (Jvm.Term.int (3 : Int32)))).before args s = true := z_a1 (z_a1 (z_a1 (z_a2 (z_a2 (z_a1 (z_a2 (z_a2 (h))))))))
theorem nv_66 {args : Array Value} {s : State} (h : narrow_1.before args s = true) : ((Jvm.Cond.eq (Jvm.Term.length (Jvm.Term.field (Jvm.Term.string "SoleReader$Reader" (149 : Nat)) "java/lang/String" "value" "[B")) (Jvm.Term.int (3 : Int32)))).before args s = true := z_a2 (z_a1 (z_a2 (z_a1 (z_a1 (z_a2 (z_a2 (z_a2 (h))))))))
theorem nv_67 {args : Array Value} {s : State} (h : narrow_1.before args s = true) : ((Jvm.Cond.eq (Jvm.Term.length (Jvm.Term.field (Jvm.Term.string "SoleReader$Reader" (137 : Nat)) "java/lang/String" "value" "[B")) (Jvm.Term.int (2 : Int32)))).before args s = true := z_a2 (z_a2 (z_a1 (z_a1 (z_a2 (z_a2 (z_a2 (z_a2 (h))))))))
theorem nv_68 {args : Array Value} {s : State} (h : narrow_1.before args s = true) : ((Jvm.Cond.eq (Jvm.Term.elem (Jvm.Term.field (Jvm.Term.string "SoleReader$Reader" (101 : Nat)) "java/lang/String" "value" "[B") (Jvm.Term.int (0 : Int32))) (Jvm.Term.int (115 : Int32)))).before args s = true := z_a2 (z_a1 (z_a2 (z_a1 (z_a2 (z_a2 (z_a1 (z_a1 (h))))))))
theorem nv_69 {args : Array Value} {s : State} (h : narrow_1.before args s = true) : ((Jvm.Cond.eq (Jvm.Term.elem (Jvm.Term.field (Jvm.Term.string "SoleReader$Reader" (101 : Nat)) "java/lang/String" "value" "[B") (Jvm.Term.int (1 : Int32))) (Jvm.Term.int (116 : Int32)))).before args s = true := z_a1 (z_a2 (z_a2 (z_a1 (z_a2 (z_a2 (z_a1 (z_a1 (h))))))))
theorem nv_70 {args : Array Value} {s : State} (h : narrow_1.before args s = true) : ((Jvm.Cond.eq (Jvm.Term.elem (Jvm.Term.field (Jvm.Term.string "SoleReader$Reader" (101 : Nat)) "java/lang/String" "value" "[B") (Jvm.Term.int (2 : Int32))) (Jvm.Term.int (101 : Int32)))).before args s = true := z_a1 (z_a2 (z_a2 (z_a2 (z_a1 (z_a2 (z_a2 (z_a1 (z_a1 (h)))))))))
theorem nv_71 {args : Array Value} {s : State} (h : narrow_1.before args s = true) : ((Jvm.Cond.eq (Jvm.Term.elem (Jvm.Term.field (Jvm.Term.string "SoleReader$Reader" (101 : Nat)) "java/lang/String" "value" "[B") (Jvm.Term.int (3 : Int32))) (Jvm.Term.int (112 : Int32)))).before args s = true := z_a2 (z_a2 (z_a2 (z_a2 (z_a1 (z_a2 (z_a2 (z_a1 (z_a1 (h)))))))))
theorem nv_72 {args : Array Value} {s : State} (h : narrow_1.before args s = true) : ((Jvm.Cond.eq (Jvm.Term.elem (Jvm.Term.field (Jvm.Term.string "SoleReader$Reader" (101 : Nat)) "java/lang/String" "value" "[B") (Jvm.Term.int (4 : Int32))) (Jvm.Term.int (32 : Int32)))).before args s = true := z_a1 (z_a1 (z_a1 (z_a2 (z_a2 (z_a2 (z_a1 (z_a1 (h))))))))
theorem nv_73 {args : Array Value} {s : State} (h : narrow_1.before args s = true) : ((Jvm.Cond.eq (Jvm.Term.elem (Jvm.Term.field (Jvm.Term.string "SoleReader$Reader" (101 : Nat)) "java/lang/String" "value" "[B") (Jvm.Term.int (5 : Int32))) (Jvm.Term.int (116 : Int32)))).before args s = true := z_a2 (z_a1 (z_a1 (z_a2 (z_a2 (z_a2 (z_a1 (z_a1 (h))))))))
theorem nv_74 {args : Array Value} {s : State} (h : narrow_1.before args s = true) : ((Jvm.Cond.eq (Jvm.Term.elem (Jvm.Term.field (Jvm.Term.string "SoleReader$Reader" (101 : Nat)) "java/lang/String" "value" "[B") (Jvm.Term.int (6 : Int32))) (Jvm.Term.int (117 : Int32)))).before args s = true := z_a1 (z_a2 (z_a1 (z_a2 (z_a2 (z_a2 (z_a1 (z_a1 (h))))))))
theorem nv_75 {args : Array Value} {s : State} (h : narrow_1.before args s = true) : ((Jvm.Cond.eq (Jvm.Term.elem (Jvm.Term.field (Jvm.Term.string "SoleReader$Reader" (101 : Nat)) "java/lang/String" "value" "[B") (Jvm.Term.int (7 : Int32))) (Jvm.Term.int (114 : Int32)))).before args s = true := z_a1 (z_a2 (z_a2 (z_a1 (z_a2 (z_a2 (z_a2 (z_a1 (z_a1 (h)))))))))
theorem nv_76 {args : Array Value} {s : State} (h : narrow_1.before args s = true) : ((Jvm.Cond.eq (Jvm.Term.elem (Jvm.Term.field (Jvm.Term.string "SoleReader$Reader" (101 : Nat)) "java/lang/String" "value" "[B") (Jvm.Term.int (8 : Int32))) (Jvm.Term.int (110 : Int32)))).before args s = true := z_a2 (z_a2 (z_a2 (z_a1 (z_a2 (z_a2 (z_a2 (z_a1 (z_a1 (h)))))))))
theorem nv_77 {args : Array Value} {s : State} (h : narrow_1.before args s = true) : ((Jvm.Cond.eq (Jvm.Term.elem (Jvm.Term.field (Jvm.Term.string "SoleReader$Reader" (101 : Nat)) "java/lang/String" "value" "[B") (Jvm.Term.int (9 : Int32))) (Jvm.Term.int (32 : Int32)))).before args s = true := z_a1 (z_a1 (z_a2 (z_a2 (z_a2 (z_a2 (z_a1 (z_a1 (h))))))))
theorem nv_78 {args : Array Value} {s : State} (h : narrow_1.before args s = true) : ((Jvm.Cond.eq (Jvm.Term.elem (Jvm.Term.field (Jvm.Term.string "SoleReader$Reader" (101 : Nat)) "java/lang/String" "value" "[B") (Jvm.Term.int (10 : Int32))) (Jvm.Term.int (112 : Int32)))).before args s = true := z_a2 (z_a1 (z_a2 (z_a2 (z_a2 (z_a2 (z_a1 (z_a1 (h))))))))
theorem nv_79 {args : Array Value} {s : State} (h : narrow_1.before args s = true) : ((Jvm.Cond.eq (Jvm.Term.elem (Jvm.Term.field (Jvm.Term.string "SoleReader$Reader" (101 : Nat)) "java/lang/String" "value" "[B") (Jvm.Term.int (11 : Int32))) (Jvm.Term.int (97 : Int32)))).before args s = true := z_a1 (z_a2 (z_a2 (z_a2 (z_a2 (z_a2 (z_a1 (z_a1 (h))))))))
theorem nv_80 {args : Array Value} {s : State} (h : narrow_1.before args s = true) : ((Jvm.Cond.eq (Jvm.Term.elem (Jvm.Term.field (Jvm.Term.string "SoleReader$Reader" (101 : Nat)) "java/lang/String" "value" "[B") (Jvm.Term.int (12 : Int32))) (Jvm.Term.int (117 : Int32)))).before args s = true := z_a1 (z_a2 (z_a2 (z_a2 (z_a2 (z_a2 (z_a2 (z_a1 (z_a1 (h)))))))))
theorem nv_81 {args : Array Value} {s : State} (h : narrow_1.before args s = true) : ((Jvm.Cond.eq (Jvm.Term.elem (Jvm.Term.field (Jvm.Term.string "SoleReader$Reader" (101 : Nat)) "java/lang/String" "value" "[B") (Jvm.Term.int (13 : Int32))) (Jvm.Term.int (115 : Int32)))).before args s = true := z_a2 (z_a2 (z_a2 (z_a2 (z_a2 (z_a2 (z_a2 (z_a1 (z_a1 (h)))))))))
theorem nv_82 {args : Array Value} {s : State} (h : narrow_1.before args s = true) : ((Jvm.Cond.eq (Jvm.Term.elem (Jvm.Term.field (Jvm.Term.string "SoleReader$Reader" (101 : Nat)) "java/lang/String" "value" "[B") (Jvm.Term.int (14 : Int32))) (Jvm.Term.int (101 : Int32)))).before args s = true := z_a1 (z_a1 (z_a1 (z_a1 (z_a1 (z_a1 (z_a2 (z_a1 (h))))))))
theorem nv_83 {args : Array Value} {s : State} (h : narrow_1.before args s = true) : ((Jvm.Cond.eq (Jvm.Term.elem (Jvm.Term.field (Jvm.Term.string "SoleReader$Reader" (101 : Nat)) "java/lang/String" "value" "[B") (Jvm.Term.int (15 : Int32))) (Jvm.Term.int (32 : Int32)))).before args s = true := z_a2 (z_a1 (z_a1 (z_a1 (z_a1 (z_a1 (z_a2 (z_a1 (h))))))))
theorem nv_84 {args : Array Value} {s : State} (h : narrow_1.before args s = true) : ((Jvm.Cond.eq (Jvm.Term.elem (Jvm.Term.field (Jvm.Term.string "SoleReader$Reader" (101 : Nat)) "java/lang/String" "value" "[B") (Jvm.Term.int (16 : Int32))) (Jvm.Term.int (109 : Int32)))).before args s = true := z_a1 (z_a2 (z_a1 (z_a1 (z_a1 (z_a1 (z_a2 (z_a1 (h))))))))
theorem nv_85 {args : Array Value} {s : State} (h : narrow_1.before args s = true) : ((Jvm.Cond.eq (Jvm.Term.elem (Jvm.Term.field (Jvm.Term.string "SoleReader$Reader" (101 : Nat)) "java/lang/String" "value" "[B") (Jvm.Term.int (17 : Int32))) (Jvm.Term.int (101 : Int32)))).before args s = true := z_a2 (z_a2 (z_a1 (z_a1 (z_a1 (z_a1 (z_a2 (z_a1 (h))))))))
theorem nv_86 {args : Array Value} {s : State} (h : narrow_1.before args s = true) : ((Jvm.Cond.eq (Jvm.Term.elem (Jvm.Term.field (Jvm.Term.string "SoleReader$Reader" (101 : Nat)) "java/lang/String" "value" "[B") (Jvm.Term.int (18 : Int32))) (Jvm.Term.int (110 : Int32)))).before args s = true := z_a1 (z_a1 (z_a2 (z_a1 (z_a1 (z_a1 (z_a2 (z_a1 (h))))))))
theorem nv_87 {args : Array Value} {s : State} (h : narrow_1.before args s = true) : ((Jvm.Cond.eq (Jvm.Term.elem (Jvm.Term.field (Jvm.Term.string "SoleReader$Reader" (101 : Nat)) "java/lang/String" "value" "[B") (Jvm.Term.int (19 : Int32))) (Jvm.Term.int (100 : Int32)))).before args s = true := z_a2 (z_a1 (z_a2 (z_a1 (z_a1 (z_a1 (z_a2 (z_a1 (h))))))))
theorem nv_88 {args : Array Value} {s : State} (h : narrow_1.before args s = true) : ((Jvm.Cond.eq (Jvm.Term.elem (Jvm.Term.field (Jvm.Term.string "SoleReader$Reader" (101 : Nat)) "java/lang/String" "value" "[B") (Jvm.Term.int (20 : Int32))) (Jvm.Term.int (32 : Int32)))).before args s = true := z_a1 (z_a2 (z_a2 (z_a1 (z_a1 (z_a1 (z_a2 (z_a1 (h))))))))
theorem nv_89 {args : Array Value} {s : State} (h : narrow_1.before args s = true) : ((Jvm.Cond.eq (Jvm.Term.elem (Jvm.Term.field (Jvm.Term.string "SoleReader$Reader" (101 : Nat)) "java/lang/String" "value" "[B") (Jvm.Term.int (21 : Int32))) (Jvm.Term.int (112 : Int32)))).before args s = true := z_a1 (z_a2 (z_a2 (z_a2 (z_a1 (z_a1 (z_a1 (z_a2 (z_a1 (h)))))))))
theorem nv_90 {args : Array Value} {s : State} (h : narrow_1.before args s = true) : ((Jvm.Cond.eq (Jvm.Term.elem (Jvm.Term.field (Jvm.Term.string "SoleReader$Reader" (101 : Nat)) "java/lang/String" "value" "[B") (Jvm.Term.int (22 : Int32))) (Jvm.Term.int (97 : Int32)))).before args s = true := z_a2 (z_a2 (z_a2 (z_a2 (z_a1 (z_a1 (z_a1 (z_a2 (z_a1 (h)))))))))
theorem nv_91 {args : Array Value} {s : State} (h : narrow_1.before args s = true) : ((Jvm.Cond.eq (Jvm.Term.elem (Jvm.Term.field (Jvm.Term.string "SoleReader$Reader" (101 : Nat)) "java/lang/String" "value" "[B") (Jvm.Term.int (23 : Int32))) (Jvm.Term.int (115 : Int32)))).before args s = true := z_a1 (z_a1 (z_a1 (z_a2 (z_a1 (z_a1 (z_a2 (z_a1 (h))))))))
theorem nv_92 {args : Array Value} {s : State} (h : narrow_1.before args s = true) : ((Jvm.Cond.eq (Jvm.Term.elem (Jvm.Term.field (Jvm.Term.string "SoleReader$Reader" (101 : Nat)) "java/lang/String" "value" "[B") (Jvm.Term.int (24 : Int32))) (Jvm.Term.int (115 : Int32)))).before args s = true := z_a2 (z_a1 (z_a1 (z_a2 (z_a1 (z_a1 (z_a2 (z_a1 (h))))))))
theorem nv_93 {args : Array Value} {s : State} (h : narrow_1.before args s = true) : ((Jvm.Cond.eq (Jvm.Term.elem (Jvm.Term.field (Jvm.Term.string "SoleReader$Reader" (103 : Nat)) "java/lang/String" "value" "[B") (Jvm.Term.int (0 : Int32))) (Jvm.Term.int (119 : Int32)))).before args s = true := z_a1 (z_a2 (z_a2 (z_a2 (z_a1 (z_a1 (z_a2 (z_a1 (h))))))))
theorem nv_94 {args : Array Value} {s : State} (h : narrow_1.before args s = true) : ((Jvm.Cond.eq (Jvm.Term.elem (Jvm.Term.field (Jvm.Term.string "SoleReader$Reader" (103 : Nat)) "java/lang/String" "value" "[B") (Jvm.Term.int (1 : Int32))) (Jvm.Term.int (101 : Int32)))).before args s = true := z_a1 (z_a2 (z_a2 (z_a2 (z_a2 (z_a1 (z_a1 (z_a2 (z_a1 (h)))))))))
theorem nv_95 {args : Array Value} {s : State} (h : narrow_1.before args s = true) : ((Jvm.Cond.eq (Jvm.Term.elem (Jvm.Term.field (Jvm.Term.string "SoleReader$Reader" (103 : Nat)) "java/lang/String" "value" "[B") (Jvm.Term.int (2 : Int32))) (Jvm.Term.int (97 : Int32)))).before args s = true := z_a2 (z_a2 (z_a2 (z_a2 (z_a2 (z_a1 (z_a1 (z_a2 (z_a1 (h)))))))))
theorem nv_96 {args : Array Value} {s : State} (h : narrow_1.before args s = true) : ((Jvm.Cond.eq (Jvm.Term.elem (Jvm.Term.field (Jvm.Term.string "SoleReader$Reader" (103 : Nat)) "java/lang/String" "value" "[B") (Jvm.Term.int (3 : Int32))) (Jvm.Term.int (114 : Int32)))).before args s = true := z_a1 (z_a1 (z_a1 (z_a1 (z_a2 (z_a1 (z_a2 (z_a1 (h))))))))
theorem nv_97 {args : Array Value} {s : State} (h : narrow_1.before args s = true) : ((Jvm.Cond.eq (Jvm.Term.elem (Jvm.Term.field (Jvm.Term.string "SoleReader$Reader" (103 : Nat)) "java/lang/String" "value" "[B") (Jvm.Term.int (4 : Int32))) (Jvm.Term.int (115 : Int32)))).before args s = true := z_a2 (z_a1 (z_a1 (z_a1 (z_a2 (z_a1 (z_a2 (z_a1 (h))))))))
theorem nv_98 {args : Array Value} {s : State} (h : narrow_1.before args s = true) : ((Jvm.Cond.eq (Jvm.Term.elem (Jvm.Term.field (Jvm.Term.string "SoleReader$Reader" (103 : Nat)) "java/lang/String" "value" "[B") (Jvm.Term.int (5 : Int32))) (Jvm.Term.int (32 : Int32)))).before args s = true := z_a1 (z_a2 (z_a1 (z_a1 (z_a2 (z_a1 (z_a2 (z_a1 (h))))))))
theorem nv_99 {args : Array Value} {s : State} (h : narrow_1.before args s = true) : ((Jvm.Cond.eq (Jvm.Term.elem (Jvm.Term.field (Jvm.Term.string "SoleReader$Reader" (103 : Nat)) "java/lang/String" "value" "[B") (Jvm.Term.int (6 : Int32))) (Jvm.Term.int (108 : Int32)))).before args s = true := z_a2 (z_a2 (z_a1 (z_a1 (z_a2 (z_a1 (z_a2 (z_a1 (h))))))))
theorem nv_100 {args : Array Value} {s : State} (h : narrow_1.before args s = true) : ((Jvm.Cond.eq (Jvm.Term.elem (Jvm.Term.field (Jvm.Term.string "SoleReader$Reader" (103 : Nat)) "java/lang/String" "value" "[B") (Jvm.Term.int (7 : Int32))) (Jvm.Term.int (101 : Int32)))).before args s = true := z_a1 (z_a1 (z_a2 (z_a1 (z_a2 (z_a1 (z_a2 (z_a1 (h))))))))
theorem nv_101 {args : Array Value} {s : State} (h : narrow_1.before args s = true) : ((Jvm.Cond.eq (Jvm.Term.elem (Jvm.Term.field (Jvm.Term.string "SoleReader$Reader" (103 : Nat)) "java/lang/String" "value" "[B") (Jvm.Term.int (8 : Int32))) (Jvm.Term.int (97 : Int32)))).before args s = true := z_a2 (z_a1 (z_a2 (z_a1 (z_a2 (z_a1 (z_a2 (z_a1 (h))))))))
theorem nv_102 {args : Array Value} {s : State} (h : narrow_1.before args s = true) : ((Jvm.Cond.eq (Jvm.Term.elem (Jvm.Term.field (Jvm.Term.string "SoleReader$Reader" (103 : Nat)) "java/lang/String" "value" "[B") (Jvm.Term.int (9 : Int32))) (Jvm.Term.int (118 : Int32)))).before args s = true := z_a1 (z_a2 (z_a2 (z_a1 (z_a2 (z_a1 (z_a2 (z_a1 (h))))))))
theorem nv_103 {args : Array Value} {s : State} (h : narrow_1.before args s = true) : ((Jvm.Cond.eq (Jvm.Term.elem (Jvm.Term.field (Jvm.Term.string "SoleReader$Reader" (103 : Nat)) "java/lang/String" "value" "[B") (Jvm.Term.int (10 : Int32))) (Jvm.Term.int (101 : Int32)))).before args s = true := z_a1 (z_a2 (z_a2 (z_a2 (z_a1 (z_a2 (z_a1 (z_a2 (z_a1 (h)))))))))
theorem nv_104 {args : Array Value} {s : State} (h : narrow_1.before args s = true) : ((Jvm.Cond.eq (Jvm.Term.elem (Jvm.Term.field (Jvm.Term.string "SoleReader$Reader" (103 : Nat)) "java/lang/String" "value" "[B") (Jvm.Term.int (11 : Int32))) (Jvm.Term.int (115 : Int32)))).before args s = true := z_a2 (z_a2 (z_a2 (z_a2 (z_a1 (z_a2 (z_a1 (z_a2 (z_a1 (h)))))))))
theorem nv_105 {args : Array Value} {s : State} (h : narrow_1.before args s = true) : ((Jvm.Cond.eq (Jvm.Term.elem (Jvm.Term.field (Jvm.Term.string "SoleReader$Reader" (103 : Nat)) "java/lang/String" "value" "[B") (Jvm.Term.int (12 : Int32))) (Jvm.Term.int (32 : Int32)))).before args s = true := z_a1 (z_a1 (z_a1 (z_a2 (z_a2 (z_a1 (z_a2 (z_a1 (h))))))))
theorem nv_106 {args : Array Value} {s : State} (h : narrow_1.before args s = true) : ((Jvm.Cond.eq (Jvm.Term.elem (Jvm.Term.field (Jvm.Term.string "SoleReader$Reader" (103 : Nat)) "java/lang/String" "value" "[B") (Jvm.Term.int (13 : Int32))) (Jvm.Term.int (98 : Int32)))).before args s = true := z_a2 (z_a1 (z_a1 (z_a2 (z_a2 (z_a1 (z_a2 (z_a1 (h))))))))
theorem nv_107 {args : Array Value} {s : State} (h : narrow_1.before args s = true) : ((Jvm.Cond.eq (Jvm.Term.elem (Jvm.Term.field (Jvm.Term.string "SoleReader$Reader" (103 : Nat)) "java/lang/String" "value" "[B") (Jvm.Term.int (14 : Int32))) (Jvm.Term.int (97 : Int32)))).before args s = true := z_a1 (z_a2 (z_a1 (z_a2 (z_a2 (z_a1 (z_a2 (z_a1 (h))))))))
theorem nv_108 {args : Array Value} {s : State} (h : narrow_1.before args s = true) : ((Jvm.Cond.eq (Jvm.Term.elem (Jvm.Term.field (Jvm.Term.string "SoleReader$Reader" (103 : Nat)) "java/lang/String" "value" "[B") (Jvm.Term.int (15 : Int32))) (Jvm.Term.int (114 : Int32)))).before args s = true := z_a1 (z_a2 (z_a2 (z_a1 (z_a2 (z_a2 (z_a1 (z_a2 (z_a1 (h)))))))))
theorem nv_109 {args : Array Value} {s : State} (h : narrow_1.before args s = true) : ((Jvm.Cond.eq (Jvm.Term.elem (Jvm.Term.field (Jvm.Term.string "SoleReader$Reader" (103 : Nat)) "java/lang/String" "value" "[B") (Jvm.Term.int (16 : Int32))) (Jvm.Term.int (115 : Int32)))).before args s = true := z_a2 (z_a2 (z_a2 (z_a1 (z_a2 (z_a2 (z_a1 (z_a2 (z_a1 (h)))))))))
theorem nv_110 {args : Array Value} {s : State} (h : narrow_1.before args s = true) : ((Jvm.Cond.eq (Jvm.Term.elem (Jvm.Term.field (Jvm.Term.string "SoleReader$Reader" (162 : Nat)) "java/lang/String" "value" "[B") (Jvm.Term.int (0 : Int32))) (Jvm.Term.int (100 : Int32)))).before args s = true := z_a1 (z_a1 (z_a1 (z_a1 (z_a1 (z_a2 (z_a2 (z_a1 (h))))))))
theorem nv_111 {args : Array Value} {s : State} (h : narrow_1.before args s = true) : ((Jvm.Cond.eq (Jvm.Term.elem (Jvm.Term.field (Jvm.Term.string "SoleReader$Reader" (162 : Nat)) "java/lang/String" "value" "[B") (Jvm.Term.int (1 : Int32))) (Jvm.Term.int (97 : Int32)))).before args s = true := z_a2 (z_a1 (z_a1 (z_a1 (z_a1 (z_a2 (z_a2 (z_a1 (h))))))))
theorem nv_112 {args : Array Value} {s : State} (h : narrow_1.before args s = true) : ((Jvm.Cond.eq (Jvm.Term.elem (Jvm.Term.field (Jvm.Term.string "SoleReader$Reader" (162 : Nat)) "java/lang/String" "value" "[B") (Jvm.Term.int (2 : Int32))) (Jvm.Term.int (121 : Int32)))).before args s = true := z_a1 (z_a2 (z_a1 (z_a1 (z_a1 (z_a2 (z_a2 (z_a1 (h))))))))
theorem nv_113 {args : Array Value} {s : State} (h : narrow_1.before args s = true) : ((Jvm.Cond.eq (Jvm.Term.elem (Jvm.Term.field (Jvm.Term.string "SoleReader$Reader" (162 : Nat)) "java/lang/String" "value" "[B") (Jvm.Term.int (3 : Int32))) (Jvm.Term.int (32 : Int32)))).before args s = true := z_a2 (z_a2 (z_a1 (z_a1 (z_a1 (z_a2 (z_a2 (z_a1 (h))))))))
theorem nv_114 {args : Array Value} {s : State} (h : narrow_1.before args s = true) : ((Jvm.Cond.eq (Jvm.Term.elem (Jvm.Term.field (Jvm.Term.string "SoleReader$Reader" (162 : Nat)) "java/lang/String" "value" "[B") (Jvm.Term.int (4 : Int32))) (Jvm.Term.int (100 : Int32)))).before args s = true := z_a1 (z_a1 (z_a2 (z_a1 (z_a1 (z_a2 (z_a2 (z_a1 (h))))))))
theorem nv_115 {args : Array Value} {s : State} (h : narrow_1.before args s = true) : ((Jvm.Cond.eq (Jvm.Term.elem (Jvm.Term.field (Jvm.Term.string "SoleReader$Reader" (162 : Nat)) "java/lang/String" "value" "[B") (Jvm.Term.int (5 : Int32))) (Jvm.Term.int (111 : Int32)))).before args s = true := z_a2 (z_a1 (z_a2 (z_a1 (z_a1 (z_a2 (z_a2 (z_a1 (h))))))))
theorem nv_116 {args : Array Value} {s : State} (h : narrow_1.before args s = true) : ((Jvm.Cond.eq (Jvm.Term.elem (Jvm.Term.field (Jvm.Term.string "SoleReader$Reader" (162 : Nat)) "java/lang/String" "value" "[B") (Jvm.Term.int (6 : Int32))) (Jvm.Term.int (110 : Int32)))).before args s = true := z_a1 (z_a2 (z_a2 (z_a1 (z_a1 (z_a2 (z_a2 (z_a1 (h))))))))
theorem nv_117 {args : Array Value} {s : State} (h : narrow_1.before args s = true) : ((Jvm.Cond.eq (Jvm.Term.elem (Jvm.Term.field (Jvm.Term.string "SoleReader$Reader" (162 : Nat)) "java/lang/String" "value" "[B") (Jvm.Term.int (7 : Int32))) (Jvm.Term.int (101 : Int32)))).before args s = true := z_a1 (z_a2 (z_a2 (z_a2 (z_a1 (z_a1 (z_a2 (z_a2 (z_a1 (h)))))))))
theorem nv_118 {args : Array Value} {s : State} (h : narrow_1.before args s = true) : ((Jvm.Cond.eq (Jvm.Term.elem (Jvm.Term.field (Jvm.Term.string "SoleReader$Reader" (162 : Nat)) "java/lang/String" "value" "[B") (Jvm.Term.int (8 : Int32))) (Jvm.Term.int (32 : Int32)))).before args s = true := z_a2 (z_a2 (z_a2 (z_a2 (z_a1 (z_a1 (z_a2 (z_a2 (z_a1 (h)))))))))
theorem nv_119 {args : Array Value} {s : State} (h : narrow_1.before args s = true) : ((Jvm.Cond.eq (Jvm.Term.elem (Jvm.Term.field (Jvm.Term.string "SoleReader$Reader" (162 : Nat)) "java/lang/String" "value" "[B") (Jvm.Term.int (9 : Int32))) (Jvm.Term.int (108 : Int32)))).before args s = true := z_a1 (z_a1 (z_a1 (z_a2 (z_a1 (z_a2 (z_a2 (z_a1 (h))))))))
theorem nv_120 {args : Array Value} {s : State} (h : narrow_1.before args s = true) : ((Jvm.Cond.eq (Jvm.Term.elem (Jvm.Term.field (Jvm.Term.string "SoleReader$Reader" (162 : Nat)) "java/lang/String" "value" "[B") (Jvm.Term.int (10 : Int32))) (Jvm.Term.int (97 : Int32)))).before args s = true := z_a2 (z_a1 (z_a1 (z_a2 (z_a1 (z_a2 (z_a2 (z_a1 (h))))))))
theorem nv_121 {args : Array Value} {s : State} (h : narrow_1.before args s = true) : ((Jvm.Cond.eq (Jvm.Term.elem (Jvm.Term.field (Jvm.Term.string "SoleReader$Reader" (162 : Nat)) "java/lang/String" "value" "[B") (Jvm.Term.int (11 : Int32))) (Jvm.Term.int (116 : Int32)))).before args s = true := z_a1 (z_a2 (z_a1 (z_a2 (z_a1 (z_a2 (z_a2 (z_a1 (h))))))))
theorem nv_122 {args : Array Value} {s : State} (h : narrow_1.before args s = true) : ((Jvm.Cond.eq (Jvm.Term.elem (Jvm.Term.field (Jvm.Term.string "SoleReader$Reader" (162 : Nat)) "java/lang/String" "value" "[B") (Jvm.Term.int (12 : Int32))) (Jvm.Term.int (101 : Int32)))).before args s = true := z_a2 (z_a2 (z_a1 (z_a2 (z_a1 (z_a2 (z_a2 (z_a1 (h))))))))
theorem nv_123 {args : Array Value} {s : State} (h : narrow_1.before args s = true) : ((Jvm.Cond.eq (Jvm.Term.elem (Jvm.Term.field (Jvm.Term.string "SoleReader$Reader" (162 : Nat)) "java/lang/String" "value" "[B") (Jvm.Term.int (13 : Int32))) (Jvm.Term.int (115 : Int32)))).before args s = true := z_a1 (z_a1 (z_a2 (z_a2 (z_a1 (z_a2 (z_a2 (z_a1 (h))))))))
theorem nv_124 {args : Array Value} {s : State} (h : narrow_1.before args s = true) : ((Jvm.Cond.eq (Jvm.Term.elem (Jvm.Term.field (Jvm.Term.string "SoleReader$Reader" (162 : Nat)) "java/lang/String" "value" "[B") (Jvm.Term.int (14 : Int32))) (Jvm.Term.int (116 : Int32)))).before args s = true := z_a2 (z_a1 (z_a2 (z_a2 (z_a1 (z_a2 (z_a2 (z_a1 (h))))))))
theorem nv_125 {args : Array Value} {s : State} (h : narrow_1.before args s = true) : ((Jvm.Cond.eq (Jvm.Term.elem (Jvm.Term.field (Jvm.Term.string "SoleReader$Reader" (162 : Nat)) "java/lang/String" "value" "[B") (Jvm.Term.int (15 : Int32))) (Jvm.Term.int (32 : Int32)))).before args s = true := z_a1 (z_a2 (z_a2 (z_a2 (z_a1 (z_a2 (z_a2 (z_a1 (h))))))))
theorem nv_126 {args : Array Value} {s : State} (h : narrow_1.before args s = true) : ((Jvm.Cond.eq (Jvm.Term.elem (Jvm.Term.field (Jvm.Term.string "SoleReader$Reader" (162 : Nat)) "java/lang/String" "value" "[B") (Jvm.Term.int (16 : Int32))) (Jvm.Term.int (112 : Int32)))).before args s = true := z_a1 (z_a2 (z_a2 (z_a2 (z_a2 (z_a1 (z_a2 (z_a2 (z_a1 (h)))))))))
theorem nv_127 {args : Array Value} {s : State} (h : narrow_1.before args s = true) : ((Jvm.Cond.eq (Jvm.Term.elem (Jvm.Term.field (Jvm.Term.string "SoleReader$Reader" (162 : Nat)) "java/lang/String" "value" "[B") (Jvm.Term.int (17 : Int32))) (Jvm.Term.int (97 : Int32)))).before args s = true := z_a2 (z_a2 (z_a2 (z_a2 (z_a2 (z_a1 (z_a2 (z_a2 (z_a1 (h)))))))))
theorem nv_128 {args : Array Value} {s : State} (h : narrow_1.before args s = true) : ((Jvm.Cond.eq (Jvm.Term.elem (Jvm.Term.field (Jvm.Term.string "SoleReader$Reader" (162 : Nat)) "java/lang/String" "value" "[B") (Jvm.Term.int (18 : Int32))) (Jvm.Term.int (105 : Int32)))).before args s = true := z_a1 (z_a1 (z_a1 (z_a1 (z_a2 (z_a2 (z_a2 (z_a1 (h))))))))
theorem nv_129 {args : Array Value} {s : State} (h : narrow_1.before args s = true) : ((Jvm.Cond.eq (Jvm.Term.elem (Jvm.Term.field (Jvm.Term.string "SoleReader$Reader" (162 : Nat)) "java/lang/String" "value" "[B") (Jvm.Term.int (19 : Int32))) (Jvm.Term.int (114 : Int32)))).before args s = true := z_a2 (z_a1 (z_a1 (z_a1 (z_a2 (z_a2 (z_a2 (z_a1 (h))))))))
theorem nv_130 {args : Array Value} {s : State} (h : narrow_1.before args s = true) : ((Jvm.Cond.eq (Jvm.Term.elem (Jvm.Term.field (Jvm.Term.string "SoleReader$Reader" (162 : Nat)) "java/lang/String" "value" "[B") (Jvm.Term.int (20 : Int32))) (Jvm.Term.int (115 : Int32)))).before args s = true := z_a1 (z_a2 (z_a1 (z_a1 (z_a2 (z_a2 (z_a2 (z_a1 (h))))))))
theorem nv_131 {args : Array Value} {s : State} (h : narrow_1.before args s = true) : ((Jvm.Cond.eq (Jvm.Term.elem (Jvm.Term.field (Jvm.Term.string "SoleReader$Reader" (162 : Nat)) "java/lang/String" "value" "[B") (Jvm.Term.int (21 : Int32))) (Jvm.Term.int (32 : Int32)))).before args s = true := z_a2 (z_a2 (z_a1 (z_a1 (z_a2 (z_a2 (z_a2 (z_a1 (h))))))))
theorem nv_132 {args : Array Value} {s : State} (h : narrow_1.before args s = true) : ((Jvm.Cond.eq (Jvm.Term.elem (Jvm.Term.field (Jvm.Term.string "SoleReader$Reader" (162 : Nat)) "java/lang/String" "value" "[B") (Jvm.Term.int (22 : Int32))) (Jvm.Term.int (119 : Int32)))).before args s = true := z_a1 (z_a1 (z_a2 (z_a1 (z_a2 (z_a2 (z_a2 (z_a1 (h))))))))
theorem nv_133 {args : Array Value} {s : State} (h : narrow_1.before args s = true) : ((Jvm.Cond.eq (Jvm.Term.elem (Jvm.Term.field (Jvm.Term.string "SoleReader$Reader" (162 : Nat)) "java/lang/String" "value" "[B") (Jvm.Term.int (23 : Int32))) (Jvm.Term.int (97 : Int32)))).before args s = true := z_a2 (z_a1 (z_a2 (z_a1 (z_a2 (z_a2 (z_a2 (z_a1 (h))))))))
theorem nv_134 {args : Array Value} {s : State} (h : narrow_1.before args s = true) : ((Jvm.Cond.eq (Jvm.Term.elem (Jvm.Term.field (Jvm.Term.string "SoleReader$Reader" (162 : Nat)) "java/lang/String" "value" "[B") (Jvm.Term.int (24 : Int32))) (Jvm.Term.int (108 : Int32)))).before args s = true := z_a1 (z_a2 (z_a2 (z_a1 (z_a2 (z_a2 (z_a2 (z_a1 (h))))))))
theorem nv_135 {args : Array Value} {s : State} (h : narrow_1.before args s = true) : ((Jvm.Cond.eq (Jvm.Term.elem (Jvm.Term.field (Jvm.Term.string "SoleReader$Reader" (162 : Nat)) "java/lang/String" "value" "[B") (Jvm.Term.int (25 : Int32))) (Jvm.Term.int (108 : Int32)))).before args s = true := z_a1 (z_a2 (z_a2 (z_a2 (z_a1 (z_a2 (z_a2 (z_a2 (z_a1 (h)))))))))
theorem nv_136 {args : Array Value} {s : State} (h : narrow_1.before args s = true) : ((Jvm.Cond.eq (Jvm.Term.elem (Jvm.Term.field (Jvm.Term.string "SoleReader$Reader" (162 : Nat)) "java/lang/String" "value" "[B") (Jvm.Term.int (26 : Int32))) (Jvm.Term.int (115 : Int32)))).before args s = true := z_a2 (z_a2 (z_a2 (z_a2 (z_a1 (z_a2 (z_a2 (z_a2 (z_a1 (h)))))))))
theorem nv_137 {args : Array Value} {s : State} (h : narrow_1.before args s = true) : ((Jvm.Cond.eq (Jvm.Term.elem (Jvm.Term.field (Jvm.Term.string "SoleReader$Reader" (162 : Nat)) "java/lang/String" "value" "[B") (Jvm.Term.int (27 : Int32))) (Jvm.Term.int (32 : Int32)))).before args s = true := z_a1 (z_a1 (z_a1 (z_a2 (z_a2 (z_a2 (z_a2 (z_a1 (h))))))))
theorem nv_138 {args : Array Value} {s : State} (h : narrow_1.before args s = true) : ((Jvm.Cond.eq (Jvm.Term.elem (Jvm.Term.field (Jvm.Term.string "SoleReader$Reader" (162 : Nat)) "java/lang/String" "value" "[B") (Jvm.Term.int (28 : Int32))) (Jvm.Term.int (99 : Int32)))).before args s = true := z_a2 (z_a1 (z_a1 (z_a2 (z_a2 (z_a2 (z_a2 (z_a1 (h))))))))
theorem nv_139 {args : Array Value} {s : State} (h : narrow_1.before args s = true) : ((Jvm.Cond.eq (Jvm.Term.elem (Jvm.Term.field (Jvm.Term.string "SoleReader$Reader" (162 : Nat)) "java/lang/String" "value" "[B") (Jvm.Term.int (29 : Int32))) (Jvm.Term.int (101 : Int32)))).before args s = true := z_a1 (z_a2 (z_a1 (z_a2 (z_a2 (z_a2 (z_a2 (z_a1 (h))))))))
theorem nv_140 {args : Array Value} {s : State} (h : narrow_1.before args s = true) : ((Jvm.Cond.eq (Jvm.Term.elem (Jvm.Term.field (Jvm.Term.string "SoleReader$Reader" (162 : Nat)) "java/lang/String" "value" "[B") (Jvm.Term.int (30 : Int32))) (Jvm.Term.int (108 : Int32)))).before args s = true := z_a1 (z_a2 (z_a2 (z_a1 (z_a2 (z_a2 (z_a2 (z_a2 (z_a1 (h)))))))))
theorem nv_141 {args : Array Value} {s : State} (h : narrow_1.before args s = true) : ((Jvm.Cond.eq (Jvm.Term.elem (Jvm.Term.field (Jvm.Term.string "SoleReader$Reader" (162 : Nat)) "java/lang/String" "value" "[B") (Jvm.Term.int (31 : Int32))) (Jvm.Term.int (108 : Int32)))).before args s = true := z_a2 (z_a2 (z_a2 (z_a1 (z_a2 (z_a2 (z_a2 (z_a2 (z_a1 (h)))))))))
theorem nv_142 {args : Array Value} {s : State} (h : narrow_1.before args s = true) : ((Jvm.Cond.eq (Jvm.Term.elem (Jvm.Term.field (Jvm.Term.string "SoleReader$Reader" (162 : Nat)) "java/lang/String" "value" "[B") (Jvm.Term.int (32 : Int32))) (Jvm.Term.int (32 : Int32)))).before args s = true := z_a1 (z_a1 (z_a2 (z_a2 (z_a2 (z_a2 (z_a2 (z_a1 (h))))))))
theorem nv_143 {args : Array Value} {s : State} (h : narrow_1.before args s = true) : ((Jvm.Cond.eq (Jvm.Term.elem (Jvm.Term.field (Jvm.Term.string "SoleReader$Reader" (162 : Nat)) "java/lang/String" "value" "[B") (Jvm.Term.int (33 : Int32))) (Jvm.Term.int (116 : Int32)))).before args s = true := z_a2 (z_a1 (z_a2 (z_a2 (z_a2 (z_a2 (z_a2 (z_a1 (h))))))))
theorem nv_144 {args : Array Value} {s : State} (h : narrow_1.before args s = true) : ((Jvm.Cond.eq (Jvm.Term.elem (Jvm.Term.field (Jvm.Term.string "SoleReader$Reader" (162 : Nat)) "java/lang/String" "value" "[B") (Jvm.Term.int (34 : Int32))) (Jvm.Term.int (111 : Int32)))).before args s = true := z_a1 (z_a2 (z_a2 (z_a2 (z_a2 (z_a2 (z_a2 (z_a1 (h))))))))
theorem nv_145 {args : Array Value} {s : State} (h : narrow_1.before args s = true) : ((Jvm.Cond.eq (Jvm.Term.elem (Jvm.Term.field (Jvm.Term.string "SoleReader$Reader" (162 : Nat)) "java/lang/String" "value" "[B") (Jvm.Term.int (35 : Int32))) (Jvm.Term.int (101 : Int32)))).before args s = true := z_a1 (z_a2 (z_a2 (z_a2 (z_a2 (z_a2 (z_a2 (z_a2 (z_a1 (h)))))))))
theorem nv_146 {args : Array Value} {s : State} (h : narrow_1.before args s = true) : ((Jvm.Cond.eq (Jvm.Term.elem (Jvm.Term.field (Jvm.Term.string "SoleReader$Reader" (162 : Nat)) "java/lang/String" "value" "[B") (Jvm.Term.int (36 : Int32))) (Jvm.Term.int (32 : Int32)))).before args s = true := z_a2 (z_a2 (z_a2 (z_a2 (z_a2 (z_a2 (z_a2 (z_a2 (z_a1 (h)))))))))
theorem nv_147 {args : Array Value} {s : State} (h : narrow_1.before args s = true) : ((Jvm.Cond.eq (Jvm.Term.elem (Jvm.Term.field (Jvm.Term.string "SoleReader$Reader" (162 : Nat)) "java/lang/String" "value" "[B") (Jvm.Term.int (37 : Int32))) (Jvm.Term.int (104 : Int32)))).before args s = true := z_a1 (z_a1 (z_a1 (z_a1 (z_a1 (z_a1 (z_a1 (z_a2 (h))))))))
theorem nv_148 {args : Array Value} {s : State} (h : narrow_1.before args s = true) : ((Jvm.Cond.eq (Jvm.Term.elem (Jvm.Term.field (Jvm.Term.string "SoleReader$Reader" (162 : Nat)) "java/lang/String" "value" "[B") (Jvm.Term.int (38 : Int32))) (Jvm.Term.int (101 : Int32)))).before args s = true := z_a2 (z_a1 (z_a1 (z_a1 (z_a1 (z_a1 (z_a1 (z_a2 (h))))))))
theorem nv_149 {args : Array Value} {s : State} (h : narrow_1.before args s = true) : ((Jvm.Cond.eq (Jvm.Term.elem (Jvm.Term.field (Jvm.Term.string "SoleReader$Reader" (162 : Nat)) "java/lang/String" "value" "[B") (Jvm.Term.int (39 : Int32))) (Jvm.Term.int (101 : Int32)))).before args s = true := z_a1 (z_a2 (z_a1 (z_a1 (z_a1 (z_a1 (z_a1 (z_a2 (h))))))))
theorem nv_150 {args : Array Value} {s : State} (h : narrow_1.before args s = true) : ((Jvm.Cond.eq (Jvm.Term.elem (Jvm.Term.field (Jvm.Term.string "SoleReader$Reader" (162 : Nat)) "java/lang/String" "value" "[B") (Jvm.Term.int (40 : Int32))) (Jvm.Term.int (108 : Int32)))).before args s = true := z_a2 (z_a2 (z_a1 (z_a1 (z_a1 (z_a1 (z_a1 (z_a2 (h))))))))
theorem nv_151 {args : Array Value} {s : State} (h : narrow_1.before args s = true) : ((Jvm.Cond.eq (Jvm.Term.elem (Jvm.Term.field (Jvm.Term.string "SoleReader$Reader" (164 : Nat)) "java/lang/String" "value" "[B") (Jvm.Term.int (0 : Int32))) (Jvm.Term.int (112 : Int32)))).before args s = true := z_a2 (z_a1 (z_a1 (z_a2 (z_a1 (z_a1 (z_a1 (z_a2 (h))))))))
theorem nv_152 {args : Array Value} {s : State} (h : narrow_1.before args s = true) : ((Jvm.Cond.eq (Jvm.Term.elem (Jvm.Term.field (Jvm.Term.string "SoleReader$Reader" (164 : Nat)) "java/lang/String" "value" "[B") (Jvm.Term.int (1 : Int32))) (Jvm.Term.int (97 : Int32)))).before args s = true := z_a1 (z_a2 (z_a1 (z_a2 (z_a1 (z_a1 (z_a1 (z_a2 (h))))))))
theorem nv_153 {args : Array Value} {s : State} (h : narrow_1.before args s = true) : ((Jvm.Cond.eq (Jvm.Term.elem (Jvm.Term.field (Jvm.Term.string "SoleReader$Reader" (164 : Nat)) "java/lang/String" "value" "[B") (Jvm.Term.int (2 : Int32))) (Jvm.Term.int (105 : Int32)))).before args s = true := z_a2 (z_a2 (z_a1 (z_a2 (z_a1 (z_a1 (z_a1 (z_a2 (h))))))))
theorem nv_154 {args : Array Value} {s : State} (h : narrow_1.before args s = true) : ((Jvm.Cond.eq (Jvm.Term.elem (Jvm.Term.field (Jvm.Term.string "SoleReader$Reader" (164 : Nat)) "java/lang/String" "value" "[B") (Jvm.Term.int (3 : Int32))) (Jvm.Term.int (114 : Int32)))).before args s = true := z_a1 (z_a1 (z_a2 (z_a2 (z_a1 (z_a1 (z_a1 (z_a2 (h))))))))
theorem nv_155 {args : Array Value} {s : State} (h : narrow_1.before args s = true) : ((Jvm.Cond.eq (Jvm.Term.elem (Jvm.Term.field (Jvm.Term.string "SoleReader$Reader" (164 : Nat)) "java/lang/String" "value" "[B") (Jvm.Term.int (4 : Int32))) (Jvm.Term.int (32 : Int32)))).before args s = true := z_a2 (z_a1 (z_a2 (z_a2 (z_a1 (z_a1 (z_a1 (z_a2 (h))))))))
theorem nv_156 {args : Array Value} {s : State} (h : narrow_1.before args s = true) : ((Jvm.Cond.eq (Jvm.Term.elem (Jvm.Term.field (Jvm.Term.string "SoleReader$Reader" (164 : Nat)) "java/lang/String" "value" "[B") (Jvm.Term.int (5 : Int32))) (Jvm.Term.int (108 : Int32)))).before args s = true := z_a1 (z_a2 (z_a2 (z_a2 (z_a1 (z_a1 (z_a1 (z_a2 (h))))))))
theorem nv_157 {args : Array Value} {s : State} (h : narrow_1.before args s = true) : ((Jvm.Cond.eq (Jvm.Term.elem (Jvm.Term.field (Jvm.Term.string "SoleReader$Reader" (164 : Nat)) "java/lang/String" "value" "[B") (Jvm.Term.int (6 : Int32))) (Jvm.Term.int (111 : Int32)))).before args s = true := z_a1 (z_a2 (z_a2 (z_a2 (z_a2 (z_a1 (z_a1 (z_a1 (z_a2 (h)))))))))
theorem nv_158 {args : Array Value} {s : State} (h : narrow_1.before args s = true) : ((Jvm.Cond.eq (Jvm.Term.elem (Jvm.Term.field (Jvm.Term.string "SoleReader$Reader" (164 : Nat)) "java/lang/String" "value" "[B") (Jvm.Term.int (7 : Int32))) (Jvm.Term.int (97 : Int32)))).before args s = true := z_a2 (z_a2 (z_a2 (z_a2 (z_a2 (z_a1 (z_a1 (z_a1 (z_a2 (h)))))))))
theorem nv_159 {args : Array Value} {s : State} (h : narrow_1.before args s = true) : ((Jvm.Cond.eq (Jvm.Term.elem (Jvm.Term.field (Jvm.Term.string "SoleReader$Reader" (164 : Nat)) "java/lang/String" "value" "[B") (Jvm.Term.int (8 : Int32))) (Jvm.Term.int (100 : Int32)))).before args s = true := z_a1 (z_a1 (z_a1 (z_a1 (z_a2 (z_a1 (z_a1 (z_a2 (h))))))))
theorem nv_160 {args : Array Value} {s : State} (h : narrow_1.before args s = true) : ((Jvm.Cond.eq (Jvm.Term.elem (Jvm.Term.field (Jvm.Term.string "SoleReader$Reader" (164 : Nat)) "java/lang/String" "value" "[B") (Jvm.Term.int (9 : Int32))) (Jvm.Term.int (32 : Int32)))).before args s = true := z_a2 (z_a1 (z_a1 (z_a1 (z_a2 (z_a1 (z_a1 (z_a2 (h))))))))
theorem nv_161 {args : Array Value} {s : State} (h : narrow_1.before args s = true) : ((Jvm.Cond.eq (Jvm.Term.elem (Jvm.Term.field (Jvm.Term.string "SoleReader$Reader" (164 : Nat)) "java/lang/String" "value" "[B") (Jvm.Term.int (10 : Int32))) (Jvm.Term.int (112 : Int32)))).before args s = true := z_a1 (z_a2 (z_a1 (z_a1 (z_a2 (z_a1 (z_a1 (z_a2 (h))))))))
theorem nv_162 {args : Array Value} {s : State} (h : narrow_1.before args s = true) : ((Jvm.Cond.eq (Jvm.Term.elem (Jvm.Term.field (Jvm.Term.string "SoleReader$Reader" (164 : Nat)) "java/lang/String" "value" "[B") (Jvm.Term.int (11 : Int32))) (Jvm.Term.int (97 : Int32)))).before args s = true := z_a2 (z_a2 (z_a1 (z_a1 (z_a2 (z_a1 (z_a1 (z_a2 (h))))))))
theorem nv_163 {args : Array Value} {s : State} (h : narrow_1.before args s = true) : ((Jvm.Cond.eq (Jvm.Term.elem (Jvm.Term.field (Jvm.Term.string "SoleReader$Reader" (164 : Nat)) "java/lang/String" "value" "[B") (Jvm.Term.int (12 : Int32))) (Jvm.Term.int (114 : Int32)))).before args s = true := z_a1 (z_a1 (z_a2 (z_a1 (z_a2 (z_a1 (z_a1 (z_a2 (h))))))))
theorem nv_164 {args : Array Value} {s : State} (h : narrow_1.before args s = true) : ((Jvm.Cond.eq (Jvm.Term.elem (Jvm.Term.field (Jvm.Term.string "SoleReader$Reader" (164 : Nat)) "java/lang/String" "value" "[B") (Jvm.Term.int (13 : Int32))) (Jvm.Term.int (116 : Int32)))).before args s = true := z_a2 (z_a1 (z_a2 (z_a1 (z_a2 (z_a1 (z_a1 (z_a2 (h))))))))
theorem nv_165 {args : Array Value} {s : State} (h : narrow_1.before args s = true) : ((Jvm.Cond.eq (Jvm.Term.elem (Jvm.Term.field (Jvm.Term.string "SoleReader$Reader" (164 : Nat)) "java/lang/String" "value" "[B") (Jvm.Term.int (14 : Int32))) (Jvm.Term.int (32 : Int32)))).before args s = true := z_a1 (z_a2 (z_a2 (z_a1 (z_a2 (z_a1 (z_a1 (z_a2 (h))))))))
theorem nv_166 {args : Array Value} {s : State} (h : narrow_1.before args s = true) : ((Jvm.Cond.eq (Jvm.Term.elem (Jvm.Term.field (Jvm.Term.string "SoleReader$Reader" (164 : Nat)) "java/lang/String" "value" "[B") (Jvm.Term.int (15 : Int32))) (Jvm.Term.int (119 : Int32)))).before args s = true := z_a1 (z_a2 (z_a2 (z_a2 (z_a1 (z_a2 (z_a1 (z_a1 (z_a2 (h)))))))))
theorem nv_167 {args : Array Value} {s : State} (h : narrow_1.before args s = true) : ((Jvm.Cond.eq (Jvm.Term.elem (Jvm.Term.field (Jvm.Term.string "SoleReader$Reader" (164 : Nat)) "java/lang/String" "value" "[B") (Jvm.Term.int (16 : Int32))) (Jvm.Term.int (111 : Int32)))).before args s = true := z_a2 (z_a2 (z_a2 (z_a2 (z_a1 (z_a2 (z_a1 (z_a1 (z_a2 (h)))))))))
theorem nv_168 {args : Array Value} {s : State} (h : narrow_1.before args s = true) : ((Jvm.Cond.eq (Jvm.Term.elem (Jvm.Term.field (Jvm.Term.string "SoleReader$Reader" (164 : Nat)) "java/lang/String" "value" "[B") (Jvm.Term.int (17 : Int32))) (Jvm.Term.int (114 : Int32)))).before args s = true := z_a1 (z_a1 (z_a1 (z_a2 (z_a2 (z_a1 (z_a1 (z_a2 (h))))))))
theorem nv_169 {args : Array Value} {s : State} (h : narrow_1.before args s = true) : ((Jvm.Cond.eq (Jvm.Term.elem (Jvm.Term.field (Jvm.Term.string "SoleReader$Reader" (164 : Nat)) "java/lang/String" "value" "[B") (Jvm.Term.int (18 : Int32))) (Jvm.Term.int (110 : Int32)))).before args s = true := z_a2 (z_a1 (z_a1 (z_a2 (z_a2 (z_a1 (z_a1 (z_a2 (h))))))))
theorem nv_170 {args : Array Value} {s : State} (h : narrow_1.before args s = true) : ((Jvm.Cond.eq (Jvm.Term.elem (Jvm.Term.field (Jvm.Term.string "SoleReader$Reader" (164 : Nat)) "java/lang/String" "value" "[B") (Jvm.Term.int (19 : Int32))) (Jvm.Term.int (32 : Int32)))).before args s = true := z_a1 (z_a2 (z_a1 (z_a2 (z_a2 (z_a1 (z_a1 (z_a2 (h))))))))
theorem nv_171 {args : Array Value} {s : State} (h : narrow_1.before args s = true) : ((Jvm.Cond.eq (Jvm.Term.elem (Jvm.Term.field (Jvm.Term.string "SoleReader$Reader" (164 : Nat)) "java/lang/String" "value" "[B") (Jvm.Term.int (20 : Int32))) (Jvm.Term.int (120 : Int32)))).before args s = true := z_a1 (z_a2 (z_a2 (z_a1 (z_a2 (z_a2 (z_a1 (z_a1 (z_a2 (h)))))))))
theorem nv_172 {args : Array Value} {s : State} (h : narrow_1.before args s = true) : ((Jvm.Cond.eq (Jvm.Term.elem (Jvm.Term.field (Jvm.Term.string "SoleReader$Reader" (164 : Nat)) "java/lang/String" "value" "[B") (Jvm.Term.int (21 : Int32))) (Jvm.Term.int (32 : Int32)))).before args s = true := z_a2 (z_a2 (z_a2 (z_a1 (z_a2 (z_a2 (z_a1 (z_a1 (z_a2 (h)))))))))
theorem nv_173 {args : Array Value} {s : State} (h : narrow_1.before args s = true) : ((Jvm.Cond.eq (Jvm.Term.elem (Jvm.Term.field (Jvm.Term.string "SoleReader$Reader" (164 : Nat)) "java/lang/String" "value" "[B") (Jvm.Term.int (22 : Int32))) (Jvm.Term.int (121 : Int32)))).before args s = true := z_a1 (z_a1 (z_a2 (z_a2 (z_a2 (z_a1 (z_a1 (z_a2 (h))))))))
theorem nv_174 {args : Array Value} {s : State} (h : narrow_1.before args s = true) : ((Jvm.Cond.eq (Jvm.Term.elem (Jvm.Term.field (Jvm.Term.string "SoleReader$Reader" (164 : Nat)) "java/lang/String" "value" "[B") (Jvm.Term.int (23 : Int32))) (Jvm.Term.int (32 : Int32)))).before args s = true := z_a2 (z_a1 (z_a2 (z_a2 (z_a2 (z_a1 (z_a1 (z_a2 (h))))))))
theorem nv_175 {args : Array Value} {s : State} (h : narrow_1.before args s = true) : ((Jvm.Cond.eq (Jvm.Term.elem (Jvm.Term.field (Jvm.Term.string "SoleReader$Reader" (164 : Nat)) "java/lang/String" "value" "[B") (Jvm.Term.int (24 : Int32))) (Jvm.Term.int (119 : Int32)))).before args s = true := z_a1 (z_a2 (z_a2 (z_a2 (z_a2 (z_a1 (z_a1 (z_a2 (h))))))))
theorem nv_176 {args : Array Value} {s : State} (h : narrow_1.before args s = true) : ((Jvm.Cond.eq (Jvm.Term.elem (Jvm.Term.field (Jvm.Term.string "SoleReader$Reader" (164 : Nat)) "java/lang/String" "value" "[B") (Jvm.Term.int (25 : Int32))) (Jvm.Term.int (97 : Int32)))).before args s = true := z_a1 (z_a2 (z_a2 (z_a2 (z_a2 (z_a2 (z_a1 (z_a1 (z_a2 (h)))))))))
theorem nv_177 {args : Array Value} {s : State} (h : narrow_1.before args s = true) : ((Jvm.Cond.eq (Jvm.Term.elem (Jvm.Term.field (Jvm.Term.string "SoleReader$Reader" (164 : Nat)) "java/lang/String" "value" "[B") (Jvm.Term.int (26 : Int32))) (Jvm.Term.int (121 : Int32)))).before args s = true := z_a2 (z_a2 (z_a2 (z_a2 (z_a2 (z_a2 (z_a1 (z_a1 (z_a2 (h)))))))))
theorem nv_178 {args : Array Value} {s : State} (h : narrow_1.before args s = true) : ((Jvm.Cond.eq (Jvm.Term.elem (Jvm.Term.field (Jvm.Term.string "SoleReader$Reader" (164 : Nat)) "java/lang/String" "value" "[B") (Jvm.Term.int (27 : Int32))) (Jvm.Term.int (32 : Int32)))).before args s = true := z_a1 (z_a1 (z_a1 (z_a1 (z_a1 (z_a2 (z_a1 (z_a2 (h))))))))
theorem nv_179 {args : Array Value} {s : State} (h : narrow_1.before args s = true) : ((Jvm.Cond.eq (Jvm.Term.elem (Jvm.Term.field (Jvm.Term.string "SoleReader$Reader" (164 : Nat)) "java/lang/String" "value" "[B") (Jvm.Term.int (28 : Int32))) (Jvm.Term.int (100 : Int32)))).before args s = true := z_a2 (z_a1 (z_a1 (z_a1 (z_a1 (z_a2 (z_a1 (z_a2 (h))))))))
theorem nv_180 {args : Array Value} {s : State} (h : narrow_1.before args s = true) : ((Jvm.Cond.eq (Jvm.Term.elem (Jvm.Term.field (Jvm.Term.string "SoleReader$Reader" (164 : Nat)) "java/lang/String" "value" "[B") (Jvm.Term.int (29 : Int32))) (Jvm.Term.int (97 : Int32)))).before args s = true := z_a1 (z_a2 (z_a1 (z_a1 (z_a1 (z_a2 (z_a1 (z_a2 (h))))))))
theorem nv_181 {args : Array Value} {s : State} (h : narrow_1.before args s = true) : ((Jvm.Cond.eq (Jvm.Term.elem (Jvm.Term.field (Jvm.Term.string "SoleReader$Reader" (164 : Nat)) "java/lang/String" "value" "[B") (Jvm.Term.int (30 : Int32))) (Jvm.Term.int (121 : Int32)))).before args s = true := z_a2 (z_a2 (z_a1 (z_a1 (z_a1 (z_a2 (z_a1 (z_a2 (h))))))))
theorem nv_182 {args : Array Value} {s : State} (h : narrow_1.before args s = true) : ((Jvm.Cond.eq (Jvm.Term.elem (Jvm.Term.field (Jvm.Term.string "SoleReader$Reader" (164 : Nat)) "java/lang/String" "value" "[B") (Jvm.Term.int (31 : Int32))) (Jvm.Term.int (32 : Int32)))).before args s = true := z_a1 (z_a1 (z_a2 (z_a1 (z_a1 (z_a2 (z_a1 (z_a2 (h))))))))
theorem nv_183 {args : Array Value} {s : State} (h : narrow_1.before args s = true) : ((Jvm.Cond.eq (Jvm.Term.elem (Jvm.Term.field (Jvm.Term.string "SoleReader$Reader" (164 : Nat)) "java/lang/String" "value" "[B") (Jvm.Term.int (32 : Int32))) (Jvm.Term.int (109 : Int32)))).before args s = true := z_a2 (z_a1 (z_a2 (z_a1 (z_a1 (z_a2 (z_a1 (z_a2 (h))))))))
theorem nv_184 {args : Array Value} {s : State} (h : narrow_1.before args s = true) : ((Jvm.Cond.eq (Jvm.Term.elem (Jvm.Term.field (Jvm.Term.string "SoleReader$Reader" (164 : Nat)) "java/lang/String" "value" "[B") (Jvm.Term.int (33 : Int32))) (Jvm.Term.int (111 : Int32)))).before args s = true := z_a1 (z_a2 (z_a2 (z_a1 (z_a1 (z_a2 (z_a1 (z_a2 (h))))))))
theorem nv_185 {args : Array Value} {s : State} (h : narrow_1.before args s = true) : ((Jvm.Cond.eq (Jvm.Term.elem (Jvm.Term.field (Jvm.Term.string "SoleReader$Reader" (164 : Nat)) "java/lang/String" "value" "[B") (Jvm.Term.int (34 : Int32))) (Jvm.Term.int (111 : Int32)))).before args s = true := z_a1 (z_a2 (z_a2 (z_a2 (z_a1 (z_a1 (z_a2 (z_a1 (z_a2 (h)))))))))
theorem nv_186 {args : Array Value} {s : State} (h : narrow_1.before args s = true) : ((Jvm.Cond.eq (Jvm.Term.elem (Jvm.Term.field (Jvm.Term.string "SoleReader$Reader" (164 : Nat)) "java/lang/String" "value" "[B") (Jvm.Term.int (35 : Int32))) (Jvm.Term.int (100 : Int32)))).before args s = true := z_a2 (z_a2 (z_a2 (z_a2 (z_a1 (z_a1 (z_a2 (z_a1 (z_a2 (h)))))))))
theorem nv_187 {args : Array Value} {s : State} (h : narrow_1.before args s = true) : ((Jvm.Cond.eq (Jvm.Term.elem (Jvm.Term.field (Jvm.Term.string "SoleReader$Reader" (118 : Nat)) "java/lang/String" "value" "[B") (Jvm.Term.int (0 : Int32))) (Jvm.Term.int (116 : Int32)))).before args s = true := z_a1 (z_a2 (z_a2 (z_a2 (z_a2 (z_a1 (z_a2 (z_a1 (z_a2 (h)))))))))
theorem nv_188 {args : Array Value} {s : State} (h : narrow_1.before args s = true) : ((Jvm.Cond.eq (Jvm.Term.elem (Jvm.Term.field (Jvm.Term.string "SoleReader$Reader" (118 : Nat)) "java/lang/String" "value" "[B") (Jvm.Term.int (1 : Int32))) (Jvm.Term.int (111 : Int32)))).before args s = true := z_a2 (z_a2 (z_a2 (z_a2 (z_a2 (z_a1 (z_a2 (z_a1 (z_a2 (h)))))))))
theorem nv_189 {args : Array Value} {s : State} (h : narrow_1.before args s = true) : ((Jvm.Cond.eq (Jvm.Term.elem (Jvm.Term.field (Jvm.Term.string "SoleReader$Reader" (119 : Nat)) "java/lang/String" "value" "[B") (Jvm.Term.int (0 : Int32))) (Jvm.Term.int (97 : Int32)))).before args s = true := z_a2 (z_a2 (z_a2 (z_a2 (z_a1 (z_a2 (z_a2 (z_a1 (z_a2 (h)))))))))
theorem nv_190 {args : Array Value} {s : State} (h : narrow_1.before args s = true) : ((Jvm.Cond.eq (Jvm.Term.elem (Jvm.Term.field (Jvm.Term.string "SoleReader$Reader" (119 : Nat)) "java/lang/String" "value" "[B") (Jvm.Term.int (1 : Int32))) (Jvm.Term.int (116 : Int32)))).before args s = true := z_a1 (z_a1 (z_a1 (z_a2 (z_a2 (z_a2 (z_a1 (z_a2 (h))))))))
theorem nv_191 {args : Array Value} {s : State} (h : narrow_1.before args s = true) : ((Jvm.Cond.eq (Jvm.Term.elem (Jvm.Term.field (Jvm.Term.string "SoleReader$Reader" (124 : Nat)) "java/lang/String" "value" "[B") (Jvm.Term.int (0 : Int32))) (Jvm.Term.int (116 : Int32)))).before args s = true := z_a1 (z_a1 (z_a1 (z_a1 (z_a1 (z_a1 (z_a2 (z_a2 (h))))))))
theorem nv_192 {args : Array Value} {s : State} (h : narrow_1.before args s = true) : ((Jvm.Cond.eq (Jvm.Term.elem (Jvm.Term.field (Jvm.Term.string "SoleReader$Reader" (124 : Nat)) "java/lang/String" "value" "[B") (Jvm.Term.int (1 : Int32))) (Jvm.Term.int (105 : Int32)))).before args s = true := z_a2 (z_a1 (z_a1 (z_a1 (z_a1 (z_a1 (z_a2 (z_a2 (h))))))))
theorem nv_193 {args : Array Value} {s : State} (h : narrow_1.before args s = true) : ((Jvm.Cond.eq (Jvm.Term.elem (Jvm.Term.field (Jvm.Term.string "SoleReader$Reader" (124 : Nat)) "java/lang/String" "value" "[B") (Jvm.Term.int (2 : Int32))) (Jvm.Term.int (109 : Int32)))).before args s = true := z_a1 (z_a2 (z_a1 (z_a1 (z_a1 (z_a1 (z_a2 (z_a2 (h))))))))
theorem nv_194 {args : Array Value} {s : State} (h : narrow_1.before args s = true) : ((Jvm.Cond.eq (Jvm.Term.elem (Jvm.Term.field (Jvm.Term.string "SoleReader$Reader" (124 : Nat)) "java/lang/String" "value" "[B") (Jvm.Term.int (3 : Int32))) (Jvm.Term.int (101 : Int32)))).before args s = true := z_a2 (z_a2 (z_a1 (z_a1 (z_a1 (z_a1 (z_a2 (z_a2 (h))))))))
theorem nv_195 {args : Array Value} {s : State} (h : narrow_1.before args s = true) : ((Jvm.Cond.eq (Jvm.Term.elem (Jvm.Term.field (Jvm.Term.string "SoleReader$Reader" (124 : Nat)) "java/lang/String" "value" "[B") (Jvm.Term.int (4 : Int32))) (Jvm.Term.int (115 : Int32)))).before args s = true := z_a1 (z_a1 (z_a2 (z_a1 (z_a1 (z_a1 (z_a2 (z_a2 (h))))))))
theorem nv_196 {args : Array Value} {s : State} (h : narrow_1.before args s = true) : ((Jvm.Cond.eq (Jvm.Term.elem (Jvm.Term.field (Jvm.Term.string "SoleReader$Reader" (129 : Nat)) "java/lang/String" "value" "[B") (Jvm.Term.int (0 : Int32))) (Jvm.Term.int (105 : Int32)))).before args s = true := z_a1 (z_a2 (z_a2 (z_a2 (z_a1 (z_a1 (z_a2 (z_a2 (h))))))))
theorem nv_197 {args : Array Value} {s : State} (h : narrow_1.before args s = true) : ((Jvm.Cond.eq (Jvm.Term.elem (Jvm.Term.field (Jvm.Term.string "SoleReader$Reader" (129 : Nat)) "java/lang/String" "value" "[B") (Jvm.Term.int (1 : Int32))) (Jvm.Term.int (102 : Int32)))).before args s = true := z_a1 (z_a2 (z_a2 (z_a2 (z_a2 (z_a1 (z_a1 (z_a2 (z_a2 (h)))))))))
theorem nv_198 {args : Array Value} {s : State} (h : narrow_1.before args s = true) : ((Jvm.Cond.eq (Jvm.Term.elem (Jvm.Term.field (Jvm.Term.string "SoleReader$Reader" (151 : Nat)) "java/lang/String" "value" "[B") (Jvm.Term.int (0 : Int32))) (Jvm.Term.int (110 : Int32)))).before args s = true := z_a2 (z_a1 (z_a1 (z_a2 (z_a2 (z_a1 (z_a2 (z_a2 (h))))))))
theorem nv_199 {args : Array Value} {s : State} (h : narrow_1.before args s = true) : ((Jvm.Cond.eq (Jvm.Term.elem (Jvm.Term.field (Jvm.Term.string "SoleReader$Reader" (151 : Nat)) "java/lang/String" "value" "[B") (Jvm.Term.int (1 : Int32))) (Jvm.Term.int (111 : Int32)))).before args s = true := z_a1 (z_a2 (z_a1 (z_a2 (z_a2 (z_a1 (z_a2 (z_a2 (h))))))))
theorem nv_200 {args : Array Value} {s : State} (h : narrow_1.before args s = true) : ((Jvm.Cond.eq (Jvm.Term.elem (Jvm.Term.field (Jvm.Term.string "SoleReader$Reader" (151 : Nat)) "java/lang/String" "value" "[B") (Jvm.Term.int (2 : Int32))) (Jvm.Term.int (116 : Int32)))).before args s = true := z_a1 (z_a2 (z_a2 (z_a1 (z_a2 (z_a2 (z_a1 (z_a2 (z_a2 (h)))))))))
theorem nv_201 {args : Array Value} {s : State} (h : narrow_1.before args s = true) : ((Jvm.Cond.eq (Jvm.Term.elem (Jvm.Term.field (Jvm.Term.string "SoleReader$Reader" (149 : Nat)) "java/lang/String" "value" "[B") (Jvm.Term.int (0 : Int32))) (Jvm.Term.int (97 : Int32)))).before args s = true := z_a1 (z_a2 (z_a2 (z_a1 (z_a1 (z_a2 (z_a2 (z_a2 (h))))))))
theorem nv_202 {args : Array Value} {s : State} (h : narrow_1.before args s = true) : ((Jvm.Cond.eq (Jvm.Term.elem (Jvm.Term.field (Jvm.Term.string "SoleReader$Reader" (149 : Nat)) "java/lang/String" "value" "[B") (Jvm.Term.int (1 : Int32))) (Jvm.Term.int (110 : Int32)))).before args s = true := z_a1 (z_a2 (z_a2 (z_a2 (z_a1 (z_a1 (z_a2 (z_a2 (z_a2 (h)))))))))
theorem nv_203 {args : Array Value} {s : State} (h : narrow_1.before args s = true) : ((Jvm.Cond.eq (Jvm.Term.elem (Jvm.Term.field (Jvm.Term.string "SoleReader$Reader" (149 : Nat)) "java/lang/String" "value" "[B") (Jvm.Term.int (2 : Int32))) (Jvm.Term.int (100 : Int32)))).before args s = true := z_a2 (z_a2 (z_a2 (z_a2 (z_a1 (z_a1 (z_a2 (z_a2 (z_a2 (h)))))))))
theorem nv_204 {args : Array Value} {s : State} (h : narrow_1.before args s = true) : ((Jvm.Cond.eq (Jvm.Term.elem (Jvm.Term.field (Jvm.Term.string "SoleReader$Reader" (137 : Nat)) "java/lang/String" "value" "[B") (Jvm.Term.int (0 : Int32))) (Jvm.Term.int (111 : Int32)))).before args s = true := z_a1 (z_a1 (z_a2 (z_a1 (z_a2 (z_a2 (z_a2 (z_a2 (h))))))))
theorem nv_205 {args : Array Value} {s : State} (h : narrow_1.before args s = true) : ((Jvm.Cond.eq (Jvm.Term.elem (Jvm.Term.field (Jvm.Term.string "SoleReader$Reader" (137 : Nat)) "java/lang/String" "value" "[B") (Jvm.Term.int (1 : Int32))) (Jvm.Term.int (114 : Int32)))).before args s = true := z_a2 (z_a1 (z_a2 (z_a1 (z_a2 (z_a2 (z_a2 (z_a2 (h))))))))
theorem nv_206 {args : Array Value} {s : State} (h : narrow_1.before args s = true) : ((Jvm.Cond.not (Jvm.Cond.eq (Jvm.Term.string "SoleReader$Reader" (101 : Nat)) (Jvm.Term.string "SoleReader$Reader" (103 : Nat))))).before args s = true := z_a1 (z_a1 (z_a2 (z_a2 (z_a2 (z_a1 (z_a2 (z_a1 (h))))))))
theorem nv_207 {args : Array Value} {s : State} (h : narrow_1.before args s = true) : ((Jvm.Cond.not (Jvm.Cond.eq (Jvm.Term.string "SoleReader$Reader" (101 : Nat)) (Jvm.Term.string "SoleReader$Reader" (162 : Nat))))).before args s = true := z_a1 (z_a1 (z_a2 (z_a1 (z_a1 (z_a1 (z_a1 (z_a2 (h))))))))
theorem nv_208 {args : Array Value} {s : State} (h : narrow_1.before args s = true) : ((Jvm.Cond.not (Jvm.Cond.eq (Jvm.Term.string "SoleReader$Reader" (101 : Nat)) (Jvm.Term.string "SoleReader$Reader" (164 : Nat))))).before args s = true := z_a1 (z_a1 (z_a1 (z_a2 (z_a1 (z_a2 (z_a1 (z_a2 (h))))))))
theorem nv_209 {args : Array Value} {s : State} (h : narrow_1.before args s = true) : ((Jvm.Cond.not (Jvm.Cond.eq (Jvm.Term.string "SoleReader$Reader" (101 : Nat)) (Jvm.Term.string "SoleReader$Reader" (118 : Nat))))).before args s = true := z_a1 (z_a1 (z_a1 (z_a1 (z_a2 (z_a2 (z_a1 (z_a2 (h))))))))
theorem nv_210 {args : Array Value} {s : State} (h : narrow_1.before args s = true) : ((Jvm.Cond.not (Jvm.Cond.eq (Jvm.Term.string "SoleReader$Reader" (101 : Nat)) (Jvm.Term.string "SoleReader$Reader" (119 : Nat))))).before args s = true := z_a2 (z_a1 (z_a1 (z_a2 (z_a2 (z_a2 (z_a1 (z_a2 (h))))))))
theorem nv_211 {args : Array Value} {s : State} (h : narrow_1.before args s = true) : ((Jvm.Cond.not (Jvm.Cond.eq (Jvm.Term.string "SoleReader$Reader" (101 : Nat)) (Jvm.Term.string "SoleReader$Reader" (124 : Nat))))).before args s = true := z_a2 (z_a1 (z_a2 (z_a1 (z_a1 (z_a1 (z_a2 (z_a2 (h))))))))
theorem nv_212 {args : Array Value} {s : State} (h : narrow_1.before args s = true) : ((Jvm.Cond.not (Jvm.Cond.eq (Jvm.Term.string "SoleReader$Reader" (101 : Nat)) (Jvm.Term.string "SoleReader$Reader" (129 : Nat))))).before args s = true := z_a2 (z_a2 (z_a2 (z_a2 (z_a2 (z_a1 (z_a1 (z_a2 (z_a2 (h)))))))))
theorem nv_213 {args : Array Value} {s : State} (h : narrow_1.before args s = true) : ((Jvm.Cond.not (Jvm.Cond.eq (Jvm.Term.string "SoleReader$Reader" (101 : Nat)) (Jvm.Term.string "SoleReader$Reader" (151 : Nat))))).before args s = true := z_a2 (z_a2 (z_a2 (z_a1 (z_a2 (z_a2 (z_a1 (z_a2 (z_a2 (h)))))))))
theorem nv_214 {args : Array Value} {s : State} (h : narrow_1.before args s = true) : ((Jvm.Cond.not (Jvm.Cond.eq (Jvm.Term.string "SoleReader$Reader" (101 : Nat)) (Jvm.Term.string "SoleReader$Reader" (149 : Nat))))).before args s = true := z_a1 (z_a1 (z_a1 (z_a2 (z_a1 (z_a2 (z_a2 (z_a2 (h))))))))
theorem nv_215 {args : Array Value} {s : State} (h : narrow_1.before args s = true) : ((Jvm.Cond.not (Jvm.Cond.eq (Jvm.Term.string "SoleReader$Reader" (101 : Nat)) (Jvm.Term.string "SoleReader$Reader" (137 : Nat))))).before args s = true := z_a1 (z_a2 (z_a2 (z_a1 (z_a2 (z_a2 (z_a2 (z_a2 (h))))))))
theorem nv_216 {args : Array Value} {s : State} (h : narrow_1.before args s = true) : ((Jvm.Cond.not (Jvm.Cond.eq (Jvm.Term.string "SoleReader$Reader" (103 : Nat)) (Jvm.Term.string "SoleReader$Reader" (162 : Nat))))).before args s = true := z_a2 (z_a1 (z_a2 (z_a1 (z_a1 (z_a1 (z_a1 (z_a2 (h))))))))
theorem nv_217 {args : Array Value} {s : State} (h : narrow_1.before args s = true) : ((Jvm.Cond.not (Jvm.Cond.eq (Jvm.Term.string "SoleReader$Reader" (103 : Nat)) (Jvm.Term.string "SoleReader$Reader" (164 : Nat))))).before args s = true := z_a2 (z_a1 (z_a1 (z_a2 (z_a1 (z_a2 (z_a1 (z_a2 (h))))))))
theorem nv_218 {args : Array Value} {s : State} (h : narrow_1.before args s = true) : ((Jvm.Cond.not (Jvm.Cond.eq (Jvm.Term.string "SoleReader$Reader" (103 : Nat)) (Jvm.Term.string "SoleReader$Reader" (118 : Nat))))).before args s = true := z_a2 (z_a1 (z_a1 (z_a1 (z_a2 (z_a2 (z_a1 (z_a2 (h))))))))
theorem nv_219 {args : Array Value} {s : State} (h : narrow_1.before args s = true) : ((Jvm.Cond.not (Jvm.Cond.eq (Jvm.Term.string "SoleReader$Reader" (103 : Nat)) (Jvm.Term.string "SoleReader$Reader" (119 : Nat))))).before args s = true := z_a1 (z_a2 (z_a1 (z_a2 (z_a2 (z_a2 (z_a1 (z_a2 (h))))))))
theorem nv_220 {args : Array Value} {s : State} (h : narrow_1.before args s = true) : ((Jvm.Cond.not (Jvm.Cond.eq (Jvm.Term.string "SoleReader$Reader" (103 : Nat)) (Jvm.Term.string "SoleReader$Reader" (124 : Nat))))).before args s = true := z_a1 (z_a2 (z_a2 (z_a1 (z_a1 (z_a1 (z_a2 (z_a2 (h))))))))
theorem nv_221 {args : Array Value} {s : State} (h : narrow_1.before args s = true) : ((Jvm.Cond.not (Jvm.Cond.eq (Jvm.Term.string "SoleReader$Reader" (103 : Nat)) (Jvm.Term.string "SoleReader$Reader" (129 : Nat))))).before args s = true := z_a1 (z_a1 (z_a1 (z_a1 (z_a2 (z_a1 (z_a2 (z_a2 (h))))))))
theorem nv_222 {args : Array Value} {s : State} (h : narrow_1.before args s = true) : ((Jvm.Cond.not (Jvm.Cond.eq (Jvm.Term.string "SoleReader$Reader" (103 : Nat)) (Jvm.Term.string "SoleReader$Reader" (151 : Nat))))).before args s = true := z_a1 (z_a1 (z_a2 (z_a2 (z_a2 (z_a1 (z_a2 (z_a2 (h))))))))
theorem nv_223 {args : Array Value} {s : State} (h : narrow_1.before args s = true) : ((Jvm.Cond.not (Jvm.Cond.eq (Jvm.Term.string "SoleReader$Reader" (103 : Nat)) (Jvm.Term.string "SoleReader$Reader" (149 : Nat))))).before args s = true := z_a2 (z_a1 (z_a1 (z_a2 (z_a1 (z_a2 (z_a2 (z_a2 (h))))))))
theorem nv_224 {args : Array Value} {s : State} (h : narrow_1.before args s = true) : ((Jvm.Cond.not (Jvm.Cond.eq (Jvm.Term.string "SoleReader$Reader" (103 : Nat)) (Jvm.Term.string "SoleReader$Reader" (137 : Nat))))).before args s = true := z_a1 (z_a2 (z_a2 (z_a2 (z_a1 (z_a2 (z_a2 (z_a2 (z_a2 (h)))))))))
theorem nv_225 {args : Array Value} {s : State} (h : narrow_1.before args s = true) : ((Jvm.Cond.not (Jvm.Cond.eq (Jvm.Term.string "SoleReader$Reader" (162 : Nat)) (Jvm.Term.string "SoleReader$Reader" (164 : Nat))))).before args s = true := z_a1 (z_a2 (z_a1 (z_a2 (z_a1 (z_a2 (z_a1 (z_a2 (h))))))))
theorem nv_226 {args : Array Value} {s : State} (h : narrow_1.before args s = true) : ((Jvm.Cond.not (Jvm.Cond.eq (Jvm.Term.string "SoleReader$Reader" (162 : Nat)) (Jvm.Term.string "SoleReader$Reader" (118 : Nat))))).before args s = true := z_a1 (z_a2 (z_a1 (z_a1 (z_a2 (z_a2 (z_a1 (z_a2 (h))))))))
theorem nv_227 {args : Array Value} {s : State} (h : narrow_1.before args s = true) : ((Jvm.Cond.not (Jvm.Cond.eq (Jvm.Term.string "SoleReader$Reader" (162 : Nat)) (Jvm.Term.string "SoleReader$Reader" (119 : Nat))))).before args s = true := z_a1 (z_a2 (z_a2 (z_a1 (z_a2 (z_a2 (z_a2 (z_a1 (z_a2 (h)))))))))
theorem nv_228 {args : Array Value} {s : State} (h : narrow_1.before args s = true) : ((Jvm.Cond.not (Jvm.Cond.eq (Jvm.Term.string "SoleReader$Reader" (162 : Nat)) (Jvm.Term.string "SoleReader$Reader" (124 : Nat))))).before args s = true := z_a1 (z_a2 (z_a2 (z_a2 (z_a1 (z_a1 (z_a1 (z_a2 (z_a2 (h)))))))))
theorem nv_229 {args : Array Value} {s : State} (h : narrow_1.before args s = true) : ((Jvm.Cond.not (Jvm.Cond.eq (Jvm.Term.string "SoleReader$Reader" (162 : Nat)) (Jvm.Term.string "SoleReader$Reader" (129 : Nat))))).before args s = true := z_a2 (z_a1 (z_a1 (z_a1 (z_a2 (z_a1 (z_a2 (z_a2 (h))))))))
theorem nv_230 {args : Array Value} {s : State} (h : narrow_1.before args s = true) : ((Jvm.Cond.not (Jvm.Cond.eq (Jvm.Term.string "SoleReader$Reader" (162 : Nat)) (Jvm.Term.string "SoleReader$Reader" (151 : Nat))))).before args s = true := z_a2 (z_a1 (z_a2 (z_a2 (z_a2 (z_a1 (z_a2 (z_a2 (h))))))))
theorem nv_231 {args : Array Value} {s : State} (h : narrow_1.before args s = true) : ((Jvm.Cond.not (Jvm.Cond.eq (Jvm.Term.string "SoleReader$Reader" (162 : Nat)) (Jvm.Term.string "SoleReader$Reader" (149 : Nat))))).before args s = true := z_a1 (z_a2 (z_a1 (z_a2 (z_a1 (z_a2 (z_a2 (z_a2 (h))))))))
theorem nv_232 {args : Array Value} {s : State} (h : narrow_1.before args s = true) : ((Jvm.Cond.not (Jvm.Cond.eq (Jvm.Term.string "SoleReader$Reader" (162 : Nat)) (Jvm.Term.string "SoleReader$Reader" (137 : Nat))))).before args s = true := z_a2 (z_a2 (z_a2 (z_a2 (z_a1 (z_a2 (z_a2 (z_a2 (z_a2 (h)))))))))
theorem nv_233 {args : Array Value} {s : State} (h : narrow_1.before args s = true) : ((Jvm.Cond.not (Jvm.Cond.eq (Jvm.Term.string "SoleReader$Reader" (164 : Nat)) (Jvm.Term.string "SoleReader$Reader" (118 : Nat))))).before args s = true := z_a2 (z_a2 (z_a1 (z_a1 (z_a2 (z_a2 (z_a1 (z_a2 (h))))))))
theorem nv_234 {args : Array Value} {s : State} (h : narrow_1.before args s = true) : ((Jvm.Cond.not (Jvm.Cond.eq (Jvm.Term.string "SoleReader$Reader" (164 : Nat)) (Jvm.Term.string "SoleReader$Reader" (119 : Nat))))).before args s = true := z_a2 (z_a2 (z_a2 (z_a1 (z_a2 (z_a2 (z_a2 (z_a1 (z_a2 (h)))))))))
theorem nv_235 {args : Array Value} {s : State} (h : narrow_1.before args s = true) : ((Jvm.Cond.not (Jvm.Cond.eq (Jvm.Term.string "SoleReader$Reader" (164 : Nat)) (Jvm.Term.string "SoleReader$Reader" (124 : Nat))))).before args s = true := z_a2 (z_a2 (z_a2 (z_a2 (z_a1 (z_a1 (z_a1 (z_a2 (z_a2 (h)))))))))
theorem nv_236 {args : Array Value} {s : State} (h : narrow_1.before args s = true) : ((Jvm.Cond.not (Jvm.Cond.eq (Jvm.Term.string "SoleReader$Reader" (164 : Nat)) (Jvm.Term.string "SoleReader$Reader" (129 : Nat))))).before args s = true := z_a1 (z_a2 (z_a1 (z_a1 (z_a2 (z_a1 (z_a2 (z_a2 (h))))))))
theorem nv_237 {args : Array Value} {s : State} (h : narrow_1.before args s = true) : ((Jvm.Cond.not (Jvm.Cond.eq (Jvm.Term.string "SoleReader$Reader" (164 : Nat)) (Jvm.Term.string "SoleReader$Reader" (151 : Nat))))).before args s = true := z_a1 (z_a2 (z_a2 (z_a2 (z_a2 (z_a1 (z_a2 (z_a2 (h))))))))
theorem nv_238 {args : Array Value} {s : State} (h : narrow_1.before args s = true) : ((Jvm.Cond.not (Jvm.Cond.eq (Jvm.Term.string "SoleReader$Reader" (164 : Nat)) (Jvm.Term.string "SoleReader$Reader" (149 : Nat))))).before args s = true := z_a2 (z_a2 (z_a1 (z_a2 (z_a1 (z_a2 (z_a2 (z_a2 (h))))))))
theorem nv_239 {args : Array Value} {s : State} (h : narrow_1.before args s = true) : ((Jvm.Cond.not (Jvm.Cond.eq (Jvm.Term.string "SoleReader$Reader" (164 : Nat)) (Jvm.Term.string "SoleReader$Reader" (137 : Nat))))).before args s = true := z_a1 (z_a1 (z_a1 (z_a2 (z_a2 (z_a2 (z_a2 (z_a2 (h))))))))
theorem nv_240 {args : Array Value} {s : State} (h : narrow_1.before args s = true) : ((Jvm.Cond.not (Jvm.Cond.eq (Jvm.Term.string "SoleReader$Reader" (118 : Nat)) (Jvm.Term.string "SoleReader$Reader" (119 : Nat))))).before args s = true := z_a1 (z_a1 (z_a2 (z_a2 (z_a2 (z_a2 (z_a1 (z_a2 (h))))))))
theorem nv_241 {args : Array Value} {s : State} (h : narrow_1.before args s = true) : ((Jvm.Cond.not (Jvm.Cond.eq (Jvm.Term.string "SoleReader$Reader" (118 : Nat)) (Jvm.Term.string "SoleReader$Reader" (124 : Nat))))).before args s = true := z_a1 (z_a1 (z_a1 (z_a2 (z_a1 (z_a1 (z_a2 (z_a2 (h))))))))
theorem nv_242 {args : Array Value} {s : State} (h : narrow_1.before args s = true) : ((Jvm.Cond.not (Jvm.Cond.eq (Jvm.Term.string "SoleReader$Reader" (118 : Nat)) (Jvm.Term.string "SoleReader$Reader" (129 : Nat))))).before args s = true := z_a2 (z_a2 (z_a1 (z_a1 (z_a2 (z_a1 (z_a2 (z_a2 (h))))))))
theorem nv_243 {args : Array Value} {s : State} (h : narrow_1.before args s = true) : ((Jvm.Cond.not (Jvm.Cond.eq (Jvm.Term.string "SoleReader$Reader" (118 : Nat)) (Jvm.Term.string "SoleReader$Reader" (151 : Nat))))).before args s = true := z_a1 (z_a2 (z_a2 (z_a2 (z_a2 (z_a2 (z_a1 (z_a2 (z_a2 (h)))))))))
theorem nv_244 {args : Array Value} {s : State} (h : narrow_1.before args s = true) : ((Jvm.Cond.not (Jvm.Cond.eq (Jvm.Term.string "SoleReader$Reader" (118 : Nat)) (Jvm.Term.string "SoleReader$Reader" (149 : Nat))))).before args s = true := z_a1 (z_a1 (z_a2 (z_a2 (z_a1 (z_a2 (z_a2 (z_a2 (h))))))))
theorem nv_245 {args : Array Value} {s : State} (h : narrow_1.before args s = true) : ((Jvm.Cond.not (Jvm.Cond.eq (Jvm.Term.string "SoleReader$Reader" (118 : Nat)) (Jvm.Term.string "SoleReader$Reader" (137 : Nat))))).before args s = true := z_a2 (z_a1 (z_a1 (z_a2 (z_a2 (z_a2 (z_a2 (z_a2 (h))))))))
theorem nv_246 {args : Array Value} {s : State} (h : narrow_1.before args s = true) : ((Jvm.Cond.not (Jvm.Cond.eq (Jvm.Term.string "SoleReader$Reader" (119 : Nat)) (Jvm.Term.string "SoleReader$Reader" (124 : Nat))))).before args s = true := z_a2 (z_a1 (z_a1 (z_a2 (z_a1 (z_a1 (z_a2 (z_a2 (h))))))))
theorem nv_247 {args : Array Value} {s : State} (h : narrow_1.before args s = true) : ((Jvm.Cond.not (Jvm.Cond.eq (Jvm.Term.string "SoleReader$Reader" (119 : Nat)) (Jvm.Term.string "SoleReader$Reader" (129 : Nat))))).before args s = true := z_a1 (z_a1 (z_a2 (z_a1 (z_a2 (z_a1 (z_a2 (z_a2 (h))))))))
theorem nv_248 {args : Array Value} {s : State} (h : narrow_1.before args s = true) : ((Jvm.Cond.not (Jvm.Cond.eq (Jvm.Term.string "SoleReader$Reader" (119 : Nat)) (Jvm.Term.string "SoleReader$Reader" (151 : Nat))))).before args s = true := z_a2 (z_a2 (z_a2 (z_a2 (z_a2 (z_a2 (z_a1 (z_a2 (z_a2 (h)))))))))
theorem nv_249 {args : Array Value} {s : State} (h : narrow_1.before args s = true) : ((Jvm.Cond.not (Jvm.Cond.eq (Jvm.Term.string "SoleReader$Reader" (119 : Nat)) (Jvm.Term.string "SoleReader$Reader" (149 : Nat))))).before args s = true := z_a2 (z_a1 (z_a2 (z_a2 (z_a1 (z_a2 (z_a2 (z_a2 (h))))))))
theorem nv_250 {args : Array Value} {s : State} (h : narrow_1.before args s = true) : ((Jvm.Cond.not (Jvm.Cond.eq (Jvm.Term.string "SoleReader$Reader" (119 : Nat)) (Jvm.Term.string "SoleReader$Reader" (137 : Nat))))).before args s = true := z_a1 (z_a2 (z_a1 (z_a2 (z_a2 (z_a2 (z_a2 (z_a2 (h))))))))
theorem nv_251 {args : Array Value} {s : State} (h : narrow_1.before args s = true) : ((Jvm.Cond.not (Jvm.Cond.eq (Jvm.Term.string "SoleReader$Reader" (124 : Nat)) (Jvm.Term.string "SoleReader$Reader" (129 : Nat))))).before args s = true := z_a2 (z_a1 (z_a2 (z_a1 (z_a2 (z_a1 (z_a2 (z_a2 (h))))))))
theorem nv_252 {args : Array Value} {s : State} (h : narrow_1.before args s = true) : ((Jvm.Cond.not (Jvm.Cond.eq (Jvm.Term.string "SoleReader$Reader" (124 : Nat)) (Jvm.Term.string "SoleReader$Reader" (151 : Nat))))).before args s = true := z_a1 (z_a1 (z_a1 (z_a1 (z_a1 (z_a2 (z_a2 (z_a2 (h))))))))
theorem nv_253 {args : Array Value} {s : State} (h : narrow_1.before args s = true) : ((Jvm.Cond.not (Jvm.Cond.eq (Jvm.Term.string "SoleReader$Reader" (124 : Nat)) (Jvm.Term.string "SoleReader$Reader" (149 : Nat))))).before args s = true := z_a1 (z_a2 (z_a2 (z_a2 (z_a1 (z_a2 (z_a2 (z_a2 (h))))))))
theorem nv_254 {args : Array Value} {s : State} (h : narrow_1.before args s = true) : ((Jvm.Cond.not (Jvm.Cond.eq (Jvm.Term.string "SoleReader$Reader" (124 : Nat)) (Jvm.Term.string "SoleReader$Reader" (137 : Nat))))).before args s = true := z_a1 (z_a2 (z_a2 (z_a1 (z_a2 (z_a2 (z_a2 (z_a2 (z_a2 (h)))))))))
theorem nv_255 {args : Array Value} {s : State} (h : narrow_1.before args s = true) : ((Jvm.Cond.not (Jvm.Cond.eq (Jvm.Term.string "SoleReader$Reader" (129 : Nat)) (Jvm.Term.string "SoleReader$Reader" (151 : Nat))))).before args s = true := z_a2 (z_a1 (z_a1 (z_a1 (z_a1 (z_a2 (z_a2 (z_a2 (h))))))))
theorem nv_256 {args : Array Value} {s : State} (h : narrow_1.before args s = true) : ((Jvm.Cond.not (Jvm.Cond.eq (Jvm.Term.string "SoleReader$Reader" (129 : Nat)) (Jvm.Term.string "SoleReader$Reader" (149 : Nat))))).before args s = true := z_a1 (z_a2 (z_a2 (z_a2 (z_a2 (z_a1 (z_a2 (z_a2 (z_a2 (h)))))))))
theorem nv_257 {args : Array Value} {s : State} (h : narrow_1.before args s = true) : ((Jvm.Cond.not (Jvm.Cond.eq (Jvm.Term.string "SoleReader$Reader" (129 : Nat)) (Jvm.Term.string "SoleReader$Reader" (137 : Nat))))).before args s = true := z_a2 (z_a2 (z_a2 (z_a1 (z_a2 (z_a2 (z_a2 (z_a2 (z_a2 (h)))))))))
theorem nv_258 {args : Array Value} {s : State} (h : narrow_1.before args s = true) : ((Jvm.Cond.not (Jvm.Cond.eq (Jvm.Term.string "SoleReader$Reader" (151 : Nat)) (Jvm.Term.string "SoleReader$Reader" (149 : Nat))))).before args s = true := z_a2 (z_a2 (z_a2 (z_a2 (z_a2 (z_a1 (z_a2 (z_a2 (z_a2 (h)))))))))
theorem nv_259 {args : Array Value} {s : State} (h : narrow_1.before args s = true) : ((Jvm.Cond.not (Jvm.Cond.eq (Jvm.Term.string "SoleReader$Reader" (151 : Nat)) (Jvm.Term.string "SoleReader$Reader" (137 : Nat))))).before args s = true := z_a1 (z_a1 (z_a2 (z_a2 (z_a2 (z_a2 (z_a2 (z_a2 (h))))))))
theorem nv_260 {args : Array Value} {s : State} (h : narrow_1.before args s = true) : ((Jvm.Cond.not (Jvm.Cond.eq (Jvm.Term.string "SoleReader$Reader" (149 : Nat)) (Jvm.Term.string "SoleReader$Reader" (137 : Nat))))).before args s = true := z_a2 (z_a1 (z_a2 (z_a2 (z_a2 (z_a2 (z_a2 (z_a2 (h))))))))
theorem z_isRefT {args : Array Value} {s : State} {t : Term} (h : (Cond.isRef t).before args s = true) : t.eval args s none [] s = some .null ∨ ∃ a, t.eval args s none [] s = some (.ref a) := by
  cases hv : t.eval args s none [] s with
  | none => simp [Cond.before, Cond.holds, Cond.value, hv] at h
  | some w =>
    simp only [Cond.before, Cond.holds, Cond.value, hv] at h
    cases w <;> simp_all [Value.isRef]
theorem z_forget {s t : State} {o : Outcome} {L : List Loc} {k n k' n' : Nat} (h : FrameEnd s o t L k n) (hL : ∀ q ∈ L, s.heap.size ≤ q.base) (hk : k ≤ k') (hn : n ≤ n') : Framed s o t [] k' n' := by
  obtain ⟨h1, h2, h3⟩ := h
  exact ⟨h1, h2, h3.weaken (fun y hy hlt => absurd hlt (Nat.not_lt.mpr (hL y hy))) hk hn⟩
set_option maxRecDepth 100000 in
set_option maxHeartbeats 4000000 in
theorem z_world {s : State} {b L : Nat} {xs : Nat → Int32} (hts : ∀ w ∈ lw_tbl, w.before #[Value.ref b] s = true) (hX : va_X b L xs s s.heap) (hbl : b < s.heap.size) (hgv0 : (Jvm.Cond.and given_1 narrow_1).before #[Value.ref b] s = true) (hL : L < 2 ^ 31) : ∃ G : z_G, z_B G = s.heap.size ∧ G.2.2.2.2 = (L, xs) ∧ z_xd G 0 = b ∧ z_wd G s := by
  have hgv : narrow_1.before #[Value.ref b] s = true := z_a2 hgv0
  have hA0 : ∀ a : Nat, a < s.heap.size → ¬ (fun q => s.heap.size ≤ q) a := fun a h => Nat.not_le.mpr h
  obtain ⟨c0, i0, hk0⟩ := u_known (C := RX0) (T := TX0) (N := 2) hts (fun w hw => (in_X0 w hw).1) (hts _ z_ins_0)
  obtain ⟨c1, i1, hk1⟩ := u_known (C := RX1) (T := TX1) (N := 3) hts (fun w hw => (in_X1 w hw).1) (hts _ z_ins_1)
  obtain ⟨c2, i2, hk2⟩ := u_known (C := RX2) (T := TX2) (N := 7) hts (fun w hw => (in_X2 w hw).1) (hts _ z_ins_2)
  obtain ⟨c3, i3, hk3⟩ := u_known (C := RX3) (T := TX3) (N := 6) hts (fun w hw => (in_X3 w hw).1) (hts _ z_ins_3)
  obtain ⟨c4, i4, hk4⟩ := u_known (C := RX4) (T := TX4) (N := 9) hts (fun w hw => (in_X4 w hw).1) (hts _ z_ins_4)
  obtain ⟨c5, i5, hk5⟩ := u_known (C := RX5) (T := TX5) (N := 10) hts (fun w hw => (in_X5 w hw).1) (hts _ z_ins_5)
  obtain ⟨c6, i6, hk6⟩ := u_known (C := RX6) (T := TX6) (N := 6) hts (fun w hw => (in_X6 w hw).1) (hts _ z_ins_6)
  obtain ⟨c7, i7, hk7⟩ := u_known (C := RX7) (T := TX7) (N := 5) hts (fun w hw => (in_X7 w hw).1) (hts _ z_ins_7)
  obtain ⟨c8, i8, hk8⟩ := u_known (C := RX8) (T := TX8) (N := 2) hts (fun w hw => (in_X8 w hw).1) (hts _ z_ins_8)
  obtain ⟨c9, i9, hk9⟩ := u_known (C := RX9) (T := TX9) (N := 13) hts (fun w hw => (in_X9 w hw).1) (hts _ z_ins_9)
  obtain ⟨c10, i10, hk10⟩ := u_known (C := RX10) (T := TX10) (N := 15) hts (fun w hw => (in_X10 w hw).1) (hts _ z_ins_10)
  obtain ⟨c11, i11, hk11⟩ := u_known (C := RX11) (T := TX11) (N := 59) hts (fun w hw => (in_X11 w hw).1) (hts _ z_ins_11)
  obtain ⟨t1, ht1, hT1⟩ := va_Tof (tm := .static "SoleReader" "TERM_MOST" "[I") (ty := .int) (N := 3) (f := fun j => .int ([999, 10, 9].getD j 0)) (A := fun q => s.heap.size ≤ q) (by decide) (nv_0 hgv) (va_eqt (nv_1 hgv)) (fun j hj => by
      match j, hj with
      | 0, _ => exact va_eqt (nv_2 hgv)
      | 1, _ => exact va_eqt (nv_3 hgv)
      | 2, _ => exact va_eqt (nv_4 hgv)
      | j + 3, hj => omega) hA0
  have hZ1 : va_Z "SoleReader" "TERM_MOST" "[I" (.ref t1) (fun q => s.heap.size ≤ q) s s.heap := va_Zof (hts _ z_ls_TERM_MOST) (hts _ z_ini_SR) ht1 hA0
  obtain ⟨t2, ht2, hT2⟩ := va_Tof (tm := .static "SoleReader" "REFUSALS" "[I") (ty := .int) (N := 5) (f := fun j => .int ([1, 2, 3, 5, 6].getD j 0)) (A := fun q => s.heap.size ≤ q) (by decide) (nv_5 hgv) (va_eqt (nv_6 hgv)) (fun j hj => by
      match j, hj with
      | 0, _ => exact va_eqt (nv_7 hgv)
      | 1, _ => exact va_eqt (nv_8 hgv)
      | 2, _ => exact va_eqt (nv_9 hgv)
      | 3, _ => exact va_eqt (nv_10 hgv)
      | 4, _ => exact va_eqt (nv_11 hgv)
      | j + 5, hj => omega) hA0
  have hZ2 : va_Z "SoleReader" "REFUSALS" "[I" (.ref t2) (fun q => s.heap.size ≤ q) s s.heap := va_Zof (hts _ z_ls_REFUSALS) (hts _ z_ini_SR) ht2 hA0
  obtain ⟨t3, ht3, hT3⟩ := va_Tof (tm := .static "SoleReader" "SUMS_OF_VERB" "[I") (ty := .int) (N := 8) (f := fun j => .int ([1, 2, 1, 2, 0, 1, 1, 0].getD j 0)) (A := fun q => s.heap.size ≤ q) (by decide) (nv_12 hgv) (va_eqt (nv_13 hgv)) (fun j hj => by
      match j, hj with
      | 0, _ => exact va_eqt (nv_14 hgv)
      | 1, _ => exact va_eqt (nv_15 hgv)
      | 2, _ => exact va_eqt (nv_16 hgv)
      | 3, _ => exact va_eqt (nv_17 hgv)
      | 4, _ => exact va_eqt (nv_18 hgv)
      | 5, _ => exact va_eqt (nv_19 hgv)
      | 6, _ => exact va_eqt (nv_20 hgv)
      | 7, _ => exact va_eqt (nv_21 hgv)
      | j + 8, hj => omega) hA0
  have hZ3 : va_Z "SoleReader" "SUMS_OF_VERB" "[I" (.ref t3) (fun q => s.heap.size ≤ q) s s.heap := va_Zof (hts _ z_ls_SUMS_OF_VERB) (hts _ z_ini_SR) ht3 hA0
  have hZc : va_Z "java/lang/String" "COMPACT_STRINGS" "Z" (.int 1) (fun q => s.heap.size ≤ q) s s.heap := va_Zof (hts _ z_ls_CS) (hts _ z_ini_St) (va_eqt (nv_22 hgv)) hA0
  obtain ⟨adK, adV, hSt, hStE⟩ := vk_Sof (args := #[Value.ref b]) (s := s) (N := 11) (tm := fun i => .string "SoleReader$Reader" ([101, 103, 162, 164, 118, 119, 124, 129, 151, 149, 137].getD i 0)) (len := z_len) (byt := z_byt) (A := fun q => s.heap.size ≤ q) (by decide) (fun i hi => by
      match i, hi with
      | 0, _ => exact nv_24 hgv
      | 1, _ => exact nv_25 hgv
      | 2, _ => exact nv_26 hgv
      | 3, _ => exact nv_27 hgv
      | 4, _ => exact nv_28 hgv
      | 5, _ => exact nv_29 hgv
      | 6, _ => exact nv_30 hgv
      | 7, _ => exact nv_31 hgv
      | 8, _ => exact nv_32 hgv
      | 9, _ => exact nv_33 hgv
      | 10, _ => exact nv_34 hgv
      | i + 11, hi => omega) (fun i hi => by
      match i, hi with
      | 0, _ => exact nv_35 hgv
      | 1, _ => exact nv_36 hgv
      | 2, _ => exact nv_37 hgv
      | 3, _ => exact nv_38 hgv
      | 4, _ => exact nv_39 hgv
      | 5, _ => exact nv_40 hgv
      | 6, _ => exact nv_41 hgv
      | 7, _ => exact nv_42 hgv
      | 8, _ => exact nv_43 hgv
      | 9, _ => exact nv_44 hgv
      | 10, _ => exact nv_45 hgv
      | i + 11, hi => omega) (fun i hi => by
      match i, hi with
      | 0, _ => exact nv_46 hgv
      | 1, _ => exact nv_47 hgv
      | 2, _ => exact nv_48 hgv
      | 3, _ => exact nv_49 hgv
      | 4, _ => exact nv_50 hgv
      | 5, _ => exact nv_51 hgv
      | 6, _ => exact nv_52 hgv
      | 7, _ => exact nv_53 hgv
      | 8, _ => exact nv_54 hgv
      | 9, _ => exact nv_55 hgv
      | 10, _ => exact nv_56 hgv
      | i + 11, hi => omega) (fun i hi => by
      match i, hi with
      | 0, _ => exact nv_57 hgv
      | 1, _ => exact nv_58 hgv
      | 2, _ => exact nv_59 hgv
      | 3, _ => exact nv_60 hgv
      | 4, _ => exact nv_61 hgv
      | 5, _ => exact nv_62 hgv
      | 6, _ => exact nv_63 hgv
      | 7, _ => exact nv_64 hgv
      | 8, _ => exact nv_65 hgv
      | 9, _ => exact nv_66 hgv
      | 10, _ => exact nv_67 hgv
      | i + 11, hi => omega) (fun i hi => by
      match i, hi with
      | 0, _ =>
        intro j hj
        replace hj : j < 25 := hj
        match j, hj with
        | 0, _ => exact nv_68 hgv
        | 1, _ => exact nv_69 hgv
        | 2, _ => exact nv_70 hgv
        | 3, _ => exact nv_71 hgv
        | 4, _ => exact nv_72 hgv
        | 5, _ => exact nv_73 hgv
        | 6, _ => exact nv_74 hgv
        | 7, _ => exact nv_75 hgv
        | 8, _ => exact nv_76 hgv
        | 9, _ => exact nv_77 hgv
        | 10, _ => exact nv_78 hgv
        | 11, _ => exact nv_79 hgv
        | 12, _ => exact nv_80 hgv
        | 13, _ => exact nv_81 hgv
        | 14, _ => exact nv_82 hgv
        | 15, _ => exact nv_83 hgv
        | 16, _ => exact nv_84 hgv
        | 17, _ => exact nv_85 hgv
        | 18, _ => exact nv_86 hgv
        | 19, _ => exact nv_87 hgv
        | 20, _ => exact nv_88 hgv
        | 21, _ => exact nv_89 hgv
        | 22, _ => exact nv_90 hgv
        | 23, _ => exact nv_91 hgv
        | 24, _ => exact nv_92 hgv
        | j + 25, hj => omega
      | 1, _ =>
        intro j hj
        replace hj : j < 17 := hj
        match j, hj with
        | 0, _ => exact nv_93 hgv
        | 1, _ => exact nv_94 hgv
        | 2, _ => exact nv_95 hgv
        | 3, _ => exact nv_96 hgv
        | 4, _ => exact nv_97 hgv
        | 5, _ => exact nv_98 hgv
        | 6, _ => exact nv_99 hgv
        | 7, _ => exact nv_100 hgv
        | 8, _ => exact nv_101 hgv
        | 9, _ => exact nv_102 hgv
        | 10, _ => exact nv_103 hgv
        | 11, _ => exact nv_104 hgv
        | 12, _ => exact nv_105 hgv
        | 13, _ => exact nv_106 hgv
        | 14, _ => exact nv_107 hgv
        | 15, _ => exact nv_108 hgv
        | 16, _ => exact nv_109 hgv
        | j + 17, hj => omega
      | 2, _ =>
        intro j hj
        replace hj : j < 41 := hj
        match j, hj with
        | 0, _ => exact nv_110 hgv
        | 1, _ => exact nv_111 hgv
        | 2, _ => exact nv_112 hgv
        | 3, _ => exact nv_113 hgv
        | 4, _ => exact nv_114 hgv
        | 5, _ => exact nv_115 hgv
        | 6, _ => exact nv_116 hgv
        | 7, _ => exact nv_117 hgv
        | 8, _ => exact nv_118 hgv
        | 9, _ => exact nv_119 hgv
        | 10, _ => exact nv_120 hgv
        | 11, _ => exact nv_121 hgv
        | 12, _ => exact nv_122 hgv
        | 13, _ => exact nv_123 hgv
        | 14, _ => exact nv_124 hgv
        | 15, _ => exact nv_125 hgv
        | 16, _ => exact nv_126 hgv
        | 17, _ => exact nv_127 hgv
        | 18, _ => exact nv_128 hgv
        | 19, _ => exact nv_129 hgv
        | 20, _ => exact nv_130 hgv
        | 21, _ => exact nv_131 hgv
        | 22, _ => exact nv_132 hgv
        | 23, _ => exact nv_133 hgv
        | 24, _ => exact nv_134 hgv
        | 25, _ => exact nv_135 hgv
        | 26, _ => exact nv_136 hgv
        | 27, _ => exact nv_137 hgv
        | 28, _ => exact nv_138 hgv
        | 29, _ => exact nv_139 hgv
        | 30, _ => exact nv_140 hgv
        | 31, _ => exact nv_141 hgv
        | 32, _ => exact nv_142 hgv
        | 33, _ => exact nv_143 hgv
        | 34, _ => exact nv_144 hgv
        | 35, _ => exact nv_145 hgv
        | 36, _ => exact nv_146 hgv
        | 37, _ => exact nv_147 hgv
        | 38, _ => exact nv_148 hgv
        | 39, _ => exact nv_149 hgv
        | 40, _ => exact nv_150 hgv
        | j + 41, hj => omega
      | 3, _ =>
        intro j hj
        replace hj : j < 36 := hj
        match j, hj with
        | 0, _ => exact nv_151 hgv
        | 1, _ => exact nv_152 hgv
        | 2, _ => exact nv_153 hgv
        | 3, _ => exact nv_154 hgv
        | 4, _ => exact nv_155 hgv
        | 5, _ => exact nv_156 hgv
        | 6, _ => exact nv_157 hgv
        | 7, _ => exact nv_158 hgv
        | 8, _ => exact nv_159 hgv
        | 9, _ => exact nv_160 hgv
        | 10, _ => exact nv_161 hgv
        | 11, _ => exact nv_162 hgv
        | 12, _ => exact nv_163 hgv
        | 13, _ => exact nv_164 hgv
        | 14, _ => exact nv_165 hgv
        | 15, _ => exact nv_166 hgv
        | 16, _ => exact nv_167 hgv
        | 17, _ => exact nv_168 hgv
        | 18, _ => exact nv_169 hgv
        | 19, _ => exact nv_170 hgv
        | 20, _ => exact nv_171 hgv
        | 21, _ => exact nv_172 hgv
        | 22, _ => exact nv_173 hgv
        | 23, _ => exact nv_174 hgv
        | 24, _ => exact nv_175 hgv
        | 25, _ => exact nv_176 hgv
        | 26, _ => exact nv_177 hgv
        | 27, _ => exact nv_178 hgv
        | 28, _ => exact nv_179 hgv
        | 29, _ => exact nv_180 hgv
        | 30, _ => exact nv_181 hgv
        | 31, _ => exact nv_182 hgv
        | 32, _ => exact nv_183 hgv
        | 33, _ => exact nv_184 hgv
        | 34, _ => exact nv_185 hgv
        | 35, _ => exact nv_186 hgv
        | j + 36, hj => omega
      | 4, _ =>
        intro j hj
        replace hj : j < 2 := hj
        match j, hj with
        | 0, _ => exact nv_187 hgv
        | 1, _ => exact nv_188 hgv
        | j + 2, hj => omega
      | 5, _ =>
        intro j hj
        replace hj : j < 2 := hj
        match j, hj with
        | 0, _ => exact nv_189 hgv
        | 1, _ => exact nv_190 hgv
        | j + 2, hj => omega
      | 6, _ =>
        intro j hj
        replace hj : j < 5 := hj
        match j, hj with
        | 0, _ => exact nv_191 hgv
        | 1, _ => exact nv_192 hgv
        | 2, _ => exact nv_193 hgv
        | 3, _ => exact nv_194 hgv
        | 4, _ => exact nv_195 hgv
        | j + 5, hj => omega
      | 7, _ =>
        intro j hj
        replace hj : j < 2 := hj
        match j, hj with
        | 0, _ => exact nv_196 hgv
        | 1, _ => exact nv_197 hgv
        | j + 2, hj => omega
      | 8, _ =>
        intro j hj
        replace hj : j < 3 := hj
        match j, hj with
        | 0, _ => exact nv_198 hgv
        | 1, _ => exact nv_199 hgv
        | 2, _ => exact nv_200 hgv
        | j + 3, hj => omega
      | 9, _ =>
        intro j hj
        replace hj : j < 3 := hj
        match j, hj with
        | 0, _ => exact nv_201 hgv
        | 1, _ => exact nv_202 hgv
        | 2, _ => exact nv_203 hgv
        | j + 3, hj => omega
      | 10, _ =>
        intro j hj
        replace hj : j < 2 := hj
        match j, hj with
        | 0, _ => exact nv_204 hgv
        | 1, _ => exact nv_205 hgv
        | j + 2, hj => omega
      | i + 11, hi => omega) (fun i j hi hj hij => by
      match i, hi with
      | 0, _ =>
        match j, hj with
        | 0, _ => exact absurd rfl hij
        | 1, _ => exact Or.inl (nv_206 hgv)
        | 2, _ => exact Or.inl (nv_207 hgv)
        | 3, _ => exact Or.inl (nv_208 hgv)
        | 4, _ => exact Or.inl (nv_209 hgv)
        | 5, _ => exact Or.inl (nv_210 hgv)
        | 6, _ => exact Or.inl (nv_211 hgv)
        | 7, _ => exact Or.inl (nv_212 hgv)
        | 8, _ => exact Or.inl (nv_213 hgv)
        | 9, _ => exact Or.inl (nv_214 hgv)
        | 10, _ => exact Or.inl (nv_215 hgv)
        | j + 11, hj => omega
      | 1, _ =>
        match j, hj with
        | 0, _ => exact Or.inr (nv_206 hgv)
        | 1, _ => exact absurd rfl hij
        | 2, _ => exact Or.inl (nv_216 hgv)
        | 3, _ => exact Or.inl (nv_217 hgv)
        | 4, _ => exact Or.inl (nv_218 hgv)
        | 5, _ => exact Or.inl (nv_219 hgv)
        | 6, _ => exact Or.inl (nv_220 hgv)
        | 7, _ => exact Or.inl (nv_221 hgv)
        | 8, _ => exact Or.inl (nv_222 hgv)
        | 9, _ => exact Or.inl (nv_223 hgv)
        | 10, _ => exact Or.inl (nv_224 hgv)
        | j + 11, hj => omega
      | 2, _ =>
        match j, hj with
        | 0, _ => exact Or.inr (nv_207 hgv)
        | 1, _ => exact Or.inr (nv_216 hgv)
        | 2, _ => exact absurd rfl hij
        | 3, _ => exact Or.inl (nv_225 hgv)
        | 4, _ => exact Or.inl (nv_226 hgv)
        | 5, _ => exact Or.inl (nv_227 hgv)
        | 6, _ => exact Or.inl (nv_228 hgv)
        | 7, _ => exact Or.inl (nv_229 hgv)
        | 8, _ => exact Or.inl (nv_230 hgv)
        | 9, _ => exact Or.inl (nv_231 hgv)
        | 10, _ => exact Or.inl (nv_232 hgv)
        | j + 11, hj => omega
      | 3, _ =>
        match j, hj with
        | 0, _ => exact Or.inr (nv_208 hgv)
        | 1, _ => exact Or.inr (nv_217 hgv)
        | 2, _ => exact Or.inr (nv_225 hgv)
        | 3, _ => exact absurd rfl hij
        | 4, _ => exact Or.inl (nv_233 hgv)
        | 5, _ => exact Or.inl (nv_234 hgv)
        | 6, _ => exact Or.inl (nv_235 hgv)
        | 7, _ => exact Or.inl (nv_236 hgv)
        | 8, _ => exact Or.inl (nv_237 hgv)
        | 9, _ => exact Or.inl (nv_238 hgv)
        | 10, _ => exact Or.inl (nv_239 hgv)
        | j + 11, hj => omega
      | 4, _ =>
        match j, hj with
        | 0, _ => exact Or.inr (nv_209 hgv)
        | 1, _ => exact Or.inr (nv_218 hgv)
        | 2, _ => exact Or.inr (nv_226 hgv)
        | 3, _ => exact Or.inr (nv_233 hgv)
        | 4, _ => exact absurd rfl hij
        | 5, _ => exact Or.inl (nv_240 hgv)
        | 6, _ => exact Or.inl (nv_241 hgv)
        | 7, _ => exact Or.inl (nv_242 hgv)
        | 8, _ => exact Or.inl (nv_243 hgv)
        | 9, _ => exact Or.inl (nv_244 hgv)
        | 10, _ => exact Or.inl (nv_245 hgv)
        | j + 11, hj => omega
      | 5, _ =>
        match j, hj with
        | 0, _ => exact Or.inr (nv_210 hgv)
        | 1, _ => exact Or.inr (nv_219 hgv)
        | 2, _ => exact Or.inr (nv_227 hgv)
        | 3, _ => exact Or.inr (nv_234 hgv)
        | 4, _ => exact Or.inr (nv_240 hgv)
        | 5, _ => exact absurd rfl hij
        | 6, _ => exact Or.inl (nv_246 hgv)
        | 7, _ => exact Or.inl (nv_247 hgv)
        | 8, _ => exact Or.inl (nv_248 hgv)
        | 9, _ => exact Or.inl (nv_249 hgv)
        | 10, _ => exact Or.inl (nv_250 hgv)
        | j + 11, hj => omega
      | 6, _ =>
        match j, hj with
        | 0, _ => exact Or.inr (nv_211 hgv)
        | 1, _ => exact Or.inr (nv_220 hgv)
        | 2, _ => exact Or.inr (nv_228 hgv)
        | 3, _ => exact Or.inr (nv_235 hgv)
        | 4, _ => exact Or.inr (nv_241 hgv)
        | 5, _ => exact Or.inr (nv_246 hgv)
        | 6, _ => exact absurd rfl hij
        | 7, _ => exact Or.inl (nv_251 hgv)
        | 8, _ => exact Or.inl (nv_252 hgv)
        | 9, _ => exact Or.inl (nv_253 hgv)
        | 10, _ => exact Or.inl (nv_254 hgv)
        | j + 11, hj => omega
      | 7, _ =>
        match j, hj with
        | 0, _ => exact Or.inr (nv_212 hgv)
        | 1, _ => exact Or.inr (nv_221 hgv)
        | 2, _ => exact Or.inr (nv_229 hgv)
        | 3, _ => exact Or.inr (nv_236 hgv)
        | 4, _ => exact Or.inr (nv_242 hgv)
        | 5, _ => exact Or.inr (nv_247 hgv)
        | 6, _ => exact Or.inr (nv_251 hgv)
        | 7, _ => exact absurd rfl hij
        | 8, _ => exact Or.inl (nv_255 hgv)
        | 9, _ => exact Or.inl (nv_256 hgv)
        | 10, _ => exact Or.inl (nv_257 hgv)
        | j + 11, hj => omega
      | 8, _ =>
        match j, hj with
        | 0, _ => exact Or.inr (nv_213 hgv)
        | 1, _ => exact Or.inr (nv_222 hgv)
        | 2, _ => exact Or.inr (nv_230 hgv)
        | 3, _ => exact Or.inr (nv_237 hgv)
        | 4, _ => exact Or.inr (nv_243 hgv)
        | 5, _ => exact Or.inr (nv_248 hgv)
        | 6, _ => exact Or.inr (nv_252 hgv)
        | 7, _ => exact Or.inr (nv_255 hgv)
        | 8, _ => exact absurd rfl hij
        | 9, _ => exact Or.inl (nv_258 hgv)
        | 10, _ => exact Or.inl (nv_259 hgv)
        | j + 11, hj => omega
      | 9, _ =>
        match j, hj with
        | 0, _ => exact Or.inr (nv_214 hgv)
        | 1, _ => exact Or.inr (nv_223 hgv)
        | 2, _ => exact Or.inr (nv_231 hgv)
        | 3, _ => exact Or.inr (nv_238 hgv)
        | 4, _ => exact Or.inr (nv_244 hgv)
        | 5, _ => exact Or.inr (nv_249 hgv)
        | 6, _ => exact Or.inr (nv_253 hgv)
        | 7, _ => exact Or.inr (nv_256 hgv)
        | 8, _ => exact Or.inr (nv_258 hgv)
        | 9, _ => exact absurd rfl hij
        | 10, _ => exact Or.inl (nv_260 hgv)
        | j + 11, hj => omega
      | 10, _ =>
        match j, hj with
        | 0, _ => exact Or.inr (nv_215 hgv)
        | 1, _ => exact Or.inr (nv_224 hgv)
        | 2, _ => exact Or.inr (nv_232 hgv)
        | 3, _ => exact Or.inr (nv_239 hgv)
        | 4, _ => exact Or.inr (nv_245 hgv)
        | 5, _ => exact Or.inr (nv_250 hgv)
        | 6, _ => exact Or.inr (nv_254 hgv)
        | 7, _ => exact Or.inr (nv_257 hgv)
        | 8, _ => exact Or.inr (nv_259 hgv)
        | 9, _ => exact Or.inr (nv_260 hgv)
        | 10, _ => exact absurd rfl hij
        | j + 11, hj => omega
      | i + 11, hi => omega) hA0
  obtain ⟨t30, hZf⟩ : ∃ t30 : Nat, va_Z "jdk/internal/util/Preconditions" "SIOOBE_FORMATTER" "Ljava/util/function/BiFunction;" .null (fun q => s.heap.size ≤ q) s s.heap ∨ va_Z "jdk/internal/util/Preconditions" "SIOOBE_FORMATTER" "Ljava/util/function/BiFunction;" (.ref t30) (fun q => s.heap.size ≤ q) s s.heap := by
    rcases z_isRefT (nv_23 hgv) with hv | ⟨t, hv⟩
    · exact ⟨0, Or.inl (va_Zof (hts _ z_ls_FM) (hts _ z_ini_Pr) hv hA0)⟩
    · exact ⟨t, Or.inr (va_Zof (hts _ z_ls_FM) (hts _ z_ini_Pr) hv hA0)⟩
  obtain ⟨aI, kI, mI, aI1, aI2, aI3⟩ := Cond.arrayClass_spec (hts _ ac_int)
  obtain ⟨aJ, kJ, mJ, aJ1, aJ2, aJ3⟩ := Cond.arrayClass_spec (hts _ ac_long)
  obtain ⟨aZ, kZ, mZ, aZ1, aZ2, aZ3⟩ := Cond.arrayClass_spec (hts _ ac_boolean)
  obtain ⟨mY, aY, kY, aY1, aY2, aY3, aY4, aY5⟩ := Cond.arrayOver_spec (hts _ z_ao9)
  obtain ⟨mT, aT, kT, aT1, aT2, aT3, aT4, aT5⟩ := Cond.arrayOver_spec (hts _ z_ao7)
  refine ⟨((fun k => [c0, c1, c2, c3, c4, c5, c6, c7, c8, c9, c10, c11].getD k c0, fun k => [i0, i1, i2, i3, i4, i5, i6, i7, i8, i9, i10, i11].getD k i0), (fun ty => match ty with
      | .int => aI
      | .long => aJ
      | .boolean => aZ
      | .object C => if C = RX9 then aY else aT
      | _ => 0), (fun k => if k = 0 then b else if k = 1 then t1 else if k = 2 then t2 else if k = 3 then t3 else if k < 15 then adK (k - 4) else if k < 26 then adV (k - 15) else t30), s.heap.size, (L, xs)), rfl, rfl, rfl, ⟨⟨?_, ?_⟩, ?_, ?_, va_AO.of (hts _ z_ao9), va_AO.of (hts _ z_ao7), ?_⟩, ?_, ?_, ?_, hZc, hZf⟩
  · intro k q hq
    match k, hq with
    | 0, hq => cases hq; exact hk0
    | 1, hq => cases hq; exact hk1
    | 2, hq => cases hq; exact hk2
    | 3, hq => cases hq; exact hk3
    | 4, hq => cases hq; exact hk4
    | 5, hq => cases hq; exact hk5
    | 6, hq => cases hq; exact hk6
    | 7, hq => cases hq; exact hk7
    | 8, hq => cases hq; exact hk8
    | 9, hq => cases hq; exact hk9
    | 10, hq => cases hq; exact hk10
    | 11, hq => cases hq; exact hk11
    | k + 12, hq => simp [vwCl] at hq
  · intro k q hq
    match k, hq with
    | 0, hq => cases hq; exact ⟨fun N z => ⟨(fun k h => by cases h), kI, aI2, mI, aI3⟩, aI1⟩
    | 1, hq => cases hq; exact ⟨fun N z => ⟨(fun k h => by cases h), kJ, aJ2, mJ, aJ3⟩, aJ1⟩
    | 2, hq => cases hq; exact ⟨fun N z => ⟨(fun k h => by cases h), kZ, aZ2, mZ, aZ3⟩, aZ1⟩
    | 3, hq => cases hq; exact ⟨fun N z => ⟨(fun k h => by cases h), kY, aY3, mY, aY4⟩, kY, mY, aY3, aY4, aY1, aY5⟩
    | 4, hq => cases hq; exact ⟨fun N z => ⟨(fun k h => by cases h), kT, aT3, mT, aT4⟩, kT, mT, aT3, aT4, aT1, aT5⟩
    | k + 5, hq => simp [z_tys] at hq
  · exact List.forall_mem_cons.mpr ⟨va_Nw.of rfl (hts _ z_nm_X10_29), List.forall_mem_cons.mpr ⟨va_Nw.of rfl (hts _ z_nm_X10_36), List.forall_mem_cons.mpr ⟨va_Nw.of rfl (hts _ z_nm_X10_43), List.forall_mem_cons.mpr ⟨va_Nw.of rfl (hts _ z_nm_X10_84), List.forall_mem_cons.mpr ⟨va_Nw.of rfl (hts _ z_nm_X0_21), List.forall_mem_cons.mpr ⟨va_Nw.of rfl (hts _ z_nm_X0_77), List.forall_mem_cons.mpr ⟨va_Nw.of rfl (hts _ z_nm_X2_20), List.forall_mem_cons.mpr ⟨va_Nw.of rfl (hts _ z_nm_X4_48), fun _ h => absurd h List.not_mem_nil⟩⟩⟩⟩⟩⟩⟩⟩
  · exact List.forall_mem_cons.mpr ⟨va_Nw.of rfl (hts _ z_nf_X0_83), List.forall_mem_cons.mpr ⟨va_Nw.of rfl (hts _ z_nf_X5_112), List.forall_mem_cons.mpr ⟨va_Nw.of rfl (hts _ z_nf_X9_24), fun _ h => absurd h List.not_mem_nil⟩⟩⟩
  · intro i q hq
    match i, hq with
    | 0, hq => cases hq; exact vk_R.of (hts _ z_sr_101) (hStE 0 (by decide))
    | 1, hq => cases hq; exact vk_R.of (hts _ z_sr_103) (hStE 1 (by decide))
    | 2, hq => cases hq; exact vk_R.of (hts _ z_sr_162) (hStE 2 (by decide))
    | 3, hq => cases hq; exact vk_R.of (hts _ z_sr_164) (hStE 3 (by decide))
    | 4, hq => cases hq; exact vk_R.of (hts _ z_sr_118) (hStE 4 (by decide))
    | 5, hq => cases hq; exact vk_R.of (hts _ z_sr_119) (hStE 5 (by decide))
    | 6, hq => cases hq; exact vk_R.of (hts _ z_sr_124) (hStE 6 (by decide))
    | 7, hq => cases hq; exact vk_R.of (hts _ z_sr_129) (hStE 7 (by decide))
    | 8, hq => cases hq; exact vk_R.of (hts _ z_sr_151) (hStE 8 (by decide))
    | 9, hq => cases hq; exact vk_R.of (hts _ z_sr_149) (hStE 9 (by decide))
    | 10, hq => cases hq; exact vk_R.of (hts _ z_sr_137) (hStE 10 (by decide))
    | i + 11, hq => simp [z_sl] at hq
  · intro k q hq
    match k, hq with
    | 0, hq =>
      cases hq
      obtain ⟨scr, x1, x2, x3, x4, x5⟩ := hX
      exact ⟨scr, x1, x2, x3, Nat.le_of_eq x4.symm, by rw [x4], x5, hA0 b hbl⟩
    | 1, hq => cases hq; exact hT1
    | 2, hq => cases hq; exact hT2
    | 3, hq => cases hq; exact hT3
    | k + 4, hq => cases hq
  · exact List.forall_mem_cons.mpr ⟨hZ1, List.forall_mem_cons.mpr ⟨hZ2, List.forall_mem_cons.mpr ⟨hZ3, fun _ h => absurd h List.not_mem_nil⟩⟩⟩
  · refine ⟨fun i hi => ?_, fun i j hi hj e => ?_⟩
    · have e1 : (if 4 + i = 0 then b else if 4 + i = 1 then t1 else if 4 + i = 2 then t2 else if 4 + i = 3 then t3 else if 4 + i < 15 then adK (4 + i - 4) else if 4 + i < 26 then adV (4 + i - 15) else t30) = adK i := by
        rw [if_neg (by omega), if_neg (by omega), if_neg (by omega), if_neg (by omega), if_pos (by omega), Nat.add_sub_cancel_left]
      have e2 : (if 15 + i = 0 then b else if 15 + i = 1 then t1 else if 15 + i = 2 then t2 else if 15 + i = 3 then t3 else if 15 + i < 15 then adK (15 + i - 4) else if 15 + i < 26 then adV (15 + i - 15) else t30) = adV i := by
        rw [if_neg (by omega), if_neg (by omega), if_neg (by omega), if_neg (by omega), if_neg (by omega), if_pos (by omega), Nat.add_sub_cancel_left]
      have := hSt.1 i hi
      simp only [z_xd, e1, e2]
      exact this
    · have e1 : ∀ i : Nat, i < 11 → (if 4 + i = 0 then b else if 4 + i = 1 then t1 else if 4 + i = 2 then t2 else if 4 + i = 3 then t3 else if 4 + i < 15 then adK (4 + i - 4) else if 4 + i < 26 then adV (4 + i - 15) else t30) = adK i := fun i hi => by
        rw [if_neg (by omega), if_neg (by omega), if_neg (by omega), if_neg (by omega), if_pos (by omega), Nat.add_sub_cancel_left]
      simp only [z_xd, e1 i hi, e1 j hj] at e
      exact hSt.2 i j hi hj e
set_option maxRecDepth 100000 in
set_option maxHeartbeats 4000000 in
/-- the law's walk out of what its function answers -/
theorem z_law {p : Program} {e : Env} {s : State} {m : MethodId} {below : List Frame} {meth : Method} {c : Code} (l : Launch) {b L : Nat} {xs : Nat → Int32} (hL : L ≤ 3072) (C0 : lw_At p s m meth c b L xs) (pure : ∀ f : Nat → z_E, ∃ hF : z_H, D_L_law (L, xs) (0, 0, f) = some (1, hF) ∧ hF.1 ≤ 600000 ∧ hF.2.1 ≤ 7302250) : W p l e room_1 s m #[Value.ref b] below meth c s.heap [] 0 0 (lw_Z below #[Value.ref b] s) (entryFrame m ([Value.ref b] : List Value).toArray 4) := by
  obtain ⟨hx, hb, hr, hml, hown, hts, hX, hbl, hlocks, hgv, hnm⟩ := C0
  obtain ⟨G, gB, gS, g0, hwd⟩ := z_world hts hX hbl hgv (by omega)
  obtain ⟨hF, hD, hc, hsl⟩ := pure (fun _ => .inr (0, []))
  have hl := lv_entry ([.ref b]) (n := 4) (by simp [lg_sl, Value.category])
  rw [lg_entry_eq]
  generalize (lg_sl ([.ref b]) ++ List.replicate (4 - (lg_sl ([.ref b])).length) Slot.unset).toArray = ls at hl ⊢
  have hl : lv_has ls 4 (z_tl G [(0, .retAddr 0)]) := by
    have e : z_tl G [(0, .retAddr 0)] = [(0, .ref b)] := by simp [z_tl, z_t, g0]
    rw [e]; exact hl
  have run := S_L_law (G := G) (l := l) (h := (0, 0, fun _ => .inr (0, []))) (res := (1, hF)) (by rw [gS]; exact hD)
  have C : z_ctx G (100) M_L_law 0 0 hF p room_1 s m #[Value.ref b] meth c :=
    ⟨hx, hb, hr, hml, hown, fun w hw _ => hts w hw, hlocks, hnm, hwd, by rw [gB]; rfl, by decide, by show hF.1 - 0 ≤ 600000; omega, by show hF.2.1 - 0 ≤ 7302250; omega, by decide⟩
  have key := run.2 0 0 p e room_1 s m #[Value.ref b] below meth c C (Nat.le_refl _) (Nat.le_refl _) s.heap [] ls (fun k q h => by simp [z_W] at h) va_S.rf hl
  intro T hT X
  obtain ⟨t, st, o, q1, q2, q3, Lc, q4, q5⟩ := key T hT X
  refine ⟨t, st, o, q1, q2, ?_, z_forget q4 (fun q hq => by have := q5 q hq; rw [← gB]; exact this) (by omega) (by omega)⟩
  exact q3.1
