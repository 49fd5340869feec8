theorem dJ0_length_8abf5_0 : decode cJ0_length_8abf5 0 = .ok (.aload_n 0, 1) := by decide +kernel
theorem dJ0_length_8abf5_1 : decode cJ0_length_8abf5 1 = .ok (.getfield 9, 3) := by decide +kernel
theorem dJ0_length_8abf5_4 : decode cJ0_length_8abf5 4 = .ok (.arraylength, 1) := by decide +kernel
theorem dJ0_length_8abf5_5 : decode cJ0_length_8abf5 5 = .ok (.aload_n 0, 1) := by decide +kernel
theorem dJ0_length_8abf5_6 : decode cJ0_length_8abf5 6 = .ok (.invokevirtual 335, 3) := by decide +kernel
theorem dJ0_length_8abf5_9 : decode cJ0_length_8abf5 9 = .ok (.ishr, 1) := by decide +kernel
theorem dJ0_length_8abf5_10 : decode cJ0_length_8abf5 10 = .ok (.ireturn, 1) := by decide +kernel
theorem dJ0_charAt_5068e_0 : decode cJ0_charAt_5068e 0 = .ok (.aload_n 0, 1) := by decide +kernel
theorem dJ0_charAt_5068e_1 : decode cJ0_charAt_5068e 1 = .ok (.invokevirtual 492, 3) := by decide +kernel
theorem dJ0_charAt_5068e_4 : decode cJ0_charAt_5068e 4 = .ok (.ifCond .eq 12, 3) := by decide +kernel
theorem dJ0_charAt_5068e_7 : decode cJ0_charAt_5068e 7 = .ok (.aload_n 0, 1) := by decide +kernel
theorem dJ0_charAt_5068e_8 : decode cJ0_charAt_5068e 8 = .ok (.getfield 9, 3) := by decide +kernel
theorem dJ0_charAt_5068e_11 : decode cJ0_charAt_5068e 11 = .ok (.iload_n 1, 1) := by decide +kernel
theorem dJ0_charAt_5068e_12 : decode cJ0_charAt_5068e 12 = .ok (.invokestatic 495, 3) := by decide +kernel
theorem dJ0_charAt_5068e_15 : decode cJ0_charAt_5068e 15 = .ok (.ireturn, 1) := by decide +kernel
theorem dJ0_charAt_5068e_16 : decode cJ0_charAt_5068e 16 = .ok (.aload_n 0, 1) := by decide +kernel
theorem dJ0_charAt_5068e_17 : decode cJ0_charAt_5068e 17 = .ok (.getfield 9, 3) := by decide +kernel
theorem dJ0_charAt_5068e_20 : decode cJ0_charAt_5068e 20 = .ok (.iload_n 1, 1) := by decide +kernel
theorem dJ0_charAt_5068e_21 : decode cJ0_charAt_5068e 21 = .ok (.invokestatic 498, 3) := by decide +kernel
theorem dJ0_charAt_5068e_24 : decode cJ0_charAt_5068e 24 = .ok (.ireturn, 1) := by decide +kernel
theorem dJ0_coder_7d493_0 : decode cJ0_coder_7d493 0 = .ok (.getstatic 38, 3) := by decide +kernel
theorem dJ0_coder_7d493_3 : decode cJ0_coder_7d493 3 = .ok (.ifCond .eq 10, 3) := by decide +kernel
theorem dJ0_coder_7d493_6 : decode cJ0_coder_7d493 6 = .ok (.aload_n 0, 1) := by decide +kernel
theorem dJ0_coder_7d493_7 : decode cJ0_coder_7d493 7 = .ok (.getfield 15, 3) := by decide +kernel
theorem dJ0_coder_7d493_10 : decode cJ0_coder_7d493 10 = .ok (.goto 4, 3) := by decide +kernel
theorem dJ0_coder_7d493_13 : decode cJ0_coder_7d493 13 = .ok (.iconst 1, 1) := by decide +kernel
theorem dJ0_coder_7d493_14 : decode cJ0_coder_7d493 14 = .ok (.ireturn, 1) := by decide +kernel
theorem dJ0_isLatin1_aae02_0 : decode cJ0_isLatin1_aae02 0 = .ok (.getstatic 38, 3) := by decide +kernel
theorem dJ0_isLatin1_aae02_3 : decode cJ0_isLatin1_aae02 3 = .ok (.ifCond .eq 14, 3) := by decide +kernel
theorem dJ0_isLatin1_aae02_6 : decode cJ0_isLatin1_aae02 6 = .ok (.aload_n 0, 1) := by decide +kernel
theorem dJ0_isLatin1_aae02_7 : decode cJ0_isLatin1_aae02 7 = .ok (.getfield 15, 3) := by decide +kernel
theorem dJ0_isLatin1_aae02_10 : decode cJ0_isLatin1_aae02 10 = .ok (.ifCond .ne 7, 3) := by decide +kernel
theorem dJ0_isLatin1_aae02_13 : decode cJ0_isLatin1_aae02 13 = .ok (.iconst 1, 1) := by decide +kernel
theorem dJ0_isLatin1_aae02_14 : decode cJ0_isLatin1_aae02 14 = .ok (.goto 4, 3) := by decide +kernel
theorem dJ0_isLatin1_aae02_17 : decode cJ0_isLatin1_aae02 17 = .ok (.iconst 0, 1) := by decide +kernel
theorem dJ0_isLatin1_aae02_18 : decode cJ0_isLatin1_aae02 18 = .ok (.ireturn, 1) := by decide +kernel
theorem dJ0_checkIndex_df160_0 : decode cJ0_checkIndex_df160 0 = .ok (.iload_n 0, 1) := by decide +kernel
theorem dJ0_checkIndex_df160_1 : decode cJ0_checkIndex_df160 1 = .ok (.iload_n 1, 1) := by decide +kernel
theorem dJ0_checkIndex_df160_2 : decode cJ0_checkIndex_df160 2 = .ok (.getstatic 1053, 3) := by decide +kernel
theorem dJ0_checkIndex_df160_5 : decode cJ0_checkIndex_df160 5 = .ok (.invokestatic 1059, 3) := by decide +kernel
theorem dJ0_checkIndex_df160_8 : decode cJ0_checkIndex_df160 8 = .ok (.pop, 1) := by decide +kernel
theorem dJ0_checkIndex_df160_9 : decode cJ0_checkIndex_df160 9 = .ok (.return_, 1) := by decide +kernel
theorem dJ1_charAt_3b067_0 : decode cJ1_charAt_3b067 0 = .ok (.iload_n 1, 1) := by decide +kernel
theorem dJ1_charAt_3b067_1 : decode cJ1_charAt_3b067 1 = .ok (.aload_n 0, 1) := by decide +kernel
theorem dJ1_charAt_3b067_2 : decode cJ1_charAt_3b067 2 = .ok (.arraylength, 1) := by decide +kernel
theorem dJ1_charAt_3b067_3 : decode cJ1_charAt_3b067 3 = .ok (.invokestatic 9, 3) := by decide +kernel
theorem dJ1_charAt_3b067_6 : decode cJ1_charAt_3b067 6 = .ok (.aload_n 0, 1) := by decide +kernel
theorem dJ1_charAt_3b067_7 : decode cJ1_charAt_3b067 7 = .ok (.iload_n 1, 1) := by decide +kernel
theorem dJ1_charAt_3b067_8 : decode cJ1_charAt_3b067 8 = .ok (.baload, 1) := by decide +kernel
theorem dJ1_charAt_3b067_9 : decode cJ1_charAt_3b067 9 = .ok (.sipush 255, 3) := by decide +kernel
theorem dJ1_charAt_3b067_12 : decode cJ1_charAt_3b067 12 = .ok (.iand, 1) := by decide +kernel
theorem dJ1_charAt_3b067_13 : decode cJ1_charAt_3b067 13 = .ok (.i2c, 1) := by decide +kernel
theorem dJ1_charAt_3b067_14 : decode cJ1_charAt_3b067 14 = .ok (.ireturn, 1) := by decide +kernel
theorem dJ3_checkIndex_8e157_0 : decode cJ3_checkIndex_8e157 0 = .ok (.iload_n 0, 1) := by decide +kernel
theorem dJ3_checkIndex_8e157_1 : decode cJ3_checkIndex_8e157 1 = .ok (.ifCond .lt 8, 3) := by decide +kernel
theorem dJ3_checkIndex_8e157_4 : decode cJ3_checkIndex_8e157 4 = .ok (.iload_n 0, 1) := by decide +kernel
theorem dJ3_checkIndex_8e157_5 : decode cJ3_checkIndex_8e157 5 = .ok (.iload_n 1, 1) := by decide +kernel
theorem dJ3_checkIndex_8e157_6 : decode cJ3_checkIndex_8e157 6 = .ok (.if_icmp .lt 10, 3) := by decide +kernel
theorem dJ3_checkIndex_8e157_9 : decode cJ3_checkIndex_8e157 9 = .ok (.aload_n 2, 1) := by decide +kernel
theorem dJ3_checkIndex_8e157_10 : decode cJ3_checkIndex_8e157 10 = .ok (.iload_n 0, 1) := by decide +kernel
theorem dJ3_checkIndex_8e157_11 : decode cJ3_checkIndex_8e157 11 = .ok (.iload_n 1, 1) := by decide +kernel
theorem dJ3_checkIndex_8e157_12 : decode cJ3_checkIndex_8e157 12 = .ok (.invokestatic 95, 3) := by decide +kernel
theorem dJ3_checkIndex_8e157_15 : decode cJ3_checkIndex_8e157 15 = .ok (.athrow, 1) := by decide +kernel
theorem dJ3_checkIndex_8e157_16 : decode cJ3_checkIndex_8e157 16 = .ok (.iload_n 0, 1) := by decide +kernel
theorem dJ3_checkIndex_8e157_17 : decode cJ3_checkIndex_8e157 17 = .ok (.ireturn, 1) := by decide +kernel
section ZS
variable {G : z_G} {l : Launch} {d : Nat} {M : z_M} {pc : Nat} {L : List (Nat × Value)} {S : List Value} {h hF : z_H} {r : Option Value}
theorem z_xval {index i : Nat} (hi : i < 11) (hw : Cond.fieldLink M.1.cls index "java/lang/String" "value" "[B" ∈ lw_tbl) (hd : decode M.2.1 pc = .ok (.getfield index, 3)) (kk : z_Run G l d M (pc + 3) L (.retAddr (15 + i) :: S) h hF r) : z_Run G l d M pc L (.retAddr (4 + i) :: S) h hF r :=
  ⟨kk.1, fun n0 s0 p e R s m args below meth c X hn hs H locs ls hh hS hL => vk_getf X.1 X.2.1 ((X.2.2.2.2.2.2.2.2.1.2.2.2.1.1 i hi).2.2.1) hS X.2.2.2.2.1 (X.2.2.2.2.2.1 _ hw rfl) (fun _ q => q) hd (kk.2 n0 s0 p e R s m args below meth c X hn hs H locs ls hh hS hL)⟩
theorem z_xcod {index i : Nat} (hi : i < 11) (hw : Cond.fieldLink M.1.cls index "java/lang/String" "coder" "B" ∈ lw_tbl) (hd : decode M.2.1 pc = .ok (.getfield index, 3)) (kk : z_Run G l d M (pc + 3) L (.int 0 :: S) h hF r) : z_Run G l d M pc L (.retAddr (4 + i) :: S) h hF r :=
  ⟨kk.1, fun n0 s0 p e R s m args below meth c X hn hs H locs ls hh hS hL => vk_getf X.1 X.2.1 ((X.2.2.2.2.2.2.2.2.1.2.2.2.1.1 i hi).2.1) hS X.2.2.2.2.1 (X.2.2.2.2.2.1 _ hw rfl) (fun _ q => q) hd (kk.2 n0 s0 p e R s m args below meth c X hn hs H locs ls hh hS hL)⟩
theorem z_xbl {i : Nat} (hi : i < 11) (hd : decode M.2.1 pc = .ok (.arraylength, 1)) (kk : z_Run G l d M (pc + 1) L (.int (Int32.ofNat (z_len.getD i 0)) :: S) h hF r) : z_Run G l d M pc L (.retAddr (15 + i) :: S) h hF r := by
  refine ⟨kk.1, fun n0 s0 p e R s m args below meth c X hn hs H locs ls hh hS hL => ?_⟩
  obtain ⟨cell, c1, c2, c3, c4, c5, c6, c7⟩ := ((X.2.2.2.2.2.2.2.2.1.2.2.2.1.1 i hi).2.2.2).kept hS.2.1
  exact W.alen X.1 X.2.1 c1 c2 c5 rfl rfl hd (kk.2 n0 s0 p e R s m args below meth c X hn hs H locs ls hh hS hL)
theorem z_xba {i : Nat} {j : Int32} (hi : i < 11) (hj0 : ¬ j < 0) (hj : j.toNatClampNeg < z_len.getD i 0) (hd : decode M.2.1 pc = .ok (.baload, 1)) (kk : z_Run G l d M (pc + 1) L (.int ((z_byt.getD i []).getD j.toNatClampNeg 0) :: S) h hF r) : z_Run G l d M pc L (.int j :: .retAddr (15 + i) :: S) h hF r := by
  refine ⟨kk.1, fun n0 s0 p e R s m args below meth c X hn hs H locs ls hh hS hL => ?_⟩
  obtain ⟨cell, c1, c2, c3, c4, c5, c6, c7⟩ := ((X.2.2.2.2.2.2.2.2.1.2.2.2.1.1 i hi).2.2.2).kept hS.2.1
  exact W.bald X.1 X.2.1 c1 c2 c3 (fun q => q.elim hj0 (fun q => by omega)) (c6 _ hj) rfl rfl hd (kk.2 n0 s0 p e R s m args below meth c X hn hs H locs ls hh hS hL)
theorem z_gcs {index : Nat} (hw : Cond.fieldLink M.1.cls index "java/lang/String" "COMPACT_STRINGS" "Z" ∈ lw_tbl) (hd : decode M.2.1 pc = .ok (.getstatic index, 3)) (kk : z_Run G l d M (pc + 3) L (.int 1 :: S) h hF r) : z_Run G l d M pc L S h hF r :=
  ⟨kk.1, fun n0 s0 p e R s m args below meth c X hn hs H locs ls hh hS hL => va_gets X.1 X.2.1 (X.2.2.2.2.2.2.2.2.1.2.2.2.2.1) hS X.2.2.2.2.1 (X.2.2.2.2.2.1 _ hw rfl) (fun _ q => q) hd (kk.2 n0 s0 p e R s m args below meth c X hn hs H locs ls hh hS hL)⟩
theorem z_gfm {index : Nat} (hw : Cond.fieldLink M.1.cls index "jdk/internal/util/Preconditions" "SIOOBE_FORMATTER" "Ljava/util/function/BiFunction;" ∈ lw_tbl) (hd : decode M.2.1 pc = .ok (.getstatic index, 3)) (kk : ∀ v : Value, v = .null ∨ v = .retAddr 30 → z_Run G l d M (pc + 3) L (v :: S) h hF r) : z_Run G l d M pc L S h hF r := by
  refine ⟨(kk .null (Or.inl rfl)).1, fun n0 s0 p e R s m args below meth c X hn hs H locs ls hh hS hL => ?_⟩
  rcases X.2.2.2.2.2.2.2.2.1.2.2.2.2.2 with hz | hz
  · exact va_gets X.1 X.2.1 hz hS X.2.2.2.2.1 (X.2.2.2.2.2.1 _ hw rfl) (fun _ q => q) hd ((kk .null (Or.inl rfl)).2 n0 s0 p e R s m args below meth c X hn hs H locs ls hh hS hL)
  · exact va_gets X.1 X.2.1 hz hS X.2.2.2.2.1 (X.2.2.2.2.2.1 _ hw rfl) (fun _ q => q) hd ((kk (.retAddr 30) (Or.inr rfl)).2 n0 s0 p e R s m args below meth c X hn hs H locs ls hh hS hL)
/-- a call on a text -/
theorem z_cX {d' : Nat} {M' : z_M} {index n i : Nat} {h1 : z_H} {r1 : Option Value} {St : List Value} (vs : List Value) (hM : z_Meth G l d' M' (.retAddr i :: vs) h h1 r1) (hi : 4 ≤ i ∧ i < 15) (hlk : Cond.methodLink M.1.cls index M'.1 ∈ lw_tbl) (ck : z_ck M' n) (hst : Cond.instanceMethod M'.1 ∈ lw_tbl ∧ Cond.selects M'.1.cls M'.1 M'.1 ∈ lw_tbl) (hc : M'.1.cls = "java/lang/String") (hd : decode M.2.1 pc = .ok (.invokevirtual index, 3)) (hdd : d' + 1 ≤ d) (hn9 : vs.length = n) (hS0 : (S.map Value.category).sum ≤ 8) (hSt : St = vs.reverse ++ (.retAddr i :: S)) (kk : z_Run G l d M (pc + 3) L (r1.toList ++ S) h1 hF r) : z_Run G l d M pc L St h hF r := by
  have m1 := hM.1
  have m2 := kk.1
  subst hSt
  obtain ⟨j, rfl⟩ : ∃ j, i = 4 + j := ⟨i - 4, by omega⟩
  refine ⟨⟨by omega, by omega⟩, fun n0 s0 p e R s m args below meth c X hn hs H locs ls hh hS hL => ?_⟩
  have hsz := X.2.2.2.2.2.2.2.2.2.1
  have hzL := z_szL X hh hS
  have c1 := X.2.2.2.2.2.2.2.2.2.2.2.1
  have c2 := X.2.2.2.2.2.2.2.2.2.2.2.2.1
  refine z_szW (fun hz => ?_)
  have hHs : H.size = z_B G + h.1 := by omega
  refine z_after (va_runV (C := M'.1.cls) (As := vs.map (z_t G)) (rest := S.map (z_t G)) (b := z_xd G (4 + j)) ⟨X.1, X.2.1, X.2.2.2.1, X.2.2.2.2.1, z_goodw X⟩ hM.2 ⟨z_callB X hlk ck.1 ck.2.1 ck.2.2.1 ck.2.2.2.1 hdd, X.2.2.2.2.2.1 _ hst.1 rfl, X.2.2.2.2.2.1 _ hst.2 rfl⟩ ⟨z_preB, by rw [hc]; exact vk_recv (X.2.2.2.2.2.2.2.2.1.2.2.2.1) (i := j) (by omega) hS, fun U hU hW => ⟨rfl, z_wd.go X.2.2.2.2.2.2.2.2.1 hS hU hW, by rw [hU]; exact hHs, by rw [hU]; exact hh⟩⟩ rfl (by rw [List.length_map]; exact hn9) hL.1 (by show (vs.reverse ++ (.retAddr (4 + j) :: S)).map (z_t G) = _; rw [List.map_append, List.map_reverse]; rfl) (by show 2 * 0 + _ ≤ 8; rw [z_cats]; omega) hd ⟨by omega, by omega⟩) hS ?_
  intro H1 locs1 hP1 hS1
  have e1 : h.1 - n0 + (h1.1 - h.1) = h1.1 - n0 := by omega
  have e2 : h.2.1 - s0 + (h1.2.1 - h.2.1) = h1.2.1 - s0 := by omega
  rw [e1, e2]
  have e3 : (r1.map (z_t G)).toList ++ S.map (z_t G) = (r1.toList ++ S).map (z_t G) := by cases r1 <;> rfl
  rw [e3]
  exact kk.2 n0 s0 p e R s m args below meth c X (by omega) (by omega) H1 locs1 ls hP1 hS1 hL
end ZS
section ZT
variable {G : z_G} {l : Launch} {h : z_H}
theorem S_J0_coder {i : Nat} (hi : i < 11) : z_Meth G l 4 M_J0_coder_7d493 [.retAddr (4 + i)] h h (some (.int 0)) := by
  refine z_Meth.of ck_J0_coder_7d493.2.2.2.2 (by simp [lg_sl, z_cx]) ck_J0_coder_7d493.1 ?_
  rw [show lv_args 0 [.retAddr (4 + i)] = [(0, .retAddr (4 + i))] from rfl]
  refine z_gcs z_sf_38 dJ0_coder_7d493_0 ?_
  refine z_if_eq (tgt := 13) dJ0_coder_7d493_3 (by decide) (fun c => absurd c (by decide)) (fun _ => ?_)
  refine z_xload_n 0 dJ0_coder_7d493_6 rfl ?_
  refine z_xcod hi z_sf_15 dJ0_coder_7d493_7 ?_
  refine z_goto (tgt := 14) dJ0_coder_7d493_10 (by decide) ?_
  exact z_zret dJ0_coder_7d493_14 rfl (by decide)
theorem S_J0_isLatin1 {i : Nat} (hi : i < 11) : z_Meth G l 4 M_J0_isLatin1_aae02 [.retAddr (4 + i)] h h (some (.int 1)) := by
  refine z_Meth.of ck_J0_isLatin1_aae02.2.2.2.2 (by simp [lg_sl, z_cx]) ck_J0_isLatin1_aae02.1 ?_
  rw [show lv_args 0 [.retAddr (4 + i)] = [(0, .retAddr (4 + i))] from rfl]
  refine z_gcs z_sf_38 dJ0_isLatin1_aae02_0 ?_
  refine z_if_eq (tgt := 17) dJ0_isLatin1_aae02_3 (by decide) (fun c => absurd c (by decide)) (fun _ => ?_)
  refine z_xload_n 0 dJ0_isLatin1_aae02_6 rfl ?_
  refine z_xcod hi z_sf_15 dJ0_isLatin1_aae02_7 ?_
  refine z_if_ne (tgt := 17) dJ0_isLatin1_aae02_10 (by decide) (fun c => absurd rfl c) (fun _ => ?_)
  refine z_iconst (v := 1) dJ0_isLatin1_aae02_13 (by decide) ?_
  refine z_goto (tgt := 18) dJ0_isLatin1_aae02_14 (by decide) ?_
  exact z_zret dJ0_isLatin1_aae02_18 rfl (by decide)
theorem S_J3_check {j n : Int32} {v : Value} (hv : v.category = 1) (h0 : ¬ j < 0) (h1 : j < n) : z_Meth G l 4 M_J3_checkIndex_8e157 [.int j, .int n, v] h h (some (.int j)) := by
  refine z_Meth.of ck_J3_checkIndex_8e157.2.2.2.2 (by simp [lg_sl, z_ci, hv]) ck_J3_checkIndex_8e157.1 ?_
  rw [show lv_args 0 [.int j, .int n, v] = [(0, .int j), (1, .int n), (2, v)] from rfl]
  refine z_iload_n 0 dJ3_checkIndex_8e157_0 rfl ?_
  refine z_if_lt (tgt := 9) dJ3_checkIndex_8e157_1 (by decide) (fun c => absurd c h0) (fun _ => ?_)
  refine z_iload_n 0 dJ3_checkIndex_8e157_4 rfl ?_
  refine z_iload_n 1 dJ3_checkIndex_8e157_5 rfl ?_
  refine z_icmp_lt (tgt := 16) dJ3_checkIndex_8e157_6 (by decide) (fun _ => ?_) (fun c => absurd h1 c)
  refine z_iload_n 0 dJ3_checkIndex_8e157_16 rfl ?_
  exact z_iret dJ3_checkIndex_8e157_17 rfl
theorem S_J0_check {j n : Int32} (h0 : ¬ j < 0) (h1 : j < n) : z_Meth G l 5 M_J0_checkIndex_df160 [.int j, .int n] h h none := by
  refine z_Meth.of ck_J0_checkIndex_df160.2.2.2.2 (by simp [lg_sl, z_ci]) ck_J0_checkIndex_df160.1 ?_
  rw [show lv_args 0 [.int j, .int n] = [(0, .int j), (1, .int n)] from rfl]
  refine z_iload_n 0 dJ0_checkIndex_df160_0 rfl ?_
  refine z_iload_n 1 dJ0_checkIndex_df160_1 rfl ?_
  refine z_gfm z_sf_1053 dJ0_checkIndex_df160_2 (fun v hv => ?_)
  have hcat : v.category = 1 := by rcases hv with rfl | rfl <;> rfl
  refine z_cS [.int j, .int n, v] (S_J3_check hcat h0 h1) ml_J0_1059 ck_J3_checkIndex_8e157 st_J3_checkIndex_8e157 dJ0_checkIndex_df160_5 (by decide) rfl (Nat.zero_le _) rfl ?_
  refine z_pop dJ0_checkIndex_df160_8 rfl ?_
  exact z_vret dJ0_checkIndex_df160_9 rfl
theorem z_bytes : ∀ i, i < 11 → ∀ j, j < z_len.getD i 0 → ((((z_byt.getD i []).getD j 0 &&& 255).toUInt32 % 65536).toInt32 = (z_byt.getD i []).getD j 0) ∧ narrow .char (.int ((z_byt.getD i []).getD j 0)) = .int ((z_byt.getD i []).getD j 0) := by decide +kernel
theorem S_J1_charAt {i : Nat} {j : Int32} (hi : i < 11) (h0 : ¬ j < 0) (hj : j.toNatClampNeg < z_len.getD i 0) (hlt : j < Int32.ofNat (z_len.getD i 0)) : z_Meth G l 6 M_J1_charAt_3b067 [.retAddr (15 + i), .int j] h h (some (.int ((z_byt.getD i []).getD j.toNatClampNeg 0))) := by
  refine z_Meth.of ck_J1_charAt_3b067.2.2.2.2 (by simp [lg_sl, z_ci, z_cx]) ck_J1_charAt_3b067.1 ?_
  rw [show lv_args 0 [.retAddr (15 + i), .int j] = [(0, .retAddr (15 + i)), (1, .int j)] from rfl]
  refine z_iload_n 1 dJ1_charAt_3b067_0 rfl ?_
  refine z_xload_n 0 dJ1_charAt_3b067_1 rfl ?_
  refine z_xbl hi dJ1_charAt_3b067_2 ?_
  refine z_cS [.int j, .int (Int32.ofNat (z_len.getD i 0))] (S_J0_check h0 hlt) ml_J1_9 ck_J0_checkIndex_df160 st_J0_checkIndex_df160 dJ1_charAt_3b067_3 (by decide) rfl (Nat.zero_le _) rfl ?_
  refine z_xload_n 0 dJ1_charAt_3b067_6 rfl ?_
  refine z_iload_n 1 dJ1_charAt_3b067_7 rfl ?_
  refine z_xba hi h0 hj dJ1_charAt_3b067_8 ?_
  refine z_sipush (v := 255) dJ1_charAt_3b067_9 (by decide) ?_
  refine z_iand dJ1_charAt_3b067_12 ?_
  refine z_i2c dJ1_charAt_3b067_13 (z_bytes i hi _ hj).1 ?_
  exact z_zret dJ1_charAt_3b067_14 rfl (z_bytes i hi _ hj).2
def D_J0_length_8abf5 (h : z_H) (x : Nat) : Option (Int32 × z_H) := if 4 ≤ x ∧ x < 15 then some (Int32.ofNat (z_len.getD (x - 4) 0), h) else none
def D_J0_charAt_5068e (h : z_H) (x : Nat) (j : Int32) : Option (Int32 × z_H) := if (4 ≤ x ∧ x < 15) ∧ ¬ j < 0 ∧ j.toNatClampNeg < z_len.getD (x - 4) 0 ∧ j < Int32.ofNat (z_len.getD (x - 4) 0) then some ((z_byt.getD (x - 4) []).getD j.toNatClampNeg 0, h) else none
theorem z_shr0 (x : Int32) : x >>> ((0 : Int32) &&& 31) = x := by
  apply Int32.toBitVec_inj.mp
  simp
theorem S_J0_length_8abf5 {x : Nat} {res : Int32 × z_H} (e : D_J0_length_8abf5 h x = some res) : z_Meth G l 8 M_J0_length_8abf5 [.retAddr x] h res.2 (some (.int res.1)) := by
  obtain ⟨hx, e⟩ := z_ifs e
  cases e
  obtain ⟨i, rfl⟩ : ∃ i, x = 4 + i := ⟨x - 4, by omega⟩
  have hi : i < 11 := by omega
  rw [Nat.add_sub_cancel_left]
  refine z_Meth.of ck_J0_length_8abf5.2.2.2.2 (by simp [lg_sl, z_cx]) ck_J0_length_8abf5.1 ?_
  rw [show lv_args 0 [.retAddr (4 + i)] = [(0, .retAddr (4 + i))] from rfl]
  refine z_xload_n 0 dJ0_length_8abf5_0 rfl ?_
  refine z_xval hi z_sf_9 dJ0_length_8abf5_1 ?_
  refine z_xbl hi dJ0_length_8abf5_4 ?_
  refine z_xload_n 0 dJ0_length_8abf5_5 rfl ?_
  refine z_cX [] (S_J0_coder hi) ⟨by omega, by omega⟩ ml_J0_335 ck_J0_coder_7d493 vk_J0_coder_7d493 rfl dJ0_length_8abf5_6 (by decide) rfl (by simp [z_ci]) rfl ?_
  refine z_ishr dJ0_length_8abf5_9 ?_
  rw [z_shr0]
  exact z_iret dJ0_length_8abf5_10 rfl
theorem S_J0_charAt_5068e {x : Nat} {j : Int32} {res : Int32 × z_H} (e : D_J0_charAt_5068e h x j = some res) : z_Meth G l 8 M_J0_charAt_5068e [.retAddr x, .int j] h res.2 (some (.int res.1)) := by
  obtain ⟨⟨hx, h0, hj, hlt⟩, e⟩ := z_ifs e
  cases e
  obtain ⟨i, rfl⟩ : ∃ i, x = 4 + i := ⟨x - 4, by omega⟩
  have hi : i < 11 := by omega
  rw [Nat.add_sub_cancel_left] at hj hlt ⊢
  refine z_Meth.of ck_J0_charAt_5068e.2.2.2.2 (by simp [lg_sl, z_cx, z_ci]) ck_J0_charAt_5068e.1 ?_
  rw [show lv_args 0 [.retAddr (4 + i), .int j] = [(0, .retAddr (4 + i)), (1, .int j)] from rfl]
  refine z_xload_n 0 dJ0_charAt_5068e_0 rfl ?_
  refine z_cX [] (S_J0_isLatin1 hi) ⟨by omega, by omega⟩ ml_J0_492 ck_J0_isLatin1_aae02 vk_J0_isLatin1_aae02 rfl dJ0_charAt_5068e_1 (by decide) rfl (Nat.zero_le _) rfl ?_
  refine z_if_eq (tgt := 16) dJ0_charAt_5068e_4 (by decide) (fun c => absurd c (by decide)) (fun _ => ?_)
  refine z_xload_n 0 dJ0_charAt_5068e_7 rfl ?_
  refine z_xval hi z_sf_9 dJ0_charAt_5068e_8 ?_
  refine z_iload_n 1 dJ0_charAt_5068e_11 rfl ?_
  refine z_cS [.retAddr (15 + i), .int j] (S_J1_charAt hi h0 hj hlt) ml_J0_495 ck_J1_charAt_3b067 st_J1_charAt_3b067 dJ0_charAt_5068e_12 (by decide) rfl (Nat.zero_le _) rfl ?_
  exact z_zret dJ0_charAt_5068e_15 rfl (z_bytes i hi _ hj).2
end ZT
theorem z_x_J0_length_8abf5 {h : z_H} {x : Nat} {res : Int32 × z_H} (e : D_J0_length_8abf5 h x = some res) : 4 ≤ x ∧ x < 15 := (z_ifs e).1
theorem z_x_J0_charAt_5068e {h : z_H} {x : Nat} {j : Int32} {res : Int32 × z_H} (e : D_J0_charAt_5068e h x j = some res) : 4 ≤ x ∧ x < 15 := (z_ifs e).1.1
