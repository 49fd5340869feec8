/-! row: many pairs at once -/
section RW
variable {g : z_H} {m : Nat → Int32} {j : Nat} {h : z_H}
theorem rowP_o {n i : Nat} {c w l : Int32} (h0 : i ≠ 0) (h1 : i ≠ 8 + n) (h2 : i ≠ 14 + n) (h3 : i ≠ 44 + n) (h4 : i < 20 + 4 * n ∨ 24 + 4 * n ≤ i) : rowP m n c w l i = m i := by
  unfold rowP
  rw [upd_ne h0, z4_out (by omega), upd_ne h3, upd_ne h2, upd_ne h1]
theorem Yrel_pair (hs : Sh g) (Y : Yrel g 1 m) {n : Nat} (hn : n < 6) {c w l : Int32} (ok : okP c w l) (e8 : fI g 1 8 = Int32.ofNat n) : Yrel (pairC g n c w l) 1 (rowP m n c w l) := by
  obtain ⟨p2, p3, p4, p5, p8, pA, pF⟩ := pair_reads hs n c w l
  have T := pair_T (h := g) n c w l
  have pQ : ∀ a, aQ (pairC g n c w l) a = aQ g a := fun a => by
    unfold pairC
    rw [aQ_wF, aQ_wA, aQ_wA, aQ_wA, aQ_wA]
  have gk : ∀ k, k ≠ 8 → fI (pairC g n c w l) 1 k = fI g 1 k := fun k hk => pF 1 k (by omega)
  generalize pairC g n c w l = g' at *
  obtain ⟨y, ⟨q0, q4, q1, q2, q3, q5, q6, q7⟩, l1, l2⟩ := Y
  have y4 := y.2.2.2.1
  refine ⟨Yok_pair y hn ok p8 gk p2 p3 p4 p5 (pA 6 (by decide)) (pA 7 (by decide)) (pA 8 (by decide)), ⟨?_, ?_, ?_, ?_, ?_, fun i hi => ?_, fun i hi => ?_, fun i hi => ?_⟩, fun k hk => ?_, fun k hk => ?_⟩
  · rw [p8]; unfold rowP; rw [upd_eq]
  · rw [gk 9 (by decide), rowP_o (by decide) (by omega) (by omega) (by omega) (by omega)]; exact q4
  · rw [gk 10 (by decide), rowP_o (by decide) (by omega) (by omega) (by omega) (by omega)]; exact q1
  · rw [gk 11 (by decide), rowP_o (by decide) (by omega) (by omega) (by omega) (by omega)]; exact q2
  · rw [gk 12 (by decide), rowP_o (by decide) (by omega) (by omega) (by omega) (by omega)]; exact q3
  · obtain ⟨z1, z2, z3, z4', z5⟩ := q5 i hi
    have a6 : aI g' (1 + 6) = aI g (1 + 6) := pA 7 (by decide)
    have a7 : aI g' (1 + 7) = aI g (1 + 7) := pA 8 (by decide)
    refine ⟨?_, ?_, ?_, ?_, ?_⟩
    · show rowP m n c w l (8 + i) = aI g' 2 i
      rw [p2]
      by_cases e : i = n
      · subst e; unfold rowP; rw [upd_eq, upd_ne (by omega), z4_out (by omega), upd_ne (by omega), upd_ne (by omega), upd_eq]
      · rw [upd_ne e, rowP_o (by omega) (by omega) (by omega) (by omega) (by omega)]; exact z1
    · show rowP m n c w l (14 + i) = aI g' 3 i
      rw [p3]
      by_cases e : i = n
      · subst e; unfold rowP; rw [upd_eq, upd_ne (by omega), z4_out (by omega), upd_ne (by omega), upd_eq]
      · rw [upd_ne e, rowP_o (by omega) (by omega) (by omega) (by omega) (by omega)]; exact z2
    · show rowP m n c w l (44 + i) = aI g' 4 i
      rw [p4]
      by_cases e : i = n
      · subst e; unfold rowP; rw [upd_eq, upd_ne (by omega), z4_out (by omega), upd_eq]
      · rw [upd_ne e, rowP_o (by omega) (by omega) (by omega) (by omega) (by omega)]; exact z3
    · rw [a6, rowP_o (by omega) (by omega) (by omega) (by omega) (by omega)]; exact z4'
    · rw [a7, rowP_o (by omega) (by omega) (by omega) (by omega) (by omega)]; exact z5
  · show rowP m n c w l (20 + i) = aI g' 5 i
    rw [p5]
    by_cases e : 4 * n ≤ i ∧ i < 4 * n + 4
    · rw [z4_in e.1 e.2]
      unfold rowP
      rw [upd_ne (by omega), z4_in (by omega) (by omega)]
    · rw [z4_out (by omega), rowP_o (by omega) (by omega) (by omega) (by omega) (by omega)]; exact q6 i hi
  · have a5 : aI g' (1 + 5) = aI g (1 + 5) := pA 6 (by decide)
    rw [a5, rowP_o (by omega) (by omega) (by omega) (by omega) (by omega)]; exact q7 i hi
  · rw [pQ]
    rcases l1 k hk with q | ⟨t, n', c', op, ar, cl, e1, e2⟩
    · exact Or.inl q
    · exact Or.inr ⟨t, n', c', op, ar, cl, e1, e2.kept (Nat.le_of_eq T.1.symm) (fun x hx _ => T.c (low_spec (S := [1, 2, 3, 4, 5]) (by decide) hx))⟩
  · rw [gk 11 (by decide)] at hk
    rw [pQ]
    obtain ⟨t, n', c', op, ar, cl, e1, e2, e3⟩ := l2 k hk
    refine ⟨t, n', c', op, ar, cl, e1, e2.kept (Nat.le_of_eq T.1.symm) (fun x hx _ => T.c (low_spec (S := [1, 2, 3, 4, 5]) (by decide) hx)), ?_⟩
    have : (fun i => rowP m n c w l (62 + 900 * k + i)) = fun i => m (62 + 900 * k + i) := by
      funext i
      exact rowP_o (by omega) (by omega) (by omega) (by omega) (by omega)
    rw [this]
    exact e3
/-- a triple of the tape: the row, how many came, how many were lost -/
def tripOK (t : Nat → Int32) (len q n : Nat) : Prop := 3 * q + 2 < len ∧ n < 6 ∧ (0 ≤ (t (3 * q)).toInt ∧ (t (3 * q)).toInt ≤ 24) ∧ (0 ≤ (t (3 * q + 1)).toInt ∧ (t (3 * q + 1)).toInt ≤ 3) ∧ (0 ≤ (t (3 * q + 2)).toInt ∧ (t (3 * q + 2)).toInt ≤ 9)
def rowT (t : Nat → Int32) (len q : Nat) (s : (Nat → Int32) × Nat × Nat) : (Nat → Int32) × Nat × Nat := if 3 * q + 2 < len ∧ tn (s.1 0) < 6 ∧ (0 ≤ (t (3 * q)).toInt ∧ (t (3 * q)).toInt ≤ 24) ∧ (0 ≤ (t (3 * q + 1)).toInt ∧ (t (3 * q + 1)).toInt ≤ 3) ∧ (0 ≤ (t (3 * q + 2)).toInt ∧ (t (3 * q + 2)).toInt ≤ 9) then (rowP s.1 (tn (s.1 0)) (t (3 * q)) (t (3 * q + 1)) (t (3 * q + 2)), s.2.1 + 1, s.2.2) else (s.1, s.2.1, s.2.2 + 1)
theorem rowT_yes {t : Nat → Int32} {len q : Nat} {s : (Nat → Int32) × Nat × Nat} (h : tripOK t len q (tn (s.1 0))) : rowT t len q s = (rowP s.1 (tn (s.1 0)) (t (3 * q)) (t (3 * q + 1)) (t (3 * q + 2)), s.2.1 + 1, s.2.2) := if_pos h
theorem rowT_no {t : Nat → Int32} {len q : Nat} {s : (Nat → Int32) × Nat × Nat} (h : ¬ tripOK t len q (tn (s.1 0))) : rowT t len q s = (s.1, s.2.1, s.2.2 + 1) := if_neg h
theorem c_rowL (hs : Sh h) (Y : Yrel h 1 m) {len : Nat} (hl : len ≤ 400) {s0 : (Nat → Int32) × Nat × Nat} (es : s0 = (m, 0, 0)) : ∃ g', Sh g' ∧ Tch [1, 2, 3, 4, 5] h g' ∧ Yrel g' 1 (foldN (rowT (aI h 24) len) ((len + 2) / 3) s0).1 ∧ D_X10_row_35 z_F h (some 0) (Int32.ofNat len) (some 24) 0 0 0 = (z_pV 10 g' (some 0) 14 (.int (Int32.ofNat (foldN (rowT (aI h 24) len) ((len + 2) / 3) s0).2.2))).bind fun h3880 => (z_gQ 10 h3880 (some 0) 5).bind fun x3881 => (z_pV 5 h3880 x3881 2 (.int (0:Int32))).bind fun h3882 => (z_gQ 10 h3882 (some 0) 4).bind fun x3883 => (z_pV 8 h3882 x3883 1 (.int (0:Int32))).bind fun h3884 => (z_ob 10 h3884 (some 0)).bind fun _ => (D_X10_grant h3884 (some 0) (Int32.ofNat (foldN (rowT (aI h 24) len) ((len + 2) / 3) s0).2.1)).bind fun p3885 => some (p3885.1, p3885.2) := by
  have ha : isY 1 := Or.inl rfl
  have lp := loop_up (β := Int32 × z_H) (S := z_H × Nat × Nat) (N := (len + 2) / 3) (F := fun k s q => D_X10_row_35 k s.1 (some 0) (Int32.ofNat len) (some 24) (Int32.ofNat s.2.1) (Int32.ofNat s.2.2) (Int32.ofNat (3 * q))) (G := fun s => (z_pV 10 s.1 (some 0) 14 (.int (Int32.ofNat s.2.2))).bind fun h3880 => (z_gQ 10 h3880 (some 0) 5).bind fun x3881 => (z_pV 5 h3880 x3881 2 (.int (0:Int32))).bind fun h3882 => (z_gQ 10 h3882 (some 0) 4).bind fun x3883 => (z_pV 8 h3882 x3883 1 (.int (0:Int32))).bind fun h3884 => (z_ob 10 h3884 (some 0)).bind fun _ => (D_X10_grant h3884 (some 0) (Int32.ofNat s.2.1)).bind fun p3885 => some (p3885.1, p3885.2))
    (I := fun q s => Sh s.1 ∧ Tch [1, 2, 3, 4, 5] h s.1 ∧ Yrel s.1 1 (foldN (rowT (aI h 24) len) q s0).1 ∧ s.2.1 = (foldN (rowT (aI h 24) len) q s0).2.1 ∧ s.2.2 = (foldN (rowT (aI h 24) len) q s0).2.2)
    (fun k s _ => by
      show D_X10_row_35b _ s.1 (some 0) (Int32.ofNat len) (some 24) (Int32.ofNat s.2.1) (Int32.ofNat s.2.2) (Int32.ofNat (3 * ((len + 2) / 3))) = _
      unfold D_X10_row_35b
      rw [if_pos (by rw [nat_le (by omega) (by omega)]; omega)])
    (fun k s q hq I => by
      obtain ⟨s1, T1, Y1, e1, e2⟩ := I
      obtain ⟨g1, came, lost⟩ := s
      dsimp only at s1 T1 Y1 e1 e2 ⊢
      obtain ⟨n, en, hn⟩ := Y1.1.1
      have tm : tn ((foldN (rowT (aI h 24) len) q s0).1 0) = n := by rw [Y1.2.1.1, en]; exact tn_of (by omega)
      have c24 : aI g1 24 = aI h 24 := cell_aI (T1.c (by decide))
      have st : D_X10_row_35 (k + 1) g1 (some 0) (Int32.ofNat len) (some 24) (Int32.ofNat came) (Int32.ofNat lost) (Int32.ofNat (3 * q)) = D_X10_row_35b (D_X10_row_35 k) g1 (some 0) (Int32.ofNat len) (some 24) (Int32.ofNat came) (Int32.ofNat lost) (Int32.ofNat (3 * q)) := rfl
      have fs : foldN (rowT (aI h 24) len) (q + 1) s0 = rowT (aI h 24) len q (foldN (rowT (aI h 24) len) q s0) := rfl
      have x1 : Int32.ofNat (3 * q) + 1 = Int32.ofNat (3 * q + 1) := sc_add _ 1
      have x2 : Int32.ofNat (3 * q) + 2 = Int32.ofNat (3 * q + 2) := sc_add _ 2
      have x3 : Int32.ofNat (3 * q) + 3 = Int32.ofNat (3 * (q + 1)) := sc_add _ 3
      have no : D_X10_row_112 (D_X10_row_35 k) g1 (some 0) (Int32.ofNat len) (some 24) (Int32.ofNat came) (Int32.ofNat lost) (Int32.ofNat (3 * q)) = D_X10_row_35 k g1 (some 0) (Int32.ofNat len) (some 24) (Int32.ofNat came) (Int32.ofNat (lost + 1)) (Int32.ofNat (3 * (q + 1))) := by
        unfold D_X10_row_112 D_X10_row_115
        rw [Option.bind_some, Option.bind_some, x3, show Int32.ofNat lost + 1 = Int32.ofNat (lost + 1) from sc_add lost 1]
      have le2 : (Int32.ofNat len ≤ Int32.ofNat (3 * q + 2)) ↔ len ≤ 3 * q + 2 := nat_le (by omega) (by omega)
      have le6 : ((6 : Int32) ≤ Int32.ofNat n) ↔ 6 ≤ n := nat_le (a := 6) (by decide) (by omega)
      have r : ∀ {i : Nat}, i < 400 → z_aI .int g1 (some 24) (Int32.ofNat i) = some (aI h 24 i) := fun hi => by rw [aR (n := 400) s1 rfl hi (by decide), c24]
      have pre : D_X10_row_35b (D_X10_row_35 k) g1 (some 0) (Int32.ofNat len) (some 24) (Int32.ofNat came) (Int32.ofNat lost) (Int32.ofNat (3 * q)) = (if Int32.ofNat len ≤ Int32.ofNat (3 * q + 2) then D_X10_row_112 (D_X10_row_35 k) g1 (some 0) (Int32.ofNat len) (some 24) (Int32.ofNat came) (Int32.ofNat lost) (Int32.ofNat (3 * q)) else if (6 : Int32) ≤ Int32.ofNat n then D_X10_row_112 (D_X10_row_35 k) g1 (some 0) (Int32.ofNat len) (some 24) (Int32.ofNat came) (Int32.ofNat lost) (Int32.ofNat (3 * q)) else (z_aI .int g1 (some 24) (Int32.ofNat (3 * q))).bind fun x3891 => (z_aI .int g1 (some 24) (Int32.ofNat (3 * q + 1))).bind fun x3892 => (z_aI .int g1 (some 24) (Int32.ofNat (3 * q + 2))).bind fun x3893 => (D_X10_canBePair g1 x3891 x3892 x3893).bind fun p3894 => if p3894.1 = 0 then D_X10_row_112 (D_X10_row_35 k) p3894.2 (some 0) (Int32.ofNat len) (some 24) (Int32.ofNat came) (Int32.ofNat lost) (Int32.ofNat (3 * q)) else (z_gQ 10 p3894.2 (some 0) 0).bind fun x3896 => (z_aI .int p3894.2 (some 24) (Int32.ofNat (3 * q))).bind fun x3897 => (z_aI .int p3894.2 (some 24) (Int32.ofNat (3 * q + 1))).bind fun x3898 => (z_aI .int p3894.2 (some 24) (Int32.ofNat (3 * q + 2))).bind fun x3899 => (z_ob 9 p3894.2 x3896).bind fun _ => (D_X9_addPair p3894.2 x3896 x3897 x3898 x3899).bind fun p3900 => (some (Int32.ofNat came + (1:Int32))).bind fun x3902 => D_X10_row_115 (D_X10_row_35 k) p3900 (some 0) (Int32.ofNat len) (some 24) x3902 (Int32.ofNat lost) (Int32.ofNat (3 * q))) := by
        unfold D_X10_row_35b
        rw [if_neg (by rw [nat_le (by omega) (by omega)]; omega), x2, s_gQ (r := 1) s1 rfl rfl, Option.bind_some, s_gI s1 (ci := 9) rfl rfl, Option.bind_some, en, x1]
      rw [st, pre, fs]
      by_cases ok : tripOK (aI h 24) len q n
      · rw [rowT_yes (by rw [tm]; exact ok), tm]
        have okp : okP (aI h 24 (3 * q)) (aI h 24 (3 * q + 1)) (aI h 24 (3 * q + 2)) := ok.2.2
        have h1 := ok.1
        have h2 := ok.2.1
        refine ⟨(pairC g1 n (aI h 24 (3 * q)) (aI h 24 (3 * q + 1)) (aI h 24 (3 * q + 2)), came + 1, lost), ⟨Sh_pairC s1 _ _ _ _, T1.trans (pair_T _ _ _ _), Yrel_pair s1 Y1 h2 okp en, by rw [← e1], e2⟩, ?_⟩
        rw [if_neg (fun z => by have := le2.mp z; omega), if_neg (fun z => by have := le6.mp z; omega), r (by omega), Option.bind_some, r (by omega), Option.bind_some, r (by omega), Option.bind_some, can_yes okp, Option.bind_some]
        dsimp only
        rw [if_neg one_ne, s_gQ (r := 1) s1 rfl rfl, Option.bind_some, r (by omega), Option.bind_some, r (by omega), Option.bind_some, r (by omega), Option.bind_some, s_ob s1 (ci := 9) rfl, Option.bind_some, d_add s1 h2 en, Option.bind_some, Option.bind_some]
        unfold D_X10_row_115
        rw [Option.bind_some, x3, show Int32.ofNat came + 1 = Int32.ofNat (came + 1) from sc_add came 1]
      · rw [rowT_no (by rw [tm]; exact ok)]
        refine ⟨(g1, came, lost + 1), ⟨s1, T1, Y1, e1, by rw [← e2]⟩, ?_⟩
        dsimp only
        by_cases q1 : len ≤ 3 * q + 2
        · rw [if_pos (le2.mpr q1), no]
        rw [if_neg (fun z => q1 (le2.mp z))]
        by_cases q2 : 6 ≤ n
        · rw [if_pos (le6.mpr q2), no]
        rw [if_neg (fun z => q2 (le6.mp z)), r (by omega), Option.bind_some, r (by omega), Option.bind_some, r (by omega), Option.bind_some, can_no (fun z => ok ⟨by omega, by omega, z⟩), Option.bind_some]
        dsimp only
        rw [if_pos rfl, no])
    ((len + 2) / 3) 0 z_F (h, 0, 0) (by omega) (by omega) (by show (len + 2) / 3 < 1000000; omega) ⟨hs, Tch_rfl _ h, by subst es; exact Y, by subst es; rfl, by subst es; rfl⟩
  obtain ⟨⟨g', came, lost⟩, ⟨s1, T1, Y1, e1, e2⟩, e⟩ := lp
  dsimp only at s1 T1 Y1 e1 e2 e
  rw [e1, e2] at e
  exact ⟨g', s1, T1, Y1, e⟩
theorem m_rowL (hs : Sh h) (n0 : nb (aI h 83 0) 6) {len : Nat} (hl : len ≤ 400) (f11 : fI h 81 11 = 0) {s0 : (Nat → Int32) × Nat × Nat} (es : s0 = (aI h 83, 0, 0)) : ∃ g', OnM [81, 83] [11] h g' ∧ aI g' 83 = (foldN (rowT (aI h 90) len) ((len + 2) / 3) s0).1 ∧ fI g' 81 11 = Int32.ofNat (foldN (rowT (aI h 90) len) ((len + 2) / 3) s0).2.2 ∧ D_X11_row_35 z_F h (some 81) (Int32.ofNat len) 0 0 = (z_ob 11 g' (some 81)).bind fun _ => (D_X11_lasting g' (some 81) (Int32.ofNat (foldN (rowT (aI h 90) len) ((len + 2) / 3) s0).2.1)).bind fun p3936 => some (p3936.1, p3936.2) := by
  have lp := loop_up (β := Int32 × z_H) (S := z_H × Nat) (N := (len + 2) / 3) (F := fun k s q => D_X11_row_35 k s.1 (some 81) (Int32.ofNat len) (Int32.ofNat s.2) (Int32.ofNat (3 * q))) (G := fun s => (z_ob 11 s.1 (some 81)).bind fun _ => (D_X11_lasting s.1 (some 81) (Int32.ofNat s.2)).bind fun p3936 => some (p3936.1, p3936.2))
    (I := fun q s => OnM [81, 83] [11] h s.1 ∧ nb (aI s.1 83 0) 6 ∧ aI s.1 83 = (foldN (rowT (aI h 90) len) q s0).1 ∧ s.2 = (foldN (rowT (aI h 90) len) q s0).2.1 ∧ fI s.1 81 11 = Int32.ofNat (foldN (rowT (aI h 90) len) q s0).2.2)
    (fun k s _ => by
      show D_X11_row_35b _ s.1 (some 81) (Int32.ofNat len) (Int32.ofNat s.2) (Int32.ofNat (3 * ((len + 2) / 3))) = _
      unfold D_X11_row_35b
      rw [if_pos (by rw [nat_le (by omega) (by omega)]; omega)])
    (fun k s q hq I => by
      obtain ⟨o1, ⟨n, en, hn⟩, e0, e1, e2⟩ := I
      obtain ⟨g1, came⟩ := s
      dsimp only at o1 en e0 e1 e2 ⊢
      have s1 := o1.1
      have tm : tn ((foldN (rowT (aI h 90) len) q s0).1 0) = n := by rw [← e0, en]; exact tn_of (by omega)
      have c90 : aI g1 90 = aI h 90 := cell_aI (o1.2.1.c (by decide))
      have st : D_X11_row_35 (k + 1) g1 (some 81) (Int32.ofNat len) (Int32.ofNat came) (Int32.ofNat (3 * q)) = D_X11_row_35b (D_X11_row_35 k) g1 (some 81) (Int32.ofNat len) (Int32.ofNat came) (Int32.ofNat (3 * q)) := rfl
      have fs : foldN (rowT (aI h 90) len) (q + 1) s0 = rowT (aI h 90) len q (foldN (rowT (aI h 90) len) q s0) := rfl
      have x1 : Int32.ofNat (3 * q) + 1 = Int32.ofNat (3 * q + 1) := sc_add _ 1
      have x2 : Int32.ofNat (3 * q) + 2 = Int32.ofNat (3 * q + 2) := sc_add _ 2
      have x3 : Int32.ofNat (3 * q) + 3 = Int32.ofNat (3 * (q + 1)) := sc_add _ 3
      have wo := wF_on s1 (k := 11) rfl (fI g1 81 11 + 1)
      have w11 : fI (wF g1 81 11 (.int (fI g1 81 11 + 1))) 81 11 = fI g1 81 11 + 1 := fI_wF_eq s1 rfl _
      have no : D_X11_row_82 (D_X11_row_35 k) g1 (some 81) (Int32.ofNat len) (Int32.ofNat came) (Int32.ofNat (3 * q)) = D_X11_row_35 k (wF g1 81 11 (.int (fI g1 81 11 + 1))) (some 81) (Int32.ofNat len) (Int32.ofNat came) (Int32.ofNat (3 * (q + 1))) := by
        unfold D_X11_row_82 D_X11_row_92
        rw [s_gI s1 (ci := 11) rfl rfl, Option.bind_some, s_pV s1 (ci := 11) rfl (by decide), Option.bind_some, Option.bind_some, x3]
      have le2 : (Int32.ofNat len ≤ Int32.ofNat (3 * q + 2)) ↔ len ≤ 3 * q + 2 := nat_le (by omega) (by omega)
      have r : ∀ {i : Nat}, i < 400 → z_aI .int g1 (some 90) (Int32.ofNat i) = some (aI h 90 i) := fun hi => by rw [aR (n := 400) s1 rfl hi (by decide), c90]
      rw [st, fs]
      unfold D_X11_row_35b
      rw [if_neg (by rw [nat_le (by omega) (by omega)]; omega), x2]
      by_cases ok : tripOK (aI h 90) len q n
      · rw [rowT_yes (by rw [tm]; exact ok), tm]
        have okp : okP (aI h 90 (3 * q)) (aI h 90 (3 * q + 1)) (aI h 90 (3 * q + 2)) := ok.2.2
        have h1 := ok.1
        have h2 := ok.2.1
        have dc := d_come_yes s1 h2 en okp
        refine ⟨(wA g1 83 (rowP (aI g1 83) n (aI h 90 (3 * q)) (aI h 90 (3 * q + 1)) (aI h 90 (3 * q + 2))), came + 1), ⟨o1.trans ⟨Sh_wA s1 rfl _, Tch_wA (Tch_rfl _ g1) (by decide) _, fun _ _ => ⟨fI_wA _ _ _ _, fJ_wA _ _ _ _⟩⟩, ?_, ?_, by rw [← e1], by rw [fI_wA]; exact e2⟩, ?_⟩
        · rw [aI_wA_eq s1 rfl]
          unfold rowP
          rw [upd_eq]
          exact ⟨n + 1, rfl, by omega⟩
        · rw [aI_wA_eq s1 rfl, e0]
        · rw [if_neg (fun z => by have := le2.mp z; omega), s_gQ (r := 90) s1 rfl rfl, Option.bind_some, r (by omega), Option.bind_some, Option.bind_some, x1, r (by omega), Option.bind_some, Option.bind_some, r (by omega), Option.bind_some, s_ob s1 (ci := 11) rfl, Option.bind_some, dc, Option.bind_some]
          dsimp only
          rw [if_neg (not_neg (by omega)), Option.bind_some]
          unfold D_X11_row_92
          rw [Option.bind_some, x3, show Int32.ofNat came + 1 = Int32.ofNat (came + 1) from sc_add came 1]
      · rw [rowT_no (by rw [tm]; exact ok)]
        refine ⟨(wF g1 81 11 (.int (fI g1 81 11 + 1)), came), ⟨o1.trans (wo.mono (by decide) (by decide)), ?_, by rw [aI_wF]; exact e0, e1, ?_⟩, ?_⟩
        · rw [aI_wF]; exact ⟨n, en, hn⟩
        · rw [w11, e2]; exact sc_add _ 1
        · dsimp only
          by_cases q1 : len ≤ 3 * q + 2
          · rw [if_pos (le2.mpr q1), no]
          rw [if_neg (fun z => q1 (le2.mp z)), s_gQ (r := 90) s1 rfl rfl, Option.bind_some, r (by omega), Option.bind_some, Option.bind_some, x1, r (by omega), Option.bind_some, Option.bind_some, r (by omega), Option.bind_some, s_ob s1 (ci := 11) rfl, Option.bind_some]
          by_cases q2 : n = 6
          · by_cases q3 : okP (aI h 90 (3 * q)) (aI h 90 (3 * q + 1)) (aI h 90 (3 * q + 2))
            · rw [d_come_full s1 (by rw [en, q2]; rfl) q3, Option.bind_some]
              dsimp only
              rw [if_pos (by decide), no]
            · rw [d_come_no q3, Option.bind_some]
              dsimp only
              rw [if_pos (by decide), no]
          · rw [d_come_no (fun z => ok ⟨by omega, by omega, z⟩), Option.bind_some]
            dsimp only
            rw [if_pos (by decide), no])
    ((len + 2) / 3) 0 z_F (h, 0) (by omega) (by omega) (by show (len + 2) / 3 < 1000000; omega) ⟨OnM.rfl' hs, n0, by subst es; rfl, by subst es; rfl, by subst es; exact f11⟩
  obtain ⟨⟨g', came⟩, ⟨o1, -, e0, e1, e2⟩, e⟩ := lp
  dsimp only at o1 e0 e1 e2 e
  rw [e1] at e
  exact ⟨g', o1, e0, e2, e⟩
end RW
