/-! loops that copy -/
theorem wA_self {h : z_H} (hs : Sh h) {a : Nat} (e : isA a = true) : wA h a (aI h a) = h := by
  have key : ∃ ty n, h.2.2 a = .inl (ty, n, .inl (aI h a)) := by
    unfold isA at e
    split at e
    · rename_i n hx
      exact ⟨_, _, hs.2 a _ hx⟩
    · rename_i n hx
      exact ⟨_, _, hs.2 a _ hx⟩
    · cases e
  obtain ⟨ty, n, hx⟩ := key
  unfold wA z_up
  rw [hx]
  refine Prod.ext rfl (Prod.ext rfl ?_)
  funext q
  by_cases hq : q = a
  · subst hq; simp [hx]
  · simp [hq]
theorem cpy_zero {f g : Nat → Int32} {sp dp : Nat} : va_cpy f g sp dp 0 = g := by
  funext k
  unfold va_cpy
  rw [if_neg (by omega)]
theorem cpy_succ {f g : Nat → Int32} {sp dp n : Nat} : upd (va_cpy f g sp dp n) (dp + n) (f (sp + n)) = va_cpy f g sp dp (n + 1) := by
  funext k
  unfold va_cpy upd
  by_cases c : k = dp + n
  · rw [if_pos c, if_pos (by omega), c]
    congr 1; omega
  · rw [if_neg c]
    dsimp only
    by_cases c2 : dp ≤ k ∧ k < dp + n
    · rw [if_pos c2, if_pos (by omega)]
    · rw [if_neg c2, if_neg (by omega)]
theorem copy_loop {β : Type} {F : Nat → z_H → Int32 → Option β} {G : z_H → Option β} {a b sp dp N : Nat} (ia : isA a = true) (stop : ∀ m g, Sh g → F (m + 1) g (Int32.ofNat N) = G g) (step : ∀ m g i, Sh g → i < N → F (m + 1) g (Int32.ofNat i) = F m (wA g a (upd (aI g a) (dp + i) (aI g b (sp + i)))) (Int32.ofNat (i + 1))) (hab : b ≠ a ∨ dp ≤ sp) {g : z_H} (hs : Sh g) (hN : N < 1000000) : F z_F g 0 = G (wA g a (va_cpy (aI g b) (aI g a) sp dp N)) := by
  have := loop_up (β := β) (S := z_H) (I := fun i g' => g' = wA g a (va_cpy (aI g b) (aI g a) sp dp i)) (F := fun m g i => F m g (Int32.ofNat i)) (G := G) (N := N)
    (fun m g' e => by
      subst e
      exact stop m _ (Sh_wA hs ia _))
    (fun m g' i hi e => by
      subst e
      have s1 := Sh_wA hs ia (va_cpy (aI g b) (aI g a) sp dp i)
      refine ⟨_, ?_, step m _ i s1 hi⟩
      rw [wA_wA, aI_wA_eq hs ia]
      have rb : aI (wA g a (va_cpy (aI g b) (aI g a) sp dp i)) b (sp + i) = aI g b (sp + i) := by
        by_cases q : b = a
        · subst q
          rw [aI_wA_eq hs ia]
          unfold va_cpy
          rw [if_neg (by omega)]
        · rw [aI_wA_ne q]
      rw [rb, cpy_succ])
    N 0 z_F g (by omega) (by omega) hN (by rw [cpy_zero, wA_self hs ia])
  obtain ⟨g', e1, e2⟩ := this
  rw [← e1]
  exact e2
section RM
variable {g : z_H}
theorem m_keepAll (hs : Sh g) {k : Nat} (hk : k < 18) : D_X11_keepAll g (some 81) (Int32.ofNat k) = some (wA g 86 (va_cpy (aI g 83) (aI g 86) 5 (39 * k) 39)) := by
  unfold D_X11_keepAll
  refine copy_loop (F := fun m g i => D_X11_keepAll_2 m g (some 81) (Int32.ofNat k) i) (G := fun g => some g) (a := 86) (b := 83) (sp := 5) (dp := 39 * k) (N := 39) rfl (fun m g hs => ?_) (fun m g i hs hi => ?_) (Or.inl (by decide)) hs (by decide)
  · show D_X11_keepAll_2b _ g (some 81) (Int32.ofNat k) (Int32.ofNat 39) = _
    unfold D_X11_keepAll_2b
    rw [if_pos (by decide)]
  · show D_X11_keepAll_2b (D_X11_keepAll_2 m) g (some 81) (Int32.ofNat k) (Int32.ofNat i) = _
    have c : ¬ (39 : Int32) ≤ Int32.ofNat i := fun z => by have := (nat_le (a := 39) (b := i) (by decide) (by omega)).mp z; omega
    simp (disch := first | assumption | omega | (simp only [isAs, isFs, isJs, isAJs, isAQs]; done) | ((repeat (first | assumption | apply Sh_wA | apply Sh_wF | apply Sh_wJ | apply Sh_wFJ | apply Sh_wQ | simp only [isAs, isFs, isJs, isAJs, isAQs])); done) | fail) only [D_X11_keepAll_2b, c, if_false, Option.bind_some, rdQ_c, rdO_c, rdF_c, rdA_c, rdQ_m, rdO_m, rdF_m, rdA_m, wrF_c, wrF_m, wrA_c, wrA_m, iR_ofNat, iW_ofNat, iRs, iWs, tns, tn_of', aI_wF, aI_wA_eq, aI_wA_ne, fI_wA, fI_wF_eq, fI_wF_ne, wA_wA, litA, litB, litM, litN, sc_add, sc_mul]
theorem m_putBack (hs : Sh g) {k : Nat} (hk : k < 18) : D_X11_putBack g (some 81) (Int32.ofNat k) = some (wA g 83 (va_cpy (aI g 86) (aI g 83) (39 * k) 5 39)) := by
  unfold D_X11_putBack
  refine copy_loop (F := fun m g i => D_X11_putBack_2 m g (some 81) (Int32.ofNat k) i) (G := fun g => some g) (a := 83) (b := 86) (sp := 39 * k) (dp := 5) (N := 39) rfl (fun m g hs => ?_) (fun m g i hs hi => ?_) (Or.inl (by decide)) hs (by decide)
  · show D_X11_putBack_2b _ g (some 81) (Int32.ofNat k) (Int32.ofNat 39) = _
    unfold D_X11_putBack_2b
    rw [if_pos (by decide)]
  · show D_X11_putBack_2b (D_X11_putBack_2 m) g (some 81) (Int32.ofNat k) (Int32.ofNat i) = _
    have c : ¬ (39 : Int32) ≤ Int32.ofNat i := fun z => by have := (nat_le (a := 39) (b := i) (by decide) (by omega)).mp z; omega
    simp (disch := first | assumption | omega | (simp only [isAs, isFs, isJs, isAJs, isAQs]; done) | ((repeat (first | assumption | apply Sh_wA | apply Sh_wF | apply Sh_wJ | apply Sh_wFJ | apply Sh_wQ | simp only [isAs, isFs, isJs, isAJs, isAQs])); done) | fail) only [D_X11_putBack_2b, c, if_false, Option.bind_some, rdQ_c, rdO_c, rdF_c, rdA_c, rdQ_m, rdO_m, rdF_m, rdA_m, wrF_c, wrF_m, wrA_c, wrA_m, iR_ofNat, iW_ofNat, iRs, iWs, tns, tn_of', aI_wF, aI_wA_eq, aI_wA_ne, fI_wA, fI_wF_eq, fI_wF_ne, wA_wA, litA, litB, litM, litN, sc_add, sc_mul]
theorem m_rem77 (hs : Sh g) {n : Nat} (en : fI g 81 8 = Int32.ofNat n) (hn : n < 16) (s : Int32) : D_X11_remember_77 g (some 81) s = some (wF (wA (wA g 86 (va_cpy (aI g 83) (aI g 86) 5 (39 * n) 39)) 87 (upd (aI g 87) n s)) 81 8 (.int (Int32.ofNat (n + 1)))) := by
  have k := m_keepAll hs (k := n) (by omega)
  simp (disch := first | assumption | omega | (simp only [isAs, isFs, isJs, isAJs, isAQs]; done) | ((repeat (first | assumption | apply Sh_wA | apply Sh_wF | apply Sh_wJ | apply Sh_wFJ | apply Sh_wQ | simp only [isAs, isFs, isJs, isAJs, isAQs])); done) | fail) only [D_X11_remember_77, en, k, Option.bind_some, rdQ_c, rdO_c, rdF_c, rdA_c, rdQ_m, rdO_m, rdF_m, rdA_m, wrF_c, wrF_m, wrA_c, wrA_m, iR_ofNat, iW_ofNat, iRs, iWs, tns, tn_of', aI_wF, aI_wA_eq, aI_wA_ne, fI_wA, fI_wF_eq, fI_wF_ne, wA_wA, litA, litB, litM, litN, sc_add, sc_mul]
theorem m_remember (hs : Sh g) {n : Nat} (en : fI g 81 8 = Int32.ofNat n) (hn : n ≤ 16) (s : Int32) : ∃ g', OnM [81, 86, 87] [8] g g' ∧ fI g' 81 8 = Int32.ofNat (nxN n) ∧ aI g' 86 = nxU n (aI g 86) (fun i => aI g 83 (5 + i)) ∧ aI g' 87 = nxM n (aI g 87) s ∧ D_X11_remember g (some 81) s = some g' := by
  have hS : ∀ (g : z_H) (f1 f2 : Nat → Int32) (v : Int32), Sh g → Sh (wF (wA (wA g 86 f1) 87 f2) 81 8 (.int v)) := fun g f1 f2 v h => Sh_wF (Sh_wA (Sh_wA h rfl _) rfl _) rfl _
  have hO : ∀ (g : z_H) (f1 f2 : Nat → Int32) (v : Int32), Sh g → OnM [81, 86, 87] [8] g (wF (wA (wA g 86 f1) 87 f2) 81 8 (.int v)) := fun g f1 f2 v h => ⟨hS g f1 f2 v h, Tch_wF (Tch_wA (Tch_wA (Tch_rfl _ g) (by decide) _) (by decide) _) (by decide) _ _, fun k hk => by
    have : k ≠ 8 := fun q => hk (by rw [q]; decide)
    rw [fI_wF_ne (by omega), fJ_wF_ne (by omega), fI_wA, fI_wA, fJ_wA, fJ_wA]
    exact ⟨rfl, rfl⟩⟩
  by_cases c : n < 16
  · have d := m_rem77 hs en c s
    have c' : ¬ Int32.ofNat n = 16 := fun z => by have := (eq_lit (a := n) (b := 16) (by omega) (by decide)).mp z; omega
    have d2 : D_X11_remember g (some 81) s = D_X11_remember_77 g (some 81) s := by
      simp (disch := first | assumption | omega | (simp only [isAs, isFs, isJs, isAJs, isAQs]; done) | ((repeat (first | assumption | apply Sh_wA | apply Sh_wF | apply Sh_wJ | apply Sh_wFJ | apply Sh_wQ | simp only [isAs, isFs, isJs, isAJs, isAQs])); done) | fail) only [D_X11_remember, en, c', if_false, Option.bind_some, rdQ_c, rdO_c, rdF_c, rdA_c, rdQ_m, rdO_m, rdF_m, rdA_m, wrF_c, wrF_m, wrA_c, wrA_m, iR_ofNat, iW_ofNat, iRs, iWs, tns, tn_of', aI_wF, aI_wA_eq, aI_wA_ne, fI_wA, fI_wF_eq, fI_wF_ne, wA_wA, litA, litB, litM, litN, sc_add, sc_mul]
    refine ⟨_, hO g _ _ _ hs, ?_, ?_, ?_, d2.trans d⟩
    · rw [fI_wF_eq (Sh_wA (Sh_wA hs rfl _) rfl _) rfl]
      unfold nxN
      rw [if_pos c]
    · rw [aI_wF, aI_wA_ne (by decide), aI_wA_eq hs rfl]
      funext q
      unfold va_cpy nxU
      rw [if_pos c]
    · rw [aI_wF, aI_wA_eq (Sh_wA hs rfl _) rfl]
      funext q
      unfold upd nxM
      rw [if_pos c]
  · have n16 : n = 16 := by omega
    subst n16
    have l2 : ∀ g, Sh g → D_X11_remember_41 z_F g (some 81) s 0 = (z_gI 11 (wA g 87 (va_cpy (aI g 87) (aI g 87) 1 0 15)) (some 81) 8).bind fun x2349 => (z_pV 11 (wA g 87 (va_cpy (aI g 87) (aI g 87) 1 0 15)) (some 81) 8 (.int (x2349 - (1:Int32)))).bind fun h2350 => D_X11_remember_77 h2350 (some 81) s := fun g hs => by
      refine copy_loop (F := fun m g i => D_X11_remember_41 m g (some 81) s i) (G := fun g => (z_gI 11 g (some 81) 8).bind fun x2349 => (z_pV 11 g (some 81) 8 (.int (x2349 - (1:Int32)))).bind fun h2350 => D_X11_remember_77 h2350 (some 81) s) (a := 87) (b := 87) (sp := 1) (dp := 0) (N := 15) rfl (fun m g hs => ?_) (fun m g i hs hi => ?_) (Or.inr (by decide)) hs (by decide)
      · show D_X11_remember_41b _ g (some 81) s (Int32.ofNat 15) = _
        unfold D_X11_remember_41b
        rw [if_pos (by decide)]
      · show D_X11_remember_41b (D_X11_remember_41 m) g (some 81) s (Int32.ofNat i) = _
        have c : ¬ (15 : Int32) ≤ Int32.ofNat i := fun z => by have := (nat_le (a := 15) (b := i) (by decide) (by omega)).mp z; omega
        simp (disch := first | assumption | omega | (simp only [isAs, isFs, isJs, isAJs, isAQs]; done) | ((repeat (first | assumption | apply Sh_wA | apply Sh_wF | apply Sh_wJ | apply Sh_wFJ | apply Sh_wQ | simp only [isAs, isFs, isJs, isAJs, isAQs])); done) | fail) only [D_X11_remember_41b, c, if_false, Nat.zero_add, Nat.add_comm 1 i, Option.bind_some, rdQ_c, rdO_c, rdF_c, rdA_c, rdQ_m, rdO_m, rdF_m, rdA_m, wrF_c, wrF_m, wrA_c, wrA_m, iR_ofNat, iW_ofNat, iRs, iWs, tns, tn_of', aI_wF, aI_wA_eq, aI_wA_ne, fI_wA, fI_wF_eq, fI_wF_ne, wA_wA, litA, litB, litM, litN, sc_add, sc_mul]
    have l1 : D_X11_remember_11 z_F g (some 81) s 0 = D_X11_remember_41 z_F (wA g 86 (va_cpy (aI g 86) (aI g 86) 39 0 585)) (some 81) s 0 := by
      refine copy_loop (F := fun m g i => D_X11_remember_11 m g (some 81) s i) (G := fun g => D_X11_remember_41 z_F g (some 81) s 0) (a := 86) (b := 86) (sp := 39) (dp := 0) (N := 585) rfl (fun m g hs => ?_) (fun m g i hs hi => ?_) (Or.inr (by decide)) hs (by decide)
      · show D_X11_remember_11b _ g (some 81) s (Int32.ofNat 585) = _
        unfold D_X11_remember_11b
        rw [if_pos (by decide)]
      · show D_X11_remember_11b (D_X11_remember_11 m) g (some 81) s (Int32.ofNat i) = _
        have c : ¬ (585 : Int32) ≤ Int32.ofNat i := fun z => by have := (nat_le (a := 585) (b := i) (by decide) (by omega)).mp z; omega
        simp (disch := first | assumption | omega | (simp only [isAs, isFs, isJs, isAJs, isAQs]; done) | ((repeat (first | assumption | apply Sh_wA | apply Sh_wF | apply Sh_wJ | apply Sh_wFJ | apply Sh_wQ | simp only [isAs, isFs, isJs, isAJs, isAQs])); done) | fail) only [D_X11_remember_11b, c, if_false, Nat.zero_add, Nat.add_comm 39 i, Option.bind_some, rdQ_c, rdO_c, rdF_c, rdA_c, rdQ_m, rdO_m, rdF_m, rdA_m, wrF_c, wrF_m, wrA_c, wrA_m, iR_ofNat, iW_ofNat, iRs, iWs, tns, tn_of', aI_wF, aI_wA_eq, aI_wA_ne, fI_wA, fI_wF_eq, fI_wF_ne, wA_wA, litA, litB, litM, litN, sc_add, sc_mul]
    obtain ⟨ga, ega⟩ : ∃ ga, ga = wA g 86 (va_cpy (aI g 86) (aI g 86) 39 0 585) := ⟨_, rfl⟩
    obtain ⟨gb, egb⟩ : ∃ gb, gb = wA ga 87 (va_cpy (aI ga 87) (aI ga 87) 1 0 15) := ⟨_, rfl⟩
    have sa : Sh ga := by rw [ega]; exact Sh_wA hs rfl _
    have sb : Sh gb := by rw [egb]; exact Sh_wA sa rfl _
    have f8 : fI gb 81 8 = 16 := by rw [egb, fI_wA, ega, fI_wA, en]; rfl
    obtain ⟨gc, egc⟩ : ∃ gc, gc = wF gb 81 8 (.int 15) := ⟨_, rfl⟩
    have sc : Sh gc := by rw [egc]; exact Sh_wF sb rfl _
    have f8c : fI gc 81 8 = Int32.ofNat 15 := by rw [egc]; exact fI_wF_eq sb rfl _
    have d := m_rem77 sc f8c (by decide) s
    have e1 : D_X11_remember g (some 81) s = D_X11_remember_77 gc (some 81) s := by
      have : (Int32.ofNat 16 : Int32) = 16 := rfl
      simp (disch := first | assumption | omega | (simp only [isAs, isFs, isJs, isAJs, isAQs]; done) | ((repeat (first | assumption | apply Sh_wA | apply Sh_wF | apply Sh_wJ | apply Sh_wFJ | apply Sh_wQ | simp only [isAs, isFs, isJs, isAJs, isAQs])); done) | fail) only [D_X11_remember, en, if_true, Option.bind_some, rdQ_c, rdO_c, rdF_c, rdA_c, rdQ_m, rdO_m, rdF_m, rdA_m, wrF_c, wrF_m, wrA_c, wrA_m, iR_ofNat, iW_ofNat, iRs, iWs, tns, tn_of', aI_wF, aI_wA_eq, aI_wA_ne, fI_wA, fI_wF_eq, fI_wF_ne, wA_wA, litA, litB, litM, litN, sc_add, sc_mul]
      rw [l1, ← ega, l2 ga sa, ← egb, s_gI sb (ci := 11) (k := 8) rfl rfl, Option.bind_some, f8, show (16 : Int32) - 1 = 15 from rfl, s_pV sb (ci := 11) rfl (by decide), Option.bind_some, ← egc]
      exact if_pos rfl
    have Oc : OnM [81, 86, 87] [8] g gc := by
      refine ⟨sc, ?_, fun k hk => ?_⟩
      · rw [egc, egb, ega]
        exact Tch_wF (Tch_wA (Tch_wA (Tch_rfl _ g) (by decide) _) (by decide) _) (by decide) _ _
      · have : k ≠ 8 := fun q => hk (by rw [q]; decide)
        rw [egc, egb, ega, fI_wF_ne (by omega), fJ_wF_ne (by omega), fI_wA, fI_wA, fJ_wA, fJ_wA]
        exact ⟨rfl, rfl⟩
    have c83 : aI gc 83 = aI g 83 := by rw [egc, aI_wF, egb, aI_wA_ne (by decide), ega, aI_wA_ne (by decide)]
    have c86 : aI gc 86 = va_cpy (aI g 86) (aI g 86) 39 0 585 := by rw [egc, aI_wF, egb, aI_wA_ne (by decide), ega, aI_wA_eq hs rfl]
    have c87 : aI gc 87 = va_cpy (aI g 87) (aI g 87) 1 0 15 := by rw [egc, aI_wF, egb, aI_wA_eq sa rfl, ega, aI_wA_ne (by decide)]
    refine ⟨_, Oc.trans (hO gc _ _ _ sc), ?_, ?_, ?_, e1.trans d⟩
    · rw [fI_wF_eq (Sh_wA (Sh_wA sc rfl _) rfl _) rfl]
      rfl
    · rw [aI_wF, aI_wA_ne (by decide), aI_wA_eq sc rfl, c83, c86]
      funext q
      unfold va_cpy nxU
      rw [if_neg (show ¬ (16 : Nat) < 16 by decide)]
      by_cases q1 : 585 ≤ q ∧ q < 624
      · rw [if_pos (by omega), if_pos q1]
      · rw [if_neg (by omega), if_neg q1]
        by_cases q2 : q < 585
        · rw [if_pos (by omega), if_pos q2]
          congr 1; omega
        · rw [if_neg (by omega), if_neg q2]
    · rw [aI_wF, aI_wA_eq (Sh_wA sc rfl _) rfl, c87]
      funext q
      unfold upd nxM va_cpy
      rw [if_neg (show ¬ (16 : Nat) < 16 by decide)]
      by_cases q1 : q = 15
      · rw [if_pos q1, if_pos q1]
      · rw [if_neg q1, if_neg q1]
        by_cases q2 : q < 15
        · rw [if_pos (by omega), if_pos q2]
          congr 1; omega
        · rw [if_neg (by omega), if_neg q2]
end RM
