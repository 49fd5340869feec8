/-! PARTNERS: both together -/
section CW
variable {h g : z_H} {j a n : Nat}
theorem isA_of (sa : shpL[a]? = some (.inl (.int, n))) : isA a = true := by unfold isA; rw [sa]
theorem d_fillI (hs : Sh g) (sa : shpL[a]? = some (.inl (.int, n))) (hn : n < 1000000) (v : Int32) : ∃ f, (∀ i, i < n → f i = v) ∧ D_J7_fill_53178 g (some a) v = some (wA g a f) := by
  have ia := isA_of sa
  have lp := loop_up (β := z_H) (S := Nat → Int32) (N := n) (F := fun k f i => D_J7_fill_53178_5 k (wA g a f) (some a) v (Int32.ofNat i) (Int32.ofNat n)) (G := fun f => some (wA g a f)) (I := fun i f => ∀ q, q < i → f q = v)
    (fun k f _ => by
      show D_J7_fill_53178_5b _ (wA g a f) (some a) v (Int32.ofNat n) (Int32.ofNat n) = _
      unfold D_J7_fill_53178_5b
      rw [if_pos (by rw [nat_le (by omega) (by omega)]; exact Nat.le_refl _)])
    (fun k f i hi I => by
      have s1 := Sh_wA hs ia f
      refine ⟨upd f i v, fun q hq => ?_, ?_⟩
      · by_cases e : q = i
        · rw [e, upd_eq]
        · rw [upd_ne e]; exact I q (by omega)
      · show D_J7_fill_53178_5b (D_J7_fill_53178_5 k) (wA g a f) (some a) v (Int32.ofNat i) (Int32.ofNat n) = _
        unfold D_J7_fill_53178_5b
        rw [if_neg (by rw [nat_le (by omega) (by omega)]; omega), aW s1 sa hi (by omega), Option.bind_some, Option.bind_some, aI_wA_eq hs ia, wA_wA, show Int32.ofNat i + 1 = Int32.ofNat (i + 1) from sc_add i 1])
    n 0 z_F (aI g a) (by omega) (by omega) hn (fun q hq => by omega)
  obtain ⟨f, hf, e⟩ := lp
  refine ⟨f, hf, ?_⟩
  unfold D_J7_fill_53178
  rw [s_lI hs sa, Option.bind_some]
  rw [wA_self hs ia] at e
  exact e
theorem c_couple {m : Nat → Int32} (hs : Sh h) (Y : Yrel h 1 m) (e8 : fI h 1 8 = Int32.ofNat n) (hn : n ≤ 6) : ∃ g' row', D_X3_couple h (some 59) (some 1) = some g' ∧ CS h g' row' (keepAll (differV m) (false, 0, aI h 61) (cP n 12 0 (decide (n % 2 = 1)) [0, 0, 0, 0, 0, 0] []).1) := by
  obtain ⟨f, hf, ef⟩ := d_fillI hs (a := 60) (n := 6) rfl (by decide) (-1)
  have s1 : Sh (wA h 60 f) := Sh_wA hs rfl f
  have s2 : Sh (wF (wA h 60 f) 59 3 (.int 0)) := Sh_wF s1 rfl 0
  have s3 : Sh (wF (wF (wA h 60 f) 59 3 (.int 0)) 59 2 (.int 0)) := Sh_wF s2 rfl 0
  have T : Tch [59, 60, 61] h (wF (wF (wA h 60 f) 59 3 (.int 0)) 59 2 (.int 0)) := Tch_wF (Tch_wF (Tch_wA (Tch_rfl _ h) (by decide) _) (by decide) _ _) (by decide) _ _
  have C : CS h (wF (wF (wA h 60 f) 59 3 (.int 0)) 59 2 (.int 0)) [0, 0, 0, 0, 0, 0] (false, 0, aI h 61) := by
    refine ⟨s3, T, rfl, fun i hi => ?_, ?_, ?_, fun i hi => ?_⟩
    · have z : gt [0, 0, 0, 0, 0, 0] i = 0 := by
        have : i = 0 ∨ i = 1 ∨ i = 2 ∨ i = 3 ∨ i = 4 ∨ i = 5 := by omega
        rcases this with rfl | rfl | rfl | rfl | rfl | rfl <;> rfl
      rw [z, aI_wF, aI_wF, aI_wA_eq hs rfl, hf i hi]
      exact ⟨by decide, rfl⟩
    · rw [fI_wF_ne (by decide), fI_wF_eq s1 rfl]; rfl
    · rw [fI_wF_eq s2 rfl]
    · rw [aI_wF, aI_wF, aI_wA_ne (by decide)]
  obtain ⟨g', e, C'⟩ := c_part Y e8 hn 12 0 (decide (n % 2 = 1)) _ [] _ _ (by decide) (by decide) C
  refine ⟨g', _, ?_, C'⟩
  have n8 : z_gI 9 (wF (wF (wA h 60 f) 59 3 (.int 0)) 59 2 (.int 0)) (some 1) 8 = some (Int32.ofNat n) := by rw [s_gI s3 (ci := 9) rfl rfl, cell_fI (T.c (by decide)), e8]
  unfold D_X3_couple D_X3_couple_36
  rw [s_gQ (r := 60) hs rfl rfl, Option.bind_some, ef, Option.bind_some, s_pV s1 (ci := 3) rfl (by decide), Option.bind_some, s_pV s2 (ci := 3) rfl (by decide), Option.bind_some, n8, Option.bind_some, show Int32.ofNat n - Int32.ofNat n / 2 * 2 = Int32.ofNat (n % 2) from sc_mod (by omega) (by decide) (by decide), s_ob s3 (ci := 3) rfl, Option.bind_some, Option.bind_some]
  by_cases q : n % 2 = 1
  · rw [if_pos (show Int32.ofNat (n % 2) = 1 by rw [q]; rfl)]
    rw [decide_eq_true q] at e
    exact (congrArg (fun z => z.bind fun p => some p) e)
  · rw [if_neg (show ¬ Int32.ofNat (n % 2) = 1 from fun z => q ((eq_lit (b := 1) (by omega) (by decide)).mp z))]
    rw [decide_eq_false q] at e
    exact (congrArg (fun z => z.bind fun p => some p) e)
theorem m_find (hs : Sh h) (e0 : aI h 83 0 = Int32.ofNat n) (hn : n ≤ 6) (h1 : 1 ≤ n) (z : (rRun n 1000 1 [0, 7, 7, 7, 7, 7, 7] []).1 = 0) : ∃ g' row', D_X11_findCouples h (some 81) = some ((keepRs (differV (aI h 83)) (100000000, aI h 109) (rRun n 1000 1 [0, 7, 7, 7, 7, 7, 7] []).2.2).1, g') ∧ RS h g' n 0 row' (keepRs (differV (aI h 83)) (100000000, aI h 109) (rRun n 1000 1 [0, 7, 7, 7, 7, 7, 7] []).2.2) := by
  have R0 : RS h h n 0 [7, 7, 7, 7, 7, 7, 7] (100000000, aI h 109) := ⟨hs, Tch_rfl _ h, rfl, fun i hi => by omega, fun _ _ => rfl⟩
  obtain ⟨w, -, R, -, -⟩ := R0.set (l := 0) (v := 0) (by decide) (by decide) (by decide)
  have R1 := R (by decide)
  obtain ⟨g', row', e, R'⟩ := m_run rfl e0 hn h1 (100000000, aI h 109) 1000 1 _ [] _ z_F (by omega) R1 z (by show _ < 1000000; decide)
  refine ⟨g', row', ?_, R'⟩
  have i0 : z_aI .int h (some 83) 0 = some (Int32.ofNat n) := by
    have := m83 (i := 0) hs (by decide)
    rw [e0] at this
    exact this
  unfold D_X11_findCouples
  rw [s_gQ (r := 83) hs rfl rfl, Option.bind_some, i0, Option.bind_some, R0.q47, Option.bind_some]
  have w' : z_sI h (some 108) 0 (-1) = some (wA h 108 (upd (aI h 108) 0 (dv 0))) := w
  rw [w', Option.bind_some, if_neg (show ¬ Int32.ofNat n = 0 from fun z => by have := (eq_lit (b := 0) (by omega) (by decide)).mp z; omega)]
  exact e
/-- the same rows, the same choice -/
def RelK (n : Nat) (K : KS) (K' : KR) : Prop := (K.1 = false ∧ K'.1 = 100000000) ∨ (K.1 = true ∧ K.2.1 = K'.1 ∧ ∀ i, i < n → K.2.2 i = K'.2 i)
def okT (t : List (Nat × Nat)) : Bool := t.all (fun y => decide (y.1 < 6) && decide (y.2 < 6)) && decide (t.length ≤ 3)
theorem sum_nb {m : Nat → Int32} (R : RowB m) : ∀ (t : List (Nat × Nat)) (s : Nat), t.all (fun y => decide (y.1 < 6) && decide (y.2 < 6)) = true → ∃ d, d ≤ s + 396 * t.length ∧ t.foldl (fun s x => s + differV m x.1 x.2) (Int32.ofNat s) = Int32.ofNat d := by
  intro t
  induction t with
  | nil => intro s _; exact ⟨s, by simp, rfl⟩
  | cons x t ih =>
    intro s q
    rw [List.all_cons, Bool.and_eq_true, Bool.and_eq_true, decide_eq_true_eq, decide_eq_true_eq] at q
    obtain ⟨d, hd, ed⟩ := differ_nb R q.1.1 q.1.2
    obtain ⟨d', hd', e'⟩ := ih (s + d) q.2
    refine ⟨d', by rw [List.length_cons]; omega, ?_⟩
    rw [List.foldl_cons, ed, sc_add]
    exact e'
theorem sum_lt {m : Nat → Int32} (R : RowB m) {t : List (Nat × Nat)} (q : okT t = true) : ¬ (100000000 : Int32) ≤ sumT (differV m) t := by
  unfold okT at q
  rw [Bool.and_eq_true, decide_eq_true_eq] at q
  obtain ⟨d, hd, e⟩ := sum_nb R t 0 q.1
  intro z
  have : Int32.ofNat 100000000 ≤ Int32.ofNat d := by rw [← e]; exact z
  have := (nat_le (by decide) (by omega)).mp this
  omega
theorem gt_take (r : List Nat) {i : Nat} (hi : i < n) : gt (r.take n) i = gt r i := by
  unfold gt
  rw [List.getD_eq_getElem?_getD, List.getD_eq_getElem?_getD, List.getElem?_take, if_pos hi]
theorem keep_rel {m : Nat → Int32} (R : RowB m) : ∀ (a b : Out) (K : KS) (K' : KR), cut n a = cut n b → a.all (fun x => okT x.2) = true → RelK n K K' → RelK n (keepAll (differV m) K a) (keepRs (differV m) K' b) ∧ ((K.1 = true ∨ a.length ≠ 0) → (keepAll (differV m) K a).1 = true) := by
  intro a
  induction a with
  | nil =>
    intro b K K' e _ r
    cases b with
    | nil => exact ⟨r, fun q => q.resolve_right (fun z => z rfl)⟩
    | cons y b => exact absurd (congrArg List.length e) (by simp [cut])
  | cons x a ih =>
    intro b K K' e q r
    cases b with
    | nil => exact absurd (congrArg List.length e) (by simp [cut])
    | cons y b =>
      have e1 : (x.1.take n, x.2) = (y.1.take n, y.2) := (List.cons.inj e).1
      have e2 : cut n a = cut n b := (List.cons.inj e).2
      have t1 : x.1.take n = y.1.take n := (Prod.mk.inj e1).1
      have t2 : x.2 = y.2 := (Prod.mk.inj e1).2
      rw [List.all_cons, Bool.and_eq_true] at q
      have sl := sum_lt R q.1
      have row : ∀ i, i < n → dv (gt x.1 i) = dv (gt y.1 i) := fun i hi => by rw [← gt_take x.1 hi, t1, gt_take y.1 hi]
      have st : RelK n (keepK K (sumT (differV m) x.2) x.1) (keepR K' (sumT (differV m) y.2) y.1) ∧ (keepK K (sumT (differV m) x.2) x.1).1 = true := by
        unfold keepK keepR
        rw [← t2]
        rcases r with ⟨r1, r2⟩ | ⟨r1, r2, r3⟩
        · rw [if_neg (fun z => absurd z.1 (by rw [r1]; decide)), r2, if_neg sl]
          exact ⟨Or.inr ⟨rfl, rfl, row⟩, rfl⟩
        · rw [r2]
          by_cases c : K'.1 ≤ sumT (differV m) x.2
          · rw [if_pos ⟨r1, c⟩, if_pos c]
            exact ⟨Or.inr ⟨r1, r2, r3⟩, r1⟩
          · rw [if_neg (fun z => c z.2), if_neg c]
            exact ⟨Or.inr ⟨rfl, rfl, row⟩, rfl⟩
      obtain ⟨p1, p2⟩ := ih b _ _ e2 q.2 st.1
      exact ⟨p1, fun _ => p2 (Or.inl st.2)⟩
theorem rows_ok : ∀ n : Fin 7, ((cP n.val 12 0 (decide (n.val % 2 = 1)) [0, 0, 0, 0, 0, 0] []).1).all (fun x => okT x.2) = true := by decide +kernel
theorem a_couples (H : Inv j h) (x : Int32) : Agree Inv j h (fun h => D_X10_couples h (some 0) x) (fun h => D_X11_couples h (some 81) x) := by
  have hs := H.1
  have ha : isY 1 := Or.inl rfl
  obtain ⟨n, hn, e1, e2⟩ := H.np
  have q0 : z_gQ 10 h (some 0) 0 = some (some 1) := s_gQ hs rfl rfl
  have i0 : ∀ {g}, Sh g → aI g 83 0 = Int32.ofNat n → z_aI .int g (some 83) 0 = some (Int32.ofNat n) := fun {g} hs e0 => by
    have := m83 (i := 0) hs (by decide)
    rw [e0] at this
    exact this
  rcases xc x (n + 1) (by omega) with ⟨p, hp, rfl⟩ | nx
  · obtain ⟨g1, row1, ec, C⟩ := c_couple hs H.Y e1 hn
    obtain ⟨s1, T1, -, -, f3, f2, b⟩ := C
    have S1 : Same h g1 := Same_T T1 s1 rfl
    have st := Sh_t0 s1
    have c83 : aI (t0 g1) 83 = aI h 83 := (aI_wF _ _ _ _).trans (cell_aI (T1.c (by decide)))
    have e2' : aI (t0 g1) 83 0 = Int32.ofNat n := by rw [c83]; exact e2
    have din : D_X11_in (t0 g1) (Int32.ofNat p).toInt64 0 (Int32.ofNat n).toInt64 = some (1, t0 g1) := d_in_yes (by rw [wide, wide, l_lits.1, of_int (by omega), of_int (by omega)]; omega) _
    have hC : ∀ {v}, (p = 0 → v = fI g1 59 2) → (∀ k, p = k + 1 → v = aI g1 61 k) → D_X10_couples h (some 0) (Int32.ofNat p) = some (v, g1) := fun {v} v0 v1 => by
      have q11 : z_gQ 10 h (some 0) 11 = some (some 59) := s_gQ hs rfl rfl
      have q11' : z_gQ 10 g1 (some 0) 11 = some (some 59) := s_gQ s1 rfl rfl
      have r19 : D_X10_couples_19 h (some 0) (Int32.ofNat p) = some (v, g1) := by
        unfold D_X10_couples_19
        rw [q11, Option.bind_some, q0, Option.bind_some, s_ob hs (ci := 3) rfl, Option.bind_some, ec, Option.bind_some]
        cases p with
        | zero => rw [if_pos (show Int32.ofNat 0 = 0 from rfl), q11', Option.bind_some, s_gI s1 (ci := 3) rfl rfl, Option.bind_some, v0 rfl]
        | succ k =>
          rw [if_neg (show ¬ Int32.ofNat (k + 1) = 0 from fun z => by have := (eq_lit (b := 0) (by omega) (by decide)).mp z; omega), q11', Option.bind_some, s_gQ (r := 61) s1 rfl rfl, Option.bind_some, show Int32.ofNat (k + 1) - 1 = Int32.ofNat k from sc_sub (i := k + 1) (k := 1) (by omega), aR s1 (n := 6) rfl (by omega) (by decide), Option.bind_some, v1 k rfl]
      unfold D_X10_couples
      cases p with
      | zero => rw [if_pos (show Int32.ofNat 0 = 0 from rfl)]; exact r19
      | succ k =>
        rw [if_neg (show ¬ Int32.ofNat (k + 1) = 0 from fun z => by have := (eq_lit (b := 0) (by omega) (by decide)).mp z; omega), q0, Option.bind_some, (yR hs ha).1, Option.bind_some, show Int32.ofNat (k + 1) - 1 = Int32.ofNat k from sc_sub (i := k + 1) (k := 1) (by omega), hasP1 hs ha e1 (by omega) (by omega), Option.bind_some]
        dsimp only
        rw [if_neg one_ne]
        exact r19
    by_cases n0 : n = 0
    · subst n0
      have p0 : p = 0 := by omega
      subst p0
      have f0 : fI g1 59 2 = 0 := f2.trans rfl
      obtain ⟨w, -, R, -, -⟩ := (show RS (t0 g1) (t0 g1) 0 0 [7, 7, 7, 7, 7, 7, 7] (100000000, aI h 109) from ⟨st, Tch_rfl _ _, rfl, fun i hi => by omega, fun i hi => by omega⟩).set (l := 0) (v := 0) (by decide) (by decide) (by decide)
      have R1 := R (by decide)
      refine agree_q H (x := 0) (hC (fun _ => f0.symm) (fun k hk => by omega)) S1 (h2 := wA (t0 g1) 108 (upd (aI (t0 g1) 108) 0 (dv 0))) ?_ ((Same_t0 s1).trans (Same_wA st rfl rfl _))
      show D_X11_couples g1 (some 81) 0 = _
      unfold D_X11_couples
      rw [p81 s1, Option.bind_some, s_gQ (r := 83) st rfl rfl, Option.bind_some, i0 st e2', Option.bind_some]
      have din' : D_X11_in (t0 g1) (Int32.toInt64 0) 0 (Int32.ofNat 0).toInt64 = some (1, t0 g1) := din
      rw [din', Option.bind_some]
      dsimp only
      rw [if_neg one_ne, s_ob st (ci := 11) rfl, Option.bind_some]
      have : D_X11_findCouples (t0 g1) (some 81) = some (0, wA (t0 g1) 108 (upd (aI (t0 g1) 108) 0 (dv 0))) := by
        unfold D_X11_findCouples
        rw [s_gQ (r := 83) st rfl rfl, Option.bind_some, i0 st e2', Option.bind_some, s_gQ (r := 108) st rfl rfl, Option.bind_some]
        have w' : z_sI (t0 g1) (some 108) 0 (-1) = some (wA (t0 g1) 108 (upd (aI (t0 g1) 108) 0 (dv 0))) := w
        rw [w', Option.bind_some, if_pos (show Int32.ofNat 0 = 0 from rfl)]
      rw [this, Option.bind_some]
      dsimp only
      rw [if_pos rfl]
    · obtain ⟨z, cc, ne⟩ := same_rows ⟨n, by omega⟩ (by show 1 ≤ n; omega)
      have ok := rows_ok ⟨n, by omega⟩
      dsimp only at z cc ne ok
      obtain ⟨g2, row2, em, R⟩ := m_find st e2' hn (by omega) z
      rw [c83] at em R
      obtain ⟨rel, tr⟩ := keep_rel (n := n) H.Y.row (cP n 12 0 (decide (n % 2 = 1)) [0, 0, 0, 0, 0, 0] []).1 (rRun n 1000 1 [0, 7, 7, 7, 7, 7, 7] []).2.2 (false, 0, aI h 61) (100000000, aI (t0 g1) 109) cc.symm ok (Or.inl ⟨rfl, rfl⟩)
      have tr' := tr (Or.inr ne)
      rcases rel with ⟨r, -⟩ | ⟨-, r2, r3⟩
      · rw [tr'] at r; exact absurd r (by decide)
      · have S2 : Same g1 g2 := (Same_t0 s1).trans (Same_T R.2.1 R.1 rfl)
        have fm : ∀ {v}, (p = 0 → v = fI g1 59 2) → (∀ k, p = k + 1 → v = aI g1 61 k) → D_X11_couples g1 (some 81) (Int32.ofNat p) = some (v, g2) := fun {v} v0 v1 => by
          unfold D_X11_couples
          rw [p81 s1, Option.bind_some, s_gQ (r := 83) st rfl rfl, Option.bind_some, i0 st e2', Option.bind_some, din, Option.bind_some]
          dsimp only
          rw [if_neg one_ne, s_ob st (ci := 11) rfl, Option.bind_some, em, Option.bind_some]
          dsimp only
          cases p with
          | zero => rw [if_pos (show Int32.ofNat 0 = 0 from rfl), v0 rfl, f2, r2]
          | succ k =>
            rw [if_neg (show ¬ Int32.ofNat (k + 1) = 0 from fun z => by have := (eq_lit (b := 0) (by omega) (by decide)).mp z; omega), R.q48, Option.bind_some, show Int32.ofNat (k + 1) - 1 = Int32.ofNat k from sc_sub (i := k + 1) (k := 1) (by omega), aR R.1 (n := 6) rfl (by omega) (by decide), Option.bind_some, v1 k rfl, b k (by omega), r3 k (by omega), R.2.2.2.2 k (by omega)]
        have v0 : p = 0 → (if p = 0 then fI g1 59 2 else aI g1 61 (p - 1)) = fI g1 59 2 := fun q => if_pos q
        have v1 : ∀ k, p = k + 1 → (if p = 0 then fI g1 59 2 else aI g1 61 (p - 1)) = aI g1 61 k := fun k q => by rw [if_neg (by omega), show p - 1 = k by omega]
        exact agree_q H (hC v0 v1) S1 (fm v0 v1) S2
  · have st := Sh_t0 hs
    have e2' : aI (t0 h) 83 0 = Int32.ofNat n := by rw [aI_wF]; exact e2
    have x0 : ¬ x = 0 := fun z => nx (by rw [z]; exact ⟨by decide, by show (0 : Int) < _; omega⟩)
    have xm : ¬ (0 ≤ (x - 1).toInt ∧ (x - 1).toInt < n) := fun q => by
      rcases xc (x - 1) n (by omega) with ⟨k, hk, ek⟩ | w
      · have : x = Int32.ofNat (k + 1) := by
          rw [← sc_add k 1, ← ek]
          exact (Int32.sub_add_cancel x 1).symm
        exact nx (by rw [this, of_int (by omega)]; omega)
      · exact w q
    refine none_q H (x := -1) ?_ ?_
    · show D_X10_couples h (some 0) x = _
      unfold D_X10_couples
      rw [if_neg x0, q0, Option.bind_some, (yR hs ha).1, Option.bind_some, hasP0 hs ha e1 (by omega) xm, Option.bind_some]
      dsimp only
      rw [if_pos rfl]
    · show D_X11_couples h (some 81) x = _
      unfold D_X11_couples
      rw [p81 hs, Option.bind_some, s_gQ (r := 83) st rfl rfl, Option.bind_some, i0 st e2', Option.bind_some, d_in_no (by rw [wide, wide, l_lits.1, of_int (by omega)]; omega), Option.bind_some]
      dsimp only
      rw [if_pos rfl]
end CW
