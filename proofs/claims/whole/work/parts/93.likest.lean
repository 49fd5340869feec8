/-! loops whose state is no heap -/
def foldN {σ : Type} (f : Nat → σ → σ) : Nat → σ → σ
  | 0, s => s
  | n + 1, s => f n (foldN f n s)
theorem loop_fold {σ β : Type} {F : Nat → σ → Nat → Option β} {G : σ → Option β} {N : Nat} (f : Nat → σ → σ) (stop : ∀ m s, F (m + 1) s N = G s) (step : ∀ m s i, i < N → F (m + 1) s i = F m (f i s) (i + 1)) (s : σ) (hN : N < 1000000) : F z_F s 0 = G (foldN f N s) := by
  have := loop_up (I := fun i s' => s' = foldN f i s) (F := F) (G := G) (N := N) (fun m s' _ => stop m s') (fun m s' i hi e => ⟨f i s', by subst e; rfl, step m s' i hi⟩) N 0 z_F s (by omega) (by omega) hN rfl
  obtain ⟨s', e, h⟩ := this
  rw [← e]
  exact h
/-- with something that stays so -/
theorem loop_foldI {σ β : Type} {F : Nat → σ → Nat → Option β} {G : σ → Option β} {N : Nat} {P : Nat → σ → Prop} (f : Nat → σ → σ) (stop : ∀ m s, P N s → F (m + 1) s N = G s) (step : ∀ m s i, i < N → P i s → P (i + 1) (f i s) ∧ F (m + 1) s i = F m (f i s) (i + 1)) (s : σ) (h0 : P 0 s) (hN : N < 1000000) : P N (foldN f N s) ∧ F z_F s 0 = G (foldN f N s) := by
  have := loop_up (I := fun i s' => s' = foldN f i s ∧ P i s') (F := F) (G := G) (N := N) (fun m s' e => stop m s' e.2) (fun m s' i hi e => ⟨f i s', ⟨by rw [e.1]; rfl, (step m s' i hi e.2).1⟩, (step m s' i hi e.2).2⟩) N 0 z_F s (by omega) (by omega) hN ⟨rfl, h0⟩
  obtain ⟨s', ⟨e, p⟩, h⟩ := this
  rw [← e]
  exact ⟨p, h⟩
theorem fold_inv {σ : Type} {f : Nat → σ → σ} {s : σ} (P : Nat → σ → Prop) (h0 : P 0 s) (N : Nat) (hs : ∀ i s, i < N → P i s → P (i + 1) (f i s)) : P N (foldN f N s) := by
  have : ∀ n, n ≤ N → P n (foldN f n s) := fun n => by
    induction n with
    | zero => intro _; exact h0
    | succ n ih => intro hn; exact hs n _ (by omega) (ih (by omega))
  exact this N (Nat.le_refl _)
theorem fold_rel {σ τ : Type} {f : Nat → σ → σ} {g : Nat → τ → τ} {s : σ} {t : τ} (R : Nat → σ → τ → Prop) (h0 : R 0 s t) (N : Nat) (hs : ∀ i s t, i < N → R i s t → R (i + 1) (f i s) (g i t)) : R N (foldN f N s) (foldN g N t) := by
  have : ∀ n, n ≤ N → R n (foldN f n s) (foldN g n t) := fun n => by
    induction n with
    | zero => intro _; exact h0
    | succ n ih => intro hn; exact hs n _ _ (by omega) (ih (by omega))
  exact this N (Nat.le_refl _)
theorem fold_congr {σ : Type} {f g : Nat → σ → σ} {s : σ} {N : Nat} (e : ∀ i s, i < N → f i s = g i s) : foldN f N s = foldN g N s :=
  fold_rel (fun _ a b => a = b) rfl N (fun i a b hi q => by rw [q, e i b hi])
theorem nle {a b : Nat} {c : Int32} (hc : c = Int32.ofNat b) (ha : a < 2 ^ 31) (hb : b < 2 ^ 31) : (c ≤ Int32.ofNat a) ↔ b ≤ a := by rw [hc]; exact nat_le hb ha
def absV (x : Int32) : Int32 := if 0 ≤ x then x else 0 - x
def differV (m : Nat → Int32) (p q : Nat) : Int32 := foldN (fun i s => s + absV (m (20 + 4 * p + i) - m (20 + 4 * q + i))) 4 0
section LK
variable {g : z_H} {m : Nat → Int32} {j : Nat} {h : z_H}
theorem c_differ (hs : Sh g) (Y : Yrel g 1 m) {p q : Nat} (hp : p < 6) (hq : q < 6) : D_X3_differ g (some 1) (Int32.ofNat p) (Int32.ofNat q) = some (differV m p q, g) := by
  have ha : isY 1 := Or.inl rfl
  unfold D_X3_differ
  refine loop_fold (F := fun n s i => D_X3_differ_5 n g (some 1) (Int32.ofNat p) (Int32.ofNat q) s (Int32.ofNat i)) (G := fun s => some (s, g)) (N := 4) (fun i s => s + absV (m (20 + 4 * p + i) - m (20 + 4 * q + i))) (fun n s => ?_) (fun n s i hi => ?_) 0 (by decide)
  · show D_X3_differ_5b _ g (some 1) (Int32.ofNat p) (Int32.ofNat q) s (Int32.ofNat 4) = _
    unfold D_X3_differ_5b
    rw [if_pos (by decide)]
  · show D_X3_differ_5b (D_X3_differ_5 n) g (some 1) (Int32.ofNat p) (Int32.ofNat q) s (Int32.ofNat i) = _
    unfold D_X3_differ_5b
    rw [if_neg (fun z => by have := (nat_le (a := 4) (b := i) (by decide) (by omega)).mp z; omega), (yR hs ha).1, Option.bind_some, wornC hs ha hp hi, Option.bind_some]
    dsimp only
    rw [(yR hs ha).1, Option.bind_some, wornC hs ha hq hi, Option.bind_some, Option.bind_some, Option.bind_some, Option.bind_some, ← (Y.worn hp hi).1, ← (Y.worn hq hi).1, show Int32.ofNat i + 1 = Int32.ofNat (i + 1) from sc_add i 1]
    rfl
theorem m_differ (hs : Sh g) {p q : Nat} (hp : p < 6) (hq : q < 6) : D_X11_differ g (some 81) (Int32.ofNat p) (Int32.ofNat q) = some (differV (aI g 83) p q, g) := by
  unfold D_X11_differ
  refine loop_fold (F := fun n s i => D_X11_differ_5 n g (some 81) (Int32.ofNat p) (Int32.ofNat q) s (Int32.ofNat i)) (G := fun s => some (s, g)) (N := 4) (fun i s => s + absV (aI g 83 (20 + 4 * p + i) - aI g 83 (20 + 4 * q + i))) (fun n s => ?_) (fun n s i hi => ?_) 0 (by decide)
  · show D_X11_differ_5b _ g (some 81) (Int32.ofNat p) (Int32.ofNat q) s (Int32.ofNat 4) = _
    unfold D_X11_differ_5b
    rw [if_pos (by decide)]
  · show D_X11_differ_5b (D_X11_differ_5 n) g (some 81) (Int32.ofNat p) (Int32.ofNat q) s (Int32.ofNat i) = _
    unfold D_X11_differ_5b
    rw [if_neg (fun z => by have := (nat_le (a := 4) (b := i) (by decide) (by omega)).mp z; omega), s_ob hs (ci := 11) rfl, Option.bind_some, wornM hs hp hi, Option.bind_some]
    dsimp only
    rw [s_ob hs (ci := 11) rfl, Option.bind_some, wornM hs hq hi, Option.bind_some, Option.bind_some]
    unfold absV D_X11_differ_42
    by_cases c : 0 ≤ aI g 83 (20 + 4 * p + i) - aI g 83 (20 + 4 * q + i)
    · rw [if_pos c, if_pos c, Option.bind_some, Option.bind_some, show Int32.ofNat i + 1 = Int32.ofNat (i + 1) from sc_add i 1]
    · rw [if_neg c, if_neg c, Option.bind_some, Option.bind_some, show Int32.ofNat i + 1 = Int32.ofNat (i + 1) from sc_add i 1, Int32.zero_sub]
theorem abs_nb {a b : Nat} (ha : a ≤ 99) (hb : b ≤ 99) : ∃ d, d ≤ 99 ∧ absV (Int32.ofNat a - Int32.ofNat b) = Int32.ofNat d := by
  unfold absV
  have ei : (Int32.ofNat a - Int32.ofNat b).toInt = (a : Int) - b := by
    have : Int32.ofNat a - Int32.ofNat b = Int32.ofInt ((a : Int) - b) := by
      rw [Int32.ofInt_sub]
      rfl
    rw [this, Int32.toInt_ofInt_of_le (by omega) (by omega)]
  rcases Nat.lt_or_ge a b with c | c
  · refine ⟨b - a, by omega, ?_⟩
    rw [if_neg (by rw [ge0, ei]; omega), Int32.zero_sub, Int32.neg_sub, sc_sub (by omega)]
  · refine ⟨a - b, by omega, ?_⟩
    rw [if_pos (by rw [ge0, ei]; omega), sc_sub c]
theorem differ_nb (R : RowB m) {p q : Nat} (hp : p < 6) (hq : q < 6) : ∃ d, d ≤ 396 ∧ differV m p q = Int32.ofNat d := by
  have := fold_inv (f := fun i s => s + absV (m (20 + 4 * p + i) - m (20 + 4 * q + i))) (s := (0 : Int32)) (fun i s => ∃ d, d ≤ 99 * i ∧ s = Int32.ofNat d) ⟨0, by omega, rfl⟩ 4 (fun i s hi ⟨d, hd, e⟩ => by
    obtain ⟨w, ew, hw⟩ := R.2.1 (4 * p + i) (by omega)
    obtain ⟨v, ev, hv⟩ := R.2.1 (4 * q + i) (by omega)
    rw [← Nat.add_assoc] at ew ev
    obtain ⟨c, hc, ec⟩ := abs_nb hw hv
    refine ⟨d + c, by omega, ?_⟩
    rw [ew, ev, ec, e, sc_add])
  obtain ⟨d, hd, e⟩ := this
  exact ⟨d, by omega, e⟩
/-- the likest: the class's best so far -/
def likeC (m : Nat → Int32) (p : Nat) (i : Nat) (s : Int32) : Int32 := if Int32.ofNat i = Int32.ofNat p then s else if s = -1 then Int32.ofNat i else if differV m p (tn s) ≤ differV m p i then s else Int32.ofNat i
def likeM (m : Nat → Int32) (p : Nat) (i : Nat) (s : Int32 × Int32) : Int32 × Int32 := if s.1 ≤ (if Int32.ofNat i = Int32.ofNat p then 100000000 else differV m p i) then s else ((if Int32.ofNat i = Int32.ofNat p then 100000000 else differV m p i), Int32.ofNat i)
theorem c_likest (hs : Sh g) (Y : Yrel g 1 m) {n p : Nat} (e1 : fI g 1 8 = Int32.ofNat n) (hn : n ≤ 6) (hp : p < n) (l0 : Option Nat) : D_X3_nearestTo g l0 (some 1) (Int32.ofNat p) = some (foldN (likeC m p) n (-1), g) := by
  have ha : isY 1 := Or.inl rfl
  unfold D_X3_nearestTo
  refine (loop_foldI (P := fun i s => s = -1 ∨ ∃ q, q < i ∧ s = Int32.ofNat q) (F := fun k s i => D_X3_nearestTo_5 k g (some 1) (Int32.ofNat p) s (Int32.ofNat i)) (G := fun s => some (s, g)) (N := n) (likeC m p) (fun k s _ => ?_) (fun k s i hi I => ?_) (-1) (Or.inl rfl) (by omega)).2
  · show D_X3_nearestTo_5b _ g (some 1) (Int32.ofNat p) s (Int32.ofNat n) = _
    unfold D_X3_nearestTo_5b
    rw [(yR hs ha).2.2.2.2.2.2.2.1, Option.bind_some, if_pos (by rw [e1]; exact (nat_le (by omega) (by omega)).mpr (by omega))]
  · have e0 : Int32.ofNat i + 1 = Int32.ofNat (i + 1) := sc_add i 1
    have st : D_X3_nearestTo_5 (k + 1) g (some 1) (Int32.ofNat p) s (Int32.ofNat i) = D_X3_nearestTo_5b (D_X3_nearestTo_5 k) g (some 1) (Int32.ofNat p) s (Int32.ofNat i) := rfl
    rw [st]
    unfold D_X3_nearestTo_5b likeC D_X3_nearestTo_41 D_X3_nearestTo_44
    rw [(yR hs ha).2.2.2.2.2.2.2.1, Option.bind_some, if_neg (show ¬ fI g 1 8 ≤ Int32.ofNat i from fun z => by rw [e1] at z; have := (nat_le (by omega) (by omega)).mp z; omega)]
    by_cases c1 : Int32.ofNat i = Int32.ofNat p
    · rw [if_pos c1, if_pos c1, Option.bind_some, e0]
      refine ⟨?_, rfl⟩
      rcases I with z | ⟨q, hq, z⟩
      · exact Or.inl z
      · exact Or.inr ⟨q, by omega, z⟩
    rw [if_neg c1, if_neg c1]
    by_cases c2 : s = -1
    · rw [if_pos c2, if_pos c2, Option.bind_some, e0]
      exact ⟨Or.inr ⟨i, by omega, rfl⟩, rfl⟩
    rw [if_neg c2, if_neg c2]
    obtain ⟨q, hq, es⟩ := I.resolve_left c2
    have ts : tn s = q := by rw [es]; exact tn_of (by omega)
    rw [ts, es, c_differ hs Y (by omega) (by omega), Option.bind_some]
    dsimp only
    rw [c_differ hs Y (by omega) (by omega), Option.bind_some]
    dsimp only
    by_cases c3 : differV m p q ≤ differV m p i
    · rw [if_pos c3, if_pos c3, Option.bind_some, e0]
      exact ⟨Or.inr ⟨q, by omega, rfl⟩, rfl⟩
    · rw [if_neg c3, if_neg c3, Option.bind_some, e0]
      exact ⟨Or.inr ⟨i, by omega, rfl⟩, rfl⟩
theorem m_likest (hs : Sh g) {n p : Nat} (e0 : aI g 83 0 = Int32.ofNat n) (hn : n ≤ 6) (hp : p < n) : D_X11_likest_24 z_F g (some 81) (Int32.ofNat p) 100000000 (-1) 0 = some ((foldN (likeM (aI g 83) p) n (100000000, -1)).2, g) := by
  have i0 : z_aI .int g (some 83) 0 = some (Int32.ofNat n) := by
    have := m83 (i := 0) hs (by decide)
    rw [e0] at this
    exact this
  refine loop_fold (F := fun k s i => D_X11_likest_24 k g (some 81) (Int32.ofNat p) s.1 s.2 (Int32.ofNat i)) (G := fun s => some (s.2, g)) (N := n) (likeM (aI g 83) p) (fun k s => ?_) (fun k s i hi => ?_) (100000000, -1) (by omega)
  · show D_X11_likest_24b _ g (some 81) (Int32.ofNat p) s.1 s.2 (Int32.ofNat n) = _
    unfold D_X11_likest_24b
    rw [s_gQ (r := 83) hs rfl rfl, Option.bind_some, i0, Option.bind_some, if_pos ((nat_le (by omega) (by omega)).mpr (by omega))]
  · show D_X11_likest_24b (D_X11_likest_24 k) g (some 81) (Int32.ofNat p) s.1 s.2 (Int32.ofNat i) = _
    have e1 : Int32.ofNat i + 1 = Int32.ofNat (i + 1) := sc_add i 1
    have h54 : ∀ v, D_X11_likest_54 (D_X11_likest_24 k) g (some 81) (Int32.ofNat p) s.1 s.2 (Int32.ofNat i) v = D_X11_likest_24 k g (some 81) (Int32.ofNat p) (if s.1 ≤ v then s else (v, Int32.ofNat i)).1 (if s.1 ≤ v then s else (v, Int32.ofNat i)).2 (Int32.ofNat (i + 1)) := fun v => by
      unfold D_X11_likest_54 D_X11_likest_68 D_X11_likest_81
      by_cases c : s.1 ≤ v
      · simp only [if_pos c, Option.bind_some, e1]
      · simp only [if_neg c, Option.bind_some, e1]
    unfold D_X11_likest_24b likeM
    rw [s_gQ (r := 83) hs rfl rfl, Option.bind_some, i0, Option.bind_some, if_neg (fun z => by have := (nat_le (by omega) (by omega)).mp z; omega)]
    by_cases c1 : Int32.ofNat i = Int32.ofNat p
    · rw [if_pos c1, if_pos c1, h54]
    · rw [if_neg c1, if_neg c1, s_ob hs (ci := 11) rfl, Option.bind_some, m_differ hs (by omega) (by omega), Option.bind_some]
      dsimp only
      rw [h54]
theorem like_same (R : RowB m) {n p : Nat} (hn : n ≤ 6) (hp : p < n) : foldN (likeC m p) n (-1) = (foldN (likeM m p) n (100000000, -1)).2 := by
  have := fold_rel (f := likeC m p) (g := likeM m p) (s := (-1 : Int32)) (t := ((100000000 : Int32), (-1 : Int32))) (fun i s t => s = t.2 ∧ ((s = -1 ∧ t.1 = 100000000) ∨ ∃ q, q < i ∧ s = Int32.ofNat q ∧ t.1 = differV m p q)) ⟨rfl, Or.inl ⟨rfl, rfl⟩⟩ n (fun i s t hi ⟨e, I⟩ => by
    obtain ⟨d, hd, ed⟩ := differ_nb R (p := p) (q := i) (by omega) (by omega)
    unfold likeC likeM
    by_cases c1 : Int32.ofNat i = Int32.ofNat p
    · rw [if_pos c1, if_pos c1]
      have le : t.1 ≤ 100000000 := by
        rcases I with ⟨-, z⟩ | ⟨q, hq, -, z⟩
        · rw [z]; decide
        · obtain ⟨d', hd', ed'⟩ := differ_nb R (p := p) (q := q) (by omega) (by omega)
          rw [z, ed']
          exact (nat_le (b := 100000000) (by omega) (by decide)).mpr (by omega)
      rw [if_pos le]
      refine ⟨e, ?_⟩
      rcases I with z | ⟨q, hq, z⟩
      · exact Or.inl z
      · exact Or.inr ⟨q, by omega, z⟩
    rw [if_neg c1, if_neg c1]
    rcases I with ⟨z1, z2⟩ | ⟨q, hq, z1, z2⟩
    · rw [if_pos z1, z2, if_neg (by rw [ed]; exact fun z => by have := (nat_le (a := 100000000) (b := d) (by decide) (by omega)).mp z; omega)]
      exact ⟨rfl, Or.inr ⟨i, by omega, rfl, rfl⟩⟩
    · have ts : tn s = q := by rw [z1]; exact tn_of (by omega)
      rw [if_neg (by rw [z1]; exact of_nm1 (by omega)), ts, z2]
      by_cases c3 : differV m p q ≤ differV m p i
      · rw [if_pos c3, if_pos c3]
        exact ⟨e, Or.inr ⟨q, by omega, z1, z2⟩⟩
      · rw [if_neg c3, if_neg c3]
        exact ⟨rfl, Or.inr ⟨i, by omega, rfl, rfl⟩⟩)
  exact this.1
theorem a_likest (H : Inv j h) (x : Int32) : Agree Inv j h (fun h => D_X10_likest h (some 0) x) (fun h => D_X11_likest h (some 81) x) := by
  have hs := H.1
  have st := Sh_t0 hs
  have ha : isY 1 := Or.inl rfl
  obtain ⟨n, hn, e1, e2⟩ := H.np
  have e2' : aI (t0 h) 83 0 = Int32.ofNat n := by rw [aI_wF]; exact e2
  have q0 : z_gQ 10 h (some 0) 0 = some (some 1) := s_gQ hs rfl rfl
  rcases xc x n (by omega) with ⟨p, hp, rfl⟩ | nx
  · refine none_q H (x := foldN (likeC (aI h 83) p) n (-1)) ?_ ?_
    · show D_X10_likest h (some 0) (Int32.ofNat p) = _
      unfold D_X10_likest
      rw [q0, Option.bind_some, (yR hs ha).1, Option.bind_some, hasP1 hs ha e1 (by omega) hp, Option.bind_some]
      dsimp only
      rw [if_neg one_ne, s_gQ (r := 59) hs rfl rfl, Option.bind_some, q0, Option.bind_some, s_ob hs (ci := 3) rfl, Option.bind_some, c_likest hs H.Y e1 hn hp, Option.bind_some]
    · show D_X11_likest h (some 81) (Int32.ofNat p) = _
      unfold D_X11_likest
      rw [p81 hs, Option.bind_some, s_ob st (ci := 11) rfl, Option.bind_some, isP1 st e2' hn hp, Option.bind_some]
      dsimp only
      rw [if_neg one_ne, m_likest st e2' hn hp, aI_wF, like_same H.Y.row hn hp]
  · refine none_q H (x := -1) ?_ ?_
    · show D_X10_likest h (some 0) x = _
      unfold D_X10_likest
      rw [q0, Option.bind_some, (yR hs ha).1, Option.bind_some, hasP0 hs ha e1 (by omega) nx, Option.bind_some]
      dsimp only
      rw [if_pos rfl]
    · show D_X11_likest h (some 81) x = _
      unfold D_X11_likest
      rw [p81 hs, Option.bind_some, s_ob st (ci := 11) rfl, Option.bind_some, isP0 st e2' hn nx, Option.bind_some]
      dsimp only
      rw [if_pos rfl]
end LK
