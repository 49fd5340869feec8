/-! how likely so few slip -/
def foldD {σ : Type} (f : Nat → σ → σ) : Nat → σ → σ
  | 0, s => s
  | n + 1, s => foldD f n (f n s)
def idx (n : Nat) : Int32 := if n = 0 then -1 else Int32.ofNat (n - 1)
theorem idx_s (n : Nat) : idx (n + 1) = Int32.ofNat n := by
  unfold idx
  rw [if_neg (by omega), Nat.add_sub_cancel]
theorem idx_d (n : Nat) : Int32.ofNat n + (-1) = idx n := by
  unfold idx
  by_cases c : n = 0
  · subst c; rw [if_pos rfl]; rfl
  · rw [if_neg c, ← sc_sub (show 1 ≤ n by omega)]
    rw [Int32.sub_eq_add_neg]
    rfl
theorem loop_down {σ β : Type} {F : Nat → σ → Int32 → Option β} {G : σ → Option β} (f : Nat → σ → σ) (stop : ∀ m s, F (m + 1) s (-1) = G s) {B : Nat} (step : ∀ m s i, i < B → F (m + 1) s (Int32.ofNat i) = F m (f i s) (Int32.ofNat i + (-1))) : ∀ (N m : Nat) (s : σ), N ≤ B → N < m → F m s (idx N) = G (foldD f N s) := by
  intro N
  induction N with
  | zero =>
    intro m s _ hm
    obtain ⟨m, rfl⟩ : ∃ m', m = m' + 1 := ⟨m - 1, by omega⟩
    exact stop m s
  | succ n ih =>
    intro m s hB hm
    obtain ⟨m, rfl⟩ : ∃ m', m = m' + 1 := ⟨m - 1, by omega⟩
    rw [idx_s, step m s n (by omega), idx_d]
    exact ih m (f n s) (by omega) (by omega)
section JA
variable {g : z_H} {a n : Nat}
theorem jR (hs : Sh g) (sa : shpL[a]? = some (.inl (.long, n))) {i : Nat} (hi : i < n) (hn : n ≤ 2 ^ 31) : z_aJ g (some a) (Int32.ofNat i) = some (aJ g a i) := by
  rw [s_aJ hs sa, iR_ofNat hi hn]
theorem jW (hs : Sh g) (sa : shpL[a]? = some (.inl (.long, n))) {i : Nat} (hi : i < n) (hn : n ≤ 2 ^ 31) (x : Int64) : z_sJ g (some a) (Int32.ofNat i) x = some (wJ g a (vp_updL (aJ g a) i x)) := by
  rw [s_sJ hs sa, iW_ofNat hi hn, tn_of' (by omega)]
theorem aR (hs : Sh g) (sa : shpL[a]? = some (.inl (.int, n))) {i : Nat} (hi : i < n) (hn : n ≤ 2 ^ 31) : z_aI .int g (some a) (Int32.ofNat i) = some (aI g a i) := by
  rw [s_aI hs (Or.inl rfl) sa, iR_ofNat hi hn]
theorem aW (hs : Sh g) (sa : shpL[a]? = some (.inl (.int, n))) {i : Nat} (hi : i < n) (hn : n ≤ 2 ^ 31) (x : Int32) : z_sI g (some a) (Int32.ofNat i) x = some (wA g a (upd (aI g a) i x)) := by
  rw [s_sI hs sa, iW_ofNat hi hn, tn_of' (by omega)]
theorem isAJ_of (sa : shpL[a]? = some (.inl (.long, n))) : isAJ a = true := by unfold isAJ; rw [sa]
theorem wJ_self (hs : Sh g) (sa : shpL[a]? = some (.inl (.long, n))) : wJ g a (aJ g a) = g := by
  have hx := hs.2 a _ sa
  unfold wJ z_up
  rw [hx]
  refine Prod.ext rfl (Prod.ext rfl ?_)
  funext q
  by_cases hq : q = a
  · subst hq; simp [hx, canon]
  · simp [hq]
theorem updL_eq {f : Nat → Int64} {k : Nat} {x : Int64} : vp_updL f k x k = x := by unfold vp_updL; rw [if_pos rfl]
theorem updL_ne {f : Nat → Int64} {k i : Nat} {x : Int64} (e : i ≠ k) : vp_updL f k x i = f i := by unfold vp_updL; rw [if_neg e]
/-- Arrays.fill of longs -/
theorem d_fillJ (hs : Sh g) (sa : shpL[a]? = some (.inl (.long, n))) (hn : n < 1000000) (v : Int64) : ∃ f, (∀ i, i < n → f i = v) ∧ D_J7_fill_d0a16 g (some a) v = some (wJ g a f) := by
  have ia := isAJ_of sa
  have lp := loop_up (β := z_H) (S := Nat → Int64) (N := n) (F := fun k f i => D_J7_fill_d0a16_6 k (wJ g a f) (some a) v (Int32.ofNat i) (Int32.ofNat n)) (G := fun f => some (wJ g a f)) (I := fun i f => ∀ q, q < i → f q = v)
    (fun k f _ => by
      show D_J7_fill_d0a16_6b _ (wJ g a f) (some a) v (Int32.ofNat n) (Int32.ofNat n) = _
      unfold D_J7_fill_d0a16_6b
      rw [if_pos (by rw [nat_le (by omega) (by omega)]; exact Nat.le_refl _)])
    (fun k f i hi I => by
      have s1 := Sh_wJ hs ia f
      refine ⟨vp_updL f i v, fun q hq => ?_, ?_⟩
      · by_cases e : q = i
        · rw [e, updL_eq]
        · rw [updL_ne e]; exact I q (by omega)
      · show D_J7_fill_d0a16_6b (D_J7_fill_d0a16_6 k) (wJ g a f) (some a) v (Int32.ofNat i) (Int32.ofNat n) = _
        unfold D_J7_fill_d0a16_6b
        rw [if_neg (by rw [nat_le (by omega) (by omega)]; omega), jW s1 sa hi (by omega), Option.bind_some, Option.bind_some, aJ_wJ_eq hs ia, wJ_wJ, show Int32.ofNat i + 1 = Int32.ofNat (i + 1) from sc_add i 1])
    n 0 z_F (aJ g a) (by omega) (by omega) hn (fun q hq => by omega)
  obtain ⟨f, hf, e⟩ := lp
  refine ⟨f, hf, ?_⟩
  unfold D_J7_fill_d0a16
  rw [s_lJ hs sa, Option.bind_some]
  rw [wJ_self hs sa] at e
  exact e
end JA
def slC (s : Int32) (j : Nat) (f : Nat → Int64) : Nat → Int64 := vp_updL f j (f j * (10 - s).toInt64 / 10 + (if j = 0 then 0 else f (j - 1) * s.toInt64 / 10))
def slM (s : Int32) (j : Nat) (f : Nat → Int64) : Nat → Int64 := vp_updL (vp_updL f j (f j * (10 - s).toInt64 / 10)) (j + 1) (f (j + 1) + f j * s.toInt64 / 10)
def slV (s : Int32) (f : Nat → Int64) (j : Nat) : Int64 := f j * (10 - s).toInt64 / 10 + (if j = 0 then 0 else f (j - 1) * s.toInt64 / 10)
theorem slC_all (s : Int32) : ∀ (n : Nat) (f : Nat → Int64) (j : Nat), foldD (slC s) n f j = if j < n then slV s f j else f j := by
  intro n
  induction n with
  | zero => intro f j; rw [if_neg (by omega)]; rfl
  | succ n ih =>
    intro f j
    show foldD (slC s) n (slC s n f) j = _
    rw [ih]
    by_cases c : j < n
    · rw [if_pos c, if_pos (by omega)]
      unfold slV slC
      rw [updL_ne (by omega)]
      by_cases c0 : j = 0
      · rw [if_pos c0, if_pos c0]
      · rw [if_neg c0, if_neg c0, updL_ne (by omega)]
    · rw [if_neg c]
      by_cases c1 : j = n
      · subst c1
        rw [if_pos (by omega)]
        unfold slC
        rw [updL_eq]
        rfl
      · rw [if_neg (by omega)]
        unfold slC
        rw [updL_ne c1]
theorem slM_all (s : Int32) : ∀ (n : Nat) (f : Nat → Int64) (j : Nat), foldD (slM s) n f j = if j < n then slV s f j else if j = n ∧ 0 < n then f n + f (n - 1) * s.toInt64 / 10 else f j := by
  intro n
  induction n with
  | zero => intro f j; rw [if_neg (by omega), if_neg (by omega)]; rfl
  | succ n ih =>
    intro f j
    show foldD (slM s) n (slM s n f) j = _
    rw [ih]
    by_cases c : j < n
    · rw [if_pos c, if_pos (by omega)]
      unfold slV slM
      rw [updL_ne (by omega), updL_ne (by omega)]
      by_cases c0 : j = 0
      · rw [if_pos c0, if_pos c0]
      · rw [if_neg c0, if_neg c0, updL_ne (by omega), updL_ne (by omega)]
    · rw [if_neg c]
      by_cases c1 : j = n
      · subst c1
        rw [if_pos (show j < j + 1 by omega)]
        unfold slV
        by_cases c0 : j = 0
        · rw [if_neg (by omega), if_pos c0, Int64.add_zero]
          unfold slM
          rw [updL_ne (by omega), updL_eq]
        · rw [if_pos ⟨rfl, by omega⟩, if_neg c0]
          unfold slM
          rw [updL_ne (by omega), updL_eq, updL_ne (by omega), updL_ne (by omega)]
      · rw [if_neg (fun z => c1 z.1), if_neg (by omega)]
        by_cases c2 : j = n + 1
        · rw [if_pos ⟨c2, by omega⟩]
          unfold slM
          rw [c2, updL_eq, Nat.add_sub_cancel]
        · rw [if_neg (fun z => c2 z.1)]
          unfold slM
          rw [updL_ne (by omega), updL_ne (by omega)]
def sumJ (f : Nat → Int64) (k : Nat) : Int64 := foldN (fun i s => s + f i) k 0
theorem sumJ_congr {f f' : Nat → Int64} {k : Nat} (e : ∀ i, i < k → f i = f' i) : sumJ f k = sumJ f' k := fold_congr (fun i s hi => by rw [e i hi])
section FW
variable {g : z_H} {j : Nat} {h : z_H}
theorem q58 (hs : Sh g) : z_gQ 6 g (some 53) 5 = some (some 58) := s_gQ hs rfl rfl
theorem q110 (hs : Sh g) : z_gQ 11 g (some 81) 49 = some (some 110) := s_gQ hs rfl rfl
/-- the class's passes -/
theorem c_fewL (hs : Sh g) {s : Int32} {k n : Nat} (hk : k ≤ 20) (h1 : 1 ≤ k) (hn : n ≤ 99) (f : Nat → Int64) : D_X6_fewSlip_20 z_F (wJ g 58 f) (some 53) s (Int32.ofNat k) (Int32.ofNat n) 0 = some (sumJ (foldN (fun _ f => foldD (slC s) k f) n f) k, wJ g 58 (foldN (fun _ f => foldD (slC s) k f) n f)) := by
  have hS : ∀ f, Sh (wJ g 58 f) := fun f => Sh_wJ hs rfl f
  have rd : ∀ f, aJ (wJ g 58 f) 58 = f := fun f => aJ_wJ_eq hs rfl f
  have sum : ∀ f, D_X6_fewSlip_104 z_F (wJ g 58 f) (some 53) (Int32.ofNat k) 0 0 = some (sumJ f k, wJ g 58 f) := fun f => by
    refine loop_fold (F := fun m a i => D_X6_fewSlip_104 m (wJ g 58 f) (some 53) (Int32.ofNat k) a (Int32.ofNat i)) (G := fun a => some (a, wJ g 58 f)) (N := k) (fun i a => a + f i) (fun m a => ?_) (fun m a i hi => ?_) 0 (by omega)
    · show D_X6_fewSlip_104b _ (wJ g 58 f) (some 53) (Int32.ofNat k) a (Int32.ofNat k) = _
      unfold D_X6_fewSlip_104b
      rw [if_pos (by rw [nat_le (by omega) (by omega)]; exact Nat.le_refl _)]
    · show D_X6_fewSlip_104b (D_X6_fewSlip_104 m) (wJ g 58 f) (some 53) (Int32.ofNat k) a (Int32.ofNat i) = _
      unfold D_X6_fewSlip_104b
      rw [if_neg (by rw [nat_le (by omega) (by omega)]; omega), q58 (hS f), Option.bind_some, jR (n := 20) (hS f) rfl (by omega) (by decide), Option.bind_some, Option.bind_some, Option.bind_some, rd, show Int32.ofNat i + 1 = Int32.ofNat (i + 1) from sc_add i 1]
  refine loop_fold (F := fun m f i => D_X6_fewSlip_20 m (wJ g 58 f) (some 53) s (Int32.ofNat k) (Int32.ofNat n) (Int32.ofNat i)) (G := fun f => some (sumJ f k, wJ g 58 f)) (N := n) (fun _ f => foldD (slC s) k f) (fun m f => ?_) (fun m f i hi => ?_) f (by omega)
  · show D_X6_fewSlip_20b _ (wJ g 58 f) (some 53) s (Int32.ofNat k) (Int32.ofNat n) (Int32.ofNat n) = _
    unfold D_X6_fewSlip_20b
    rw [if_pos (by rw [nat_le (by omega) (by omega)]; exact Nat.le_refl _), sum f]
  · show D_X6_fewSlip_20b (D_X6_fewSlip_20 m) (wJ g 58 f) (some 53) s (Int32.ofNat k) (Int32.ofNat n) (Int32.ofNat i) = _
    unfold D_X6_fewSlip_20b
    have e1 : Int32.ofNat k - 1 = idx k := by rw [Int32.sub_eq_add_neg]; exact idx_d k |>.trans (by
      obtain ⟨k, rfl⟩ : ∃ q, k = q + 1 := ⟨k - 1, by omega⟩
      rfl)
    rw [if_neg (by rw [nat_le (by omega) (by omega)]; omega), Option.bind_some, e1]
    refine loop_down (F := fun m' f l => D_X6_fewSlip_31 (D_X6_fewSlip_20 m) m' (wJ g 58 f) (some 53) s (Int32.ofNat k) (Int32.ofNat n) (Int32.ofNat i) l) (G := fun f => D_X6_fewSlip_20 m (wJ g 58 f) (some 53) s (Int32.ofNat k) (Int32.ofNat n) (Int32.ofNat (i + 1))) (B := 20) (slC s) (fun m' f => ?_) (fun m' f q hq => ?_) k z_F f hk (by show k < 1000000; omega)
    · show D_X6_fewSlip_31b (D_X6_fewSlip_20 m) _ (wJ g 58 f) (some 53) s (Int32.ofNat k) (Int32.ofNat n) (Int32.ofNat i) (-1) = _
      unfold D_X6_fewSlip_31b
      rw [if_pos (by decide), Option.bind_some, show Int32.ofNat i + 1 = Int32.ofNat (i + 1) from sc_add i 1]
    · show D_X6_fewSlip_31b (D_X6_fewSlip_20 m) (D_X6_fewSlip_31 (D_X6_fewSlip_20 m) m') (wJ g 58 f) (some 53) s (Int32.ofNat k) (Int32.ofNat n) (Int32.ofNat i) (Int32.ofNat q) = _
      unfold D_X6_fewSlip_31b D_X6_fewSlip_84 slC
      rw [if_neg (not_neg (by omega)), q58 (hS f), Option.bind_some, Option.bind_some, jR (n := 20) (hS f) rfl hq (by decide), Option.bind_some, rd]
      have le0 : (Int32.ofNat q ≤ 0) ↔ q = 0 := by
        have := nat_le (a := q) (b := 0) (by omega) (by decide)
        rw [show (0 : Int32) = Int32.ofNat 0 from rfl, this]
        omega
      by_cases c : q = 0
      · rw [if_pos (le0.mpr c), if_pos c, jW (n := 20) (hS f) rfl hq (by decide), Option.bind_some, Option.bind_some, wJ_wJ, rd]
      · rw [if_neg (fun z => c (le0.mp z)), if_neg c, Option.bind_some, show Int32.ofNat q - 1 = Int32.ofNat (q - 1) from sc_sub (k := 1) (by omega), jR (n := 20) (hS f) rfl (by omega) (by decide), Option.bind_some, rd, jW (n := 20) (hS f) rfl hq (by decide), Option.bind_some, Option.bind_some, wJ_wJ, rd]
theorem m_fewL (hs : Sh g) {s : Int32} {k n : Nat} (hk : k ≤ 20) (h1 : 1 ≤ k) (hn : n ≤ 99) (f : Nat → Int64) : D_X11_few_75 z_F (wJ g 110 f) (some 81) (Int32.ofNat k) (Int32.ofNat n) s 0 = some (sumJ (foldN (fun _ f => foldD (slM s) k f) n f) k, wJ g 110 (foldN (fun _ f => foldD (slM s) k f) n f)) := by
  have hS : ∀ f, Sh (wJ g 110 f) := fun f => Sh_wJ hs rfl f
  have rd : ∀ f, aJ (wJ g 110 f) 110 = f := fun f => aJ_wJ_eq hs rfl f
  have sum : ∀ f, D_X11_few_158 z_F (wJ g 110 f) (some 81) (Int32.ofNat k) 0 0 = some (sumJ f k, wJ g 110 f) := fun f => by
    refine loop_fold (F := fun m a i => D_X11_few_158 m (wJ g 110 f) (some 81) (Int32.ofNat k) a (Int32.ofNat i)) (G := fun a => some (a, wJ g 110 f)) (N := k) (fun i a => a + f i) (fun m a => ?_) (fun m a i hi => ?_) 0 (by omega)
    · show D_X11_few_158b _ (wJ g 110 f) (some 81) (Int32.ofNat k) a (Int32.ofNat k) = _
      unfold D_X11_few_158b
      rw [if_pos (by rw [nat_le (by omega) (by omega)]; exact Nat.le_refl _)]
    · show D_X11_few_158b (D_X11_few_158 m) (wJ g 110 f) (some 81) (Int32.ofNat k) a (Int32.ofNat i) = _
      unfold D_X11_few_158b
      rw [if_neg (by rw [nat_le (by omega) (by omega)]; omega), q110 (hS f), Option.bind_some, jR (n := 21) (hS f) rfl (by omega) (by decide), Option.bind_some, Option.bind_some, Option.bind_some, rd, show Int32.ofNat i + 1 = Int32.ofNat (i + 1) from sc_add i 1]
  refine loop_fold (F := fun m f i => D_X11_few_75 m (wJ g 110 f) (some 81) (Int32.ofNat k) (Int32.ofNat n) s (Int32.ofNat i)) (G := fun f => some (sumJ f k, wJ g 110 f)) (N := n) (fun _ f => foldD (slM s) k f) (fun m f => ?_) (fun m f i hi => ?_) f (by omega)
  · show D_X11_few_75b _ (wJ g 110 f) (some 81) (Int32.ofNat k) (Int32.ofNat n) s (Int32.ofNat n) = _
    unfold D_X11_few_75b
    rw [if_pos (by rw [nat_le (by omega) (by omega)]; exact Nat.le_refl _), sum f]
  · show D_X11_few_75b (D_X11_few_75 m) (wJ g 110 f) (some 81) (Int32.ofNat k) (Int32.ofNat n) s (Int32.ofNat i) = _
    unfold D_X11_few_75b
    have e1 : Int32.ofNat k - 1 = idx k := by rw [Int32.sub_eq_add_neg]; exact idx_d k |>.trans (by
      obtain ⟨k, rfl⟩ : ∃ q, k = q + 1 := ⟨k - 1, by omega⟩
      rfl)
    rw [if_neg (by rw [nat_le (by omega) (by omega)]; omega), Option.bind_some, e1]
    refine loop_down (F := fun m' f l => D_X11_few_86 (D_X11_few_75 m) m' (wJ g 110 f) (some 81) (Int32.ofNat k) (Int32.ofNat n) s (Int32.ofNat i) l) (G := fun f => D_X11_few_75 m (wJ g 110 f) (some 81) (Int32.ofNat k) (Int32.ofNat n) s (Int32.ofNat (i + 1))) (B := 20) (slM s) (fun m' f => ?_) (fun m' f q hq => ?_) k z_F f hk (by show k < 1000000; omega)
    · show D_X11_few_86b (D_X11_few_75 m) _ (wJ g 110 f) (some 81) (Int32.ofNat k) (Int32.ofNat n) s (Int32.ofNat i) (-1) = _
      unfold D_X11_few_86b
      rw [if_pos (by decide), Option.bind_some, show Int32.ofNat i + 1 = Int32.ofNat (i + 1) from sc_add i 1]
    · show D_X11_few_86b (D_X11_few_75 m) (D_X11_few_86 (D_X11_few_75 m) m') (wJ g 110 f) (some 81) (Int32.ofNat k) (Int32.ofNat n) s (Int32.ofNat i) (Int32.ofNat q) = _
      unfold D_X11_few_86b slM
      rw [if_neg (not_neg (by omega)), q110 (hS f), Option.bind_some, jR (n := 21) (hS f) rfl (by omega) (by decide), Option.bind_some, Option.bind_some, jW (n := 21) (hS f) rfl (by omega) (by decide), Option.bind_some, wJ_wJ, rd, q110 (hS _), Option.bind_some, show Int32.ofNat q + 1 = Int32.ofNat (q + 1) from sc_add q 1, jR (n := 21) (hS _) rfl (by omega) (by decide), Option.bind_some, rd, jW (n := 21) (hS _) rfl (by omega) (by decide), Option.bind_some, Option.bind_some, wJ_wJ, rd, updL_ne (by omega)]
theorem few_same (s : Int32) (k : Nat) (f f' : Nat → Int64) (n : Nat) (e : ∀ i, i < k → f i = f' i) : ∀ i, i < k → foldN (fun _ f => foldD (slC s) k f) n f i = foldN (fun _ f => foldD (slM s) k f) n f' i := by
  have := fold_rel (f := fun _ f => foldD (slC s) k f) (g := fun _ f => foldD (slM s) k f) (s := f) (t := f') (fun _ a b => ∀ i, i < k → a i = b i) e n (fun q a b hq I i hi => by
    rw [slC_all, slM_all, if_pos hi, if_pos hi]
    unfold slV
    rw [I i hi]
    by_cases c : i = 0
    · rw [if_pos c, if_pos c]
    · rw [if_neg c, if_neg c, I (i - 1) (by omega)])
  exact this
theorem a_few (H : Inv j h) (x y : Int32) : Agree Inv j h (fun h => D_X10_few h (some 0) x y) (fun h => D_X11_few h (some 81) x y) := by
  have hs := H.1
  have st := Sh_t0 hs
  have ok : (∃ k n, k ≤ 20 ∧ 1 ≤ k ∧ n ≤ 99 ∧ x = Int32.ofNat k ∧ y = Int32.ofNat n) ∨ ¬ ((1 ≤ x.toInt ∧ x.toInt ≤ 20) ∧ (0 ≤ y.toInt ∧ y.toInt ≤ 99)) := by
    by_cases c : (1 ≤ x.toInt ∧ x.toInt ≤ 20) ∧ (0 ≤ y.toInt ∧ y.toInt ≤ 99)
    · obtain ⟨k, ex, ek, -⟩ := nat_of (x := x) (by omega)
      obtain ⟨n, ey, en, -⟩ := nat_of (x := y) (by omega)
      exact Or.inl ⟨k, n, by omega, by omega, by omega, ex, ey⟩
    · exact Or.inr c
  rcases ok with ⟨k, n, hk, h1, hn, rfl, rfl⟩ | no
  · have s6 : aI h 83 6 = aI h 6 1 := H.Y.2.1.2.2.2.2.2.2.2 1 (by decide)
    obtain ⟨f0, hf0, ef0⟩ := d_fillJ hs (a := 58) (n := 20) rfl (by decide) 0
    have sA : ∀ f, Sh (wJ h 58 f) := fun f => Sh_wJ hs rfl f
    have cl := c_fewL hs (s := aI h 6 1) hk h1 hn (vp_updL f0 0 1000000000000)
    have eA : D_X10_few h (some 0) (Int32.ofNat k) (Int32.ofNat n) = some (sumJ (foldN (fun _ f => foldD (slC (aI h 6 1)) k f) n (vp_updL f0 0 1000000000000)) k, wJ h 58 (foldN (fun _ f => foldD (slC (aI h 6 1)) k f) n (vp_updL f0 0 1000000000000))) := by
      have r6 : z_aI .int h (some 6) 1 = some (aI h 6 1) := aR (n := 3) (i := 1) hs rfl (by decide) (by decide)
      have w0 : z_sJ (wJ h 58 f0) (some 58) 0 1000000000000 = some (wJ h 58 (vp_updL f0 0 1000000000000)) := by
        have := jW (n := 20) (i := 0) (sA f0) (a := 58) rfl (by decide) (by decide) 1000000000000
        rw [aJ_wJ_eq hs rfl, wJ_wJ] at this
        exact this
      unfold D_X10_few D_X6_fewSlip
      rw [if_neg (show ¬ Int32.ofNat k < 1 from fun z => by have := (nat_lt (a := k) (b := 1) (by omega) (by decide)).mp z; omega), if_neg (show ¬ (20 : Int32) < Int32.ofNat k from fun z => by have := (nat_lt (a := 20) (b := k) (by decide) (by omega)).mp z; omega), if_neg (not_neg (by omega)), if_pos (show Int32.ofNat n ≤ 99 from (nat_le (a := n) (b := 99) (by omega) (by decide)).mpr hn), s_gQ (r := 53) hs rfl rfl, Option.bind_some, s_gQ (r := 1) hs rfl rfl, Option.bind_some, s_gQ (r := 6) hs rfl rfl, Option.bind_some, r6, Option.bind_some, s_ob hs (ci := 6) rfl, Option.bind_some, q58 hs, Option.bind_some, ef0, Option.bind_some, q58 (sA f0), Option.bind_some, w0, Option.bind_some, cl, Option.bind_some]
    have T1 : Tch [58] h (wJ h 58 (foldN (fun _ f => foldD (slC (aI h 6 1)) k f) n (vp_updL f0 0 1000000000000))) := Tch_wJ (Tch_rfl _ h) (by decide) _
    have s1 := sA (foldN (fun _ f => foldD (slC (aI h 6 1)) k f) n (vp_updL f0 0 1000000000000))
    generalize wJ h 58 (foldN (fun _ f => foldD (slC (aI h 6 1)) k f) n (vp_updL f0 0 1000000000000)) = g1 at *
    have st1 := Sh_t0 s1
    have sB : ∀ f, Sh (wJ (t0 g1) 110 f) := fun f => Sh_wJ st1 rfl f
    have r6 : ∀ f, z_aI .int (wJ (t0 g1) 110 f) (some 83) 6 = some (aI h 6 1) := fun f => by
      have := m83 (i := 6) (sB f) (by decide)
      rw [aI_wJ, aI_wF, cell_aI (T1.c (by decide)), s6] at this
      exact this
    have il := loop_up (β := Int64 × z_H) (S := Nat → Int64) (N := 21) (F := fun m f i => D_X11_few_35 m (wJ (t0 g1) 110 f) (some 81) (Int32.ofNat k) (Int32.ofNat n) (Int32.ofNat i)) (G := fun f => D_X11_few_75 z_F (wJ (t0 g1) 110 f) (some 81) (Int32.ofNat k) (Int32.ofNat n) (aI h 6 1) 0) (I := fun i f => ∀ q, q < i → f q = if q = 0 then 1000000000000 else 0)
      (fun m f _ => by
        show D_X11_few_35b _ (wJ (t0 g1) 110 f) (some 81) (Int32.ofNat k) (Int32.ofNat n) (Int32.ofNat 21) = _
        unfold D_X11_few_35b
        rw [if_pos (by decide), s_gQ (r := 83) (sB f) rfl rfl, Option.bind_some, r6, Option.bind_some])
      (fun m f i hi I => by
        have st : ∀ v, D_X11_few_57 (D_X11_few_35 m) (wJ (t0 g1) 110 f) (some 81) (Int32.ofNat k) (Int32.ofNat n) (Int32.ofNat i) (some 110) (Int32.ofNat i) v = D_X11_few_35 m (wJ (t0 g1) 110 (vp_updL f i v)) (some 81) (Int32.ofNat k) (Int32.ofNat n) (Int32.ofNat (i + 1)) := fun v => by
          unfold D_X11_few_57
          rw [jW (n := 21) (sB f) rfl (by omega) (by decide), Option.bind_some, Option.bind_some, wJ_wJ, aJ_wJ_eq st1 rfl, show Int32.ofNat i + 1 = Int32.ofNat (i + 1) from sc_add i 1]
        refine ⟨vp_updL f i (if i = 0 then 1000000000000 else 0), fun q hq => ?_, ?_⟩
        · by_cases e : q = i
          · rw [e, updL_eq]
          · rw [updL_ne e]; exact I q (by omega)
        · show D_X11_few_35b (D_X11_few_35 m) (wJ (t0 g1) 110 f) (some 81) (Int32.ofNat k) (Int32.ofNat n) (Int32.ofNat i) = _
          unfold D_X11_few_35b
          rw [if_neg (show ¬ (21 : Int32) ≤ Int32.ofNat i from fun z => by have := (nat_le (a := 21) (b := i) (by decide) (by omega)).mp z; omega), q110 (sB f), Option.bind_some]
          by_cases c : i = 0
          · rw [if_pos (show Int32.ofNat i = 0 by rw [c]; rfl), if_pos c, st]
          · rw [if_neg (show ¬ Int32.ofNat i = 0 from fun z => c ((eq_lit (b := 0) (by omega) (by decide)).mp z)), if_neg c, st])
      21 0 z_F (aJ (t0 g1) 110) (by decide) (by decide) (by decide) (fun q hq => by omega)
    obtain ⟨f1, hf1, ef1⟩ := il
    rw [wJ_self st1 (a := 110) (n := 21) rfl, m_fewL st1 hk h1 hn f1] at ef1
    have same := few_same (aI h 6 1) k (vp_updL f0 0 1000000000000) f1 n (fun i hi => by
      rw [hf1 i (by omega)]
      by_cases c : i = 0
      · rw [c, updL_eq, if_pos rfl]
      · rw [updL_ne c, if_neg c]; exact hf0 i (by omega))
    have O : OnM [81, 110] [0] g1 (wJ (t0 g1) 110 (foldN (fun _ f => foldD (slM (aI h 6 1)) k f) n f1)) := ((t0_on s1).mono (by decide) (by decide)).trans ⟨sB _, Tch_wJ (Tch_rfl _ _) (by decide) _, fun _ _ => ⟨fI_wJ _ _ _ _, fJ_wJ _ _ _ _⟩⟩
    refine agree_q H eA (Same_T T1 s1 (by decide)) ?_ (Same_M O (by decide))
    show D_X11_few g1 (some 81) (Int32.ofNat k) (Int32.ofNat n) = _
    have w1 : ∀ q : Nat, q < 2 ^ 31 → (Int32.ofNat q).toInt64.toInt = q := fun q hq => by rw [wide, of_int hq]
    unfold D_X11_few
    rw [p81 s1, Option.bind_some, d_in_yes (by rw [w1 k (by omega)]; exact ⟨by show (1 : Int) ≤ k; omega, by show (k : Int) ≤ 20; omega⟩), Option.bind_some]
    dsimp only
    rw [if_neg one_ne, d_in_yes (by rw [w1 n (by omega)]; exact ⟨by show (0 : Int) ≤ n; omega, by show (n : Int) ≤ 99; omega⟩), Option.bind_some]
    dsimp only
    rw [if_neg one_ne]
    refine Eq.trans ef1 ?_
    rw [sumJ_congr same]
  · refine agree_q H (x := (-1 : Int64)) (h1 := h) (h2 := t0 h) ?_ (Same.rfl' hs) ?_ (Same_t0 hs)
    · show D_X10_few h (some 0) x y = _
      unfold D_X10_few
      by_cases c1 : x < 1
      · rw [if_pos c1]
      rw [if_neg c1]
      by_cases c2 : (20 : Int32) < x
      · rw [if_pos c2]
      rw [if_neg c2]
      by_cases c3 : y < 0
      · rw [if_pos c3]
      rw [if_neg c3]
      rw [Int32.lt_iff_toInt_lt] at c1 c2
      rw [lt0] at c3
      have e1 : (1 : Int32).toInt = 1 := by decide
      have e20 : (20 : Int32).toInt = 20 := by decide
      rw [if_neg (show ¬ y ≤ 99 from fun z => by
        rw [Int32.le_iff_toInt_le] at z
        have e99 : (99 : Int32).toInt = 99 := by decide
        omega)]
    · show D_X11_few h (some 81) x y = _
      unfold D_X11_few
      rw [p81 hs, Option.bind_some, d_in, Option.bind_some, wide]
      dsimp only
      by_cases c1 : (1 : Int64).toInt ≤ x.toInt ∧ x.toInt ≤ (20 : Int64).toInt
      · rw [if_pos c1, if_neg one_ne, d_in, Option.bind_some, wide]
        dsimp only
        rw [if_neg (show ¬ ((0 : Int64).toInt ≤ y.toInt ∧ y.toInt ≤ (99 : Int64).toInt) from fun z => no ⟨c1, z⟩), if_pos rfl]
      · rw [if_neg c1, if_pos rfl]
end FW
