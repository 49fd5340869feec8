/-! the cells that are cut off: both rounds end at the same set -/
section CT
def besBits (r : Int32) : Int32 := (((r <<< ((5:Int32) &&& 31)) ||| (r >>> ((5:Int32) &&& 31))) ||| ((r &&& (-17318417:Int32)) <<< ((1:Int32) &&& 31))) ||| ((r &&& (-1082402:Int32)) >>> ((1:Int32) &&& 31))
def sRnd (op r : Int32) : Int32 := r ||| (op &&& besBits r)
def rAdd (op : Int32) (c d : Nat) (r : Int32) : Int32 := r ||| (if bes c d = -1 then 0 else op &&& ((1:Int32) <<< (bes c d &&& 31)))
def rCell (op : Int32) (c : Nat) (r : Int32) : Int32 := if bt r c = true then foldN (rAdd op c) 4 r else r
def rRnd (op r : Int32) : Int32 := foldN (rCell op) 25 r
/-- within 25 cells -/
def in25 (r : Int32) : Prop := ∀ i, 25 ≤ i → i < 32 → bt r i = false
def subB (a b : Int32) : Prop := ∀ i, i < 32 → bt a i = true → bt b i = true
def clsB (op s : Int32) : Prop := ∀ c d i, c < 25 → d < 4 → i < 25 → bes c d = Int32.ofNat i → bt s c = true → bt op i = true → bt s i = true
theorem bb_fw : (∀ i : Fin 25, 5 ≤ i.val → bes (i.val - 5) 0 = Int32.ofNat i.val) ∧ (∀ i : Fin 20, bes (i.val + 5) 2 = Int32.ofNat i.val) ∧ (∀ i : Fin 25, 1 ≤ i.val → bt (-17318417) (i.val - 1) = true → bes (i.val - 1) 1 = Int32.ofNat i.val) ∧ (∀ i : Fin 24, bt (-1082402) (i.val + 1) = true → bes (i.val + 1) 3 = Int32.ofNat i.val) := by decide +kernel
theorem bb_bw : ∀ c : Fin 25, ∀ d : Fin 4, ∀ i : Fin 25, bes c.val d.val = Int32.ofNat i.val → (5 ≤ i.val ∧ i.val - 5 = c.val) ∨ (5 + i.val = c.val) ∨ (1 ≤ i.val ∧ i.val - 1 = c.val ∧ bt (-17318417) c.val = true) ∨ (1 + i.val = c.val ∧ bt (-1082402) c.val = true) := by decide +kernel
theorem bb_at {r : Int32} (hr : in25 r) {i : Nat} (hi : i < 25) : bt (besBits r) i = true ↔ ∃ c d, c < 25 ∧ d < 4 ∧ bes c d = Int32.ofNat i ∧ bt r c = true := by
  have e : bt (besBits r) i = (((decide (5 ≤ i) && bt r (i - 5)) || bt r (5 + i) || (decide (1 ≤ i) && (bt r (i - 1) && bt (-17318417) (i - 1)))) || (bt r (1 + i) && bt (-1082402) (1 + i))) := by
    have s1 := b_shl 5 (by decide) r (show i < 32 by omega)
    have s2 := b_sshr 5 (by decide) r (show i < 32 by omega)
    have s3 := b_shl 1 (by decide) (r &&& (-17318417)) (show i < 32 by omega)
    have s4 := b_sshr 1 (by decide) (r &&& (-1082402)) (show i < 32 by omega)
    rw [if_pos (by omega)] at s2 s4
    rw [b_and] at s3 s4
    unfold besBits
    rw [b_or, b_or, b_or]
    exact congr (congrArg or (congr (congrArg or (congr (congrArg or s1) s2)) s3)) s4
  rw [e]
  obtain ⟨f0, f1, f2, f3⟩ := bb_fw
  constructor
  · intro q
    simp only [Bool.or_eq_true, Bool.and_eq_true, decide_eq_true_eq] at q
    rcases q with ((⟨a, b⟩ | b) | ⟨a, b, b'⟩) | ⟨b, b'⟩
    · exact ⟨i - 5, 0, by omega, by decide, f0 ⟨i, hi⟩ a, b⟩
    · have : i < 20 := by
        rcases Nat.lt_or_ge i 20 with z | z
        · exact z
        · rw [hr (5 + i) (by omega) (by omega)] at b; exact absurd b (by decide)
      refine ⟨i + 5, 2, by omega, by decide, f1 ⟨i, this⟩, ?_⟩
      rw [Nat.add_comm]; exact b
    · exact ⟨i - 1, 1, by omega, by decide, f2 ⟨i, hi⟩ a b', b⟩
    · have : i < 24 := by
        rcases Nat.lt_or_ge i 24 with z | z
        · exact z
        · rw [hr (1 + i) (by omega) (by omega)] at b; exact absurd b (by decide)
      rw [Nat.add_comm] at b b'
      exact ⟨i + 1, 3, by omega, by decide, f3 ⟨i, this⟩ b', b⟩
  · rintro ⟨c, d, hc, hd, eb, br⟩
    simp only [Bool.or_eq_true, Bool.and_eq_true, decide_eq_true_eq]
    rcases bb_bw ⟨c, hc⟩ ⟨d, hd⟩ ⟨i, hi⟩ eb with ⟨a, b⟩ | b | ⟨a, b, b'⟩ | ⟨b, b'⟩
    · dsimp only at a b
      exact Or.inl (Or.inl (Or.inl ⟨a, by rw [b]; exact br⟩))
    · dsimp only at b
      exact Or.inl (Or.inl (Or.inr (by rw [b]; exact br)))
    · dsimp only at a b b'
      exact Or.inl (Or.inr ⟨a, by rw [b]; exact br, by rw [b]; exact b'⟩)
    · dsimp only at b b'
      exact Or.inr ⟨by rw [b]; exact br, by rw [b]; exact b'⟩
variable {op : Int32}
theorem sR_at (ho : in25 op) {r : Int32} (hr : in25 r) {i : Nat} (hi : i < 32) : bt (sRnd op r) i = true ↔ bt r i = true ∨ (i < 25 ∧ bt op i = true ∧ ∃ c d, c < 25 ∧ d < 4 ∧ bes c d = Int32.ofNat i ∧ bt r c = true) := by
  unfold sRnd
  rw [b_or, b_and, Bool.or_eq_true, Bool.and_eq_true]
  constructor
  · rintro (q | ⟨q1, q2⟩)
    · exact Or.inl q
    · rcases Nat.lt_or_ge i 25 with z | z
      · exact Or.inr ⟨z, q1, (bb_at hr z).mp q2⟩
      · rw [ho i z hi] at q1; exact absurd q1 (by decide)
  · rintro (q | ⟨z, q1, q2⟩)
    · exact Or.inl q
    · exact Or.inr ⟨q1, (bb_at hr z).mpr q2⟩
theorem sR_in (ho : in25 op) {r : Int32} (hr : in25 r) : in25 (sRnd op r) := by
  intro i h1 h2
  unfold sRnd
  rw [b_or, b_and, hr i h1 h2, ho i h1 h2]
  rfl
theorem one_at {b i : Nat} (hb : b < 25) (hi : i < 32) : bt ((1 : Int32) <<< (Int32.ofNat b &&& 31)) i = decide (i = b) := by
  rw [b_shl b (by omega) 1 hi, b_1]
  by_cases q : b ≤ i
  · rw [decide_eq_true q, Bool.true_and]
    by_cases q2 : i = b
    · rw [decide_eq_true q2, decide_eq_true (by omega)]
    · rw [decide_eq_false q2, decide_eq_false (by omega)]
  · rw [decide_eq_false q, Bool.false_and, decide_eq_false (by omega)]
theorem ofN_inj {a b : Nat} (ha : a < 2 ^ 31) (hb : b < 2 ^ 31) (e : Int32.ofNat a = Int32.ofNat b) : a = b := by
  have := congrArg tn e
  rw [tn_of ha, tn_of hb] at this
  exact this
theorem rA_at {c d : Nat} (hc : c < 25) (hd : d < 4) {r : Int32} {i : Nat} (hi : i < 32) : bt (rAdd op c d r) i = true ↔ bt r i = true ∨ (i < 25 ∧ bt op i = true ∧ bes c d = Int32.ofNat i) := by
  unfold rAdd
  rw [b_or, Bool.or_eq_true]
  rcases bes_ok hc hd with q | ⟨b, hb, q⟩
  · rw [q, if_pos rfl, b_0]
    constructor
    · rintro (z | z)
      · exact Or.inl z
      · exact absurd z (by decide)
    · rintro (z | ⟨z, -, z2⟩)
      · exact Or.inl z
      · exact absurd z2.symm (of_nm1 (by omega))
  · rw [q, if_neg (of_nm1 (by omega)), b_and, one_at hb hi, Bool.and_eq_true, decide_eq_true_eq]
    constructor
    · rintro (z | ⟨z1, z2⟩)
      · exact Or.inl z
      · subst z2; exact Or.inr ⟨hb, z1, rfl⟩
    · rintro (z | ⟨z1, z2, z3⟩)
      · exact Or.inl z
      · exact Or.inr ⟨z2, (ofN_inj (by omega) (by omega) z3).symm⟩
/-- the reference stays inside a closed set -/
theorem rC_sub {C r : Int32} (cl : clsB op C) {c : Nat} (hc : c < 25) (s : subB r C) : subB (rCell op c r) C := by
  unfold rCell
  by_cases q : bt r c = true
  · rw [if_pos q]
    refine fold_inv (fun _ x => subB x C) s 4 (fun d x hd hx i hi z => ?_)
    rcases (rA_at hc hd hi).mp z with z | ⟨z1, z2, z3⟩
    · exact hx i hi z
    · exact cl c d i hc hd z1 z3 (s c (by omega) q) z2
  · rw [if_neg q]; exact s
theorem rR_sub {C r : Int32} (cl : clsB op C) (s : subB r C) : subB (rRnd op r) C := fold_inv (fun _ x => subB x C) s 25 (fun _ _ hc hx => rC_sub cl hc hx)
theorem rC_up {c : Nat} (hc : c < 25) (r : Int32) : subB r (rCell op c r) := by
  unfold rCell
  by_cases q : bt r c = true
  · rw [if_pos q]
    exact fold_inv (fun _ x => subB r x) (fun _ _ z => z) 4 (fun d x hd hx i hi z => (rA_at hc hd hi).mpr (Or.inl (hx i hi z)))
  · rw [if_neg q]; exact fun _ _ z => z
theorem rC_new {c d i : Nat} (hc : c < 25) (hd : d < 4) (hi : i < 25) {r : Int32} (q : bt r c = true) (e : bes c d = Int32.ofNat i) (ho : bt op i = true) : bt (rCell op c r) i = true := by
  unfold rCell
  rw [if_pos q]
  exact fold_inv (f := rAdd op c) (s := r) (fun n x => d < n → bt x i = true) (fun z => by omega) 4 (fun d' x hd' hx z => (rA_at hc hd' (by omega)).mpr (by
    by_cases w : d = d'
    · subst w; exact Or.inr ⟨hi, ho, e⟩
    · exact Or.inl (hx (by omega)))) hd
/-- and goes at least as far in a round -/
theorem rR_up (ho : in25 op) {s r : Int32} (hs : in25 s) (sr : subB s r) : subB (sRnd op s) (rRnd op r) := by
  have up : ∀ N, N ≤ 25 → subB r (foldN (rCell op) N r) ∧ ∀ c d i, c < N → d < 4 → i < 25 → bt r c = true → bes c d = Int32.ofNat i → bt op i = true → bt (foldN (rCell op) N r) i = true := fun N => by
    induction N with
    | zero => exact fun _ => ⟨fun _ _ z => z, fun _ _ _ z => by omega⟩
    | succ N ih =>
      intro hN
      obtain ⟨u1, u2⟩ := ih (by omega)
      refine ⟨fun i hi z => rC_up (by omega) _ i hi (u1 i hi z), fun c d i hc hd hi q e o => ?_⟩
      by_cases w : c = N
      · subst w; exact rC_new (by omega) hd hi (u1 _ (by omega) q) e o
      · exact rC_up (by omega) _ i (by omega) (u2 c d i (by omega) hd hi q e o)
  obtain ⟨u1, u2⟩ := up 25 (Nat.le_refl _)
  intro i hi z
  rcases (sR_at ho hs hi).mp z with z | ⟨z, o, c, d, hc, hd, e, q⟩
  · exact u1 i hi (sr i hi z)
  · exact u2 c d i hc hd z (sr c (by omega) q) e o
def cntB (x : Int32) (N : Nat) : Nat := foldN (fun i n => n + if bt x i = true then 1 else 0) N 0
theorem cntB_le (x : Int32) (N : Nat) : cntB x N ≤ N := fold_inv (fun n s => s ≤ n) (Nat.le_refl _) N (fun i s _ q => by split <;> omega)
theorem cntB_mono {x y : Int32} (s : subB x y) : ∀ N, N ≤ 32 → cntB x N ≤ cntB y N ∧ ∀ i, i < N → bt y i = true → bt x i = false → cntB x N < cntB y N := by
  intro N
  induction N with
  | zero => exact fun _ => ⟨Nat.le_refl _, fun i z => by omega⟩
  | succ N ih =>
    intro hN
    obtain ⟨a, b⟩ := ih (by omega)
    have ex : cntB x (N + 1) = cntB x N + if bt x N = true then 1 else 0 := rfl
    have ey : cntB y (N + 1) = cntB y N + if bt y N = true then 1 else 0 := rfl
    rw [ex, ey]
    have sN := s N (by omega)
    constructor
    · by_cases q : bt x N = true
      · rw [if_pos q, if_pos (sN q)]; omega
      · rw [if_neg q]; omega
    · intro i hi yi xi
      by_cases w : i = N
      · subst w
        rw [if_pos yi, if_neg (by rw [xi]; decide)]; omega
      · have := b i (by omega) yi xi
        by_cases q : bt x N = true
        · rw [if_pos q, if_pos (sN q)]; omega
        · rw [if_neg q]; omega
theorem sR_cls (ho : in25 op) {r : Int32} (hr : in25 r) : clsB op r ∨ cntB r 25 < cntB (sRnd op r) 25 := by
  by_cases q : clsB op r
  · exact Or.inl q
  · refine Or.inr ?_
    have : ∃ i, i < 25 ∧ bt (sRnd op r) i = true ∧ bt r i = false := by
      refine Classical.byContradiction fun no => q (fun c d i hc hd hi e b o => ?_)
      cases w : bt r i
      · exact absurd ⟨i, hi, (sR_at ho hr (by omega)).mpr (Or.inr ⟨hi, o, c, d, hc, hd, e, b⟩), w⟩ no
      · rfl
    obtain ⟨i, hi, a, b⟩ := this
    exact (cntB_mono (fun k hk z => (sR_at ho hr hk).mpr (Or.inl z)) 25 (by decide)).2 i hi a b
theorem sR_fix (ho : in25 op) {r : Int32} (hr : in25 r) (cl : clsB op r) : sRnd op r = r := by
  apply b_ext
  intro i hi
  apply Bool.eq_iff_iff.mpr
  rw [sR_at ho hr hi]
  constructor
  · rintro (q | ⟨z, o, c, d, hc, hd, e, q⟩)
    · exact q
    · exact cl c d i hc hd z e q o
  · exact Or.inl
theorem both_end (ho : in25 op) {r : Int32} (hr : in25 r) : foldN (fun _ => rRnd op) 25 r = foldN (fun _ => sRnd op) 25 r := by
  have st : ∀ n, in25 (foldN (fun _ => sRnd op) n r) ∧ (clsB op (foldN (fun _ => sRnd op) n r) ∨ n ≤ cntB (foldN (fun _ => sRnd op) n r) 25) := fun n => by
    induction n with
    | zero => exact ⟨hr, Or.inr (Nat.zero_le _)⟩
    | succ n ih =>
      refine ⟨sR_in ho ih.1, ?_⟩
      show clsB op (sRnd op (foldN (fun _ => sRnd op) n r)) ∨ n + 1 ≤ cntB (sRnd op (foldN (fun _ => sRnd op) n r)) 25
      rcases ih.2 with q | q
      · rw [sR_fix ho ih.1 q]; exact Or.inl q
      · rcases sR_cls ho ih.1 with w | w
        · rw [sR_fix ho ih.1 w]; exact Or.inl w
        · exact Or.inr (by omega)
  have cl : clsB op (foldN (fun _ => sRnd op) 25 r) := by
    rcases (st 25).2 with q | q
    · exact q
    · rcases sR_cls ho (st 25).1 with w | w
      · exact w
      · have := cntB_le (sRnd op (foldN (fun _ => sRnd op) 25 r)) 25
        omega
  have up : ∀ n, subB (foldN (fun _ => sRnd op) n r) (foldN (fun _ => rRnd op) n r) := fun n => by
    induction n with
    | zero => exact fun _ _ z => z
    | succ n ih => exact rR_up ho (st n).1 ih
  have mon : ∀ n m, subB (foldN (fun _ => sRnd op) n r) (foldN (fun _ => sRnd op) (n + m) r) := fun n m => by
    induction m with
    | zero => exact fun _ _ z => z
    | succ m ih => exact fun i hi z => (sR_at ho (st _).1 hi).mpr (Or.inl (ih i hi z))
  have dn : subB (foldN (fun _ => rRnd op) 25 r) (foldN (fun _ => sRnd op) 25 r) := fold_inv (fun _ x => subB x (foldN (fun _ => sRnd op) 25 r)) (mon 0 25) 25 (fun _ _ _ hx => rR_sub cl hx)
  apply b_ext
  intro i hi
  apply Bool.eq_iff_iff.mpr
  exact ⟨dn i hi, up 25 i hi⟩
end CT
section CT2
variable {g : z_H} {j : Nat} {h : z_H}
theorem d_is (those : Int32) {c : Nat} (hc : c < 31) : D_X11_is g those (Int32.ofNat c) = some (if bt those c = true then 1 else 0, g) := by
  unfold D_X11_is
  have := bit_is those hc
  by_cases q : bt those c = true
  · rw [if_pos (this.mpr q), if_pos q]
  · rw [if_neg (fun z => q (this.mp z)), if_neg q]
theorem c_cut (op r : Int32) : D_X10_cutOff_20 z_F g op r 0 = some (op &&& ((foldN (fun _ => sRnd op) 25 r) ^^^ (-1)), g) := by
  refine loop_fold (F := fun k v i => D_X10_cutOff_20 k g op v (Int32.ofNat i)) (G := fun v => some (op &&& (v ^^^ (-1)), g)) (N := 25) (fun _ => sRnd op) (fun k v => ?_) (fun k v i hi => ?_) r (by decide)
  · show D_X10_cutOff_20b _ g op v (Int32.ofNat 25) = _
    unfold D_X10_cutOff_20b
    rw [if_pos (by decide)]
  · show D_X10_cutOff_20b (D_X10_cutOff_20 k) g op v (Int32.ofNat i) = _
    unfold D_X10_cutOff_20b
    rw [if_neg (fun z => by have := (nat_le (a := 25) (b := i) (by decide) (by omega)).mp z; omega), Option.bind_some, Option.bind_some, Option.bind_some, show Int32.ofNat i + 1 = Int32.ofNat (i + 1) from sc_add i 1]
    rfl
theorem m_cutC (k24 : z_H → Int32 → Int32 → Int32 → Option (Int32 × z_H)) (k33 : z_H → Int32 → Int32 → Int32 → Int32 → Option (Int32 × z_H)) (op l3 : Int32) {c : Nat} (hc : c < 25) (r : Int32) : D_X11_cutOff_43 k24 k33 z_F g op r l3 (Int32.ofNat c) 0 = k33 g op (rCell op c r) l3 (Int32.ofNat (c + 1)) := by
  have e1 : Int32.ofNat c + 1 = Int32.ofNat (c + 1) := sc_add c 1
  by_cases q : bt r c = true
  · have := loop_foldI (F := fun k v d => D_X11_cutOff_43 k24 k33 k g op v l3 (Int32.ofNat c) (Int32.ofNat d)) (G := fun v => k33 g op v l3 (Int32.ofNat (c + 1))) (N := 4) (P := fun _ v => bt v c = true) (rAdd op c) (fun k v _ => ?_) (fun k v d hd hv => ⟨(rA_at hc hd (by omega)).mpr (Or.inl hv), ?_⟩) r q (by decide)
    · unfold rCell
      rw [if_pos q]
      exact this.2
    · show D_X11_cutOff_43b k24 k33 _ g op v l3 (Int32.ofNat c) (Int32.ofNat 4) = _
      unfold D_X11_cutOff_43b D_X11_cutOff_92
      rw [if_pos (by decide), Option.bind_some, e1]
    · show D_X11_cutOff_43b k24 k33 (D_X11_cutOff_43 k24 k33 k) g op v l3 (Int32.ofNat c) (Int32.ofNat d) = _
      unfold D_X11_cutOff_43b D_X11_cutOff_84
      rw [if_neg (fun z => by have := (nat_le (a := 4) (b := d) (by decide) (by omega)).mp z; omega), d_is v (by omega), Option.bind_some]
      dsimp only
      rw [if_pos hv, if_neg one_ne, m_beside hc hd, Option.bind_some]
      dsimp only
      unfold rAdd
      by_cases w : bes c d = -1
      · rw [if_pos w, if_pos w, Option.bind_some, Option.bind_some, show Int32.ofNat d + 1 = Int32.ofNat (d + 1) from sc_add d 1]
      · rw [if_neg w, if_neg w, Option.bind_some, Option.bind_some, show Int32.ofNat d + 1 = Int32.ofNat (d + 1) from sc_add d 1]
  · obtain ⟨z, hz⟩ : ∃ z, z_F = z + 1 := ⟨999999, rfl⟩
    unfold rCell
    rw [hz, if_neg q]
    show D_X11_cutOff_43b k24 k33 (D_X11_cutOff_43 k24 k33 z) g op r l3 (Int32.ofNat c) 0 = _
    unfold D_X11_cutOff_43b D_X11_cutOff_92
    rw [if_neg (by decide), d_is r (by omega), Option.bind_some]
    dsimp only
    rw [if_neg q, if_pos rfl, Option.bind_some, e1]
theorem m_cut (op r : Int32) : D_X11_cutOff_24 z_F g op r 0 = some (op &&& ((foldN (fun _ => rRnd op) 25 r) ^^^ (-1)), g) := by
  refine loop_fold (F := fun k v i => D_X11_cutOff_24 k g op v (Int32.ofNat i)) (G := fun v => some (op &&& (v ^^^ (-1)), g)) (N := 25) (fun _ => rRnd op) (fun k v => ?_) (fun k v i hi => ?_) r (by decide)
  · show D_X11_cutOff_24b _ g op v (Int32.ofNat 25) = _
    unfold D_X11_cutOff_24b
    rw [if_pos (by decide)]
  · show D_X11_cutOff_24b (D_X11_cutOff_24 k) g op v (Int32.ofNat i) = _
    unfold D_X11_cutOff_24b
    rw [if_neg (fun z => by have := (nat_le (a := 25) (b := i) (by decide) (by omega)).mp z; omega)]
    refine loop_fold (F := fun k' v c => D_X11_cutOff_33 (D_X11_cutOff_24 k) k' g op v (Int32.ofNat i) (Int32.ofNat c)) (G := fun v => D_X11_cutOff_24 k g op v (Int32.ofNat (i + 1))) (N := 25) (rCell op) (fun k' v => ?_) (fun k' v c hc => ?_) v (by decide)
    · show D_X11_cutOff_33b (D_X11_cutOff_24 k) _ g op v (Int32.ofNat i) (Int32.ofNat 25) = _
      unfold D_X11_cutOff_33b
      rw [if_pos (by decide), Option.bind_some, show Int32.ofNat i + 1 = Int32.ofNat (i + 1) from sc_add i 1]
    · show D_X11_cutOff_33b (D_X11_cutOff_24 k) (D_X11_cutOff_33 (D_X11_cutOff_24 k) k') g op v (Int32.ofNat i) (Int32.ofNat c) = _
      unfold D_X11_cutOff_33b
      rw [if_neg (fun z => by have := (nat_le (a := 25) (b := c) (by decide) (by omega)).mp z; omega), m_cutC _ _ op _ hc v]
theorem a_cutOff (H : Inv j h) : Agree Inv j h (fun h => D_X10_cutOff h (some 0)) (fun h => D_X11_cutOff h (some 81)) := by
  have hs := H.1
  have st := Sh_t0 hs
  obtain ⟨y1, ⟨w, ew, hw⟩, -⟩ := H.Y.1
  have Y := H.Y.2.1
  have c83 : aI (t0 h) 83 = aI h 83 := aI_wF _ _ _ _
  have r4 : z_aI .int (t0 h) (some 83) 4 = some (fI h 1 9) := by
    have := m83 (i := 4) st (by decide)
    rw [c83, Y.2.1] at this
    exact this
  have ho : in25 ((33554431:Int32) &&& (fI h 1 9 ^^^ (-1:Int32))) := by
    intro i h1 h2
    rw [b_and, (nb25 (x := 33554431)).mp ⟨33554431, rfl, by decide⟩ i h1 h2, Bool.false_and]
  have hr : in25 (((33554431:Int32) &&& (fI h 1 9 ^^^ (-1:Int32))) &&& 1) := by
    intro i h1 h2
    rw [b_and, ho i h1 h2, Bool.false_and]
  refine none_q H (x := ((33554431:Int32) &&& (fI h 1 9 ^^^ (-1:Int32))) &&& ((foldN (fun _ => sRnd ((33554431:Int32) &&& (fI h 1 9 ^^^ (-1:Int32)))) 25 (((33554431:Int32) &&& (fI h 1 9 ^^^ (-1:Int32))) &&& 1)) ^^^ (-1))) ?_ ?_
  · show D_X10_cutOff h (some 0) = _
    unfold D_X10_cutOff
    rw [s_gQ (r := 1) hs rfl rfl, Option.bind_some, s_gI hs (ci := 9) rfl rfl, Option.bind_some, Option.bind_some, Option.bind_some, c_cut]
  · show D_X11_cutOff h (some 81) = _
    unfold D_X11_cutOff
    rw [p81 hs, Option.bind_some, s_gQ (r := 83) st rfl rfl, Option.bind_some, r4, Option.bind_some, Option.bind_some, Option.bind_some, m_cut, both_end ho hr]
end CT2
