/-! where one comes by chance -/
theorem s_cJ {h : z_H} (hs : Sh h) {a b n m : Nat} (ha : shpL[a]? = some (.inl (.long, n))) (hb : shpL[b]? = some (.inl (.long, m))) {sp dp k : Nat} (h1 : sp + k ≤ m) (h2 : dp + k ≤ n) (hm : m < 2 ^ 31) (hn : n < 2 ^ 31) : z_cJ h (some b) (Int32.ofNat sp) (some a) (Int32.ofNat dp) (Int32.ofNat k) = some (wJ h a (va_cpy (aJ h b) (aJ h a) sp dp k)) := by
  have e1 : (Int32.ofNat sp).toNatClampNeg = sp := tn_of (by omega)
  have e2 : (Int32.ofNat dp).toNatClampNeg = dp := tn_of (by omega)
  have e3 : (Int32.ofNat k).toNatClampNeg = k := tn_of (by omega)
  unfold z_cJ
  dsimp only
  rw [s_arJ hs hb, s_arJ hs ha, Option.bind_some, Option.bind_some, e1, e2, e3, if_neg]
  · unfold wJ
    have c := hs.2 a _ ha
    rw [c]
    rfl
  · rintro (q | q | q | q | q)
    · exact not_neg (by omega) q
    · exact not_neg (by omega) q
    · exact not_neg (by omega) q
    · exact absurd h1 (by dsimp only at q; omega)
    · exact absurd h2 (by dsimp only at q; omega)
def addN (G : Nat → Nat) (t v : Nat) : Nat → Nat := fun k => if k = t then G k + v else G k
def toN (tg : Nat → Option Nat) (k a : Nat) : Nat := (nxt tg k a).getD k
def spK (tg : Nat → Option Nat) (F : Nat → Nat) (k : Nat) (G : Nat → Nat) : Nat → Nat := foldN (fun a G => addN G (toN tg k a) (F k / 3)) 3 G
def spN (tg : Nat → Option Nat) (F : Nat → Nat) : Nat → Nat := foldN (spK tg F) 100 (fun _ => 0)
def sumN (F : Nat → Nat) (n : Nat) : Nat := foldN (fun i s => s + F i) n 0
theorem toN_lt {tg : Nat → Option Nat} (ok : tgOK tg) {k a : Nat} (hk : k < 100) : toN tg k a < 100 := by
  unfold toN
  cases e : nxt tg k a with
  | none => exact hk
  | some q => exact nxt_lt ok hk e
theorem sum_ge (F : Nat → Nat) : ∀ (n k : Nat), k < n → F k ≤ sumN F n := by
  intro n
  induction n with
  | zero => intro k hk; omega
  | succ n ih =>
    intro k hk
    show F k ≤ sumN F n + F n
    by_cases c : k = n
    · rw [c]; omega
    · have := ih k (by omega)
      omega
theorem sum_add (G : Nat → Nat) (t v : Nat) : ∀ n, sumN (addN G t v) n = sumN G n + (if t < n then v else 0) := by
  intro n
  induction n with
  | zero => rfl
  | succ n ih =>
    show sumN (addN G t v) n + addN G t v n = sumN G n + G n + _
    rw [ih]
    unfold addN
    by_cases c : n = t
    · rw [if_pos c, if_neg (by omega), if_pos (by omega)]; omega
    · rw [if_neg c]
      by_cases c2 : t < n
      · rw [if_pos c2, if_pos (by omega)]; omega
      · rw [if_neg c2, if_neg (by omega)]; omega
theorem spK_sum {tg : Nat → Option Nat} (ok : tgOK tg) (F G : Nat → Nat) {k : Nat} (hk : k < 100) : sumN (spK tg F k G) 100 = sumN G 100 + 3 * (F k / 3) := by
  have := fold_inv (f := fun a G => addN G (toN tg k a) (F k / 3)) (s := G) (fun a G' => sumN G' 100 = sumN G 100 + a * (F k / 3)) (by omega) 3 (fun a G' ha I => by
    rw [sum_add, if_pos (toN_lt ok hk), I, Nat.add_mul, Nat.one_mul]; omega)
  exact this
theorem spN_sum {tg : Nat → Option Nat} (ok : tgOK tg) (F : Nat → Nat) : sumN (spN tg F) 100 ≤ sumN F 100 := by
  have z : ∀ n, sumN (fun _ => 0) n = 0 := fun n => by
    induction n with
    | zero => rfl
    | succ n ih => show sumN (fun _ => 0) n + 0 = 0; rw [ih]
  have := fold_inv (f := spK tg F) (s := fun _ => 0) (fun i G => i ≤ 100 → sumN G 100 ≤ sumN F i) (fun _ => by rw [z]; exact Nat.zero_le _) 100 (fun i G hi I _ => by
    rw [spK_sum ok F G (by omega)]
    have := I (by omega)
    show _ ≤ sumN F i + F i
    omega)
  exact this (Nat.le_refl _)
def chN (tg : Nat → Option Nat) (s n : Nat) : Nat → Nat := foldN (fun _ F => spN tg F) n (fun k => if k = s then 1000000000000 else 0)
theorem chN_sum {tg : Nat → Option Nat} (ok : tgOK tg) {s : Nat} (n : Nat) : sumN (chN tg s n) 100 ≤ 1000000000000 := by
  refine fold_inv (f := fun _ F => spN tg F) (s := fun k => if k = s then 1000000000000 else 0) (fun _ F => sumN F 100 ≤ 1000000000000) ?_ n (fun i F hi I => Nat.le_trans (spN_sum ok F) I)
  have : ∀ n, sumN (fun k => if k = s then 1000000000000 else 0) n ≤ (if s < n then 1000000000000 else 0) := fun n => by
    induction n with
    | zero => exact Nat.zero_le _
    | succ n ih =>
      show sumN (fun k => if k = s then 1000000000000 else 0) n + (if n = s then 1000000000000 else 0) ≤ _
      by_cases c : n = s
      · rw [if_pos c]
        rw [if_neg (by omega)] at ih
        rw [if_pos (by omega)]
        omega
      · rw [if_neg c]
        by_cases c2 : s < n
        · rw [if_pos c2] at ih
          rw [if_pos (by omega)]
          omega
        · rw [if_neg c2] at ih
          rw [if_neg (by omega)]
          omega
  refine Nat.le_trans (this 100) ?_
  split <;> omega
theorem J_add (a b : Nat) : Int64.ofNat a + Int64.ofNat b = Int64.ofNat (a + b) := (Int64.ofNat_add a b).symm
theorem J_int {a : Nat} (h : a < 2 ^ 63) : (Int64.ofNat a).toInt = a := Int64.toInt_ofNat_of_lt h
theorem J_div3 {a : Nat} (h : a < 2 ^ 63) : Int64.ofNat a / 3 = Int64.ofNat (a / 3) := by
  apply Int64.toInt_inj.mp
  rw [Int64.toInt_div, J_int h, J_int (by omega)]
  show ((a : Int).tdiv 3).bmod (2 ^ 64) = _
  rw [Int.tdiv_eq_ediv_of_nonneg (by omega), Int.bmod_eq_of_le (by omega) (by omega)]
  omega
theorem J_pos {a : Nat} (h : a < 2 ^ 63) : (lg_cmp (Int64.ofNat a) 0 ≤ 0) ↔ a = 0 := by
  rw [lg_nonpos, J_int h]
  show ¬ (0 : Int) < a ↔ _
  omega
/-- a row of longs that are these numbers -/
def isJN (f : Nat → Int64) (G : Nat → Nat) : Prop := ∀ k, k < 100 → f k = Int64.ofNat (G k)
theorem isJN_add {f : Nat → Int64} {G : Nat → Nat} (H : isJN f G) {t v : Nat} (ht : t < 100) : isJN (vp_updL f t (f t + Int64.ofNat v)) (addN G t v) := fun k hk => by
  unfold addN
  by_cases c : k = t
  · subst c; rw [updL_eq, if_pos rfl, H k hk, J_add]
  · rw [updL_ne c, if_neg c]; exact H k hk
theorem addN_zero (G : Nat → Nat) (t : Nat) : addN G t 0 = G := by
  funext k
  unfold addN
  split <;> omega
