/-! years by draws, purely -/
def drN (d : Nat) : Nat := (d * 1103 + 12345) % 1000003
theorem drN_lt (d : Nat) : drN d < 1000003 := Nat.mod_lt _ (by decide)
def actOf (how : Nat) : Nat := if how < 2 then 0 else if how = 2 then 1 else 2
/-- one year: the row, the draw, the steps -/
def yrS (T : LawT) (n : Nat) (s : (Nat → Int32) × Nat × Nat) : (Nat → Int32) × Nat × Nat :=
  match actN T s.1 (actOf (drN (drN s.2.1) % 4)) (drN s.2.1 % n) (drN (drN (drN s.2.1)) % 2) with
  | none => (upd s.1 5 (s.1 5 + 1), drN (drN (drN s.2.1)), s.2.2)
  | some (_, m') => (upd m' 5 (m' 5 + 1), drN (drN (drN s.2.1)), if actOf (drN (drN s.2.1) % 4) = 0 then s.2.2 + 1 else s.2.2)
def yrs (T : LawT) (n : Nat) : Nat → (Nat → Int32) × Nat × Nat → (Nat → Int32) × Nat × Nat
  | 0, s => s
  | k + 1, s => if s.1 5 = 999 then s else yrs T n k (yrS T n s)
theorem actOf_lt (how : Nat) : actOf how < 3 := by
  unfold actOf
  split
  · decide
  · split <;> decide
theorem RowB_setPF {m : Nat → Int32} (R : RowB m) {p i : Nat} (hp : p < 6) (hi : i < 4) {v c y : Int32} (bv : nb v 99) (bc : nb c 24) (hy : nb y 3) : RowB (setPF m p i v c y) := by
  obtain ⟨r1, r2, r3, r4, r5, r6⟩ := R
  refine ⟨fun q hq => ?_, fun q hq => ?_, by rw [setPF_o (by omega) (by omega) (by omega)]; exact r3, by rw [setPF_o (by omega) (by omega) (by omega)]; exact r4, by rw [setPF_o (by omega) (by omega) (by omega)]; exact r5, by rw [setPF_o (by omega) (by omega) (by omega)]; exact r6⟩
  · obtain ⟨a, b, c'⟩ := r1 q hq
    refine ⟨?_, ?_, by rw [setPF_o (by omega) (by omega) (by omega)]; exact c'⟩
    · by_cases e : q = p
      · rw [e, setPF_c]; exact bc
      · rw [setPF_o (by omega) (by omega) (by omega)]; exact a
    · by_cases e : q = p
      · rw [e, setPF_y]; exact hy
      · rw [setPF_o (by omega) (by omega) (by omega)]; exact b
  · by_cases e : q = 4 * p + i
    · rw [e, ← Nat.add_assoc, setPF_v hp]; exact bv
    · rw [setPF_o (by omega) (by omega) (by omega)]; exact r2 q hq
/-- what an act leaves as it was -/
theorem act_row {T : LawT} {m : Nat → Int32} (R : RowB m) {act p q : Nat} (ha : act < 4) (hp : p < 6) (hq : act = 1 → q < 2) (hq3 : act = 3 → q < 4) {r : Int32} {m' : Nat → Int32} (e : actN T m act p q = some (r, m')) : RowB m' ∧ (∀ i, i < 8 ∨ 44 ≤ i → m' i = m i) ∧ ∃ v c y, m' = setPF m p (partN act q) v c y := by
  obtain ⟨⟨c, ec, hc⟩, ⟨y, ey, hy⟩, -⟩ := R.1 p hp
  have tc : tn (m (8 + p)) = c := by rw [ec]; exact tn_of (by omega)
  have ty : tn (m (14 + p)) = y := by rw [ey]; exact tn_of (by omega)
  have wn : ∀ i, i < 4 → nb (minV (m (20 + 4 * p + i) + wearsV T (WA m p (Int32.ofNat i) (m (20 + 4 * p + i)) c y))) 99 := fun i hi => by
    obtain ⟨w, ew, hw⟩ := R.2.1 (4 * p + i) (by omega)
    rw [← Nat.add_assoc] at ew
    obtain ⟨v, hv, ev⟩ := wears_nb T (WA m p (Int32.ofNat i) (m (20 + 4 * p + i)) c y)
    rw [ev, ew]
    exact minV_nb hw (by omega)
  have out : ∀ i v c y, i < 4 → ∀ k, k < 8 ∨ 44 ≤ k → setPF m p i v c y k = m k := fun i v c y hi k hk => setPF_o (by omega) (by omega) (by omega)
  have : act = 0 ∨ act = 1 ∨ act = 2 ∨ act = 3 := by omega
  unfold actN at e
  rw [tc, ty] at e
  rcases this with rfl | rfl | rfl | rfl
  · rw [if_pos rfl] at e
    split at e
    · cases e
    · rename_i z
      cases e
      obtain ⟨b, hb, eb⟩ := (targ_ok (T := T) (m := m) (p := p) (c := c) (y := y) (by omega) (by omega)).resolve_left z
      exact ⟨RowB_setPF R hp (by decide) (wn 0 (by decide)) ⟨b, eb, by omega⟩ ⟨y, ey, hy⟩, out 0 _ _ _ (by decide), _, _, _, rfl⟩
  · have h2 := hq rfl
    rw [if_neg (by decide), if_pos rfl] at e
    cases e
    exact ⟨RowB_setPF R hp (by omega) (wn (2 + q) (by omega)) ⟨c, ec, hc⟩ (by rw [ey]; exact trn_ok (by omega) _), out (2 + q) _ _ _ (by omega), _, _, _, rfl⟩
  · rw [if_neg (by decide), if_neg (by decide), if_pos rfl] at e
    cases e
    exact ⟨RowB_setPF R hp (by decide) (wn 1 (by decide)) ⟨c, ec, hc⟩ ⟨y, ey, hy⟩, out 1 _ _ _ (by decide), _, _, _, rfl⟩
  · have h4 := hq3 rfl
    rw [if_neg (by decide), if_neg (by decide), if_neg (by decide)] at e
    split at e
    · cases e
    · cases e
      obtain ⟨v, hv, ev⟩ := leaves_nb T (WA m p (Int32.ofNat q) (m (20 + 4 * p + q)) c y)
      exact ⟨RowB_setPF R hp h4 ⟨v, ev, hv⟩ ⟨c, ec, hc⟩ ⟨y, ey, hy⟩, out q _ _ _ h4, _, _, _, rfl⟩
theorem RowB_day {m : Nat → Int32} (R : RowB m) (h : ¬ m 5 = 999) : RowB (upd m 5 (m 5 + 1)) := by
  obtain ⟨r1, r2, ⟨d, ed, hd⟩, r4, r5, r6⟩ := R
  have : d < 999 := by
    rcases Nat.lt_or_ge d 999 with q | q
    · exact q
    · exact absurd (by rw [ed, show d = 999 by omega]; rfl) h
  refine ⟨fun q hq => ?_, fun q hq => by rw [upd_ne (by omega)]; exact r2 q hq, ⟨d + 1, by rw [upd_eq, ed]; exact sc_add d 1, by omega⟩, by rw [upd_ne (by omega)]; exact r4, by rw [upd_ne (by omega)]; exact r5, by rw [upd_ne (by omega)]; exact r6⟩
  rw [upd_ne (by omega), upd_ne (by omega), upd_ne (by omega)]
  exact r1 q hq
theorem yrS_ok {T : LawT} {n : Nat} (hn : 0 < n) (hn6 : n ≤ 6) {s : (Nat → Int32) × Nat × Nat} (R : RowB s.1) (h : ¬ s.1 5 = 999) : RowB (yrS T n s).1 ∧ (∀ i, i < 5 ∨ 44 ≤ i → (yrS T n s).1 i = s.1 i) ∧ (yrS T n s).2.1 < 1000003 := by
  have hp : drN s.2.1 % n < 6 := by have := Nat.mod_lt (drN s.2.1) hn; omega
  unfold yrS
  cases e : actN T s.1 (actOf (drN (drN s.2.1) % 4)) (drN s.2.1 % n) (drN (drN (drN s.2.1)) % 2) with
  | none => exact ⟨RowB_day R h, fun i hi => upd_ne (by omega), drN_lt _⟩
  | some rm =>
    obtain ⟨r, m'⟩ := rm
    have al := actOf_lt (drN (drN s.2.1) % 4)
    obtain ⟨R', o, -⟩ := act_row R (by omega) hp (fun _ => Nat.mod_lt _ (by decide)) (fun z => by omega) e
    have h5 : m' 5 = s.1 5 := o 5 (by decide)
    exact ⟨RowB_day R' (by rw [h5]; exact h), fun i hi => by show upd m' 5 _ i = _; rw [upd_ne (by omega)]; exact o i (by omega), drN_lt _⟩
theorem J_mul (a b : Nat) : Int64.ofNat a * Int64.ofNat b = Int64.ofNat (a * b) := (Int64.ofNat_mul a b).symm
theorem J_div {a b : Nat} (ha : a < 2 ^ 63) (hb : b < 2 ^ 63) (h0 : 0 < b) : Int64.ofNat a / Int64.ofNat b = Int64.ofNat (a / b) := by
  have q : a / b ≤ a := Nat.div_le_self _ _
  apply Int64.toInt_inj.mp
  rw [Int64.toInt_div, J_int ha, J_int hb, J_int (by omega)]
  rw [Int.tdiv_eq_ediv_of_nonneg (by omega)]
  have e : (a : Int) / (b : Int) = ((a / b : Nat) : Int) := rfl
  rw [e]
  generalize a / b = t at *
  exact Int.bmod_eq_of_le (by omega) (by omega)
theorem J_sub {a b : Nat} (h : b ≤ a) : Int64.ofNat a - Int64.ofNat b = Int64.ofNat (a - b) := by
  have : Int64.ofNat a = Int64.ofNat (a - b) + Int64.ofNat b := by rw [J_add]; congr 1; omega
  rw [this, Int64.add_sub_cancel]
theorem J_mod {a b : Nat} (ha : a < 2 ^ 63) (hb : b < 2 ^ 63) (h0 : 0 < b) : Int64.ofNat a - Int64.ofNat a / Int64.ofNat b * Int64.ofNat b = Int64.ofNat (a % b) := by
  rw [J_div ha hb h0, J_mul, J_sub (Nat.div_mul_le_self a b)]
  congr 1
  have := Nat.div_add_mod a b
  rw [Nat.mul_comm] at this
  omega
theorem J_of32 {a : Nat} (h : a < 2 ^ 31) : (Int32.ofNat a).toInt64 = Int64.ofNat a := by
  apply Int64.toInt_inj.mp
  rw [wide, of_int h, J_int (by omega)]
theorem J_to32 {a : Nat} (h : a < 2 ^ 31) : (Int64.ofNat a).toInt32 = Int32.ofNat a := by
  rw [← J_of32 h]
  exact Int32.toInt32_toInt64 _
theorem d_draw (g : z_H) {d : Nat} (hd : d < 1000003) : D_X10_drawBehind g (Int32.ofNat d) = some (Int32.ofNat (drN d), g) := by
  unfold D_X10_drawBehind
  have l := drN_lt d
  unfold drN at l ⊢
  rw [J_of32 (by omega), show (1103 : Int64) = Int64.ofNat 1103 from rfl, show (12345 : Int64) = Int64.ofNat 12345 from rfl, show (1000003 : Int64) = Int64.ofNat 1000003 from rfl, J_mul, J_add, J_mod (by omega) (by decide) (by decide), J_to32 (by omega)]
theorem m_draw {g : z_H} (hs : Sh g) {d n : Nat} (hd : d < 1000003) (e : fJ g 81 56 = Int64.ofNat d) (hn : 0 < n) (hn6 : n ≤ 6) : D_X11_draw g (some 81) (Int32.ofNat n) = some (Int32.ofNat (drN d % n), wF g 81 56 (.long (Int64.ofNat (drN d)))) := by
  have l := drN_lt d
  have lm : drN d % n < n := Nat.mod_lt _ hn
  have ed : (Int64.ofNat d * 1103 + 12345) - (Int64.ofNat d * 1103 + 12345) / 1000003 * 1000003 = Int64.ofNat (drN d) := by
    unfold drN
    rw [show (1103 : Int64) = Int64.ofNat 1103 from rfl, show (12345 : Int64) = Int64.ofNat 12345 from rfl, show (1000003 : Int64) = Int64.ofNat 1000003 from rfl, J_mul, J_add, J_mod (by omega) (by decide) (by decide)]
  have s1 : Sh (wF g 81 56 (.long (Int64.ofNat (drN d)))) := Sh_wFJ hs rfl _
  unfold D_X11_draw
  rw [s_gJ hs (ci := 11) rfl rfl, Option.bind_some, e, ed, s_pV hs (ci := 11) rfl (by decide), Option.bind_some, s_gJ s1 (ci := 11) rfl rfl, Option.bind_some, fJ_wF_eq hs rfl, J_of32 (by omega), if_neg, J_mod (by omega) (by omega) hn, J_to32 (by omega)]
  intro z
  have := congrArg Int64.toInt z
  rw [J_int (by omega)] at this
  have e0 : (0 : Int64).toInt = 0 := by decide
  omega
