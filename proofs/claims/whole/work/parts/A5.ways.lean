/-! the spec of ways -/
def wCell (tg : Nat → Option Nat) (c0 y0 s l r : Nat) (up lf old : Nat → Int64) : Nat → Int64 := if s = 0 then (fun c => if s = 0 ∧ l = 0 ∧ r = 0 ∧ c = c0 then 1 else (if l = 0 then 0 else up c) + (if r = 0 then 0 else lf c)) else foldN (wyf tg ((y0 + r + 3 * l) % 4) old) 25 (fun c => if s = 0 ∧ l = 0 ∧ r = 0 ∧ c = c0 then 1 else (if l = 0 then 0 else up c) + (if r = 0 then 0 else lf c))
def wRow (tg : Nat → Option Nat) (c0 y0 s l : Nat) (up old : Nat → Nat → Int64) : Nat → Nat → Int64
  | 0 => wCell tg c0 y0 s l 0 (up 0) (fun _ => 0) (old 0)
  | r + 1 => wCell tg c0 y0 s l (r + 1) (up (r + 1)) (wRow tg c0 y0 s l up old r) (old (r + 1))
def wTab (tg : Nat → Option Nat) (c0 y0 s : Nat) (old : Nat → Nat → Nat → Int64) : Nat → Nat → Nat → Int64
  | 0 => wRow tg c0 y0 s 0 (fun _ _ => 0) (old 0)
  | l + 1 => wRow tg c0 y0 s (l + 1) (wTab tg c0 y0 s old l) (old (l + 1))
def wW (tg : Nat → Option Nat) (c0 y0 : Nat) : Nat → Nat → Nat → Nat → Int64
  | 0 => wTab tg c0 y0 0 (fun _ _ _ => 0)
  | s + 1 => wTab tg c0 y0 (s + 1) (wW tg c0 y0 s)
section WS
variable {tg : Nat → Option Nat} {c0 y0 : Nat}
theorem wCell_cong {s l r : Nat} {up up' lf lf' old old' : Nat → Int64} (ok : tgOK tg) (e1 : l ≠ 0 → same25 up up') (e2 : r ≠ 0 → same25 lf lf') (e3 : s ≠ 0 → same25 old old') : same25 (wCell tg c0 y0 s l r up lf old) (wCell tg c0 y0 s l r up' lf' old') := by
  have b : same25 (fun c => if s = 0 ∧ l = 0 ∧ r = 0 ∧ c = c0 then (1 : Int64) else (if l = 0 then 0 else up c) + (if r = 0 then 0 else lf c)) (fun c => if s = 0 ∧ l = 0 ∧ r = 0 ∧ c = c0 then 1 else (if l = 0 then 0 else up' c) + (if r = 0 then 0 else lf' c)) := fun c hc => by
    dsimp only
    by_cases q : s = 0 ∧ l = 0 ∧ r = 0 ∧ c = c0
    · rw [if_pos q, if_pos q]
    rw [if_neg q, if_neg q]
    congr 1
    · by_cases q : l = 0
      · rw [if_pos q, if_pos q]
      · rw [if_neg q, if_neg q]; exact e1 q c hc
    · by_cases q : r = 0
      · rw [if_pos q, if_pos q]
      · rw [if_neg q, if_neg q]; exact e2 q c hc
  unfold wCell
  by_cases q : s = 0
  · rw [if_pos q, if_pos q]; exact b
  · rw [if_neg q, if_neg q]
    exact wy_same ok (Nat.mod_lt _ (by decide)) (e3 q) b
theorem s25 (f : Nat → Int64) : same25 f f := fun _ _ => rfl
theorem s25t {a b c : Nat → Int64} (h1 : same25 a b) (h2 : same25 b c) : same25 a c := fun q hq => (h1 q hq).trans (h2 q hq)
theorem wRow_eq (ok : tgOK tg) (s l : Nat) (up old : Nat → Nat → Int64) (r : Nat) : same25 (wRow tg c0 y0 s l up old r) (wCell tg c0 y0 s l r (up r) (wRow tg c0 y0 s l up old (r - 1)) (old r)) := by
  cases r with
  | zero =>
    show same25 (wCell tg c0 y0 s l 0 (up 0) (fun _ => 0) (old 0)) _
    exact wCell_cong ok (fun _ => s25 _) (fun z => absurd rfl z) (fun _ => s25 _)
  | succ r => exact s25 _
theorem wW_eq (ok : tgOK tg) (s l r : Nat) : same25 (wW tg c0 y0 s l r) (wCell tg c0 y0 s l r (wW tg c0 y0 s (l - 1) r) (wW tg c0 y0 s l (r - 1)) (wW tg c0 y0 (s - 1) l r)) := by
  cases s with
  | zero =>
    cases l with
    | zero =>
      have := wRow_eq (c0 := c0) (y0 := y0) ok 0 0 (fun _ _ => 0) (fun _ _ => 0) r
      refine s25t this ?_
      show same25 (wCell tg c0 y0 0 0 r (fun _ => 0) (wW tg c0 y0 0 0 (r - 1)) (fun _ => 0)) _
      exact wCell_cong ok (fun z => absurd rfl z) (fun _ => s25 _) (fun z => absurd rfl z)
    | succ l =>
      have := wRow_eq (c0 := c0) (y0 := y0) ok 0 (l + 1) (wW tg c0 y0 0 l) (fun _ _ => 0) r
      refine s25t this ?_
      show same25 (wCell tg c0 y0 0 (l + 1) r (wW tg c0 y0 0 l r) (wW tg c0 y0 0 (l + 1) (r - 1)) (fun _ => 0)) _
      exact wCell_cong ok (fun _ => s25 _) (fun _ => s25 _) (fun z => absurd rfl z)
  | succ s =>
    cases l with
    | zero =>
      have := wRow_eq (c0 := c0) (y0 := y0) ok (s + 1) 0 (fun _ _ => 0) (wW tg c0 y0 s 0) r
      refine s25t this ?_
      show same25 (wCell tg c0 y0 (s + 1) 0 r (fun _ => 0) (wW tg c0 y0 (s + 1) 0 (r - 1)) (wW tg c0 y0 s 0 r)) _
      exact wCell_cong ok (fun z => absurd rfl z) (fun _ => s25 _) (fun _ => s25 _)
    | succ l =>
      have := wRow_eq (c0 := c0) (y0 := y0) ok (s + 1) (l + 1) (wW tg c0 y0 (s + 1) l) (wW tg c0 y0 s (l + 1)) r
      refine s25t this ?_
      exact s25 _
/-- the class's table, behind some turns of the present number of steps -/
def TabC (tg : Nat → Option Nat) (c0 y0 : Nat) (R : Nat → Int64) (s l r : Nat) : Prop := ∀ l' r' c, l' ≤ 6 → r' ≤ 6 → c < 25 → ((l' < l ∨ (l' = l ∧ r' < r)) → R (hr l' r' + c) = wW tg c0 y0 s l' r' c) ∧ (¬ (l' < l ∨ (l' = l ∧ r' < r)) → 0 < s → R (hr l' r' + c) = wW tg c0 y0 (s - 1) l' r' c)
end WS
section WC
variable {g g1 : z_H} {tg : Nat → Option Nat} {c0 y0 : Nat}
/-- within bounds L, Rt: only those turns are counted -/
def TabB (tg : Nat → Option Nat) (c0 y0 L Rt : Nat) (R : Nat → Int64) (s l r : Nat) : Prop := ∀ l' r' c, l' ≤ L → r' ≤ Rt → c < 25 → ((l' < l ∨ (l' = l ∧ r' < r)) → R (hr l' r' + c) = wW tg c0 y0 s l' r' c) ∧ (¬ (l' < l ∨ (l' = l ∧ r' < r)) → 0 < s → R (hr l' r' + c) = wW tg c0 y0 (s - 1) l' r' c)
theorem c_gatT (hs : Sh g) (ok : tgOK tg) (al : ∀ k, k < 100 → aI g 47 k = enc (stN tg k)) {L Rt s l r : Nat} (hL : L ≤ 6) (hR : Rt ≤ 6) (hss : s ≤ 6) (hl : l ≤ L) (hrr : r ≤ Rt) (hc0 : c0 < 25) (hy0 : y0 < 4) (tb : TabB tg c0 y0 L Rt (aJ g 54) s l r) : ∃ g', Sh g' ∧ Tch [54, 55] g g' ∧ TabB tg c0 y0 L Rt (aJ g' 54) s l (r + 1) ∧ D_X6_gather g (some 53) (Int32.ofNat (4 * c0 + y0)) (Int32.ofNat s) (Int32.ofNat l) (Int32.ofNat r) = some g' := by
  obtain ⟨g', s', T', w1, w2, e⟩ := c_gather hs ok al (s := s) (l := l) (r := r) (y0 := y0) hss (by omega) (by omega) hc0 hy0
  refine ⟨g', s', T', fun l' r' c h1 h2 h3 => ?_, e⟩
  by_cases q : l' = l ∧ r' = r
  · obtain ⟨rfl, rfl⟩ := q
    refine ⟨fun _ => ?_, fun z => absurd (Or.inr ⟨rfl, by omega⟩) z⟩
    rw [w1 c h3, wW_eq ok s l' r' c h3]
    have e1 : gatV tg (aJ g 54) s l' r' c0 ((y0 + r' + 3 * l') % 4) = wCell tg c0 y0 s l' r' (fun c => aJ g 54 (hr (l' - 1) r' + c)) (fun c => aJ g 54 (hr l' (r' - 1) + c)) (fun c => aJ g 54 (hr l' r' + c)) := rfl
    rw [e1]
    refine wCell_cong ok (fun z c hc => ?_) (fun z c hc => ?_) (fun z c hc => ?_) c h3
    · exact (tb (l' - 1) r' c (by omega) h2 hc).1 (Or.inl (by omega))
    · exact (tb l' (r' - 1) c h1 (by omega) hc).1 (Or.inr ⟨rfl, by omega⟩)
    · exact (tb l' r' c h1 h2 hc).2 (by omega) (by omega)
  · have nq : ¬ (7 * l' + r' = 7 * l + r) := by omega
    have out : hr l' r' + c < hr l r ∨ hr l r + 25 ≤ hr l' r' + c := by unfold hr; omega
    rw [w2 _ out]
    obtain ⟨t1, t2⟩ := tb l' r' c h1 h2 h3
    exact ⟨fun z => t1 (by omega), fun z => t2 (by omega)⟩
theorem c_countWays (hs0 : Sh g) {m : Nat → Int32} (Y : Yrel g 1 m) {law : Option Nat} {T : LawT} {k : Int32} (dl : D_X9_lawInForce g (some 1) = some (law, g)) (lr : LawR g m k law T) {p S L Rt : Nat} (hp : p < 6) (e8 : m (8 + p) = Int32.ofNat c0) (hc0 : c0 < 25) (e14 : m (14 + p) = Int32.ofNat y0) (hy0 : y0 < 4) (hS : S ≤ 6) (hL : L ≤ 6) (hR : Rt ≤ 6) : ∃ g', Sh g' ∧ Tch [29, 30, 31, 47, 54, 55] g g' ∧ (∀ c, c < 25 → aJ g' 54 (hr L Rt + c) = wW (tgN T m p) c0 y0 S L Rt c) ∧ D_X6_countWays g (some 53) (some 1) (Int32.ofNat p) (Int32.ofNat S) (Int32.ofNat L) (Int32.ofNat Rt) = some g' := by
  have ha : isY 1 := Or.inl rfl
  have ok : tgOK (tgN T m p) := fun k b hk e => tgN_lt hk e
  obtain ⟨g1, s1, T1, al, d1⟩ := c_layOut hs0 Y dl lr hp
  have Y1 := Yrel_T Y T1 (isY_S ha (by decide)) (by decide)
  have lp := loop_up (β := z_H) (S := z_H) (N := S + 1) (F := fun k x s => D_X6_countWays_12 k x (some 53) (some 1) (Int32.ofNat p) (Int32.ofNat S) (Int32.ofNat L) (Int32.ofNat Rt) (Int32.ofNat s)) (G := fun x => some x) (I := fun s x => Sh x ∧ Tch [54, 55] g1 x ∧ TabB (tgN T m p) c0 y0 L Rt (aJ x 54) s 0 0)
    (fun k x _ => by
      show D_X6_countWays_12b _ x (some 53) (some 1) (Int32.ofNat p) (Int32.ofNat S) (Int32.ofNat L) (Int32.ofNat Rt) (Int32.ofNat (S + 1)) = _
      unfold D_X6_countWays_12b
      rw [if_pos (by rw [nat_lt (by omega) (by omega)]; omega)])
    (fun k x s hs I => by
      obtain ⟨sx, Tx, tx⟩ := I
      have lp2 := loop_up (β := z_H) (S := z_H) (N := L + 1) (F := fun k' x l => D_X6_countWays_21 (D_X6_countWays_12 k) k' x (some 53) (some 1) (Int32.ofNat p) (Int32.ofNat S) (Int32.ofNat L) (Int32.ofNat Rt) (Int32.ofNat s) (Int32.ofNat l)) (G := fun x => D_X6_countWays_12 k x (some 53) (some 1) (Int32.ofNat p) (Int32.ofNat S) (Int32.ofNat L) (Int32.ofNat Rt) (Int32.ofNat (s + 1))) (I := fun l x => Sh x ∧ Tch [54, 55] g1 x ∧ TabB (tgN T m p) c0 y0 L Rt (aJ x 54) s l 0)
        (fun k' x _ => by
          show D_X6_countWays_21b (D_X6_countWays_12 k) _ x (some 53) (some 1) (Int32.ofNat p) (Int32.ofNat S) (Int32.ofNat L) (Int32.ofNat Rt) (Int32.ofNat s) (Int32.ofNat (L + 1)) = _
          unfold D_X6_countWays_21b
          rw [if_pos (by rw [nat_lt (by omega) (by omega)]; omega), Option.bind_some, show Int32.ofNat s + 1 = Int32.ofNat (s + 1) from sc_add s 1])
        (fun k' x l hl I => by
          obtain ⟨sx, Tx, tx⟩ := I
          have lp3 := loop_up (β := z_H) (S := z_H) (N := Rt + 1) (F := fun k'' x r => D_X6_countWays_31 (D_X6_countWays_12 k) (D_X6_countWays_21 (D_X6_countWays_12 k) k') k'' x (some 53) (some 1) (Int32.ofNat p) (Int32.ofNat S) (Int32.ofNat L) (Int32.ofNat Rt) (Int32.ofNat s) (Int32.ofNat l) (Int32.ofNat r)) (G := fun x => D_X6_countWays_21 (D_X6_countWays_12 k) k' x (some 53) (some 1) (Int32.ofNat p) (Int32.ofNat S) (Int32.ofNat L) (Int32.ofNat Rt) (Int32.ofNat s) (Int32.ofNat (l + 1))) (I := fun r x => Sh x ∧ Tch [54, 55] g1 x ∧ TabB (tgN T m p) c0 y0 L Rt (aJ x 54) s l r)
            (fun k'' x _ => by
              show D_X6_countWays_31b (D_X6_countWays_12 k) (D_X6_countWays_21 (D_X6_countWays_12 k) k') _ x (some 53) (some 1) (Int32.ofNat p) (Int32.ofNat S) (Int32.ofNat L) (Int32.ofNat Rt) (Int32.ofNat s) (Int32.ofNat l) (Int32.ofNat (Rt + 1)) = _
              unfold D_X6_countWays_31b
              rw [if_pos (by rw [nat_lt (by omega) (by omega)]; omega), Option.bind_some, show Int32.ofNat l + 1 = Int32.ofNat (l + 1) from sc_add l 1])
            (fun k'' x r hr' I => by
              obtain ⟨sx, Tx, tx⟩ := I
              have Yx := Yrel_T Y1 Tx (isY_S ha (by decide)) (by decide)
              obtain ⟨c', y', -, -, m8, m14, a2, a3, -, -⟩ := Yx.at hp
              have pl := placeY sx ha hp (a2.trans (m8.symm.trans e8)) (a3.trans (m14.symm.trans e14))
              obtain ⟨x', s', T', t', e'⟩ := c_gatT sx ok (fun k hk => by rw [cell_aI (Tx.c (by decide))]; exact al k hk) hL hR (show s ≤ 6 by omega) (show l ≤ L by omega) (show r ≤ Rt by omega) hc0 hy0 tx
              refine ⟨x', ⟨s', Tx.trans T', t'⟩, ?_⟩
              show D_X6_countWays_31b (D_X6_countWays_12 k) (D_X6_countWays_21 (D_X6_countWays_12 k) k') (D_X6_countWays_31 (D_X6_countWays_12 k) (D_X6_countWays_21 (D_X6_countWays_12 k) k') k'') x (some 53) (some 1) (Int32.ofNat p) (Int32.ofNat S) (Int32.ofNat L) (Int32.ofNat Rt) (Int32.ofNat s) (Int32.ofNat l) (Int32.ofNat r) = _
              unfold D_X6_countWays_31b
              rw [if_neg (by rw [nat_lt (by omega) (by omega)]; omega), (yR sx ha).1, Option.bind_some, pl, Option.bind_some]
              dsimp only
              rw [s_ob sx (ci := 6) rfl, Option.bind_some, e', Option.bind_some, Option.bind_some, show Int32.ofNat r + 1 = Int32.ofNat (r + 1) from sc_add r 1])
            (Rt + 1) 0 z_F x (by omega) (by omega) (by show Rt + 1 < 1000000; omega) ⟨sx, Tx, tx⟩
          obtain ⟨x', ⟨s', T', t'⟩, e'⟩ := lp3
          refine ⟨x', ⟨s', T', fun l' r' c h1 h2 h3 => ?_⟩, ?_⟩
          · obtain ⟨u1, u2⟩ := t' l' r' c h1 h2 h3
            exact ⟨fun z => u1 (by omega), fun z => u2 (by omega)⟩
          · show D_X6_countWays_21b (D_X6_countWays_12 k) (D_X6_countWays_21 (D_X6_countWays_12 k) k') x (some 53) (some 1) (Int32.ofNat p) (Int32.ofNat S) (Int32.ofNat L) (Int32.ofNat Rt) (Int32.ofNat s) (Int32.ofNat l) = _
            unfold D_X6_countWays_21b
            rw [if_neg (by rw [nat_lt (by omega) (by omega)]; omega)]
            exact e')
        (L + 1) 0 z_F x (by omega) (by omega) (by show L + 1 < 1000000; omega) ⟨sx, Tx, tx⟩
      obtain ⟨x', ⟨s', T', t'⟩, e'⟩ := lp2
      refine ⟨x', ⟨s', T', fun l' r' c h1 h2 h3 => ?_⟩, ?_⟩
      · obtain ⟨u1, u2⟩ := t' l' r' c h1 h2 h3
        exact ⟨fun z => by omega, fun _ _ => by rw [Nat.add_sub_cancel]; exact u1 (by omega)⟩
      · show D_X6_countWays_12b (D_X6_countWays_12 k) x (some 53) (some 1) (Int32.ofNat p) (Int32.ofNat S) (Int32.ofNat L) (Int32.ofNat Rt) (Int32.ofNat s) = _
        unfold D_X6_countWays_12b
        rw [if_neg (by rw [nat_lt (by omega) (by omega)]; omega)]
        exact e')
    (S + 1) 0 z_F g1 (by omega) (by omega) (by show S + 1 < 1000000; omega) ⟨s1, Tch_rfl _ g1, fun l' r' c h1 h2 h3 => ⟨fun z => by omega, fun _ z => by omega⟩⟩
  obtain ⟨g', ⟨s', T', t'⟩, e'⟩ := lp
  refine ⟨g', s', (T1.mono (by decide)).trans (T'.mono (by decide)), fun c hc => ?_, ?_⟩
  · have := (t' L Rt c (Nat.le_refl _) (Nat.le_refl _) hc).2 (by omega) (by omega)
    rw [Nat.add_sub_cancel] at this
    exact this
  · unfold D_X6_countWays
    rw [s_gQ (r := 46) hs0 rfl rfl, Option.bind_some, s_ob hs0 (ci := 4) rfl, Option.bind_some, d1, Option.bind_some]
    exact e'
end WC
