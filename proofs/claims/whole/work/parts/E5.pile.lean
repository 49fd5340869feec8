/-! the reference's pile: pure, and in its cells -/
def bnd (o : Nat) : Nat := if 31 ≤ o then 0 else if o = 30 then 1 else if o = 29 then 2 else if o = 28 then 3 else if 25 ≤ o then 4 else if 22 ≤ o then 6 else 5
def flu (lv : Nat) : List (Nat × Nat) → Nat → (Nat → Int32) → (Nat → Int32) → List (Nat × Nat) × Nat × (Nat → Int32) × (Nat → Int32)
  | [], n, K, Ka => ([], n, K, Ka)
  | (o, a) :: r, n, K, Ka => if bnd o < lv then ((o, a) :: r, n, K, Ka) else if o = 29 ∨ o = 30 then flu lv r n K (upd Ka a (Int32.ofNat n)) else flu lv r (n + 1) (upd K n (Int32.ofNat o)) (upd Ka n 0)
def pend : List (Nat × Nat) → Nat
  | [] => 0
  | (o, _) :: r => (if 29 ≤ o then 0 else 1) + pend r
def pOK (n : Nat) : List (Nat × Nat) → Prop
  | [] => True
  | (o, a) :: r => (20 ≤ o ∧ o ≤ 32 ∧ ((o = 29 ∨ o = 30) → a < n)) ∧ pOK n r
def PileR (pl pa : Nat → Int32) : List (Nat × Nat) → Prop
  | [] => True
  | (o, a) :: r => pl r.length = Int32.ofNat o ∧ pa r.length = Int32.ofNat a ∧ PileR pl pa r
def inr : List (Nat × Nat) → Option Nat
  | [] => none
  | (o, _) :: r => if 31 ≤ o then some o else inr r
def cmpd : List (Nat × Nat) → Bool
  | [] => false
  | (o, _) :: r => if 20 ≤ o ∧ o ≤ 24 then cmpd r else decide (25 ≤ o ∧ o ≤ 27)
def topLt (lv : Nat) : List (Nat × Nat) → Prop
  | [] => True
  | (o, _) :: _ => bnd o < lv
theorem flu_id {lv n : Nat} {K Ka : Nat → Int32} {P : List (Nat × Nat)} (h : topLt lv P) : flu lv P n K Ka = (P, n, K, Ka) := by
  cases P with
  | nil => rfl
  | cons x r =>
    obtain ⟨o, a⟩ := x
    show (if bnd o < lv then _ else _) = _
    rw [if_pos (show bnd o < lv from h)]
theorem topLt_mono {lv lv' : Nat} {P : List (Nat × Nat)} (h : topLt lv P) (hl : lv ≤ lv') : topLt lv' P := by
  cases P with
  | nil => trivial
  | cons x r =>
    obtain ⟨o, a⟩ := x
    exact Nat.lt_of_lt_of_le h hl
theorem flu_flu {lv lv' : Nat} (hl : lv' ≤ lv) : ∀ (P : List (Nat × Nat)) (n : Nat) (K Ka : Nat → Int32), flu lv' (flu lv P n K Ka).1 (flu lv P n K Ka).2.1 (flu lv P n K Ka).2.2.1 (flu lv P n K Ka).2.2.2 = flu lv' P n K Ka := by
  intro P
  induction P with
  | nil => intro n K Ka; rfl
  | cons x r ih =>
    intro n K Ka
    obtain ⟨o, a⟩ := x
    by_cases c : bnd o < lv
    · have : flu lv ((o, a) :: r) n K Ka = ((o, a) :: r, n, K, Ka) := by
        show (if bnd o < lv then _ else _) = _
        rw [if_pos c]
      rw [this]
    · by_cases d : o = 29 ∨ o = 30
      · have e1 : flu lv ((o, a) :: r) n K Ka = flu lv r n K (upd Ka a (Int32.ofNat n)) := by
          show (if bnd o < lv then _ else _) = _
          rw [if_neg c, if_pos d]
        have e2 : flu lv' ((o, a) :: r) n K Ka = flu lv' r n K (upd Ka a (Int32.ofNat n)) := by
          show (if bnd o < lv' then _ else _) = _
          rw [if_neg (by omega), if_pos d]
        rw [e1, e2]; exact ih _ _ _
      · have e1 : flu lv ((o, a) :: r) n K Ka = flu lv r (n + 1) (upd K n (Int32.ofNat o)) (upd Ka n 0) := by
          show (if bnd o < lv then _ else _) = _
          rw [if_neg c, if_neg d]
        have e2 : flu lv' ((o, a) :: r) n K Ka = flu lv' r (n + 1) (upd K n (Int32.ofNat o)) (upd Ka n 0) := by
          show (if bnd o < lv' then _ else _) = _
          rw [if_neg (by omega), if_neg d]
        rw [e1, e2]; exact ih _ _ _
/-- flushed down to P by lv, then on by lv' -/
theorem flu_then {lv lv' nQ n : Nat} {KQ KaQ K Ka : Nat → Int32} {Q P : List (Nat × Nat)} (hl : lv' ≤ lv) (h : flu lv Q nQ KQ KaQ = (P, n, K, Ka)) : flu lv' Q nQ KQ KaQ = flu lv' P n K Ka := by
  rw [← flu_flu hl Q, h]
theorem flu_em {lv o a n : Nat} {K Ka : Nat → Int32} {P : List (Nat × Nat)} (h1 : ¬ bnd o < lv) (h2 : o < 29) : flu lv ((o, a) :: P) n K Ka = flu lv P (n + 1) (upd K n (Int32.ofNat o)) (upd Ka n 0) := by
  show (if bnd o < lv then _ else _) = _
  rw [if_neg h1, if_neg (by omega)]
theorem flu_ld {lv o a n : Nat} {K Ka : Nat → Int32} {P : List (Nat × Nat)} (h1 : ¬ bnd o < lv) (h2 : o = 29 ∨ o = 30) : flu lv ((o, a) :: P) n K Ka = flu lv P n K (upd Ka a (Int32.ofNat n)) := by
  show (if bnd o < lv then _ else _) = _
  rw [if_neg h1, if_pos h2]
theorem pOK_mono {n n' : Nat} (h : n ≤ n') : ∀ {P : List (Nat × Nat)}, pOK n P → pOK n' P := by
  intro P
  induction P with
  | nil => intro _; trivial
  | cons x r ih =>
    obtain ⟨o, a⟩ := x
    rintro ⟨⟨h1, h2, h3⟩, h4⟩
    exact ⟨⟨h1, h2, fun z => Nat.lt_of_lt_of_le (h3 z) h⟩, ih h4⟩
theorem PileR_upd {pl pa : Nat → Int32} {x y : Int32} {i : Nat} : ∀ {P : List (Nat × Nat)}, P.length ≤ i → PileR pl pa P → PileR (upd pl i x) (upd pa i y) P := by
  intro P
  induction P with
  | nil => intro _ _; trivial
  | cons z r ih =>
    obtain ⟨o, a⟩ := z
    rintro h ⟨h1, h2, h3⟩
    have h' : r.length + 1 ≤ i := h
    exact ⟨by rw [upd_ne (by omega)]; exact h1, by rw [upd_ne (by omega)]; exact h2, ih (by omega) h3⟩
theorem PileR_drop {pl pa : Nat → Int32} : ∀ (j : Nat) {P : List (Nat × Nat)}, PileR pl pa P → PileR pl pa (P.drop j) := by
  intro j
  induction j with
  | zero => intro P h; exact h
  | succ j ih =>
    intro P h
    cases P with
    | nil => trivial
    | cons x r =>
      obtain ⟨o, a⟩ := x
      exact ih h.2.2
theorem pOK_drop {n : Nat} : ∀ (j : Nat) {P : List (Nat × Nat)}, pOK n P → pOK n (P.drop j) := by
  intro j
  induction j with
  | zero => intro P h; exact h
  | succ j ih =>
    intro P h
    cases P with
    | nil => trivial
    | cons x r =>
      obtain ⟨o, a⟩ := x
      exact ih h.2
section PL
variable {g : z_H} {n : Nat} {K Ka : Nat → Int32} {P : List (Nat × Nat)}
def STm (g : z_H) (n : Nat) (K Ka : Nat → Int32) (P : List (Nat × Nat)) : Prop := Sh g ∧ fI g 81 23 = Int32.ofNat n ∧ aI g 92 = K ∧ aI g 93 = Ka ∧ fI g 81 29 = Int32.ofNat P.length ∧ PileR (aI g 94) (aI g 95) P ∧ pOK n P ∧ n + pend P ≤ 400 ∧ P.length ≤ 400
theorem m_binds {o : Nat} (h : 20 ≤ o ∧ o ≤ 32) : D_X11_binds g (Int32.ofNat o) = some (Int32.ofNat (bnd o), g) := by
  rcases (show o = 20 ∨ o = 21 ∨ o = 22 ∨ o = 23 ∨ o = 24 ∨ o = 25 ∨ o = 26 ∨ o = 27 ∨ o = 28 ∨ o = 29 ∨ o = 30 ∨ o = 31 ∨ o = 32 by omega) with r | r | r | r | r | r | r | r | r | r | r | r | r <;> subst r <;> rfl
theorem m_emitD (hs : Sh g) (e : fI g 81 23 = Int32.ofNat n) (hn : n < 400) (o a : Int32) : ∃ g', D_X11_emit g (some 81) o a = some g' ∧ OnM [81, 92, 93] [23] g g' ∧ fI g' 81 23 = Int32.ofNat (n + 1) ∧ aI g' 92 = upd (aI g 92) n o ∧ aI g' 93 = upd (aI g 93) n a := by
  have o1 := onA hs (a := 92) (S := [81, 92, 93]) (ks := [23]) rfl (by decide) (upd (aI g 92) n o)
  have e1 : aI (wA g 92 (upd (aI g 92) n o)) 92 = upd (aI g 92) n o := aI_wA_eq hs rfl _
  have e1' : aI (wA g 92 (upd (aI g 92) n o)) 93 = aI g 93 := aI_wA_ne (by decide)
  have f1 : fI (wA g 92 (upd (aI g 92) n o)) 81 23 = Int32.ofNat n := by rw [fI_wA]; exact e
  generalize h1 : wA g 92 (upd (aI g 92) n o) = g1 at *
  have o2 := onA o1.1 (a := 93) (S := [81, 92, 93]) (ks := [23]) rfl (by decide) (upd (aI g1 93) n a)
  have e2 : aI (wA g1 93 (upd (aI g1 93) n a)) 93 = upd (aI g 93) n a := by rw [aI_wA_eq o1.1 rfl, e1']
  have e2' : aI (wA g1 93 (upd (aI g1 93) n a)) 92 = upd (aI g 92) n o := by rw [aI_wA_ne (by decide), e1]
  have f2 : fI (wA g1 93 (upd (aI g1 93) n a)) 81 23 = Int32.ofNat n := by rw [fI_wA]; exact f1
  generalize h2 : wA g1 93 (upd (aI g1 93) n a) = g2 at *
  have o3 := onMF o2.1 (k := 23) rfl (S := [81, 92, 93]) (ks := [23]) (by decide) (by decide) (Int32.ofNat (n + 1))
  refine ⟨_, ?_, o1.trans (o2.trans o3), fI_wF_eq o2.1 rfl _, by rw [aI_wF]; exact e2', by rw [aI_wF]; exact e2⟩
  unfold D_X11_emit
  rw [s_gQ (r := 92) hs rfl rfl, Option.bind_some, s_gI hs (ci := 11) rfl rfl, Option.bind_some, e, aW hs (n := 400) rfl hn (by decide), Option.bind_some, h1, s_gQ (r := 93) o1.1 rfl rfl, Option.bind_some, s_gI o1.1 (ci := 11) rfl rfl, Option.bind_some, f1, aW o1.1 (n := 400) rfl hn (by decide), Option.bind_some, h2, s_gI o2.1 (ci := 11) rfl rfl, Option.bind_some, f2, show Int32.ofNat n + 1 = Int32.ofNat (n + 1) from sc_add n 1, s_pV o2.1 (ci := 11) rfl (by decide), Option.bind_some]
theorem m_pushD (hs : Sh g) {len : Nat} (e : fI g 81 29 = Int32.ofNat len) (hn : len < 400) (o a : Int32) : ∃ g', D_X11_push g (some 81) o a = some g' ∧ OnM [81, 94, 95] [29] g g' ∧ fI g' 81 29 = Int32.ofNat (len + 1) ∧ aI g' 94 = upd (aI g 94) len o ∧ aI g' 95 = upd (aI g 95) len a := by
  have o1 := onA hs (a := 94) (S := [81, 94, 95]) (ks := [29]) rfl (by decide) (upd (aI g 94) len o)
  have e1 : aI (wA g 94 (upd (aI g 94) len o)) 94 = upd (aI g 94) len o := aI_wA_eq hs rfl _
  have e1' : aI (wA g 94 (upd (aI g 94) len o)) 95 = aI g 95 := aI_wA_ne (by decide)
  have f1 : fI (wA g 94 (upd (aI g 94) len o)) 81 29 = Int32.ofNat len := by rw [fI_wA]; exact e
  generalize h1 : wA g 94 (upd (aI g 94) len o) = g1 at *
  have o2 := onA o1.1 (a := 95) (S := [81, 94, 95]) (ks := [29]) rfl (by decide) (upd (aI g1 95) len a)
  have e2 : aI (wA g1 95 (upd (aI g1 95) len a)) 95 = upd (aI g 95) len a := by rw [aI_wA_eq o1.1 rfl, e1']
  have e2' : aI (wA g1 95 (upd (aI g1 95) len a)) 94 = upd (aI g 94) len o := by rw [aI_wA_ne (by decide), e1]
  have f2 : fI (wA g1 95 (upd (aI g1 95) len a)) 81 29 = Int32.ofNat len := by rw [fI_wA]; exact f1
  generalize h2 : wA g1 95 (upd (aI g1 95) len a) = g2 at *
  have o3 := onMF o2.1 (k := 29) rfl (S := [81, 94, 95]) (ks := [29]) (by decide) (by decide) (Int32.ofNat (len + 1))
  refine ⟨_, ?_, o1.trans (o2.trans o3), fI_wF_eq o2.1 rfl _, by rw [aI_wF]; exact e2', by rw [aI_wF]; exact e2⟩
  unfold D_X11_push
  rw [s_gQ (r := 94) hs rfl rfl, Option.bind_some, s_gI hs (ci := 11) rfl rfl, Option.bind_some, e, aW hs (n := 400) rfl hn (by decide), Option.bind_some, h1, s_gQ (r := 95) o1.1 rfl rfl, Option.bind_some, s_gI o1.1 (ci := 11) rfl rfl, Option.bind_some, f1, aW o1.1 (n := 400) rfl hn (by decide), Option.bind_some, h2, s_gI o2.1 (ci := 11) rfl rfl, Option.bind_some, f2, show Int32.ofNat len + 1 = Int32.ofNat (len + 1) from sc_add len 1, s_pV o2.1 (ci := 11) rfl (by decide), Option.bind_some]
theorem bnd_le (o : Nat) : bnd o ≤ 6 := by
  unfold bnd
  repeat (first | omega | split)
theorem m_settleL {lv : Nat} (h1 : 1 ≤ lv) (h6 : lv ≤ 6) : ∀ (P : List (Nat × Nat)) (f : Nat) (g : z_H) (n : Nat) (K Ka : Nat → Int32), P.length < f → STm g n K Ka P → ∃ g', OnM [81, 92, 93] [23, 29] g g' ∧ D_X11_settle_0 f g (some 81) (Int32.ofNat lv) = some g' ∧ STm g' (flu lv P n K Ka).2.1 (flu lv P n K Ka).2.2.1 (flu lv P n K Ka).2.2.2 (flu lv P n K Ka).1 := by
  intro P
  induction P with
  | nil =>
    intro f g n K Ka hf S
    obtain ⟨f, rfl⟩ : ∃ f', f = f' + 1 := ⟨f - 1, by omega⟩
    refine ⟨g, OnM.rfl' S.1, ?_, S⟩
    show D_X11_settle_0b _ g (some 81) (Int32.ofNat lv) = _
    unfold D_X11_settle_0b
    rw [s_gI S.1 (ci := 11) rfl rfl, Option.bind_some, S.2.2.2.2.1, if_pos (by decide)]
  | cons x r ih =>
    intro f g n K Ka hf S
    obtain ⟨f, rfl⟩ : ∃ f', f = f' + 1 := ⟨f - 1, by omega⟩
    obtain ⟨o, a⟩ := x
    obtain ⟨hs, e23, e92, e93, e29, ⟨p1, p2, p3⟩, ⟨⟨o1, o2, o3⟩, ok⟩, bud, len⟩ := S
    have len' : r.length + 1 ≤ 400 := len
    have hf' : r.length + 1 < f + 1 := hf
    have e29' : fI g 81 29 = Int32.ofNat (r.length + 1) := e29
    have bb := bnd_le o
    show ∃ g', _ ∧ D_X11_settle_0b (D_X11_settle_0 f) g (some 81) (Int32.ofNat lv) = _ ∧ _
    unfold D_X11_settle_0b
    rw [s_gI hs (ci := 11) rfl rfl, Option.bind_some, e29', if_neg (show ¬ Int32.ofNat (r.length + 1) ≤ 0 from fun z => by have := (nat_le (b := 0) (by omega) (by decide)).mp z; omega), s_gQ (r := 94) hs rfl rfl, Option.bind_some, Option.bind_some, show Int32.ofNat (r.length + 1) - 1 = Int32.ofNat r.length from sc_sub (k := 1) (by omega), aR hs (n := 400) rfl (by omega) (by decide), Option.bind_some, p1, m_binds ⟨o1, o2⟩, Option.bind_some]
    dsimp only
    by_cases c : bnd o < lv
    · rw [if_pos ((nat_lt (by omega) (by omega)).mpr c)]
      have e1 : flu lv ((o, a) :: r) n K Ka = ((o, a) :: r, n, K, Ka) := by
        show (if bnd o < lv then _ else _) = _
        rw [if_pos c]
      rw [e1]
      exact ⟨g, OnM.rfl' hs, rfl, hs, e23, e92, e93, e29, ⟨p1, p2, p3⟩, ⟨⟨o1, o2, o3⟩, ok⟩, bud, len⟩
    · rw [if_neg (fun z => c ((nat_lt (by omega) (by omega)).mp z)), s_gI hs (ci := 11) rfl rfl, Option.bind_some, e29', show Int32.ofNat (r.length + 1) - 1 = Int32.ofNat r.length from sc_sub (k := 1) (by omega), s_pV hs (ci := 11) rfl (by decide), Option.bind_some]
      have oA := onMF hs (k := 29) rfl (S := [81, 92, 93]) (ks := [23, 29]) (by decide) (by decide) (Int32.ofNat r.length)
      have f29 : fI (wF g 81 29 (.int (Int32.ofNat r.length))) 81 29 = Int32.ofNat r.length := fI_wF_eq hs rfl _
      have f23 : fI (wF g 81 29 (.int (Int32.ofNat r.length))) 81 23 = Int32.ofNat n := by rw [fI_wF_ne (by decide)]; exact e23
      have fa : ∀ b, aI (wF g 81 29 (.int (Int32.ofNat r.length))) b = aI g b := fun b => aI_wF _ _ _ _
      generalize wF g 81 29 (.int (Int32.ofNat r.length)) = g1 at *
      have s1 := oA.1
      have q27 : z_gQ 11 g1 (some 81) 27 = some (some 94) := s_gQ s1 rfl rfl
      have r29 : z_gI 11 g1 (some 81) 29 = some (Int32.ofNat r.length) := by rw [s_gI s1 (ci := 11) rfl rfl, f29]
      have ro : z_aI .int g1 (some 94) (Int32.ofNat r.length) = some (Int32.ofNat o) := by rw [aR s1 (n := 400) rfl (by omega) (by decide), fa, p1]
      simp only [q27, r29, ro, Option.bind_some]
      by_cases d : o = 29 ∨ o = 30
      · have al := o3 d
        have s63 : ∃ g', OnM [81, 92, 93] [23, 29] g g' ∧ D_X11_settle_63 (D_X11_settle_0 f) g1 (some 81) (Int32.ofNat lv) = some g' ∧ STm g' (flu lv r n K (upd Ka a (Int32.ofNat n))).2.1 (flu lv r n K (upd Ka a (Int32.ofNat n))).2.2.1 (flu lv r n K (upd Ka a (Int32.ofNat n))).2.2.2 (flu lv r n K (upd Ka a (Int32.ofNat n))).1 := by
          have oB := onA s1 (a := 93) (S := [81, 92, 93]) (ks := [23, 29]) rfl (by decide) (upd (aI g1 93) a (Int32.ofNat n))
          have pd : pend ((o, a) :: r) = pend r := by
            show (if 29 ≤ o then 0 else 1) + pend r = _
            rw [if_pos (by omega)]; omega
          obtain ⟨g', oC, dd, S'⟩ := ih f (wA g1 93 (upd (aI g1 93) a (Int32.ofNat n))) n K (upd Ka a (Int32.ofNat n)) (by omega) ⟨oB.1, by rw [fI_wA]; exact f23, by rw [aI_wA_ne (by decide), fa, e92], by rw [aI_wA_eq s1 rfl, fa, e93], by rw [fI_wA]; exact f29, by rw [aI_wA_ne (by decide), aI_wA_ne (by decide), fa, fa]; exact p3, ok, by omega, by omega⟩
          refine ⟨g', oA.trans (oB.trans oC), ?_, S'⟩
          unfold D_X11_settle_63
          rw [s_gQ (r := 93) s1 rfl rfl, Option.bind_some, s_gQ (r := 95) s1 rfl rfl, Option.bind_some, r29, Option.bind_some, aR s1 (n := 400) rfl (by omega) (by decide), fa, p2, Option.bind_some, s_gI s1 (ci := 11) rfl rfl, Option.bind_some, f23, aW s1 (n := 400) rfl (by omega) (by decide), Option.bind_some]
          exact dd
        have e2 : flu lv ((o, a) :: r) n K Ka = flu lv r n K (upd Ka a (Int32.ofNat n)) := flu_ld c d
        rw [e2]
        rcases d with d | d
        · rw [if_pos (show Int32.ofNat o = 29 by rw [d]; rfl)]; exact s63
        · rw [if_neg (show ¬ Int32.ofNat o = 29 by rw [d]; decide), if_pos (show Int32.ofNat o = 30 by rw [d]; rfl)]; exact s63
      · have o29 : o < 29 := by
          rcases (show o < 29 ∨ o = 29 ∨ o = 30 ∨ 31 ≤ o by omega) with z | z | z | z
          · exact z
          · exact absurd (Or.inl z) d
          · exact absurd (Or.inr z) d
          · exfalso; apply c; unfold bnd; rw [if_pos z]; omega
        rw [if_neg (show ¬ Int32.ofNat o = 29 from fun z => by have := (eq_lit (b := 29) (by omega) (by decide)).mp z; omega), if_neg (show ¬ Int32.ofNat o = 30 from fun z => by have := (eq_lit (b := 30) (by omega) (by decide)).mp z; omega), s_ob s1 (ci := 11) rfl, Option.bind_some]
        have pd : pend ((o, a) :: r) = 1 + pend r := by
          show (if 29 ≤ o then 0 else 1) + pend r = _
          rw [if_neg (by omega)]
        obtain ⟨g2, dE, oE, x23, x92, x93⟩ := m_emitD s1 f23 (by omega) (Int32.ofNat o) 0
        have oE' := oE.mono (S' := [81, 92, 93]) (ks' := [23, 29]) (by decide) (by decide)
        obtain ⟨g', oC, dd, S'⟩ := ih f g2 (n + 1) (upd K n (Int32.ofNat o)) (upd Ka n 0) (by omega) ⟨oE.1, x23, by rw [x92, fa, e92], by rw [x93, fa, e93], (oE.2.2 29 (by decide)).1.trans f29, by rw [cell_aI (oE.2.1.c (by decide)), cell_aI (oE.2.1.c (by decide)), fa, fa]; exact p3, pOK_mono (by omega) ok, by omega, by omega⟩
        rw [dE, Option.bind_some, flu_em c o29]
        exact ⟨g', oA.trans (oE'.trans oC), dd, S'⟩
theorem m_settle {lv : Nat} (h1 : 1 ≤ lv) (h6 : lv ≤ 6) (S : STm g n K Ka P) : ∃ g', OnM [81, 92, 93] [23, 29] g g' ∧ D_X11_settle g (some 81) (Int32.ofNat lv) = some g' ∧ STm g' (flu lv P n K Ka).2.1 (flu lv P n K Ka).2.2.1 (flu lv P n K Ka).2.2.2 (flu lv P n K Ka).1 := m_settleL h1 h6 P z_F g n K Ka (by show _ < 1000000; have := S.2.2.2.2.2.2.2.2; omega) S
theorem m_inner (S : STm g n K Ka P) : D_X11_inner g (some 81) = some (enc (inr P), g) := by
  obtain ⟨hs, e23, e92, e93, e29, pr, ok, bud, len⟩ := S
  have lp := loop_up (S := Int32) (I := fun k x => x = enc (inr (P.drop (P.length - k)))) (F := fun m x k => D_X11_inner_4 m g (some 81) x (Int32.ofNat k)) (G := fun x => some (x, g)) (N := P.length) (fun m x _ => ?_) (fun m x k hk I => ?_) P.length 0 z_F (-1) (by omega) (by omega) (by show _ < 1000000; omega) (by rw [Nat.sub_zero, List.drop_length]; rfl)
  · obtain ⟨x, I, e⟩ := lp
    rw [Nat.sub_self] at I
    refine e.trans ?_
    rw [I]; rfl
  · show D_X11_inner_4b _ g (some 81) x (Int32.ofNat P.length) = _
    unfold D_X11_inner_4b
    rw [s_gI hs (ci := 11) rfl rfl, Option.bind_some, e29, if_pos (by rw [Int32.le_iff_toInt_le]; exact Int.le_refl _)]
  · show ∃ x', _ ∧ D_X11_inner_4b (D_X11_inner_4 m) g (some 81) x (Int32.ofNat k) = _
    have hd : P.drop (P.length - (k + 1)) = P[P.length - (k + 1)]'(by omega) :: P.drop (P.length - k) := by
      rw [List.drop_eq_getElem_cons (by omega), show P.length - (k + 1) + 1 = P.length - k by omega]
    generalize P[P.length - (k + 1)]'(by omega) = y at hd
    obtain ⟨o, a⟩ := y
    have pd := PileR_drop (P.length - (k + 1)) pr
    have od := pOK_drop (P.length - (k + 1)) ok
    rw [hd] at pd od
    have dl : (P.drop (P.length - k)).length = k := by rw [List.length_drop]; omega
    have p1 := pd.1
    rw [dl] at p1
    have o2 := od.1.2.1
    have rk : z_aI .int g (some 94) (Int32.ofNat k) = some (Int32.ofNat o) := by rw [aR hs (n := 400) rfl (by omega) (by decide), p1]
    have q27 : z_gQ 11 g (some 81) 27 = some (some 94) := s_gQ hs rfl rfl
    refine ⟨if 31 ≤ o then Int32.ofNat o else x, ?_, ?_⟩
    · rw [hd, I]
      show _ = enc (if 31 ≤ o then some o else inr (P.drop (P.length - k)))
      split <;> rfl
    · unfold D_X11_inner_4b D_X11_inner_33
      simp only [q27, rk, Option.bind_some]
      rw [s_gI hs (ci := 11) rfl rfl, Option.bind_some, e29, if_neg (fun z => by have := (nat_le (by omega) (by omega)).mp z; omega), show Int32.ofNat k + 1 = Int32.ofNat (k + 1) from sc_add k 1]
      by_cases c : 31 ≤ o
      · rw [if_neg (show ¬ Int32.ofNat o < 31 from fun z => by have := (nat_lt (b := 31) (by omega) (by decide)).mp z; omega), if_pos c]
      · rw [if_pos (show Int32.ofNat o < 31 from (nat_lt (b := 31) (by omega) (by decide)).mpr (by omega)), if_neg c]
theorem m_cmpL (hs : Sh g) : ∀ (P : List (Nat × Nat)) (f : Nat), P.length < f → P.length ≤ 400 → PileR (aI g 94) (aI g 95) P → pOK n P → D_X11_isCompared_7 f g (some 81) (Int32.ofNat P.length - 1) = some (b01 (cmpd P), g) := by
  intro P
  induction P with
  | nil =>
    intro f hf _ _ _
    obtain ⟨f, rfl⟩ : ∃ f', f = f' + 1 := ⟨f - 1, by omega⟩
    show D_X11_isCompared_7b _ g (some 81) _ = _
    unfold D_X11_isCompared_7b D_X11_isCompared_36
    rw [if_pos (by decide), if_pos (by decide)]
    rfl
  | cons x r ih =>
    intro f hf hl pr ok
    obtain ⟨f, rfl⟩ : ∃ f', f = f' + 1 := ⟨f - 1, by omega⟩
    obtain ⟨o, a⟩ := x
    have hl' : r.length + 1 ≤ 400 := hl
    have hf' : r.length + 1 < f + 1 := hf
    have o1 := ok.1
    have q27 : z_gQ 11 g (some 81) 27 = some (some 94) := s_gQ hs rfl rfl
    have rk : z_aI .int g (some 94) (Int32.ofNat r.length) = some (Int32.ofNat o) := by rw [aR hs (n := 400) rfl (by omega) (by decide), pr.1]
    have ei : Int32.ofNat (r.length + 1) - 1 = Int32.ofNat r.length := sc_sub (k := 1) (by omega)
    have jo : (Int32.ofNat o).toInt64.toInt = o := by rw [J_of32 (by omega), J_int (by omega)]
    show D_X11_isCompared_7b (D_X11_isCompared_7 f) g (some 81) (Int32.ofNat (r.length + 1) - 1) = some (b01 (if 20 ≤ o ∧ o ≤ 24 then cmpd r else decide (25 ≤ o ∧ o ≤ 27)), g)
    rw [ei]
    unfold D_X11_isCompared_7b
    rw [if_neg (not_neg (by omega)), q27, Option.bind_some, rk, Option.bind_some, d_in, jo, Option.bind_some]
    dsimp only
    by_cases c : 20 ≤ o ∧ o ≤ 24
    · rw [if_pos c, if_pos (show (20 : Int64).toInt ≤ (o : Int) ∧ (o : Int) ≤ (24 : Int64).toInt from ⟨by show (20 : Int) ≤ _; omega, by show _ ≤ (24 : Int); omega⟩), if_neg one_ne, Option.bind_some]
      have := ih f (by omega) (by omega) pr.2.2 ok.2
      rw [show Int32.ofNat r.length + -1 = Int32.ofNat r.length - 1 by rw [Int32.sub_eq_add_neg]]
      exact this
    · rw [if_neg c, if_neg (show ¬ ((20 : Int64).toInt ≤ (o : Int) ∧ (o : Int) ≤ (24 : Int64).toInt) from fun z => c ⟨by have : (20 : Int) ≤ _ := z.1; omega, by have : _ ≤ (24 : Int) := z.2; omega⟩), if_pos rfl]
      unfold D_X11_isCompared_36
      rw [if_neg (not_neg (by omega)), q27, Option.bind_some, rk, Option.bind_some, d_in, jo, Option.bind_some]
      dsimp only
      by_cases c2 : 25 ≤ o ∧ o ≤ 27
      · rw [if_pos (show (25 : Int64).toInt ≤ (o : Int) ∧ (o : Int) ≤ (27 : Int64).toInt from ⟨by show (25 : Int) ≤ _; omega, by show _ ≤ (27 : Int); omega⟩), if_neg one_ne, decide_eq_true c2]; rfl
      · rw [if_neg (show ¬ ((25 : Int64).toInt ≤ (o : Int) ∧ (o : Int) ≤ (27 : Int64).toInt) from fun z => c2 ⟨by have : (25 : Int) ≤ _ := z.1; omega, by have : _ ≤ (27 : Int) := z.2; omega⟩), if_pos rfl, decide_eq_false c2]; rfl
theorem m_compared (S : STm g n K Ka P) : D_X11_isCompared g (some 81) = some (b01 (cmpd P), g) := by
  obtain ⟨hs, e23, e92, e93, e29, pr, ok, bud, len⟩ := S
  unfold D_X11_isCompared
  rw [s_gI hs (ci := 11) rfl rfl, Option.bind_some, e29, Option.bind_some]
  exact m_cmpL hs P z_F (by show _ < 1000000; omega) len pr ok
end PL
