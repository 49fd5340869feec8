/-! a TEXT is copied: four new cells -/
section F8
variable {g x : z_H} {t m A : Nat} {fs : List Value} {a1 a2 a3 : z_E}
def QN (g : z_H) (t : Nat) (x : z_H) (m A : Nat) (fs : List Value) (a1 a2 a3 : z_E) : Prop := x.1 = t + m ∧ x.2.1 = g.2.1 + A ∧ (∀ j, j < t → x.2.2 j = g.2.2 j) ∧ x.2.2 t = .inr (7, fs) ∧ x.2.2 (t + 1) = a1 ∧ x.2.2 (t + 2) = a2 ∧ x.2.2 (t + 3) = a3
theorem QN.up (H : QN g t x m A fs a1 a2 a3) (fs' : List Value) : QN g t (z_up x t (.inr (7, fs'))) m A fs' a1 a2 a3 := by
  obtain ⟨h1, h2, h3, h4, h5, h6, h7⟩ := H
  exact ⟨h1, h2, fun j hj => (up_ne (by omega)).trans (h3 j hj), up_eq, (up_ne (by omega)).trans h5, (up_ne (by omega)).trans h6, (up_ne (by omega)).trans h7⟩
theorem QN.new1 (H : QN g t x 1 A fs a1 a2 a3) (k : Nat) (e : z_E) : QN g t (z_new x k e) 2 (A + k) fs e a2 a3 := by
  obtain ⟨h1, h2, h3, h4, h5, h6, h7⟩ := H
  refine ⟨by show x.1 + 1 = _; omega, by show x.2.1 + k = _; omega, fun j hj => ?_, ?_, ?_, ?_, ?_⟩
  · show (if j = x.1 then e else x.2.2 j) = _; rw [if_neg (by omega)]; exact h3 j hj
  · show (if t = x.1 then e else x.2.2 t) = _; rw [if_neg (by omega)]; exact h4
  · show (if t + 1 = x.1 then e else x.2.2 (t + 1)) = _; rw [if_pos h1.symm]
  · show (if t + 2 = x.1 then e else x.2.2 (t + 2)) = _; rw [if_neg (by omega)]; exact h6
  · show (if t + 3 = x.1 then e else x.2.2 (t + 3)) = _; rw [if_neg (by omega)]; exact h7
theorem QN.new2 (H : QN g t x 2 A fs a1 a2 a3) (k : Nat) (e : z_E) : QN g t (z_new x k e) 3 (A + k) fs a1 e a3 := by
  obtain ⟨h1, h2, h3, h4, h5, h6, h7⟩ := H
  refine ⟨by show x.1 + 1 = _; omega, by show x.2.1 + k = _; omega, fun j hj => ?_, ?_, ?_, ?_, ?_⟩
  · show (if j = x.1 then e else x.2.2 j) = _; rw [if_neg (by omega)]; exact h3 j hj
  · show (if t = x.1 then e else x.2.2 t) = _; rw [if_neg (by omega)]; exact h4
  · show (if t + 1 = x.1 then e else x.2.2 (t + 1)) = _; rw [if_neg (by omega)]; exact h5
  · show (if t + 2 = x.1 then e else x.2.2 (t + 2)) = _; rw [if_pos h1.symm]
  · show (if t + 3 = x.1 then e else x.2.2 (t + 3)) = _; rw [if_neg (by omega)]; exact h7
theorem QN.new3 (H : QN g t x 3 A fs a1 a2 a3) (k : Nat) (e : z_E) : QN g t (z_new x k e) 4 (A + k) fs a1 a2 e := by
  obtain ⟨h1, h2, h3, h4, h5, h6, h7⟩ := H
  refine ⟨by show x.1 + 1 = _; omega, by show x.2.1 + k = _; omega, fun j hj => ?_, ?_, ?_, ?_, ?_⟩
  · show (if j = x.1 then e else x.2.2 j) = _; rw [if_neg (by omega)]; exact h3 j hj
  · show (if t = x.1 then e else x.2.2 t) = _; rw [if_neg (by omega)]; exact h4
  · show (if t + 1 = x.1 then e else x.2.2 (t + 1)) = _; rw [if_neg (by omega)]; exact h5
  · show (if t + 2 = x.1 then e else x.2.2 (t + 2)) = _; rw [if_neg (by omega)]; exact h6
  · show (if t + 3 = x.1 then e else x.2.2 (t + 3)) = _; rw [if_pos h1.symm]
theorem QN.upi (H : QN g t x 4 A fs a1 a2 a3) (e : z_E) : QN g t (z_up x (t + 1) e) 4 A fs e a2 a3 ∧ QN g t (z_up x (t + 2) e) 4 A fs a1 e a3 ∧ QN g t (z_up x (t + 3) e) 4 A fs a1 a2 e := by
  obtain ⟨h1, h2, h3, h4, h5, h6, h7⟩ := H
  exact ⟨⟨h1, h2, fun j hj => (up_ne (by omega)).trans (h3 j hj), (up_ne (by omega)).trans h4, up_eq, (up_ne (by omega)).trans h6, (up_ne (by omega)).trans h7⟩, ⟨h1, h2, fun j hj => (up_ne (by omega)).trans (h3 j hj), (up_ne (by omega)).trans h4, (up_ne (by omega)).trans h5, up_eq, (up_ne (by omega)).trans h7⟩, ⟨h1, h2, fun j hj => (up_ne (by omega)).trans (h3 j hj), (up_ne (by omega)).trans h4, (up_ne (by omega)).trans h5, (up_ne (by omega)).trans h6, up_eq⟩⟩
theorem r_ob {a c : Nat} (ha : a < x.1) (e : x.2.2 a = .inr (c, fs)) : z_ob c x (some a) = some fs := by
  unfold z_ob
  dsimp only
  rw [if_pos ha, e]
  exact if_pos rfl
theorem r_gI {a c k : Nat} {v : Int32} (ha : a < x.1) (e : x.2.2 a = .inr (c, fs)) (hk : fs[k]? = some (.int v)) : z_gI c x (some a) k = some v := by
  unfold z_gI
  rw [r_ob ha e, Option.bind_some, hk]
theorem r_gQ {a c k r : Nat} (ha : a < x.1) (e : x.2.2 a = .inr (c, fs)) (hk : fs[k]? = some (.ref r)) : z_gQ c x (some a) k = some (some r) := by
  unfold z_gQ
  rw [r_ob ha e, Option.bind_some, hk]
theorem r_pV {a c k : Nat} (ha : a < x.1) (e : x.2.2 a = .inr (c, fs)) (hk : k < fs.length) (v : Value) : z_pV c x (some a) k v = some (z_up x a (.inr (c, fs.set k v))) := by
  show (z_ob c x (some a)).bind _ = _
  rw [r_ob ha e, Option.bind_some, if_pos hk]
theorem r_ar {a n : Nat} {f : Nat → Int32} (ha : a < x.1) (e : x.2.2 a = .inl (.int, n, .inl f)) : z_ar .int x (some a) = some (n, f) := by
  unfold z_ar
  dsimp only
  rw [if_pos ha, e]
  exact if_pos rfl
theorem r_cI {a b na nb n : Nat} {f f' : Nat → Int32} (ha : a < x.1) (ea : x.2.2 a = .inl (.int, na, .inl f)) (hb : b < x.1) (eb : x.2.2 b = .inl (.int, nb, .inl f')) (h1 : n ≤ na) (h2 : n ≤ nb) (hn : n < 1000) : z_cI x (some a) 0 (some b) 0 (Int32.ofNat n) = some (z_up x b (.inl (.int, nb, .inl (va_cpy f f' 0 0 n)))) := by
  have e0 : (0 : Int32).toNatClampNeg = 0 := rfl
  have en : (Int32.ofNat n).toNatClampNeg = n := tn_of' (by omega)
  show ((z_ar .int x (some a)).bind fun f => (z_ar .int x (some b)).bind fun g => _) = _
  rw [r_ar ha ea, Option.bind_some, r_ar hb eb, Option.bind_some]
  dsimp only
  rw [e0, en, if_neg]
  rintro (z | z | z | z | z)
  · exact absurd z (by decide)
  · exact absurd z (by decide)
  · exact not_neg (by omega) z
  · omega
  · omega
theorem r_nI {n : Nat} (hn : n < 1000) : z_nI x (Int32.ofNat n) = some (z_new x n (.inl (.int, n, .inl (fun _ => 0)))) := by
  have en : (Int32.ofNat n).toNatClampNeg = n := tn_of' (by omega)
  unfold z_nI
  rw [en, if_neg]
  rintro (z | z)
  · exact not_neg (by omega) z
  · have : componentBytes .int = 4 := rfl
    rw [this] at z
    omega
theorem c_copy (hs : Sh g) {n c : Nat} (e3 : fI g 25 3 = Int32.ofNat n) (e4 : fI g 25 4 = Int32.ofNat c) (hn : n ≤ 400) (hc : c ≤ 12) : ∃ (g' : z_H) (op ar cl : Nat → Int32), D_X7_copy g (some 25) = some (some g.1, g') ∧ QN g g.1 g' 4 (5 + n + n + 6 * c) [.ref (g.1 + 1), .ref (g.1 + 2), .ref (g.1 + 3), .int (Int32.ofNat n), .int (Int32.ofNat c)] (.inl (.int, n, .inl op)) (.inl (.int, n, .inl ar)) (.inl (.int, 6 * c, .inl cl)) ∧ (∀ i, i < n → op i = aI g 26 i ∧ ar i = aI g 27 i) ∧ ∀ i, i < 6 * c → cl i = aI g 28 i := by
  have t114 : 114 ≤ g.1 := hs.1
  have c25 : g.2.2 25 = .inr (7, [.ref 26, .ref 27, .ref 28, .int (fI g 25 3), .int (fI g 25 4)]) := hs.2 25 _ rfl
  have c26 : g.2.2 26 = .inl (.int, 400, .inl (aI g 26)) := hs.2 26 _ rfl
  have c27 : g.2.2 27 = .inl (.int, 400, .inl (aI g 27)) := hs.2 27 _ rfl
  have c28 : g.2.2 28 = .inl (.int, 72, .inl (aI g 28)) := hs.2 28 _ rfl
  rw [e3, e4] at c25
  generalize ht : g.1 = t at *
  have b25 : ∀ {x m A fs a1 a2 a3}, QN g t x m A fs a1 a2 a3 → 0 < m → 25 < x.1 ∧ x.2.2 25 = .inr (7, [.ref 26, .ref 27, .ref 28, .int (Int32.ofNat n), .int (Int32.ofNat c)]) ∧ t < x.1 := fun H hm => ⟨by have := H.1; omega, by rw [H.2.2.1 25 (by omega)]; exact c25, by have := H.1; omega⟩
  have Q1 : QN g t (z_new g 5 (.inr (7, [.null, .null, .null, .int 0, .int 0]))) 1 5 [.null, .null, .null, .int 0, .int 0] (g.2.2 (t + 1)) (g.2.2 (t + 2)) (g.2.2 (t + 3)) := by
    refine ⟨by show g.1 + 1 = _; omega, rfl, fun j hj => ?_, ?_, ?_, ?_, ?_⟩
    · show (if j = g.1 then _ else g.2.2 j) = _; rw [if_neg (by omega)]
    · show (if t = g.1 then _ else g.2.2 t) = _; rw [if_pos ht.symm]
    · show (if t + 1 = g.1 then _ else g.2.2 (t + 1)) = _; rw [if_neg (by omega)]
    · show (if t + 2 = g.1 then _ else g.2.2 (t + 2)) = _; rw [if_neg (by omega)]
    · show (if t + 3 = g.1 then _ else g.2.2 (t + 3)) = _; rw [if_neg (by omega)]
  unfold D_X7_copy D_X7_init
  rw [ht]
  generalize z_new g 5 (.inr (7, [.null, .null, .null, .int 0, .int 0])) = x1 at Q1
  have k1 := b25 Q1 (by decide)
  rw [Option.bind_some, r_gI k1.1 k1.2.1 rfl, Option.bind_some, r_gI k1.1 k1.2.1 rfl, Option.bind_some, if_neg (by simp), r_pV k1.2.2 Q1.2.2.2.1 (by decide), Option.bind_some]
  have Q2 := Q1.up ([Value.null, .null, .null, .int 0, .int 0].set 3 (.int 0))
  generalize z_up x1 t (.inr (7, [Value.null, .null, .null, .int 0, .int 0].set 3 (.int 0))) = x2 at Q2
  rw [r_pV (b25 Q2 (by decide)).2.2 Q2.2.2.2.1 (by decide), Option.bind_some]
  have Q3 := Q2.up (([Value.null, .null, .null, .int 0, .int 0].set 3 (.int 0)).set 4 (.int 0))
  generalize z_up x2 t (.inr (7, ([Value.null, .null, .null, .int 0, .int 0].set 3 (.int 0)).set 4 (.int 0))) = x3 at Q3
  rw [r_nI (by omega), Option.bind_some]
  have Q4 := Q3.new1 n (.inl (.int, n, .inl (fun _ => 0)))
  generalize z_new x3 n (.inl (.int, n, .inl (fun _ => 0))) = x4 at Q4
  rw [Q3.1, r_pV (b25 Q4 (by decide)).2.2 Q4.2.2.2.1 (by decide), Option.bind_some]
  have Q5 := Q4.up ((([Value.null, .null, .null, .int 0, .int 0].set 3 (.int 0)).set 4 (.int 0)).set 0 (z_r (some (t + 1))))
  generalize z_up x4 t (.inr (7, (([Value.null, .null, .null, .int 0, .int 0].set 3 (.int 0)).set 4 (.int 0)).set 0 (z_r (some (t + 1))))) = x5 at Q5
  rw [r_nI (by omega), Option.bind_some]
  have Q6 := Q5.new2 n (.inl (.int, n, .inl (fun _ => 0)))
  generalize z_new x5 n (.inl (.int, n, .inl (fun _ => 0))) = x6 at Q6
  rw [Q5.1, r_pV (b25 Q6 (by decide)).2.2 Q6.2.2.2.1 (by simp), Option.bind_some]
  have Q7 := Q6.up (((([Value.null, .null, .null, .int 0, .int 0].set 3 (.int 0)).set 4 (.int 0)).set 0 (z_r (some (t + 1)))).set 1 (z_r (some (t + 2))))
  generalize z_up x6 t (.inr (7, ((([Value.null, .null, .null, .int 0, .int 0].set 3 (.int 0)).set 4 (.int 0)).set 0 (z_r (some (t + 1)))).set 1 (z_r (some (t + 2))))) = x7 at Q7
  rw [show Int32.ofNat c * 6 = Int32.ofNat (6 * c) by rw [Nat.mul_comm]; exact (Int32.ofNat_mul c 6).symm, r_nI (by omega), Option.bind_some]
  have Q8 := Q7.new3 (6 * c) (.inl (.int, 6 * c, .inl (fun _ => 0)))
  generalize z_new x7 (6 * c) (.inl (.int, 6 * c, .inl (fun _ => 0))) = x8 at Q8
  rw [Q7.1, r_pV (b25 Q8 (by decide)).2.2 Q8.2.2.2.1 (by simp), Option.bind_some, Option.bind_some]
  have Q9 := Q8.up ((((([Value.null, .null, .null, .int 0, .int 0].set 3 (.int 0)).set 4 (.int 0)).set 0 (z_r (some (t + 1)))).set 1 (z_r (some (t + 2)))).set 2 (z_r (some (t + 3))))
  generalize z_up x8 t (.inr (7, (((([Value.null, .null, .null, .int 0, .int 0].set 3 (.int 0)).set 4 (.int 0)).set 0 (z_r (some (t + 1)))).set 1 (z_r (some (t + 2)))).set 2 (z_r (some (t + 3))))) = x9 at Q9
  have l9 := Q9.1
  rw [r_gQ (b25 Q9 (by decide)).1 (b25 Q9 (by decide)).2.1 (r := 26) rfl, Option.bind_some, r_gQ (b25 Q9 (by decide)).2.2 Q9.2.2.2.1 (r := t + 1) rfl, Option.bind_some, r_gI (b25 Q9 (by decide)).1 (b25 Q9 (by decide)).2.1 rfl, Option.bind_some, r_cI (a := 26) (b := t + 1) (by omega) (by rw [Q9.2.2.1 26 (by omega)]; exact c26) (by omega) Q9.2.2.2.2.1 hn (Nat.le_refl _) (by omega), Option.bind_some]
  have Q10 := (Q9.upi (.inl (.int, n, .inl (va_cpy (aI g 26) (fun _ => 0) 0 0 n)))).1
  generalize z_up x9 (t + 1) (.inl (.int, n, .inl (va_cpy (aI g 26) (fun _ => 0) 0 0 n))) = x10 at Q10
  have l10 := Q10.1
  rw [r_gQ (b25 Q10 (by decide)).1 (b25 Q10 (by decide)).2.1 (r := 27) rfl, Option.bind_some, r_gQ (b25 Q10 (by decide)).2.2 Q10.2.2.2.1 (r := t + 2) rfl, Option.bind_some, r_gI (b25 Q10 (by decide)).1 (b25 Q10 (by decide)).2.1 rfl, Option.bind_some, r_cI (a := 27) (b := t + 2) (by omega) (by rw [Q10.2.2.1 27 (by omega)]; exact c27) (by omega) Q10.2.2.2.2.2.1 hn (Nat.le_refl _) (by omega), Option.bind_some]
  have Q11 := (Q10.upi (.inl (.int, n, .inl (va_cpy (aI g 27) (fun _ => 0) 0 0 n)))).2.1
  generalize z_up x10 (t + 2) (.inl (.int, n, .inl (va_cpy (aI g 27) (fun _ => 0) 0 0 n))) = x11 at Q11
  have l11 := Q11.1
  rw [r_gQ (b25 Q11 (by decide)).1 (b25 Q11 (by decide)).2.1 (r := 28) rfl, Option.bind_some, r_gQ (b25 Q11 (by decide)).2.2 Q11.2.2.2.1 (r := t + 3) rfl, Option.bind_some, r_gI (b25 Q11 (by decide)).1 (b25 Q11 (by decide)).2.1 rfl, Option.bind_some, show Int32.ofNat c * 6 = Int32.ofNat (6 * c) by rw [Nat.mul_comm]; exact (Int32.ofNat_mul c 6).symm, r_cI (a := 28) (b := t + 3) (n := 6 * c) (by omega) (by rw [Q11.2.2.1 28 (by omega)]; exact c28) (by omega) Q11.2.2.2.2.2.2 (by omega) (Nat.le_refl _) (by omega), Option.bind_some]
  have Q12 := (Q11.upi (.inl (.int, 6 * c, .inl (va_cpy (aI g 28) (fun _ => 0) 0 0 (6 * c))))).2.2
  generalize z_up x11 (t + 3) (.inl (.int, 6 * c, .inl (va_cpy (aI g 28) (fun _ => 0) 0 0 (6 * c)))) = x12 at Q12
  rw [r_gI (b25 Q12 (by decide)).1 (b25 Q12 (by decide)).2.1 rfl, Option.bind_some, r_pV (b25 Q12 (by decide)).2.2 Q12.2.2.2.1 (by simp), Option.bind_some]
  have Q13 := Q12.up (((((([Value.null, .null, .null, .int 0, .int 0].set 3 (.int 0)).set 4 (.int 0)).set 0 (z_r (some (t + 1)))).set 1 (z_r (some (t + 2)))).set 2 (z_r (some (t + 3)))).set 3 (.int (Int32.ofNat n)))
  generalize z_up x12 t (.inr (7, ((((([Value.null, .null, .null, .int 0, .int 0].set 3 (.int 0)).set 4 (.int 0)).set 0 (z_r (some (t + 1)))).set 1 (z_r (some (t + 2)))).set 2 (z_r (some (t + 3)))).set 3 (.int (Int32.ofNat n)))) = x13 at Q13
  rw [r_gI (b25 Q13 (by decide)).1 (b25 Q13 (by decide)).2.1 rfl, Option.bind_some, r_pV (b25 Q13 (by decide)).2.2 Q13.2.2.2.1 (by simp), Option.bind_some]
  refine ⟨_, _, _, _, rfl, Q13.up _, fun i hi => ?_, fun i hi => ?_⟩
  · unfold va_cpy
    rw [if_pos (by omega), if_pos (by omega)]
    simp
  · unfold va_cpy
    rw [if_pos (by omega)]
    simp
end F8
