/-! LOOPS THAT COUNT UP -/
theorem loop_up {β S : Type} {I : Nat → S → Prop} {F : Nat → S → Nat → Option β} {G : S → Option β} {N : Nat} (stop : ∀ m g, I N g → F (m + 1) g N = G g) (step : ∀ m g i, i < N → I i g → ∃ g', I (i + 1) g' ∧ F (m + 1) g i = F m g' (i + 1)) : ∀ (d i m : Nat) (g : S), N - i = d → i ≤ N → d < m → I i g → ∃ g', I N g' ∧ F m g i = G g' := by
  intro d
  induction d with
  | zero =>
    intro i m g hd hi hm h
    obtain ⟨m, rfl⟩ : ∃ m', m = m' + 1 := ⟨m - 1, by omega⟩
    have : i = N := by omega
    subst this
    exact ⟨g, h, stop m g h⟩
  | succ d ih =>
    intro i m g hd hi hm h
    obtain ⟨m, rfl⟩ : ∃ m', m = m' + 1 := ⟨m - 1, by omega⟩
    obtain ⟨g', h', e⟩ := step m g i (by omega) h
    obtain ⟨g2, h2, e2⟩ := ih (i + 1) m g' (by omega) (by omega) (by omega) h'
    exact ⟨g2, h2, e.trans e2⟩
theorem zF_gt {n : Nat} (h : n < 1000000) : n < z_F := h
theorem s_cI {h : z_H} (hs : Sh h) {a b n m : Nat} (ha : shpL[a]? = some (.inl (.int, n))) (hb : shpL[b]? = some (.inl (.int, m))) {sp dp k : Nat} (h1 : sp + k ≤ m) (h2 : dp + k ≤ n) (hm : m < 2 ^ 31) (hn : n < 2 ^ 31) : z_cI h (some b) (Int32.ofNat sp) (some a) (Int32.ofNat dp) (Int32.ofNat k) = some (wA h a (va_cpy (aI h b) (aI h a) sp dp k)) := by
  have e1 : (Int32.ofNat sp).toNatClampNeg = sp := tn_of (by omega)
  have e2 : (Int32.ofNat dp).toNatClampNeg = dp := tn_of (by omega)
  have e3 : (Int32.ofNat k).toNatClampNeg = k := tn_of (by omega)
  unfold z_cI
  dsimp only
  rw [s_ar hs (Or.inl rfl) hb, s_ar hs (Or.inl rfl) ha, Option.bind_some, Option.bind_some, e1, e2, e3, if_neg]
  · unfold wA
    have c := hs.2 a _ ha
    rw [c]
    rfl
  · rintro (q | q | q | q | q)
    · exact not_neg (by omega) q
    · exact not_neg (by omega) q
    · exact not_neg (by omega) q
    · exact absurd h1 (by dsimp only at q; omega)
    · exact absurd h2 (by dsimp only at q; omega)
/-! THE LOG OF UNDOING: what the class keeps (R), what the reference keeps (U, S), by the row of states s and acts t -/
def LogC (n : Nat) (R : Nat → Int32) (s : Nat → Nat → Int32) (t : Nat → Int32) (np : Nat) : Prop := n ≤ 16 ∧ ∀ j, j < n → R (7 * j) = t j ∧ nb (t j) 4 ∧ (R (7 * j + 1) = -1 ∨ (∃ k : Nat, R (7 * j + 1) = Int32.ofNat k ∧ k < np) ∧ nb (R (7 * j + 2)) 24 ∧ nb (R (7 * j + 3)) 3 ∧ nb (R (7 * j + 4)) 3 ∧ nb (R (7 * j + 5)) 99) ∧ nb (R (7 * j + 6)) 999 ∧ ∀ i, i < 39 → s j i = undone (fun q => R (7 * j + q)) (s (j + 1)) i
def LogM (n : Nat) (U S : Nat → Int32) (s : Nat → Nat → Int32) (t : Nat → Int32) : Prop := ∀ j, j < n → S j = t j ∧ ∀ i, i < 39 → U (39 * j + i) = s j i
def nxN (n : Nat) : Nat := if n < 16 then n + 1 else 16
def nxS (n : Nat) (s : Nat → Nat → Int32) (c : Nat → Int32) (j : Nat) : Nat → Int32 := if n < 16 then (if j = n + 1 then c else s j) else (if j = 16 then c else s (j + 1))
def nxT (n : Nat) (t : Nat → Int32) (a : Int32) (j : Nat) : Int32 := if n < 16 then (if j = n then a else t j) else (if j = 15 then a else t (j + 1))
def nxR (n : Nat) (R rec : Nat → Int32) : Nat → Int32 := if n < 16 then va_cpy rec R 0 (7 * n) 7 else va_cpy rec (va_cpy R R 7 0 105) 0 105 7
/-- a row that undoes the state c to the state b -/
def recOK (np : Nat) (rec b c : Nat → Int32) (a : Int32) : Prop := rec 0 = a ∧ nb a 4 ∧ (rec 1 = -1 ∨ (∃ k : Nat, rec 1 = Int32.ofNat k ∧ k < np) ∧ nb (rec 2) 24 ∧ nb (rec 3) 3 ∧ nb (rec 4) 3 ∧ nb (rec 5) 99) ∧ nb (rec 6) 999 ∧ ∀ i, i < 39 → b i = undone rec c i
theorem und_cong {r r' s s' : Nat → Int32} (hr : ∀ q, q < 7 → r q = r' q) (i : Nat) (hsi : s i = s' i) : undone r s i = undone r' s' i := by
  unfold undone
  rw [hr 6 (by decide), hr 1 (by decide), hr 2 (by decide), hr 3 (by decide), hr 4 (by decide), hr 5 (by decide), hsi]
theorem nxN_le {n : Nat} (h : n ≤ 16) : nxN n ≤ 16 := by unfold nxN; split <;> omega
theorem LogC_push {n np : Nat} {R rec c : Nat → Int32} {s : Nat → Nat → Int32} {t : Nat → Int32} {a : Int32} (H : LogC n R s t np) (K : recOK np rec (s n) c a) : LogC (nxN n) (nxR n R rec) (nxS n s c) (nxT n t a) np := by
  obtain ⟨hn, H⟩ := H
  obtain ⟨k0, k1, k2, k3, k4⟩ := K
  refine ⟨nxN_le hn, fun j hj => ?_⟩
  unfold nxN at hj
  unfold nxR nxS nxT
  by_cases c16 : n < 16
  · simp only [if_pos c16] at hj ⊢
    by_cases cj : j = n
    · subst cj
      have e : ∀ q, q < 7 → va_cpy rec R 0 (7 * j) 7 (7 * j + q) = rec q := fun q hq => by
        unfold va_cpy; rw [if_pos (by omega)]; congr 1; omega
      have e0 := e 0 (by decide)
      rw [Nat.add_zero] at e0
      rw [e0, e 1 (by decide), e 2 (by decide), e 3 (by decide), e 4 (by decide), e 5 (by decide), e 6 (by decide), if_pos rfl, if_pos rfl, if_neg (by omega)]
      refine ⟨k0, k1, k2, k3, fun i hi => ?_⟩
      rw [k4 i hi]
      exact und_cong (fun q hq => (e q hq).symm) i rfl
    · have hj' : j < n := by omega
      have e : ∀ q, q < 7 → va_cpy rec R 0 (7 * n) 7 (7 * j + q) = R (7 * j + q) := fun q hq => by
        unfold va_cpy; rw [if_neg (by omega)]
      have e0 := e 0 (by decide)
      simp only [Nat.add_zero] at e0
      obtain ⟨v1, v2, v3, v4, v5⟩ := H j hj'
      rw [e0, e 1 (by decide), e 2 (by decide), e 3 (by decide), e 4 (by decide), e 5 (by decide), e 6 (by decide), if_neg cj, if_neg (by omega), if_neg (by omega)]
      refine ⟨v1, v2, v3, v4, fun i hi => ?_⟩
      rw [v5 i hi]
      exact und_cong (fun q hq => (e q hq).symm) i rfl
  · have n16 : n = 16 := by omega
    simp only [if_neg c16] at hj ⊢
    by_cases cj : j = 15
    · subst cj
      have e : ∀ q, q < 7 → va_cpy rec (va_cpy R R 7 0 105) 0 105 7 (7 * 15 + q) = rec q := fun q hq => by
        unfold va_cpy; rw [if_pos (by omega)]; congr 1; omega
      have e0 := e 0 (by decide)
      rw [Nat.add_zero] at e0
      rw [e0, e 1 (by decide), e 2 (by decide), e 3 (by decide), e 4 (by decide), e 5 (by decide), e 6 (by decide), if_pos rfl, if_pos rfl, if_neg (by omega)]
      refine ⟨k0, k1, k2, k3, fun i hi => ?_⟩
      rw [n16] at k4
      rw [k4 i hi]
      exact und_cong (fun q hq => (e q hq).symm) i rfl
    · have hj' : j + 1 < n := by omega
      have e : ∀ q, q < 7 → va_cpy rec (va_cpy R R 7 0 105) 0 105 7 (7 * j + q) = R (7 * (j + 1) + q) := fun q hq => by
        unfold va_cpy; rw [if_neg (by omega), if_pos (by omega)]; congr 1; omega
      have e0 := e 0 (by decide)
      simp only [Nat.add_zero] at e0
      obtain ⟨v1, v2, v3, v4, v5⟩ := H (j + 1) hj'
      rw [e0, e 1 (by decide), e 2 (by decide), e 3 (by decide), e 4 (by decide), e 5 (by decide), e 6 (by decide), if_neg cj, if_neg (show ¬ j = 16 by omega), if_neg (show ¬ j + 1 = 16 by omega)]
      refine ⟨v1, v2, v3, v4, fun i hi => ?_⟩
      rw [v5 i hi]
      exact und_cong (fun q hq => (e q hq).symm) i rfl
def nxU (n : Nat) (U b : Nat → Int32) (q : Nat) : Int32 := if n < 16 then (if 39 * n ≤ q ∧ q < 39 * n + 39 then b (q - 39 * n) else U q) else (if 585 ≤ q ∧ q < 624 then b (q - 585) else if q < 585 then U (q + 39) else U q)
def nxM (n : Nat) (S : Nat → Int32) (a : Int32) (q : Nat) : Int32 := if n < 16 then (if q = n then a else S q) else (if q = 15 then a else if q < 15 then S (q + 1) else S q)
theorem LogM_push {n : Nat} {U S c : Nat → Int32} {s : Nat → Nat → Int32} {t : Nat → Int32} {a : Int32} (hn : n ≤ 16) (H : LogM n U S s t) : LogM (nxN n) (nxU n U (s n)) (nxM n S a) (nxS n s c) (nxT n t a) := by
  intro j hj
  unfold nxN at hj
  unfold nxU nxM nxS nxT
  by_cases c16 : n < 16
  · simp only [if_pos c16] at hj ⊢
    by_cases cj : j = n
    · subst cj
      refine ⟨by rw [if_pos rfl, if_pos rfl], fun i hi => ?_⟩
      rw [if_pos (by omega), if_neg (by omega)]
      congr 1; omega
    · obtain ⟨v1, v2⟩ := H j (by omega)
      refine ⟨by rw [if_neg cj, if_neg cj]; exact v1, fun i hi => ?_⟩
      rw [if_neg (by omega), if_neg (by omega)]
      exact v2 i hi
  · have n16 : n = 16 := by omega
    subst n16
    simp only [if_neg c16] at hj ⊢
    by_cases cj : j = 15
    · subst cj
      refine ⟨by rw [if_pos rfl, if_pos rfl], fun i hi => ?_⟩
      rw [if_pos (by omega), if_neg (by omega)]
      show s 16 (39 * 15 + i - 585) = s 16 i
      rw [show 39 * 15 + i - 585 = i by omega]
    · obtain ⟨v1, v2⟩ := H (j + 1) (by omega)
      refine ⟨by rw [if_neg cj, if_neg cj, if_pos (by omega)]; exact v1, fun i hi => ?_⟩
      rw [if_neg (by omega), if_pos (by omega), if_neg (by omega), ← v2 i hi]
      congr 1; omega
section UL
variable {h : z_H}
theorem Ulog.split (H : Ulog h) : ∃ n s t, fI h 21 1 = Int32.ofNat n ∧ fI h 81 8 = Int32.ofNat n ∧ LogC n (aI h 22) s t (tn (fI h 1 8)) ∧ LogM n (aI h 86) (aI h 87) s t ∧ s n = fun i => aI h 83 (5 + i) := by
  obtain ⟨u1, ⟨n, en, hn⟩, u3⟩ := H
  have tn' : tn (fI h 21 1) = n := by rw [en]; exact tn_of (by omega)
  rw [tn'] at u3
  refine ⟨n, fun j i => if j = n then aI h 83 (5 + i) else aI h 86 (39 * j + i), fun j => aI h 87 j, en, by rw [u1, en], ⟨hn, fun j hj => ?_⟩, fun j hj => ⟨rfl, fun i hi => ?_⟩, ?_⟩
  · obtain ⟨v1, v2, v3, v4, v5⟩ := u3 j hj
    refine ⟨v1.symm, by show nb (aI h 87 j) 4; rw [v1]; exact v2, v3, v4, fun i hi => ?_⟩
    dsimp only
    rw [if_neg (by omega), v5 i hi]
  · dsimp only
    rw [if_neg (by omega)]
  · funext i
    dsimp only
    rw [if_pos rfl]
theorem Ulog.join {n : Nat} {s : Nat → Nat → Int32} {t : Nat → Int32} (e1 : fI h 21 1 = Int32.ofNat n) (e2 : fI h 81 8 = Int32.ofNat n) (C : LogC n (aI h 22) s t (tn (fI h 1 8))) (M : LogM n (aI h 86) (aI h 87) s t) (e : ∀ i, i < 39 → s n i = aI h 83 (5 + i)) : Ulog h := by
  obtain ⟨hn, C⟩ := C
  have tn' : tn (fI h 21 1) = n := by rw [e1]; exact tn_of (by omega)
  refine ⟨by rw [e1, e2], ⟨n, e1, hn⟩, fun j hj => ?_⟩
  rw [tn'] at hj ⊢
  obtain ⟨v1, v2, v3, v4, v5⟩ := C j hj
  obtain ⟨w1, w2⟩ := M j hj
  refine ⟨by rw [w1, v1], by rw [v1]; exact v2, v3, v4, fun i hi => ?_⟩
  rw [w2 i hi, v5 i hi]
  refine und_cong (fun _ _ => rfl) i ?_
  by_cases c : j + 1 = n
  · rw [if_pos c, c, e i hi]
  · rw [if_neg c, (M (j + 1) (by omega)).2 i hi]
end UL
