section RK
variable {g : z_H} {t t1 t2 t3 N n NC cc hi : Nat} {op ar cl w : Nat → Int32}
def puS (g : z_H) (k : Nat) (v : Int64) : z_H := wJ g 31 (vp_updL (aJ g 31) k v)
theorem Sh_puS (hs : Sh g) (k : Nat) (v : Int64) : Sh (puS g k v) := Sh_wJ hs rfl _
theorem puS_a (hs : Sh g) (k : Nat) (v : Int64) : aJ (puS g k v) 31 = vp_updL (aJ g 31) k v := aJ_wJ_eq hs rfl _
theorem puS_T (k : Nat) (v : Int64) : Tch [31] g (puS g k v) := Tch_wJ (Tch_rfl _ g) (by decide) _
theorem SR.set {g : z_H} (hs : Sh g) {x v : Int64} {r : List Int64} (H : SR g (x :: r)) : SR (puS g r.length v) (v :: r) := by
  have h1 := H.tl
  have hl : r.length < 51 := by have := H.1; simp at this; omega
  exact h1.push hl (puS_a hs _ _)
theorem l4_cons (x : Int64) (r : List Int64) : Int32.ofNat (x :: r).length - 1 = Int32.ofNat r.length := by
  rw [List.length_cons]; exact sc_sub (i := r.length + 1) (k := 1) (by omega)
theorem l4_up (k : Nat) : Int32.ofNat k - 1 + 1 = Int32.ofNat k := Int32.sub_add_cancel _ _
theorem nat_le {a b : Nat} (ha : a < 2 ^ 31) (hb : b < 2 ^ 31) : (Int32.ofNat a ≤ Int32.ofNat b) ↔ a ≤ b := by
  rw [Int32.le_iff_toInt_le, Int32.toInt_ofNat_of_lt ha, Int32.toInt_ofNat_of_lt hb]; omega
theorem nat_lt {a b : Nat} (ha : a < 2 ^ 31) (hb : b < 2 ^ 31) : (Int32.ofNat a < Int32.ofNat b) ↔ a < b := by
  rw [Int32.lt_iff_toInt_lt, Int32.toInt_ofNat_of_lt ha, Int32.toInt_ofNat_of_lt hb]; omega
theorem jmp_to {i q : Nat} (hi : i < 400) (hq : q ≤ 400) : (if Int32.ofNat i < Int32.ofNat q - 1 then Int32.ofNat q - 1 else Int32.ofNat i) + 1 = Int32.ofNat (max (i + 1) q) := by
  rcases Nat.eq_zero_or_pos q with rfl | hq0
  · have : ¬ Int32.ofNat i < Int32.ofNat 0 - 1 := by
      rw [Int32.lt_iff_toInt_lt, Int32.toInt_ofNat_of_lt (by omega)]
      have e : (Int32.ofNat 0 - 1).toInt = -1 := by decide
      omega
    rw [if_neg this, show max (i + 1) 0 = i + 1 by omega]
    exact sc_add i 1
  · have e : Int32.ofNat q - 1 = Int32.ofNat (q - 1) := sc_sub (i := q) (k := 1) hq0
    rw [e]
    by_cases c : i < q - 1
    · rw [if_pos ((nat_lt (by omega) (by omega)).mpr c), show max (i + 1) q = q - 1 + 1 by omega]
      exact sc_add (q - 1) 1
    · rw [if_neg (fun z => c ((nat_lt (by omega) (by omega)).mp z)), show max (i + 1) q = i + 1 by omega]
      exact sc_add i 1
/-- the fields that reckoning reads -/
theorem rk_head (hs : Sh g) (tx : TxC g t t1 t2 t3 N n NC cc op ar cl) (hn : hi ≤ n) {i : Nat} (hi1 : i < hi) (m : Nat) (l4 : Int32) : D_X1_reckon_6 (m + 1) g (some 29) (some t) (Int32.ofNat hi) l4 (Int32.ofNat i) =
    (if op i = 0 then D_X1_reckon_50 (D_X1_reckon_6 m) g (some 29) (some t) (Int32.ofNat hi) l4 (Int32.ofNat i) (op i) (ar i)
    else if op i = 1 then D_X1_reckon_50 (D_X1_reckon_6 m) g (some 29) (some t) (Int32.ofNat hi) l4 (Int32.ofNat i) (op i) (ar i)
    else if 0 ≤ l4 then (if op i = 2 then (z_aJ g (some 31) l4).bind fun x => (z_sJ g (some 31) l4 (1 - x)).bind fun h2 => D_X1_reckon_288 (D_X1_reckon_6 m) h2 (some 29) (some t) (Int32.ofNat hi) l4 (Int32.ofNat i)
      else if op i = 3 then D_X1_reckon_150 (D_X1_reckon_6 m) g (some 29) (some t) (Int32.ofNat hi) l4 (Int32.ofNat i) (op i) (ar i)
      else if op i = 4 then D_X1_reckon_150 (D_X1_reckon_6 m) g (some 29) (some t) (Int32.ofNat hi) l4 (Int32.ofNat i) (op i) (ar i)
      else if l4 < 1 then some (0, g) else (z_aJ g (some 31) l4).bind fun x => if lg_cmp x 0 = 0 then (if op i = 8 then some (0, g) else if op i = 9 then some (0, g) else D_X1_reckon_227 (D_X1_reckon_6 m) g (some 29) (some t) (Int32.ofNat hi) l4 (Int32.ofNat i) (op i)) else D_X1_reckon_227 (D_X1_reckon_6 m) g (some 29) (some t) (Int32.ofNat hi) l4 (Int32.ofNat i) (op i))
    else some (0, g)) := by
  obtain ⟨r1, r2, r3, r4, r5, r6, r7, r8, -⟩ := TxC_r tx
  have hN := tx.2.2.2.2.2.1
  have n1 : ¬ Int32.ofNat hi ≤ Int32.ofNat i := by rw [nat_le (by omega) (by omega)]; omega
  have n2 : ¬ Int32.ofNat n ≤ Int32.ofNat i := by rw [nat_le (by omega) (by omega)]; omega
  show D_X1_reckon_6b (D_X1_reckon_6 m) g (some 29) (some t) (Int32.ofNat hi) l4 (Int32.ofNat i) = _
  simp only [D_X1_reckon_6b, n1, if_false, r4, Option.bind_some, n2, r1, r2, r6 i (by omega), r7 i (by omega), rdQ_c hs]
theorem rk_push (hs : Sh g) {s : List Int64} (hl : s.length < 51) (m i : Nat) (v : Int64) : D_X1_reckon_102 (D_X1_reckon_6 m) g (some 29) (some t) (Int32.ofNat hi) (Int32.ofNat s.length) (Int32.ofNat i) (some 31) (Int32.ofNat s.length) v = D_X1_reckon_6 m (puS g s.length v) (some 29) (some t) (Int32.ofNat hi) (Int32.ofNat (v :: s).length - 1) (Int32.ofNat (i + 1)) := by
  have tl : (Int32.ofNat s.length).toNatClampNeg = s.length := tn_of (by omega)
  have e1 : Int32.ofNat i + 1 = Int32.ofNat (i + 1) := sc_add i 1
  rw [l4_cons]
  simp only [D_X1_reckon_102, wrA_c hs, iW_ofNat (show s.length < 51 from hl) (by decide), Option.bind_some, tl, D_X1_reckon_288, e1, puS]
theorem rk_step (hs : Sh g) (tx : TxC g t t1 t2 t3 N n NC cc op ar cl) (hn : hi ≤ n) {i : Nat} (hi1 : i < hi) {s : List Int64} (sr : SR g s) (hw : ∀ k, k < 23 → aI g 30 k = w k) (wf1 : op i = 1 → nb (ar i) 22) (wf3 : op i = 3 ∨ op i = 4 → nb (ar i) 400) (m : Nat) :
    (stC op ar w i s = none → ∃ g', Sh g' ∧ Tch [31] g g' ∧ D_X1_reckon_6 (m + 1) g (some 29) (some t) (Int32.ofNat hi) (Int32.ofNat s.length - 1) (Int32.ofNat i) = some (0, g')) ∧
    ∀ i' s', stC op ar w i s = some (i', s') → ∃ g', Sh g' ∧ Tch [31] g g' ∧ SR g' s' ∧ D_X1_reckon_6 (m + 1) g (some 29) (some t) (Int32.ofNat hi) (Int32.ofNat s.length - 1) (Int32.ofNat i) = D_X1_reckon_6 m g' (some 29) (some t) (Int32.ofNat hi) (Int32.ofNat s'.length - 1) (Int32.ofNat i') := by
  rw [rk_head hs tx hn hi1 m]
  have hi4 : i < 400 := by have := tx.2.2.2.2.2.1; omega
  have ls := sr.1
  have e51 : ((51 : Int32) ≤ Int32.ofNat s.length - 1 + 1) ↔ 51 ≤ s.length := by
    rw [l4_up]; exact nat_le (a := 51) (by decide) (by omega)
  have pushcase : ∀ v : Int64, (op i = 0 ∨ op i = 1) → (op i = 0 → v = (ar i).toInt64) → (op i = 1 → v = (w (tn (ar i))).toInt64) → D_X1_reckon_50 (D_X1_reckon_6 m) g (some 29) (some t) (Int32.ofNat hi) (Int32.ofNat s.length - 1) (Int32.ofNat i) (op i) (ar i) = if 51 ≤ s.length then some (0, g) else D_X1_reckon_6 m (puS g s.length v) (some 29) (some t) (Int32.ofNat hi) (Int32.ofNat (v :: s).length - 1) (Int32.ofNat (i + 1)) := fun v ho hv0 hv1 => by
    unfold D_X1_reckon_50
    by_cases c : 51 ≤ s.length
    · rw [if_pos (e51.mpr c), if_pos c]
    · rw [if_neg (fun q => c (e51.mp q)), if_neg c]
      have e74 : D_X1_reckon_74 (D_X1_reckon_6 m) g (some 29) (some t) (Int32.ofNat hi) (Int32.ofNat s.length - 1) (Int32.ofNat i) (op i) (ar i) = D_X1_reckon_6 m (puS g s.length v) (some 29) (some t) (Int32.ofNat hi) (Int32.ofNat (v :: s).length - 1) (Int32.ofNat (i + 1)) := by
        unfold D_X1_reckon_74
        rw [Option.bind_some, l4_up, rdQ_c hs |>.2.2.2.2.2.2.2.2.2.2.2.2 |> fun _ => (by simp only [rdQ_c hs] : z_gQ 1 g (some 29) 1 = some (some 31)), Option.bind_some]
        by_cases c0 : op i = 0
        · rw [if_pos c0, ← hv0 c0]
          exact rk_push hs (by omega) m i v
        · have c1 : op i = 1 := ho.resolve_left c0
          obtain ⟨k, ek, hk⟩ := wf1 c1
          have tk : tn (ar i) = k := by rw [ek]; exact tn_of (by omega)
          have ev : (aI g 30 k).toInt64 = v := by rw [hw k (by omega), hv1 c1, tk]
          rw [if_neg c0, (by simp only [rdQ_c hs] : z_gQ 1 g (some 29) 0 = some (some 30)), Option.bind_some, (by rw [ek]; simp only [rdA_c hs]; exact iR_ofNat (show k < 23 by omega) (by decide) : z_aI .int g (some 30) (ar i) = some (aI g 30 k)), Option.bind_some, ev]
          exact rk_push hs (by omega) m i v
      by_cases c1 : op i = 1
      · obtain ⟨k, ek, hk⟩ := wf1 c1
        rw [if_pos c1, if_pos (by rw [ek]; exact (nat_lt (b := 23) (by omega) (by decide)).mpr (by omega))]
        exact e74
      · rw [if_neg c1]; exact e74
  by_cases c0 : op i = 0
  · rw [if_pos c0, pushcase _ (Or.inl c0) (fun _ => rfl) (fun q => by rw [c0] at q; exact absurd q (by decide))]
    unfold stC
    rw [if_pos c0]
    by_cases c : 51 ≤ s.length
    · rw [if_pos c, if_pos c]
      exact ⟨fun _ => ⟨g, hs, Tch_rfl _ g, rfl⟩, fun i' s' q => by cases q⟩
    · rw [if_neg c, if_neg c]
      refine ⟨fun q => (by cases q), fun i' s' q => ?_⟩
      cases q
      exact ⟨_, Sh_puS hs _ _, puS_T _ _, sr.push (by omega) (puS_a hs _ _), rfl⟩
  rw [if_neg c0]
  by_cases c1 : op i = 1
  · rw [if_pos c1, pushcase _ (Or.inr c1) (fun q => absurd q c0) (fun _ => rfl)]
    unfold stC
    rw [if_neg c0, if_pos c1]
    by_cases c : 51 ≤ s.length
    · rw [if_pos c, if_pos c]
      exact ⟨fun _ => ⟨g, hs, Tch_rfl _ g, rfl⟩, fun i' s' q => by cases q⟩
    · rw [if_neg c, if_neg c]
      refine ⟨fun q => (by cases q), fun i' s' q => ?_⟩
      cases q
      exact ⟨_, Sh_puS hs _ _, puS_T _ _, sr.push (by omega) (puS_a hs _ _), rfl⟩
  rw [if_neg c1]
  cases s with
  | nil =>
    rw [if_neg (by decide)]
    unfold stC
    rw [if_neg c0, if_neg c1]
    exact ⟨fun _ => ⟨g, hs, Tch_rfl _ g, rfl⟩, fun i' s' q => by cases q⟩
  | cons x r =>
    have lr : r.length < 51 := by simp at ls; omega
    have tr : (Int32.ofNat r.length).toNatClampNeg = r.length := tn_of (by omega)
    have rx : z_aJ g (some 31) (Int32.ofNat r.length) = some x := by simp only [rdA_c hs]; rw [iR_ofNat (show r.length < 51 from lr) (by decide), sr.top]
    have wx : ∀ v, z_sJ g (some 31) (Int32.ofNat r.length) v = some (puS g r.length v) := fun v => by simp only [wrA_c hs, iW_ofNat (show r.length < 51 from lr) (by decide), tr, puS]
    have e1 : Int32.ofNat i + 1 = Int32.ofNat (i + 1) := sc_add i 1
    rw [l4_cons, if_pos (by rw [ge0, Int32.toInt_ofNat_of_lt (by omega)]; omega)]
    unfold stC
    rw [if_neg c0, if_neg c1]
    by_cases c2 : op i = 2
    · rw [if_pos c2, rx, Option.bind_some, wx, Option.bind_some]
      simp only [c2, if_true]
      refine ⟨fun q => (by cases q), fun i' s' q => ?_⟩
      cases q
      refine ⟨_, Sh_puS hs _ _, puS_T r.length (1 - x), sr.set hs, ?_⟩
      rw [l4_cons]
      unfold D_X1_reckon_288
      rw [Option.bind_some, e1]
    rw [if_neg c2]
    simp only [c2, if_false]
    by_cases c34 : op i = 3 ∨ op i = 4
    · rw [if_pos c34]
      obtain ⟨k, ek, hk⟩ := wf3 c34
      have tk : tn (ar i) = k := by rw [ek]; exact tn_of (by omega)
      have e150 : D_X1_reckon_150 (D_X1_reckon_6 m) g (some 29) (some t) (Int32.ofNat hi) (Int32.ofNat r.length) (Int32.ofNat i) (op i) (ar i) = if x = (if op i = 4 then 1 else 0) then D_X1_reckon_6 m g (some 29) (some t) (Int32.ofNat hi) (Int32.ofNat r.length) (Int32.ofNat (max (i + 1) k)) else D_X1_reckon_6 m g (some 29) (some t) (Int32.ofNat hi) (Int32.ofNat r.length - 1) (Int32.ofNat (i + 1)) := by
        have h168 : ∀ b : Int32, ∀ B : Int64, b.toInt64 = B → D_X1_reckon_168 (D_X1_reckon_6 m) g (some 29) (some t) (Int32.ofNat hi) (Int32.ofNat r.length) (Int32.ofNat i) (ar i) x b = if x = B then D_X1_reckon_6 m g (some 29) (some t) (Int32.ofNat hi) (Int32.ofNat r.length) (Int32.ofNat (max (i + 1) k)) else D_X1_reckon_6 m g (some 29) (some t) (Int32.ofNat hi) (Int32.ofNat r.length - 1) (Int32.ofNat (i + 1)) := fun b B eb => by
          unfold D_X1_reckon_168 D_X1_reckon_288
          rw [eb]
          by_cases c : x = B
          · rw [if_pos ((lg_zero _ _).mpr c), if_pos c, Option.bind_some, Option.bind_some, ek, jmp_to hi4 hk]
          · rw [if_neg (fun q => c ((lg_zero _ _).mp q)), if_neg c, Option.bind_some, Option.bind_some, e1, show Int32.ofNat r.length + (-1) = Int32.ofNat r.length - 1 from (Int32.sub_eq_add_neg _ _).symm]
        unfold D_X1_reckon_150
        rw [(by simp only [rdQ_c hs] : z_gQ 1 g (some 29) 1 = some (some 31)), Option.bind_some, rx, Option.bind_some]
        by_cases c4 : op i = 4
        · rw [if_pos c4, if_pos c4]; exact h168 1 1 (by decide)
        · rw [if_neg c4, if_neg c4]; exact h168 0 0 (by decide)
      have ee : (if op i = 3 then D_X1_reckon_150 (D_X1_reckon_6 m) g (some 29) (some t) (Int32.ofNat hi) (Int32.ofNat r.length) (Int32.ofNat i) (op i) (ar i) else if op i = 4 then D_X1_reckon_150 (D_X1_reckon_6 m) g (some 29) (some t) (Int32.ofNat hi) (Int32.ofNat r.length) (Int32.ofNat i) (op i) (ar i) else if Int32.ofNat r.length < 1 then some (0, g) else (z_aJ g (some 31) (Int32.ofNat r.length)).bind fun x => if lg_cmp x 0 = 0 then (if op i = 8 then some (0, g) else if op i = 9 then some (0, g) else D_X1_reckon_227 (D_X1_reckon_6 m) g (some 29) (some t) (Int32.ofNat hi) (Int32.ofNat r.length) (Int32.ofNat i) (op i)) else D_X1_reckon_227 (D_X1_reckon_6 m) g (some 29) (some t) (Int32.ofNat hi) (Int32.ofNat r.length) (Int32.ofNat i) (op i)) = D_X1_reckon_150 (D_X1_reckon_6 m) g (some 29) (some t) (Int32.ofNat hi) (Int32.ofNat r.length) (Int32.ofNat i) (op i) (ar i) := by
        rcases c34 with q | q
        · rw [if_pos q]
        · rw [if_neg (by rw [q]; decide), if_pos q]
      rw [ee, e150, tk]
      by_cases c : x = (if op i = 4 then 1 else 0)
      · rw [if_pos c, if_pos c]
        refine ⟨fun q => (by cases q), fun i' s' q => ?_⟩
        cases q
        exact ⟨g, hs, Tch_rfl _ g, sr, by rw [l4_cons]⟩
      · rw [if_neg c, if_neg c]
        refine ⟨fun q => (by cases q), fun i' s' q => ?_⟩
        cases q
        exact ⟨g, hs, Tch_rfl _ g, sr.tl, rfl⟩
    · rw [if_neg c34, if_neg (fun q => c34 (Or.inl q)), if_neg (fun q => c34 (Or.inr q))]
      cases r with
      | nil =>
        rw [if_pos (by decide)]
        exact ⟨fun _ => ⟨g, hs, Tch_rfl _ g, rfl⟩, fun i' s' q => by cases q⟩
      | cons y r2 =>
        have l2 : r2.length < 50 := by simp at lr; omega
        rw [if_neg (by
          rw [show (1 : Int32) = Int32.ofNat 1 from rfl, nat_lt (by simp; omega) (by decide)]
          simp), rx, Option.bind_some]
        have t2' : (Int32.ofNat r2.length).toNatClampNeg = r2.length := tn_of (by omega)
        have em : Int32.ofNat (y :: r2).length + (-1) = Int32.ofNat r2.length := by rw [← l4_cons y r2]; exact (Int32.sub_eq_add_neg _ _).symm
        have ep : Int32.ofNat r2.length + 1 = Int32.ofNat (y :: r2).length := by rw [List.length_cons]; exact sc_add _ 1
        have ry : z_aJ g (some 31) (Int32.ofNat r2.length) = some y := by simp only [rdA_c hs]; rw [iR_ofNat (show r2.length < 51 by omega) (by decide), sr.tl.top]
        have wy : ∀ v, z_sJ g (some 31) (Int32.ofNat r2.length) v = some (puS g r2.length v) := fun v => by simp only [wrA_c hs, iW_ofNat (show r2.length < 51 by omega) (by decide), t2', puS]
        have ss : ∀ v, Sh (puS g r2.length v) := fun v => Sh_puS hs _ _
        have rv : ∀ v, z_aJ (puS g r2.length v) (some 31) (Int32.ofNat r2.length) = some v := fun v => by
          simp only [rdA_c (ss v)]
          rw [iR_ofNat (show r2.length < 51 by omega) (by decide), puS_a hs]
          simp [vp_updL]
        have e227 : D_X1_reckon_227 (D_X1_reckon_6 m) g (some 29) (some t) (Int32.ofNat hi) (Int32.ofNat (y :: r2).length) (Int32.ofNat i) (op i) = if -1000000000 ≤ (jn (op i) y x).toInt ∧ (jn (op i) y x).toInt ≤ 1000000000 then D_X1_reckon_6 m (puS g r2.length (jn (op i) y x)) (some 29) (some t) (Int32.ofNat hi) (Int32.ofNat r2.length) (Int32.ofNat (i + 1)) else some (0, puS g r2.length (jn (op i) y x)) := by
          unfold D_X1_reckon_227
          simp only [em, Option.bind_some, rdQ_c hs, ry, ep, rx, d_joined, wy, rdQ_c (ss _), rv]
          have b1 : (0 < lg_cmp (jn (op i) y x) 1000000000) ↔ 1000000000 < (jn (op i) y x).toInt := by rw [lg_pos]; exact Iff.rfl
          have b2 : (0 ≤ lg_cmp (jn (op i) y x) (-1000000000)) ↔ ¬ (jn (op i) y x).toInt < -1000000000 := by rw [lg_nonneg]; exact Iff.rfl
          by_cases d1 : 1000000000 < (jn (op i) y x).toInt
          · rw [if_pos (b1.mpr d1), if_neg (by omega)]
          · rw [if_neg (fun q => d1 (b1.mp q))]
            by_cases d2 : (jn (op i) y x).toInt < -1000000000
            · rw [if_neg (fun q => (b2.mp q) d2), if_neg (by omega)]
            · rw [if_pos (b2.mpr d2), if_pos (by omega)]
              unfold D_X1_reckon_288
              rw [Option.bind_some, e1]
        have fin : (if -1000000000 ≤ (jn (op i) y x).toInt ∧ (jn (op i) y x).toInt ≤ 1000000000 then some (i + 1, jn (op i) y x :: r2) else none : Option (Nat × List Int64)) = none → ∃ g', Sh g' ∧ Tch [31] g g' ∧ D_X1_reckon_227 (D_X1_reckon_6 m) g (some 29) (some t) (Int32.ofNat hi) (Int32.ofNat (y :: r2).length) (Int32.ofNat i) (op i) = some (0, g') := fun q => by
          rw [e227]
          by_cases c : -1000000000 ≤ (jn (op i) y x).toInt ∧ (jn (op i) y x).toInt ≤ 1000000000
          · rw [if_pos c] at q; cases q
          · rw [if_neg c]; exact ⟨_, ss _, puS_T _ _, rfl⟩
        have fin2 : ∀ i' s', (if -1000000000 ≤ (jn (op i) y x).toInt ∧ (jn (op i) y x).toInt ≤ 1000000000 then some (i + 1, jn (op i) y x :: r2) else none : Option (Nat × List Int64)) = some (i', s') → ∃ g', Sh g' ∧ Tch [31] g g' ∧ SR g' s' ∧ D_X1_reckon_227 (D_X1_reckon_6 m) g (some 29) (some t) (Int32.ofNat hi) (Int32.ofNat (y :: r2).length) (Int32.ofNat i) (op i) = D_X1_reckon_6 m g' (some 29) (some t) (Int32.ofNat hi) (Int32.ofNat s'.length - 1) (Int32.ofNat i') := fun i' s' q => by
          rw [e227]
          by_cases c : -1000000000 ≤ (jn (op i) y x).toInt ∧ (jn (op i) y x).toInt ≤ 1000000000
          · rw [if_pos c] at q
            cases q
            rw [if_pos c]
            exact ⟨_, ss _, puS_T _ _, sr.tl.set hs, by rw [l4_cons]⟩
          · rw [if_neg c] at q; cases q
        dsimp only
        by_cases cx : x = 0
        · rw [if_pos ((lg_zero _ _).mpr cx)]
          by_cases c8 : op i = 8
          · rw [if_pos c8, if_pos ⟨cx, Or.inl c8⟩]
            exact ⟨fun _ => ⟨g, hs, Tch_rfl _ g, rfl⟩, fun i' s' q => by cases q⟩
          rw [if_neg c8]
          by_cases c9 : op i = 9
          · rw [if_pos c9, if_pos ⟨cx, Or.inr c9⟩]
            exact ⟨fun _ => ⟨g, hs, Tch_rfl _ g, rfl⟩, fun i' s' q => by cases q⟩
          rw [if_neg c9, if_neg (fun q => q.2.elim c8 c9)]
          exact ⟨fin, fin2⟩
        · rw [if_neg (fun q => cx ((lg_zero _ _).mp q)), if_neg (fun q => cx q.1)]
          exact ⟨fin, fin2⟩
end RK
