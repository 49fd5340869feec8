/-! numbers: parts and rests; what is reckoned stays small -/
theorem sc_div {a b : Nat} (ha : a < 2 ^ 31) (hb : b < 2 ^ 31) (h0 : 0 < b) : Int32.ofNat a / Int32.ofNat b = Int32.ofNat (a / b) := by
  have hq : a / b < 2 ^ 31 := Nat.lt_of_le_of_lt (Nat.div_le_self a b) ha
  apply Int32.toInt_inj.mp
  rw [Int32.toInt_div, Int32.toInt_ofNat_of_lt ha, Int32.toInt_ofNat_of_lt hb, Int32.toInt_ofNat_of_lt hq]
  obtain ⟨d, hd⟩ : ∃ d, a / b = d := ⟨_, rfl⟩
  have e : (a : Int).tdiv (b : Int) = (d : Int) := by rw [← hd]; rfl
  rw [e, hd]
  rw [hd] at hq
  apply Int.bmod_eq_of_le <;> omega
theorem sc_mod {a b : Nat} (ha : a < 2 ^ 31) (hb : b < 2 ^ 31) (h0 : 0 < b) : Int32.ofNat a - Int32.ofNat a / Int32.ofNat b * Int32.ofNat b = Int32.ofNat (a % b) := by
  rw [sc_div ha hb h0, sc_mul]
  have := Nat.div_add_mod a b
  have e : a / b * b = b * (a / b) := Nat.mul_comm _ _
  rw [sc_sub (by omega)]
  congr 1
  omega
section BD
variable {op ar cl w : Nat → Int32} {hi : Nat}
def inB (i : Nat) (x : Int64) : Prop := -(1000000000 + (i : Int)) ≤ x.toInt ∧ x.toInt ≤ 1000000000 + (i : Int)
theorem inB.up {i j : Nat} {x : Int64} (h : inB i x) (hij : i ≤ j) : inB j x := by unfold inB at h ⊢; omega
theorem inB_of32 {x : Int32} (h : -1000000000 ≤ x.toInt ∧ x.toInt ≤ 1000000000) (i : Nat) : inB i x.toInt64 := by
  unfold inB; rw [wide]; omega
theorem stC_bd {i i' : Nat} {s s' : List Int64} (h0 : op i = 0 → nb (ar i) 1000) (h1 : op i = 1 → -1000000000 ≤ (w (tn (ar i))).toInt ∧ (w (tn (ar i))).toInt ≤ 1000000000) (hi : i < 400) (e : stC op ar w i s = some (i', s')) (up : i < i') (hs : ∀ x ∈ s, inB i x) : ∀ x ∈ s', inB i' x := by
  have old : ∀ x ∈ s, inB i' x := fun x hx => (hs x hx).up (by omega)
  unfold stC at e
  by_cases c0 : op i = 0
  · rw [if_pos c0] at e
    by_cases c : 51 ≤ s.length
    · rw [if_pos c] at e; cases e
    · rw [if_neg c] at e; cases e
      intro x hx
      rcases List.mem_cons.mp hx with rfl | hx
      · exact inB_of32 (by have := (h0 c0).int (by decide); omega) _
      · exact old x hx
  · rw [if_neg c0] at e
    by_cases c1 : op i = 1
    · rw [if_pos c1] at e
      by_cases c : 51 ≤ s.length
      · rw [if_pos c] at e; cases e
      · rw [if_neg c] at e; cases e
        intro x hx
        rcases List.mem_cons.mp hx with rfl | hx
        · exact inB_of32 (h1 c1) _
        · exact old x hx
    · rw [if_neg c1] at e
      cases s with
      | nil => cases e
      | cons y r =>
        dsimp only at e
        by_cases c2 : op i = 2
        · rw [if_pos c2] at e; cases e
          intro x hx
          rcases List.mem_cons.mp hx with rfl | hx
          · have hy := hs y (List.mem_cons_self ..)
            have e1 : (1 : Int64).toInt = 1 := by decide
            unfold inB at hy ⊢
            have : (1 - y).toInt = 1 - y.toInt := by
              rw [Int64.toInt_sub, e1]
              apply Int.bmod_eq_of_le <;> omega
            rw [this]; omega
          · exact old x (List.mem_cons_of_mem _ hx)
        · rw [if_neg c2] at e
          by_cases c34 : op i = 3 ∨ op i = 4
          · rw [if_pos c34] at e
            by_cases cx : y = (if op i = 4 then 1 else 0)
            · rw [if_pos cx] at e; cases e; exact old
            · rw [if_neg cx] at e; cases e; exact fun x hx => old x (List.mem_cons_of_mem _ hx)
          · rw [if_neg c34] at e
            cases r with
            | nil => cases e
            | cons z r2 =>
              dsimp only at e
              split at e
              · cases e
              · split at e
                · rename_i hb
                  cases e
                  intro x hx
                  rcases List.mem_cons.mp hx with rfl | hx
                  · unfold inB; omega
                  · exact old x (List.mem_cons_of_mem _ (List.mem_cons_of_mem _ hx))
                · cases e
theorem runC_bd (h4 : hi ≤ 400) (h0 : ∀ i, i < hi → op i = 0 → nb (ar i) 1000) (h1 : ∀ i, i < hi → op i = 1 → -1000000000 ≤ (w (tn (ar i))).toInt ∧ (w (tn (ar i))).toInt ≤ 1000000000) (h3 : ∀ i, i < hi → (op i = 3 ∨ op i = 4 → nb (ar i) 400)) : ∀ (k i : Nat) (s s' : List Int64), i ≤ 400 → (∀ x ∈ s, inB i x) → runC op ar w hi k i s = some s' → ∀ x ∈ s', inB 400 x := by
  intro k
  induction k with
  | zero => intro i s s' _ _ e; cases e
  | succ k ih =>
    intro i s s' hi4 hs e
    unfold runC at e
    by_cases c : hi ≤ i
    · rw [if_pos c] at e
      cases e
      exact fun x hx => (hs x hx).up hi4
    · rw [if_neg c] at e
      cases es : stC op ar w i s with
      | none => rw [es] at e; cases e
      | some p =>
        obtain ⟨i', s1⟩ := p
        rw [es, Option.bind_some] at e
        have up := stC_up es (by omega) (h3 i (by omega))
        exact ih i' s1 s' up.2 (stC_bd (h0 i (by omega)) (h1 i (by omega)) (by omega) es up.1 hs) e
theorem inB_one : inB 400 (1 : Int64) := by
  have e1 : (1 : Int64).toInt = 1 := by decide
  unfold inB; rw [e1]; omega
theorem botJ_bd {s : List Int64} (h : ∀ x ∈ s, inB 400 x) : inB 400 (botJ s) := by
  unfold botJ
  cases e : s.getLast? with
  | none => exact inB_one
  | some v => exact h v (List.mem_of_getLast? e)
theorem lastC_bd {n cc : Nat} (h4 : n ≤ 400) (co : clOK n cc cl) (h0 : ∀ i, i < n → op i = 0 → nb (ar i) 1000) (h1 : ∀ i, i < n → op i = 1 → -1000000000 ≤ (w (tn (ar i))).toInt ∧ (w (tn (ar i))).toInt ≤ 1000000000) (h3 : ∀ i, i < n → (op i = 3 ∨ op i = 4 → nb (ar i) 400)) (verb : Int32) : ∀ c, c ≤ cc → ∀ v, lastC op ar cl w verb c = some v → inB 400 v := by
  intro c
  induction c with
  | zero => intro _ v e; cases e
  | succ c ih =>
    intro hc v e
    obtain ⟨b2, b3, b4, b5⟩ := co c (by omega)
    unfold lastC at e
    by_cases cv : cl (6 * c) = verb
    · rw [if_pos cv] at e
      cases eh : hC op ar cl w c with
      | none => rw [eh] at e; exact ih (by omega) v e
      | some x =>
        rw [eh] at e
        cases e
        unfold hC at eh
        split at eh
        · cases eh
        · split at eh
          · have hn := (b3.tn (by omega)).2
            cases ee : evC op ar w (tn (cl (6 * c + 2))) (tn (cl (6 * c + 3))) with
            | none => rw [ee] at eh; cases eh
            | some s =>
              rw [ee] at eh
              cases eh
              have b2' := (b2.tn (by omega)).2
              exact botJ_bd (runC_bd (by omega) (fun i hi => h0 i (by omega)) (fun i hi => h1 i (by omega)) (fun i hi => h3 i (by omega)) 401 _ [] s (by omega) (fun x hx => by cases hx) ee)
          · cases eh
    · rw [if_neg cv] at e
      exact ih (by omega) v e
end BD
section BD2
variable {g : z_H} {m w : Nat → Int32} {n c : Nat} {op ar cl : Nat → Int32}
theorem LR.n1000 (H : LR n c op ar cl m) {i : Nat} (hi : i < n) (e : op i = 0) : nb (ar i) 1000 := by
  obtain ⟨-, -, f, C, -⟩ := H
  obtain ⟨P, -⟩ := C.2.2 i hi
  rcases P with ⟨-, -, -, q⟩ | ⟨q, -⟩ | ⟨q, -⟩ | ⟨q, -⟩ | ⟨q, -⟩ | ⟨q, -⟩ | ⟨o, h5, h12, q, -⟩
  · exact q
  · rw [e] at q; exact absurd q (by decide)
  · rw [e] at q; exact absurd q (by decide)
  · rw [e] at q; exact absurd q (by decide)
  · rw [e] at q; exact absurd q (by decide)
  · rcases q with ⟨q, -⟩ | ⟨q, -⟩ <;> rw [e] at q <;> exact absurd q (by decide)
  · rw [e] at q; exact absurd q (op_not (c := 0) h5 h12 (by decide))
theorem tell_bd {k : Int32} {law : Option Nat} {T : LawT} (lr : LawR g m k law T) (hw : ∀ k, k < 9 → -1000000000 ≤ (w k).toInt ∧ (w k).toInt ≤ 1000000000) {head : Nat} {v : Int64} (e : tell T head w = some v) : inB 400 v := by
  rcases lr with ⟨-, rfl, rfl⟩ | ⟨q, t, n, c, op, ar, cl, -, -, rfl, rfl, X, R⟩
  · cases e
  · exact lastC_bd R.n4 (LR_cl R) (fun i hi e => R.n1000 hi e) (fun i hi e => hw _ (R.w9 hi e)) (fun i hi => (R.wf i hi).2) _ c (Nat.le_refl _) v e
/-- put between 0 and hi -/
def clampV (hi : Nat) (v : Int64) : Int32 := if v.toInt < 0 then 0 else if (hi : Int) < v.toInt then Int32.ofNat hi else v.toInt32
theorem clamp_nb {hi : Nat} (hh : hi < 2 ^ 31) (v : Int64) : nb (clampV hi v) hi := by
  unfold clampV
  by_cases c1 : v.toInt < 0
  · rw [if_pos c1]; exact ⟨0, rfl, by omega⟩
  · rw [if_neg c1]
    by_cases c2 : (hi : Int) < v.toInt
    · rw [if_pos c2]; exact ⟨hi, rfl, Nat.le_refl _⟩
    · rw [if_neg c2]
      have e : v.toInt32.toInt = v.toInt := by
        rw [Int64.toInt_toInt32]
        apply Int.bmod_eq_of_le <;> omega
      refine nb_of ?_ ?_ <;> rw [e] <;> omega
theorem d_bounded (v : Int64) {hi : Nat} (hh : hi < 2 ^ 31) : D_X11_bounded g v 0 (Int32.ofNat hi) = some (clampV hi v, g) := by
  unfold D_X11_bounded clampV
  have e0 : (0 : Int32).toInt64.toInt = 0 := by decide
  have e1 : (Int32.ofNat hi).toInt64.toInt = hi := by rw [wide, Int32.toInt_ofNat_of_lt hh]
  by_cases c1 : v.toInt < 0
  · rw [if_neg (fun q => by have := (lg_nonneg _ _).mp q; rw [e0] at this; omega), if_pos c1]
  · rw [if_pos ((lg_nonneg _ _).mpr (by rw [e0]; exact c1)), if_neg c1]
    by_cases c2 : (hi : Int) < v.toInt
    · rw [if_neg (fun q => by have := (lg_nonpos _ _).mp q; rw [e1] at this; omega), if_pos c2]
    · rw [if_pos ((lg_nonpos _ _).mpr (by rw [e1]; exact c2)), if_neg c2]
theorem c_clamp {v : Int64} (b : inB 400 v) {hi : Nat} (hh : hi < 2 ^ 31) (h0 : 0 < hi) : (if (0 : Int32) < (if v.toInt32 < Int32.ofNat hi then v.toInt32 else Int32.ofNat hi) then (if v.toInt32 < Int32.ofNat hi then v.toInt32 else Int32.ofNat hi) else 0) = clampV hi v := by
  unfold inB at b
  have e : v.toInt32.toInt = v.toInt := by
    rw [Int64.toInt_toInt32]
    apply Int.bmod_eq_of_le <;> omega
  have e1 : (Int32.ofNat hi).toInt = hi := Int32.toInt_ofNat_of_lt hh
  have e0 : (0 : Int32).toInt = 0 := by decide
  have l1 : v.toInt32 < Int32.ofNat hi ↔ v.toInt < hi := by rw [Int32.lt_iff_toInt_lt, e, e1]
  have l2 : (0 : Int32) < v.toInt32 ↔ 0 < v.toInt := by rw [Int32.lt_iff_toInt_lt, e, e0]
  have l3 : (0 : Int32) < Int32.ofNat hi := by rw [Int32.lt_iff_toInt_lt, e1, e0]; omega
  unfold clampV
  by_cases c1 : v.toInt < hi
  · rw [if_pos (l1.mpr c1)]
    by_cases c2 : v.toInt < 0
    · rw [if_neg (fun q => by have := l2.mp q; omega), if_pos c2]
    · rw [if_neg c2, if_neg (show ¬ (hi : Int) < v.toInt by omega)]
      by_cases c3 : 0 < v.toInt
      · rw [if_pos (l2.mpr c3)]
      · rw [if_neg (fun q => c3 (l2.mp q))]
        apply Int32.toInt_inj.mp
        rw [e, e0]; omega
  · rw [if_neg (fun q => c1 (l1.mp q)), if_pos l3, if_neg (by omega)]
    by_cases c2 : (hi : Int) < v.toInt
    · rw [if_pos c2]
    · rw [if_neg c2]
      apply Int32.toInt_inj.mp
      rw [e, e1]; omega
end BD2
