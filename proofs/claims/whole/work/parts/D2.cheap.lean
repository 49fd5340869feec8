/-! least, in the class: the cheapest place -/
section CH
variable {g : z_H} {cst : Nat → Nat} {set : Nat → Bool}
theorem bR {a n : Nat} (hs : Sh g) (sa : shpL[a]? = some (.inl (.boolean, n))) {i : Nat} (hi : i < n) (hn : n ≤ 2 ^ 31) : z_aI .boolean g (some a) (Int32.ofNat i) = some (aI g a i) := by
  rw [s_aI hs (Or.inr rfl) sa, iR_ofNat hi hn]
theorem bW {a n : Nat} (hs : Sh g) (sa : shpL[a]? = some (.inl (.boolean, n))) {i : Nat} (hi : i < n) (hn : n ≤ 2 ^ 31) (b : Bool) : z_sZ g (some a) (Int32.ofNat i) (b01 b) = some (wA g a (upd (aI g a) i (b01 b))) := by
  rw [s_sZ hs sa, iW_ofNat hi hn, tn_of' (by omega)]
  cases b <;> rfl
def chS (cst : Nat → Nat) (set : Nat → Bool) (i : Nat) (o : Option Nat) : Prop := match o with
  | none => ∀ x, x < i → set x = false → FC ≤ cst x
  | some u => u < i ∧ set u = false ∧ cst u < FC ∧ ∀ x, x < i → set x = false → cst u ≤ cst x
theorem c_cheapest (hs : Sh g) (ac : ∀ k, k < 100 → aI g 51 k = Int32.ofNat (cst k)) (cb : ∀ k, k < 100 → cst k ≤ FC) (as : ∀ k, k < 100 → aI g 52 k = b01 (set k)) : ∃ o, chS cst set 100 o ∧ D_X4_cheapest g (some 46) = some (enc o, g) := by
  have q5 : z_gQ 4 g (some 46) 5 = some (some 51) := s_gQ hs rfl rfl
  have q6 : z_gQ 4 g (some 46) 6 = some (some 52) := s_gQ hs rfl rfl
  have rd : ∀ {i}, i < 100 → z_aI .int g (some 51) (Int32.ofNat i) = some (Int32.ofNat (cst i)) := fun {i} hi => by rw [aR hs (n := 100) rfl hi (by decide), ac i hi]
  have lp := loop_up (S := Option Nat) (I := fun i o => chS cst set i o) (F := fun m o i => D_X4_cheapest_4 m g (some 46) (enc o) (Int32.ofNat i)) (G := fun o => some (enc o, g)) (N := 100) (fun m o _ => ?_) (fun m o i hi I => ?_) 100 0 z_F none (by decide) (by decide) (by show _ < 1000000; decide) (fun x hx => by omega)
  · obtain ⟨o, I, e⟩ := lp
    exact ⟨o, I, e⟩
  · show D_X4_cheapest_4b _ g (some 46) (enc o) (Int32.ofNat 100) = _
    unfold D_X4_cheapest_4b
    rw [if_pos (by decide)]
  · show ∃ o', _ ∧ D_X4_cheapest_4b (D_X4_cheapest_4 m) g (some 46) (enc o) (Int32.ofNat i) = _
    have ii : Int32.ofNat i + 1 = Int32.ofNat (i + 1) := sc_add i 1
    have ci := cb i hi
    unfold D_X4_cheapest_4b D_X4_cheapest_41 D_X4_cheapest_46
    rw [if_neg (show ¬ (100 : Int32) ≤ Int32.ofNat i from fun z => by have := (nat_le (a := 100) (b := i) (by decide) (by omega)).mp z; omega), q6, Option.bind_some, bR hs (n := 100) rfl hi (by decide), as i hi, Option.bind_some]
    cases q : set i
    · rw [if_pos (show b01 false = 0 from rfl), q5, Option.bind_some, rd hi, Option.bind_some]
      cases o with
      | none =>
        rw [if_pos (show enc none = -1 from rfl)]
        by_cases c : FC ≤ cst i
        · rw [if_pos (show (1000000 : Int32) ≤ Int32.ofNat (cst i) from (nat_le (a := 1000000) (by decide) (by unfold FC at *; omega)).mpr c), Option.bind_some, ii]
          refine ⟨none, fun x hx sx => ?_, rfl⟩
          by_cases w : x = i
          · rw [w]; exact c
          · exact I x (by omega) sx
        · rw [if_neg (show ¬ (1000000 : Int32) ≤ Int32.ofNat (cst i) from fun z => c ((nat_le (a := 1000000) (by decide) (by unfold FC at *; omega)).mp z)), Option.bind_some, ii]
          refine ⟨some i, ⟨by omega, q, by omega, fun x hx sx => ?_⟩, rfl⟩
          by_cases w : x = i
          · rw [w]; exact Nat.le_refl _
          · have := I x (by omega) sx
            omega
      | some u =>
        obtain ⟨u1, u2, u3, u4⟩ := I
        rw [if_neg (show ¬ enc (some u) = -1 from of_nm1 (by omega)), Option.bind_some, show enc (some u) = Int32.ofNat u from rfl, rd (by omega), Option.bind_some]
        by_cases c : cst u ≤ cst i
        · rw [if_pos ((nat_le (by unfold FC at *; omega) (by unfold FC at *; omega)).mpr c), Option.bind_some, ii]
          refine ⟨some u, ⟨by omega, u2, u3, fun x hx sx => ?_⟩, rfl⟩
          by_cases w : x = i
          · rw [w]; exact c
          · exact u4 x (by omega) sx
        · rw [if_neg (fun z => c ((nat_le (by unfold FC at *; omega) (by unfold FC at *; omega)).mp z)), Option.bind_some, ii]
          refine ⟨some i, ⟨by omega, q, by omega, fun x hx sx => ?_⟩, rfl⟩
          by_cases w : x = i
          · rw [w]; exact Nat.le_refl _
          · have := u4 x (by omega) sx
            omega
    · rw [if_neg (show ¬ b01 true = 0 by decide), Option.bind_some, ii]
      refine ⟨o, ?_, rfl⟩
      cases o with
      | none =>
        intro x hx sx
        by_cases w : x = i
        · rw [w, q] at sx; cases sx
        · exact I x (by omega) sx
      | some u =>
        obtain ⟨u1, u2, u3, u4⟩ := I
        refine ⟨by omega, u2, u3, fun x hx sx => ?_⟩
        by_cases w : x = i
        · rw [w, q] at sx; cases sx
        · exact u4 x (by omega) sx
end CH
