/-! THE LAW'S LOOP: over any invariant that each of the calls keeps, answers being equal -/
def Agree {α : Type} (I : Nat → z_H → Prop) (j : Nat) (h : z_H) (A B : z_H → Option (α × z_H)) : Prop := ∃ (r : α) (h1 h2 : z_H), A h = some (r, h1) ∧ (z_ob 11 h1 (some 81)).isSome = true ∧ B h1 = some (r, h2) ∧ I (j + 1) h2
def Calls43 (I : Nat → z_H → Prop) (j : Nat) (h : z_H) : Prop := ((z_ob 10 h (some 0)).isSome = true) ∧ (∀ a b c : Int32, Agree I j h (fun h => D_X10_pair h (some 0) a b c) (fun h => D_X11_pair h (some 81) a b c)) ∧ (∀ a b : Int32, Agree I j h (fun h => D_X10_of h (some 0) a b) (fun h => D_X11_of h (some 81) a b)) ∧ (∀ a b : Int32, Agree I j h (fun h => D_X10_wall h (some 0) a b) (fun h => D_X11_wall h (some 81) a b)) ∧ (Agree I j h (fun h => D_X10_walls h (some 0) ) (fun h => D_X11_walls h (some 81) )) ∧ (∀ a b c : Int32, Agree I j h (fun h => D_X10_asks h (some 0) a b c) (fun h => D_X11_asks h (some 81) a b c)) ∧ (∀ a b : Int32, Agree I j h (fun h => D_X10_terms h (some 0) a b) (fun h => D_X11_terms h (some 81) a b)) ∧ (∀ a b c d e : Int32, Agree I j h (fun h => D_X10_feed h (some 0) a b c d e) (fun h => D_X11_feed h (some 81) a b c d e)) ∧ (∀ a : Int32, Agree I j h (fun h => D_X10_end h (some 0) a) (fun h => D_X11_end h (some 81) a)) ∧ (Agree I j h (fun h => D_X10_row h (some 0) ) (fun h => D_X11_row h (some 81) )) ∧ (Agree I j h (fun h => D_X10_brads h (some 0) ) (fun h => D_X11_brads h (some 81) )) ∧ (Agree I j h (fun h => D_X10_law h (some 0) ) (fun h => D_X11_law h (some 81) )) ∧ (Agree I j h (fun h => D_X10_orders h (some 0) ) (fun h => D_X11_orders h (some 81) )) ∧ (Agree I j h (fun h => D_X10_fault h (some 0) ) (fun h => D_X11_fault h (some 81) )) ∧ (Agree I j h (fun h => D_X10_stopped h (some 0) ) (fun h => D_X11_stopped h (some 81) )) ∧ (∀ a : Int32, Agree I j h (fun h => D_X10_force h (some 0) a) (fun h => D_X11_force h (some 81) a)) ∧ (∀ a : Int32, Agree I j h (fun h => D_X10_step h (some 0) a) (fun h => D_X11_step h (some 81) a)) ∧ (∀ a b : Int32, Agree I j h (fun h => D_X10_turn h (some 0) a b) (fun h => D_X11_turn h (some 81) a b)) ∧ (∀ a : Int32, Agree I j h (fun h => D_X10_pause h (some 0) a) (fun h => D_X11_pause h (some 81) a)) ∧ (∀ a b : Int32, Agree I j h (fun h => D_X10_mend h (some 0) a b) (fun h => D_X11_mend h (some 81) a b)) ∧ (Agree I j h (fun h => D_X10_pass h (some 0) ) (fun h => D_X11_pass h (some 81) )) ∧ (Agree I j h (fun h => D_X10_undo h (some 0) ) (fun h => D_X11_undo h (some 81) )) ∧ (∀ a b c d : Int32, Agree I j h (fun h => D_X10_ways h (some 0) a b c d) (fun h => D_X11_ways h (some 81) a b c d)) ∧ (∀ a b c d : Int32, Agree I j h (fun h => D_X10_ends h (some 0) a b c d) (fun h => D_X11_ends h (some 81) a b c d)) ∧ (∀ a b c : Int32, Agree I j h (fun h => D_X10_way h (some 0) a b c) (fun h => D_X11_way h (some 81) a b c)) ∧ (∀ a b : Int32, Agree I j h (fun h => D_X10_least h (some 0) a b) (fun h => D_X11_least h (some 81) a b)) ∧ (∀ a b c : Int32, Agree I j h (fun h => D_X10_chance h (some 0) a b c) (fun h => D_X11_chance h (some 81) a b c)) ∧ (∀ a b : Int32, Agree I j h (fun h => D_X10_within h (some 0) a b) (fun h => D_X11_within h (some 81) a b)) ∧ (∀ a : Int32, Agree I j h (fun h => D_X10_couples h (some 0) a) (fun h => D_X11_couples h (some 81) a)) ∧ (∀ a : Int32, Agree I j h (fun h => D_X10_likest h (some 0) a) (fun h => D_X11_likest h (some 81) a)) ∧ (∀ a b : Int32, Agree I j h (fun h => D_X10_lasts h (some 0) a b) (fun h => D_X11_lasts h (some 81) a b)) ∧ (∀ a b : Int32, Agree I j h (fun h => D_X10_seen h (some 0) a b) (fun h => D_X11_seen h (some 81) a b)) ∧ (Agree I j h (fun h => D_X10_forget h (some 0) ) (fun h => D_X11_forget h (some 81) )) ∧ (Agree I j h (fun h => D_X10_canBe h (some 0) ) (fun h => D_X11_canBe h (some 81) )) ∧ (∀ a : Int32, Agree I j h (fun h => D_X10_look h (some 0) a) (fun h => D_X11_look h (some 81) a)) ∧ (Agree I j h (fun h => D_X10_cutOff h (some 0) ) (fun h => D_X11_cutOff h (some 81) )) ∧ (∀ a b : Int32, Agree I j h (fun h => D_X10_few h (some 0) a b) (fun h => D_X11_few h (some 81) a b)) ∧ (∀ a b c : Int32, Agree I j h (fun h => D_X10_compare h (some 0) a b c) (fun h => D_X11_compare h (some 81) a b c)) ∧ (∀ a b : Int32, Agree I j h (fun h => D_X10_years h (some 0) a b) (fun h => D_X11_years h (some 81) a b)) ∧ (∀ a b : Int32, Agree I j h (fun h => D_X10_drawn h (some 0) a b) (fun h => D_X11_drawn h (some 81) a b)) ∧ (∀ a : Int32, Agree I j h (fun h => D_X10_image h (some 0) a) (fun h => D_X11_image h (some 81) a)) ∧ (∀ a : Int32, Agree I j h (fun h => D_X10_back h (some 0) a) (fun h => D_X11_back h (some 81) a)) ∧ (∀ a : Int32, Agree I j h (fun h => D_X10_count h (some 0) a) (fun h => D_X11_count h (some 81) a)) ∧ (Agree I j h (fun h => D_X10_status h (some 0) ) (fun h => D_X11_status h (some 81) )) ∧ I (j + 1) h
theorem lg_same (x : Int64) : lg_cmp x x = 0 := by
  unfold lg_cmp
  rw [if_neg (by simp [Int64.lt_irrefl]), if_pos rfl]
theorem sc_rd {L : Nat} {xs : Nat → Int32} (hL : L ≤ 3072) {i : Nat} (hi : i < L) : z_xI (L, xs) (Int32.ofNat i) = some (xs i) := by
  have e : (Int32.ofNat i).toNatClampNeg = i := Int32.toNatClampNeg_ofNat_of_lt (by omega)
  have e2 : ¬ Int32.ofNat i < 0 := by
    rw [Int32.lt_iff_toInt_lt, Int32.toInt_ofNat_of_lt (by omega)]
    simp
  unfold z_xI
  rw [if_neg, e]
  rintro (q | q)
  · exact e2 q
  · rw [e] at q
    have : L ≤ i := q
    omega
theorem sc_add (i k : Nat) : Int32.ofNat i + Int32.ofNat k = Int32.ofNat (i + k) := (Int32.ofNat_add i k).symm
set_option maxRecDepth 100000 in
set_option maxHeartbeats 4000000 in
theorem law_loop {I : Nat → z_H → Prop} (hI : ∀ (j : Nat) (h : z_H), I j h → Calls43 I j h) {L : Nat} {xs : Nat → Int32} (hL : L ≤ 3072) : ∀ (n j : Nat) (h : z_H), I j h → 6 * j ≤ L → L < 6 * (j + n) → ∃ (hF : z_H) (j' : Nat), D_L_law_18 (L, xs) n h (some 0) (some 81) (Int32.ofNat (6 * j)) = some (1, hF) ∧ I j' hF ∧ 6 * j' ≤ L := by
  intro n
  induction n with
  | zero => intro j h _ h1 h2; omega
  | succ n ih =>
    intro j h hj h1 h2
    show ∃ (hF : z_H) (j' : Nat), D_L_law_18b (L, xs) (D_L_law_18 (L, xs) n) h (some 0) (some 81) (Int32.ofNat (6 * j)) = some (1, hF) ∧ I j' hF ∧ 6 * j' ≤ L
    unfold D_L_law_18b
    by_cases hc : (Int32.ofNat L - 6) < Int32.ofNat (6 * j)
    · rw [if_pos hc]
      exact ⟨h, j, rfl, hj, h1⟩
    · rw [if_neg hc]
      have hlt : 6 * j + 6 ≤ L := by
        rcases Nat.lt_or_ge L (6 * j + 6) with q | q
        · exfalso
          apply hc
          rw [Int32.lt_iff_toInt_lt, Int32.toInt_ofNat_of_lt (n := 6 * j) (by omega)]
          have e6 : Int32.ofNat L - 6 = Int32.ofInt ((L : Int) - 6) := by
            rw [Int32.ofInt_sub]
            rfl
          rw [e6, Int32.toInt_ofInt_of_le (by omega) (by omega)]
          omega
        · exact q
      have x0 := sc_rd (xs := xs) hL (i := 6 * j) (by omega)

      have x1 : z_xI (L, xs) (Int32.ofNat (6 * j) + 1) = some (xs (6 * j + 1)) := by
        rw [show (Int32.ofNat (6 * j) + 1 : Int32) = Int32.ofNat (6 * j + 1) from sc_add (6 * j) 1]
        exact sc_rd hL (by omega)
      have x2 : z_xI (L, xs) (Int32.ofNat (6 * j) + 2) = some (xs (6 * j + 2)) := by
        rw [show (Int32.ofNat (6 * j) + 2 : Int32) = Int32.ofNat (6 * j + 2) from sc_add (6 * j) 2]
        exact sc_rd hL (by omega)
      have x3 : z_xI (L, xs) (Int32.ofNat (6 * j) + 3) = some (xs (6 * j + 3)) := by
        rw [show (Int32.ofNat (6 * j) + 3 : Int32) = Int32.ofNat (6 * j + 3) from sc_add (6 * j) 3]
        exact sc_rd hL (by omega)
      have x4 : z_xI (L, xs) (Int32.ofNat (6 * j) + 4) = some (xs (6 * j + 4)) := by
        rw [show (Int32.ofNat (6 * j) + 4 : Int32) = Int32.ofNat (6 * j + 4) from sc_add (6 * j) 4]
        exact sc_rd hL (by omega)
      have x5 : z_xI (L, xs) (Int32.ofNat (6 * j) + 5) = some (xs (6 * j + 5)) := by
        rw [show (Int32.ofNat (6 * j) + 5 : Int32) = Int32.ofNat (6 * j + 5) from sc_add (6 * j) 5]
        exact sc_rd hL (by omega)
      have next : ∀ h2 : z_H, I (j + 1) h2 → ∃ (hF : z_H) (j' : Nat), D_L_law_1402 (L, xs) (D_L_law_18 (L, xs) n) h2 (some 0) (some 81) (Int32.ofNat (6 * j)) = some (1, hF) ∧ I j' hF ∧ 6 * j' ≤ L := by
        intro h2 hi2
        unfold D_L_law_1402
        rw [Option.bind_some, show (Int32.ofNat (6 * j) + 6 : Int32) = Int32.ofNat (6 * (j + 1)) from (sc_add (6 * j) 6).trans (by rw [Nat.mul_add])]
        exact ih (j + 1) h2 hi2 (by omega) (by omega)
      have H := hI j h hj
      obtain ⟨ob, eob⟩ := Option.isSome_iff_exists.mp H.1
      rw [x0, Option.bind_some, Option.bind_some]
      generalize xs (6 * j) &&& 63 = x
      by_cases c0 : x = 0
      · rw [if_pos c0]
        obtain ⟨r, h1, h2, e1, e2, e3, e4⟩ := H.2.1 (xs (6 * j + 1)) (xs (6 * j + 2)) (xs (6 * j + 3))
        obtain ⟨ob2, eob2⟩ := Option.isSome_iff_exists.mp e2
        simp only [x1, x2, x3, Option.bind_some, eob, e1, eob2, e3, if_true]
        exact next h2 e4
      rw [if_neg c0]
      by_cases c1 : x = 1
      · rw [if_pos c1]
        obtain ⟨r, h1, h2, e1, e2, e3, e4⟩ := H.2.2.1 (xs (6 * j + 1)) (xs (6 * j + 2))
        obtain ⟨ob2, eob2⟩ := Option.isSome_iff_exists.mp e2
        simp only [x1, x2, Option.bind_some, eob, e1, eob2, e3, if_true]
        exact next h2 e4
      rw [if_neg c1]
      by_cases c2 : x = 2
      · rw [if_pos c2]
        obtain ⟨r, h1, h2, e1, e2, e3, e4⟩ := H.2.2.2.1 (xs (6 * j + 1)) (xs (6 * j + 2))
        obtain ⟨ob2, eob2⟩ := Option.isSome_iff_exists.mp e2
        simp only [x1, x2, Option.bind_some, eob, e1, eob2, e3, if_true]
        exact next h2 e4
      rw [if_neg c2]
      by_cases c3 : x = 3
      · rw [if_pos c3]
        obtain ⟨r, h1, h2, e1, e2, e3, e4⟩ := H.2.2.2.2.1 
        obtain ⟨ob2, eob2⟩ := Option.isSome_iff_exists.mp e2
        simp only [Option.bind_some, eob, e1, eob2, e3, if_true]
        exact next h2 e4
      rw [if_neg c3]
      by_cases c4 : x = 4
      · rw [if_pos c4]
        obtain ⟨r, h1, h2, e1, e2, e3, e4⟩ := H.2.2.2.2.2.1 (xs (6 * j + 1)) (xs (6 * j + 2)) (xs (6 * j + 3))
        obtain ⟨ob2, eob2⟩ := Option.isSome_iff_exists.mp e2
        simp only [x1, x2, x3, Option.bind_some, eob, e1, eob2, e3, if_true]
        exact next h2 e4
      rw [if_neg c4]
      by_cases c5 : x = 5
      · rw [if_pos c5]
        obtain ⟨r, h1, h2, e1, e2, e3, e4⟩ := H.2.2.2.2.2.2.1 (xs (6 * j + 1)) (xs (6 * j + 2))
        obtain ⟨ob2, eob2⟩ := Option.isSome_iff_exists.mp e2
        simp only [x1, x2, Option.bind_some, eob, e1, eob2, e3, if_true]
        exact next h2 e4
      rw [if_neg c5]
      by_cases c6 : x = 6
      · rw [if_pos c6]
        obtain ⟨r, h1, h2, e1, e2, e3, e4⟩ := H.2.2.2.2.2.2.2.1 (xs (6 * j + 1)) (xs (6 * j + 2)) (xs (6 * j + 3)) (xs (6 * j + 4)) (xs (6 * j + 5))
        obtain ⟨ob2, eob2⟩ := Option.isSome_iff_exists.mp e2
        simp only [x1, x2, x3, x4, x5, Option.bind_some, eob, e1, eob2, e3, if_true]
        exact next h2 e4
      rw [if_neg c6]
      by_cases c7 : x = 7
      · rw [if_pos c7]
        obtain ⟨r, h1, h2, e1, e2, e3, e4⟩ := H.2.2.2.2.2.2.2.2.1 (xs (6 * j + 1))
        obtain ⟨ob2, eob2⟩ := Option.isSome_iff_exists.mp e2
        simp only [x1, Option.bind_some, eob, e1, eob2, e3, if_true]
        exact next h2 e4
      rw [if_neg c7]
      by_cases c8 : x = 8
      · rw [if_pos c8]
        obtain ⟨r, h1, h2, e1, e2, e3, e4⟩ := H.2.2.2.2.2.2.2.2.2.1 
        obtain ⟨ob2, eob2⟩ := Option.isSome_iff_exists.mp e2
        simp only [Option.bind_some, eob, e1, eob2, e3, if_true]
        exact next h2 e4
      rw [if_neg c8]
      by_cases c9 : x = 9
      · rw [if_pos c9]
        obtain ⟨r, h1, h2, e1, e2, e3, e4⟩ := H.2.2.2.2.2.2.2.2.2.2.1 
        obtain ⟨ob2, eob2⟩ := Option.isSome_iff_exists.mp e2
        simp only [Option.bind_some, eob, e1, eob2, e3, if_true]
        exact next h2 e4
      rw [if_neg c9]
      by_cases c10 : x = 10
      · rw [if_pos c10]
        obtain ⟨r, h1, h2, e1, e2, e3, e4⟩ := H.2.2.2.2.2.2.2.2.2.2.2.1 
        obtain ⟨ob2, eob2⟩ := Option.isSome_iff_exists.mp e2
        simp only [Option.bind_some, eob, e1, eob2, e3, if_true]
        exact next h2 e4
      rw [if_neg c10]
      by_cases c11 : x = 11
      · rw [if_pos c11]
        obtain ⟨r, h1, h2, e1, e2, e3, e4⟩ := H.2.2.2.2.2.2.2.2.2.2.2.2.1 
        obtain ⟨ob2, eob2⟩ := Option.isSome_iff_exists.mp e2
        simp only [Option.bind_some, eob, e1, eob2, e3, if_true]
        exact next h2 e4
      rw [if_neg c11]
      by_cases c12 : x = 12
      · rw [if_pos c12]
        obtain ⟨r, h1, h2, e1, e2, e3, e4⟩ := H.2.2.2.2.2.2.2.2.2.2.2.2.2.1 
        obtain ⟨ob2, eob2⟩ := Option.isSome_iff_exists.mp e2
        simp only [Option.bind_some, eob, e1, eob2, e3, if_true]
        exact next h2 e4
      rw [if_neg c12]
      by_cases c13 : x = 13
      · rw [if_pos c13]
        obtain ⟨r, h1, h2, e1, e2, e3, e4⟩ := H.2.2.2.2.2.2.2.2.2.2.2.2.2.2.1 
        obtain ⟨ob2, eob2⟩ := Option.isSome_iff_exists.mp e2
        simp only [Option.bind_some, eob, e1, eob2, e3, if_true]
        exact next h2 e4
      rw [if_neg c13]
      by_cases c14 : x = 14
      · rw [if_pos c14]
        obtain ⟨r, h1, h2, e1, e2, e3, e4⟩ := H.2.2.2.2.2.2.2.2.2.2.2.2.2.2.2.1 (xs (6 * j + 1))
        obtain ⟨ob2, eob2⟩ := Option.isSome_iff_exists.mp e2
        simp only [x1, Option.bind_some, eob, e1, eob2, e3, if_true]
        exact next h2 e4
      rw [if_neg c14]
      by_cases c15 : x = 15
      · rw [if_pos c15]
        obtain ⟨r, h1, h2, e1, e2, e3, e4⟩ := H.2.2.2.2.2.2.2.2.2.2.2.2.2.2.2.2.1 (xs (6 * j + 1))
        obtain ⟨ob2, eob2⟩ := Option.isSome_iff_exists.mp e2
        simp only [x1, Option.bind_some, eob, e1, eob2, e3, if_true]
        exact next h2 e4
      rw [if_neg c15]
      by_cases c16 : x = 16
      · rw [if_pos c16]
        obtain ⟨r, h1, h2, e1, e2, e3, e4⟩ := H.2.2.2.2.2.2.2.2.2.2.2.2.2.2.2.2.2.1 (xs (6 * j + 1)) (xs (6 * j + 2))
        obtain ⟨ob2, eob2⟩ := Option.isSome_iff_exists.mp e2
        simp only [x1, x2, Option.bind_some, eob, e1, eob2, e3, if_true]
        exact next h2 e4
      rw [if_neg c16]
      by_cases c17 : x = 17
      · rw [if_pos c17]
        obtain ⟨r, h1, h2, e1, e2, e3, e4⟩ := H.2.2.2.2.2.2.2.2.2.2.2.2.2.2.2.2.2.2.1 (xs (6 * j + 1))
        obtain ⟨ob2, eob2⟩ := Option.isSome_iff_exists.mp e2
        simp only [x1, Option.bind_some, eob, e1, eob2, e3, if_true]
        exact next h2 e4
      rw [if_neg c17]
      by_cases c18 : x = 18
      · rw [if_pos c18]
        obtain ⟨r, h1, h2, e1, e2, e3, e4⟩ := H.2.2.2.2.2.2.2.2.2.2.2.2.2.2.2.2.2.2.2.1 (xs (6 * j + 1)) (xs (6 * j + 2))
        obtain ⟨ob2, eob2⟩ := Option.isSome_iff_exists.mp e2
        simp only [x1, x2, Option.bind_some, eob, e1, eob2, e3, if_true]
        exact next h2 e4
      rw [if_neg c18]
      by_cases c19 : x = 19
      · rw [if_pos c19]
        obtain ⟨r, h1, h2, e1, e2, e3, e4⟩ := H.2.2.2.2.2.2.2.2.2.2.2.2.2.2.2.2.2.2.2.2.1 
        obtain ⟨ob2, eob2⟩ := Option.isSome_iff_exists.mp e2
        simp only [Option.bind_some, eob, e1, eob2, e3, if_true]
        exact next h2 e4
      rw [if_neg c19]
      by_cases c20 : x = 20
      · rw [if_pos c20]
        obtain ⟨r, h1, h2, e1, e2, e3, e4⟩ := H.2.2.2.2.2.2.2.2.2.2.2.2.2.2.2.2.2.2.2.2.2.1 
        obtain ⟨ob2, eob2⟩ := Option.isSome_iff_exists.mp e2
        simp only [Option.bind_some, eob, e1, eob2, e3, if_true]
        exact next h2 e4
      rw [if_neg c20]
      by_cases c21 : x = 21
      · rw [if_pos c21]
        obtain ⟨r, h1, h2, e1, e2, e3, e4⟩ := H.2.2.2.2.2.2.2.2.2.2.2.2.2.2.2.2.2.2.2.2.2.2.1 (xs (6 * j + 1)) (xs (6 * j + 2)) (xs (6 * j + 3)) (xs (6 * j + 4))
        obtain ⟨ob2, eob2⟩ := Option.isSome_iff_exists.mp e2
        simp only [x1, x2, x3, x4, Option.bind_some, eob, e1, eob2, e3, lg_same, if_true]
        exact next h2 e4
      rw [if_neg c21]
      by_cases c22 : x = 22
      · rw [if_pos c22]
        obtain ⟨r, h1, h2, e1, e2, e3, e4⟩ := H.2.2.2.2.2.2.2.2.2.2.2.2.2.2.2.2.2.2.2.2.2.2.2.1 (xs (6 * j + 1)) (xs (6 * j + 2)) (xs (6 * j + 3)) (xs (6 * j + 4))
        obtain ⟨ob2, eob2⟩ := Option.isSome_iff_exists.mp e2
        simp only [x1, x2, x3, x4, Option.bind_some, eob, e1, eob2, e3, if_true]
        exact next h2 e4
      rw [if_neg c22]
      by_cases c23 : x = 23
      · rw [if_pos c23]
        obtain ⟨r, h1, h2, e1, e2, e3, e4⟩ := H.2.2.2.2.2.2.2.2.2.2.2.2.2.2.2.2.2.2.2.2.2.2.2.2.1 (xs (6 * j + 1)) (xs (6 * j + 2)) (xs (6 * j + 3))
        obtain ⟨ob2, eob2⟩ := Option.isSome_iff_exists.mp e2
        simp only [x1, x2, x3, Option.bind_some, eob, e1, eob2, e3, if_true]
        exact next h2 e4
      rw [if_neg c23]
      by_cases c24 : x = 24
      · rw [if_pos c24]
        obtain ⟨r, h1, h2, e1, e2, e3, e4⟩ := H.2.2.2.2.2.2.2.2.2.2.2.2.2.2.2.2.2.2.2.2.2.2.2.2.2.1 (xs (6 * j + 1)) (xs (6 * j + 2))
        obtain ⟨ob2, eob2⟩ := Option.isSome_iff_exists.mp e2
        simp only [x1, x2, Option.bind_some, eob, e1, eob2, e3, if_true]
        exact next h2 e4
      rw [if_neg c24]
      by_cases c25 : x = 25
      · rw [if_pos c25]
        obtain ⟨r, h1, h2, e1, e2, e3, e4⟩ := H.2.2.2.2.2.2.2.2.2.2.2.2.2.2.2.2.2.2.2.2.2.2.2.2.2.2.1 (xs (6 * j + 1)) (xs (6 * j + 2)) (xs (6 * j + 3))
        obtain ⟨ob2, eob2⟩ := Option.isSome_iff_exists.mp e2
        simp only [x1, x2, x3, Option.bind_some, eob, e1, eob2, e3, lg_same, if_true]
        exact next h2 e4
      rw [if_neg c25]
      by_cases c26 : x = 26
      · rw [if_pos c26]
        obtain ⟨r, h1, h2, e1, e2, e3, e4⟩ := H.2.2.2.2.2.2.2.2.2.2.2.2.2.2.2.2.2.2.2.2.2.2.2.2.2.2.2.1 (xs (6 * j + 1)) (xs (6 * j + 2))
        obtain ⟨ob2, eob2⟩ := Option.isSome_iff_exists.mp e2
        simp only [x1, x2, Option.bind_some, eob, e1, eob2, e3, if_true]
        exact next h2 e4
      rw [if_neg c26]
      by_cases c27 : x = 27
      · rw [if_pos c27]
        obtain ⟨r, h1, h2, e1, e2, e3, e4⟩ := H.2.2.2.2.2.2.2.2.2.2.2.2.2.2.2.2.2.2.2.2.2.2.2.2.2.2.2.2.1 (xs (6 * j + 1))
        obtain ⟨ob2, eob2⟩ := Option.isSome_iff_exists.mp e2
        simp only [x1, Option.bind_some, eob, e1, eob2, e3, if_true]
        exact next h2 e4
      rw [if_neg c27]
      by_cases c28 : x = 28
      · rw [if_pos c28]
        obtain ⟨r, h1, h2, e1, e2, e3, e4⟩ := H.2.2.2.2.2.2.2.2.2.2.2.2.2.2.2.2.2.2.2.2.2.2.2.2.2.2.2.2.2.1 (xs (6 * j + 1))
        obtain ⟨ob2, eob2⟩ := Option.isSome_iff_exists.mp e2
        simp only [x1, Option.bind_some, eob, e1, eob2, e3, if_true]
        exact next h2 e4
      rw [if_neg c28]
      by_cases c29 : x = 29
      · rw [if_pos c29]
        obtain ⟨r, h1, h2, e1, e2, e3, e4⟩ := H.2.2.2.2.2.2.2.2.2.2.2.2.2.2.2.2.2.2.2.2.2.2.2.2.2.2.2.2.2.2.1 (xs (6 * j + 1)) (xs (6 * j + 2))
        obtain ⟨ob2, eob2⟩ := Option.isSome_iff_exists.mp e2
        simp only [x1, x2, Option.bind_some, eob, e1, eob2, e3, if_true]
        exact next h2 e4
      rw [if_neg c29]
      by_cases c30 : x = 30
      · rw [if_pos c30]
        obtain ⟨r, h1, h2, e1, e2, e3, e4⟩ := H.2.2.2.2.2.2.2.2.2.2.2.2.2.2.2.2.2.2.2.2.2.2.2.2.2.2.2.2.2.2.2.1 (xs (6 * j + 1)) (xs (6 * j + 2))
        obtain ⟨ob2, eob2⟩ := Option.isSome_iff_exists.mp e2
        simp only [x1, x2, Option.bind_some, eob, e1, eob2, e3, if_true]
        exact next h2 e4
      rw [if_neg c30]
      by_cases c31 : x = 31
      · rw [if_pos c31]
        obtain ⟨r, h1, h2, e1, e2, e3, e4⟩ := H.2.2.2.2.2.2.2.2.2.2.2.2.2.2.2.2.2.2.2.2.2.2.2.2.2.2.2.2.2.2.2.2.1 
        obtain ⟨ob2, eob2⟩ := Option.isSome_iff_exists.mp e2
        simp only [Option.bind_some, eob, e1, eob2, e3, if_true]
        exact next h2 e4
      rw [if_neg c31]
      by_cases c32 : x = 32
      · rw [if_pos c32]
        obtain ⟨r, h1, h2, e1, e2, e3, e4⟩ := H.2.2.2.2.2.2.2.2.2.2.2.2.2.2.2.2.2.2.2.2.2.2.2.2.2.2.2.2.2.2.2.2.2.1 
        obtain ⟨ob2, eob2⟩ := Option.isSome_iff_exists.mp e2
        simp only [Option.bind_some, eob, e1, eob2, e3, if_true]
        exact next h2 e4
      rw [if_neg c32]
      by_cases c33 : x = 33
      · rw [if_pos c33]
        obtain ⟨r, h1, h2, e1, e2, e3, e4⟩ := H.2.2.2.2.2.2.2.2.2.2.2.2.2.2.2.2.2.2.2.2.2.2.2.2.2.2.2.2.2.2.2.2.2.2.1 (xs (6 * j + 1))
        obtain ⟨ob2, eob2⟩ := Option.isSome_iff_exists.mp e2
        simp only [x1, Option.bind_some, eob, e1, eob2, e3, if_true]
        exact next h2 e4
      rw [if_neg c33]
      by_cases c34 : x = 34
      · rw [if_pos c34]
        obtain ⟨r, h1, h2, e1, e2, e3, e4⟩ := H.2.2.2.2.2.2.2.2.2.2.2.2.2.2.2.2.2.2.2.2.2.2.2.2.2.2.2.2.2.2.2.2.2.2.2.1 
        obtain ⟨ob2, eob2⟩ := Option.isSome_iff_exists.mp e2
        simp only [Option.bind_some, eob, e1, eob2, e3, if_true]
        exact next h2 e4
      rw [if_neg c34]
      by_cases c35 : x = 35
      · rw [if_pos c35]
        obtain ⟨r, h1, h2, e1, e2, e3, e4⟩ := H.2.2.2.2.2.2.2.2.2.2.2.2.2.2.2.2.2.2.2.2.2.2.2.2.2.2.2.2.2.2.2.2.2.2.2.2.1 (xs (6 * j + 1)) (xs (6 * j + 2))
        obtain ⟨ob2, eob2⟩ := Option.isSome_iff_exists.mp e2
        simp only [x1, x2, Option.bind_some, eob, e1, eob2, e3, lg_same, if_true]
        exact next h2 e4
      rw [if_neg c35]
      by_cases c36 : x = 36
      · rw [if_pos c36]
        obtain ⟨r, h1, h2, e1, e2, e3, e4⟩ := H.2.2.2.2.2.2.2.2.2.2.2.2.2.2.2.2.2.2.2.2.2.2.2.2.2.2.2.2.2.2.2.2.2.2.2.2.2.1 (xs (6 * j + 1)) (xs (6 * j + 2)) (xs (6 * j + 3))
        obtain ⟨ob2, eob2⟩ := Option.isSome_iff_exists.mp e2
        simp only [x1, x2, x3, Option.bind_some, eob, e1, eob2, e3, if_true]
        exact next h2 e4
      rw [if_neg c36]
      by_cases c37 : x = 37
      · rw [if_pos c37]
        obtain ⟨r, h1, h2, e1, e2, e3, e4⟩ := H.2.2.2.2.2.2.2.2.2.2.2.2.2.2.2.2.2.2.2.2.2.2.2.2.2.2.2.2.2.2.2.2.2.2.2.2.2.2.1 (xs (6 * j + 1)) (xs (6 * j + 2))
        obtain ⟨ob2, eob2⟩ := Option.isSome_iff_exists.mp e2
        simp only [x1, x2, Option.bind_some, eob, e1, eob2, e3, if_true]
        exact next h2 e4
      rw [if_neg c37]
      by_cases c38 : x = 38
      · rw [if_pos c38]
        obtain ⟨r, h1, h2, e1, e2, e3, e4⟩ := H.2.2.2.2.2.2.2.2.2.2.2.2.2.2.2.2.2.2.2.2.2.2.2.2.2.2.2.2.2.2.2.2.2.2.2.2.2.2.2.1 (xs (6 * j + 1)) (xs (6 * j + 2))
        obtain ⟨ob2, eob2⟩ := Option.isSome_iff_exists.mp e2
        simp only [x1, x2, Option.bind_some, eob, e1, eob2, e3, if_true]
        exact next h2 e4
      rw [if_neg c38]
      by_cases c39 : x = 39
      · rw [if_pos c39]
        obtain ⟨r, h1, h2, e1, e2, e3, e4⟩ := H.2.2.2.2.2.2.2.2.2.2.2.2.2.2.2.2.2.2.2.2.2.2.2.2.2.2.2.2.2.2.2.2.2.2.2.2.2.2.2.2.1 (xs (6 * j + 1))
        obtain ⟨ob2, eob2⟩ := Option.isSome_iff_exists.mp e2
        simp only [x1, Option.bind_some, eob, e1, eob2, e3, if_true]
        exact next h2 e4
      rw [if_neg c39]
      by_cases c40 : x = 40
      · rw [if_pos c40]
        obtain ⟨r, h1, h2, e1, e2, e3, e4⟩ := H.2.2.2.2.2.2.2.2.2.2.2.2.2.2.2.2.2.2.2.2.2.2.2.2.2.2.2.2.2.2.2.2.2.2.2.2.2.2.2.2.2.1 (xs (6 * j + 1))
        obtain ⟨ob2, eob2⟩ := Option.isSome_iff_exists.mp e2
        simp only [x1, Option.bind_some, eob, e1, eob2, e3, if_true]
        exact next h2 e4
      rw [if_neg c40]
      by_cases c41 : x = 41
      · rw [if_pos c41]
        obtain ⟨r, h1, h2, e1, e2, e3, e4⟩ := H.2.2.2.2.2.2.2.2.2.2.2.2.2.2.2.2.2.2.2.2.2.2.2.2.2.2.2.2.2.2.2.2.2.2.2.2.2.2.2.2.2.2.1 (xs (6 * j + 1))
        obtain ⟨ob2, eob2⟩ := Option.isSome_iff_exists.mp e2
        simp only [x1, Option.bind_some, eob, e1, eob2, e3, if_true]
        exact next h2 e4
      rw [if_neg c41]
      by_cases c42 : x = 42
      · rw [if_pos c42]
        obtain ⟨r, h1, h2, e1, e2, e3, e4⟩ := H.2.2.2.2.2.2.2.2.2.2.2.2.2.2.2.2.2.2.2.2.2.2.2.2.2.2.2.2.2.2.2.2.2.2.2.2.2.2.2.2.2.2.2.1 
        obtain ⟨ob2, eob2⟩ := Option.isSome_iff_exists.mp e2
        simp only [Option.bind_some, eob, e1, eob2, e3, if_true]
        exact next h2 e4
      rw [if_neg c42]
      exact next h (H.2.2.2.2.2.2.2.2.2.2.2.2.2.2.2.2.2.2.2.2.2.2.2.2.2.2.2.2.2.2.2.2.2.2.2.2.2.2.2.2.2.2.2.2)
