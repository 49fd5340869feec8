/-! one YARD becomes another -/
def isYd (a : Nat) : Prop := a = 1 ∨ a = 12 ∨ a = 35 ∨ a = 63 ∨ a = 72
section BC
variable {g : z_H} {a b : Nat}
theorem shpY (ha : isYd a) : shpL[a]? = some (.inr (9, [a + 3, a + 4, a + 5, a + 6, a + 7, a + 8, a + 9, a + 10, 0, 0, 0, 0, 0])) ∧ shpL[a + 1]? = some (.inl (.int, 6)) ∧ shpL[a + 2]? = some (.inl (.int, 6)) ∧ shpL[a + 3]? = some (.inl (.int, 6)) ∧ shpL[a + 4]? = some (.inl (.int, 24)) ∧ shpL[a + 5]? = some (.inl (.int, 3)) ∧ shpL[a + 6]? = some (.inl (.int, 6)) ∧ shpL[a + 7]? = some (.inl (.int, 6)) ∧ shpL[a + 8]? = some (.inl (.object RX7, 6)) := by
  rcases ha with rfl | rfl | rfl | rfl | rfl <;> exact ⟨rfl, rfl, rfl, rfl, rfl, rfl, rfl, rfl, rfl⟩
theorem yQ (hs : Sh g) (ha : isYd a) : z_gQ 9 g (some a) 0 = some (some (a + 1)) ∧ z_gQ 9 g (some a) 1 = some (some (a + 2)) ∧ z_gQ 9 g (some a) 2 = some (some (a + 3)) ∧ z_gQ 9 g (some a) 3 = some (some (a + 4)) ∧ z_gQ 9 g (some a) 4 = some (some (a + 5)) ∧ z_gQ 9 g (some a) 5 = some (some (a + 6)) ∧ z_gQ 9 g (some a) 6 = some (some (a + 7)) ∧ z_gQ 9 g (some a) 7 = some (some (a + 8)) := by
  have s := (shpY ha).1
  exact ⟨s_gQ hs s rfl, s_gQ hs s rfl, s_gQ hs s rfl, s_gQ hs s rfl, s_gQ hs s rfl, s_gQ hs s rfl, s_gQ hs s rfl, s_gQ hs s rfl⟩
theorem cp1 (hs : Sh g) {q n : Nat} (sa : shpL[a + q]? = some (.inl (.int, n))) (sb : shpL[b + q]? = some (.inl (.int, n))) (hn : n < 2 ^ 31) : ∃ g', Sh g' ∧ (g'.1 = g.1 ∧ g'.2.1 = g.2.1 ∧ ∀ c, c ≠ a + q → g'.2.2 c = g.2.2 c) ∧ aI g' (a + q) = va_cpy (aI g (b + q)) (aI g (a + q)) 0 0 n ∧ z_cI g (some (b + q)) 0 (some (a + q)) 0 (Int32.ofNat n) = some g' := by
  have ia : isA (a + q) = true := by unfold isA; rw [sa]
  exact ⟨_, Sh_wA hs ia _, ⟨rfl, rfl, fun c hc => wA_ne hc⟩, aI_wA_eq hs ia _, s_cI (sp := 0) (dp := 0) hs sa sb (by omega) (by omega) hn hn⟩
theorem s_sQ (hs : Sh g) {C : String} {ci n i : Nat} {x : Option Nat} (sa : shpL[a]? = some (.inl (.object C, n))) (hx : x = none ∨ (z_ob ci g x).isSome = true) (hi : i < n) (hn : n < 2 ^ 31) : z_sQ C ci g (some a) (Int32.ofNat i) x = some (wQ g a (va_up (aQ g a) i x)) := by
  have e1 : (Int32.ofNat i).toNatClampNeg = i := tn_of (by omega)
  unfold z_sQ
  dsimp only
  rw [s_arQ hs sa, Option.bind_some]
  dsimp only
  rw [e1, if_neg, if_pos hx]
  · unfold wQ
    rw [hs.2 a _ sa]
    rfl
  · rintro (q | q)
    · exact not_neg (by omega) q
    · omega
theorem isAQ_of {C : String} {n : Nat} (sa : shpL[a]? = some (.inl (.object C, n))) : isAQ a = true := by unfold isAQ; rw [sa]
theorem Txt.ob {t n c : Nat} {op ar cl : Nat → Int32} (X : Txt g t n c op ar cl) : (z_ob 7 g (some t)).isSome = true := by
  obtain ⟨a1, a2, a3, a4, a5, -⟩ := X
  unfold z_ob
  dsimp only
  rw [if_pos (by omega), a5]
  rfl
/-- what a yard has become -/
def Cpy (g g' : z_H) (a b : Nat) : Prop := (∀ i, i < 6 → aI g' (a + 1) i = aI g (b + 1) i ∧ aI g' (a + 2) i = aI g (b + 2) i ∧ aI g' (a + 3) i = aI g (b + 3) i ∧ aI g' (a + 6) i = aI g (b + 6) i ∧ aI g' (a + 7) i = aI g (b + 7) i ∧ aQ g' (a + 8) i = aQ g (b + 8) i) ∧ (∀ i, i < 24 → aI g' (a + 4) i = aI g (b + 4) i) ∧ (∀ i, i < 3 → aI g' (a + 5) i = aI g (b + 5) i) ∧ ∀ k, 8 ≤ k → k ≤ 12 → fI g' a k = fI g b k
theorem cpy_lt {f f' : Nat → Int32} {n i : Nat} (hi : i < n) : va_cpy f f' 0 0 n i = f i := by
  unfold va_cpy
  rw [if_pos (by omega)]
  congr 1
  omega
theorem c_become (hs : Sh g) (ha : isYd a) (hb : isYd b) (ne : a ≠ b) (hQ : ∀ k, k < 6 → aQ g (b + 8) k = none ∨ (z_ob 7 g (aQ g (b + 8) k)).isSome = true) : ∃ g', Sh g' ∧ (g'.1 = g.1 ∧ g'.2.1 = g.2.1 ∧ ∀ c, (c < a ∨ a + 8 < c) → g'.2.2 c = g.2.2 c) ∧ Cpy g g' a b ∧ D_X9_become g (some a) (some b) = some g' := by
  have dis : ∀ q r, q ≤ 8 → r ≤ 8 → a + q ≠ b + r := fun q r h1 h2 => by
    have ha' : a = 1 ∨ a = 12 ∨ a = 35 ∨ a = 63 ∨ a = 72 := ha
    have hb' : b = 1 ∨ b = 12 ∨ b = 35 ∨ b = 63 ∨ b = 72 := hb
    omega
  obtain ⟨-, sa1, sa2, sa3, sa4, sa5, sa6, sa7, sa8⟩ := shpY ha
  obtain ⟨-, sb1, sb2, sb3, sb4, sb5, sb6, sb7, sb8⟩ := shpY hb
  obtain ⟨g1, s1, ⟨t1, u1, c1⟩, a1, d1⟩ := cp1 hs sa1 sb1 (by decide)
  obtain ⟨g2, s2, ⟨t2, u2, c2⟩, a2, d2⟩ := cp1 s1 sa2 sb2 (by decide)
  obtain ⟨g3, s3, ⟨t3, u3, c3⟩, a3, d3⟩ := cp1 s2 sa3 sb3 (by decide)
  obtain ⟨g4, s4, ⟨t4, u4, c4⟩, a4, d4⟩ := cp1 s3 sa4 sb4 (by decide)
  obtain ⟨g5, s5, ⟨t5, u5, c5⟩, a5, d5⟩ := cp1 s4 sa5 sb5 (by decide)
  obtain ⟨g6, s6, ⟨t6, u6, c6⟩, a6, d6⟩ := cp1 s5 sa6 sb6 (by decide)
  obtain ⟨g7, s7, ⟨t7, u7, c7⟩, a7, d7⟩ := cp1 s6 sa7 sb7 (by decide)
  have k2 : ∀ c, c ≠ a + 1 → c ≠ a + 2 → g2.2.2 c = g.2.2 c := fun c q1 q2 => by rw [c2 c q2, c1 c q1]
  have k3 : ∀ c, c ≠ a + 1 → c ≠ a + 2 → c ≠ a + 3 → g3.2.2 c = g.2.2 c := fun c q1 q2 q3 => by rw [c3 c q3, k2 c q1 q2]
  have k4 : ∀ c, c ≠ a + 1 → c ≠ a + 2 → c ≠ a + 3 → c ≠ a + 4 → g4.2.2 c = g.2.2 c := fun c q1 q2 q3 q4 => by rw [c4 c q4, k3 c q1 q2 q3]
  have k5 : ∀ c, c ≠ a + 1 → c ≠ a + 2 → c ≠ a + 3 → c ≠ a + 4 → c ≠ a + 5 → g5.2.2 c = g.2.2 c := fun c q1 q2 q3 q4 q5 => by rw [c5 c q5, k4 c q1 q2 q3 q4]
  have k6 : ∀ c, c ≠ a + 1 → c ≠ a + 2 → c ≠ a + 3 → c ≠ a + 4 → c ≠ a + 5 → c ≠ a + 6 → g6.2.2 c = g.2.2 c := fun c q1 q2 q3 q4 q5 q6 => by rw [c6 c q6, k5 c q1 q2 q3 q4 q5]
  have k7 : ∀ c, c ≠ a + 1 → c ≠ a + 2 → c ≠ a + 3 → c ≠ a + 4 → c ≠ a + 5 → c ≠ a + 6 → c ≠ a + 7 → g7.2.2 c = g.2.2 c := fun c q1 q2 q3 q4 q5 q6 q7 => by rw [c7 c q7, k6 c q1 q2 q3 q4 q5 q6]
  have k7b : ∀ q, q ≤ 8 → g7.2.2 (b + q) = g.2.2 (b + q) := fun q hq => k7 _ (fun z => dis 1 q (by decide) hq z.symm) (fun z => dis 2 q (by decide) hq z.symm) (fun z => dis 3 q (by decide) hq z.symm) (fun z => dis 4 q (by decide) hq z.symm) (fun z => dis 5 q (by decide) hq z.symm) (fun z => dis 6 q (by decide) hq z.symm) (fun z => dis 7 q (by decide) hq z.symm)
  -- the laws
  have lp := loop_up (β := z_H) (S := z_H) (N := 6) (F := fun m g i => D_X9_become_109 m g (some a) (some b) (Int32.ofNat i)) (G := fun g' => D_X9_become_109b (fun _ _ _ _ => none) g' (some a) (some b) 6)
    (I := fun i g' => Sh g' ∧ (g'.1 = g7.1 ∧ g'.2.1 = g7.2.1 ∧ ∀ c, c ≠ a + 8 → g'.2.2 c = g7.2.2 c) ∧ ∀ k, k < i → aQ g' (a + 8) k = aQ g (b + 8) k)
    (fun m g' _ => by
      show D_X9_become_109b _ g' (some a) (some b) (Int32.ofNat 6) = _
      unfold D_X9_become_109b
      rw [if_pos (by decide), if_pos (by decide)])
    (fun m g' i hi I => by
      obtain ⟨s', ⟨tt, uu, cc⟩, qq⟩ := I
      have eb : aQ g' (b + 8) = aQ g (b + 8) := by rw [cell_aQ (cc _ (fun z => dis 8 8 (by decide) (by decide) z.symm)), cell_aQ (k7b 8 (by decide))]
      have ox : aQ g (b + 8) i = none ∨ (z_ob 7 g' (aQ g (b + 8) i)).isSome = true := by
        rcases hQ i hi with q | q
        · exact Or.inl q
        · refine Or.inr ?_
          obtain ⟨fs, efs⟩ := Option.isSome_iff_exists.mp q
          obtain ⟨t, et, ht, hc⟩ := z_ob_spec efs
          have na : ∀ q, q ≤ 8 → t ≠ a + q := fun q hq z => by
            have hq0 : shpL[a + q]? ≠ none := by
              have : a + q < 114 := by
                have ha' : a = 1 ∨ a = 12 ∨ a = 35 ∨ a = 63 ∨ a = 72 := ha
                omega
              intro hh
              rw [List.getElem?_eq_none_iff] at hh
              have : shpL.length = 114 := rfl
              omega
            obtain ⟨-, z1, z2, z3, z4, z5, z6, z7, z8⟩ := shpY ha
            have h0 := (shpY ha).1
            have : q = 0 ∨ q = 1 ∨ q = 2 ∨ q = 3 ∨ q = 4 ∨ q = 5 ∨ q = 6 ∨ q = 7 ∨ q = 8 := by omega
            rw [z] at hc
            rcases this with rfl | rfl | rfl | rfl | rfl | rfl | rfl | rfl | rfl
            · rw [Nat.add_zero, hs.2 _ _ h0] at hc
              cases hc
            · rw [hs.2 _ _ z1] at hc; cases hc
            · rw [hs.2 _ _ z2] at hc; cases hc
            · rw [hs.2 _ _ z3] at hc; cases hc
            · rw [hs.2 _ _ z4] at hc; cases hc
            · rw [hs.2 _ _ z5] at hc; cases hc
            · rw [hs.2 _ _ z6] at hc; cases hc
            · rw [hs.2 _ _ z7] at hc; cases hc
            · rw [hs.2 _ _ z8] at hc; cases hc
          rw [et]
          have e' : g'.2.2 t = .inr (7, fs) := by
            rw [cc t (na 8 (by decide)), k7 t (na 1 (by decide)) (na 2 (by decide)) (na 3 (by decide)) (na 4 (by decide)) (na 5 (by decide)) (na 6 (by decide)) (na 7 (by decide))]
            exact hc
          unfold z_ob
          dsimp only
          rw [if_pos (by omega), e']
          rfl
      refine ⟨wQ g' (a + 8) (va_up (aQ g' (a + 8)) i (aQ g (b + 8) i)), ⟨Sh_wQ s' (isAQ_of sa8) _, ⟨tt, uu, fun c hc => by rw [wQ_ne hc]; exact cc c hc⟩, fun k hk => ?_⟩, ?_⟩
      · rw [aQ_wQ_eq s' (isAQ_of sa8)]
        unfold va_up
        by_cases e : k = i
        · rw [if_pos e, e]
        · rw [if_neg e]; exact qq k (by omega)
      · show D_X9_become_109b (D_X9_become_109 m) g' (some a) (some b) (Int32.ofNat i) = _
        unfold D_X9_become_109b
        rw [if_neg (fun z => by have := (nat_le (a := 6) (b := i) (by decide) (by omega)).mp z; omega), (yQ s' ha).2.2.2.2.2.2.2, Option.bind_some, (yQ s' hb).2.2.2.2.2.2.2, Option.bind_some, s_aQ (n := 6) s' sb8, iR_ofNat hi (by decide), Option.bind_some, eb, s_sQ s' sa8 ox hi (by decide), Option.bind_some, Option.bind_some, show Int32.ofNat i + 1 = Int32.ofNat (i + 1) from sc_add i 1])
    6 0 z_F g7 (by decide) (by decide) (by decide) ⟨s7, ⟨rfl, rfl, fun _ _ => rfl⟩, fun k hk => by omega⟩
  obtain ⟨g8, ⟨s8, ⟨t8, u8, c8⟩, q8⟩, e8⟩ := lp
  have k8b : ∀ q, q ≤ 8 → g8.2.2 (b + q) = g.2.2 (b + q) := fun q hq => by rw [c8 _ (fun z => dis 8 q (by decide) hq z.symm), k7b q hq]
  -- the numbers
  have fa : ∀ k, 8 ≤ k → k ≤ 12 → isF a k = true := fun k h1 h2 => by
    have : k = 8 ∨ k = 9 ∨ k = 10 ∨ k = 11 ∨ k = 12 := by omega
    unfold isF
    rw [(shpY ha).1]
    rcases this with rfl | rfl | rfl | rfl | rfl <;> rfl
  have gI : ∀ {x : z_H}, Sh x → ∀ k, 8 ≤ k → k ≤ 12 → z_gI 9 x (some b) k = some (fI x b k) := fun hx k h1 h2 => by
    have : k = 8 ∨ k = 9 ∨ k = 10 ∨ k = 11 ∨ k = 12 := by omega
    have s := (shpY hb).1
    rcases this with rfl | rfl | rfl | rfl | rfl <;> exact s_gI hx s rfl
  have pV : ∀ {x : z_H}, Sh x → ∀ k, k ≤ 12 → ∀ v, z_pV 9 x (some a) k v = some (wF x a k v) := fun hx k h2 v => s_pV hx (shpY ha).1 (by show k < 13; omega) v
  have ne0 : ¬ b = a := fun z => ne z.symm
  have r1 : ∀ k, fI g8 b k = fI g b k := fun k => cell_fI (k8b 0 (by decide)) k
  have n1 := Sh_wF s8 (fa 8 (by decide) (by decide)) (fI g b 8)
  have n2 := Sh_wF n1 (fa 9 (by decide) (by decide)) (fI g b 9)
  have n3 := Sh_wF n2 (fa 10 (by decide) (by decide)) (fI g b 10)
  have n4 := Sh_wF n3 (fa 11 (by decide) (by decide)) (fI g b 11)
  have n5 := Sh_wF n4 (fa 12 (by decide) (by decide)) (fI g b 12)
  have e109 : D_X9_become_109 z_F g7 (some a) (some b) 0 = some (wF (wF (wF (wF (wF g8 a 8 (.int (fI g b 8))) a 9 (.int (fI g b 9))) a 10 (.int (fI g b 10))) a 11 (.int (fI g b 11))) a 12 (.int (fI g b 12))) := by
    refine Eq.trans e8 ?_
    unfold D_X9_become_109b
    rw [if_pos (by decide), gI s8 8 (by decide) (by decide), Option.bind_some, r1, pV s8 8 (by decide), Option.bind_some, gI n1 9 (by decide) (by decide), Option.bind_some, fI_wF_ne (fun z => ne0 z.1), r1, pV n1 9 (by decide), Option.bind_some, gI n2 10 (by decide) (by decide), Option.bind_some, fI_wF_ne (fun z => ne0 z.1), fI_wF_ne (fun z => ne0 z.1), r1, pV n2 10 (by decide), Option.bind_some, gI n3 11 (by decide) (by decide), Option.bind_some, fI_wF_ne (fun z => ne0 z.1), fI_wF_ne (fun z => ne0 z.1), fI_wF_ne (fun z => ne0 z.1), r1, pV n3 11 (by decide), Option.bind_some, gI n4 12 (by decide) (by decide), Option.bind_some, fI_wF_ne (fun z => ne0 z.1), fI_wF_ne (fun z => ne0 z.1), fI_wF_ne (fun z => ne0 z.1), fI_wF_ne (fun z => ne0 z.1), r1, pV n4 12 (by decide), Option.bind_some]
  refine ⟨_, n5, ⟨?_, ?_, fun c hc => ?_⟩, ?_, ?_⟩
  · show g8.1 = g.1
    omega
  · show g8.2.1 = g.2.1
    omega
  · rw [wF_ne (by omega), wF_ne (by omega), wF_ne (by omega), wF_ne (by omega), wF_ne (by omega), c8 c (by omega), k7 c (by omega) (by omega) (by omega) (by omega) (by omega) (by omega) (by omega)]
  · have aW : ∀ c, aI (wF (wF (wF (wF (wF g8 a 8 (.int (fI g b 8))) a 9 (.int (fI g b 9))) a 10 (.int (fI g b 10))) a 11 (.int (fI g b 11))) a 12 (.int (fI g b 12))) c = aI g8 c := fun c => by rw [aI_wF, aI_wF, aI_wF, aI_wF, aI_wF]
    have e1 : aI g8 (a + 1) = va_cpy (aI g (b + 1)) (aI g (a + 1)) 0 0 6 := by rw [cell_aI (c8 _ (by omega)), cell_aI (c7 _ (by omega)), cell_aI (c6 _ (by omega)), cell_aI (c5 _ (by omega)), cell_aI (c4 _ (by omega)), cell_aI (c3 _ (by omega)), cell_aI (c2 _ (by omega)), a1]
    have e2 : aI g8 (a + 2) = va_cpy (aI g (b + 2)) (aI g1 (a + 2)) 0 0 6 := by rw [cell_aI (c8 _ (by omega)), cell_aI (c7 _ (by omega)), cell_aI (c6 _ (by omega)), cell_aI (c5 _ (by omega)), cell_aI (c4 _ (by omega)), cell_aI (c3 _ (by omega)), a2, cell_aI (c1 (b + 2) (fun z => dis 1 2 (by decide) (by decide) z.symm))]
    have nb' : ∀ q r, 1 ≤ q → q ≤ 8 → r ≤ 8 → b + r ≠ a + q := fun q r h1 h2 h3 z => dis q r h2 h3 z.symm
    have e3 : aI g8 (a + 3) = va_cpy (aI g (b + 3)) (aI g2 (a + 3)) 0 0 6 := by rw [cell_aI (c8 _ (by omega)), cell_aI (c7 _ (by omega)), cell_aI (c6 _ (by omega)), cell_aI (c5 _ (by omega)), cell_aI (c4 _ (by omega)), a3, cell_aI (k2 (b + 3) (nb' 1 3 (by decide) (by decide) (by decide)) (nb' 2 3 (by decide) (by decide) (by decide)))]
    have e4 : aI g8 (a + 4) = va_cpy (aI g (b + 4)) (aI g3 (a + 4)) 0 0 24 := by rw [cell_aI (c8 _ (by omega)), cell_aI (c7 _ (by omega)), cell_aI (c6 _ (by omega)), cell_aI (c5 _ (by omega)), a4, cell_aI (k3 (b + 4) (nb' 1 4 (by decide) (by decide) (by decide)) (nb' 2 4 (by decide) (by decide) (by decide)) (nb' 3 4 (by decide) (by decide) (by decide)))]
    have e5 : aI g8 (a + 5) = va_cpy (aI g (b + 5)) (aI g4 (a + 5)) 0 0 3 := by rw [cell_aI (c8 _ (by omega)), cell_aI (c7 _ (by omega)), cell_aI (c6 _ (by omega)), a5, cell_aI (k4 (b + 5) (nb' 1 5 (by decide) (by decide) (by decide)) (nb' 2 5 (by decide) (by decide) (by decide)) (nb' 3 5 (by decide) (by decide) (by decide)) (nb' 4 5 (by decide) (by decide) (by decide)))]
    have e6 : aI g8 (a + 6) = va_cpy (aI g (b + 6)) (aI g5 (a + 6)) 0 0 6 := by rw [cell_aI (c8 _ (by omega)), cell_aI (c7 _ (by omega)), a6, cell_aI (k5 (b + 6) (nb' 1 6 (by decide) (by decide) (by decide)) (nb' 2 6 (by decide) (by decide) (by decide)) (nb' 3 6 (by decide) (by decide) (by decide)) (nb' 4 6 (by decide) (by decide) (by decide)) (nb' 5 6 (by decide) (by decide) (by decide)))]
    have e7 : aI g8 (a + 7) = va_cpy (aI g (b + 7)) (aI g6 (a + 7)) 0 0 6 := by rw [cell_aI (c8 _ (by omega)), a7, cell_aI (k6 (b + 7) (nb' 1 7 (by decide) (by decide) (by decide)) (nb' 2 7 (by decide) (by decide) (by decide)) (nb' 3 7 (by decide) (by decide) (by decide)) (nb' 4 7 (by decide) (by decide) (by decide)) (nb' 5 7 (by decide) (by decide) (by decide)) (nb' 6 7 (by decide) (by decide) (by decide)))]
    refine ⟨fun i hi => ?_, fun i hi => ?_, fun i hi => ?_, fun k h1 h2 => ?_⟩
    · rw [aW, aW, aW, aW, aW, aQ_wF, aQ_wF, aQ_wF, aQ_wF, aQ_wF, e1, e2, e3, e6, e7]
      exact ⟨cpy_lt hi, cpy_lt hi, cpy_lt hi, cpy_lt hi, cpy_lt hi, q8 i hi⟩
    · rw [aW, e4]; exact cpy_lt hi
    · rw [aW, e5]; exact cpy_lt hi
    · have : k = 8 ∨ k = 9 ∨ k = 10 ∨ k = 11 ∨ k = 12 := by omega
      rcases this with rfl | rfl | rfl | rfl | rfl
      · rw [fI_wF_ne (by omega), fI_wF_ne (by omega), fI_wF_ne (by omega), fI_wF_ne (by omega), fI_wF_eq s8 (fa 8 (by decide) (by decide))]
      · rw [fI_wF_ne (by omega), fI_wF_ne (by omega), fI_wF_ne (by omega), fI_wF_eq n1 (fa 9 (by decide) (by decide))]
      · rw [fI_wF_ne (by omega), fI_wF_ne (by omega), fI_wF_eq n2 (fa 10 (by decide) (by decide))]
      · rw [fI_wF_ne (by omega), fI_wF_eq n3 (fa 11 (by decide) (by decide))]
      · rw [fI_wF_eq n4 (fa 12 (by decide) (by decide))]
  · unfold D_X9_become
    have xs1 : (Int32.ofNat (z_xs 1).1 : Int32) = Int32.ofNat 3 := rfl
    rw [(yQ hs hb).1, Option.bind_some, (yQ hs ha).1, Option.bind_some, show (6 : Int32) = Int32.ofNat 6 from rfl, show (24 : Int32) = Int32.ofNat 24 from rfl, xs1, d1, Option.bind_some, (yQ s1 hb).2.1, Option.bind_some, (yQ s1 ha).2.1, Option.bind_some, d2, Option.bind_some, (yQ s2 hb).2.2.1, Option.bind_some, (yQ s2 ha).2.2.1, Option.bind_some, d3, Option.bind_some, (yQ s3 hb).2.2.2.1, Option.bind_some, (yQ s3 ha).2.2.2.1, Option.bind_some, d4, Option.bind_some, (yQ s4 hb).2.2.2.2.1, Option.bind_some, (yQ s4 ha).2.2.2.2.1, Option.bind_some, d5, Option.bind_some, (yQ s5 hb).2.2.2.2.2.1, Option.bind_some, (yQ s5 ha).2.2.2.2.2.1, Option.bind_some, d6, Option.bind_some, (yQ s6 hb).2.2.2.2.2.2.1, Option.bind_some, (yQ s6 ha).2.2.2.2.2.2.1, Option.bind_some, d7, Option.bind_some]
    exact e109
theorem Ylaw.obs {m : Nat → Int32} (L : Ylaw g b m) : ∀ k, k < 6 → aQ g (b + 8) k = none ∨ (z_ob 7 g (aQ g (b + 8) k)).isSome = true := fun k hk => by
  rcases L.1 k hk with q | ⟨t, n, c, op, ar, cl, q1, q2⟩
  · exact Or.inl q
  · exact Or.inr (by rw [q1]; exact q2.ob)
theorem Yrel_copy {g' : z_H} {m : Nat → Int32} (Y : Yrel g b m) (C : Cpy g g' a b) (h1 : g.1 ≤ g'.1) (h3 : ∀ a, 114 ≤ a → a < g.1 → g'.2.2 a = g.2.2 a) : Yrel g' a m := by
  obtain ⟨⟨y1, y2, y3, y4, y5, y6, y7, y8, y9, y10⟩, ⟨q0, q4, q1, q2, q3, q5, q6, q7⟩, l1, l2⟩ := Y
  obtain ⟨c1, c2, c3, c4⟩ := C
  have f8 := c4 8 (by decide) (by decide)
  have f9 := c4 9 (by decide) (by decide)
  have f10 := c4 10 (by decide) (by decide)
  have f11 := c4 11 (by decide) (by decide)
  have f12 := c4 12 (by decide) (by decide)
  refine ⟨⟨by rw [f8]; exact y1, by rw [f9]; exact y2, by rw [f10]; exact y3, by rw [f11]; exact y4, by rw [f12, f11]; exact y5, fun i hi => ?_, fun i hi => by rw [c2 i hi]; exact y7 i hi, by rw [c3 0 (by decide)]; exact y8, by rw [c3 1 (by decide)]; exact y9, by rw [c3 2 (by decide)]; exact y10⟩, ⟨by rw [f8]; exact q0, by rw [f9]; exact q4, by rw [f10]; exact q1, by rw [f11]; exact q2, by rw [f12]; exact q3, fun i hi => ?_, fun i hi => by rw [c2 i hi]; exact q6 i hi, fun i hi => by rw [c3 i hi]; exact q7 i hi⟩, fun k hk => ?_, fun k hk => ?_⟩
  · obtain ⟨z1, z2, z3, z4, z5, z6⟩ := c1 i hi
    rw [z1, z2, z3, z4, z5]; exact y6 i hi
  · obtain ⟨z1, z2, z3, z4, z5, z6⟩ := c1 i hi
    rw [z1, z2, z3, z4, z5]; exact q5 i hi
  · obtain ⟨z1, z2, z3, z4, z5, z6⟩ := c1 k hk
    rw [z6]
    rcases l1 k hk with q | ⟨t, n, c, op, ar, cl, q1, q2⟩
    · exact Or.inl q
    · exact Or.inr ⟨t, n, c, op, ar, cl, q1, q2.kept h1 h3⟩
  · rw [f11] at hk
    have hk6 : k < 6 := by
      obtain ⟨z, ez, hz⟩ := y4
      rw [ez, tn_of (by omega)] at hk
      omega
    obtain ⟨z1, z2, z3, z4, z5, z6⟩ := c1 k hk6
    rw [z6]
    obtain ⟨t, n, c, op, ar, cl, q1, q2, q3⟩ := l2 k hk
    exact ⟨t, n, c, op, ar, cl, q1, q2.kept h1 h3, q3⟩
end BC
