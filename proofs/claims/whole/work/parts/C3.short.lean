/-! the class's search by the number of acts, in its cells -/
section SH
variable {h g : z_H} {s T q : Nat} {Q ct κ : Nat → Nat} {tg : Nat → Option Nat}
theorem c_reach_new (hs : Sh g) {x q : Nat} (hx : x < 100) (e5 : aI g 51 x = 1000000) (e7 : fI g 46 7 = Int32.ofNat q) (hq : q < 100) (l2 l3 l4 : Int32) : ∃ g', Sh g' ∧ Tch [46, 48, 49, 50, 51] g g' ∧ fI g' 46 7 = Int32.ofNat (q + 1) ∧ aI g' 51 = upd (aI g 51) x l2 ∧ aI g' 49 = upd (aI g 49) x l3 ∧ aI g' 50 = upd (aI g 50) x l4 ∧ aI g' 48 = upd (aI g 48) q (Int32.ofNat x) ∧ D_X4_reach g (some 46) (Int32.ofNat x) l2 l3 l4 = some g' := by
  have s1 : Sh (wA g 51 (upd (aI g 51) x l2)) := Sh_wA hs rfl _
  generalize h1 : wA g 51 (upd (aI g 51) x l2) = g1 at s1
  have s2 : Sh (wA g1 49 (upd (aI g1 49) x l3)) := Sh_wA s1 rfl _
  generalize h2 : wA g1 49 (upd (aI g1 49) x l3) = g2 at s2
  have s3 : Sh (wA g2 50 (upd (aI g2 50) x l4)) := Sh_wA s2 rfl _
  generalize h3 : wA g2 50 (upd (aI g2 50) x l4) = g3 at s3
  have s4 : Sh (wA g3 48 (upd (aI g3 48) q (Int32.ofNat x))) := Sh_wA s3 rfl _
  generalize h4 : wA g3 48 (upd (aI g3 48) q (Int32.ofNat x)) = g4 at s4
  have s5 : Sh (wF g4 46 7 (.int (Int32.ofNat (q + 1)))) := Sh_wF s4 rfl _
  have f3 : fI g3 46 7 = Int32.ofNat q := by rw [← h3, fI_wA, ← h2, fI_wA, ← h1, fI_wA, e7]
  have f4 : fI g4 46 7 = Int32.ofNat q := by rw [← h4, fI_wA, f3]
  refine ⟨wF g4 46 7 (.int (Int32.ofNat (q + 1))), s5, ?_, fI_wF_eq s4 rfl _, ?_, ?_, ?_, ?_, ?_⟩
  · rw [← h4, ← h3, ← h2, ← h1]
    exact Tch_wF (Tch_wA (Tch_wA (Tch_wA (Tch_wA (Tch_rfl _ g) (by decide) _) (by decide) _) (by decide) _) (by decide) _) (by decide) _ _
  · rw [aI_wF, ← h4, aI_wA_ne (by decide), ← h3, aI_wA_ne (by decide), ← h2, aI_wA_ne (by decide), ← h1, aI_wA_eq hs rfl]
  · rw [aI_wF, ← h4, aI_wA_ne (by decide), ← h3, aI_wA_ne (by decide), ← h2, aI_wA_eq s1 rfl, ← h1, aI_wA_ne (by decide)]
  · rw [aI_wF, ← h4, aI_wA_ne (by decide), ← h3, aI_wA_eq s2 rfl, ← h2, aI_wA_ne (by decide), ← h1, aI_wA_ne (by decide)]
  · rw [aI_wF, ← h4, aI_wA_eq s3 rfl, ← h3, aI_wA_ne (by decide), ← h2, aI_wA_ne (by decide), ← h1, aI_wA_ne (by decide)]
  · unfold D_X4_reach
    rw [if_neg (of_nm1 (by omega)), s_gQ (r := 51) hs rfl rfl, Option.bind_some, aR hs (n := 100) rfl hx (by decide), Option.bind_some, if_pos e5, s_gI hs (ci := 4) rfl rfl, Option.bind_some, e7, if_pos (show Int32.ofNat q < 100 from (nat_lt (b := 100) (by omega) (by decide)).mpr hq), Option.bind_some, aW hs (n := 100) rfl hx (by decide), Option.bind_some, h1, s_gQ (r := 49) s1 rfl rfl, Option.bind_some, aW s1 (n := 100) rfl hx (by decide), Option.bind_some, h2, s_gQ (r := 50) s2 rfl rfl, Option.bind_some, aW s2 (n := 100) rfl hx (by decide), Option.bind_some, h3, s_gQ (r := 48) s3 rfl rfl, Option.bind_some, s_gI s3 (ci := 4) rfl rfl, Option.bind_some, f3, aW s3 (n := 100) rfl hq (by decide), Option.bind_some, h4, s_gI s4 (ci := 4) rfl rfl, Option.bind_some, f4, show Int32.ofNat q + 1 = Int32.ofNat (q + 1) from sc_add q 1, s_pV s4 (ci := 4) rfl (by decide), Option.bind_some]
theorem c_reach_old (hs : Sh g) {x : Nat} (hx : x < 100) (e5 : ¬ aI g 51 x = 1000000) (l2 l3 l4 : Int32) : D_X4_reach g (some 46) (Int32.ofNat x) l2 l3 l4 = some g := by
  unfold D_X4_reach
  rw [if_neg (of_nm1 (by omega)), s_gQ (r := 51) hs rfl rfl, Option.bind_some, aR hs (n := 100) rfl hx (by decide), Option.bind_some, if_neg e5]
theorem c_reach_none (l2 l3 l4 : Int32) : D_X4_reach g (some 46) (-1) l2 l3 l4 = some g := by
  unfold D_X4_reach
  rw [if_pos rfl]
def BH (h g : z_H) (s q : Nat) (Q ct κ : Nat → Nat) : Prop := Sh g ∧ Tch [46, 48, 49, 50, 51] h g ∧ fI g 46 7 = Int32.ofNat q ∧ (∀ j, j < q → aI g 48 j = Int32.ofNat (Q j)) ∧ (∀ x, x < 100 → aI g 51 x = Int32.ofNat (ct x)) ∧ (∀ j, 1 ≤ j → j < q → aI g 49 (Q j) = Int32.ofNat (Q (κ j / 3)) ∧ aI g 50 (Q j) = Int32.ofNat (κ j % 3)) ∧ aI g 49 s = -1
/-- one act of one place -/
theorem c_act (ok : tgOK tg) (al : ∀ k, k < 100 → aI h 47 k = enc (stN tg k)) {i a : Nat} (B : BF (nxt tg) s (3 * i + a) q Q ct κ) (H : BH h g s q Q ct κ) (hi : i < q) (ha : a < 3) : ∃ g' q' Q' ct' κ', BF (nxt tg) s (3 * i + (a + 1)) q' Q' ct' κ' ∧ BH h g' s q' Q' ct' κ' ∧ q ≤ q' ∧ (∀ j, j < q → Q' j = Q j) ∧ D_X4_behind g (some 46) (Int32.ofNat (Q i)) (Int32.ofNat a) = some (enc (nxt tg (Q i) a), g) ∧ z_aI .int g (some 51) (Int32.ofNat (Q i)) = some (Int32.ofNat (ct (Q i))) ∧ D_X4_reach g (some 46) (enc (nxt tg (Q i) a)) (Int32.ofNat (ct (Q i)) + 1) (Int32.ofNat (Q i)) (Int32.ofNat a) = some g' := by
  obtain ⟨hs, Tc, f7, a48, a51, a49, as⟩ := H
  have al' : ∀ k, k < 100 → aI g 47 k = enc (stN tg k) := fun k hk => by rw [cell_aI (Tc.c (by decide))]; exact al k hk
  obtain ⟨qi, ci⟩ := B.2.1 i hi
  have q100 := B.le
  have d3 : (3 * i + a) / 3 = i := by omega
  have m3 : (3 * i + a) % 3 = a := by omega
  have bh := c_behind hs al' (k := Q i) (a := a) qi ha
  have rc : z_aI .int g (some 51) (Int32.ofNat (Q i)) = some (Int32.ofNat (ct (Q i))) := by rw [aR hs (n := 100) rfl qi (by decide), a51 _ qi]
  have fc : ∀ x, x < 100 → (aI g 51 x = 1000000 ↔ ct x = FC) := fun x hx => by
    rw [a51 x hx]
    rcases B.2.2.2.1 x hx with z | ⟨j, hj, ej⟩
    · rw [z]; exact ⟨fun _ => rfl, fun _ => rfl⟩
    · have := (B.2.1 j hj).2
      rw [ej] at this
      exact eq_lit (b := 1000000) (by omega) (by decide)
  cases e : nxt tg (Q i) a with
  | none =>
    refine ⟨g, q, Q, ct, κ, B.skip (fun z ez => by rw [d3, m3, e] at ez; cases ez), ⟨hs, Tc, f7, a48, a51, a49, as⟩, Nat.le_refl _, fun _ _ => rfl, by rw [bh, e], rc, c_reach_none _ _ _⟩
  | some z =>
    have hz := nxt_lt ok qi e
    by_cases c : ct z = FC
    · have hq := B.lt hz c
      obtain ⟨g', s', T', f', e51, e49, e50, e48, d⟩ := c_reach_new hs hz ((fc z hz).mpr c) f7 hq (Int32.ofNat (ct (Q i)) + 1) (Int32.ofNat (Q i)) (Int32.ofNat a)
      have B' := B.add (z := z) (by omega) (by rw [d3, m3]; exact e) hz c
      have nz : ∀ j, j < q → Q j ≠ z := fun j hj w => by
        have := (B.2.1 j hj).2
        rw [w, c] at this
        unfold FC at this; omega
      have Qo : ∀ j, j < q → updN Q q z j = Q j := fun j hj => by unfold updN; rw [if_neg (by omega)]
      refine ⟨g', q + 1, updN Q q z, updN ct z (ct (Q ((3 * i + a) / 3)) + 1), updN κ q (3 * i + a), B', ⟨s', Tc.trans T', f', fun j hj => ?_, fun x hx => ?_, fun j h1 h2 => ?_, ?_⟩, by omega, Qo, by rw [bh, e], rc, d⟩
      · rw [e48]
        unfold updN
        by_cases w : j = q
        · rw [if_pos w, w, upd_eq]
        · rw [if_neg w, upd_ne w]; exact a48 j (by omega)
      · rw [e51, d3]
        unfold updN
        by_cases w : x = z
        · rw [if_pos w, w, upd_eq]; exact sc_add _ 1
        · rw [if_neg w, upd_ne w]; exact a51 x hx
      · by_cases w : j = q
        · have k1 : updN κ q (3 * i + a) j = 3 * i + a := by unfold updN; rw [if_pos w]
          have k2 : updN Q q z j = z := by unfold updN; rw [if_pos w]
          rw [k1, k2, d3, m3, Qo i hi, e49, e50, upd_eq, upd_eq]
          exact ⟨rfl, rfl⟩
        · have k1 : updN κ q (3 * i + a) j = κ j := by unfold updN; rw [if_neg w]
          have kj := (B.2.2.2.2.1 j h1 (by omega)).2.1
          rw [k1, Qo j (by omega), Qo _ (by omega), e49, e50, upd_ne (nz j (by omega)), upd_ne (nz j (by omega))]
          exact a49 j h1 (by omega)
      · have := nz 0 (by omega)
        rw [B.1.2.2.1] at this
        rw [e49, upd_ne this]; exact as
    · refine ⟨g, q, Q, ct, κ, B.skip (fun y ey => by rw [d3, m3, e] at ey; cases ey; exact ⟨hz, c⟩), ⟨hs, Tc, f7, a48, a51, a49, as⟩, Nat.le_refl _, fun _ _ => rfl, by rw [bh, e], rc, c_reach_old hs hz (fun w => c ((fc z hz).mp w)) _ _ _⟩
end SH
