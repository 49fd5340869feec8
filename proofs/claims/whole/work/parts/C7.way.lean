/-! way -/
section WY
variable {j : Nat} {h g g1 : z_H} {tg : Nat → Option Nat} {s q i c : Nat} {Q ct κ v : Nat → Nat}
theorem c_actAt (B : BF (nxt tg) s (3 * i) q Q ct κ) (H : BH h g s q Q ct κ) (f8 : fI g 46 8 = Int32.ofNat (Q i)) (hi : i < q) {l : Nat} (hl : l < ct (Q i)) : D_X4_actAt g (some 46) (Int32.ofNat l) = some (Int32.ofNat (κ (anc κ i (ct (Q i) - l - 1)) % 3), g) := by
  have hs := H.1
  have q100 := B.le
  have L100 := (B.2.1 i hi).2
  have q5 : z_gQ 4 g (some 46) 5 = some (some 51) := s_gQ hs rfl rfl
  have q4 : z_gQ 4 g (some 46) 4 = some (some 50) := s_gQ hs rfl rfl
  have q3 : z_gQ 4 g (some 46) 3 = some (some 49) := s_gQ hs rfl rfl
  have ll : Int32.ofNat l + 1 = Int32.ofNat (l + 1) := sc_add l 1
  have rc : ∀ n, n ≤ ct (Q i) → z_aI .int g (some 51) (Int32.ofNat (Q (anc κ i n))) = some (Int32.ofNat (ct (Q i) - n)) := fun n hn => by
    obtain ⟨a1, -, -, a4⟩ := anc_ok B hi n hn
    have a0 := (B.2.1 _ a1).1
    rw [aR hs (n := 100) rfl a0 (by decide), H.2.2.2.2.1 _ a0, show ct (Q (anc κ i n)) = ct (Q i) - n by omega]
  have lp := loop_up (S := Unit) (I := fun _ _ => True) (F := fun m _ n => D_X4_actAt_7 m g (some 46) (Int32.ofNat l) (Int32.ofNat (Q (anc κ i n))) (Int32.ofNat n)) (G := fun _ => some (Int32.ofNat (κ (anc κ i (ct (Q i) - l - 1)) % 3), g)) (N := ct (Q i) - l - 1) (fun m _ _ => ?_) (fun m _ n hn _ => ⟨(), trivial, ?_⟩) (ct (Q i) - l - 1) 0 z_F () (by omega) (by omega) (by show _ < 1000000; omega) trivial
  · obtain ⟨_, -, e⟩ := lp
    unfold D_X4_actAt
    rw [s_gI hs (ci := 4) rfl rfl, Option.bind_some, f8]
    exact e
  · show D_X4_actAt_7b _ g (some 46) (Int32.ofNat l) (Int32.ofNat (Q (anc κ i (ct (Q i) - l - 1)))) (Int32.ofNat (ct (Q i) - l - 1)) = _
    obtain ⟨a1, -, -, a4⟩ := anc_ok B hi (ct (Q i) - l - 1) (by omega)
    have a0 := (B.2.1 _ a1).1
    have ap := anc_pos B hi (n := ct (Q i) - l - 1) (by omega)
    unfold D_X4_actAt_7b
    rw [if_neg (show ¬ (100 : Int32) ≤ Int32.ofNat (ct (Q i) - l - 1) from fun z => by have := (nat_le (a := 100) (by decide) (by omega)).mp z; omega), if_neg (of_nm1 (by omega)), q5, Option.bind_some, rc _ (by omega), Option.bind_some, ll, if_pos (show Int32.ofNat (ct (Q i) - (ct (Q i) - l - 1)) = Int32.ofNat (l + 1) by rw [show ct (Q i) - (ct (Q i) - l - 1) = l + 1 by omega]), q4, Option.bind_some, aR hs (n := 100) rfl a0 (by decide), (H.2.2.2.2.2.1 _ ap a1).2, Option.bind_some]
  · show D_X4_actAt_7b (D_X4_actAt_7 m) g (some 46) (Int32.ofNat l) (Int32.ofNat (Q (anc κ i n))) (Int32.ofNat n) = _
    obtain ⟨a1, -, -, a4⟩ := anc_ok B hi n (by omega)
    have a0 := (B.2.1 _ a1).1
    have ap := anc_pos B hi (n := n) (by omega)
    unfold D_X4_actAt_7b
    rw [if_neg (show ¬ (100 : Int32) ≤ Int32.ofNat n from fun z => by have := (nat_le (a := 100) (by decide) (by omega)).mp z; omega), if_neg (of_nm1 (by omega)), q5, Option.bind_some, rc _ (by omega), Option.bind_some, ll, if_neg (show ¬ Int32.ofNat (ct (Q i) - n) = Int32.ofNat (l + 1) from fun z => by have := (eq_lit (by omega) (by omega)).mp z; omega), q3, Option.bind_some, aR hs (n := 100) rfl a0 (by decide), (H.2.2.2.2.2.1 _ ap a1).1, Option.bind_some, Option.bind_some, show Int32.ofNat n + 1 = Int32.ofNat (n + 1) from sc_add n 1]
    rfl
theorem m_actAt (ok : tgOK tg) (hs : Sh g) (al : ∀ k, k < 100 → aI g 102 k = enc (tg k)) (av : ∀ k, k < 100 → aI g 104 k = Int32.ofNat (v k)) (B : BF (nxt tg) s (3 * i) q Q ct κ) (hi : i < q) (gi : gl c (Q i)) (no : ∀ j, j < i → ¬ gl c (Q j)) (hv : ∀ k, k < 100 → lst (nxt tg) one' (gl c) 1 k (v k)) {l : Nat} (hl : l < ct (Q i)) : D_X11_way_85 z_F g (some 81) (Int32.ofNat l) (Int32.ofNat s) (-1) 0 = some (Int32.ofNat (κ (anc κ i (ct (Q i) - l - 1)) % 3), g) := by
  have q100 := B.le
  have L100 := (B.2.1 i hi).2
  obtain ⟨vs, va, fr⟩ := first_row B hi gi no hv (fun k a k' hk _ e => nxt_lt ok hk e)
  have q43 : z_gQ 11 g (some 81) 43 = some (some 104) := s_gQ hs rfl rfl
  have rd : ∀ {k}, k < 100 → z_aI .int g (some 104) (Int32.ofNat k) = some (Int32.ofNat (v k)) := fun {k} hk => by rw [aR hs (n := 100) rfl hk (by decide), av k hk]
  have vb : ∀ k, k < 100 → v k ≤ FR := fun k hk => by
    rcases hv k hk with ⟨w, -⟩ | ⟨w, -⟩
    · omega
    · unfold FR; omega
  have an : anc κ i (ct (Q i)) = 0 := by
    obtain ⟨a1, -, -, a4⟩ := anc_ok B hi (ct (Q i)) (Nat.le_refl _)
    rcases Nat.eq_zero_or_pos (anc κ i (ct (Q i))) with w | w
    · exact w
    · have := (B.2.2.2.2.1 _ w a1).2.2.2
      omega
  have lp := loop_up (S := Unit) (I := fun _ _ => True) (F := fun m _ t => D_X11_way_85 m g (some 81) (Int32.ofNat l) (Int32.ofNat (Q (anc κ i (ct (Q i) - t)))) (if t = 0 then -1 else Int32.ofNat (κ (anc κ i (ct (Q i) - t)) % 3)) (Int32.ofNat t)) (G := fun _ => some (Int32.ofNat (κ (anc κ i (ct (Q i) - l - 1)) % 3), g)) (N := l + 1) (fun m _ _ => ?_) (fun m _ t ht _ => ⟨(), trivial, ?_⟩) (l + 1) 0 z_F () (by omega) (by omega) (by show _ < 1000000; omega) trivial
  · obtain ⟨_, -, e⟩ := lp
    rw [Nat.sub_zero, an, B.1.2.2.1] at e
    exact e
  · show D_X11_way_85b _ g (some 81) (Int32.ofNat l) (Int32.ofNat (Q (anc κ i (ct (Q i) - (l + 1))))) (if l + 1 = 0 then -1 else Int32.ofNat (κ (anc κ i (ct (Q i) - (l + 1))) % 3)) (Int32.ofNat (l + 1)) = _
    unfold D_X11_way_85b
    rw [if_pos (show Int32.ofNat l < Int32.ofNat (l + 1) from (nat_lt (by omega) (by omega)).mpr (by omega)), if_neg (show ¬ l + 1 = 0 by omega), Nat.sub_sub]
  · show D_X11_way_85b (D_X11_way_85 m) g (some 81) (Int32.ofNat l) (Int32.ofNat (Q (anc κ i (ct (Q i) - t)))) (if t = 0 then -1 else Int32.ofNat (κ (anc κ i (ct (Q i) - t)) % 3)) (Int32.ofNat t) = _
    unfold D_X11_way_85b
    rw [if_neg (show ¬ Int32.ofNat l < Int32.ofNat t from fun z => by have := (nat_lt (by omega) (by omega)).mp z; omega)]
    obtain ⟨n, hn⟩ : ∃ n, ct (Q i) - t = n + 1 := ⟨ct (Q i) - t - 1, by omega⟩
    have hn' : ct (Q i) - (t + 1) = n := by omega
    rw [hn, hn', if_neg (show ¬ t + 1 = 0 by omega)]
    obtain ⟨f1, f2⟩ := fr n (by omega)
    obtain ⟨a1, -⟩ := anc_ok B hi (n + 1) (by omega)
    obtain ⟨b1, -⟩ := anc_ok B hi n (by omega)
    have x0 := (B.2.1 _ a1).1
    have z0 := (B.2.1 _ b1).1
    have vx := va (n + 1) (by omega)
    have vz := va n (by omega)
    generalize Q (anc κ i (n + 1)) = x at *
    generalize Q (anc κ i n) = z at *
    have b3 : κ (anc κ i n) % 3 < 3 := Nat.mod_lt _ (by decide)
    generalize κ (anc κ i n) % 3 = b at *
    have ip := loop_up (S := Unit) (I := fun _ _ => True) (F := fun m' _ a => D_X11_way_94 (D_X11_way_85 m) m' g (some 81) (Int32.ofNat l) (Int32.ofNat x) (Int32.ofNat a) (Int32.ofNat t)) (G := fun _ => D_X11_way_85 m g (some 81) (Int32.ofNat l) (Int32.ofNat z) (Int32.ofNat b) (Int32.ofNat (t + 1))) (N := b) (fun m' _ _ => ?_) (fun m' _ a ha _ => ⟨(), trivial, ?_⟩) b 0 z_F () (by omega) (by omega) (by show _ < 1000000; omega) trivial
    · obtain ⟨_, -, e⟩ := ip
      exact e
    · show D_X11_way_94b (D_X11_way_85 m) _ g (some 81) (Int32.ofNat l) (Int32.ofNat x) (Int32.ofNat b) (Int32.ofNat t) = _
      have ma := m_acted hs ok al x0 b3
      rw [f1] at ma
      unfold D_X11_way_94b
      rw [s_ob hs (ci := 11) rfl, Option.bind_some, ma, Option.bind_some]
      dsimp only
      rw [if_neg (show ¬ enc (some z) = -1 from of_nm1 (by omega)), q43, Option.bind_some, s_ob hs (ci := 11) rfl, Option.bind_some, ma, Option.bind_some]
      dsimp only
      rw [show enc (some z) = Int32.ofNat z from rfl, rd z0, Option.bind_some, q43, Option.bind_some, rd x0, Option.bind_some, vx, vz, show Int32.ofNat (n + 1) - 1 = Int32.ofNat n from sc_sub (i := n + 1) (k := 1) (by omega), if_pos rfl, s_ob hs (ci := 11) rfl, Option.bind_some, ma, Option.bind_some]
      dsimp only
      rw [Option.bind_some, show Int32.ofNat t + 1 = Int32.ofNat (t + 1) from sc_add t 1]
      rfl
    · show D_X11_way_94b (D_X11_way_85 m) (D_X11_way_94 (D_X11_way_85 m) m') g (some 81) (Int32.ofNat l) (Int32.ofNat x) (Int32.ofNat a) (Int32.ofNat t) = _
      have ma := m_acted hs ok al x0 (show a < 3 by omega)
      have aa : Int32.ofNat a + 1 = Int32.ofNat (a + 1) := sc_add a 1
      unfold D_X11_way_94b D_X11_way_131
      rw [s_ob hs (ci := 11) rfl, Option.bind_some, ma, Option.bind_some]
      dsimp only
      cases e : nxt tg x a with
      | none => rw [if_pos (show enc none = -1 from rfl), Option.bind_some, aa]
      | some y =>
        have y0 := nxt_lt ok x0 e
        have nv := f2 a y ha e
        have := vb y y0
        rw [e] at ma
        rw [if_neg (show ¬ enc (some y) = -1 from of_nm1 (by omega)), q43, Option.bind_some, s_ob hs (ci := 11) rfl, Option.bind_some, ma, Option.bind_some]
        dsimp only
        rw [show enc (some y) = Int32.ofNat y from rfl, rd y0, Option.bind_some, q43, Option.bind_some, rd x0, Option.bind_some, vx, show Int32.ofNat (n + 1) - 1 = Int32.ofNat n from sc_sub (i := n + 1) (k := 1) (by omega), if_neg (show ¬ Int32.ofNat (v y) = Int32.ofNat n from fun w => nv ((eq_lit (by unfold FR at this; omega) (by omega)).mp w)), Option.bind_some, aa]
end WY
