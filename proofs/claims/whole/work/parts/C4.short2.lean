/-! the class's search: the loop -/
section SL
variable {h g g0 : z_H} {s c : Nat} {tg : Nat → Option Nat}
/-- what the search leaves -/
def SRes (h g' : z_H) (tg : Nat → Option Nat) (s c : Nat) (x : Int32) : Prop := (x = -1 ∧ lst (nxt tg) one' (gl c) 1 s FR ∧ Sh g' ∧ Tch [46, 48, 49, 50, 51] h g') ∨ ∃ (i q : Nat) (Q ct κ : Nat → Nat), x = Int32.ofNat (ct (Q i)) ∧ i < q ∧ BF (nxt tg) s (3 * i) q Q ct κ ∧ BH h g' s q Q ct κ ∧ fI g' 46 8 = Int32.ofNat (Q i) ∧ gl c (Q i) ∧ ∀ j, j < i → ¬ gl c (Q j)
theorem c_search (ok : tgOK tg) (al : ∀ k, k < 100 → aI h 47 k = enc (stN tg k)) (hc : c < 25) : ∀ (d i m : Nat) (g : z_H) (q : Nat) (Q ct κ : Nat → Nat), 100 - i = d → d < m → i ≤ 100 → BF (nxt tg) s (3 * i) q Q ct κ → BH h g s q Q ct κ → (∀ j, j < i → j < q → ¬ gl c (Q j)) → ∃ g' x, D_X4_shortest_40 m g (some 46) (Int32.ofNat c) (Int32.ofNat i) = some (x, g') ∧ SRes h g' tg s c x := by
  intro d
  induction d with
  | zero =>
    intro i m g q Q ct κ hd hm hi B H no
    obtain ⟨m, rfl⟩ : ∃ m', m = m' + 1 := ⟨m - 1, by omega⟩
    have le := B.le
    refine ⟨g, -1, ?_, Or.inl ⟨rfl, B.none (by omega) (fun j hj => no j (by omega) hj), H.1, H.2.1⟩⟩
    show D_X4_shortest_40b _ g (some 46) (Int32.ofNat c) (Int32.ofNat i) = _
    unfold D_X4_shortest_40b
    rw [s_gI H.1 (ci := 4) rfl rfl, Option.bind_some, H.2.2.1, if_pos ((nat_le (by omega) (by omega)).mpr (by omega))]
  | succ d ih =>
    intro i m g q Q ct κ hd hm hi B H no
    obtain ⟨m, rfl⟩ : ∃ m', m = m' + 1 := ⟨m - 1, by omega⟩
    have le := B.le
    show ∃ g' x, D_X4_shortest_40b (D_X4_shortest_40 m) g (some 46) (Int32.ofNat c) (Int32.ofNat i) = some (x, g') ∧ _
    unfold D_X4_shortest_40b
    rw [s_gI H.1 (ci := 4) rfl rfl, Option.bind_some, H.2.2.1]
    by_cases c1 : q ≤ i
    · rw [if_pos ((nat_le (by omega) (by omega)).mpr c1)]
      exact ⟨g, -1, rfl, Or.inl ⟨rfl, B.none c1 (fun j hj => no j (by omega) hj), H.1, H.2.1⟩⟩
    · have iq : i < q := by omega
      obtain ⟨qi, ci⟩ := B.2.1 i iq
      rw [if_neg (show ¬ Int32.ofNat q ≤ Int32.ofNat i from fun z => c1 ((nat_le (by omega) (by omega)).mp z)), if_neg (show ¬ (100 : Int32) ≤ Int32.ofNat i from fun z => by have := (nat_le (a := 100) (b := i) (by decide) (by omega)).mp z; omega), s_gQ (r := 48) H.1 rfl rfl, Option.bind_some, aR H.1 (n := 100) rfl (by omega) (by decide), Option.bind_some, H.2.2.2.1 i iq, show Int32.ofNat (Q i) / 4 = Int32.ofNat (Q i / 4) from sc_div (b := 4) (by omega) (by decide) (by decide)]
      by_cases c2 : Q i / 4 = c
      · rw [if_pos (show Int32.ofNat (Q i / 4) = Int32.ofNat c by rw [c2]), s_pV H.1 (ci := 4) rfl (by decide), Option.bind_some]
        have s1 : Sh (wF g 46 8 (.int (Int32.ofNat (Q i)))) := Sh_wF H.1 rfl _
        have e51 : aI (wF g 46 8 (.int (Int32.ofNat (Q i)))) 51 = aI g 51 := aI_wF _ _ _ _
        rw [s_gQ (r := 51) s1 rfl rfl, Option.bind_some, aR s1 (n := 100) rfl qi (by decide), e51, H.2.2.2.2.1 _ qi, Option.bind_some]
        refine ⟨_, _, rfl, Or.inr ⟨i, q, Q, ct, κ, rfl, iq, B, ⟨s1, Tch_wF H.2.1 (by decide) _ _, ?_, ?_, ?_, ?_, ?_⟩, fI_wF_eq H.1 rfl _, c2, fun j hj => no j hj (by omega)⟩⟩
        · rw [fI_wF_ne (by decide)]; exact H.2.2.1
        · rw [aI_wF]; exact H.2.2.2.1
        · rw [e51]; exact H.2.2.2.2.1
        · rw [aI_wF, aI_wF]; exact H.2.2.2.2.2.1
        · rw [aI_wF]; exact H.2.2.2.2.2.2
      · rw [if_neg (show ¬ Int32.ofNat (Q i / 4) = Int32.ofNat c from fun z => c2 ((eq_lit (by omega) (by omega)).mp z))]
        have ip := loop_up (S := z_H × Nat × (Nat → Nat) × (Nat → Nat) × (Nat → Nat)) (I := fun a t => BF (nxt tg) s (3 * i + a) t.2.1 t.2.2.1 t.2.2.2.1 t.2.2.2.2 ∧ BH h t.1 s t.2.1 t.2.2.1 t.2.2.2.1 t.2.2.2.2 ∧ q ≤ t.2.1 ∧ ∀ j, j < q → t.2.2.1 j = Q j) (F := fun m' t a => D_X4_shortest_90 (D_X4_shortest_40 m) m' t.1 (some 46) (Int32.ofNat c) (Int32.ofNat i) (Int32.ofNat (Q i)) (Int32.ofNat a)) (G := fun t => D_X4_shortest_40 m t.1 (some 46) (Int32.ofNat c) (Int32.ofNat (i + 1))) (N := 3) (fun m' t _ => ?_) (fun m' t a ha J => ?_) 3 0 z_F (g, q, Q, ct, κ) (by decide) (by decide) (by show _ < 1000000; decide) ⟨B, H, Nat.le_refl _, fun _ _ => rfl⟩
        · obtain ⟨⟨g', q', Q', ct', κ'⟩, ⟨B', H', le', Qo⟩, e⟩ := ip
          dsimp only at B' H' le' Qo e
          obtain ⟨g2, x, e2, r⟩ := ih (i + 1) m g' q' Q' ct' κ' (by omega) (by omega) (by omega) B' H' (fun j hj _ => by
            rw [Qo j (by omega)]
            by_cases w : j = i
            · rw [w]; exact c2
            · exact no j (by omega) (by omega))
          exact ⟨g2, x, e.trans e2, r⟩
        · show D_X4_shortest_90b (D_X4_shortest_40 m) _ t.1 (some 46) (Int32.ofNat c) (Int32.ofNat i) (Int32.ofNat (Q i)) (Int32.ofNat 3) = _
          unfold D_X4_shortest_90b
          rw [if_pos (by decide), Option.bind_some, show Int32.ofNat i + 1 = Int32.ofNat (i + 1) from sc_add i 1]
        · obtain ⟨gt', q', Q', ct', κ'⟩ := t
          obtain ⟨B', H', le', Qo⟩ := J
          dsimp only at B' H' le' Qo
          obtain ⟨g2, q2, Q2, ct2, κ2, B2, H2, l2, Qo2, bh, rc, rch⟩ := c_act ok al B' H' (by omega) ha
          rw [Qo i iq] at bh rc rch
          refine ⟨(g2, q2, Q2, ct2, κ2), ⟨B2, H2, by show q ≤ q2; omega, fun j hj => by show Q2 j = Q j; rw [Qo2 j (by omega), Qo j hj]⟩, ?_⟩
          show D_X4_shortest_90b (D_X4_shortest_40 m) (D_X4_shortest_90 (D_X4_shortest_40 m) m') gt' (some 46) (Int32.ofNat c) (Int32.ofNat i) (Int32.ofNat (Q i)) (Int32.ofNat a) = _
          unfold D_X4_shortest_90b
          rw [if_neg (show ¬ (3 : Int32) ≤ Int32.ofNat a from fun z => by have := (nat_le (a := 3) (b := a) (by decide) (by omega)).mp z; omega), s_ob H'.1 (ci := 4) rfl, Option.bind_some, bh, Option.bind_some]
          dsimp only
          rw [s_gQ (r := 51) H'.1 rfl rfl, Option.bind_some, rc, Option.bind_some, s_ob H'.1 (ci := 4) rfl, Option.bind_some, rch, Option.bind_some, Option.bind_some, show Int32.ofNat a + 1 = Int32.ofNat (a + 1) from sc_add a 1]
theorem c_shortest {m : Nat → Int32} {law : Option Nat} {T : LawT} (hs0 : Sh g0) (Y : Yrel g0 1 m) {k : Int32} (dl : D_X9_lawInForce g0 (some 1) = some (law, g0)) (lr : LawR g0 m k law T) {p c0 y0 : Nat} (hp : p < 6) (hc0 : c0 < 25) (hy0 : y0 < 4) (ec : aI g0 2 p = Int32.ofNat c0) (ey : aI g0 3 p = Int32.ofNat y0) (hc : c < 25) : ∃ g1 g' x, Sh g1 ∧ Tch [29, 30, 31, 47] g0 g1 ∧ SRes g1 g' (tgN T m p) (4 * c0 + y0) c x ∧ D_X4_shortest g0 (some 46) (some 1) (Int32.ofNat p) (Int32.ofNat c) = some (x, g') := by
  obtain ⟨g1, s1, T1, al, d1⟩ := c_layOut hs0 Y dl lr hp
  have ok : tgOK (tgN T m p) := fun k b hk e => tgN_lt hk e
  obtain ⟨f, hf, ef⟩ := d_fillI s1 (a := 51) (n := 100) rfl (by decide) 1000000
  have s2 : Sh (wA g1 51 f) := Sh_wA s1 rfl f
  have s3 : Sh (wF (wA g1 51 f) 46 7 (.int 0)) := Sh_wF s2 rfl 0
  have s4 : Sh (wF (wF (wA g1 51 f) 46 7 (.int 0)) 46 8 (.int (-1))) := Sh_wF s3 rfl (-1)
  have T4 : Tch [46, 48, 49, 50, 51] g1 (wF (wF (wA g1 51 f) 46 7 (.int 0)) 46 8 (.int (-1))) := Tch_wF (Tch_wF (Tch_wA (Tch_rfl _ g1) (by decide) _) (by decide) _ _) (by decide) _ _
  have f4 : fI (wF (wF (wA g1 51 f) 46 7 (.int 0)) 46 8 (.int (-1))) 46 7 = Int32.ofNat 0 := by rw [fI_wF_ne (by decide), fI_wF_eq s2 rfl]; rfl
  have a4 : aI (wF (wF (wA g1 51 f) 46 7 (.int 0)) 46 8 (.int (-1))) 51 = f := by rw [aI_wF, aI_wF, aI_wA_eq s1 rfl]
  have pl := placeC s4 hp (c := c0) (y := y0) (by rw [cell_aI (T4.c (by decide)), cell_aI (T1.c (by decide))]; exact ec) (by rw [cell_aI (T4.c (by decide)), cell_aI (T1.c (by decide))]; exact ey)
  have hsn : 4 * c0 + y0 < 100 := by omega
  obtain ⟨g5, s5, T5, f5, e51, e49, e50, e48, d5⟩ := c_reach_new s4 hsn (by rw [a4]; exact hf _ hsn) f4 (by decide) 0 (-1) (-1)
  generalize hst : 4 * c0 + y0 = st at *
  have B : BF (nxt (tgN T m p)) st (3 * 0) 1 (fun _ => st) (fun x => if x = st then 0 else FC) (fun _ => 0) := by
    refine ⟨⟨Nat.le_refl _, ?_, rfl, if_pos rfl⟩, fun j hj => ⟨hsn, ?_⟩, fun j j' h1 h2 _ => by omega, fun x hx => ?_, fun j h1 h2 => by omega, fun j j' h1 h2 h3 => by omega, fun t ht => by omega⟩
    · have : dsc (fun x => if x = st then 0 else FC) = addN (fun _ => 0) st 1 := by
        funext x
        show (if (if x = st then 0 else FC) = FC then 0 else 1) = (if x = st then (0 + 1 : Nat) else 0)
        by_cases w : x = st
        · rw [if_pos w, if_pos w]; rfl
        · rw [if_neg w, if_neg w]; rfl
      rw [this, sum_add, if_pos hsn, show sumN (fun _ => 0) 100 = 0 by decide]
    · dsimp only; rw [if_pos rfl]; exact Nat.zero_le _
    · by_cases w : x = st
      · exact Or.inr ⟨0, by decide, w.symm⟩
      · exact Or.inl (if_neg w)
  have H : BH g1 g5 st 1 (fun _ => st) (fun x => if x = st then 0 else FC) (fun _ => 0) := by
    refine ⟨s5, T4.trans T5, f5, fun j hj => ?_, fun x hx => ?_, fun j h1 h2 => by omega, ?_⟩
    · rw [e48, show j = 0 by omega, upd_eq]
    · rw [e51, a4]
      by_cases w : x = st
      · rw [w, upd_eq]; dsimp only; rw [if_pos rfl]; rfl
      · rw [upd_ne w, hf x hx]; dsimp only; rw [if_neg w]; rfl
    · rw [e49, upd_eq]
  obtain ⟨g', x, e, r⟩ := c_search ok al hc 100 0 z_F g5 1 _ _ _ (by decide) (by show _ < 1000000; decide) (by decide) B H (fun j h1 => by omega)
  refine ⟨g1, g', x, s1, T1, r, ?_⟩
  unfold D_X4_shortest
  rw [s_ob hs0 (ci := 4) rfl, Option.bind_some, d1, Option.bind_some, s_gQ (r := 51) s1 rfl rfl, Option.bind_some, ef, Option.bind_some, s_pV s2 (ci := 4) rfl (by decide), Option.bind_some, s_pV s3 (ci := 4) rfl (by decide), Option.bind_some, (yR s4 (Or.inl rfl)).1, Option.bind_some, pl, Option.bind_some]
  dsimp only
  rw [s_ob s4 (ci := 4) rfl, Option.bind_some, d5, Option.bind_some]
  exact e
end SL
