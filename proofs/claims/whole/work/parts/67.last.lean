/-! WHICH CLAUSE HOLDS LAST -/
def botJ (s : List Int64) : Int64 := s.getLast?.getD 1
theorem bot_J (s : List Int64) : bot s = (botJ s).toInt32 := by
  unfold bot botJ
  cases s.getLast? with
  | none => rfl
  | some v => rfl
/-- whether clause k holds, and what its SUM comes to -/
def hC (op ar cl w : Nat → Int32) (k : Nat) : Option Int64 := match evC op ar w (tn (cl (6 * k + 4))) (tn (cl (6 * k + 5))) with
  | none => none
  | some s => if bot s = 1 then (evC op ar w (tn (cl (6 * k + 2))) (tn (cl (6 * k + 3)))).map botJ else none
def lastC (op ar cl w : Nat → Int32) (verb : Int32) : Nat → Option Int64
  | 0 => none
  | k + 1 => if cl (6 * k) = verb then (match hC op ar cl w k with
    | some v => some v
    | none => lastC op ar cl w verb k) else lastC op ar cl w verb k
section LS
variable {g : z_H} {t t1 t2 t3 N n NC cc : Nat} {op ar cl w : Nat → Int32}
/-- the places of the clauses lie inside -/
def clOK (n c : Nat) (cl : Nat → Int32) : Prop := ∀ k, k < c → nb (cl (6 * k + 2)) n ∧ nb (cl (6 * k + 3)) n ∧ nb (cl (6 * k + 4)) n ∧ nb (cl (6 * k + 5)) n
def wfC (n : Nat) (op ar : Nat → Int32) : Prop := ∀ i, i < n → (op i = 1 → nb (ar i) 22) ∧ (op i = 3 ∨ op i = 4 → nb (ar i) 400)
theorem c_field (tx : TxC g t t1 t2 t3 N n NC cc op ar cl) {k j : Nat} (hk : k < cc) (hj : j < 6) : D_X7_field g (some t) (Int32.ofNat k) (Int32.ofNat j) = some (cl (6 * k + j), g) := by
  obtain ⟨r1, r2, r3, r4, r5, r6, r7, r8, -⟩ := TxC_r tx
  have hb := tx.2.2.2.2.2.2.1
  have e : Int32.ofNat k * 6 + Int32.ofNat j = Int32.ofNat (6 * k + j) := by
    rw [show (6 : Int32) = Int32.ofNat 6 from rfl, sc_mul, sc_add, Nat.mul_comm]
  unfold D_X7_field
  rw [r3, Option.bind_some, e, r8 _ (by omega), Option.bind_some]
theorem c_reck (hs : Sh g) (tx : TxC g t t1 t2 t3 N n NC cc op ar cl) (wf : wfC n op ar) (hw : ∀ k, k < 23 → aI g 30 k = w k) {x y : Int32} (hx : nb x n) (hy : nb y n) :
    (evC op ar w (tn x) (tn y) = none → ∃ g', Sh g' ∧ Tch [29, 31] g g' ∧ D_X1_reckon g (some 29) (some t) x y = some (0, g')) ∧
    ∀ s', evC op ar w (tn x) (tn y) = some s' → ∃ g', Sh g' ∧ Tch [29, 31] g g' ∧ fI g' 29 2 = bot s' ∧ D_X1_reckon g (some 29) (some t) x y = some (1, g') := by
  have hN := tx.2.2.2.2.2.1
  obtain ⟨ex, hx⟩ := hx.tn (by omega)
  obtain ⟨ey, hy⟩ := hy.tn (by omega)
  have := rk_class (lo := tn x) (hi := tn y) hs tx hy (by omega) (fun i hi => wf i (by omega)) hw
  rw [← ex, ← ey] at this
  exact this
theorem c_last (wf : wfC n op ar) (co : clOK n cc cl) (verb : Int32) : ∀ (c m : Nat) (g : z_H), c ≤ cc → c < m → Sh g → TxC g t t1 t2 t3 N n NC cc op ar cl → (∀ k, k < 23 → aI g 30 k = w k) →
    (lastC op ar cl w verb c = none → ∃ g', Sh g' ∧ Tch [29, 31] g g' ∧ D_X1_lastThatHolds_13 m g (some 29) (some t) verb (Int32.ofNat c - 1) = some (-1, g')) ∧
    ∀ v, lastC op ar cl w verb c = some v → ∃ g' x, Sh g' ∧ Tch [29, 31] g g' ∧ fI g' 29 2 = v.toInt32 ∧ x ≠ -1 ∧ D_X1_lastThatHolds_13 m g (some 29) (some t) verb (Int32.ofNat c - 1) = some (x, g') := by
  intro c
  induction c with
  | zero =>
    intro m g hc hm hs tx hw
    obtain ⟨m, rfl⟩ : ∃ m', m = m' + 1 := ⟨m - 1, by omega⟩
    refine ⟨fun _ => ⟨g, hs, Tch_rfl _ g, ?_⟩, fun v q => (by cases q)⟩
    show D_X1_lastThatHolds_13b (D_X1_lastThatHolds_13 m) g (some 29) (some t) verb (Int32.ofNat 0 - 1) = _
    unfold D_X1_lastThatHolds_13b
    rw [if_pos (by decide)]
  | succ c ih =>
    intro m g hc hm hs tx hw
    obtain ⟨m, rfl⟩ : ∃ m', m = m' + 1 := ⟨m - 1, by omega⟩
    have cb := tx.2.2.2.2.2.2.1
    obtain ⟨b2, b3, b4, b5⟩ := co c (by omega)
    have hst : D_X1_lastThatHolds_13 (m + 1) g (some 29) (some t) verb (Int32.ofNat (c + 1) - 1) = D_X1_lastThatHolds_13b (D_X1_lastThatHolds_13 m) g (some 29) (some t) verb (Int32.ofNat c) := by
      rw [show Int32.ofNat (c + 1) - 1 = Int32.ofNat c from sc_sub (i := c + 1) (k := 1) (by omega)]
      rfl
    have e77 : ∀ g2, D_X1_lastThatHolds_77 (D_X1_lastThatHolds_13 m) g2 (some 29) (some t) verb (Int32.ofNat c) = D_X1_lastThatHolds_13 m g2 (some 29) (some t) verb (Int32.ofNat c - 1) := fun g2 => by
      unfold D_X1_lastThatHolds_77
      rw [Option.bind_some, show Int32.ofNat c + (-1) = Int32.ofNat c - 1 from (Int32.sub_eq_add_neg _ _).symm]
    have nl : ¬ Int32.ofNat c < 0 := not_neg (by omega)
    obtain ⟨fs, ob⟩ := (TxC_r tx).2.2.2.2.2.2.2.2
    -- what the rest gives from a heap g2
    have rest : ∀ g2, Sh g2 → Tch [29, 31] g g2 → (lastC op ar cl w verb c = none → ∃ g', Sh g' ∧ Tch [29, 31] g g' ∧ D_X1_lastThatHolds_13 m g2 (some 29) (some t) verb (Int32.ofNat c - 1) = some (-1, g')) ∧
        ∀ v, lastC op ar cl w verb c = some v → ∃ g' x, Sh g' ∧ Tch [29, 31] g g' ∧ fI g' 29 2 = v.toInt32 ∧ x ≠ -1 ∧ D_X1_lastThatHolds_13 m g2 (some 29) (some t) verb (Int32.ofNat c - 1) = some (x, g') := fun g2 s2 T2 => by
      have := ih m g2 (by omega) (by omega) s2 (TxC_T tx T2 (by decide)) (fun k hk => by rw [cell_aI (T2.c (by decide)), hw k hk])
      refine ⟨fun q => ?_, fun v q => ?_⟩
      · obtain ⟨g', a1, a2, a3⟩ := this.1 q
        exact ⟨g', a1, T2.trans a2, a3⟩
      · obtain ⟨g', x, a1, a2, a3, a4, a5⟩ := this.2 v q
        exact ⟨g', x, a1, T2.trans a2, a3, a4, a5⟩
    have hcc : c < cc := by omega
    have F0 : ∀ g2, TxC g2 t t1 t2 t3 N n NC cc op ar cl → D_X7_field g2 (some t) (Int32.ofNat c) 0 = some (cl (6 * c), g2) := fun g2 tx => c_field (j := 0) tx hcc (by decide)
    have F2 : ∀ g2, TxC g2 t t1 t2 t3 N n NC cc op ar cl → D_X7_field g2 (some t) (Int32.ofNat c) 2 = some (cl (6 * c + 2), g2) := fun g2 tx => c_field (j := 2) tx hcc (by decide)
    have F3 : ∀ g2, TxC g2 t t1 t2 t3 N n NC cc op ar cl → D_X7_field g2 (some t) (Int32.ofNat c) 3 = some (cl (6 * c + 3), g2) := fun g2 tx => c_field (j := 3) tx hcc (by decide)
    have F4 : ∀ g2, TxC g2 t t1 t2 t3 N n NC cc op ar cl → D_X7_field g2 (some t) (Int32.ofNat c) 4 = some (cl (6 * c + 4), g2) := fun g2 tx => c_field (j := 4) tx hcc (by decide)
    have F5 : ∀ g2, TxC g2 t t1 t2 t3 N n NC cc op ar cl → D_X7_field g2 (some t) (Int32.ofNat c) 5 = some (cl (6 * c + 5), g2) := fun g2 tx => c_field (j := 5) tx hcc (by decide)
    rw [hst]
    unfold D_X1_lastThatHolds_13b
    rw [if_neg nl, ob, Option.bind_some, F0 g tx, Option.bind_some]
    dsimp only
    unfold lastC
    by_cases cv : cl (6 * c) = verb
    · rw [if_pos cv, if_pos cv, ob, Option.bind_some, F4 g tx, Option.bind_some]
      dsimp only
      rw [ob, Option.bind_some, F5 g tx, Option.bind_some]
      dsimp only
      rw [s_ob hs (ci := 1) rfl, Option.bind_some]
      have rc := c_reck hs tx wf hw b4 b5
      cases e1 : evC op ar w (tn (cl (6 * c + 4))) (tn (cl (6 * c + 5))) with
      | none =>
        obtain ⟨g2, s2, T2, d2⟩ := rc.1 e1
        have hN : hC op ar cl w c = none := by unfold hC; rw [e1]
        rw [hN, d2, Option.bind_some]
        dsimp only
        rw [if_pos rfl, e77]
        exact rest g2 s2 T2
      | some s =>
        obtain ⟨g2, s2, T2, f2, d2⟩ := rc.2 s e1
        rw [d2, Option.bind_some]
        dsimp only
        rw [if_neg one_ne, s_gI s2 (ci := 1) rfl rfl, Option.bind_some, f2]
        by_cases cb1 : bot s = 1
        · have tx2 := TxC_T tx T2 (by decide)
          obtain ⟨fs2, ob2⟩ := (TxC_r tx2).2.2.2.2.2.2.2.2
          rw [if_pos cb1, ob2, Option.bind_some, F2 g2 tx2, Option.bind_some]
          dsimp only
          rw [ob2, Option.bind_some, F3 g2 tx2, Option.bind_some]
          dsimp only
          rw [s_ob s2 (ci := 1) rfl, Option.bind_some]
          have rc2 := c_reck s2 tx2 wf (fun k hk => by rw [cell_aI (T2.c (by decide)), hw k hk]) b2 b3
          cases e2 : evC op ar w (tn (cl (6 * c + 2))) (tn (cl (6 * c + 3))) with
          | none =>
            obtain ⟨g3, s3, T3, d3⟩ := rc2.1 e2
            have hN : hC op ar cl w c = none := by unfold hC; rw [e1]; dsimp only; rw [if_pos cb1, e2]; rfl
            rw [hN, d3, Option.bind_some]
            dsimp only
            rw [if_pos rfl, e77]
            exact rest g3 s3 (T2.trans T3)
          | some s' =>
            obtain ⟨g3, s3, T3, f3, d3⟩ := rc2.2 s' e2
            have hN : hC op ar cl w c = some (botJ s') := by unfold hC; rw [e1]; dsimp only; rw [if_pos cb1, e2]; rfl
            rw [hN, d3, Option.bind_some]
            dsimp only
            rw [if_neg one_ne]
            refine ⟨fun q => (by cases q), fun v q => ?_⟩
            cases q
            exact ⟨g3, Int32.ofNat c, s3, T2.trans T3, by rw [f3, bot_J], fun z => nl (by rw [z]; decide), rfl⟩
        · have hN : hC op ar cl w c = none := by unfold hC; rw [e1]; dsimp only; rw [if_neg cb1]
          rw [if_neg cb1, hN, e77]
          exact rest g2 s2 T2
    · rw [if_neg cv, if_neg cv, e77]
      exact rest g hs (Tch_rfl _ g)
/-- the class finds the last that holds -/
theorem c_lastT (hs : Sh g) (tx : TxC g t t1 t2 t3 N n NC cc op ar cl) (wf : wfC n op ar) (co : clOK n cc cl) (hw : ∀ k, k < 23 → aI g 30 k = w k) (verb : Int32) :
    (lastC op ar cl w verb cc = none → ∃ g', Sh g' ∧ Tch [29, 31] g g' ∧ D_X1_lastThatHolds g (some 29) (some t) verb = some (-1, g')) ∧
    ∀ v, lastC op ar cl w verb cc = some v → ∃ g' x, Sh g' ∧ Tch [29, 31] g g' ∧ fI g' 29 2 = v.toInt32 ∧ x ≠ -1 ∧ D_X1_lastThatHolds g (some 29) (some t) verb = some (x, g') := by
  have e : D_X1_lastThatHolds g (some 29) (some t) verb = D_X1_lastThatHolds_13 z_F g (some 29) (some t) verb (Int32.ofNat cc - 1) := by
    unfold D_X1_lastThatHolds
    rw [if_neg (by intro q; cases q), (TxC_r tx).2.2.2.2.1, Option.bind_some, Option.bind_some]
  rw [e]
  have hb := tx.2.2.2.2.2.2.1
  exact c_last wf co verb cc z_F g (Nat.le_refl _) (by have : z_F = 1000000 := rfl; omega) hs tx hw
end LS
