/-! steps from all places, laid out -/
def enc (o : Option Nat) : Int32 := match o with
  | none => -1
  | some k => Int32.ofNat k
def tgN (T : LawT) (m : Nat → Int32) (p k : Nat) : Option Nat := if targV T m p (k / 4) (k % 4) = -1 then none else some (tn (targV T m p (k / 4) (k % 4)))
def stN (tg : Nat → Option Nat) (k : Nat) : Option Nat := match tg k with
  | none => none
  | some b => some (4 * b + k % 4)
def trN (k a : Nat) : Nat := k - k % 4 + (k % 4 + (if a = 1 then 3 else 1)) % 4
def nxt (tg : Nat → Option Nat) (k a : Nat) : Option Nat := if a = 0 then stN tg k else some (trN k a)
theorem tgN_lt {T : LawT} {m : Nat → Int32} {p k b : Nat} (hk : k < 100) (e : tgN T m p k = some b) : b < 25 := by
  unfold tgN at e
  split at e
  · cases e
  · rename_i q
    obtain ⟨c, hc, ec⟩ := (targ_ok (T := T) (m := m) (p := p) (c := k / 4) (y := k % 4) (by omega) (by omega)).resolve_left q
    rw [ec, tn_of (by omega)] at e
    cases e
    exact hc
theorem tgN_enc {T : LawT} {m : Nat → Int32} {p k : Nat} (hk : k < 100) : enc (tgN T m p k) = targV T m p (k / 4) (k % 4) := by
  unfold tgN
  by_cases q : targV T m p (k / 4) (k % 4) = -1
  · rw [if_pos q, q]; rfl
  · rw [if_neg q]
    obtain ⟨c, hc, ec⟩ := (targ_ok (T := T) (m := m) (p := p) (c := k / 4) (y := k % 4) (by omega) (by omega)).resolve_left q
    rw [ec, tn_of (by omega)]
    rfl
def tgOK (tg : Nat → Option Nat) : Prop := ∀ k b, k < 100 → tg k = some b → b < 25
theorem stN_lt {tg : Nat → Option Nat} (ok : tgOK tg) {k k' : Nat} (hk : k < 100) (e : stN tg k = some k') : k' < 100 := by
  unfold stN at e
  cases hb : tg k with
  | none => rw [hb] at e; cases e
  | some b =>
    rw [hb] at e
    cases e
    have := ok k b hk hb
    omega
theorem trN_lt {k a : Nat} (hk : k < 100) : trN k a < 100 := by
  unfold trN
  omega
theorem nxt_lt {tg : Nat → Option Nat} (ok : tgOK tg) {k k' a : Nat} (hk : k < 100) (e : nxt tg k a = some k') : k' < 100 := by
  unfold nxt at e
  by_cases c : a = 0
  · rw [if_pos c] at e; exact stN_lt ok hk e
  · rw [if_neg c] at e
    cases e
    exact trN_lt hk
theorem trn_enc {k a : Nat} (hk : k < 100) (ha : a = 1 ∨ a = 2) : (Int32.ofNat k - (Int32.ofNat k - Int32.ofNat k / 4 * 4)) + trnV (Int32.ofNat k - Int32.ofNat k / 4 * 4) (Int32.ofNat a - 1) = Int32.ofNat (trN k a) := by
  have m4 : Int32.ofNat k - Int32.ofNat k / 4 * 4 = Int32.ofNat (k % 4) := sc_mod (b := 4) (by omega) (by decide) (by decide)
  rw [m4, sc_sub (by omega)]
  unfold trnV trN
  rcases ha with rfl | rfl
  · rw [if_pos (by decide), if_pos rfl, show Int32.ofNat (k % 4) + 3 = Int32.ofNat (k % 4 + 3) from sc_add _ 3, show Int32.ofNat (k % 4 + 3) - Int32.ofNat (k % 4 + 3) / 4 * 4 = Int32.ofNat ((k % 4 + 3) % 4) from sc_mod (b := 4) (by omega) (by decide) (by decide), sc_add]
  · rw [if_neg (by decide), if_neg (by decide), show Int32.ofNat (k % 4) + 1 = Int32.ofNat (k % 4 + 1) from sc_add _ 1, show Int32.ofNat (k % 4 + 1) - Int32.ofNat (k % 4 + 1) / 4 * 4 = Int32.ofNat ((k % 4 + 1) % 4) from sc_mod (b := 4) (by omega) (by decide) (by decide), sc_add]
section LY
variable {g g0 : z_H} {m : Nat → Int32} {law : Option Nat} {T : LawT} {tg : Nat → Option Nat}
theorem c_layOut (hs0 : Sh g0) (Y : Yrel g0 1 m) {k : Int32} (dl : D_X9_lawInForce g0 (some 1) = some (law, g0)) (lr : LawR g0 m k law T) {p : Nat} (hp : p < 6) : ∃ g', Sh g' ∧ Tch [29, 30, 31, 47] g0 g' ∧ (∀ k, k < 100 → aI g' 47 k = enc (stN (tgN T m p) k)) ∧ D_X4_layOut g0 (some 46) (some 1) (Int32.ofNat p) = some g' := by
  have ha : isY 1 := Or.inl rfl
  have lp := loop_up (β := z_H) (S := z_H) (N := 100) (F := fun k g i => D_X4_layOut_2 k g (some 46) (some 1) (Int32.ofNat p) (Int32.ofNat i)) (G := fun g => some g) (I := fun i g => Sh g ∧ Tch [29, 30, 31, 47] g0 g ∧ ∀ k, k < i → aI g 47 k = enc (stN (tgN T m p) k))
    (fun k g _ => by
      show D_X4_layOut_2b _ g (some 46) (some 1) (Int32.ofNat p) (Int32.ofNat 100) = _
      unfold D_X4_layOut_2b
      rw [if_pos (by decide)])
    (fun k g i hi I => by
      obtain ⟨s, T0, al⟩ := I
      have Y1 := Yrel_T Y T0 (isY_S ha (by decide)) (by decide)
      have d1 := lawF_T hs0 ha dl s T0 (by decide) Y
      have lr1 := lr.T T0 (by decide)
      obtain ⟨g1, s1, T1, e1⟩ := cI_target s ha Y1 d1 lr1 (p := p) (c := i / 4) (y := i % 4) hp (by omega) (by omega)
      rw [show 4 * (i / 4) + i % 4 = i by omega] at e1
      have s2 : ∀ v, Sh (wA g1 47 (upd (aI g1 47) i v)) := fun v => Sh_wA s1 rfl _
      have nx : ∀ v, D_X4_layOut_43 (D_X4_layOut_2 k) g1 (some 46) (some 1) (Int32.ofNat p) (Int32.ofNat i) (some 47) (Int32.ofNat i) v = D_X4_layOut_2 k (wA g1 47 (upd (aI g1 47) i v)) (some 46) (some 1) (Int32.ofNat p) (Int32.ofNat (i + 1)) := fun v => by
        unfold D_X4_layOut_43
        rw [aW (n := 100) s1 rfl hi (by decide), Option.bind_some, Option.bind_some, show Int32.ofNat i + 1 = Int32.ofNat (i + 1) from sc_add i 1]
      have m4 : Int32.ofNat i - Int32.ofNat i / 4 * 4 = Int32.ofNat (i % 4) := sc_mod (b := 4) (by omega) (by decide) (by decide)
      refine ⟨wA g1 47 (upd (aI g1 47) i (enc (stN (tgN T m p) i))), ⟨s2 _, Tch_wA (T0.trans (T1.mono (by decide))) (by decide) _, fun q hq => ?_⟩, ?_⟩
      · rw [aI_wA_eq s1 rfl]
        by_cases e : q = i
        · rw [e, upd_eq]
        · rw [upd_ne e, cell_aI (T1.c (by decide))]; exact al q (by omega)
      · show D_X4_layOut_2b (D_X4_layOut_2 k) g (some 46) (some 1) (Int32.ofNat p) (Int32.ofNat i) = _
        unfold D_X4_layOut_2b
        rw [if_neg (fun z => by have := (nat_le (a := 100) (b := i) (by decide) (by omega)).mp z; omega), s_gQ (r := 29) s rfl rfl, Option.bind_some, s_ob s (ci := 1) rfl, Option.bind_some, e1, Option.bind_some]
        dsimp only
        rw [s_gQ (r := 47) s1 rfl rfl, Option.bind_some, m4]
        by_cases q : targV T m p (i / 4) (i % 4) = -1
        · have es : enc (stN (tgN T m p) i) = -1 := by unfold stN tgN; rw [if_pos q]; rfl
          rw [if_pos q, nx, es]
        · obtain ⟨b, hb, eb⟩ := (targ_ok (T := T) (m := m) (p := p) (c := i / 4) (y := i % 4) (by omega) (by omega)).resolve_left q
          have es : enc (stN (tgN T m p) i) = Int32.ofNat (4 * b + i % 4) := by unfold stN tgN; rw [if_neg q, eb, tn_of (by omega)]; rfl
          rw [if_neg q, nx, es, eb, show Int32.ofNat b * 4 + Int32.ofNat (i % 4) = Int32.ofNat (4 * b + i % 4) by rw [show (4 : Int32) = Int32.ofNat 4 from rfl, sc_mul, sc_add, Nat.mul_comm]])
    100 0 z_F g0 (by decide) (by decide) (by decide) ⟨hs0, Tch_rfl _ g0, fun q hq => by omega⟩
  obtain ⟨g', ⟨s, T0, al⟩, e⟩ := lp
  exact ⟨g', s, T0, al, e⟩
theorem m_laySteps (H : RA g0 law T) {p : Nat} (hp : p < 6) : ∃ g', OnM [81, 99, 101, 102] [34, 38, 39, 40] g0 g' ∧ (∀ k, k < 100 → aI g' 102 k = enc (tgN T (aI g0 83) p k)) ∧ D_X11_laySteps g0 (some 81) (Int32.ofNat p) = some g' := by
  have lp := loop_up (β := z_H) (S := z_H) (N := 100) (F := fun k g i => D_X11_laySteps_2 k g (some 81) (Int32.ofNat p) (Int32.ofNat i)) (G := fun g => some g) (I := fun i g => OnM [81, 99, 101, 102] [34, 38, 39, 40] g0 g ∧ ∀ k, k < i → aI g 102 k = enc (tgN T (aI g0 83) p k))
    (fun k g _ => by
      show D_X11_laySteps_2b _ g (some 81) (Int32.ofNat p) (Int32.ofNat 100) = _
      unfold D_X11_laySteps_2b
      rw [if_pos (by decide)])
    (fun k g i hi I => by
      obtain ⟨o, al⟩ := I
      have ra := H.on o (by decide) (by decide) (by decide)
      have c83 : aI g 83 = aI g0 83 := cell_aI (o.2.1.c (by decide))
      obtain ⟨g1, o1, d1⟩ := mI_stepOf ra (p := p) (c := i / 4) (y := i % 4) hp (by omega) (by omega)
      have d4 : Int32.ofNat i / 4 = Int32.ofNat (i / 4) := sc_div (b := 4) (by omega) (by decide) (by decide)
      have m4 : Int32.ofNat i - Int32.ofNat i / 4 * 4 = Int32.ofNat (i % 4) := sc_mod (b := 4) (by omega) (by decide) (by decide)
      refine ⟨wA g1 102 (upd (aI g1 102) i (enc (tgN T (aI g0 83) p i))), ⟨o.trans ((o1.mono (by decide) (by decide)).trans ⟨Sh_wA o1.1 rfl _, Tch_wA (Tch_rfl _ g1) (by decide) _, fun _ _ => ⟨fI_wA _ _ _ _, fJ_wA _ _ _ _⟩⟩), fun q hq => ?_⟩, ?_⟩
      · rw [aI_wA_eq o1.1 rfl]
        by_cases e : q = i
        · rw [e, upd_eq]
        · rw [upd_ne e, cell_aI (o1.2.1.c (by decide))]; exact al q (by omega)
      · show D_X11_laySteps_2b (D_X11_laySteps_2 k) g (some 81) (Int32.ofNat p) (Int32.ofNat i) = _
        unfold D_X11_laySteps_2b
        rw [if_neg (fun z => by have := (nat_le (a := 100) (b := i) (by decide) (by omega)).mp z; omega), s_gQ (r := 102) o.1 rfl rfl, Option.bind_some, s_ob o.1 (ci := 11) rfl, Option.bind_some, m4, d4, d1, Option.bind_some]
        dsimp only
        rw [aW (n := 100) o1.1 rfl hi (by decide), Option.bind_some, Option.bind_some, show Int32.ofNat i + 1 = Int32.ofNat (i + 1) from sc_add i 1, c83, tgN_enc hi])
    100 0 z_F g0 (by decide) (by decide) (by decide) ⟨OnM.rfl' H.1, fun q hq => by omega⟩
  obtain ⟨g', ⟨o, al⟩, e⟩ := lp
  exact ⟨g', o, al, e⟩
theorem c_behind (hs : Sh g) (al : ∀ k, k < 100 → aI g 47 k = enc (stN tg k)) {k a : Nat} (hk : k < 100) (ha : a < 3) : D_X4_behind g (some 46) (Int32.ofNat k) (Int32.ofNat a) = some (enc (nxt tg k a), g) := by
  unfold D_X4_behind nxt
  by_cases c : a = 0
  · rw [if_pos (by rw [c]; rfl), if_pos c, s_gQ (r := 47) hs rfl rfl, Option.bind_some, aR (n := 100) hs rfl hk (by decide), Option.bind_some, al k hk]
  · have dt : ∀ w s : Int32, D_X10_turned g w s = some (trnV w s, g) := fun w s => by
      unfold D_X10_turned D_X10_turned_10 trnV
      by_cases c : s = 0
      · rw [if_pos c, if_pos c]
      · rw [if_neg c, if_neg c]
    rw [if_neg (show ¬ Int32.ofNat a = 0 from fun z => c ((eq_lit (b := 0) (by omega) (by decide)).mp z)), if_neg c, dt, Option.bind_some]
    dsimp only
    rw [trn_enc hk (by omega)]
    rfl
theorem m_acted (hs : Sh g) (ok : tgOK tg) (al : ∀ k, k < 100 → aI g 102 k = enc (tg k)) {k a : Nat} (hk : k < 100) (ha : a < 3) : D_X11_acted g (some 81) (Int32.ofNat k) (Int32.ofNat a) = some (enc (nxt tg k a), g) := by
  unfold D_X11_acted nxt
  by_cases c : a = 0
  · rw [if_pos (by rw [c]; rfl), if_pos c, s_gQ (r := 102) hs rfl rfl, Option.bind_some, aR (n := 100) hs rfl hk (by decide), Option.bind_some, al k hk]
    unfold stN
    cases hb : tg k with
    | none => rw [if_pos (show enc none = -1 from rfl)]; rfl
    | some b =>
      have := ok k b hk hb
      rw [if_neg (show ¬ enc (some b) = -1 from of_nm1 (by omega)), Option.bind_some, aR (n := 100) hs rfl hk (by decide), Option.bind_some, al k hk, hb, show Int32.ofNat k - Int32.ofNat k / 4 * 4 = Int32.ofNat (k % 4) from sc_mod (b := 4) (by omega) (by decide) (by decide)]
      show some ((4 : Int32) * Int32.ofNat b + Int32.ofNat (k % 4), g) = some (Int32.ofNat (4 * b + k % 4), g)
      rw [show (4 : Int32) = Int32.ofNat 4 from rfl, sc_mul, sc_add]
  · rw [if_neg (show ¬ Int32.ofNat a = 0 from fun z => c ((eq_lit (b := 0) (by omega) (by decide)).mp z)), if_neg c, turnedM, Option.bind_some]
    dsimp only
    rw [trn_enc hk (by omega)]
    rfl
end LY
