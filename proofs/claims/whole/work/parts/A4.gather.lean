/-! how many ways: what is added up for so many steps and turns -/
def wyf (tg : Nat → Option Nat) (way : Nat) (prev : Nat → Int64) (c : Nat) (v : Nat → Int64) : Nat → Int64 := match tg (4 * c + way) with
  | none => v
  | some t => vp_updL v t (v t + prev c)
/-- rows of longs that are the same for the 25 cells -/
def same25 (f f' : Nat → Int64) : Prop := ∀ c, c < 25 → f c = f' c
theorem wyf_same {tg : Nat → Option Nat} (ok : tgOK tg) {way c : Nat} (hw : way < 4) (hc : c < 25) {p p' v v' : Nat → Int64} (ep : p c = p' c) (ev : same25 v v') : same25 (wyf tg way p c v) (wyf tg way p' c v') := fun q hq => by
  unfold wyf
  cases e : tg (4 * c + way) with
  | none => exact ev q hq
  | some t =>
    have := ok _ t (by omega) e
    show vp_updL v t (v t + p c) q = vp_updL v' t (v' t + p' c) q
    by_cases e2 : q = t
    · rw [e2, updL_eq, updL_eq, ev t this, ep]
    · rw [updL_ne e2, updL_ne e2]; exact ev q hq
theorem wy_same {tg : Nat → Option Nat} (ok : tgOK tg) {way : Nat} (hw : way < 4) {p p' v v' : Nat → Int64} (ep : same25 p p') (ev : same25 v v') : same25 (foldN (wyf tg way p) 25 v) (foldN (wyf tg way p') 25 v') :=
  fold_rel (fun _ a b => same25 a b) ev 25 (fun i a b hi I => wyf_same ok hw hi (ep i hi) I)
section GA
variable {g : z_H} {tg : Nat → Option Nat}
def hr (l r : Nat) : Nat := (7 * l + r) * 25
/-- the class's sums ahead of the steps -/
def basC (R : Nat → Int64) (s l r c0 c : Nat) : Int64 := if s = 0 ∧ l = 0 ∧ r = 0 ∧ c = c0 then 1 else (if l = 0 then 0 else R (hr (l - 1) r + c)) + (if r = 0 then 0 else R (hr l (r - 1) + c))
def gatV (tg : Nat → Option Nat) (R : Nat → Int64) (s l r c0 way : Nat) : Nat → Int64 := if s = 0 then basC R s l r c0 else foldN (wyf tg way (fun c => R (hr l r + c))) 25 (basC R s l r c0)
theorem c_gather (hs : Sh g) (ok : tgOK tg) (al : ∀ k, k < 100 → aI g 47 k = enc (stN tg k)) {s l r c0 y0 : Nat} (hss : s ≤ 6) (hl : l ≤ 6) (hrr : r ≤ 6) (hc0 : c0 < 25) (hy0 : y0 < 4) : ∃ g', Sh g' ∧ Tch [54, 55] g g' ∧ (∀ c, c < 25 → aJ g' 54 (hr l r + c) = gatV tg (aJ g 54) s l r c0 ((y0 + r + 3 * l) % 4) c) ∧ (∀ q, q < hr l r ∨ hr l r + 25 ≤ q → aJ g' 54 q = aJ g 54 q) ∧ D_X6_gather g (some 53) (Int32.ofNat (4 * c0 + y0)) (Int32.ofNat s) (Int32.ofNat l) (Int32.ofNat r) = some g' := by
  have hS : ∀ f, Sh (wJ g 55 f) := fun f => Sh_wJ hs rfl f
  have r55 : ∀ f, aJ (wJ g 55 f) 55 = f := fun f => aJ_wJ_eq hs rfl f
  have r54 : ∀ f, aJ (wJ g 55 f) 54 = aJ g 54 := fun f => aJ_wJ_ne (by decide)
  have q0 : ∀ f, z_gQ 6 (wJ g 55 f) (some 53) 0 = some (some 46) := fun f => s_gQ (hS f) rfl rfl
  have q1 : ∀ f, z_gQ 6 (wJ g 55 f) (some 53) 1 = some (some 54) := fun f => s_gQ (hS f) rfl rfl
  have q2 : ∀ f, z_gQ 6 (wJ g 55 f) (some 53) 2 = some (some 55) := fun f => s_gQ (hS f) rfl rfl
  have q41 : ∀ f, z_gQ 4 (wJ g 55 f) (some 46) 1 = some (some 47) := fun f => s_gQ (hS f) rfl rfl
  have bh : hr l r + 25 ≤ 1225 := by unfold hr; omega
  have x5 : ((Int32.ofNat l * 7) + Int32.ofNat r) * 25 = Int32.ofNat (hr l r) := by
    unfold hr
    rw [show (7 : Int32) = Int32.ofNat 7 from rfl, show (25 : Int32) = Int32.ofNat 25 from rfl, sc_mul, sc_add, sc_mul, Nat.mul_comm l 7]
  have x6 : ((Int32.ofNat (4 * c0 + y0) + Int32.ofNat r) + (3 * Int32.ofNat l)) - ((Int32.ofNat (4 * c0 + y0) + Int32.ofNat r) + (3 * Int32.ofNat l)) / 4 * 4 = Int32.ofNat ((y0 + r + 3 * l) % 4) := by
    rw [show (3 : Int32) = Int32.ofNat 3 from rfl, sc_mul, sc_add, sc_add, show (4 : Int32) = Int32.ofNat 4 from rfl, sc_mod (by omega) (by decide) (by decide)]
    congr 1
    omega
  have hw : (y0 + r + 3 * l) % 4 < 4 := Nat.mod_lt _ (by decide)
  generalize (y0 + r + 3 * l) % 4 = way at *
  -- the end
  have e179 : ∀ f, ∃ g', Sh g' ∧ Tch [54, 55] g g' ∧ (∀ c, c < 25 → aJ g' 54 (hr l r + c) = f c) ∧ (∀ q, q < hr l r ∨ hr l r + 25 ≤ q → aJ g' 54 q = aJ g 54 q) ∧ D_X6_gather_179 (wJ g 55 f) (some 53) (Int32.ofNat (hr l r)) = some g' := fun f => by
    have cp : z_cJ (wJ g 55 f) (some 55) 0 (some 54) (Int32.ofNat (hr l r)) 25 = some (wJ (wJ g 55 f) 54 (va_cpy (aJ (wJ g 55 f) 55) (aJ (wJ g 55 f) 54) 0 (hr l r) 25)) := s_cJ (sp := 0) (k := 25) (hS f) (a := 54) (b := 55) rfl rfl (by decide) bh (by decide) (by decide)
    rw [r55, r54] at cp
    refine ⟨wJ (wJ g 55 f) 54 (va_cpy f (aJ g 54) 0 (hr l r) 25), Sh_wJ (hS f) rfl _, Tch_wJ (Tch_wJ (Tch_rfl _ g) (by decide) _) (by decide) _, fun c hc => ?_, fun q hq => ?_, ?_⟩
    · rw [aJ_wJ_eq (hS f) rfl]
      unfold va_cpy
      rw [if_pos (by omega), show 0 + (hr l r + c - hr l r) = c by omega]
    · rw [aJ_wJ_eq (hS f) rfl]
      unfold va_cpy
      rw [if_neg (by omega)]
    · unfold D_X6_gather_179
      rw [q2, Option.bind_some, q1, Option.bind_some, cp, Option.bind_some]
  -- the steps
  have e117 : ∀ f f0 : Nat → Int64, same25 f (basC (aJ g 54) s l r c0) → ∃ f', same25 f' (gatV tg (aJ g 54) s l r c0 way) ∧ D_X6_gather_117 z_F (wJ g 55 f) (some 53) (Int32.ofNat s) (Int32.ofNat (hr l r)) (Int32.ofNat way) 0 = D_X6_gather_179 (wJ g 55 f') (some 53) (Int32.ofNat (hr l r)) := fun f f0 ef => by
    unfold gatV
    by_cases cs : s = 0
    · rw [if_pos cs]
      refine ⟨f, ef, ?_⟩
      obtain ⟨z, hz⟩ : ∃ z, z_F = z + 1 := ⟨999999, rfl⟩
      rw [hz]
      show D_X6_gather_117b (D_X6_gather_117 z) (wJ g 55 f) (some 53) (Int32.ofNat s) (Int32.ofNat (hr l r)) (Int32.ofNat way) 0 = _
      unfold D_X6_gather_117b
      rw [if_pos (by rw [cs]; decide)]
    · rw [if_neg cs]
      have ns : ¬ Int32.ofNat s ≤ 0 := fun z => by have := (nat_le (a := s) (b := 0) (by omega) (by decide)).mp z; omega
      have lp := loop_up (β := z_H) (S := Nat → Int64) (N := 25) (F := fun k f i => D_X6_gather_117 k (wJ g 55 f) (some 53) (Int32.ofNat s) (Int32.ofNat (hr l r)) (Int32.ofNat way) (Int32.ofNat i)) (G := fun f => D_X6_gather_179 (wJ g 55 f) (some 53) (Int32.ofNat (hr l r))) (I := fun i f => same25 f (foldN (wyf tg way (fun c => aJ g 54 (hr l r + c))) i (basC (aJ g 54) s l r c0)))
        (fun k f _ => by
          show D_X6_gather_117b _ (wJ g 55 f) (some 53) (Int32.ofNat s) (Int32.ofNat (hr l r)) (Int32.ofNat way) (Int32.ofNat 25) = _
          unfold D_X6_gather_117b
          rw [if_neg ns, if_pos (by decide)])
        (fun k f i hi I => by
          have nx : ∀ f, D_X6_gather_173 (D_X6_gather_117 k) (wJ g 55 f) (some 53) (Int32.ofNat s) (Int32.ofNat (hr l r)) (Int32.ofNat way) (Int32.ofNat i) = D_X6_gather_117 k (wJ g 55 f) (some 53) (Int32.ofNat s) (Int32.ofNat (hr l r)) (Int32.ofNat way) (Int32.ofNat (i + 1)) := fun f => by
            unfold D_X6_gather_173
            rw [Option.bind_some, show Int32.ofNat i + 1 = Int32.ofNat (i + 1) from sc_add i 1]
          refine ⟨wyf tg way (fun c => aJ g 54 (hr l r + c)) i f, wyf_same ok hw hi rfl I, ?_⟩
          show D_X6_gather_117b (D_X6_gather_117 k) (wJ g 55 f) (some 53) (Int32.ofNat s) (Int32.ofNat (hr l r)) (Int32.ofNat way) (Int32.ofNat i) = _
          unfold D_X6_gather_117b
          rw [if_neg ns, if_neg (fun z => by have := (nat_le (a := 25) (b := i) (by decide) (by omega)).mp z; omega), q0, Option.bind_some, q41, Option.bind_some, show Int32.ofNat i * 4 + Int32.ofNat way = Int32.ofNat (4 * i + way) by rw [show (4 : Int32) = Int32.ofNat 4 from rfl, sc_mul, sc_add, Nat.mul_comm], aR (n := 100) (hS f) rfl (by omega) (by decide), Option.bind_some, aI_wJ, al _ (by omega)]
          unfold stN wyf
          cases e : tg (4 * i + way) with
          | none => rw [if_pos (show enc none = -1 from rfl), nx]
          | some t =>
            have ht := ok _ t (by omega) e
            dsimp only
            rw [if_neg (show ¬ enc (some (4 * t + (4 * i + way) % 4)) = -1 from of_nm1 (by omega)), q2, Option.bind_some, show enc (some (4 * t + (4 * i + way) % 4)) / 4 = Int32.ofNat t from (sc_div (b := 4) (by omega) (by decide) (by decide)).trans (by congr 1; omega), jR (n := 25) (hS f) rfl ht (by decide), Option.bind_some, q1, Option.bind_some, sc_add, jR (n := 1225) (hS f) rfl (by omega) (by decide), Option.bind_some, r55, r54, jW (n := 25) (hS f) rfl ht (by decide), Option.bind_some, wJ_wJ, r55, nx])
        25 0 z_F f (by decide) (by decide) (by decide) ef
      exact lp
  -- the sums
  have l27 := loop_up (β := z_H) (S := Nat → Int64) (N := 25) (F := fun k f i => D_X6_gather_27 k (wJ g 55 f) (some 53) (Int32.ofNat (4 * c0 + y0)) (Int32.ofNat s) (Int32.ofNat l) (Int32.ofNat r) (Int32.ofNat (hr l r)) (Int32.ofNat way) (Int32.ofNat i)) (G := fun f => D_X6_gather_27b (fun _ _ _ _ _ _ _ _ _ => none) (wJ g 55 f) (some 53) (Int32.ofNat (4 * c0 + y0)) (Int32.ofNat s) (Int32.ofNat l) (Int32.ofNat r) (Int32.ofNat (hr l r)) (Int32.ofNat way) 25) (I := fun i f => ∀ c, c < i → f c = (if l = 0 then 0 else aJ g 54 (hr (l - 1) r + c)) + (if r = 0 then 0 else aJ g 54 (hr l (r - 1) + c)))
    (fun k f _ => by
      show D_X6_gather_27b _ (wJ g 55 f) (some 53) (Int32.ofNat (4 * c0 + y0)) (Int32.ofNat s) (Int32.ofNat l) (Int32.ofNat r) (Int32.ofNat (hr l r)) (Int32.ofNat way) (Int32.ofNat 25) = _
      unfold D_X6_gather_27b
      rw [if_pos (show (25 : Int32) ≤ Int32.ofNat 25 by decide), if_pos (show (25 : Int32) ≤ 25 by decide)])
    (fun k f i hi I => by
      refine ⟨vp_updL f i ((if l = 0 then 0 else aJ g 54 (hr (l - 1) r + i)) + (if r = 0 then 0 else aJ g 54 (hr l (r - 1) + i))), fun c hc => ?_, ?_⟩
      · by_cases e : c = i
        · rw [e, updL_eq]
        · rw [updL_ne e]; exact I c (by omega)
      · have e84 : ∀ a b, D_X6_gather_84 (D_X6_gather_27 k) (wJ g 55 f) (some 53) (Int32.ofNat (4 * c0 + y0)) (Int32.ofNat s) (Int32.ofNat l) (Int32.ofNat r) (Int32.ofNat (hr l r)) (Int32.ofNat way) (Int32.ofNat i) (some 55) (Int32.ofNat i) a b = D_X6_gather_27 k (wJ g 55 (vp_updL f i (a + b))) (some 53) (Int32.ofNat (4 * c0 + y0)) (Int32.ofNat s) (Int32.ofNat l) (Int32.ofNat r) (Int32.ofNat (hr l r)) (Int32.ofNat way) (Int32.ofNat (i + 1)) := fun a b => by
          unfold D_X6_gather_84
          rw [jW (n := 25) (hS f) rfl hi (by decide), Option.bind_some, Option.bind_some, wJ_wJ, r55, show Int32.ofNat i + 1 = Int32.ofNat (i + 1) from sc_add i 1]
        have e62 : ∀ a, D_X6_gather_62 (D_X6_gather_27 k) (wJ g 55 f) (some 53) (Int32.ofNat (4 * c0 + y0)) (Int32.ofNat s) (Int32.ofNat l) (Int32.ofNat r) (Int32.ofNat (hr l r)) (Int32.ofNat way) (Int32.ofNat i) (some 55) (Int32.ofNat i) a = D_X6_gather_27 k (wJ g 55 (vp_updL f i (a + (if r = 0 then 0 else aJ g 54 (hr l (r - 1) + i))))) (some 53) (Int32.ofNat (4 * c0 + y0)) (Int32.ofNat s) (Int32.ofNat l) (Int32.ofNat r) (Int32.ofNat (hr l r)) (Int32.ofNat way) (Int32.ofNat (i + 1)) := fun a => by
          unfold D_X6_gather_62
          have le : (Int32.ofNat r ≤ 0) ↔ r = 0 := by
            rw [show (0 : Int32) = Int32.ofNat 0 from rfl, nat_le (by omega) (by decide)]
            omega
          by_cases c : r = 0
          · rw [if_pos (le.mpr c), if_pos c, e84]
          · rw [if_neg (fun z => c (le.mp z)), if_neg c, q1, Option.bind_some, show Int32.ofNat (hr l r) - 25 + Int32.ofNat i = Int32.ofNat (hr l (r - 1) + i) by
              rw [show (25 : Int32) = Int32.ofNat 25 from rfl, sc_sub (by unfold hr; omega), sc_add, show hr l r - 25 = hr l (r - 1) by unfold hr; omega], jR (n := 1225) (hS f) rfl (by unfold hr; omega) (by decide), Option.bind_some, r54, e84]
        show D_X6_gather_27b (D_X6_gather_27 k) (wJ g 55 f) (some 53) (Int32.ofNat (4 * c0 + y0)) (Int32.ofNat s) (Int32.ofNat l) (Int32.ofNat r) (Int32.ofNat (hr l r)) (Int32.ofNat way) (Int32.ofNat i) = _
        unfold D_X6_gather_27b
        have le : (Int32.ofNat l ≤ 0) ↔ l = 0 := by
          rw [show (0 : Int32) = Int32.ofNat 0 from rfl, nat_le (by omega) (by decide)]
          omega
        rw [if_neg (fun z => by have := (nat_le (a := 25) (b := i) (by decide) (by omega)).mp z; omega), q2, Option.bind_some]
        by_cases c : l = 0
        · rw [if_pos (le.mpr c), if_pos c, e62]
        · rw [if_neg (fun z => c (le.mp z)), if_neg c, q1, Option.bind_some, show Int32.ofNat (hr l r) - 175 + Int32.ofNat i = Int32.ofNat (hr (l - 1) r + i) by
            rw [show (175 : Int32) = Int32.ofNat 175 from rfl, sc_sub (by unfold hr; omega), sc_add, show hr l r - 175 = hr (l - 1) r by unfold hr; omega], jR (n := 1225) (hS f) rfl (by unfold hr; omega) (by decide), Option.bind_some, r54, e62])
    25 0 z_F (aJ g 55) (by decide) (by decide) (by decide) (fun c hc => by omega)
  obtain ⟨f, If, ef⟩ := l27
  rw [wJ_self hs (a := 55) (n := 25) rfl] at ef
  have mid : ∃ f2, same25 f2 (basC (aJ g 54) s l r c0) ∧ D_X6_gather_27b (fun _ _ _ _ _ _ _ _ _ => none) (wJ g 55 f) (some 53) (Int32.ofNat (4 * c0 + y0)) (Int32.ofNat s) (Int32.ofNat l) (Int32.ofNat r) (Int32.ofNat (hr l r)) (Int32.ofNat way) 25 = D_X6_gather_117 z_F (wJ g 55 f2) (some 53) (Int32.ofNat s) (Int32.ofNat (hr l r)) (Int32.ofNat way) 0 := by
    have z : ∀ {q : Nat}, q ≤ 6 → ((Int32.ofNat q = 0) ↔ q = 0) := fun hq => eq_lit (b := 0) (by omega) (by decide)
    unfold D_X6_gather_27b D_X6_gather_114
    rw [if_pos (by decide)]
    by_cases c : s = 0 ∧ l = 0 ∧ r = 0
    · refine ⟨vp_updL f c0 1, fun q hq => ?_, ?_⟩
      · unfold basC
        by_cases e : q = c0
        · rw [e, updL_eq, if_pos ⟨c.1, c.2.1, c.2.2, rfl⟩]
        · rw [updL_ne e, if_neg (fun z => e z.2.2.2)]; exact If q hq
      · rw [if_pos ((z hss).mpr c.1), if_pos ((z hl).mpr c.2.1), if_pos ((z hrr).mpr c.2.2), q2, Option.bind_some, show Int32.ofNat (4 * c0 + y0) / 4 = Int32.ofNat c0 from (sc_div (b := 4) (by omega) (by decide) (by decide)).trans (by congr 1; omega), jW (n := 25) (hS f) rfl hc0 (by decide), Option.bind_some, wJ_wJ, r55]
    · refine ⟨f, fun q hq => ?_, ?_⟩
      · unfold basC
        rw [if_neg (fun z => c ⟨z.1, z.2.1, z.2.2.1⟩)]; exact If q hq
      · by_cases c1 : s = 0
        · rw [if_pos ((z hss).mpr c1)]
          by_cases c2 : l = 0
          · rw [if_pos ((z hl).mpr c2)]
            by_cases c3 : r = 0
            · exact absurd ⟨c1, c2, c3⟩ c
            · rw [if_neg (fun q => c3 ((z hrr).mp q))]
          · rw [if_neg (fun q => c2 ((z hl).mp q))]
        · rw [if_neg (fun q => c1 ((z hss).mp q))]
  obtain ⟨f2, I2, e2⟩ := mid
  obtain ⟨f3, I3, e3⟩ := e117 f2 f2 I2
  obtain ⟨g', s', T', w1, w2, e4⟩ := e179 f3
  refine ⟨g', s', T', fun c hc => by rw [w1 c hc]; exact I3 c hc, w2, ?_⟩
  unfold D_X6_gather
  rw [Option.bind_some, Option.bind_some, x5, x6]
  exact (ef.trans e2).trans (e3.trans e4)
end GA
