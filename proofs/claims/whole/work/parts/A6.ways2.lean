section WM
variable {g g0 : z_H} {tg : Nat → Option Nat} {c0 y0 : Nat}
def pl3 (s l r : Nat) : Nat := 25 * (49 * s + 7 * l + r)
theorem d_place (h : z_H) (s l r c : Nat) : D_X11_placeOf h (Int32.ofNat s) (Int32.ofNat l) (Int32.ofNat r) (Int32.ofNat c) = some (Int32.ofNat (pl3 s l r + c), h) := by
  unfold D_X11_placeOf pl3
  rw [show (25 : Int32) = Int32.ofNat 25 from rfl, show (49 : Int32) = Int32.ofNat 49 from rfl, show (7 : Int32) = Int32.ofNat 7 from rfl, sc_mul, sc_mul, sc_add, sc_add, sc_mul, sc_add]
theorem pl3_lt {s l r c : Nat} (hs : s ≤ 6) (hl : l ≤ 6) (hr : r ≤ 6) (hc : c < 25) : pl3 s l r + c < 8575 := by unfold pl3; omega
/-- one block of the reference's table -/
theorem m_block (k8 : z_H → Option Nat → Int32 → Int32 → Int32 → Int32 → Int32 → Option z_H) (k17 : z_H → Option Nat → Int32 → Int32 → Int32 → Int32 → Int32 → Int32 → Option z_H) (k26 : z_H → Option Nat → Int32 → Int32 → Int32 → Int32 → Int32 → Int32 → Int32 → Option z_H) (b1 b2 b3 : Int32) (hs : Sh g) (ok : tgOK tg) (al : ∀ k, k < 100 → aI g 102 k = enc (tg k)) {p s l r : Nat} (hp : p < 6) (e8 : aI g 83 (8 + p) = Int32.ofNat c0) (hc0 : c0 < 25) (hss : s ≤ 6) (hl : l ≤ 6) (hrr : r ≤ 6) : ∃ f, (same25 (fun c => f (pl3 s l r + c)) (wCell tg c0 y0 s l r (fun c => aJ g 103 (pl3 s (l - 1) r + c)) (fun c => aJ g 103 (pl3 s l (r - 1) + c)) (fun c => aJ g 103 (pl3 (s - 1) l r + c)))) ∧ (∀ q, q < pl3 s l r ∨ pl3 s l r + 25 ≤ q → f q = aJ g 103 q) ∧ D_X11_layWays_57 k8 k17 k26 z_F g (some 81) (Int32.ofNat p) b1 b2 b3 (Int32.ofNat s) (Int32.ofNat l) (Int32.ofNat r) (Int32.ofNat ((y0 + r + 3 * l) % 4)) 0 = k26 (wJ g 103 f) (some 81) (Int32.ofNat p) b1 b2 b3 (Int32.ofNat s) (Int32.ofNat l) (Int32.ofNat (r + 1)) := by
  have hS : ∀ f, Sh (wJ g 103 f) := fun f => Sh_wJ hs rfl f
  have rd : ∀ f, aJ (wJ g 103 f) 103 = f := fun f => aJ_wJ_eq hs rfl f
  have q42 : ∀ f, z_gQ 11 (wJ g 103 f) (some 81) 42 = some (some 103) := fun f => s_gQ (hS f) rfl rfl
  have q41 : ∀ f, z_gQ 11 (wJ g 103 f) (some 81) 41 = some (some 102) := fun f => s_gQ (hS f) rfl rfl
  have hw : (y0 + r + 3 * l) % 4 < 4 := Nat.mod_lt _ (by decide)
  have dis1 : l ≠ 0 → ∀ c, c < 25 → pl3 s (l - 1) r + c < pl3 s l r ∨ pl3 s l r + 25 ≤ pl3 s (l - 1) r + c := fun z c hc => by unfold pl3; omega
  have dis2 : r ≠ 0 → ∀ c, c < 25 → pl3 s l (r - 1) + c < pl3 s l r ∨ pl3 s l r + 25 ≤ pl3 s l (r - 1) + c := fun z c hc => by unfold pl3; omega
  have dis3 : s ≠ 0 → ∀ c, c < 25 → pl3 (s - 1) l r + c < pl3 s l r ∨ pl3 s l r + 25 ≤ pl3 (s - 1) l r + c := fun z c hc => by unfold pl3; omega
  have le0 : ∀ {q : Nat}, q ≤ 6 → ((Int32.ofNat q ≤ 0) ↔ q = 0) := fun hq => by
    rw [show (0 : Int32) = Int32.ofNat 0 from rfl, nat_le (by omega) (by decide)]
    omega
  -- the base
  have lp := loop_up (β := z_H) (S := Nat → Int64) (N := 25) (F := fun k f i => D_X11_layWays_57 k8 k17 k26 k (wJ g 103 f) (some 81) (Int32.ofNat p) b1 b2 b3 (Int32.ofNat s) (Int32.ofNat l) (Int32.ofNat r) (Int32.ofNat ((y0 + r + 3 * l) % 4)) (Int32.ofNat i)) (G := fun f => D_X11_layWays_187 k8 k17 k26 z_F (wJ g 103 f) (some 81) (Int32.ofNat p) b1 b2 b3 (Int32.ofNat s) (Int32.ofNat l) (Int32.ofNat r) (Int32.ofNat ((y0 + r + 3 * l) % 4)) 0) (I := fun i f => (∀ c, c < i → f (pl3 s l r + c) = if s = 0 ∧ l = 0 ∧ r = 0 ∧ c = c0 then 1 else (if l = 0 then 0 else aJ g 103 (pl3 s (l - 1) r + c)) + (if r = 0 then 0 else aJ g 103 (pl3 s l (r - 1) + c))) ∧ ∀ q, q < pl3 s l r ∨ pl3 s l r + 25 ≤ q → f q = aJ g 103 q)
    (fun k f _ => by
      show D_X11_layWays_57b k8 k17 k26 _ (wJ g 103 f) (some 81) (Int32.ofNat p) b1 b2 b3 (Int32.ofNat s) (Int32.ofNat l) (Int32.ofNat r) (Int32.ofNat ((y0 + r + 3 * l) % 4)) (Int32.ofNat 25) = _
      unfold D_X11_layWays_57b
      rw [if_pos (by decide)])
    (fun k f i hi I => by
      obtain ⟨I1, I2⟩ := I
      refine ⟨vp_updL f (pl3 s l r + i) (if s = 0 ∧ l = 0 ∧ r = 0 ∧ i = c0 then 1 else (if l = 0 then 0 else aJ g 103 (pl3 s (l - 1) r + i)) + (if r = 0 then 0 else aJ g 103 (pl3 s l (r - 1) + i))), ⟨fun c hc => ?_, fun q hq => ?_⟩, ?_⟩
      · by_cases e : c = i
        · rw [e, updL_eq]
        · rw [updL_ne (by omega)]; exact I1 c (by omega)
      · rw [updL_ne (by omega)]; exact I2 q hq
      · show D_X11_layWays_57b k8 k17 k26 (D_X11_layWays_57 k8 k17 k26 k) (wJ g 103 f) (some 81) (Int32.ofNat p) b1 b2 b3 (Int32.ofNat s) (Int32.ofNat l) (Int32.ofNat r) (Int32.ofNat ((y0 + r + 3 * l) % 4)) (Int32.ofNat i) = _
        have e157 : ∀ a b v, a + b = v → D_X11_layWays_157 k8 k17 k26 (D_X11_layWays_57 k8 k17 k26 k) (wJ g 103 f) (some 81) (Int32.ofNat p) b1 b2 b3 (Int32.ofNat s) (Int32.ofNat l) (Int32.ofNat r) (Int32.ofNat ((y0 + r + 3 * l) % 4)) (Int32.ofNat i) a b = D_X11_layWays_57 k8 k17 k26 k (wJ g 103 (vp_updL f (pl3 s l r + i) v)) (some 81) (Int32.ofNat p) b1 b2 b3 (Int32.ofNat s) (Int32.ofNat l) (Int32.ofNat r) (Int32.ofNat ((y0 + r + 3 * l) % 4)) (Int32.ofNat (i + 1)) := fun a b v e => by
          unfold D_X11_layWays_157
          rw [Option.bind_some, q42, Option.bind_some, d_place, Option.bind_some]
          dsimp only
          rw [jW (n := 8575) (hS f) rfl (pl3_lt hss hl hrr hi) (by decide), Option.bind_some, Option.bind_some, wJ_wJ, rd, e, show Int32.ofNat i + 1 = Int32.ofNat (i + 1) from sc_add i 1]
        have e125 : ∀ a b v, (a + b) + (if r = 0 then 0 else aJ g 103 (pl3 s l (r - 1) + i)) = v → D_X11_layWays_125 k8 k17 k26 (D_X11_layWays_57 k8 k17 k26 k) (wJ g 103 f) (some 81) (Int32.ofNat p) b1 b2 b3 (Int32.ofNat s) (Int32.ofNat l) (Int32.ofNat r) (Int32.ofNat ((y0 + r + 3 * l) % 4)) (Int32.ofNat i) a b = D_X11_layWays_57 k8 k17 k26 k (wJ g 103 (vp_updL f (pl3 s l r + i) v)) (some 81) (Int32.ofNat p) b1 b2 b3 (Int32.ofNat s) (Int32.ofNat l) (Int32.ofNat r) (Int32.ofNat ((y0 + r + 3 * l) % 4)) (Int32.ofNat (i + 1)) := fun a b v e => by
          unfold D_X11_layWays_125
          rw [Option.bind_some]
          by_cases c : r = 0
          · rw [if_pos c] at e
            rw [if_pos ((le0 hrr).mpr c)]
            exact e157 _ _ _ e
          · rw [if_neg c] at e
            rw [if_neg (fun z => c ((le0 hrr).mp z)), q42, Option.bind_some, show Int32.ofNat r - 1 = Int32.ofNat (r - 1) from sc_sub (k := 1) (by omega), d_place, Option.bind_some]
            dsimp only
            rw [jR (n := 8575) (hS f) rfl (pl3_lt hss hl (by omega) hi) (by decide), Option.bind_some, rd, I2 _ (dis2 c i hi)]
            exact e157 _ _ _ e
        have e94 : ∀ a v, (a + (if l = 0 then 0 else aJ g 103 (pl3 s (l - 1) r + i))) + (if r = 0 then 0 else aJ g 103 (pl3 s l (r - 1) + i)) = v → D_X11_layWays_94 k8 k17 k26 (D_X11_layWays_57 k8 k17 k26 k) (wJ g 103 f) (some 81) (Int32.ofNat p) b1 b2 b3 (Int32.ofNat s) (Int32.ofNat l) (Int32.ofNat r) (Int32.ofNat ((y0 + r + 3 * l) % 4)) (Int32.ofNat i) a = D_X11_layWays_57 k8 k17 k26 k (wJ g 103 (vp_updL f (pl3 s l r + i) v)) (some 81) (Int32.ofNat p) b1 b2 b3 (Int32.ofNat s) (Int32.ofNat l) (Int32.ofNat r) (Int32.ofNat ((y0 + r + 3 * l) % 4)) (Int32.ofNat (i + 1)) := fun a v e => by
          unfold D_X11_layWays_94
          by_cases c : l = 0
          · rw [if_pos c] at e
            rw [if_pos ((le0 hl).mpr c)]
            exact e125 _ _ _ e
          · rw [if_neg c] at e
            rw [if_neg (fun z => c ((le0 hl).mp z)), q42, Option.bind_some, show Int32.ofNat l - 1 = Int32.ofNat (l - 1) from sc_sub (k := 1) (by omega), d_place, Option.bind_some]
            dsimp only
            rw [jR (n := 8575) (hS f) rfl (pl3_lt hss (by omega) hrr hi) (by decide), Option.bind_some, rd, I2 _ (dis1 c i hi)]
            exact e125 _ _ _ e
        unfold D_X11_layWays_57b D_X11_layWays_93
        rw [if_neg (fun z => by have := (nat_le (a := 25) (b := i) (by decide) (by omega)).mp z; omega), sc_add, sc_add]
        have z0 : (Int32.ofNat (s + l + r) = 0) ↔ s + l + r = 0 := eq_lit (b := 0) (by omega) (by decide)
        by_cases c : s + l + r = 0
        · have r8 : z_aI .int (wJ g 103 f) (some 83) ((8 : Int32) + Int32.ofNat p) = some (Int32.ofNat c0) := by
            rw [show (8 : Int32) + Int32.ofNat p = Int32.ofNat (8 + p) from sc_add 8 p, m83 (hS f) (by omega), aI_wJ, e8]
          rw [if_pos (z0.mpr c), s_gQ (r := 83) (hS f) rfl rfl, Option.bind_some, r8, Option.bind_some]
          by_cases ci : i = c0
          · rw [if_pos (by rw [ci])]
            refine e94 _ _ ?_
            rw [if_pos (show l = 0 by omega), if_pos (show r = 0 by omega), if_pos ⟨by omega, by omega, by omega, ci⟩]
            rfl
          · rw [if_neg (fun z => ci ((eq_lit (by omega) (by omega)).mp z))]
            refine e94 _ _ ?_
            rw [if_neg (show ¬ (s = 0 ∧ l = 0 ∧ r = 0 ∧ i = c0) from fun z => ci z.2.2.2), Int64.zero_add]
        · rw [if_neg (fun z => c (z0.mp z))]
          refine e94 _ _ ?_
          rw [if_neg (show ¬ (s = 0 ∧ l = 0 ∧ r = 0 ∧ i = c0) from fun z => c (by omega)), Int64.zero_add])
    25 0 z_F (aJ g 103) (by decide) (by decide) (by decide) ⟨fun c hc => by omega, fun q _ => rfl⟩
  obtain ⟨f, ⟨F1, F2⟩, ef⟩ := lp
  rw [wJ_self hs (a := 103) (n := 8575) rfl] at ef
  have nx : ∀ f, D_X11_layWays_262 k8 k17 k26 (wJ g 103 f) (some 81) (Int32.ofNat p) b1 b2 b3 (Int32.ofNat s) (Int32.ofNat l) (Int32.ofNat r) = k26 (wJ g 103 f) (some 81) (Int32.ofNat p) b1 b2 b3 (Int32.ofNat s) (Int32.ofNat l) (Int32.ofNat (r + 1)) := fun f => by
    unfold D_X11_layWays_262
    rw [Option.bind_some, show Int32.ofNat r + 1 = Int32.ofNat (r + 1) from sc_add r 1]
  by_cases cs : s = 0
  · refine ⟨f, ?_, F2, ef.trans ?_⟩
    · unfold wCell
      rw [if_pos cs]
      exact fun c hc => F1 c hc
    · obtain ⟨z, hz⟩ : ∃ z, z_F = z + 1 := ⟨999999, rfl⟩
      rw [hz]
      show D_X11_layWays_187b k8 k17 k26 (D_X11_layWays_187 k8 k17 k26 z) (wJ g 103 f) (some 81) (Int32.ofNat p) b1 b2 b3 (Int32.ofNat s) (Int32.ofNat l) (Int32.ofNat r) (Int32.ofNat ((y0 + r + 3 * l) % 4)) 0 = _
      unfold D_X11_layWays_187b
      rw [if_neg (by decide), if_pos ((le0 hss).mpr cs), nx]
  · have lp2 := loop_up (β := z_H) (S := Nat → Int64) (N := 25) (F := fun k f i => D_X11_layWays_187 k8 k17 k26 k (wJ g 103 f) (some 81) (Int32.ofNat p) b1 b2 b3 (Int32.ofNat s) (Int32.ofNat l) (Int32.ofNat r) (Int32.ofNat ((y0 + r + 3 * l) % 4)) (Int32.ofNat i)) (G := fun f => k26 (wJ g 103 f) (some 81) (Int32.ofNat p) b1 b2 b3 (Int32.ofNat s) (Int32.ofNat l) (Int32.ofNat (r + 1))) (I := fun i f => same25 (fun c => f (pl3 s l r + c)) (foldN (wyf tg ((y0 + r + 3 * l) % 4) (fun c => aJ g 103 (pl3 (s - 1) l r + c))) i (fun c => if s = 0 ∧ l = 0 ∧ r = 0 ∧ c = c0 then 1 else (if l = 0 then 0 else aJ g 103 (pl3 s (l - 1) r + c)) + (if r = 0 then 0 else aJ g 103 (pl3 s l (r - 1) + c)))) ∧ ∀ q, q < pl3 s l r ∨ pl3 s l r + 25 ≤ q → f q = aJ g 103 q)
      (fun k f _ => by
        show D_X11_layWays_187b k8 k17 k26 _ (wJ g 103 f) (some 81) (Int32.ofNat p) b1 b2 b3 (Int32.ofNat s) (Int32.ofNat l) (Int32.ofNat r) (Int32.ofNat ((y0 + r + 3 * l) % 4)) (Int32.ofNat 25) = _
        unfold D_X11_layWays_187b
        rw [if_pos (by decide), nx])
      (fun k f i hi I => by
        obtain ⟨I1, I2⟩ := I
        have n2 : ∀ f, D_X11_layWays_256 k8 k17 k26 (D_X11_layWays_187 k8 k17 k26 k) (wJ g 103 f) (some 81) (Int32.ofNat p) b1 b2 b3 (Int32.ofNat s) (Int32.ofNat l) (Int32.ofNat r) (Int32.ofNat ((y0 + r + 3 * l) % 4)) (Int32.ofNat i) = D_X11_layWays_187 k8 k17 k26 k (wJ g 103 f) (some 81) (Int32.ofNat p) b1 b2 b3 (Int32.ofNat s) (Int32.ofNat l) (Int32.ofNat r) (Int32.ofNat ((y0 + r + 3 * l) % 4)) (Int32.ofNat (i + 1)) := fun f => by
          unfold D_X11_layWays_256
          rw [Option.bind_some, show Int32.ofNat i + 1 = Int32.ofNat (i + 1) from sc_add i 1]
        have st : D_X11_layWays_187 k8 k17 k26 (k + 1) (wJ g 103 f) (some 81) (Int32.ofNat p) b1 b2 b3 (Int32.ofNat s) (Int32.ofNat l) (Int32.ofNat r) (Int32.ofNat ((y0 + r + 3 * l) % 4)) (Int32.ofNat i) = D_X11_layWays_187b k8 k17 k26 (D_X11_layWays_187 k8 k17 k26 k) (wJ g 103 f) (some 81) (Int32.ofNat p) b1 b2 b3 (Int32.ofNat s) (Int32.ofNat l) (Int32.ofNat r) (Int32.ofNat ((y0 + r + 3 * l) % 4)) (Int32.ofNat i) := rfl
        have fs : foldN (wyf tg ((y0 + r + 3 * l) % 4) (fun c => aJ g 103 (pl3 (s - 1) l r + c))) (i + 1) (fun c => if s = 0 ∧ l = 0 ∧ r = 0 ∧ c = c0 then 1 else (if l = 0 then 0 else aJ g 103 (pl3 s (l - 1) r + c)) + (if r = 0 then 0 else aJ g 103 (pl3 s l (r - 1) + c))) = wyf tg ((y0 + r + 3 * l) % 4) (fun c => aJ g 103 (pl3 (s - 1) l r + c)) i (foldN (wyf tg ((y0 + r + 3 * l) % 4) (fun c => aJ g 103 (pl3 (s - 1) l r + c))) i (fun c => if s = 0 ∧ l = 0 ∧ r = 0 ∧ c = c0 then 1 else (if l = 0 then 0 else aJ g 103 (pl3 s (l - 1) r + c)) + (if r = 0 then 0 else aJ g 103 (pl3 s l (r - 1) + c)))) := rfl
        rw [st, fs]
        unfold D_X11_layWays_187b
        rw [if_neg (fun z => by have := (nat_le (a := 25) (b := i) (by decide) (by omega)).mp z; omega), if_neg (fun z => cs ((le0 hss).mp z)), q41, Option.bind_some, show (4 : Int32) * Int32.ofNat i + Int32.ofNat ((y0 + r + 3 * l) % 4) = Int32.ofNat (4 * i + (y0 + r + 3 * l) % 4) by rw [show (4 : Int32) = Int32.ofNat 4 from rfl, sc_mul, sc_add], aR (n := 100) (hS f) rfl (by omega) (by decide), Option.bind_some, aI_wJ, al _ (by omega)]
        unfold wyf
        cases e : tg (4 * i + (y0 + r + 3 * l) % 4) with
        | none =>
          rw [if_pos (show enc none = -1 from rfl), n2]
          exact ⟨f, ⟨I1, I2⟩, rfl⟩
        | some t =>
          have ht := ok _ t (by omega) e
          dsimp only
          refine ⟨vp_updL f (pl3 s l r + t) (f (pl3 s l r + t) + aJ g 103 (pl3 (s - 1) l r + i)), ⟨fun c hc => ?_, fun q hq => ?_⟩, ?_⟩
          · dsimp only
            by_cases e2 : c = t
            · rw [e2, updL_eq, updL_eq]
              exact congrArg (fun z => z + aJ g 103 (pl3 (s - 1) l r + i)) (I1 t ht)
            · rw [updL_ne (by omega), updL_ne e2]; exact I1 c hc
          · rw [updL_ne (by omega)]; exact I2 q hq
          · rw [if_neg (show ¬ enc (some t) = -1 from of_nm1 (by omega)), q42, Option.bind_some, show enc (some t) = Int32.ofNat t from rfl, d_place, Option.bind_some]
            dsimp only
            rw [jR (n := 8575) (hS f) rfl (pl3_lt hss hl hrr ht) (by decide), Option.bind_some, q42, Option.bind_some, show Int32.ofNat s - 1 = Int32.ofNat (s - 1) from sc_sub (k := 1) (by omega), d_place, Option.bind_some]
            dsimp only
            rw [jR (n := 8575) (hS f) rfl (pl3_lt (by omega) hl hrr hi) (by decide), Option.bind_some, rd, I2 _ (dis3 cs i hi), jW (n := 8575) (hS f) rfl (pl3_lt hss hl hrr ht) (by decide), Option.bind_some, wJ_wJ, rd, n2])
      25 0 z_F f (by decide) (by decide) (by decide) ⟨fun c hc => F1 c hc, F2⟩
    obtain ⟨f', ⟨G1, G2⟩, ef'⟩ := lp2
    refine ⟨f', ?_, G2, ef.trans ef'⟩
    unfold wCell
    rw [if_neg cs]
    exact G1
end WM
