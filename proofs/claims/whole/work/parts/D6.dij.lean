/-! least, in the class: the search -/
section CD
variable {h : z_H} {tg : Nat → Option Nat} {m : Nat → Int32} {law : Option Nat} {T : LawT} {p s c : Nat}
theorem c_dij (hs0 : Sh h) (Y : Yrel h 1 m) {kk : Int32} (dl : D_X9_lawInForce h (some 1) = some (law, h)) (lr : LawR h m kk law T) (hp : p < 6) (ok : tgOK tg) (al : ∀ k, k < 100 → aI h 47 k = enc (stN tg k)) (hc : c < 25) : ∀ (d i f : Nat) (g : z_H) (cst : Nat → Nat) (set : Nat → Bool) (P : Nat → Nat → Prop), 100 - i = d → d < f → i ≤ 100 → DH h g cst set → DJ (nxt tg) (lwN T m p) (gl c) 9 s i cst set P → (∀ u a, P u a → set u = true) → (∀ u a, u < 100 → set u = true → a < 3 → P u a) → sumN (fun k => if set k = true then 1 else 0) 100 = i → ∃ g' x, D_X4_leastWorn_53 f g (some 46) (some 1) (Int32.ofNat p) (Int32.ofNat c) (Int32.ofNat i) = some (if x = FR then -1 else Int32.ofNat x, g') ∧ lst (nxt tg) (lwN T m p) (gl c) 9 s x ∧ Sh g' ∧ Tch [29, 30, 31, 51, 52] h g' := by
  have O := nxt_ok ok (w := lwN T m p) (Wm := 9) (fun _ _ _ _ => lwN_le _ _ _ _ _) (by decide)
  intro d
  induction d with
  | zero =>
    intro i f g cst set P hd hf hi D J _ full cnt
    obtain ⟨f, rfl⟩ : ∃ f', f = f' + 1 := ⟨f - 1, by omega⟩
    have i100 : i = 100 := by omega
    subst i100
    have all : ∀ x, x < 100 → set x = false → cst x = FC := fun x hx sx => by
      have c1 : sumN (fun _ => 1) 100 = 100 := by decide
      have := sum_lt' (F := fun k => if set k = true then 1 else 0) (G := fun _ => 1) 100 (fun k _ => by split <;> omega) x hx (by rw [sx]; decide)
      omega
    refine ⟨g, FR, ?_, J.none O (by decide) full all, D.1, D.2.1⟩
    show D_X4_leastWorn_53b _ g (some 46) (some 1) (Int32.ofNat p) (Int32.ofNat c) (Int32.ofNat 100) = _
    unfold D_X4_leastWorn_53b
    rw [if_pos (by decide), if_pos rfl]
  | succ d ih =>
    intro i f g cst set P hd hf hi D J hP full cnt
    obtain ⟨f, rfl⟩ : ∃ f', f = f' + 1 := ⟨f - 1, by omega⟩
    obtain ⟨o, co, dc⟩ := c_cheapest D.1 D.2.2.1 D.2.2.2.1 D.2.2.2.2
    show ∃ g' x, D_X4_leastWorn_53b (D_X4_leastWorn_53 f) g (some 46) (some 1) (Int32.ofNat p) (Int32.ofNat c) (Int32.ofNat i) = _ ∧ _
    unfold D_X4_leastWorn_53b
    rw [if_neg (show ¬ (100 : Int32) ≤ Int32.ofNat i from fun z => by have := (nat_le (a := 100) (b := i) (by decide) (by omega)).mp z; omega), s_ob D.1 (ci := 4) rfl, Option.bind_some, dc, Option.bind_some]
    dsimp only
    cases o with
    | none =>
      rw [if_pos (show enc none = -1 from rfl)]
      refine ⟨g, FR, by rw [if_pos rfl], J.none O (by omega) full (fun x hx sx => ?_), D.1, D.2.1⟩
      have := co x hx sx
      have := D.2.2.2.1 x hx
      omega
    | some u =>
      obtain ⟨u1, u2, u3, u4⟩ := co
      rw [if_neg (show ¬ enc (some u) = -1 from of_nm1 (by omega)), show enc (some u) = Int32.ofNat u from rfl, show Int32.ofNat u / 4 = Int32.ofNat (u / 4) from sc_div (b := 4) (by omega) (by decide) (by decide)]
      by_cases q : u / 4 = c
      · rw [if_pos (show Int32.ofNat (u / 4) = Int32.ofNat c by rw [q]), s_gQ (r := 51) D.1 rfl rfl, Option.bind_some, aR D.1 (n := 100) rfl u1 (by decide), D.2.2.1 u u1, Option.bind_some]
        exact ⟨g, cst u, by rw [if_neg (show ¬ cst u = FR by unfold FC at u3; unfold FR; omega)], J.best O (by omega) full u1 q u3 u4, D.1, D.2.1⟩
      · rw [if_neg (show ¬ Int32.ofNat (u / 4) = Int32.ofNat c from fun z => q ((eq_lit (by omega) (by omega)).mp z)), s_gQ (r := 52) D.1 rfl rfl, Option.bind_some]
        have bw := bW D.1 (a := 52) (n := 100) rfl u1 (by decide) true
        rw [show b01 true = 1 from rfl] at bw
        rw [bw, Option.bind_some]
        obtain ⟨J1, old, new⟩ := J.settle q u3 u4 u1 u2
        have cu := ((J.1 u u1).resolve_left (by omega)).1
        have D1 : DH h (wA g 52 (upd (aI g 52) u 1)) cst (fun x => if x = u then true else set x) := by
          refine ⟨Sh_wA D.1 rfl _, Tch_wA D.2.1 (by decide) _, fun k hk => by rw [aI_wA_ne (by decide)]; exact D.2.2.1 k hk, D.2.2.2.1, fun k hk => ?_⟩
          rw [aI_wA_eq D.1 rfl]
          by_cases z : k = u
          · rw [z, upd_eq]; dsimp only; rw [if_pos rfl]; rfl
          · rw [upd_ne z]; dsimp only; rw [if_neg z]; exact D.2.2.2.2 k hk
        have su : (fun x => if x = u then true else set x) u = true := if_pos rfl
        have M0 : MD (nxt tg) (lwN T m p) (gl c) 9 s (i + 1) set (fun x => if x = u then true else set x) u 0 cst := ⟨P, J1, fun u' a z => by dsimp only; rw [hP u' a z]; split <;> rfl, full, fun a z => by omega, old, new⟩
        obtain ⟨g2, cst2, D2, ⟨P2, J2, h1, h2, h3, -, -⟩, e2⟩ := c_acts hs0 Y dl lr hp ok al D1 u1 su M0 (by omega) (D_X4_leastWorn_53 f) (Int32.ofNat c) i
        obtain ⟨g3, x, e3, r⟩ := ih (i + 1) f g2 cst2 _ P2 (by omega) (by omega) (by omega) D2 J2 h1 (fun u' a hu' su' ha => by
          by_cases z : u' = u
          · rw [z]; exact h3 a ha
          · rw [if_neg z] at su'; exact h2 u' a hu' su' ha) (by
          have : (fun k => if (if k = u then true else set k) = true then 1 else 0) = addN (fun k => if set k = true then 1 else 0) u 1 := by
            funext k
            unfold addN
            by_cases z : k = u
            · subst z; simp [u2]
            · simp [z]
          rw [this, sum_add, if_pos u1, cnt])
        exact ⟨g3, x, e2.trans e3, r⟩
end CD
