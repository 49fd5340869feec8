/-! least, in the class: an act -/
section CE
variable {h g : z_H} {cst : Nat → Nat} {set : Nat → Bool} {tg : Nat → Option Nat} {m : Nat → Int32} {law : Option Nat} {T : LawT} {p : Nat}
def DH (h g : z_H) (cst : Nat → Nat) (set : Nat → Bool) : Prop := Sh g ∧ Tch [29, 30, 31, 51, 52] h g ∧ (∀ k, k < 100 → aI g 51 k = Int32.ofNat (cst k)) ∧ (∀ k, k < 100 → cst k ≤ FC) ∧ ∀ k, k < 100 → aI g 52 k = b01 (set k)
def chp (N : Nat → Nat → Option Nat) (w : Nat → Nat → Nat) (cst : Nat → Nat) (set : Nat → Bool) (u a : Nat) : Nat → Nat := match N u a with
  | none => cst
  | some x => if set x = true then cst else updN cst x (if cst u + w u a < cst x then cst u + w u a else cst x)
theorem DH_Y (t : Tch [29, 30, 31, 51, 52] h g) (Y : Yrel h 1 m) : Yrel g 1 m := by
  refine Y.kept (fun q hq => t.c ?_) (Nat.le_of_eq t.1.symm) (fun a ha _ => t.c ?_)
  · simp only [List.mem_cons, List.not_mem_nil, or_false]; omega
  · simp only [List.mem_cons, List.not_mem_nil, or_false]; omega
theorem c_cheapen (hs0 : Sh h) (Y : Yrel h 1 m) {kk : Int32} (dl : D_X9_lawInForce h (some 1) = some (law, h)) (lr : LawR h m kk law T) (hp : p < 6) (ok : tgOK tg) (al : ∀ k, k < 100 → aI h 47 k = enc (stN tg k)) (D : DH h g cst set) {u a : Nat} (hu : u < 100) (ha : a < 3) : ∃ g', DH h g' (chp (nxt tg) (lwN T m p) cst set u a) set ∧ D_X4_cheapen g (some 46) (some 1) (Int32.ofNat p) (Int32.ofNat u) (Int32.ofNat a) = some g' := by
  obtain ⟨hs, Tc, ac, cb, as⟩ := D
  have al' : ∀ k, k < 100 → aI g 47 k = enc (stN tg k) := fun k hk => by rw [cell_aI (Tc.c (by decide))]; exact al k hk
  have Yg := DH_Y Tc Y
  unfold D_X4_cheapen chp
  rw [s_ob hs (ci := 4) rfl, Option.bind_some, c_behind hs al' hu ha, Option.bind_some]
  dsimp only
  cases e : nxt tg u a with
  | none =>
    rw [if_pos (show enc none = -1 from rfl)]
    exact ⟨g, ⟨hs, Tc, ac, cb, as⟩, rfl⟩
  | some x =>
    have hx := nxt_lt ok hu e
    dsimp only
    rw [if_neg (show ¬ enc (some x) = -1 from of_nm1 (by omega)), s_gQ (r := 52) hs rfl rfl, Option.bind_some, show enc (some x) = Int32.ofNat x from rfl, bR hs (n := 100) rfl hx (by decide), as x hx, Option.bind_some]
    cases q : set x
    · rw [if_pos (show b01 false = 0 from rfl), if_neg (by decide)]
      have hpt : ptN a < 4 := by unfold ptN; split <;> omega
      obtain ⟨wv, ew, hwv⟩ := Yg.row.2.1 (4 * p + ptN a) (by omega)
      obtain ⟨g', s', t', d'⟩ := cI_wears hs (Or.inl rfl) Yg (lr.T Tc (by decide)) (p := p) (j := ptN a) (c := u / 4) (y := u % 4) hp hpt (by omega) (by omega) (worn := m (20 + 4 * p + ptN a)) (by rw [show 20 + 4 * p + ptN a = 20 + (4 * p + ptN a) by omega, ew, of_int (by omega)]; omega)
      rw [(wears_tn _ _).1, show 4 * (u / 4) + u % 4 = u by omega] at d'
      have cu := cb u hu
      have cx := cb x hx
      have hw := lwN_le T m p u a
      have a51 : aI g' 51 = aI g 51 := cell_aI (t'.c (by decide))
      have t41 : ∃ g2, DH h g2 (updN cst x (if cst u + lwN T m p u a < cst x then cst u + lwN T m p u a else cst x)) set ∧ D_X4_cheapen_41 g (some 46) (some 1) (Int32.ofNat p) (Int32.ofNat u) (Int32.ofNat x) (Int32.ofNat (ptN a)) = some g2 := by
        have mn : (if Int32.ofNat (cst u + lwN T m p u a) < Int32.ofNat (cst x) then Int32.ofNat (cst u + lwN T m p u a) else Int32.ofNat (cst x)) = Int32.ofNat (if cst u + lwN T m p u a < cst x then cst u + lwN T m p u a else cst x) := by
          by_cases c : cst u + lwN T m p u a < cst x
          · rw [if_pos c, if_pos ((nat_lt (by unfold FC at *; omega) (by unfold FC at *; omega)).mpr c)]
          · rw [if_neg c, if_neg (fun z => c ((nat_lt (by unfold FC at *; omega) (by unfold FC at *; omega)).mp z))]
        refine ⟨wA g' 51 (upd (aI g' 51) x (Int32.ofNat (if cst u + lwN T m p u a < cst x then cst u + lwN T m p u a else cst x))), ⟨Sh_wA s' rfl _, Tch_wA (Tc.trans (t'.mono (by decide))) (by decide) _, fun k hk => ?_, fun k hk => ?_, fun k hk => ?_⟩, ?_⟩
        · rw [aI_wA_eq s' rfl, a51]
          unfold updN
          by_cases z : k = x
          · rw [if_pos z, z, upd_eq]
          · rw [if_neg z, upd_ne z]; exact ac k hk
        · unfold updN
          by_cases z : k = x
          · rw [if_pos z]; split <;> omega
          · rw [if_neg z]; exact cb k hk
        · rw [aI_wA_ne (by decide), cell_aI (t'.c (by decide))]; exact as k hk
        · unfold D_X4_cheapen_41
          rw [s_gQ (r := 29) hs rfl rfl, Option.bind_some, (yR hs (Or.inl rfl)).1, Option.bind_some, lawF_T hs0 (Or.inl rfl) dl hs Tc (by decide) Y, Option.bind_some]
          dsimp only
          rw [(yR hs (Or.inl rfl)).1, Option.bind_some, wornC hs (Or.inl rfl) hp hpt, Option.bind_some, ← (Yg.worn hp hpt).1]
          dsimp only
          rw [s_ob hs (ci := 1) rfl, Option.bind_some, d', Option.bind_some]
          dsimp only
          rw [s_gQ (r := 51) s' rfl rfl, Option.bind_some, Option.bind_some, aR s' (n := 100) rfl hx (by decide), a51, ac x hx, Option.bind_some, Option.bind_some, aR s' (n := 100) rfl hu (by decide), a51, ac u hu, Option.bind_some, Option.bind_some, sc_add]
          rw [show (tn (wearsV T (WA m p (Int32.ofNat (ptN a)) (m (20 + 4 * p + ptN a)) (u / 4) (u % 4)))) = lwN T m p u a from rfl, mn, aW s' (n := 100) rfl hx (by decide), Option.bind_some, a51]
      by_cases a0 : a = 0
      · rw [if_pos (show Int32.ofNat a = 0 by rw [a0]; rfl)]
        rw [show Int32.ofNat (ptN a) = 0 by rw [a0]; rfl] at t41
        exact t41
      · rw [if_neg (show ¬ Int32.ofNat a = 0 from fun z => a0 ((eq_lit (b := 0) (by omega) (by decide)).mp z)), show ((2 : Int32) + Int32.ofNat a) - 1 = Int32.ofNat (a + 1) by rw [show (2 : Int32) + Int32.ofNat a = Int32.ofNat (2 + a) from sc_add 2 a, show Int32.ofNat (2 + a) - 1 = Int32.ofNat (2 + a - 1) from sc_sub (k := 1) (by omega), show 2 + a - 1 = a + 1 by omega]]
        rw [show ptN a = a + 1 from if_neg a0] at t41
        exact t41
    · rw [if_neg (show ¬ b01 true = 0 by decide), if_pos (show true = true from rfl)]
      exact ⟨g, ⟨hs, Tc, ac, cb, as⟩, rfl⟩
end CE
