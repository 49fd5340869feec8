/-! least, in the class: the three acts of a settled place, in its cells -/
section CB
variable {h g : z_H} {cst : Nat → Nat} {set set0 : Nat → Bool} {tg : Nat → Option Nat} {m : Nat → Int32} {law : Option Nat} {T : LawT} {p s b : Nat} {G : Nat → Prop}
theorem c_acts (hs0 : Sh h) (Y : Yrel h 1 m) {kk : Int32} (dl : D_X9_lawInForce h (some 1) = some (law, h)) (lr : LawR h m kk law T) (hp : p < 6) (ok : tgOK tg) (al : ∀ k, k < 100 → aI h 47 k = enc (stN tg k)) (D : DH h g cst set) {u : Nat} (hu : u < 100) (su : set u = true) (M : MD (nxt tg) (lwN T m p) G 9 s b set0 set u 0 cst) (hb : cst u + 9 ≤ 9 * b) (k53 : z_H → Option Nat → Option Nat → Int32 → Int32 → Int32 → Option (Int32 × z_H)) (l3 : Int32) (i : Nat) : ∃ g' cst', DH h g' cst' set ∧ MD (nxt tg) (lwN T m p) G 9 s b set0 set u 3 cst' ∧ D_X4_leastWorn_101 k53 z_F g (some 46) (some 1) (Int32.ofNat p) l3 (Int32.ofNat i) (Int32.ofNat u) 0 = k53 g' (some 46) (some 1) (Int32.ofNat p) l3 (Int32.ofNat (i + 1)) := by
  have O := nxt_ok ok (w := lwN T m p) (Wm := 9) (fun _ _ _ _ => lwN_le _ _ _ _ _) (by decide)
  have lp := loop_up (S := z_H × (Nat → Nat)) (I := fun a t => DH h t.1 t.2 set ∧ MD (nxt tg) (lwN T m p) G 9 s b set0 set u a t.2 ∧ t.2 u = cst u) (F := fun m' t a => D_X4_leastWorn_101 k53 m' t.1 (some 46) (some 1) (Int32.ofNat p) l3 (Int32.ofNat i) (Int32.ofNat u) (Int32.ofNat a)) (G := fun t => k53 t.1 (some 46) (some 1) (Int32.ofNat p) l3 (Int32.ofNat (i + 1))) (N := 3) (fun m' t _ => ?_) (fun m' t a ha I => ?_) 3 0 z_F (g, cst) (by decide) (by decide) (by show _ < 1000000; decide) ⟨D, M, rfl⟩
  · obtain ⟨t, ⟨D', M', -⟩, e⟩ := lp
    exact ⟨t.1, t.2, D', M', e⟩
  · show D_X4_leastWorn_101b k53 _ t.1 (some 46) (some 1) (Int32.ofNat p) l3 (Int32.ofNat i) (Int32.ofNat u) (Int32.ofNat 3) = _
    unfold D_X4_leastWorn_101b
    rw [if_pos (by decide), Option.bind_some, show Int32.ofNat i + 1 = Int32.ofNat (i + 1) from sc_add i 1]
  · obtain ⟨g', c'⟩ := t
    obtain ⟨D', M', e'⟩ := I
    dsimp only at D' M' e'
    obtain ⟨g2, D2, d2⟩ := c_cheapen hs0 Y dl lr hp ok al D' hu ha
    obtain ⟨M2, k2⟩ := M'.act O hu su ha (by omega)
    refine ⟨(g2, chp (nxt tg) (lwN T m p) c' set u a), ⟨D2, M2, by show chp _ _ c' set u a u = _; rw [k2, e']⟩, ?_⟩
    show D_X4_leastWorn_101b k53 (D_X4_leastWorn_101 k53 m') g' (some 46) (some 1) (Int32.ofNat p) l3 (Int32.ofNat i) (Int32.ofNat u) (Int32.ofNat a) = _
    unfold D_X4_leastWorn_101b
    rw [if_neg (show ¬ (3 : Int32) ≤ Int32.ofNat a from fun z => by have := (nat_le (a := 3) (b := a) (by decide) (by omega)).mp z; omega), s_ob D'.1 (ci := 4) rfl, Option.bind_some, d2, Option.bind_some, Option.bind_some, show Int32.ofNat a + 1 = Int32.ofNat (a + 1) from sc_add a 1]
end CB
