/-! orders: an act, in two heaps -/
section H3
variable {g h : z_H} {m : Nat → Int32} {law : Option Nat} {T : LawT}
def ACT (g h : z_H) (m : Nat → Int32) (nu v : Nat) (A B : Option (Int32 × z_H)) : Prop := (∃ (g' h' : z_H) (rC rM : Int32), Sh g' ∧ Tch [29, 30, 31, 33] g g' ∧ OnM [81, 99, 101] [34, 38, 39, 40] h h' ∧ A = some (rC, g') ∧ B = some (rM, h') ∧ ¬ 0 ≤ rC ∧ ¬ 0 ≤ rM) ∨ ∃ (g' h' : z_H) (r : Int32) (m' : Nat → Int32), Sh g' ∧ Tch [2, 3, 5, 6, 29, 30, 31, 33] g g' ∧ Yrel g' 1 m' ∧ recOK (tn (m 0)) (aI g' 33) (fun i => m (5 + i)) (fun i => m' (5 + i)) (Int32.ofNat v) ∧ nb r 999 ∧ (∀ i, i < 5 ∨ 44 ≤ i → m' i = m i) ∧ A = some (r, g') ∧ B = some (r, h') ∧ OnM [81, 83, 86, 87, 99, 101] [8, 34, 38, 39, 40] h h' ∧ aI h' 83 = m' ∧ fI h' 81 8 = Int32.ofNat (nxN nu) ∧ aI h' 86 = nxU nu (aI h 86) (fun i => m (5 + i)) ∧ aI h' 87 = nxM nu (aI h 87) (Int32.ofNat v)
theorem act_setPF {act p q : Nat} {r : Int32} {m' : Nat → Int32} (hact : act < 4) (e : actN T m act p q = some (r, m')) : ∃ v cc yy, m' = setPF m p (partN act q) v cc yy := by
  have : act = 0 ∨ act = 1 ∨ act = 2 ∨ act = 3 := by omega
  unfold actN at e
  rcases this with rfl | rfl | rfl | rfl
  · rw [if_pos rfl] at e
    split at e
    · cases e
    · cases e
      exact ⟨_, _, _, rfl⟩
  · rw [if_neg (by decide), if_pos rfl] at e
    cases e
    exact ⟨_, _, _, rfl⟩
  · rw [if_neg (by decide), if_neg (by decide), if_pos rfl] at e
    cases e
    exact ⟨_, _, _, rfl⟩
  · rw [if_neg (by decide), if_neg (by decide), if_neg (by decide)] at e
    split at e
    · cases e
    · cases e
      exact ⟨_, _, _, rfl⟩
theorem act_pair2 (hs : Sh g) (Y : Yrel g 1 m) {kk : Int32} (dl : D_X9_lawInForce g (some 1) = some (law, g)) (lr : LawR g m kk law T) (c83 : aI h 83 = m) {n nu : Nat} (e1 : fI g 1 8 = Int32.ofNat n) (hn : n ≤ 6) {act p q : Nat} {b : Int32} (hact : act < 4) (hp : p < n) (hb1 : act = 1 → q < 2 ∧ b = Int32.ofNat q) (hb3 : act = 3 → q < 4 ∧ b = Int32.ofNat q) {B : Option (Int32 × z_H)} (dM : RefAct h T nu act p q B) : ACT g h m nu act (D_X0_carryOut g (some 32) (some 1) (Int32.ofNat act) (Int32.ofNat p) b) B := by
  have ha : isY 1 := Or.inl rfl
  have hp6 : p < 6 := by omega
  have hi := partN_lt hact (fun q => (hb1 q).1) (fun q => (hb3 q).1)
  obtain ⟨c, y, hc, hy, m8, m14, -⟩ := Y.at hp6
  obtain ⟨-, w, hw, ew⟩ := Y.worn hp6 hi
  have e5 : ∃ d, d ≤ 999 ∧ m 5 = Int32.ofNat d := by
    obtain ⟨d, ed, hd⟩ := Y.row.2.2.1
    exact ⟨d, hd, ed⟩
  obtain ⟨d, hd, e5⟩ := e5
  have e0 : m 0 = Int32.ofNat n := by rw [Y.2.1.1]; exact e1
  obtain ⟨C1, C2⟩ := c_carry hs ha Y dl lr e1 hn hact hp hb1 hb3
  unfold RefAct at dM
  rw [c83] at dM
  cases e : actN T m act p q with
  | none =>
    obtain ⟨g1, s1, T1, d1⟩ := C1 e
    obtain ⟨h1, o1, d2⟩ := dM.1 e
    exact Or.inl ⟨g1, h1, -3, -3, s1, T1, o1, d1, d2, by decide, by decide⟩
  | some rm =>
    obtain ⟨r, m'⟩ := rm
    obtain ⟨g1, s1, T1, Y1, rk, hr, d1⟩ := C2 r m' e
    obtain ⟨h1, o1, a83, f8, a86, a87, d2⟩ := dM.2 r m' e
    obtain ⟨v, cc, yy, em⟩ := act_setPF hact e
    have tnp : tn (m 0) = n := by rw [e0]; exact tn_of (by omega)
    have K : recOK (tn (m 0)) (aI g1 33) (fun i => m (5 + i)) (fun i => m' (5 + i)) (Int32.ofNat act) := by
      rw [tnp, em]
      exact recOK_act (by omega) hp hn hi rk m8 hc m14 hy ew hw e5 hd
    obtain ⟨z, ez, hz⟩ := hr
    refine Or.inr ⟨g1, h1, r, m', s1, T1.mono sub_acts, Y1, K, ⟨z, ez, by omega⟩, fun i hi' => ?_, d1, d2, o1, a83, f8, a86, a87⟩
    rw [em]
    unfold setPF
    rw [upd_ne (by omega), upd_ne (by omega), upd_ne (by omega)]
theorem act_two (hs : Sh g) (Y : Yrel g 1 m) {kk : Int32} (dl : D_X9_lawInForce g (some 1) = some (law, g)) (lr : LawR g m kk law T) (ra : RA h law T) (c83 : aI h 83 = m) {nu : Nat} (f8 : fI h 81 8 = Int32.ofNat nu) (hu : nu ≤ 16) {v : Nat} (hv : v < 5) {x x' b b' : Int32} (ex : v ≠ 4 → x' = x) (eb : v = 1 ∨ v = 3 → b' = b) : ACT g h m nu v (D_X0_carryOut g (some 32) (some 1) (Int32.ofNat v) x b) (D_X11_act h (some 81) (Int32.ofNat v) x' b') := by
  have ha : isY 1 := Or.inl rfl
  obtain ⟨n, e1, hn⟩ := Y.1.1
  have e0 : aI h 83 0 = Int32.ofNat n := by rw [c83, Y.2.1.1]; exact e1
  have nop : ∀ (rM : Int32) (A : Option (Int32 × z_H)) (rC : Int32), A = some (rC, g) → ¬ 0 ≤ rC → ¬ 0 ≤ rM → ACT g h m nu v A (some (rM, h)) := fun rM A rC eA q1 q2 => Or.inl ⟨g, h, rC, rM, hs, Tch_rfl _ g, OnM.rfl' ra.1, eA, rfl, q1, q2⟩
  have np0 := fun (y : Int32) (ny : ¬ (0 ≤ y.toInt ∧ y.toInt < n)) => isP0 ra.1 e0 hn ny
  rcases (show v = 0 ∨ v = 1 ∨ v = 2 ∨ v = 3 ∨ v = 4 by omega) with r | r | r | r | r <;> subst r
  · have := ex (by decide)
    subst this
    have eB : D_X11_act h (some 81) (Int32.ofNat 0) x' b' = D_X11_stepNow h (some 81) x' := by
      unfold D_X11_act
      rw [if_pos (by decide), o81 ra.1, Option.bind_some, bindid]
    rw [eB]
    rcases xc x' n (by omega) with ⟨p, hp, rfl⟩ | nx
    · exact act_pair2 hs Y dl lr c83 e1 hn (act := 0) (q := 0) (by decide) hp (fun z => by cases z) (fun z => by cases z) (m_stepNow ra e0 hn hp f8 hu)
    · have : D_X11_stepNow h (some 81) x' = some (-2, h) := by
        unfold D_X11_stepNow
        rw [o81 ra.1, Option.bind_some, np0 x' nx, Option.bind_some]
        dsimp only
        rw [if_pos rfl]
      rw [this]
      exact nop _ _ _ (carry_nop hs ha e1 hn (by decide) (fun z => by cases z) (fun z => by cases z) nx) (by decide) (by decide)
  · have := ex (by decide)
    subst this
    have := eb (Or.inl rfl)
    subst this
    have eB : D_X11_act h (some 81) (Int32.ofNat 1) x' b' = D_X11_turnNow h (some 81) x' b' := by
      unfold D_X11_act
      rw [if_neg (by decide), if_pos (by decide), o81 ra.1, Option.bind_some, bindid]
    rw [eB]
    rcases xc b' 2 (by decide) with ⟨q, hq, rfl⟩ | ny
    · rcases xc x' n (by omega) with ⟨p, hp, rfl⟩ | nx
      · exact act_pair2 hs Y dl lr c83 e1 hn (act := 1) (q := q) (by decide) hp (fun _ => ⟨hq, rfl⟩) (fun z => by cases z) (m_turnNow ra e0 hn hp hq f8 hu)
      · have : D_X11_turnNow h (some 81) x' (Int32.ofNat q) = some (-2, h) := by
          unfold D_X11_turnNow
          rw [din1 (C := 1) (N := 1) rfl (by omega) h (by decide), Option.bind_some]
          dsimp only
          rw [if_neg one_ne, o81 ra.1, Option.bind_some, np0 x' nx, Option.bind_some]
          dsimp only
          rw [if_pos rfl]
        rw [this]
        exact nop _ _ _ (carry_nop hs ha e1 hn (by decide) (fun _ => by rw [of_int (by omega)]; omega) (fun z => by cases z) nx) (by decide) (by decide)
    · have : D_X11_turnNow h (some 81) x' b' = some (-1, h) := by
        unfold D_X11_turnNow
        rw [din0 (C := 1) (N := 1) rfl ny, Option.bind_some]
        dsimp only
        rw [if_pos rfl]
      rw [this]
      exact nop _ _ _ (bad_side ny _ _ _ _) (by decide) (by decide)
  · have := ex (by decide)
    subst this
    have eB : D_X11_act h (some 81) (Int32.ofNat 2) x' b' = D_X11_pauseNow h (some 81) x' := by
      unfold D_X11_act
      rw [if_neg (by decide), if_neg (by decide), if_pos (by decide), o81 ra.1, Option.bind_some, bindid]
    rw [eB]
    rcases xc x' n (by omega) with ⟨p, hp, rfl⟩ | nx
    · exact act_pair2 hs Y dl lr c83 e1 hn (act := 2) (q := 0) (by decide) hp (fun z => by cases z) (fun z => by cases z) (m_pauseNow ra e0 hn hp f8 hu)
    · have : D_X11_pauseNow h (some 81) x' = some (-2, h) := by
        unfold D_X11_pauseNow
        rw [o81 ra.1, Option.bind_some, np0 x' nx, Option.bind_some]
        dsimp only
        rw [if_pos rfl]
      rw [this]
      exact nop _ _ _ (carry_nop hs ha e1 hn (by decide) (fun z => by cases z) (fun z => by cases z) nx) (by decide) (by decide)
  · have := ex (by decide)
    subst this
    have := eb (Or.inr rfl)
    subst this
    have eB : D_X11_act h (some 81) (Int32.ofNat 3) x' b' = D_X11_mendNow h (some 81) x' b' := by
      unfold D_X11_act
      rw [if_neg (by decide), if_neg (by decide), if_neg (by decide), if_pos (by decide), o81 ra.1, Option.bind_some, bindid]
    rw [eB]
    rcases xc b' 4 (by decide) with ⟨q, hq, rfl⟩ | ny
    · rcases xc x' n (by omega) with ⟨p, hp, rfl⟩ | nx
      · exact act_pair2 hs Y dl lr c83 e1 hn (act := 3) (q := q) (by decide) hp (fun z => by cases z) (fun _ => ⟨hq, rfl⟩) (m_mendNow ra e0 hn hp hq f8 hu)
      · have : D_X11_mendNow h (some 81) x' (Int32.ofNat q) = some (-2, h) := by
          unfold D_X11_mendNow
          rw [partM1 hq, Option.bind_some]
          dsimp only
          rw [if_neg one_ne, o81 ra.1, Option.bind_some, np0 x' nx, Option.bind_some]
          dsimp only
          rw [if_pos rfl]
        rw [this]
        exact nop _ _ _ (carry_nop hs ha e1 hn (by decide) (fun z => by cases z) (fun _ => by rw [of_int (by omega)]; omega) nx) (by decide) (by decide)
    · have : D_X11_mendNow h (some 81) x' b' = some (-1, h) := by
        unfold D_X11_mendNow
        rw [partM0 ny, Option.bind_some]
        dsimp only
        rw [if_pos rfl]
      rw [this]
      exact nop _ _ _ (bad_part ny _ _ _ _) (by decide) (by decide)
  · have eB : D_X11_act h (some 81) (Int32.ofNat 4) x' b' = D_X11_passNow h (some 81) := by
      unfold D_X11_act
      rw [if_neg (by decide), if_neg (by decide), if_neg (by decide), if_neg (by decide), o81 ra.1, Option.bind_some, bindid]
    rw [eB]
    obtain ⟨P1, P2⟩ := c_passD hs ha Y x b
    obtain ⟨M1, M2⟩ := m_passNow ra f8 hu
    rw [c83] at M1 M2
    obtain ⟨d, ed, hd⟩ := Y.row.2.2.1
    by_cases c : m 5 = 999
    · rw [M1 c]
      exact nop _ _ _ (P1 c) (by decide) (by decide)
    · obtain ⟨g1, s1, T1, Y1, r0, r1, r6, hr, dC⟩ := P2 c
      obtain ⟨h1, o1, a83, b8, a86, a87, dd⟩ := M2 c
      exact Or.inr ⟨g1, h1, _, _, s1, T1.mono (by decide), Y1, recOK_pass r0 r1 r6 ed hd, hr, fun i hi => upd_ne (by omega), dC, dd, o1, a83, b8, a86, a87⟩
end H3
