/-! the reference's acts -/
theorem setPF_s {m : Nat → Int32} {p i : Nat} {v c : Int32} : setPF m p i v c (m (14 + p)) = upd (upd m (20 + 4 * p + i) v) (8 + p) c := by
  funext k
  unfold setPF
  by_cases e : k = 14 + p
  · subst e
    by_cases e2 : 14 + p = 20 + 4 * p + i
    · omega
    · rw [upd_eq, upd_ne (by omega), upd_ne e2]
  · rw [upd_ne e]
theorem setPF_t {m : Nat → Int32} {p i : Nat} {v y : Int32} : setPF m p i v (m (8 + p)) y = upd (upd m (20 + 4 * p + i) v) (14 + p) y := by
  have : upd (upd m (20 + 4 * p + i) v) (8 + p) (m (8 + p)) = upd m (20 + 4 * p + i) v := by
    funext k
    by_cases e : k = 8 + p
    · subst e
      rw [upd_eq, upd_ne (by omega)]
    · rw [upd_ne e]
  unfold setPF
  rw [this]
section MA
variable {g : z_H} {law : Option Nat} {T : LawT}
theorem w83_m (hs : Sh g) (f : Nat → Int32) : OnM [81, 83, 99, 101] [34, 38, 39, 40] g (wA g 83 f) := (w83_on hs [81, 99, 101] [34, 38, 39, 40] f).mono (by decide) (by decide)
theorem m_wear (hs : Sh g) {p i w v : Nat} (hp : p < 6) (hi : i < 4) (ew : aI g 83 (20 + 4 * p + i) = Int32.ofNat w) (hw : w ≤ 99) (hv : v ≤ 99) : D_X11_wear g (some 81) (Int32.ofNat p) (Int32.ofNat i) (Int32.ofNat v) = some (wA g 83 (upd (aI g 83) (20 + 4 * p + i) (minV (aI g 83 (20 + 4 * p + i) + Int32.ofNat v)))) := by
  have b : ∀ x : Int64, D_X11_bounded g x 0 99 = some (clampV 99 x, g) := fun x => d_bounded (g := g) x (hi := 99) (by decide)
  have ei : (20 : Int32) + 4 * Int32.ofNat p + Int32.ofNat i = Int32.ofNat (20 + 4 * p + i) := by rw [show (20 : Int32) = Int32.ofNat 20 from rfl, show (4 : Int32) = Int32.ofNat 4 from rfl, sc_mul, sc_add, sc_add]
  unfold D_X11_wear
  rw [s_gQ (r := 83) hs rfl rfl, Option.bind_some, s_ob hs (ci := 11) rfl, Option.bind_some, wornM hs hp hi, Option.bind_some]
  dsimp only
  rw [b, Option.bind_some]
  dsimp only
  rw [ei, w83 hs (by omega), Option.bind_some, ew, sc_add, clampN_of (by omega) (by decide), minV_of (by omega)]
theorem RA.at (H : RA g law T) {p : Nat} (hp : p < 6) : ∃ c y, c < 25 ∧ y < 4 ∧ aI g 83 (8 + p) = Int32.ofNat c ∧ aI g 83 (14 + p) = Int32.ofNat y ∧ tn (aI g 83 (8 + p)) = c ∧ tn (aI g 83 (14 + p)) = y := by
  obtain ⟨⟨c, ec, hc⟩, ⟨y, ey, hy⟩, -⟩ := H.2.2.1.1 p hp
  exact ⟨c, y, by omega, by omega, ec, ey, by rw [ec]; exact tn_of (by omega), by rw [ey]; exact tn_of (by omega)⟩
theorem RA.worn (H : RA g law T) {p i : Nat} (hp : p < 6) (hi : i < 4) : ∃ w, w ≤ 99 ∧ aI g 83 (20 + 4 * p + i) = Int32.ofNat w := by
  obtain ⟨w, e, hw⟩ := H.2.2.1.2.1 (4 * p + i) (by omega)
  rw [← Nat.add_assoc] at e
  exact ⟨w, hw, e⟩
/-- what a part is worn by one act more -/
def wornV (T : LawT) (m : Nat → Int32) (p i : Nat) : Int32 := minV (m (20 + 4 * p + i) + wearsV T (WA m p (Int32.ofNat i) (m (20 + 4 * p + i)) (tn (m (8 + p))) (tn (m (14 + p)))))
theorem m_wearIt (H : RA g law T) {p i : Nat} (hp : p < 6) (hi : i < 4) : ∃ g1 g', OnM [81, 99, 101] [34, 38, 39, 40] g g1 ∧ aI g1 83 = aI g 83 ∧ OnM [81, 83, 99, 101] [34, 38, 39, 40] g g' ∧ aI g' 83 = upd (aI g 83) (20 + 4 * p + i) (wornV T (aI g 83) p i) ∧ ∃ v, D_X11_wearsNow g (some 81) (Int32.ofNat p) (Int32.ofNat i) = some (v, g1) ∧ D_X11_wear g1 (some 81) (Int32.ofNat p) (Int32.ofNat i) v = some g' := by
  obtain ⟨c, y, hc, hy, e8, e14, t8, t14⟩ := H.at hp
  obtain ⟨w, hw, ew⟩ := H.worn hp hi
  obtain ⟨g1, o1, d1⟩ := mI_wearsNow H hp hi e8 e14
  have c83 : aI g1 83 = aI g 83 := cell_aI (o1.2.1.c (by decide))
  obtain ⟨v, hv, ev⟩ := wears_nb T (WA (aI g 83) p (Int32.ofNat i) (aI g 83 (20 + 4 * p + i)) c y)
  have dw := m_wear (v := v) o1.1 hp hi (by rw [c83]; exact ew) hw (by omega)
  refine ⟨g1, _, o1, c83, (o1.mono (by decide) (by decide)).trans (w83_m o1.1 _), ?_, _, d1, by rw [ev]; exact dw⟩
  rw [aI_wA_eq o1.1 rfl, c83]
  unfold wornV
  rw [t8, t14, ev]
theorem m_stepIt (H : RA g law T) {p : Nat} (hp : p < 6) (to : Int32) : ∃ g', OnM [81, 83, 99, 101] [34, 38, 39, 40] g g' ∧ aI g' 83 = setPF (aI g 83) p 0 (wornV T (aI g 83) p 0) to (aI g 83 (14 + p)) ∧ D_X11_stepIt g (some 81) (Int32.ofNat p) to = some g' := by
  obtain ⟨g1, g2, o1, c1, o2, c2, v, d1, d2⟩ := m_wearIt H hp (i := 0) (by decide)
  have d1' : D_X11_wearsNow g (some 81) (Int32.ofNat p) 0 = some (v, g1) := d1
  have d2' : D_X11_wear g1 (some 81) (Int32.ofNat p) 0 v = some g2 := d2
  refine ⟨wA g2 83 (upd (aI g2 83) (8 + p) to), o2.trans (w83_m o2.1 _), ?_, ?_⟩
  · rw [aI_wA_eq o2.1 rfl, c2, setPF_s]
  · unfold D_X11_stepIt
    rw [s_ob H.1 (ci := 11) rfl, Option.bind_some, d1', Option.bind_some]
    dsimp only
    rw [s_ob o1.1 (ci := 11) rfl, Option.bind_some, d2', Option.bind_some, s_gQ (r := 83) o2.1 rfl rfl, Option.bind_some, show (8 : Int32) + Int32.ofNat p = Int32.ofNat (8 + p) from sc_add 8 p, w83 o2.1 (by omega), Option.bind_some]
theorem turnedM (h : z_H) (w s : Int32) : D_X11_turned h w s = some (trnV w s, h) := by
  unfold D_X11_turned D_X11_turned_10 trnV
  by_cases c : s = 0
  · rw [if_pos c, if_pos c]
  · rw [if_neg c, if_neg c]
theorem m_turnIt (H : RA g law T) {p j : Nat} (hp : p < 6) (hj : j < 2) : ∃ g', OnM [81, 83, 99, 101] [34, 38, 39, 40] g g' ∧ aI g' 83 = setPF (aI g 83) p (2 + j) (wornV T (aI g 83) p (2 + j)) (aI g 83 (8 + p)) (trnV (aI g 83 (14 + p)) (Int32.ofNat j)) ∧ D_X11_turnIt g (some 81) (Int32.ofNat p) (Int32.ofNat j) = some g' := by
  obtain ⟨g1, g2, o1, c1, o2, c2, v, d1, d2⟩ := m_wearIt H hp (i := 2 + j) (by omega)
  have e14 : aI g2 83 (14 + p) = aI g 83 (14 + p) := by rw [c2, upd_ne (by omega)]
  have i14 : (14 : Int32) + Int32.ofNat p = Int32.ofNat (14 + p) := sc_add 14 p
  have d9 : D_X11_turnIt_9 g (some 81) (Int32.ofNat p) (Int32.ofNat j) (Int32.ofNat (2 + j)) = some (wA g2 83 (upd (aI g2 83) (14 + p) (trnV (aI g 83 (14 + p)) (Int32.ofNat j)))) := by
    unfold D_X11_turnIt_9
    rw [s_ob H.1 (ci := 11) rfl, Option.bind_some, d1, Option.bind_some]
    dsimp only
    rw [s_ob o1.1 (ci := 11) rfl, Option.bind_some, d2, Option.bind_some, s_gQ (r := 83) o2.1 rfl rfl, Option.bind_some, Option.bind_some, i14, m83 o2.1 (by omega), Option.bind_some, e14, turnedM, Option.bind_some]
    dsimp only
    rw [w83 o2.1 (by omega), Option.bind_some]
  refine ⟨wA g2 83 (upd (aI g2 83) (14 + p) (trnV (aI g 83 (14 + p)) (Int32.ofNat j))), o2.trans (w83_m o2.1 _), ?_, ?_⟩
  · rw [aI_wA_eq o2.1 rfl, c2, setPF_t]
  · unfold D_X11_turnIt
    have : j = 0 ∨ j = 1 := by omega
    rcases this with rfl | rfl
    · rw [if_pos (by decide)]; exact d9
    · rw [if_neg (by decide)]; exact d9
theorem m_pauseIt (H : RA g law T) {p : Nat} (hp : p < 6) : ∃ g1 g' v, OnM [81, 83, 99, 101] [34, 38, 39, 40] g g' ∧ aI g' 83 = setPF (aI g 83) p 1 (wornV T (aI g 83) p 1) (aI g 83 (8 + p)) (aI g 83 (14 + p)) ∧ Sh g1 ∧ D_X11_wearsNow g (some 81) (Int32.ofNat p) 1 = some (v, g1) ∧ D_X11_wear g1 (some 81) (Int32.ofNat p) 1 v = some g' := by
  obtain ⟨g1, g2, o1, c1, o2, c2, v, d1, d2⟩ := m_wearIt H hp (i := 1) (by omega)
  exact ⟨g1, g2, v, o2, by rw [c2, setPF_w _ hp (by decide)], o1.1, d1, d2⟩
/-- an act of the reference, with what is kept to undo it -/
def RefAct (g : z_H) (T : LawT) (nu act p j : Nat) (D : Option (Int32 × z_H)) : Prop := (actN T (aI g 83) act p j = none → ∃ g', OnM [81, 99, 101] [34, 38, 39, 40] g g' ∧ D = some (-3, g')) ∧ ∀ r m', actN T (aI g 83) act p j = some (r, m') → ∃ g', OnM [81, 83, 86, 87, 99, 101] [8, 34, 38, 39, 40] g g' ∧ aI g' 83 = m' ∧ fI g' 81 8 = Int32.ofNat (nxN nu) ∧ aI g' 86 = nxU nu (aI g 86) (fun i => aI g 83 (5 + i)) ∧ aI g' 87 = nxM nu (aI g 87) (Int32.ofNat act) ∧ D = some (r, g')
theorem on_seq {g1 g2 g3 : z_H} {nu : Nat} (o1 : OnM [81, 86, 87] [8] g1 g2) (f8 : fI g2 81 8 = Int32.ofNat nu) (o2 : OnM [81, 83, 99, 101] [34, 38, 39, 40] g2 g3) : OnM [81, 83, 86, 87, 99, 101] [8, 34, 38, 39, 40] g1 g3 ∧ fI g3 81 8 = Int32.ofNat nu ∧ aI g3 86 = aI g2 86 ∧ aI g3 87 = aI g2 87 :=
  ⟨(o1.mono (by decide) (by decide)).trans (o2.mono (by decide) (by decide)), by rw [(o2.2.2 8 (by decide)).1]; exact f8, cell_aI (o2.2.1.c (by decide)), cell_aI (o2.2.1.c (by decide))⟩
theorem m_stepNow (H : RA g law T) {n nu p j : Nat} (e0 : aI g 83 0 = Int32.ofNat n) (hn : n ≤ 6) (hp : p < n) (eu : fI g 81 8 = Int32.ofNat nu) (hu : nu ≤ 16) : RefAct g T nu 0 p j (D_X11_stepNow g (some 81) (Int32.ofNat p)) := by
  have hp6 : p < 6 := by omega
  obtain ⟨c, y, hc, hy, e8, e14, t8, t14⟩ := H.at hp6
  obtain ⟨g1, o1, d1⟩ := mI_stepOf H hp6 hc hy
  have c1 : aI g1 83 = aI g 83 := cell_aI (o1.2.1.c (by decide))
  have hd : D_X11_stepNow g (some 81) (Int32.ofNat p) = (if targV T (aI g 83) p c y = -1 then some ((-3:Int32), g1) else (z_ob 11 g1 (some 81)).bind fun _ => (D_X11_remember g1 (some 81) (0:Int32)).bind fun p2455 => (z_ob 11 p2455 (some 81)).bind fun _ => (D_X11_stepIt p2455 (some 81) (Int32.ofNat p) (targV T (aI g 83) p c y)).bind fun p2457 => some (targV T (aI g 83) p c y, p2457)) := by
    unfold D_X11_stepNow
    rw [s_ob H.1 (ci := 11) rfl, Option.bind_some, isP1 H.1 e0 hn hp, Option.bind_some]
    dsimp only
    rw [if_neg one_ne, s_gQ (r := 83) H.1 rfl rfl, Option.bind_some, (m_at H hp6).1, Option.bind_some, Option.bind_some, (m_at H hp6).2, Option.bind_some, s_ob H.1 (ci := 11) rfl, Option.bind_some, e8, e14, d1, Option.bind_some]
  unfold RefAct actN
  rw [if_pos rfl, t8, t14, hd]
  by_cases q : targV T (aI g 83) p c y = -1
  · rw [if_pos q, if_pos q]
    exact ⟨fun _ => ⟨g1, o1, rfl⟩, fun r m' e => by cases e⟩
  · rw [if_neg q, if_neg q]
    refine ⟨fun e => (by cases e), fun r m' e => ?_⟩
    cases e
    have H1 := H.on o1 (by decide) (by decide) (by decide)
    obtain ⟨g2, o2, f8, a86, a87, d2⟩ := m_remember o1.1 (n := nu) (by rw [(o1.2.2 8 (by decide)).1]; exact eu) hu 0
    have H2 := H1.on o2 (by decide) (by decide) (by decide)
    have c2 : aI g2 83 = aI g 83 := by rw [cell_aI (o2.2.1.c (by decide)), c1]
    obtain ⟨g3, o3, a83, d3⟩ := m_stepIt H2 hp6 (targV T (aI g 83) p c y)
    obtain ⟨o4, f8', b86, b87⟩ := on_seq o2 f8 o3
    refine ⟨g3, (o1.mono (by decide) (by decide)).trans o4, ?_, f8', ?_, ?_, ?_⟩
    · rw [a83, c2]
      unfold wornV
      rw [t8, t14]
    · rw [b86, a86, cell_aI (o1.2.1.c (by decide)), c1]
    · rw [b87, a87, cell_aI (o1.2.1.c (by decide))]
      rfl
    · rw [s_ob o1.1 (ci := 11) rfl, Option.bind_some, d2, Option.bind_some, s_ob o2.1 (ci := 11) rfl, Option.bind_some, d3, Option.bind_some]
theorem m_turnNow (H : RA g law T) {n nu p j : Nat} (e0 : aI g 83 0 = Int32.ofNat n) (hn : n ≤ 6) (hp : p < n) (hj : j < 2) (eu : fI g 81 8 = Int32.ofNat nu) (hu : nu ≤ 16) : RefAct g T nu 1 p j (D_X11_turnNow g (some 81) (Int32.ofNat p) (Int32.ofNat j)) := by
  have hp6 : p < 6 := by omega
  obtain ⟨c, y, hc, hy, e8, e14, t8, t14⟩ := H.at hp6
  obtain ⟨g2, o2, f8, a86, a87, d2⟩ := m_remember H.1 (n := nu) eu hu 1
  have H2 := H.on o2 (by decide) (by decide) (by decide)
  have c2 : aI g2 83 = aI g 83 := cell_aI (o2.2.1.c (by decide))
  obtain ⟨g3, o3, a83, d3⟩ := m_turnIt H2 hp6 hj
  obtain ⟨o4, f8', b86, b87⟩ := on_seq o2 f8 o3
  unfold RefAct actN
  rw [if_neg (by decide), if_pos rfl, t8, t14]
  refine ⟨fun e => (by cases e), fun r m' e => ?_⟩
  cases e
  refine ⟨g3, o4, ?_, f8', ?_, ?_, ?_⟩
  · rw [a83, c2]
    unfold wornV
    rw [t8, t14]
  · rw [b86, a86]
  · rw [b87, a87]
    rfl
  · unfold D_X11_turnNow
    rw [din1 (C := 1) (N := 1) rfl (by omega) g (by decide), Option.bind_some]
    dsimp only
    rw [if_neg one_ne, s_ob H.1 (ci := 11) rfl, Option.bind_some, isP1 H.1 e0 hn hp, Option.bind_some]
    dsimp only
    rw [if_neg one_ne, s_ob H.1 (ci := 11) rfl, Option.bind_some, d2, Option.bind_some, s_ob o2.1 (ci := 11) rfl, Option.bind_some, d3, Option.bind_some, s_gQ (r := 83) o3.1 rfl rfl, Option.bind_some, show (14 : Int32) + Int32.ofNat p = Int32.ofNat (14 + p) from sc_add 14 p, m83 o3.1 (by omega), Option.bind_some, a83, setPF_y, c2]
theorem m_pauseNow (H : RA g law T) {n nu p j : Nat} (e0 : aI g 83 0 = Int32.ofNat n) (hn : n ≤ 6) (hp : p < n) (eu : fI g 81 8 = Int32.ofNat nu) (hu : nu ≤ 16) : RefAct g T nu 2 p j (D_X11_pauseNow g (some 81) (Int32.ofNat p)) := by
  have hp6 : p < 6 := by omega
  obtain ⟨c, y, hc, hy, e8, e14, t8, t14⟩ := H.at hp6
  obtain ⟨g2, o2, f8, a86, a87, d2⟩ := m_remember H.1 (n := nu) eu hu 2
  have H2 := H.on o2 (by decide) (by decide) (by decide)
  have c2 : aI g2 83 = aI g 83 := cell_aI (o2.2.1.c (by decide))
  obtain ⟨gx, g3, v, o3, a83, sx, d3, d4⟩ := m_pauseIt H2 hp6
  obtain ⟨o4, f8', b86, b87⟩ := on_seq o2 f8 o3
  have wM := wornM o3.1 hp6 (i := 1) (by decide)
  have wM' : D_X11_wornOf g3 (some 81) (Int32.ofNat p) 1 = _ := wM
  unfold RefAct actN
  rw [if_neg (by decide), if_neg (by decide), if_pos rfl, t8, t14]
  refine ⟨fun e => (by cases e), fun r m' e => ?_⟩
  cases e
  refine ⟨g3, o4, ?_, f8', ?_, ?_, ?_⟩
  · rw [a83, c2]
    unfold wornV
    rw [t8, t14]
  · rw [b86, a86]
  · rw [b87, a87]
    rfl
  · unfold D_X11_pauseNow
    rw [s_ob H.1 (ci := 11) rfl, Option.bind_some, isP1 H.1 e0 hn hp, Option.bind_some]
    dsimp only
    rw [if_neg one_ne, s_ob H.1 (ci := 11) rfl, Option.bind_some, d2, Option.bind_some, s_ob o2.1 (ci := 11) rfl, Option.bind_some, d3, Option.bind_some]
    dsimp only
    rw [s_ob sx (ci := 11) rfl, Option.bind_some, d4, Option.bind_some, s_ob o3.1 (ci := 11) rfl, Option.bind_some, wM', Option.bind_some, a83, setPF_v hp6, c2]
    unfold wornV
    rw [t8, t14]
theorem m_mendNow (H : RA g law T) {n nu p j : Nat} (e0 : aI g 83 0 = Int32.ofNat n) (hn : n ≤ 6) (hp : p < n) (hj : j < 4) (eu : fI g 81 8 = Int32.ofNat nu) (hu : nu ≤ 16) : RefAct g T nu 3 p j (D_X11_mendNow g (some 81) (Int32.ofNat p) (Int32.ofNat j)) := by
  have hp6 : p < 6 := by omega
  obtain ⟨c, y, hc, hy, e8, e14, t8, t14⟩ := H.at hp6
  obtain ⟨g1, o1, d1⟩ := mI_leaves H hp6 hj e8 e14
  have c1 : aI g1 83 = aI g 83 := cell_aI (o1.2.1.c (by decide))
  obtain ⟨g2, o2, f8, a86, a87, d2⟩ := m_remember o1.1 (n := nu) (by rw [(o1.2.2 8 (by decide)).1]; exact eu) hu 3
  have c2 : aI g2 83 = aI g 83 := by rw [cell_aI (o2.2.1.c (by decide)), c1]
  have ei : (20 : Int32) + 4 * Int32.ofNat p + Int32.ofNat j = Int32.ofNat (20 + 4 * p + j) := by rw [show (20 : Int32) = Int32.ofNat 20 from rfl, show (4 : Int32) = Int32.ofNat 4 from rfl, sc_mul, sc_add, sc_add]
  have hd : D_X11_mendNow g (some 81) (Int32.ofNat p) (Int32.ofNat j) = (if aI g 83 (20 + 4 * p + j) = 0 then some ((-3:Int32), g) else some (aI g 83 (20 + 4 * p + j), wA g2 83 (upd (aI g2 83) (20 + 4 * p + j) (leavesV T (WA (aI g 83) p (Int32.ofNat j) (aI g 83 (20 + 4 * p + j)) c y))))) := by
    unfold D_X11_mendNow
    rw [partM1 hj, Option.bind_some]
    dsimp only
    rw [if_neg one_ne, s_ob H.1 (ci := 11) rfl, Option.bind_some, isP1 H.1 e0 hn hp, Option.bind_some]
    dsimp only
    rw [if_neg one_ne, s_ob H.1 (ci := 11) rfl, Option.bind_some, wornM H.1 hp6 hj, Option.bind_some]
    dsimp only
    by_cases q : aI g 83 (20 + 4 * p + j) = 0
    · rw [if_pos q, if_pos q]
    · rw [if_neg q, if_neg q, s_ob H.1 (ci := 11) rfl, Option.bind_some, d1, Option.bind_some]
      dsimp only
      rw [s_ob o1.1 (ci := 11) rfl, Option.bind_some, d2, Option.bind_some, s_gQ (r := 83) o2.1 rfl rfl, Option.bind_some, ei, w83 o2.1 (by omega), Option.bind_some]
  unfold RefAct actN
  rw [if_neg (by decide), if_neg (by decide), if_neg (by decide), t8, t14, hd]
  by_cases q : aI g 83 (20 + 4 * p + j) = 0
  · rw [if_pos q, if_pos q]
    exact ⟨fun _ => ⟨g, OnM.rfl' H.1, rfl⟩, fun r m' e => by cases e⟩
  · rw [if_neg q, if_neg q]
    refine ⟨fun e => (by cases e), fun r m' e => ?_⟩
    cases e
    have o3 : OnM [81, 83, 99, 101] [34, 38, 39, 40] g2 (wA g2 83 (upd (aI g2 83) (20 + 4 * p + j) (leavesV T (WA (aI g 83) p (Int32.ofNat j) (aI g 83 (20 + 4 * p + j)) c y)))) := w83_m o2.1 _
    obtain ⟨o4, f8', b86, b87⟩ := on_seq o2 f8 o3
    refine ⟨_, (o1.mono (by decide) (by decide)).trans o4, ?_, f8', ?_, ?_, rfl⟩
    · rw [aI_wA_eq o2.1 rfl, c2, setPF_w _ hp6 hj]
    · rw [b86, a86, cell_aI (o1.2.1.c (by decide)), c1]
    · rw [b87, a87, cell_aI (o1.2.1.c (by decide))]
      rfl
theorem m_passNow (H : RA g law T) {nu : Nat} (eu : fI g 81 8 = Int32.ofNat nu) (hu : nu ≤ 16) : (aI g 83 5 = 999 → D_X11_passNow g (some 81) = some (-3, g)) ∧ (aI g 83 5 ≠ 999 → ∃ g', OnM [81, 83, 86, 87, 99, 101] [8, 34, 38, 39, 40] g g' ∧ aI g' 83 = upd (aI g 83) 5 (aI g 83 5 + 1) ∧ fI g' 81 8 = Int32.ofNat (nxN nu) ∧ aI g' 86 = nxU nu (aI g 86) (fun i => aI g 83 (5 + i)) ∧ aI g' 87 = nxM nu (aI g 87) 4 ∧ D_X11_passNow g (some 81) = some (aI g 83 5 + 1, g')) := by
  have r5 : ∀ {h : z_H}, Sh h → z_aI .int h (some 83) 5 = some (aI h 83 5) := fun hs => m83 (i := 5) hs (by decide)
  obtain ⟨g2, o2, f8, a86, a87, d2⟩ := m_remember H.1 (n := nu) eu hu 4
  have c2 : aI g2 83 = aI g 83 := cell_aI (o2.2.1.c (by decide))
  have w5 : ∀ v, z_sI g2 (some 83) 5 v = some (wA g2 83 (upd (aI g2 83) 5 v)) := fun v => w83 (i := 5) o2.1 (by decide) v
  unfold D_X11_passNow
  rw [s_gQ (r := 83) H.1 rfl rfl, Option.bind_some, r5 H.1, Option.bind_some]
  refine ⟨fun e => by rw [if_pos e], fun e => ?_⟩
  have o3 : OnM [81, 83, 99, 101] [34, 38, 39, 40] g2 (wA g2 83 (upd (aI g2 83) 5 (aI g 83 5 + 1))) := w83_m o2.1 _
  obtain ⟨o4, f8', b86, b87⟩ := on_seq o2 f8 o3
  refine ⟨_, o4, ?_, f8', ?_, ?_, ?_⟩
  · rw [aI_wA_eq o2.1 rfl, c2]
  · rw [b86, a86]
  · rw [b87, a87]
  · rw [if_neg e, s_ob H.1 (ci := 11) rfl, Option.bind_some, d2, Option.bind_some, s_gQ (r := 83) o2.1 rfl rfl, Option.bind_some, r5 o2.1, Option.bind_some, c2, w5, Option.bind_some, c2, s_gQ (r := 83) (Sh_wA o2.1 rfl _) rfl rfl, Option.bind_some, r5 (Sh_wA o2.1 rfl _), Option.bind_some, aI_wA_eq o2.1 rfl, upd_eq]
end MA
