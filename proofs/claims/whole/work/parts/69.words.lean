/-! THE WORDS OF A LAW, and what a law tells: one value for both -/
section WD
variable {op ar cl w w' : Nat → Int32}
theorem stC_cong {i : Nat} (e : op i = 1 → w (tn (ar i)) = w' (tn (ar i))) (s : List Int64) : stC op ar w i s = stC op ar w' i s := by
  unfold stC
  by_cases c0 : op i = 0
  · rw [if_pos c0, if_pos c0]
  · rw [if_neg c0, if_neg c0]
    by_cases c1 : op i = 1
    · rw [if_pos c1, if_pos c1, e c1]
    · rw [if_neg c1, if_neg c1]
theorem runC_cong {hi : Nat} (e : ∀ i, i < hi → op i = 1 → w (tn (ar i)) = w' (tn (ar i))) : ∀ (k i : Nat) (s : List Int64), runC op ar w hi k i s = runC op ar w' hi k i s := by
  intro k
  induction k with
  | zero => intro i s; rfl
  | succ k ih =>
    intro i s
    unfold runC
    by_cases c : hi ≤ i
    · rw [if_pos c, if_pos c]
    · rw [if_neg c, if_neg c, stC_cong (e i (by omega))]
      congr 1
      funext p
      exact ih _ _
theorem evC_cong {n lo hi : Nat} (hn : hi ≤ n) (e : ∀ i, i < n → op i = 1 → w (tn (ar i)) = w' (tn (ar i))) : evC op ar w lo hi = evC op ar w' lo hi := runC_cong (fun i h => e i (by omega)) _ _ _
theorem lastC_cong {n cc : Nat} (co : clOK n cc cl) (hn : n < 2 ^ 31) (e : ∀ i, i < n → op i = 1 → w (tn (ar i)) = w' (tn (ar i))) (verb : Int32) : ∀ c, c ≤ cc → lastC op ar cl w verb c = lastC op ar cl w' verb c := by
  intro c
  induction c with
  | zero => intro _; rfl
  | succ c ih =>
    intro hc
    obtain ⟨b2, b3, b4, b5⟩ := co c (by omega)
    have eh : hC op ar cl w c = hC op ar cl w' c := by
      unfold hC
      rw [evC_cong (b5.tn hn).2 e, evC_cong (b3.tn hn).2 e]
    unfold lastC
    rw [eh, ih (by omega)]
end WD
/-- a law that is asked: none, or a text with its row -/
abbrev LawT : Type := Option (Nat × Nat × (Nat → Int32) × (Nat → Int32) × (Nat → Int32))
def tell (T : LawT) (head : Nat) (w : Nat → Int32) : Option Int64 := match T with
  | none => none
  | some (_, c, op, ar, cl) => lastC op ar cl w (Int32.ofNat (5 + head)) c
def LawR (g : z_H) (m : Nat → Int32) (k : Int32) (law : Option Nat) (T : LawT) : Prop := (k = -1 ∧ law = none ∧ T = none) ∨ ∃ (q t n c : Nat) (op ar cl : Nat → Int32), k = Int32.ofNat q ∧ q < 6 ∧ law = some t ∧ T = some (n, c, op, ar, cl) ∧ Txt g t n c op ar cl ∧ LR n c op ar cl (fun i => m (62 + 900 * q + i))
def WL (p load part worn cell way day mood : Int32) (k : Nat) : Int32 := [p, load, part, worn, cell - cell / 5 * 5, cell / 5, way, day, mood].getD k 0
section TL
variable {g : z_H} {m w : Nat → Int32} {n c : Nat} {op ar cl : Nat → Int32}
theorem LR.wf (H : LR n c op ar cl m) : wfC n op ar := by
  obtain ⟨-, -, f, C, -⟩ := H
  exact fun i hi => code_wf C hi
theorem LR.n4 (H : LR n c op ar cl m) : n ≤ 400 := by
  obtain ⟨-, -, f, C, -⟩ := H
  exact C.1
theorem LR_cl (H : LR n c op ar cl m) : clOK n c cl := by
  obtain ⟨-, -, f, C, cls⟩ := H
  intro k hk
  obtain ⟨v, s0, s1, s2, hv, l0, l2, l3, l4, l5, sn, m0, m3, m4, m5, m6, v2, vn, st⟩ := cls k hk
  have s12 : s1 ≤ s2 := st.elim (fun z => by omega) (fun z => z.1.1)
  have s01 : s0 ≤ s1 := Classical.byCases (fun z : v = 2 => by have := v2 z; omega) (fun z => (vn z).1)
  exact ⟨⟨s0, l2, by omega⟩, ⟨s1, l3, by omega⟩, ⟨s1, l4, by omega⟩, ⟨s2, l5, by omega⟩⟩
theorem LR.w9 (H : LR n c op ar cl m) {i : Nat} (hi : i < n) (e : op i = 1) : tn (ar i) < 9 := by
  obtain ⟨-, -, f, C, -⟩ := H
  obtain ⟨P, -⟩ := C.2.2 i hi
  rcases P with ⟨q, -⟩ | ⟨-, -, v, hv, ea, ek⟩ | ⟨-, q, -⟩ | ⟨-, q, -⟩ | ⟨q, -⟩ | ⟨q, -⟩ | ⟨o, h5, h12, q, -⟩
  · rw [e] at q; exact absurd q (by decide)
  · rw [ea, tn_of (by omega)]; exact hv
  · cases q
  · cases q
  · rw [e] at q; exact absurd q (by decide)
  · rcases q with ⟨q, -⟩ | ⟨q, -⟩ <;> rw [e] at q <;> exact absurd q (by decide)
  · rw [e] at q; exact absurd q (op_not (c := 1) h5 h12 (by decide))
theorem Txt.C {t : Nat} (X : Txt g t n c op ar cl) : TxC g t (t + 1) (t + 2) (t + 3) n n (6 * c) c op ar cl := by
  obtain ⟨a1, a2, a3, a4, a5, a6, a7, a8⟩ := X
  refine ⟨⟨by omega, by omega, by omega, by omega⟩, a5, a6, a7, a8, ⟨Nat.le_refl _, a3⟩, ⟨Nat.le_refl _, a4, by omega⟩, ?_⟩
  unfold fre
  simp only [List.all_cons, List.all_nil, List.contains_cons, List.contains_nil, Bool.and_true, Bool.or_false, Bool.and_eq_true, Bool.not_eq_true', Bool.or_eq_false_iff, beq_eq_false_iff_ne]
  omega
/-- the class: what the last clause of a head that holds comes to -/
theorem c_tell {k : Int32} {law : Option Nat} {T : LawT} (hs : Sh g) (lr : LawR g m k law T) (hw : ∀ k, k < 9 → aI g 30 k = w k) (head : Nat) :
    (tell T head w = none → ∃ g', Sh g' ∧ Tch [29, 31] g g' ∧ D_X1_lastThatHolds g (some 29) law (Int32.ofNat (5 + head)) = some (-1, g')) ∧
    ∀ v, tell T head w = some v → ∃ g' x, Sh g' ∧ Tch [29, 31] g g' ∧ fI g' 29 2 = v.toInt32 ∧ x ≠ -1 ∧ D_X1_lastThatHolds g (some 29) law (Int32.ofNat (5 + head)) = some (x, g') := by
  rcases lr with ⟨-, rfl, rfl⟩ | ⟨q, t, n, c, op, ar, cl, -, -, rfl, rfl, X, R⟩
  · refine ⟨fun _ => ⟨g, hs, Tch_rfl _ g, ?_⟩, fun v q => (by cases q)⟩
    unfold D_X1_lastThatHolds
    rw [if_pos rfl]
  · have e : tell (some (n, c, op, ar, cl)) head w = lastC op ar cl (aI g 30) (Int32.ofNat (5 + head)) c := lastC_cong (LR_cl R) (by have := R.n4; omega) (fun i hi e => (hw _ (R.w9 hi e)).symm) _ c (Nat.le_refl _)
    rw [e]
    exact c_lastT hs X.C R.wf (LR_cl R) (fun _ _ => rfl) _
def stM (g : z_H) (k : Nat) (v : Int64) : z_H := wJ g 99 (vp_updL (aJ g 99) k v)
theorem Sh_stM (hs : Sh g) (k : Nat) (v : Int64) : Sh (stM g k v) := Sh_wJ hs rfl _
theorem stM_a (hs : Sh g) (k : Nat) (v : Int64) : aJ (stM g k v) 99 = vp_updL (aJ g 99) k v := aJ_wJ_eq hs rfl _
theorem stM_on {ks : List Nat} (hs : Sh g) (k : Nat) (v : Int64) : OnM [81, 99, 101] ks g (stM g k v) := ⟨Sh_stM hs k v, Tch_wJ (Tch_rfl _ g) (by decide) _, fun _ _ => ⟨fI_wJ _ _ _ _, fJ_wJ _ _ _ _⟩⟩
theorem m_set (hs : Sh g) {k : Nat} (hk : k < 13) (v : Int64) : z_sJ g (some 99) (Int32.ofNat k) v = some (stM g k v) := by
  have tl : (Int32.ofNat k).toNatClampNeg = k := tn_of (by omega)
  rw [s_sJ (n := 13) hs rfl, iW_ofNat hk (by decide), tl, stM]
theorem m_sets (hs : Sh g) (v : Int64) : z_sJ g (some 99) 1 v = some (stM g 1 v) ∧ z_sJ g (some 99) 2 v = some (stM g 2 v) ∧ z_sJ g (some 99) 3 v = some (stM g 3 v) ∧ z_sJ g (some 99) 4 v = some (stM g 4 v) ∧ z_sJ g (some 99) 5 v = some (stM g 5 v) ∧ z_sJ g (some 99) 6 v = some (stM g 6 v) ∧ z_sJ g (some 99) 7 v = some (stM g 7 v) ∧ z_sJ g (some 99) 8 v = some (stM g 8 v) ∧ z_sJ g (some 99) 9 v = some (stM g 9 v) :=
  ⟨m_set (k := 1) hs (by decide) v, m_set (k := 2) hs (by decide) v, m_set (k := 3) hs (by decide) v, m_set (k := 4) hs (by decide) v, m_set (k := 5) hs (by decide) v, m_set (k := 6) hs (by decide) v, m_set (k := 7) hs (by decide) v, m_set (k := 8) hs (by decide) v, m_set (k := 9) hs (by decide) v⟩
theorem m83 (hs : Sh g) {i : Nat} (hi : i < 5462) : z_aI .int g (some 83) (Int32.ofNat i) = some (aI g 83 i) := by
  rw [s_aI (n := 5462) hs (Or.inl rfl) rfl, iR_ofNat hi (by decide)]
/-- the reference: what a head tells -/
theorem m_tells {k : Int32} {law : Option Nat} {T : LawT} (hs : Sh g) (o0 : fI g 81 20 = 0) (n0 : nb (aI g 83 0) 6) (e3 : aI g 83 3 = k) (lr : LawR g (aI g 83) k law T) {head : Nat} (hh : head < 3) {p : Nat} (hp : p < 6) {part worn : Int32} (hpt : (part = -1 ∧ worn = -1) ∨ ∃ j : Nat, j < 4 ∧ part = Int32.ofNat j ∧ worn = aI g 83 (20 + 4 * p + j)) (cell way : Int32) (without : Int64) :
    ∃ g', OnM [81, 99, 101] [34, 38, 39, 40] g g' ∧ D_X11_tells g (some 81) (Int32.ofNat head) (Int32.ofNat p) part cell way without = some (tv head without (tell T head (WL (Int32.ofNat p) (aI g 83 (44 + p)) part worn cell way (aI g 83 5) (aI g 83 7))), g') := by
  have i3 : z_aI .int g (some 83) 3 = some k := by rw [← e3]; exact m83 (i := 3) hs (by decide)
  rcases lr with ⟨rfl, rfl, rfl⟩ | ⟨q, t, n, c, op, ar, cl, ek, hq, rfl, rfl, X, R⟩
  · refine ⟨g, OnM.rfl' hs, ?_⟩
    unfold D_X11_tells
    rw [s_gQ (r := 83) hs rfl rfl, Option.bind_some, i3, Option.bind_some, if_pos rfl]
    rfl
  · have nk : ¬ k = -1 := fun z => by rw [ek] at z; exact not_neg (k := q) (by omega) (by rw [z]; decide)
    have eL : (62 : Int32) + 900 * k = Int32.ofNat (62 + 900 * q) := by rw [ek, show (62 : Int32) = Int32.ofNat 62 from rfl, show (900 : Int32) = Int32.ofNat 900 from rfl, sc_mul, sc_add]
    obtain ⟨h1, eh1⟩ : ∃ h1, h1 = wF g 81 34 (.int (Int32.ofNat (62 + 900 * q))) := ⟨_, rfl⟩
    have s1 : Sh h1 := by rw [eh1]; exact Sh_wF hs rfl _
    have o1 : OnM [81, 99, 101] [34, 38, 39, 40] g h1 := by rw [eh1]; exact ⟨Sh_wF hs rfl _, Tch_wF (Tch_rfl _ g) (by decide) _ _, fun k hk => ⟨fI_wF_ne (fun q => hk (by rw [q.2]; decide)), fJ_wF_ne (fun q => hk (by rw [q.2]; decide))⟩⟩
    have l34 : fI h1 81 34 = Int32.ofNat (62 + 900 * q) := by rw [eh1]; exact fI_wF_eq hs rfl _
    have s2 := Sh_stM s1 1 (Int32.ofNat p).toInt64
    obtain ⟨h2, eh2⟩ : ∃ h2, h2 = stM h1 1 (Int32.ofNat p).toInt64 := ⟨_, rfl⟩
    rw [← eh2] at s2
    have s3 := Sh_stM s2 2 (aI g 83 (44 + p)).toInt64
    obtain ⟨h3, eh3⟩ : ∃ h3, h3 = stM h2 2 (aI g 83 (44 + p)).toInt64 := ⟨_, rfl⟩
    rw [← eh3] at s3
    have s4 := Sh_stM s3 3 part.toInt64
    obtain ⟨h4, eh4⟩ : ∃ h4, h4 = stM h3 3 part.toInt64 := ⟨_, rfl⟩
    rw [← eh4] at s4
    have s5 := Sh_stM s4 4 worn.toInt64
    obtain ⟨h5, eh5⟩ : ∃ h5, h5 = stM h4 4 worn.toInt64 := ⟨_, rfl⟩
    rw [← eh5] at s5
    have s6 := Sh_stM s5 5 (cell - cell / 5 * 5).toInt64
    obtain ⟨h6, eh6⟩ : ∃ h6, h6 = stM h5 5 (cell - cell / 5 * 5).toInt64 := ⟨_, rfl⟩
    rw [← eh6] at s6
    have s7 := Sh_stM s6 6 (cell / 5).toInt64
    obtain ⟨h7, eh7⟩ : ∃ h7, h7 = stM h6 6 (cell / 5).toInt64 := ⟨_, rfl⟩
    rw [← eh7] at s7
    have s8 := Sh_stM s7 7 way.toInt64
    obtain ⟨h8, eh8⟩ : ∃ h8, h8 = stM h7 7 way.toInt64 := ⟨_, rfl⟩
    rw [← eh8] at s8
    have s9 := Sh_stM s8 8 (aI g 83 5).toInt64
    obtain ⟨h9, eh9⟩ : ∃ h9, h9 = stM h8 8 (aI g 83 5).toInt64 := ⟨_, rfl⟩
    rw [← eh9] at s9
    have s10 := Sh_stM s9 9 (aI g 83 7).toInt64
    obtain ⟨h10, eh10⟩ : ∃ h10, h10 = stM h9 9 (aI g 83 7).toInt64 := ⟨_, rfl⟩
    rw [← eh10] at s10
    have o2 : OnM [81, 99, 101] [34, 38, 39, 40] g h2 := by rw [eh2]; exact o1.trans (stM_on s1 _ _)
    have o3 : OnM [81, 99, 101] [34, 38, 39, 40] g h3 := by rw [eh3]; exact o2.trans (stM_on s2 _ _)
    have o4 : OnM [81, 99, 101] [34, 38, 39, 40] g h4 := by rw [eh4]; exact o3.trans (stM_on s3 _ _)
    have o5 : OnM [81, 99, 101] [34, 38, 39, 40] g h5 := by rw [eh5]; exact o4.trans (stM_on s4 _ _)
    have o6 : OnM [81, 99, 101] [34, 38, 39, 40] g h6 := by rw [eh6]; exact o5.trans (stM_on s5 _ _)
    have o7 : OnM [81, 99, 101] [34, 38, 39, 40] g h7 := by rw [eh7]; exact o6.trans (stM_on s6 _ _)
    have o8 : OnM [81, 99, 101] [34, 38, 39, 40] g h8 := by rw [eh8]; exact o7.trans (stM_on s7 _ _)
    have o9 : OnM [81, 99, 101] [34, 38, 39, 40] g h9 := by rw [eh9]; exact o8.trans (stM_on s8 _ _)
    have o10 : OnM [81, 99, 101] [34, 38, 39, 40] g h10 := by rw [eh10]; exact o9.trans (stM_on s9 _ _)
    have r83 : ∀ h', OnM [81, 99, 101] [34, 38, 39, 40] g h' → aI h' 83 = aI g 83 := fun h' o => cell_aI (o.2.1.c (by decide))
    have l10 : fI h10 81 34 = Int32.ofNat (62 + 900 * q) := by
      rw [eh10, eh9, eh8, eh7, eh6, eh5, eh4, eh3, eh2]
      unfold stM
      simp only [fI_wJ]
      exact l34
    have lw : LwM h10 (62 + 900 * q) (fun i => aI g 83 (62 + 900 * q + i)) := ⟨by omega, l10, by rw [(o10.2.2 20 (by decide)).1]; exact o0, by rw [r83 h10 o10]; exact n0, fun i hi => by rw [r83 h10 o10]⟩
    have a10 : aJ h10 99 = vp_updL (vp_updL (vp_updL (vp_updL (vp_updL (vp_updL (vp_updL (vp_updL (vp_updL (aJ h1 99) 1 (Int32.ofNat p).toInt64) 2 (aI g 83 (44 + p)).toInt64) 3 part.toInt64) 4 worn.toInt64) 5 (cell - cell / 5 * 5).toInt64) 6 (cell / 5).toInt64) 7 way.toInt64) 8 (aI g 83 5).toInt64) 9 (aI g 83 7).toInt64 := by
      rw [eh10, stM_a s9, eh9, stM_a s8, eh8, stM_a s7, eh7, stM_a s6, eh6, stM_a s5, eh5, stM_a s4, eh4, stM_a s3, eh3, stM_a s2, eh2, stM_a s1]
    have hw : ∀ k, k < 9 → aJ h10 99 (k + 1) = (WL (Int32.ofNat p) (aI g 83 (44 + p)) part worn cell way (aI g 83 5) (aI g 83 7) k).toInt64 := fun k hk => by
      rw [a10]
      have : k = 0 ∨ k = 1 ∨ k = 2 ∨ k = 3 ∨ k = 4 ∨ k = 5 ∨ k = 6 ∨ k = 7 ∨ k = 8 := by omega
      rcases this with rfl | rfl | rfl | rfl | rfl | rfl | rfl | rfl | rfl <;> simp [vp_updL, WL]
    obtain ⟨g', oo, dd⟩ := m_loop (w := WL (Int32.ofNat p) (aI g 83 (44 + p)) part worn cell way (aI g 83 5) (aI g 83 7)) head hh without R c 0 z_F h10 rfl (Nat.zero_le _) (by have : z_F = 1000000 := rfl; have := R.1; omega) s10 lw hw
    refine ⟨g', o10.trans (oo.mono (by decide) (by decide)), ?_⟩
    have i5 : z_aI .int h8 (some 83) 5 = some (aI h8 83 5) := m83 (i := 5) s8 (by decide)
    have i7 : z_aI .int h9 (some 83) 7 = some (aI h9 83 7) := m83 (i := 7) s9 (by decide)
    have e85 : D_X11_tells_85 h4 (some 81) (Int32.ofNat head) cell way without (some 99) 4 worn.toInt64 = some (tv head without (tell (some (n, c, op, ar, cl)) head (WL (Int32.ofNat p) (aI g 83 (44 + p)) part worn cell way (aI g 83 5) (aI g 83 7))), g') := by
      unfold D_X11_tells_85
      rw [(m_sets s4 _).2.2.2.1, ← eh5, Option.bind_some, s_gQ (r := 99) s5 rfl rfl, Option.bind_some, (m_sets s5 _).2.2.2.2.1, ← eh6, Option.bind_some, s_gQ (r := 99) s6 rfl rfl, Option.bind_some, (m_sets s6 _).2.2.2.2.2.1, ← eh7, Option.bind_some, s_gQ (r := 99) s7 rfl rfl, Option.bind_some, (m_sets s7 _).2.2.2.2.2.2.1, ← eh8, Option.bind_some, s_gQ (r := 99) s8 rfl rfl, Option.bind_some, s_gQ (r := 83) s8 rfl rfl, Option.bind_some, i5, Option.bind_some, r83 h8 o8, (m_sets s8 _).2.2.2.2.2.2.2.1, ← eh9, Option.bind_some, s_gQ (r := 99) s9 rfl rfl, Option.bind_some, s_gQ (r := 83) s9 rfl rfl, Option.bind_some, i7, Option.bind_some, r83 h9 o9, (m_sets s9 _).2.2.2.2.2.2.2.2, ← eh10, Option.bind_some]
      exact dd
    have e44 : (44 : Int32) + Int32.ofNat p = Int32.ofNat (44 + p) := sc_add 44 p
    unfold D_X11_tells
    rw [s_gQ (r := 83) hs rfl rfl, Option.bind_some, i3, Option.bind_some, if_neg nk, Option.bind_some, i3, Option.bind_some, eL, s_pV hs (ci := 11) rfl (by decide), ← eh1, Option.bind_some, s_gQ (r := 99) s1 rfl rfl, Option.bind_some, (m_sets s1 _).1, ← eh2, Option.bind_some, s_gQ (r := 99) s2 rfl rfl, Option.bind_some, s_gQ (r := 83) s2 rfl rfl, Option.bind_some, e44, m83 s2 (by omega), Option.bind_some, r83 h2 o2, (m_sets s2 _).2.1, ← eh3, Option.bind_some, s_gQ (r := 99) s3 rfl rfl, Option.bind_some, (m_sets s3 _).2.2.1, ← eh4, Option.bind_some, s_gQ (r := 99) s4 rfl rfl, Option.bind_some]
    rcases hpt with ⟨rfl, rfl⟩ | ⟨j, hj, ep, ew⟩
    · rw [if_pos rfl]
      exact e85
    · have np : ¬ part = -1 := fun z => by rw [ep] at z; exact not_neg (k := j) (by omega) (by rw [z]; decide)
      have ei : (20 : Int32) + 4 * Int32.ofNat p + part = Int32.ofNat (20 + 4 * p + j) := by rw [ep, show (20 : Int32) = Int32.ofNat 20 from rfl, show (4 : Int32) = Int32.ofNat 4 from rfl, sc_mul, sc_add, sc_add]
      have dw : D_X11_wornOf h4 (some 81) (Int32.ofNat p) part = some (worn, h4) := by
        unfold D_X11_wornOf
        rw [s_gQ (r := 83) s4 rfl rfl, Option.bind_some, ei, m83 s4 (by omega), Option.bind_some, r83 h4 o4, ← ew]
      rw [if_neg np, s_ob s4 (ci := 11) rfl, Option.bind_some, dw, Option.bind_some]
      exact e85
end TL
