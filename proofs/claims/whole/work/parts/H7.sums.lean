/-! orders: the SUMS and the TEST of an order -/
section H7
variable {g h : z_H} {m op ar cl K Ka mo : Nat → Int32} {n cc k dn nu : Nat} {la : Int32} {f : Nat → Nat}
theorem two_sum (tx : TxC g 25 26 27 28 400 n 72 cc op ar cl) (hs : Sh g) (hw : ∀ q, q < 23 → aI g 30 q = oW m dn la q) (R : RSt h m K Ka mo dn nu la) (row : RowB m) (C : codeRel true op ar K Ka n f) (hm : ∀ i, i < 5 → aJ h 100 (i + 1) = (oW m dn la i).toInt64) (e55 : fI h 81 55 = 0) {at' lo hi : Nat} (ha : at' + 1 < 96) (hn : hi ≤ n) (P : (segOK op ar lo hi ∧ mo at' = Int32.ofNat (f lo) ∧ mo (at' + 1) = Int32.ofNat (f hi)) ∨ (lo = hi ∧ mo at' = mo (at' + 1))) :
    (∃ g1 h1 x, D_X1_reckon g (some 29) (some 25) (Int32.ofNat lo) (Int32.ofNat hi) = some (0, g1) ∧ Sh g1 ∧ Tch [29, 31] g g1 ∧ D_X11_sumOf h (some 81) (Int32.ofNat at') = some (x, h1) ∧ RSt h1 m K Ka mo dn nu la ∧ OnM [81, 100, 101] [20, 38, 39, 55] h h1 ∧ fI h1 81 55 = 1) ∨
    (∃ g1 h1 a one, D_X1_reckon g (some 29) (some 25) (Int32.ofNat lo) (Int32.ofNat hi) = some (1, g1) ∧ Sh g1 ∧ Tch [29, 31] g g1 ∧ fI g1 29 2 = a ∧ D_X11_sumOf h (some 81) (Int32.ofNat at') = some (one, h1) ∧ RSt h1 m K Ka mo dn nu la ∧ OnM [81, 100, 101] [20, 38, 39, 55] h h1 ∧ fI h1 81 55 = 0 ∧ (∀ i, i < 5 → aJ h1 100 (i + 1) = (oW m dn la i).toInt64) ∧ (lo ≠ hi → one = a ∧ ∃ v : Int64, evC op ar (oW m dn la) lo hi = some [v] ∧ one = v.toInt32)) := by
  have n4 := C.1
  have lohi : lo ≤ hi := by rcases P with ⟨z, _⟩ | ⟨z, _⟩; exact z.1; omega
  have cR := rk_class (w := oW m dn la) hs tx hn (lo := lo) (by omega) (fun i hi => code_wf C (by omega)) hw
  rcases P with ⟨S, m1, m2⟩ | ⟨z, m1⟩
  · obtain ⟨M1, M2⟩ := m_sumOf R row C hm e55 ha m1 m2 S hn (segOK_lt S)
    cases e : evC op ar (oW m dn la) lo hi with
    | none =>
      obtain ⟨g1, s1, T1, d1⟩ := cR.1 e
      obtain ⟨h1, x, R1, o1, c1, r1⟩ := M1 e
      exact Or.inl ⟨g1, h1, x, d1, s1, T1, r1, R1, o1, c1⟩
    | some s' =>
      obtain ⟨g1, s1, T1, b1, d1⟩ := cR.2 s' e
      obtain ⟨v, es, h1, R1, o1, c1, w1, r1⟩ := M2 s' e
      subst es
      exact Or.inr ⟨g1, h1, _, _, d1, s1, T1, b1, r1, R1, o1, c1, w1, fun _ => ⟨rfl, v, rfl, rfl⟩⟩
  · subst z
    obtain ⟨g1, s1, T1, b1, d1⟩ := cR.2 [] (ev_none lo)
    exact Or.inr ⟨g1, h, _, -1, d1, s1, T1, b1, m_sumNo R e55 ha m1, R, OnM.rfl' R.1, e55, hm, fun z => absurd rfl z⟩
theorem low_app {S S' : List Nat} (a : low S = true) (b : low S' = true) : low (S ++ S') = true := by
  unfold low at *
  rw [List.all_append, a, b]; rfl
/-- the base of both heaps is one -/
theorem HT_of {g' h' : z_H} {S1 S2 ks : List Nat} (HT : ∃ S, low S = true ∧ Tch S g h) (Tg : Tch S1 g g') (l1 : low S1 = true) (O : OnM S2 ks h h') (l2 : low S2 = true) : ∃ S, low S = true ∧ Tch S g' h' := by
  obtain ⟨S, lo, T⟩ := HT
  refine ⟨S1 ++ (S ++ S2), low_app l1 (low_app lo l2), ?_⟩
  exact (Tg.symm'.mono (fun a z => List.mem_append_left _ z)).trans ((T.mono (fun a z => List.mem_append_right _ (List.mem_append_left _ z))).trans (O.2.1.mono (fun a z => List.mem_append_right _ (List.mem_append_right _ z))))
theorem once_sums (tx : TxC g 25 26 27 28 400 n 72 cc op ar cl) (hs : Sh g) (Y : Yrel g 1 m) (hw : ∀ q, q < 23 → aI g 30 q = oW m dn la q) (ed : fI g 34 4 = Int32.ofNat dn) (el : fI g 34 5 = la) (eu : fI g 21 1 = Int32.ofNat nu) (hu : nu ≤ 16) (R : RSt h m K Ka mo dn nu la) (C : codeRel true op ar K Ka n f) (hm : ∀ i, i < 5 → aJ h 100 (i + 1) = (oW m dn la i).toInt64) (e55 : fI h 81 55 = 0) (HT : ∃ S, low S = true ∧ Tch S g h) (hk : k < cc) {v s0 s1 s2 : Nat} (hv : v < 5) (b0 : cl (6 * k) = Int32.ofNat v) (b2 : cl (6 * k + 2) = Int32.ofNat s0) (h01 : s0 ≤ s1) (h12 : s1 ≤ s2) (h2n : s2 ≤ n) (mv : mo (8 * k) = Int32.ofNat v) (e1 : v = 4 → s1 = s0 ∧ mo (8 * k + 1) = mo (8 * k + 2)) (e2 : v ≠ 4 → segOK op ar s0 s1 ∧ mo (8 * k + 1) = Int32.ofNat (f s0) ∧ mo (8 * k + 2) = Int32.ofNat (f s1)) (e3 : v = 1 ∨ v = 3 → segOK op ar s1 s2 ∧ mo (8 * k + 3) = Int32.ofNat (f s1) ∧ mo (8 * k + 4) = Int32.ofNat (f s2)) (e4 : ¬ (v = 1 ∨ v = 3) → s2 = s1 ∧ mo (8 * k + 3) = mo (8 * k + 4)) : ONE g h m dn nu la (OBR g (Int32.ofNat k) (Int32.ofNat s1) (Int32.ofNat s2)) (D_X11_run_105 h (some 81) (Int32.ofNat (8 * k))) := by
  have row := Y.row
  have c12 : cc ≤ 12 := tx.2.2.2.2.2.2.1.2.1
  have fld : ∀ {x : z_H}, TxC x 25 26 27 28 400 n 72 cc op ar cl → ∀ j, j < 6 → D_X7_field x (some 25) (Int32.ofNat k) (Int32.ofNat j) = some (cl (6 * k + j), x) := fun t j hj => c_field t hk hj
  have P1 : (segOK op ar s0 s1 ∧ mo (8 * k + 1) = Int32.ofNat (f s0) ∧ mo (8 * k + 1 + 1) = Int32.ofNat (f s1)) ∨ (s0 = s1 ∧ mo (8 * k + 1) = mo (8 * k + 1 + 1)) := by
    by_cases z : v = 4
    · exact Or.inr ⟨(e1 z).1.symm, (e1 z).2⟩
    · exact Or.inl (e2 z)
  have P2 : (segOK op ar s1 s2 ∧ mo (8 * k + 3) = Int32.ofNat (f s1) ∧ mo (8 * k + 3 + 1) = Int32.ofNat (f s2)) ∨ (s1 = s2 ∧ mo (8 * k + 3) = mo (8 * k + 3 + 1)) := by
    by_cases z : v = 1 ∨ v = 3
    · exact Or.inl (e3 z)
    · exact Or.inr ⟨(e4 z).1.symm, (e4 z).2⟩
  unfold OBR D_X11_run_105
  rw [s_gQ (r := 29) hs rfl rfl, Option.bind_some, o25 hs, Option.bind_some, show (2 : Int32) = Int32.ofNat 2 from rfl, fld tx 2 (by decide), Option.bind_some]
  dsimp only
  rw [s_ob hs (ci := 1) rfl, Option.bind_some, b2, o81 R.1, Option.bind_some, show Int32.ofNat (8 * k) + 1 = Int32.ofNat (8 * k + 1) from sc_add _ 1]
  rcases two_sum tx hs hw R row C hm e55 (at' := 8 * k + 1) (by omega) (by omega) P1 with ⟨g1, h1, x, d1, s1', T1, r1, R1, o1, c1⟩ | ⟨g1, h1, a, one, d1, s1', T1, va, r1, R1, o1, c1, w1, eq1⟩
  · rw [d1, Option.bind_some, r1, Option.bind_some]
    dsimp only
    rw [if_pos rfl, o81 R1.1, Option.bind_some, m_sumOff R1.1 c1, Option.bind_some]
    dsimp only
    rw [s_gI R1.1 (ci := 11) rfl rfl, Option.bind_some, c1, if_neg one_ne]
    exact Or.inr (Or.inl ⟨g1, h1, rfl, rfl, s1', T1.mono (by decide), o1.mono (by decide) (by decide), R1.2.2.1⟩)
  · rw [d1, Option.bind_some, r1, Option.bind_some]
    dsimp only
    have tx1 := TxC_T tx T1 (by decide)
    have hw1 : ∀ q, q < 23 → aI g1 30 q = oW m dn la q := fun q hq => by rw [cell_aI (T1.c (by decide))]; exact hw q hq
    rw [if_neg one_ne, s_gQ (r := 29) s1' rfl rfl, Option.bind_some, s_gI s1' (ci := 1) rfl rfl, Option.bind_some, Option.bind_some, s_ob s1' (ci := 1) rfl, Option.bind_some, va, o81 R1.1, Option.bind_some, show Int32.ofNat (8 * k) + 3 = Int32.ofNat (8 * k + 3) from sc_add _ 3]
    rcases two_sum tx1 s1' hw1 R1 row C w1 c1 (at' := 8 * k + 3) (by omega) h2n P2 with ⟨g2, h2, x, d2, s2', T2, r2, R2, o2, c2⟩ | ⟨g2, h2, b, two, d2, s2', T2, vb, r2, R2, o2, c2, w2, eq2⟩
    · rw [d2, Option.bind_some, r2, Option.bind_some]
      dsimp only
      rw [if_pos rfl, s_gI R2.1 (ci := 11) rfl rfl, Option.bind_some, c2, if_neg one_ne]
      exact Or.inr (Or.inl ⟨g2, h2, rfl, rfl, s2', (T1.trans T2).mono (by decide), (o1.trans o2).mono (by decide) (by decide), R2.2.2.1⟩)
    · rw [d2, Option.bind_some, r2, Option.bind_some]
      dsimp only
      have tx2 := TxC_T tx1 T2 (by decide)
      have T12 := T1.trans T2
      have o12 := o1.trans o2
      have r112 : z_aI .int h2 (some 112) (Int32.ofNat (8 * k)) = some (Int32.ofNat v) := by rw [aR R2.1 (n := 96) rfl (by omega) (by decide), R2.2.2.2.2.2.2.2 _ (by omega), mv]
      rw [if_neg one_ne, o25 s2', Option.bind_some, show (0 : Int32) = Int32.ofNat 0 from rfl, fld tx2 0 (by decide), Option.bind_some]
      dsimp only
      rw [s_gQ (r := 32) s2' rfl rfl, Option.bind_some, s_gQ (r := 29) s2' rfl rfl, Option.bind_some, s_gI s2' (ci := 1) rfl rfl, Option.bind_some, s_ob s2' (ci := 0) rfl, Option.bind_some, vb, Nat.add_zero, b0, s_gI R2.1 (ci := 11) rfl rfl, Option.bind_some, c2, if_pos (show (0 : Int32) = Int32.ofNat 0 from rfl), s_gQ (r := 112) R2.1 rfl rfl, Option.bind_some, r112, Option.bind_some, o81 R2.1, Option.bind_some]
      have base := once_act (k := k) (x := a) (x' := one) (b := b) (b' := two) tx2 s2' (Yrel_T Y T12 (isY_S (Or.inl rfl) (by decide)) (by decide)) (by rw [cell_fI (T12.c (by decide))]; exact ed) (by rw [cell_fI (T12.c (by decide))]; exact el) (by rw [cell_fI (T12.c (by decide))]; exact eu) hu R2 (HT_of HT T12 (by decide) o12 (by decide)) hv (fun z => (eq1 (by have := segOK_lt (e2 z).1; omega)).1) (fun z => (eq2 (by have := segOK_lt (e3 z).1; omega)).1) mv (by omega)
      exact base.from (T12.mono (by decide)) (o12.mono (by decide) (by decide))
end H7
