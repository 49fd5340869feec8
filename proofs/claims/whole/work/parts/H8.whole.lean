/-! orders: one order, once: obey against run -/
section H8
variable {g h : z_H} {m op ar cl K Ka mo : Nat → Int32} {n cc k dn nu : Nat} {la : Int32} {f : Nat → Nat}
theorem once (tx : TxC g 25 26 27 28 400 n 72 cc op ar cl) (hs : Sh g) (Y : Yrel g 1 m) (ed : fI g 34 4 = Int32.ofNat dn) (el : fI g 34 5 = la) (eu : fI g 21 1 = Int32.ofNat nu) (hu : nu ≤ 16) (R : RSt h m K Ka mo dn nu la) (C : codeRel true op ar K Ka n f) (HT : ∃ S, low S = true ∧ Tch S g h) (hk : k < cc) (O : OLR op ar cl mo f n k) : ONE g h m dn nu la (D_X2_obey g (some 34) (some 25) (Int32.ofNat k) (some 1) (some 21)) (D_X11_run h (some 81) (Int32.ofNat (8 * k))) := by
  obtain ⟨v, tm, s0, s1, s2, s3, hv, _, _, b0, _, b2, b3, b4, b5, h01, h12, h23, h3n, mv, _, m5, m6, e1, e2, e3, e4, e5⟩ := O
  have row := Y.row
  have n4 := C.1
  have c12 : cc ≤ 12 := tx.2.2.2.2.2.2.1.2.1
  have fld : ∀ {x : z_H}, TxC x 25 26 27 28 400 n 72 cc op ar cl → ∀ j, j < 6 → D_X7_field x (some 25) (Int32.ofNat k) (Int32.ofNat j) = some (cl (6 * k + j), x) := fun t j hj => c_field t hk hj
  have w4 : nb (m 4) 33554431 := by rw [Y.2.1.2.1]; exact Y.1.2.1
  obtain ⟨g1, sg1, T1, hw, d1⟩ := c_setOW hs Y ed el
  obtain ⟨h1, R1, o1, c55, hm, r1⟩ := m_now (k := k) R row w4 (by omega)
  have tx1 := TxC_T tx T1 (by decide)
  have Y1 : Yrel g1 1 m := Yrel_T Y T1 (isY_S (Or.inl rfl) (by decide)) (by decide)
  have f2 := f_le C h3n (Nat.le_refl n)
  have f4 := C.2.1
  have o1' : OnM MK MKf h h1 := o1.mono (by decide) (by decide)
  have T1' : Tch [29, 30, 31] g g1 := T1.mono (by decide)
  -- obey, down to the test
  have pre : D_X2_obey g (some 34) (some 25) (Int32.ofNat k) (some 1) (some 21) = ((D_X1_reckon g1 (some 29) (some 25) (Int32.ofNat s2) (Int32.ofNat s3)).bind fun p => if p.1 = 0 then some (1, p.2) else (z_gQ 2 p.2 (some 34) 0).bind fun x2995 => (z_gI 1 p.2 x2995 2).bind fun x2996 => if x2996 = (1:Int32) then OBR p.2 (Int32.ofNat k) (Int32.ofNat s1) (Int32.ofNat s2) else some (1, p.2)) := by
    unfold D_X2_obey
    rw [o25 hs, Option.bind_some, show (3 : Int32) = Int32.ofNat 3 from rfl, fld tx 3 (by decide), Option.bind_some]
    dsimp only
    rw [o25 hs, Option.bind_some, show (4 : Int32) = Int32.ofNat 4 from rfl, fld tx 4 (by decide), Option.bind_some]
    dsimp only
    rw [s_ob hs (ci := 2) rfl, Option.bind_some, d1, Option.bind_some, s_gQ (r := 29) sg1 rfl rfl, Option.bind_some, o25 sg1, Option.bind_some, show (5 : Int32) = Int32.ofNat 5 from rfl, fld tx1 5 (by decide), Option.bind_some]
    dsimp only
    rw [s_ob sg1 (ci := 1) rfl, Option.bind_some, b3, b4, b5]
    rfl
  rw [pre, r1, m5, m6]
  have cR := rk_class (w := oW m dn la) sg1 tx1 h3n (lo := s2) (by omega) (fun i hi => code_wf C (by omega)) hw
  -- behind the test
  have go : ∀ (g2 h2 : z_H), Sh g2 → Tch [29, 31] g1 g2 → RSt h2 m K Ka mo dn nu la → OnM [81, 100, 101] [20, 38, 39, 55] h1 h2 → fI h2 81 55 = 0 → (∀ i, i < 5 → aJ h2 100 (i + 1) = (oW m dn la i).toInt64) → ONE g h m dn nu la (OBR g2 (Int32.ofNat k) (Int32.ofNat s1) (Int32.ofNat s2)) (D_X11_run_105 h2 (some 81) (Int32.ofNat (8 * k))) := by
    intro g2 h2 sg2 T2 R2 o2 q55 hm2
    have T12 : Tch [29, 30, 31] g g2 := T1'.trans (T2.mono (by decide))
    have o12 : OnM MK MKf h h2 := o1'.trans (o2.mono (by decide) (by decide))
    have base := once_sums (s0 := s0) (TxC_T tx1 T2 (by decide)) sg2 (Yrel_T Y T12 (isY_S (Or.inl rfl) (by decide)) (by decide)) (fun q hq => by rw [cell_aI (T2.c (by decide))]; exact hw q hq) (by rw [cell_fI (T12.c (by decide))]; exact ed) (by rw [cell_fI (T12.c (by decide))]; exact el) (by rw [cell_fI (T12.c (by decide))]; exact eu) hu R2 C hm2 q55 (HT_of HT T12 (by decide) o12 (by decide)) hk hv b0 b2 h01 h12 (by omega) mv e1 e2 e3 e4
    exact base.from T12 o12
  have skip : ∀ (g2 h2 : z_H), Sh g2 → Tch [29, 31] g1 g2 → RSt h2 m K Ka mo dn nu la → OnM [81, 100, 101] [20, 38, 39, 55] h1 h2 → ONE g h m dn nu la (some (1, g2)) (some (0, h2)) := fun g2 h2 sg2 T2 R2 o2 => Or.inl ⟨g2, h2, rfl, rfl, sg2, T1'.trans (T2.mono (by decide)), o1'.trans (o2.mono (by decide) (by decide)), R2.2.2.1⟩
  rcases e5 with z | S
  · subst z
    obtain ⟨g2, sg2, T2, bv, d2⟩ := cR.2 [] (ev_none s2)
    rw [d2, Option.bind_some]
    dsimp only
    rw [if_neg one_ne, s_gQ (r := 29) sg2 rfl rfl, Option.bind_some, s_gI sg2 (ci := 1) rfl rfl, Option.bind_some, bv, if_pos (show bot [] = 1 from rfl), if_pos (by rw [Int32.le_iff_toInt_le]; exact Int.le_refl _)]
    exact go g2 h1 sg2 T2 R1 (OnM.rfl' R1.1) c55 hm
  · have lt := segT_lt S
    have fl := f_le C (Nat.le_of_lt lt) h3n
    rw [if_neg (fun z => by have := (nat_le (by omega) (by omega)).mp z; omega)]
    obtain ⟨M1, M2⟩ := m_sumOf R1 row C hm c55 (at' := 8 * k + 5) (by omega) m5 m6 S.1 h3n lt
    cases e : evC op ar (oW m dn la) s2 s3 with
    | none =>
      obtain ⟨g2, sg2, T2, d2⟩ := cR.1 e
      obtain ⟨h2, x, R2, o2, q55, r2⟩ := M1 e
      rw [d2, Option.bind_some, r2, Option.bind_some]
      dsimp only
      rw [if_pos rfl, s_gI R2.1 (ci := 11) rfl rfl, Option.bind_some, q55, if_neg one_ne]
      exact skip g2 h2 sg2 T2 R2 o2
    | some s' =>
      obtain ⟨g2, sg2, T2, bv, d2⟩ := cR.2 s' e
      obtain ⟨w, es, h2, R2, o2, q55, hm2, r2⟩ := M2 s' e
      obtain ⟨x, r, ex, x01⟩ := ev_test S e (fun i hi => (code_wf C (by omega)).2) (by omega)
      rw [es] at ex bv
      have : w = x := by cases ex; rfl
      subst this
      rw [d2, Option.bind_some, r2, Option.bind_some]
      dsimp only
      rw [if_neg one_ne, s_gQ (r := 29) sg2 rfl rfl, Option.bind_some, s_gI sg2 (ci := 1) rfl rfl, Option.bind_some, bv, s_gI R2.1 (ci := 11) rfl rfl, Option.bind_some, q55, if_pos (show (0 : Int32) = 0 from rfl)]
      rcases x01 with y | y
      · subst y
        rw [if_neg (show ¬ bot [(0 : Int64)] = 1 by decide), if_pos (show Int64.toInt32 0 = 0 by decide)]
        exact skip g2 h2 sg2 T2 R2 o2
      · subst y
        rw [if_pos (show bot [(1 : Int64)] = 1 by decide), if_neg (show ¬ Int64.toInt32 1 = 0 by decide)]
        exact go g2 h2 sg2 T2 R2 o2 q55 hm2
end H8
