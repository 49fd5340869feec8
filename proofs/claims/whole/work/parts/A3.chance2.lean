section CH2
variable {g g0 : z_H} {tg : Nat → Option Nat} {j : Nat} {h : z_H}
theorem onJ {S ks : List Nat} (hs : Sh g) {a : Nat} (sa : isAJ a = true) (ha : a ∈ S) (f : Nat → Int64) : OnM S ks g (wJ g a f) := ⟨Sh_wJ hs sa _, Tch_wJ (Tch_rfl _ g) ha _, fun _ _ => ⟨fI_wJ _ _ _ _, fJ_wJ _ _ _ _⟩⟩
theorem onA {S ks : List Nat} (hs : Sh g) {a : Nat} (sa : isA a = true) (ha : a ∈ S) (f : Nat → Int32) : OnM S ks g (wA g a f) := ⟨Sh_wA hs sa _, Tch_wA (Tch_rfl _ g) ha _, fun _ _ => ⟨fI_wA _ _ _ _, fJ_wA _ _ _ _⟩⟩
/-- one pass of the reference -/
theorem m_pass (ok : tgOK tg) (k84 : z_H → Option Nat → Int32 → Int32 → Int32 → Option (Int64 × z_H)) (l2 l3 l4 : Int32) {F : Nat → Nat} (bd : sumN F 100 ≤ 1000000000000) (hs : Sh g) (al : ∀ k, k < 100 → aI g 102 k = enc (tg k)) (J : isJN (aJ g 106) F) : ∃ g', OnM [106, 107] [] g g' ∧ isJN (aJ g' 106) (spN tg F) ∧ D_X11_chance_93 k84 z_F g (some 81) l2 l3 l4 0 = k84 g' (some 81) l2 l3 (l4 + 1) := by
  have q45 : ∀ {x : z_H}, Sh x → z_gQ 11 x (some 81) 45 = some (some 106) := fun hx => s_gQ hx rfl rfl
  have q46 : ∀ {x : z_H}, Sh x → z_gQ 11 x (some 81) 46 = some (some 107) := fun hx => s_gQ hx rfl rfl
  -- zeros
  have l1 := loop_up (β := Int64 × z_H) (S := z_H) (N := 100) (F := fun k x i => D_X11_chance_93 k84 k x (some 81) l2 l3 l4 (Int32.ofNat i)) (G := fun x => D_X11_chance_117 k84 z_F x (some 81) l2 l3 l4 0) (I := fun i x => OnM [106, 107] [] g x ∧ aJ x 106 = aJ g 106 ∧ ∀ q, q < i → aJ x 107 q = 0)
    (fun k x _ => by
      show D_X11_chance_93b k84 _ x (some 81) l2 l3 l4 (Int32.ofNat 100) = _
      unfold D_X11_chance_93b
      rw [if_pos (by decide)])
    (fun k x i hi I => by
      obtain ⟨o, a6, a7⟩ := I
      refine ⟨wJ x 107 (vp_updL (aJ x 107) i 0), ⟨o.trans (onJ o.1 rfl (by decide) _), by rw [aJ_wJ_ne (by decide)]; exact a6, fun q hq => ?_⟩, ?_⟩
      · rw [aJ_wJ_eq o.1 rfl]
        by_cases e : q = i
        · rw [e, updL_eq]
        · rw [updL_ne e]; exact a7 q (by omega)
      · show D_X11_chance_93b k84 (D_X11_chance_93 k84 k) x (some 81) l2 l3 l4 (Int32.ofNat i) = _
        unfold D_X11_chance_93b
        rw [if_neg (fun z => by have := (nat_le (a := 100) (b := i) (by decide) (by omega)).mp z; omega), q46 o.1, Option.bind_some, jW (n := 100) o.1 rfl hi (by decide), Option.bind_some, Option.bind_some, show Int32.ofNat i + 1 = Int32.ofNat (i + 1) from sc_add i 1])
    100 0 z_F g (by decide) (by decide) (by decide) ⟨OnM.rfl' hs, rfl, fun q hq => by omega⟩
  obtain ⟨x1, ⟨o1, a6, a7⟩, e1⟩ := l1
  -- the thirds
  have l2' := loop_up (β := Int64 × z_H) (S := z_H) (N := 100) (F := fun k x i => D_X11_chance_117 k84 k x (some 81) l2 l3 l4 (Int32.ofNat i)) (G := fun x => D_X11_chance_190 k84 z_F x (some 81) l2 l3 l4 0) (I := fun i x => OnM [106, 107] [] g x ∧ aJ x 106 = aJ g 106 ∧ isJN (aJ x 107) (foldN (spK tg F) i (fun _ => 0)))
    (fun k x _ => by
      show D_X11_chance_117b k84 _ x (some 81) l2 l3 l4 (Int32.ofNat 100) = _
      unfold D_X11_chance_117b
      rw [if_pos (by decide)])
    (fun k x i hi I => by
      obtain ⟨o, b6, b7⟩ := I
      have bi : F i < 2 ^ 63 := by have := sum_ge F 100 i hi; omega
      have il := loop_up (β := Int64 × z_H) (S := z_H) (N := 3) (F := fun k' x a => D_X11_chance_127 k84 (D_X11_chance_117 k84 k) k' x (some 81) l2 l3 l4 (Int32.ofNat i) (Int32.ofNat a)) (G := fun x => D_X11_chance_117 k84 k x (some 81) l2 l3 l4 (Int32.ofNat (i + 1))) (I := fun a x => OnM [106, 107] [] g x ∧ aJ x 106 = aJ g 106 ∧ isJN (aJ x 107) (foldN (fun a G => addN G (toN tg i a) (F i / 3)) a (foldN (spK tg F) i (fun _ => 0))))
        (fun k' x _ => by
          show D_X11_chance_127b k84 (D_X11_chance_117 k84 k) _ x (some 81) l2 l3 l4 (Int32.ofNat i) (Int32.ofNat 3) = _
          unfold D_X11_chance_127b
          rw [if_pos (by decide), Option.bind_some, show Int32.ofNat i + 1 = Int32.ofNat (i + 1) from sc_add i 1])
        (fun k' x a ha I' => by
          obtain ⟨o, b6, b7⟩ := I'
          have tl := toN_lt ok (a := a) hi
          refine ⟨wJ x 107 (vp_updL (aJ x 107) (toN tg i a) (aJ x 107 (toN tg i a) + Int64.ofNat (F i / 3))), ⟨o.trans (onJ o.1 rfl (by decide) _), by rw [aJ_wJ_ne (by decide)]; exact b6, by rw [aJ_wJ_eq o.1 rfl]; exact isJN_add b7 tl⟩, ?_⟩
          have e160 : D_X11_chance_160 k84 (D_X11_chance_117 k84 k) (D_X11_chance_127 k84 (D_X11_chance_117 k84 k) k') x (some 81) l2 l3 l4 (Int32.ofNat i) (Int32.ofNat a) (some 107) (Int32.ofNat (toN tg i a)) = D_X11_chance_127 k84 (D_X11_chance_117 k84 k) k' (wJ x 107 (vp_updL (aJ x 107) (toN tg i a) (aJ x 107 (toN tg i a) + Int64.ofNat (F i / 3)))) (some 81) l2 l3 l4 (Int32.ofNat i) (Int32.ofNat (a + 1)) := by
            unfold D_X11_chance_160
            rw [jR (n := 100) o.1 rfl tl (by decide), Option.bind_some, q45 o.1, Option.bind_some, jR (n := 100) o.1 rfl hi (by decide), Option.bind_some, b6, J i hi, J_div3 bi, jW (n := 100) o.1 rfl tl (by decide), Option.bind_some, Option.bind_some, show Int32.ofNat a + 1 = Int32.ofNat (a + 1) from sc_add a 1]
          show D_X11_chance_127b k84 (D_X11_chance_117 k84 k) (D_X11_chance_127 k84 (D_X11_chance_117 k84 k) k') x (some 81) l2 l3 l4 (Int32.ofNat i) (Int32.ofNat a) = _
          unfold D_X11_chance_127b
          rw [if_neg (fun z => by have := (nat_le (a := 3) (b := a) (by decide) (by omega)).mp z; omega), s_ob o.1 (ci := 11) rfl, Option.bind_some, m_acted o.1 ok (fun k hk => by rw [cell_aI (o.2.1.c (by decide))]; exact al k hk) hi ha, Option.bind_some]
          dsimp only
          rw [q46 o.1, Option.bind_some]
          obtain ⟨t1, t2⟩ := enc_to (a := a) ok hi
          by_cases q : enc (nxt tg i a) = -1
          · rw [if_pos q]
            rw [t1 q] at e160 ⊢
            exact e160
          · rw [if_neg q, t2 q]
            exact e160)
        3 0 z_F x (by decide) (by decide) (by decide) ⟨o, b6, b7⟩
      obtain ⟨x', I', e'⟩ := il
      refine ⟨x', I', ?_⟩
      show D_X11_chance_117b k84 (D_X11_chance_117 k84 k) x (some 81) l2 l3 l4 (Int32.ofNat i) = _
      unfold D_X11_chance_117b
      rw [if_neg (fun z => by have := (nat_le (a := 100) (b := i) (by decide) (by omega)).mp z; omega)]
      exact e')
    100 0 z_F x1 (by decide) (by decide) (by decide) ⟨o1, a6, fun q hq => a7 q hq⟩
  obtain ⟨x2, ⟨o2, b6, b7⟩, e2⟩ := l2'
  -- back
  have l3' := loop_up (β := Int64 × z_H) (S := z_H) (N := 100) (F := fun k x i => D_X11_chance_190 k84 k x (some 81) l2 l3 l4 (Int32.ofNat i)) (G := fun x => k84 x (some 81) l2 l3 (l4 + 1)) (I := fun i x => OnM [106, 107] [] g x ∧ isJN (aJ x 107) (spN tg F) ∧ ∀ q, q < i → aJ x 106 q = Int64.ofNat (spN tg F q))
    (fun k x _ => by
      show D_X11_chance_190b k84 _ x (some 81) l2 l3 l4 (Int32.ofNat 100) = _
      unfold D_X11_chance_190b
      rw [if_pos (by decide), Option.bind_some])
    (fun k x i hi I => by
      obtain ⟨o, c7, c6⟩ := I
      refine ⟨wJ x 106 (vp_updL (aJ x 106) i (aJ x 107 i)), ⟨o.trans (onJ o.1 rfl (by decide) _), by rw [aJ_wJ_ne (by decide)]; exact c7, fun q hq => ?_⟩, ?_⟩
      · rw [aJ_wJ_eq o.1 rfl]
        by_cases e : q = i
        · rw [e, updL_eq]; exact c7 i hi
        · rw [updL_ne e]; exact c6 q (by omega)
      · show D_X11_chance_190b k84 (D_X11_chance_190 k84 k) x (some 81) l2 l3 l4 (Int32.ofNat i) = _
        unfold D_X11_chance_190b
        rw [if_neg (fun z => by have := (nat_le (a := 100) (b := i) (by decide) (by omega)).mp z; omega), q45 o.1, Option.bind_some, q46 o.1, Option.bind_some, jR (n := 100) o.1 rfl hi (by decide), Option.bind_some, jW (n := 100) o.1 rfl hi (by decide), Option.bind_some, Option.bind_some, show Int32.ofNat i + 1 = Int32.ofNat (i + 1) from sc_add i 1])
    100 0 z_F x2 (by decide) (by decide) (by decide) ⟨o2, b7, fun q hq => by omega⟩
  obtain ⟨x3, ⟨o3, c7, c6⟩, e3⟩ := l3'
  exact ⟨x3, o3, fun q hq => c6 q hq, e1.trans (e2.trans e3)⟩
theorem m_state {law : Option Nat} {T : LawT} (H : RA g law T) {p c y : Nat} (hp : p < 6) (e8 : aI g 83 (8 + p) = Int32.ofNat c) (e14 : aI g 83 (14 + p) = Int32.ofNat y) : D_X11_stateOf g (some 81) (Int32.ofNat p) = some (Int32.ofNat (4 * c + y), g) := by
  unfold D_X11_stateOf
  rw [s_gQ (r := 83) H.1 rfl rfl, Option.bind_some, (m_at H hp).1, Option.bind_some, Option.bind_some, (m_at H hp).2, Option.bind_some, e8, e14, show (4 : Int32) * Int32.ofNat c + Int32.ofNat y = Int32.ofNat (4 * c + y) by rw [show (4 : Int32) = Int32.ofNat 4 from rfl, sc_mul, sc_add]]
theorem m_chance {law : Option Nat} {T : LawT} (H : RA g0 law T) {p c0 y0 c n : Nat} (hp : p < 6) (e8 : aI g0 83 (8 + p) = Int32.ofNat c0) (hc0 : c0 < 25) (e14 : aI g0 83 (14 + p) = Int32.ofNat y0) (hy0 : y0 < 4) (hc : c < 25) (hn : n ≤ 30) : ∃ g' f, OnM [81, 99, 101, 102, 106, 107] [34, 38, 39, 40] g0 g' ∧ isJN f (chN (tgN T (aI g0 83) p) (4 * c0 + y0) n) ∧ ((D_X11_laySteps g0 (some 81) (Int32.ofNat p)).bind fun p1914 => D_X11_chance_44 z_F p1914 (some 81) (Int32.ofNat p) (Int32.ofNat c) (Int32.ofNat n) (0:Int32)) = some (sum4 f c, g') := by
  have ok : tgOK (tgN T (aI g0 83) p) := fun k b hk e => tgN_lt hk e
  obtain ⟨g1, o1, al, d1⟩ := m_laySteps H hp
  have q45 : ∀ {x : z_H}, Sh x → z_gQ 11 x (some 81) 45 = some (some 106) := fun hx => s_gQ hx rfl rfl
  have al' : ∀ {x : z_H}, OnM [106, 107] [] g1 x → ∀ k, k < 100 → aI x 102 k = enc (tgN T (aI g0 83) p k) := fun o k hk => by rw [cell_aI (o.2.1.c (by decide))]; exact al k hk
  have c83 : aI g1 83 = aI g0 83 := cell_aI (o1.2.1.c (by decide))
  have H1 := H.on o1 (by decide) (by decide) (by decide)
  have lp := loop_up (β := Int64 × z_H) (S := z_H) (N := n) (F := fun k x i => D_X11_chance_84 k x (some 81) (Int32.ofNat c) (Int32.ofNat n) (Int32.ofNat i)) (G := fun x => some (sum4 (aJ x 106) c, x)) (I := fun i x => OnM [106, 107] [] g1 x ∧ isJN (aJ x 106) (chN (tgN T (aI g0 83) p) (4 * c0 + y0) i))
    (fun k x I => by
      obtain ⟨o, J⟩ := I
      show D_X11_chance_84b _ x (some 81) (Int32.ofNat c) (Int32.ofNat n) (Int32.ofNat n) = _
      unfold D_X11_chance_84b
      rw [if_pos (by rw [nat_le (by omega) (by omega)]; exact Nat.le_refl _)]
      refine loop_fold (F := fun k a i => D_X11_chance_229 k x (some 81) (Int32.ofNat c) a (Int32.ofNat i)) (G := fun a => some (a, x)) (N := 4) (fun w a => a + aJ x 106 (4 * c + w)) (fun k a => ?_) (fun k a i hi => ?_) 0 (by decide)
      · show D_X11_chance_229b _ x (some 81) (Int32.ofNat c) a (Int32.ofNat 4) = _
        unfold D_X11_chance_229b
        rw [if_pos (by decide)]
      · show D_X11_chance_229b (D_X11_chance_229 k) x (some 81) (Int32.ofNat c) a (Int32.ofNat i) = _
        unfold D_X11_chance_229b
        rw [if_neg (fun z => by have := (nat_le (a := 4) (b := i) (by decide) (by omega)).mp z; omega), q45 o.1, Option.bind_some, show (4 : Int32) * Int32.ofNat c + Int32.ofNat i = Int32.ofNat (4 * c + i) by rw [show (4 : Int32) = Int32.ofNat 4 from rfl, sc_mul, sc_add], jR (n := 100) o.1 rfl (by omega) (by decide), Option.bind_some, Option.bind_some, Option.bind_some, show Int32.ofNat i + 1 = Int32.ofNat (i + 1) from sc_add i 1])
    (fun k x i hi I => by
      obtain ⟨o, J⟩ := I
      obtain ⟨x', o', J', e'⟩ := m_pass ok (D_X11_chance_84 k) (Int32.ofNat c) (Int32.ofNat n) (Int32.ofNat i) (chN_sum ok i) o.1 (al' o) J
      refine ⟨x', ⟨o.trans o', J'⟩, ?_⟩
      show D_X11_chance_84b (D_X11_chance_84 k) x (some 81) (Int32.ofNat c) (Int32.ofNat n) (Int32.ofNat i) = _
      unfold D_X11_chance_84b
      rw [if_neg (by rw [nat_le (by omega) (by omega)]; omega), e', show Int32.ofNat i + 1 = Int32.ofNat (i + 1) from sc_add i 1])
  have l0 := loop_up (β := Int64 × z_H) (S := z_H) (N := 100) (F := fun k x i => D_X11_chance_44 k x (some 81) (Int32.ofNat p) (Int32.ofNat c) (Int32.ofNat n) (Int32.ofNat i)) (G := fun x => D_X11_chance_84 z_F x (some 81) (Int32.ofNat c) (Int32.ofNat n) 0) (I := fun i x => OnM [106, 107] [] g1 x ∧ ∀ q, q < i → aJ x 106 q = Int64.ofNat (if q = 4 * c0 + y0 then 1000000000000 else 0))
    (fun k x _ => by
      show D_X11_chance_44b _ x (some 81) (Int32.ofNat p) (Int32.ofNat c) (Int32.ofNat n) (Int32.ofNat 100) = _
      unfold D_X11_chance_44b
      rw [if_pos (by decide)])
    (fun k x i hi I => by
      obtain ⟨o, J⟩ := I
      have Hx := H1.on o (by decide) (by decide) (by decide)
      have cx : aI x 83 = aI g0 83 := by rw [cell_aI (o.2.1.c (by decide))]; exact c83
      have so := m_state Hx hp (by rw [cx]; exact e8) (by rw [cx]; exact e14)
      refine ⟨wJ x 106 (vp_updL (aJ x 106) i (Int64.ofNat (if i = 4 * c0 + y0 then 1000000000000 else 0))), ⟨o.trans (onJ o.1 rfl (by decide) _), fun q hq => ?_⟩, ?_⟩
      · rw [aJ_wJ_eq o.1 rfl]
        by_cases e : q = i
        · rw [e, updL_eq]
        · rw [updL_ne e]; exact J q (by omega)
      · show D_X11_chance_44b (D_X11_chance_44 k) x (some 81) (Int32.ofNat p) (Int32.ofNat c) (Int32.ofNat n) (Int32.ofNat i) = _
        have e74 : ∀ v, D_X11_chance_74 (D_X11_chance_44 k) x (some 81) (Int32.ofNat p) (Int32.ofNat c) (Int32.ofNat n) (Int32.ofNat i) (some 106) (Int32.ofNat i) v = D_X11_chance_44 k (wJ x 106 (vp_updL (aJ x 106) i v)) (some 81) (Int32.ofNat p) (Int32.ofNat c) (Int32.ofNat n) (Int32.ofNat (i + 1)) := fun v => by
          unfold D_X11_chance_74
          rw [jW (n := 100) o.1 rfl hi (by decide), Option.bind_some, Option.bind_some, show Int32.ofNat i + 1 = Int32.ofNat (i + 1) from sc_add i 1]
        unfold D_X11_chance_44b
        rw [if_neg (fun z => by have := (nat_le (a := 100) (b := i) (by decide) (by omega)).mp z; omega), q45 o.1, Option.bind_some, s_ob o.1 (ci := 11) rfl, Option.bind_some, so, Option.bind_some]
        dsimp only
        by_cases q : i = 4 * c0 + y0
        · rw [if_pos (by rw [q]), e74, if_pos q]
          rfl
        · rw [if_neg (fun z => q ((eq_lit (by omega) (by omega)).mp z)), e74, if_neg q]
          rfl)
    100 0 z_F g1 (by decide) (by decide) (by decide) ⟨OnM.rfl' o1.1, fun q hq => by omega⟩
  obtain ⟨x0, ⟨ox, Jx⟩, ex⟩ := l0
  obtain ⟨x', ⟨o', J'⟩, e'⟩ := lp n 0 z_F x0 (by omega) (by omega) (by show n < 1000000; omega) ⟨ox, fun q hq => Jx q hq⟩
  refine ⟨x', aJ x' 106, (o1.mono (by decide) (by decide)).trans (o'.mono (by decide) (by decide)), J', ?_⟩
  rw [d1, Option.bind_some]
  exact Eq.trans ex e'
theorem a_chance (H : Inv j h) (x y z : Int32) : Agree Inv j h (fun h => D_X10_chance h (some 0) x y z) (fun h => D_X11_chance h (some 81) x y z) := by
  have hs := H.1
  have st := Sh_t0 hs
  have ha : isY 1 := Or.inl rfl
  obtain ⟨n, hn, e1, e2⟩ := H.np
  have e2' : aI (t0 h) 83 0 = Int32.ofNat n := by rw [aI_wF]; exact e2
  have q0 : z_gQ 10 h (some 0) 0 = some (some 1) := s_gQ hs rfl rfl
  have no : ∀ {A B : z_H → Option (Int64 × z_H)}, A h = some (-1, h) → B h = some (-1, t0 h) → Agree Inv j h A B := fun eA eB => agree_q H eA (Same.rfl' hs) eB (Same_t0 hs)
  rcases xc x n (by omega) with ⟨p, hp, rfl⟩ | nx
  · rcases xc y 25 (by decide) with ⟨c, hc, rfl⟩ | ny
    · rcases xc z 31 (by decide) with ⟨k, hk, rfl⟩ | nz
      · obtain ⟨c0, y0, hc0, hy0, m8, m14, -, -⟩ := H.at (p := p) (by omega)
        obtain ⟨law, T, dl, lr⟩ := H.law
        obtain ⟨g1, f, s1, T1, J1, d1⟩ := c_chance hs H.Y dl lr (p := p) (by omega) m8 hc0 m14 hy0 hc (n := k) (by omega)
        have ra := (H.RA lr s1 T1 (by decide) (by decide)).on (t0_on s1) (by decide) (by decide) (by decide)
        have c83 : aI (t0 g1) 83 = aI h 83 := by rw [aI_wF]; exact cell_aI (T1.c (by decide))
        have st1 := Sh_t0 s1
        obtain ⟨g2, f', o2, J2, d2⟩ := m_chance ra (p := p) (by omega) (by rw [c83]; exact m8) hc0 (by rw [c83]; exact m14) hy0 hc (n := k) (by omega)
        rw [c83] at J2
        rw [← sum4_congr hc J1 J2] at d2
        refine agree_q H (x := sum4 f c) (h1 := g1) (h2 := g2) ?_ (Same_T T1 s1 (by decide)) ?_ ((Same_t0 s1).trans (Same_M o2 (by decide)))
        · show D_X10_chance h (some 0) (Int32.ofNat p) (Int32.ofNat c) (Int32.ofNat k) = _
          unfold D_X10_chance
          rw [q0, Option.bind_some, (yR hs ha).1, Option.bind_some, hasP1 hs ha e1 (by omega) hp, Option.bind_some]
          dsimp only
          rw [if_neg one_ne, cellC1 hc, Option.bind_some]
          dsimp only
          rw [if_neg one_ne, if_neg (not_neg (by omega)), if_pos (show Int32.ofNat k ≤ 30 from (nat_le (b := 30) (by omega) (by decide)).mpr (by omega)), s_gQ (r := 53) hs rfl rfl, Option.bind_some, q0, Option.bind_some, s_ob hs (ci := 6) rfl, Option.bind_some, d1, Option.bind_some]
        · show D_X11_chance g1 (some 81) (Int32.ofNat p) (Int32.ofNat c) (Int32.ofNat k) = _
          unfold D_X11_chance
          rw [p81 s1, Option.bind_some, s_ob st1 (ci := 11) rfl, Option.bind_some, isP1 st1 (by rw [c83]; exact e2) hn hp, Option.bind_some]
          dsimp only
          rw [if_neg one_ne, cellM1 hc, Option.bind_some]
          dsimp only
          rw [if_neg one_ne, din1 (C := 30) (N := 30) rfl (by omega) _ (by decide), Option.bind_some]
          dsimp only
          rw [if_neg one_ne, s_ob st1 (ci := 11) rfl, Option.bind_some]
          exact d2
      · refine no ?_ ?_
        · show D_X10_chance h (some 0) (Int32.ofNat p) (Int32.ofNat c) z = _
          unfold D_X10_chance
          rw [q0, Option.bind_some, (yR hs ha).1, Option.bind_some, hasP1 hs ha e1 (by omega) hp, Option.bind_some]
          dsimp only
          rw [if_neg one_ne, cellC1 hc, Option.bind_some]
          dsimp only
          rw [if_neg one_ne]
          by_cases c1 : z < 0
          · rw [if_pos c1]
          · rw [if_neg c1]
            rw [lt0] at c1
            rw [if_neg (by rw [Int32.le_iff_toInt_le]; show ¬ z.toInt ≤ 30; omega)]
        · show D_X11_chance h (some 81) (Int32.ofNat p) (Int32.ofNat c) z = _
          unfold D_X11_chance
          rw [p81 hs, Option.bind_some, s_ob st (ci := 11) rfl, Option.bind_some, isP1 st e2' hn hp, Option.bind_some]
          dsimp only
          rw [if_neg one_ne, cellM1 hc, Option.bind_some]
          dsimp only
          rw [if_neg one_ne, din0 (C := 30) (N := 30) rfl nz, Option.bind_some]
          dsimp only
          rw [if_pos rfl]
    · refine no ?_ ?_
      · show D_X10_chance h (some 0) (Int32.ofNat p) y z = _
        unfold D_X10_chance
        rw [q0, Option.bind_some, (yR hs ha).1, Option.bind_some, hasP1 hs ha e1 (by omega) hp, Option.bind_some]
        dsimp only
        rw [if_neg one_ne, cellC0 ny, Option.bind_some]
        dsimp only
        rw [if_pos rfl]
      · show D_X11_chance h (some 81) (Int32.ofNat p) y z = _
        unfold D_X11_chance
        rw [p81 hs, Option.bind_some, s_ob st (ci := 11) rfl, Option.bind_some, isP1 st e2' hn hp, Option.bind_some]
        dsimp only
        rw [if_neg one_ne, cellM0 ny, Option.bind_some]
        dsimp only
        rw [if_pos rfl]
  · refine no ?_ ?_
    · show D_X10_chance h (some 0) x y z = _
      unfold D_X10_chance
      rw [q0, Option.bind_some, (yR hs ha).1, Option.bind_some, hasP0 hs ha e1 (by omega) nx, Option.bind_some]
      dsimp only
      rw [if_pos rfl]
    · show D_X11_chance h (some 81) x y z = _
      unfold D_X11_chance
      rw [p81 hs, Option.bind_some, s_ob st (ci := 11) rfl, Option.bind_some, isP0 st e2' hn nx, Option.bind_some]
      dsimp only
      rw [if_pos rfl]
end CH2
