/-! orders: one order, once: both -/
section H6
variable {g h : z_H} {m op ar cl K Ka mo : Nat → Int32} {n cc k dn nu : Nat} {la : Int32} {f : Nat → Nat}
def MK : List Nat := [81, 99, 100, 101]
def MKf : List Nat := [20, 34, 38, 39, 40, 55]
def ONE (g h : z_H) (m : Nat → Int32) (dn nu : Nat) (la : Int32) (A B : Option (Int32 × z_H)) : Prop :=
  (∃ g' h', A = some (1, g') ∧ B = some (0, h') ∧ Sh g' ∧ Tch [29, 30, 31] g g' ∧ OnM MK MKf h h' ∧ fI h' 81 20 = 0) ∨
  (∃ g' h', A = some (0, g') ∧ B = some (-3, h') ∧ Sh g' ∧ Tch [29, 30, 31, 33] g g' ∧ OnM MK MKf h h' ∧ fI h' 81 20 = 0) ∨
  ∃ (g' h' : z_H) (m' rec : Nat → Int32) (la' : Int32) (v : Nat), A = some (1, g') ∧ B = some (0, h') ∧ Sh g' ∧ Tch [2, 3, 5, 6, 21, 22, 29, 30, 31, 33, 34] g g' ∧ Yrel g' 1 m' ∧ fI g' 34 4 = Int32.ofNat (dn + 1) ∧ fI g' 34 5 = la' ∧ fI g' 34 6 = fI g 34 6 ∧ fI g' 21 1 = Int32.ofNat (nxN nu) ∧ aI g' 22 = nxR nu (aI g 22) rec ∧ recOK (tn (m 0)) rec (fun i => m (5 + i)) (fun i => m' (5 + i)) (Int32.ofNat v) ∧ OnM (83 :: 86 :: 87 :: MK) (8 :: 52 :: 53 :: MKf) h h' ∧ aI h' 83 = m' ∧ fI h' 81 20 = 0 ∧ fI h' 81 52 = Int32.ofNat (dn + 1) ∧ fI h' 81 53 = la' ∧ fI h' 81 8 = Int32.ofNat (nxN nu) ∧ aI h' 86 = nxU nu (aI h 86) (fun i => m (5 + i)) ∧ aI h' 87 = nxM nu (aI h 87) (Int32.ofNat v) ∧ ∀ i, i < 5 ∨ 44 ≤ i → m' i = m i
theorem Tch.symm' {S : List Nat} {a b : z_H} (T : Tch S a b) : Tch S b a := ⟨T.1.symm, T.2.1.symm, fun x hx => (T.2.2 x hx).symm⟩
theorem ONE.from {g0 h0 : z_H} {A B : Option (Int32 × z_H)} (H : ONE g h m dn nu la A B) (Tg : Tch [29, 30, 31] g0 g) (Oh : OnM MK MKf h0 h) : ONE g0 h0 m dn nu la A B := by
  rcases H with ⟨g', h', a, b, c, d, e, i⟩ | ⟨g', h', a, b, c, d, e, i⟩ | ⟨g', h', m', rec, la', v, a, b, c, d, e, f1, f2, f3, f4, f5, f6, f7, f8, f9, f10, f11, f12, f13, f14, f15⟩
  · exact Or.inl ⟨g', h', a, b, c, Tg.trans d, Oh.trans e, i⟩
  · exact Or.inr (Or.inl ⟨g', h', a, b, c, (Tg.mono (by decide)).trans d, Oh.trans e, i⟩)
  · refine Or.inr (Or.inr ⟨g', h', m', rec, la', v, a, b, c, (Tg.mono (by decide)).trans d, e, f1, f2, ?_, f4, ?_, f6, (Oh.mono (by decide) (by decide)).trans f7, f8, f9, f10, f11, f12, ?_, ?_, f15⟩)
    · rw [f3, cell_fI (Tg.c (by decide))]
    · rw [f5, cell_aI (Tg.c (by decide))]
    · rw [f13, cell_aI (Oh.2.1.c (by decide))]
    · rw [f14, cell_aI (Oh.2.1.c (by decide))]
/-- the rest of obey, behind the test -/
def OBR (h : z_H) (l2 fe se : Int32) : Option (Int32 × z_H) :=
  (z_gQ 2 h (some 34) 0).bind fun x2998 =>
  (z_ob 7 h (some 25)).bind fun _ =>
  (D_X7_field h (some 25) l2 (2:Int32)).bind fun p2999 =>
  (z_ob 1 p2999.2 x2998).bind fun _ =>
  (D_X1_reckon p2999.2 x2998 (some 25) p2999.1 fe).bind fun p3001 =>
  if p3001.1 = 0 then
    some ((0:Int32), p3001.2)
  else
    (z_gQ 2 p3001.2 (some 34) 0).bind fun x3004 =>
    (z_gI 1 p3001.2 x3004 2).bind fun x3005 =>
    (z_gQ 2 p3001.2 (some 34) 0).bind fun x3006 =>
    (z_ob 1 p3001.2 x3006).bind fun _ =>
    (D_X1_reckon p3001.2 x3006 (some 25) fe se).bind fun p3007 =>
    if p3007.1 = 0 then
      some ((0:Int32), p3007.2)
    else
      (z_ob 7 p3007.2 (some 25)).bind fun _ =>
      (D_X7_field p3007.2 (some 25) l2 (0:Int32)).bind fun p3010 =>
      (z_gQ 2 p3010.2 (some 34) 1).bind fun x3012 =>
      (z_gQ 2 p3010.2 (some 34) 0).bind fun x3013 =>
      (z_gI 1 p3010.2 x3013 2).bind fun x3014 =>
      (z_ob 0 p3010.2 x3012).bind fun _ =>
      (D_X0_carryOut p3010.2 x3012 (some 1) p3010.1 x3005 x3014).bind fun p3015 =>
      if 0 ≤ p3015.1 then
        (z_gQ 2 p3015.2 (some 34) 1).bind fun x3018 =>
        (z_gQ 0 p3015.2 x3018 1).bind fun x3019 =>
        (z_ob 8 p3015.2 (some 21)).bind fun _ =>
        (D_X8_add p3015.2 (some 21) x3019).bind fun p3020 =>
        (z_gI 2 p3020 (some 34) 4).bind fun x3022 =>
        (z_pV 2 p3020 (some 34) 4 (.int (x3022 + (1:Int32)))).bind fun h3023 =>
        if p3010.1 = 0 then
          (z_pV 2 h3023 (some 34) 5 (.int p3015.1)).bind fun h3025 =>
          some ((1:Int32), h3025)
        else
          some ((1:Int32), h3023)
      else
        some ((0:Int32), p3015.2)
theorem segOK_lt {lo hi : Nat} (S : segOK op ar lo hi) : lo < hi := by
  obtain ⟨h, dp, a, b, _⟩ := S
  rcases Nat.lt_or_ge lo hi with z | z
  · exact z
  · have : lo = hi := by omega
    rw [this] at a; omega
theorem segT_lt {lo hi : Nat} (S : segT op ar lo hi) : lo < hi := segOK_lt S.1
/-- the act itself -/
theorem once_act (tx : TxC g 25 26 27 28 400 n 72 cc op ar cl) (hs : Sh g) (Y : Yrel g 1 m) (ed : fI g 34 4 = Int32.ofNat dn) (el : fI g 34 5 = la) (eu : fI g 21 1 = Int32.ofNat nu) (hu : nu ≤ 16) (R : RSt h m K Ka mo dn nu la) (HT : ∃ S, low S = true ∧ Tch S g h) {v : Nat} (hv : v < 5) {x x' b b' : Int32} (ex : v ≠ 4 → x' = x) (eb : v = 1 ∨ v = 3 → b' = b) (mv : mo (8 * k) = Int32.ofNat v) (hk : k < 12) : ONE g h m dn nu la ((D_X0_carryOut g (some 32) (some 1) (Int32.ofNat v) x b).bind fun p3015 => if 0 ≤ p3015.1 then (z_gQ 2 p3015.2 (some 34) 1).bind fun x3018 => (z_gQ 0 p3015.2 x3018 1).bind fun x3019 => (z_ob 8 p3015.2 (some 21)).bind fun _ => (D_X8_add p3015.2 (some 21) x3019).bind fun p3020 => (z_gI 2 p3020 (some 34) 4).bind fun x3022 => (z_pV 2 p3020 (some 34) 4 (.int (x3022 + (1:Int32)))).bind fun h3023 => if Int32.ofNat v = 0 then (z_pV 2 h3023 (some 34) 5 (.int p3015.1)).bind fun h3025 => some ((1:Int32), h3025) else some ((1:Int32), h3023) else some ((0:Int32), p3015.2)) ((D_X11_act h (some 81) (Int32.ofNat v) x' b').bind fun p3587 => if 0 ≤ p3587.1 then (z_gQ 11 p3587.2 (some 81) 51).bind fun x3590 => (z_aI .int p3587.2 x3590 (Int32.ofNat (8 * k))).bind fun x3591 => if x3591 = 0 then D_X11_run_172 p3587.2 (some 81) (some 81) p3587.1 else (z_gI 11 p3587.2 (some 81) 53).bind fun x3593 => D_X11_run_172 p3587.2 (some 81) (some 81) x3593 else some ((-3:Int32), p3587.2)) := by
  obtain ⟨S, lo, T0⟩ := HT
  obtain ⟨rs, r83, r20, r52, r53, r8, rc, ro⟩ := R
  obtain ⟨law, T, dl, lr⟩ := c_lawF hs (Or.inl rfl) Y
  have e3 : m 3 = fI g 1 12 := Y.2.1.2.2.2.2.1
  have ra : RA h law T := ⟨rs, r20, by rw [r83]; exact Y.row, by rw [r83, e3]; exact lr.T T0 lo⟩
  rcases act_two hs Y dl lr ra r83 r8 hu hv ex eb with ⟨g1, h1, rC, rM, s1, T1, o1, dC, dM, nC, nM⟩ | ⟨g1, h1, r, m', s1, T1, Y1, rk, hr, mk, dC, dM, o1, a83, f8, a86, a87⟩
  · rw [dC, Option.bind_some, dM, Option.bind_some]
    dsimp only
    rw [if_neg nC, if_neg nM]
    exact Or.inr (Or.inl ⟨g1, h1, rfl, rfl, s1, T1, o1.mono (by decide) (by decide), (o1.2.2 20 (by decide)).1.trans r20⟩)
  · have r0 := hr.ge (by decide)
    obtain ⟨g2, s2, T2, f21, a22, d2⟩ := c_add s1 (n := nu) (by rw [cell_fI (T1.c (by decide))]; exact eu) hu
    have s3 : Sh (wF g2 34 4 (.int (Int32.ofNat (dn + 1)))) := Sh_wF s2 rfl _
    have g34 : ∀ q, fI g2 34 q = fI g 34 q := fun q => by rw [cell_fI (T2.c (by decide)), cell_fI (T1.c (by decide))]
    have b4 : fI (wF g2 34 4 (.int (Int32.ofNat (dn + 1)))) 34 4 = Int32.ofNat (dn + 1) := fI_wF_eq s2 rfl _
    have b5 : fI (wF g2 34 4 (.int (Int32.ofNat (dn + 1)))) 34 5 = la := by rw [fI_wF_ne (by decide), g34]; exact el
    have b6 : fI (wF g2 34 4 (.int (Int32.ofNat (dn + 1)))) 34 6 = fI g 34 6 := by rw [fI_wF_ne (by decide), g34]
    have w2 := s_pV s2 (a := 34) (ci := 2) (k := 4) rfl (by decide) (.int (Int32.ofNat (dn + 1)))
    have T3 : Tch [2, 3, 5, 6, 21, 22, 29, 30, 31, 33, 34] g (wF g2 34 4 (.int (Int32.ofNat (dn + 1)))) := Tch_wF ((T1.mono (by decide)).trans (T2.mono (by decide))) (by decide) _ _
    have T3' : Tch [21, 22, 34] g1 (wF g2 34 4 (.int (Int32.ofNat (dn + 1)))) := Tch_wF (T2.mono (by decide)) (by decide) _ _
    have b21 : fI (wF g2 34 4 (.int (Int32.ofNat (dn + 1)))) 21 1 = Int32.ofNat (nxN nu) := by rw [fI_wF_ne (by decide)]; exact f21
    have b22 : aI (wF g2 34 4 (.int (Int32.ofNat (dn + 1)))) 22 = nxR nu (aI g 22) (aI g1 33) := by rw [aI_wF, a22, cell_aI (T1.c (by decide))]
    have o1' := o1.mono (S' := 83 :: 86 :: 87 :: MK) (ks' := 8 :: 52 :: 53 :: MKf) (by decide) (by decide)
    have h52 : fI h1 81 52 = Int32.ofNat dn := (o1.2.2 52 (by decide)).1.trans r52
    have h53 : fI h1 81 53 = la := (o1.2.2 53 (by decide)).1.trans r53
    have h20 : fI h1 81 20 = 0 := (o1.2.2 20 (by decide)).1.trans r20
    have m172 : ∀ y, ∃ h', D_X11_run_172 h1 (some 81) (some 81) y = some (0, h') ∧ OnM (83 :: 86 :: 87 :: MK) (8 :: 52 :: 53 :: MKf) h1 h' ∧ fI h' 81 52 = Int32.ofNat (dn + 1) ∧ fI h' 81 53 = y ∧ (∀ a, aI h' a = aI h1 a) ∧ ∀ q, q ≠ 52 → q ≠ 53 → fI h' 81 q = fI h1 81 q := fun y => by
      have oA := onMF o1.1 (k := 53) rfl (S := 83 :: 86 :: 87 :: MK) (ks := 8 :: 52 :: 53 :: MKf) (by decide) (by decide) y
      have oB := onMF oA.1 (k := 52) rfl (S := 83 :: 86 :: 87 :: MK) (ks := 8 :: 52 :: 53 :: MKf) (by decide) (by decide) (Int32.ofNat (dn + 1))
      refine ⟨_, ?_, oA.trans oB, fI_wF_eq oA.1 rfl _, by rw [fI_wF_ne (by decide)]; exact fI_wF_eq o1.1 rfl _, fun a => by rw [aI_wF, aI_wF], fun q a b => by rw [fI_wF_ne (by omega), fI_wF_ne (by omega)]⟩
      unfold D_X11_run_172
      rw [s_pV o1.1 (ci := 11) rfl (by decide), Option.bind_some, s_gI oA.1 (ci := 11) rfl rfl, Option.bind_some, fI_wF_ne (by decide), h52, show Int32.ofNat dn + 1 = Int32.ofNat (dn + 1) from sc_add dn 1, s_pV oA.1 (ci := 11) rfl (by decide), Option.bind_some]
    have r112 : z_aI .int h1 (some 112) (Int32.ofNat (8 * k)) = some (Int32.ofNat v) := by rw [aR o1.1 (n := 96) rfl (by omega) (by decide), cell_aI (o1.2.1.c (by decide)), ro _ (by omega), mv]
    have ref : ∃ h' la', (if Int32.ofNat v = 0 then D_X11_run_172 h1 (some 81) (some 81) r else (z_gI 11 h1 (some 81) 53).bind fun x3593 => D_X11_run_172 h1 (some 81) (some 81) x3593) = some (0, h') ∧ OnM (83 :: 86 :: 87 :: MK) (8 :: 52 :: 53 :: MKf) h1 h' ∧ fI h' 81 52 = Int32.ofNat (dn + 1) ∧ fI h' 81 53 = la' ∧ (∀ a, aI h' a = aI h1 a) ∧ (∀ q, q ≠ 52 → q ≠ 53 → fI h' 81 q = fI h1 81 q) ∧ la' = if Int32.ofNat v = 0 then r else la := by
      by_cases z : Int32.ofNat v = 0
      · obtain ⟨h', a, b, c, d, e, i⟩ := m172 r
        exact ⟨h', r, by rw [if_pos z]; exact a, b, c, d, e, i, by rw [if_pos z]⟩
      · obtain ⟨h', a, b, c, d, e, i⟩ := m172 la
        exact ⟨h', la, by rw [if_neg z, s_gI o1.1 (ci := 11) rfl rfl, Option.bind_some, h53]; exact a, b, c, d, e, i, by rw [if_neg z]⟩
    obtain ⟨h', la', dR, oR, c52, c53, ca, cf, ela⟩ := ref
    rw [dC, Option.bind_some, dM, Option.bind_some]
    dsimp only
    rw [if_pos r0, if_pos r0, s_gQ (r := 32) s1 rfl rfl, Option.bind_some, s_gQ (r := 33) s1 rfl rfl, Option.bind_some, s_ob s1 (ci := 8) rfl, Option.bind_some, d2, Option.bind_some, s_gI s2 (ci := 2) rfl rfl, Option.bind_some, g34, ed, show Int32.ofNat dn + 1 = Int32.ofNat (dn + 1) from sc_add dn 1, w2, Option.bind_some, s_gQ (r := 112) o1.1 rfl rfl, Option.bind_some, r112, Option.bind_some, dR]
    generalize wF g2 34 4 (.int (Int32.ofNat (dn + 1))) = g3 at *
    have fin : ∀ g4, Sh g4 → Tch [34] g3 g4 → fI g4 34 4 = Int32.ofNat (dn + 1) → fI g4 34 5 = la' → fI g4 34 6 = fI g 34 6 → ONE g h m dn nu la (some (1, g4)) (some (0, h')) := fun g4 s4 T4 c4 c5 c6 => Or.inr (Or.inr ⟨g4, h', m', aI g1 33, la', v, rfl, rfl, s4, T3.trans (T4.mono (by decide)), Yrel_T Y1 ((T3'.trans (T4.mono (by decide)))) (isY_S (Or.inl rfl) (by decide)) (by decide), c4, c5, c6, by rw [cell_fI (T4.c (by decide))]; exact b21, by rw [cell_aI (T4.c (by decide))]; exact b22, rk, o1'.trans oR, by rw [ca]; exact a83, by rw [cf 20 (by decide) (by decide)]; exact h20, c52, c53, by rw [cf 8 (by decide) (by decide)]; exact f8, by rw [ca, a86], by rw [ca, a87], mk⟩)
    by_cases z : Int32.ofNat v = 0
    · rw [if_pos z] at ela
      rw [if_pos z, s_pV s3 (ci := 2) rfl (by decide), Option.bind_some]
      exact fin _ (Sh_wF s3 rfl _) (Tch_wF (Tch_rfl _ _) (by decide) _ _) (by rw [fI_wF_ne (by decide)]; exact b4) (by rw [fI_wF_eq s3 rfl, ela]) (by rw [fI_wF_ne (by decide)]; exact b6)
    · rw [if_neg z] at ela
      rw [if_neg z]
      exact fin g3 s3 (Tch_rfl _ _) b4 (by rw [b5, ela]) b6
end H6
