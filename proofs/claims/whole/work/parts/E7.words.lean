/-! the words of both languages, in both readers -/
def wdLW : List (List Nat) := [[112, 97, 105, 114], [108, 111, 97, 100], [112, 97, 114, 116], [119, 111, 114, 110], [120], [121], [119, 97, 121], [100, 97, 121], [109, 111, 111, 100]]
def wdOW : List (List Nat) := [[100, 97, 121], [100, 111, 110, 101], [108, 97, 116, 101, 115, 116], [112, 97, 105, 114, 115], [119, 97, 108, 108, 115], [99, 101, 108, 108], [116, 111, 101], [104, 101, 101, 108]]
def wdLV : List (List Nat) := [[119, 101, 97, 114, 115], [108, 101, 97, 118, 101, 115], [98, 97, 114, 115]]
def wdOV : List (List Nat) := [[115, 116, 101, 112], [116, 117, 114, 110], [112, 97, 117, 115, 101], [109, 101, 110, 100], [112, 97, 115, 115]]
def wdTo : List Nat := [116, 111]
def wdAt : List Nat := [97, 116]
def wdTimes : List Nat := [116, 105, 109, 101, 115]
def wdIf : List Nat := [105, 102]
def wdNot : List Nat := [110, 111, 116]
def wdAnd : List Nat := [97, 110, 100]
def wdOr : List Nat := [111, 114]
section W7
variable {tp : Nat → Nat} {L : Nat} {ord : Bool} {g0 g h0 h : z_H} {p n w od : Nat} {op ar K Ka : Nat → Int32} {P : List (Nat × Nat)}
theorem CSt.lw (H : CSt tp L ord g0 g p n op ar w) : D_X5_among g (some 23) 7 = some (enc (wsIdx tp L p wdLW), g) := c_among (ws := wdLW) (by decide) (by decide) (by decide) (by decide) (by decide) (by decide) (by decide) H.1 H.2.2.1 H.2.2.2.1
theorem CSt.ow (H : CSt tp L ord g0 g p n op ar w) : D_X5_among g (some 23) 6 = some (enc (wsIdx tp L p wdOW), g) := c_among (ws := wdOW) (by decide) (by decide) (by decide) (by decide) (by decide) (by decide) (by decide) H.1 H.2.2.1 H.2.2.2.1
theorem CSt.lv (H : CSt tp L ord g0 g p n op ar w) : D_X5_among g (some 23) 5 = some (enc (wsIdx tp L p wdLV), g) := c_among (ws := wdLV) (by decide) (by decide) (by decide) (by decide) (by decide) (by decide) (by decide) H.1 H.2.2.1 H.2.2.2.1
theorem CSt.ov (H : CSt tp L ord g0 g p n op ar w) : D_X5_among g (some 23) 4 = some (enc (wsIdx tp L p wdOV), g) := c_among (ws := wdOV) (by decide) (by decide) (by decide) (by decide) (by decide) (by decide) (by decide) H.1 H.2.2.1 H.2.2.2.1
theorem CSt.wTo (H : CSt tp L ord g0 g p n op ar w) : D_X5_isWord g (some 23) 8 = some (b01 (isW tp L p wdTo), g) := c_isW (w := wdTo) (by decide) (by decide) (by decide) (by decide) (by decide) (by decide) H.1 H.2.2.1 H.2.2.2.1
theorem CSt.wAt (H : CSt tp L ord g0 g p n op ar w) : D_X5_isWord g (some 23) 9 = some (b01 (isW tp L p wdAt), g) := c_isW (w := wdAt) (by decide) (by decide) (by decide) (by decide) (by decide) (by decide) H.1 H.2.2.1 H.2.2.2.1
theorem CSt.wTimes (H : CSt tp L ord g0 g p n op ar w) : D_X5_isWord g (some 23) 10 = some (b01 (isW tp L p wdTimes), g) := c_isW (w := wdTimes) (by decide) (by decide) (by decide) (by decide) (by decide) (by decide) H.1 H.2.2.1 H.2.2.2.1
theorem CSt.wIf (H : CSt tp L ord g0 g p n op ar w) : D_X5_isWord g (some 23) 11 = some (b01 (isW tp L p wdIf), g) := c_isW (w := wdIf) (by decide) (by decide) (by decide) (by decide) (by decide) (by decide) H.1 H.2.2.1 H.2.2.2.1
theorem CSt.wNot (H : CSt tp L ord g0 g p n op ar w) : D_X5_isWord g (some 23) 12 = some (b01 (isW tp L p wdNot), g) := c_isW (w := wdNot) (by decide) (by decide) (by decide) (by decide) (by decide) (by decide) H.1 H.2.2.1 H.2.2.2.1
theorem CSt.wAnd (H : CSt tp L ord g0 g p n op ar w) : D_X5_isWord g (some 23) 13 = some (b01 (isW tp L p wdAnd), g) := c_isW (w := wdAnd) (by decide) (by decide) (by decide) (by decide) (by decide) (by decide) H.1 H.2.2.1 H.2.2.2.1
theorem CSt.wOr (H : CSt tp L ord g0 g p n op ar w) : D_X5_isWord g (some 23) 14 = some (b01 (isW tp L p wdOr), g) := c_isW (w := wdOr) (by decide) (by decide) (by decide) (by decide) (by decide) (by decide) H.1 H.2.2.1 H.2.2.2.1
theorem MSt.wTo (H : MSt tp L ord h0 h p n K Ka P w od) : D_X11_isWord h (some 81) 655 = some (b01 (isW tp L p wdTo), h) := m_isW (w := wdTo) (by decide) (by decide) rfl H.sh H.2.2.2.1
theorem MSt.wAt (H : MSt tp L ord h0 h p n K Ka P w od) : D_X11_isWord h (some 81) 52 = some (b01 (isW tp L p wdAt), h) := m_isW (w := wdAt) (by decide) (by decide) rfl H.sh H.2.2.2.1
theorem MSt.wTimes (H : MSt tp L ord h0 h p n K Ka P w od) : D_X11_isWord h (some 81) 21279923 = some (b01 (isW tp L p wdTimes), h) := m_isW (w := wdTimes) (by decide) (by decide) rfl H.sh H.2.2.2.1
theorem MSt.wIf (H : MSt tp L ord h0 h p n K Ka P w od) : D_X11_isWord h (some 81) 294 = some (b01 (isW tp L p wdIf), h) := m_isW (w := wdIf) (by decide) (by decide) rfl H.sh H.2.2.2.1
theorem MSt.wNot (H : MSt tp L ord h0 h p n K Ka P w od) : D_X11_isWord h (some 81) 14836 = some (b01 (isW tp L p wdNot), h) := m_isW (w := wdNot) (by decide) (by decide) rfl H.sh H.2.2.2.1
theorem MSt.wAnd (H : MSt tp L ord h0 h p n K Ka P w od) : D_X11_isWord h (some 81) 1476 = some (b01 (isW tp L p wdAnd), h) := m_isW (w := wdAnd) (by decide) (by decide) rfl H.sh H.2.2.2.1
theorem MSt.wOr (H : MSt tp L ord h0 h p n K Ka P w od) : D_X11_isWord h (some 81) 498 = some (b01 (isW tp L p wdOr), h) := m_isW (w := wdOr) (by decide) (by decide) rfl H.sh H.2.2.2.1
def enc1 (o : Option Nat) : Int32 := match o with
  | none => -1
  | some k => Int32.ofNat (k + 1)
theorem MSt.cn (H : MSt tp L ord h0 h p n K Ka P w od) : Cnst h := by
  obtain ⟨c1, c2, c3, c4⟩ := H.2.2.2.2.2.2.2.2.1
  have T := H.2.1.2.1
  unfold Cnst
  rw [cell_aJ (T.c (show 96 ∉ KMc by decide)), cell_aJ (T.c (show 97 ∉ KMc by decide)), cell_aJ (T.c (show 98 ∉ KMc by decide)), cell_aJ (T.c (show 111 ∉ KMc by decide))]
  exact ⟨c1, c2, c3, c4⟩
theorem MSt.part (H : MSt tp L ord h0 h p n K Ka P w od) : D_X11_partAt h (some 81) = some (enc1 (wsIdx tp L p wdLW), h) := by
  have hs := H.sh
  have cn := H.cn.1
  have lp := loop_up (S := Int32) (I := fun i x => x = enc1 (soFar (wsIdx tp L p wdLW) i)) (F := fun m x i => D_X11_partAt_4 m h (some 81) x (Int32.ofNat i)) (G := fun x => some (x, h)) (N := 9) (fun m x _ => ?_) (fun m x i hi I => ?_) 9 0 z_F (-1) (by decide) (by decide) (by show _ < 1000000; decide) (by cases wsIdx tp L p wdLW <;> rfl)
  · obtain ⟨x, I, e⟩ := lp
    refine e.trans ?_
    rw [I, show soFar (wsIdx tp L p wdLW) 9 = wsIdx tp L p wdLW from soFar_all (ws := wdLW)]
  · show D_X11_partAt_4b _ h (some 81) x (Int32.ofNat 9) = _
    unfold D_X11_partAt_4b
    rw [if_pos (by decide)]
  · show ∃ x', _ ∧ D_X11_partAt_4b (D_X11_partAt_4 m) h (some 81) x (Int32.ofNat i) = _
    have wd : D_X11_isWord h (some 81) (aJ h 96 i) = some (b01 (isW tp L p (wdLW.getD i [])), h) := by
      rw [cn i hi]
      rcases (show i = 0 ∨ i = 1 ∨ i = 2 ∨ i = 3 ∨ i = 4 ∨ i = 5 ∨ i = 6 ∨ i = 7 ∨ i = 8 by omega) with r | r | r | r | r | r | r | r | r <;> subst r <;> exact m_isW (by decide) (by decide) rfl hs H.2.2.2.1
    have ss := soFar_step (tp := tp) (L := L) (p := p) (ws := wdLW) H.2.2.2.1.1 (by decide) hi
    unfold D_X11_partAt_4b D_X11_partAt_30
    rw [if_neg (show ¬ (9 : Int32) ≤ Int32.ofNat i from fun z => by have := (nat_le (a := 9) (b := i) (by decide) (by omega)).mp z; omega), s_gQ (r := 96) hs rfl rfl, Option.bind_some, jR hs (n := 9) rfl hi (by decide), Option.bind_some, o81 hs, Option.bind_some, wd, Option.bind_some]
    dsimp only
    rw [show Int32.ofNat i + 1 = Int32.ofNat (i + 1) from sc_add i 1]
    cases e : isW tp L p (wdLW.getD i []) with
    | false =>
      rw [e, if_neg (by decide)] at ss
      rw [if_pos (show b01 false = 0 from rfl), Option.bind_some]
      exact ⟨x, by rw [ss]; exact I, rfl⟩
    | true =>
      rw [e, if_pos rfl] at ss
      rw [if_neg (show ¬ b01 true = 0 by decide), Option.bind_some]
      exact ⟨_, by rw [ss]; rfl, rfl⟩
theorem MSt.orderPart (H : MSt tp L ord h0 h p n K Ka P w od) : D_X11_orderPartAt h (some 81) = some (enc1 (wsIdx tp L p wdOW), h) := by
  have hs := H.sh
  have cn := H.cn.2.1
  have lp := loop_up (S := Int32) (I := fun i x => x = enc1 (soFar (wsIdx tp L p wdOW) i)) (F := fun m x i => D_X11_orderPartAt_4 m h (some 81) x (Int32.ofNat i)) (G := fun x => some (x, h)) (N := 8) (fun m x _ => ?_) (fun m x i hi I => ?_) 8 0 z_F (-1) (by decide) (by decide) (by show _ < 1000000; decide) (by cases wsIdx tp L p wdOW <;> rfl)
  · obtain ⟨x, I, e⟩ := lp
    refine e.trans ?_
    rw [I, show soFar (wsIdx tp L p wdOW) 8 = wsIdx tp L p wdOW from soFar_all (ws := wdOW)]
  · show D_X11_orderPartAt_4b _ h (some 81) x (Int32.ofNat 8) = _
    unfold D_X11_orderPartAt_4b
    rw [if_pos (by decide)]
  · show ∃ x', _ ∧ D_X11_orderPartAt_4b (D_X11_orderPartAt_4 m) h (some 81) x (Int32.ofNat i) = _
    have wd : D_X11_isWord h (some 81) (aJ h 97 i) = some (b01 (isW tp L p (wdOW.getD i [])), h) := by
      rw [cn i hi]
      rcases (show i = 0 ∨ i = 1 ∨ i = 2 ∨ i = 3 ∨ i = 4 ∨ i = 5 ∨ i = 6 ∨ i = 7 by omega) with r | r | r | r | r | r | r | r <;> subst r <;> exact m_isW (by decide) (by decide) rfl hs H.2.2.2.1
    have ss := soFar_step (tp := tp) (L := L) (p := p) (ws := wdOW) H.2.2.2.1.1 (by decide) hi
    unfold D_X11_orderPartAt_4b D_X11_orderPartAt_30
    rw [if_neg (show ¬ (8 : Int32) ≤ Int32.ofNat i from fun z => by have := (nat_le (a := 8) (b := i) (by decide) (by omega)).mp z; omega), s_gQ (r := 97) hs rfl rfl, Option.bind_some, jR hs (n := 8) rfl hi (by decide), Option.bind_some, o81 hs, Option.bind_some, wd, Option.bind_some]
    dsimp only
    rw [show Int32.ofNat i + 1 = Int32.ofNat (i + 1) from sc_add i 1]
    cases e : isW tp L p (wdOW.getD i []) with
    | false =>
      rw [e, if_neg (by decide)] at ss
      rw [if_pos (show b01 false = 0 from rfl), Option.bind_some]
      exact ⟨x, by rw [ss]; exact I, rfl⟩
    | true =>
      rw [e, if_pos rfl] at ss
      rw [if_neg (show ¬ b01 true = 0 by decide), Option.bind_some]
      exact ⟨_, by rw [ss]; rfl, rfl⟩
/-- a word's token is there -/
theorem isW_lt {v : List Nat} (h : isW tp L p v = true) (hp : p ≤ L) : p < L ∧ p < tkN tp L p ∧ tkN tp L p ≤ L := by
  unfold isW at h
  rw [Bool.and_eq_true] at h
  have := of_decide_eq_true h.1
  have pl := tk_lt (tp := tp) (L := L) (p := p) (by omega)
  have := tkN_b (tp := tp) hp
  omega
theorem isSg_lt {c : Nat} (h : isSg tp L p c = true) (hp : p ≤ L) : p < L ∧ p < tkN tp L p ∧ tkN tp L p ≤ L := by
  unfold isSg at h
  rw [Bool.and_eq_true] at h
  have := of_decide_eq_true h.1
  have pl := tk_lt (tp := tp) (L := L) (p := p) (by omega)
  have := tkN_b (tp := tp) hp
  omega
/-! a leaf, a bracket, in the reference -/
theorem MSt.leaf1 (H : MSt tp L ord h0 h p n K Ka P w od) (hw : w < 50) (hp : p < L) (B : Bu n P p) (o a : Int32) : ∃ h', D_X11_leaf h (some 81) 1 o a = some h' ∧ MSt tp L ord h0 h' (tkN tp L p) (n + 1) (upd K n o) (upd Ka n a) P (w + 1) od ∧ Bu (n + 1) P (tkN tp L p) := by
  obtain ⟨h1, d1, M1⟩ := H.must1
  have hL := H.2.2.1.1
  have nb := tkN_b (tp := tp) H.2.2.2.1.1
  obtain ⟨h2, d2, M2⟩ := M1.emit o a (by have := B.1; omega)
  have e26 : fI h2 81 26 = Int32.ofNat w := M2.2.2.2.2.1
  have o3 := onMF M2.sh (k := 26) rfl (S := KMc) (ks := [26]) (by decide) (by decide) (Int32.ofNat (w + 1))
  refine ⟨_, ?_, ⟨⟨o3.1, (o3.2.2 23 (by decide)).1.trans M2.1.2.1, by rw [aI_wF]; exact M2.1.2.2.1, by rw [aI_wF]; exact M2.1.2.2.2.1, (o3.2.2 29 (by decide)).1.trans M2.1.2.2.2.2.1, by rw [aI_wF, aI_wF]; exact M2.1.2.2.2.2.2.1, M2.1.2.2.2.2.2.2⟩, M2.2.1.trans (o3.mono (by decide) (by decide)), M2.2.2.1.on o3 (by decide) (by decide), M2.2.2.2.1.on o3 (by decide), fI_wF_eq M2.sh rfl _, (o3.2.2 30 (by decide)).1.trans M2.2.2.2.2.2.1, (o3.2.2 19 (by decide)).1.trans M2.2.2.2.2.2.2.1, (o3.2.2 20 (by decide)).1.trans M2.2.2.2.2.2.2.2.1, H.2.2.2.2.2.2.2.2.1, (o3.2.2 18 (by decide)).1.trans M2.2.2.2.2.2.2.2.2.2.1, by omega, H.2.2.2.2.2.2.2.2.2.2.2⟩, ?_⟩
  · unfold D_X11_leaf D_X11_leaf_19
    rw [if_neg one_ne, s_gI H.sh (ci := 11) rfl rfl, Option.bind_some, H.2.2.2.2.1, if_neg (show ¬ (50 : Int32) ≤ Int32.ofNat w from fun z => by have := (nat_le (a := 50) (by decide) (by omega)).mp z; omega), o81 H.sh, Option.bind_some, d1, Option.bind_some, M1.bad, Option.bind_some, if_pos rfl, o81 M1.sh, Option.bind_some, d2, Option.bind_some, s_gI M2.sh (ci := 11) rfl rfl, Option.bind_some, e26, show Int32.ofNat w + 1 = Int32.ofNat (w + 1) from sc_add w 1, s_pV M2.sh (ci := 11) rfl (by decide), Option.bind_some]
  · have h1 := B.1
    have h2 := B.2
    exact ⟨by omega, by omega⟩
theorem MSt.leaf0 (H : MSt tp L ord h0 h p n K Ka P w od) (x : Bool) (hx : x = false ∨ w = 50) (o a : Int32) : ∃ h', D_X11_leaf h (some 81) (b01 x) o a = some h' ∧ MFl h0 h' p := by
  obtain ⟨h1, d1, M1⟩ := H.must0
  have t : D_X11_leaf_18 h (some 81) o a (some 81) = some h1 := by
    unfold D_X11_leaf_18 D_X11_leaf_19
    rw [o81 H.sh, Option.bind_some, d1, Option.bind_some, M1.bad, Option.bind_some, if_neg one_ne]
  refine ⟨h1, ?_, M1⟩
  unfold D_X11_leaf
  cases x with
  | false => rw [if_pos (show b01 false = 0 from rfl)]; exact t
  | true =>
    have hw : w = 50 := by rcases hx with z | z; cases z; exact z
    rw [if_neg (show ¬ b01 true = 0 by decide), s_gI H.sh (ci := 11) rfl rfl, Option.bind_some, H.2.2.2.2.1, hw, if_pos (by decide)]; exact t
theorem MSt.open1 (H : MSt tp L ord h0 h p n K Ka P w od) (hod : od < 8) (hp : p < L) (B : Bu n P p) {o : Nat} (ho : o = 31 ∨ o = 32) : ∃ h', D_X11_openBracket h (some 81) (Int32.ofNat o) = some h' ∧ MSt tp L ord h0 h' (tkN tp L p) n K Ka ((o, 0) :: P) w (od + 1) ∧ Bu n ((o, 0) :: P) (tkN tp L p) := by
  obtain ⟨h1, d1, M1⟩ := H.must1
  have hL := H.2.2.1.1
  have nb := tkN_b (tp := tp) H.2.2.2.1.1
  have e30 : fI h1 81 30 = Int32.ofNat od := M1.2.2.2.2.2.1
  have o2 := onMF M1.sh (k := 30) rfl (S := KMc) (ks := [30]) (by decide) (by decide) (Int32.ofNat (od + 1))
  have M2 : MSt tp L ord h0 (wF h1 81 30 (.int (Int32.ofNat (od + 1)))) (tkN tp L p) n K Ka P w (od + 1) := ⟨⟨o2.1, (o2.2.2 23 (by decide)).1.trans M1.1.2.1, by rw [aI_wF]; exact M1.1.2.2.1, by rw [aI_wF]; exact M1.1.2.2.2.1, (o2.2.2 29 (by decide)).1.trans M1.1.2.2.2.2.1, by rw [aI_wF, aI_wF]; exact M1.1.2.2.2.2.2.1, M1.1.2.2.2.2.2.2⟩, M1.2.1.trans (o2.mono (by decide) (by decide)), M1.2.2.1.on o2 (by decide) (by decide), M1.2.2.2.1.on o2 (by decide), (o2.2.2 26 (by decide)).1.trans M1.2.2.2.2.1, fI_wF_eq M1.sh rfl _, (o2.2.2 19 (by decide)).1.trans M1.2.2.2.2.2.2.1, (o2.2.2 20 (by decide)).1.trans M1.2.2.2.2.2.2.2.1, M1.2.2.2.2.2.2.2.2.1, (o2.2.2 18 (by decide)).1.trans M1.2.2.2.2.2.2.2.2.2.1, M1.2.2.2.2.2.2.2.2.2.2.1, by omega⟩
  have pd : pend ((o, 0) :: P) = pend P := by
    show (if 29 ≤ o then 0 else 1) + pend P = _
    rw [if_pos (by omega)]; omega
  have b1 := B.1
  have b2 := B.2
  obtain ⟨h3, d3, M3⟩ := M2.push (o := o) (a := 0) (by omega) (by omega) (by omega) (by omega)
  have l1 : ((o, 0) :: P).length = P.length + 1 := rfl
  refine ⟨h3, ?_, M3, by omega, by omega⟩
  unfold D_X11_openBracket D_X11_openBracket_15
  rw [s_gI H.sh (ci := 11) rfl rfl, Option.bind_some, H.2.2.2.2.2.1, if_neg (show ¬ (8 : Int32) ≤ Int32.ofNat od from fun z => by have := (nat_le (a := 8) (by decide) (by omega)).mp z; omega), o81 H.sh, Option.bind_some, d1, Option.bind_some, M1.bad, Option.bind_some, if_pos rfl, s_gI M1.sh (ci := 11) rfl rfl, Option.bind_some, e30, show Int32.ofNat od + 1 = Int32.ofNat (od + 1) from sc_add od 1, s_pV M1.sh (ci := 11) rfl (by decide), Option.bind_some, o81 M2.sh, Option.bind_some, show (0 : Int32) = Int32.ofNat 0 from rfl, d3, Option.bind_some]
theorem MSt.open0 (H : MSt tp L ord h0 h p n K Ka P w 8) (o : Int32) : ∃ h', D_X11_openBracket h (some 81) o = some h' ∧ MFl h0 h' p := by
  obtain ⟨h1, d1, M1⟩ := H.must0
  refine ⟨h1, ?_, M1⟩
  unfold D_X11_openBracket D_X11_openBracket_15
  rw [s_gI H.sh (ci := 11) rfl rfl, Option.bind_some, H.2.2.2.2.2.1, if_pos (by decide), o81 H.sh, Option.bind_some, d1, Option.bind_some, M1.bad, Option.bind_some, if_neg one_ne]
end W7
