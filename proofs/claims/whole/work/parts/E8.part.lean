/-! a PART, in both readers -/
def wdW (ord : Bool) : List (List Nat) := if ord = true then wdOW else wdLW
section S8
variable {tp : Nat → Nat} {L : Nat} {ord : Bool} {g0 g h0 h : z_H} {p n nM w od q : Nat} {op ar K Ka : Nat → Int32} {P : List (Nat × Nat)}
theorem flu_inr {lv : Nat} (hl : 1 ≤ lv) : ∀ (Q : List (Nat × Nat)) (n : Nat) (K Ka : Nat → Int32), inr (flu lv Q n K Ka).1 = inr Q := by
  intro Q
  induction Q with
  | nil => intro n K Ka; rfl
  | cons x r ih =>
    intro n K Ka
    obtain ⟨o, a⟩ := x
    by_cases c : bnd o < lv
    · rw [flu_id (P := (o, a) :: r) c]
    · have o31 : o < 31 := by
        rcases (show o < 31 ∨ 31 ≤ o by omega) with z | z
        · exact z
        · exfalso; apply c; unfold bnd; rw [if_pos z]; omega
      have e : inr ((o, a) :: r) = inr r := by
        show (if 31 ≤ o then some o else inr r) = _
        rw [if_neg (by omega)]
      rw [e]
      by_cases d : o = 29 ∨ o = 30
      · rw [flu_ld c d]; exact ih _ _ _
      · rw [flu_em c (by omega)]; exact ih _ _ _
theorem dgM_le : ∀ n i v, (∀ j, i ≤ j → j < i + n → tp j ≤ 57) → v ≤ 10000009 → dgM tp n i v ≤ 10000009 := by
  intro n
  induction n with
  | zero => intro i v _ h; exact h
  | succ n ih =>
    intro i v hd h
    have := hd i (Nat.le_refl _) (by omega)
    refine ih _ _ (fun j h1 h2 => hd j (by omega) (by omega)) ?_
    split <;> omega
theorem tkE_dig (h : tkK tp L p = 1) : ∀ j, p ≤ j → j < tkE tp L p → 48 ≤ tp j ∧ tp j ≤ 57 := by
  intro j h1 h2
  have hp : p < L := tk_lt (tp := tp) (by omega)
  have hk : kdN (tp p) = 1 := by unfold tkK at h; rw [if_pos hp] at h; exact h
  by_cases q : j = p
  · rw [q]; exact kd_dig hk
  · unfold tkE at h2
    rw [if_pos hp, if_neg (by omega)] at h2
    have := sca_all (P := fun j => decide (kdN (tp j) = kdN (tp p))) (L := L) _ (p + 1) rfl j (by omega) (by omega)
    exact kd_dig ((of_decide_eq_true this).trans hk)
theorem numM_le (hp : p ≤ L) (h : tkK tp L p = 1) : numM tp L p ≤ 10000009 := by
  have eb := tkE_b (tp := tp) hp
  exact dgM_le _ _ _ (fun j h1 h2 => (tkE_dig h j h1 (by omega)).2) (by omega)
/-- the sort, the number of the token -/
theorem MSt.srt (H : MSt tp L ord h0 h p n K Ka P w od) : z_gI 11 h (some 81) 16 = some (Int32.ofNat (srtN (tkK tp L p))) := by rw [s_gI H.sh (ci := 11) rfl rfl, H.2.2.2.1.2.2.2.1]
theorem srt_eq {k c : Nat} (hk : k ≤ 3) (hc : c ≤ 3) : (Int32.ofNat (srtN k) = Int32.ofNat c) ↔ srtN k = c := eq_lit (by unfold srtN; split <;> omega) (by omega)
theorem MSt.wrtJ (H : MSt tp L ord h0 h p n K Ka P w od) (k : tkK tp L p = 1) : z_gJ 11 h (some 81) 17 = some (Int64.ofNat (numM tp L p)) := by
  rw [s_gJ H.sh (ci := 11) rfl rfl, H.2.2.2.1.2.2.2.2]
  unfold wrt
  rw [if_neg (by omega), if_pos k]
theorem MSt.num (H : MSt tp L ord h0 h p n K Ka P w od) {lo hi : Nat} (hh : hi < 10000) (hl : lo < 10000) : ((tkK tp L p = 1 ∧ lo ≤ numM tp L p ∧ numM tp L p ≤ hi) ∧ ∃ h', D_X11_number h (some 81) (Int64.ofNat lo) (Int64.ofNat hi) = some (Int32.ofNat (numM tp L p), h') ∧ MSt tp L ord h0 h' (tkN tp L p) n K Ka P w od) ∨ (¬ (tkK tp L p = 1 ∧ lo ≤ numM tp L p ∧ numM tp L p ≤ hi) ∧ ∃ v h', D_X11_number h (some 81) (Int64.ofNat lo) (Int64.ofNat hi) = some (v, h') ∧ MFl h0 h' p) := by
  have kb := tkK_b (tp := tp) (L := L) (p := p)
  obtain ⟨h1, d1, M1⟩ := H.must1
  obtain ⟨h2, d2, M2⟩ := H.must0
  have n0 : ∀ v, D_X11_number_32 h v (some 81) = some (v, h2) := fun v => by
    unfold D_X11_number_32 D_X11_number_33
    rw [o81 H.sh, Option.bind_some, d2, Option.bind_some]
  by_cases k : tkK tp L p = 1
  · have wj := H.wrtJ k
    have nl := numM_le H.2.2.2.1.1 k
    by_cases r : lo ≤ numM tp L p ∧ numM tp L p ≤ hi
    · refine Or.inl ⟨⟨k, r⟩, h1, ?_, M1⟩
      unfold D_X11_number D_X11_number_33
      rw [wj, Option.bind_some, Option.bind_some, H.srt, Option.bind_some, if_pos (show Int32.ofNat (srtN (tkK tp L p)) = 2 by rw [k]; rfl), Option.bind_some, d_in_yes (by rw [J_int (by omega), J_int (by omega), J_int (by omega)]; omega), Option.bind_some]
      dsimp only
      rw [if_neg one_ne, o81 H.sh, Option.bind_some, d1, Option.bind_some, J_to32 (by omega)]
    · refine Or.inr ⟨fun z => r z.2, Int64.toInt32 (Int64.ofNat (numM tp L p)), h2, ?_, M2⟩
      have ni : ¬ ((Int64.ofNat lo).toInt ≤ (Int64.ofNat (numM tp L p)).toInt ∧ (Int64.ofNat (numM tp L p)).toInt ≤ (Int64.ofNat hi).toInt) := by
        rw [J_int (a := numM tp L p) (by omega), J_int (a := hi) (by omega)]
        rw [J_int (by omega)]; omega
      unfold D_X11_number
      rw [wj, Option.bind_some, Option.bind_some, H.srt, Option.bind_some, if_pos (show Int32.ofNat (srtN (tkK tp L p)) = 2 by rw [k]; rfl), Option.bind_some, d_in_no ni, Option.bind_some]
      dsimp only
      rw [if_pos rfl]
      exact n0 _
  · refine Or.inr ⟨fun z => k z.1, Int64.toInt32 (fJ h 81 17), h2, ?_, M2⟩
    unfold D_X11_number
    rw [s_gJ H.sh (ci := 11) rfl rfl, Option.bind_some, Option.bind_some, H.srt, Option.bind_some, if_neg (show ¬ Int32.ofNat (srtN (tkK tp L p)) = 2 from fun z => k (by have := (srt_eq (c := 2) kb (by decide)).mp z; unfold srtN at this; split at this <;> omega))]
    exact n0 _
theorem MSt.rp (H : MSt tp L ord h0 h p n K Ka P w od) (nb : isSg tp L p 91 = false) : D_X11_readPart h (some 81) = D_X11_readPart_35 h (some 81) (enc1 (wsIdx tp L p (wdW ord))) := by
  unfold D_X11_readPart wdW
  rw [o81 H.sh, Option.bind_some, show (91 : Int32) = Int32.ofNat 91 from rfl, H.sg (by decide), nb, Option.bind_some]
  dsimp only
  rw [if_pos (show b01 false = 0 from rfl), s_gI H.sh (ci := 11) rfl rfl, Option.bind_some, H.2.2.2.2.2.2.2.1]
  cases ord with
  | false => rw [if_pos (show b01 false = 0 from rfl), o81 H.sh, Option.bind_some, H.part, Option.bind_some, if_neg (by decide)]
  | true => rw [if_neg (show ¬ b01 true = 0 by decide), o81 H.sh, Option.bind_some, H.orderPart, Option.bind_some, if_pos rfl]
/-- what stands behind a leaf, where no P does -/
theorem m_99 {h1 : z_H} {l1 s1 s2 s3 : Int32} (hs : Sh h) (d : D_X11_leaf h (some 81) s1 s2 s3 = some h1) (hs1 : Sh h1) (c : fI h1 81 20 = 0 ∨ l1 < 6 ∨ fI h1 81 19 = 1) : D_X11_readPart_99 h (some 81) l1 (some 81) s1 s2 s3 = some (3, h1) := by
  unfold D_X11_readPart_99
  rw [o81 hs, Option.bind_some, d, Option.bind_some, s_gI hs1 (ci := 11) rfl rfl, Option.bind_some]
  by_cases c1 : fI h1 81 20 = 0
  · rw [if_pos c1]
  · rw [if_neg c1]
    by_cases c2 : l1 < 6
    · rw [if_pos c2]
    · have c3 := (c.resolve_left c1).resolve_left c2
      rw [if_neg c2, s_gI hs1 (ci := 11) rfl rfl, Option.bind_some, c3, if_neg one_ne]
theorem m_rp_num (H : MSt tp L ord h0 h p n K Ka P w od) (nb : isSg tp L p 91 = false) (k : tkK tp L p = 1) (hn : numM tp L p ≤ 1000) (hw : w < 50) (B : Bu n P p) : ∃ h', D_X11_readPart h (some 81) = some (3, h') ∧ MSt tp L ord h0 h' (tkN tp L p) (n + 1) (upd K n 0) (upd Ka n (Int32.ofNat (numM tp L p))) P (w + 1) od ∧ Bu (n + 1) P (tkN tp L p) := by
  have hp : p < L := tk_lt (tp := tp) (by omega)
  obtain ⟨h1, d1, M1, B1⟩ := H.leaf1 hw hp B 0 (Int32.ofNat (numM tp L p))
  refine ⟨h1, ?_, M1, B1⟩
  have wi : wsIdx tp L p (wdW ord) = none := by unfold wsIdx; rw [if_neg (by omega)]
  rw [H.rp nb, wi]
  unfold D_X11_readPart_35 D_X11_readPart_60 D_X11_readPart_71 D_X11_readPart_76 D_X11_readPart_86
  rw [H.srt, Option.bind_some, if_pos (show Int32.ofNat (srtN (tkK tp L p)) = 2 by rw [k]; rfl), H.wrtJ k, Option.bind_some, if_neg (show ¬ 0 < lg_cmp (Int64.ofNat (numM tp L p)) 1000 from fun z => by
    have := (lg_pos _ _).mp z
    rw [J_int (by omega)] at this
    have : (1000 : Int) < _ := this
    omega), if_pos (show enc1 none = -1 from rfl), if_neg one_ne, if_pos (show enc1 none = -1 from rfl), if_neg one_ne, Option.bind_some, J_to32 (by omega)]
  exact m_99 H.sh d1 M1.sh (Or.inr (Or.inl (by decide)))
theorem m_rp_fail (H : MSt tp L ord h0 h p n K Ka P w od) (nb : isSg tp L p 91 = false) (c : w = 50 ∨ (wsIdx tp L p (wdW ord) = none ∧ ¬ (tkK tp L p = 1 ∧ numM tp L p ≤ 1000))) : ∃ h', D_X11_readPart h (some 81) = some (3, h') ∧ MFl h0 h' p := by
  have kb := tkK_b (tp := tp) (L := L) (p := p)
  have fin : ∀ (x : Bool) (o a l1 : Int32), x = false ∨ w = 50 → ∃ h', D_X11_readPart_99 h (some 81) l1 (some 81) (b01 x) o a = some (3, h') ∧ MFl h0 h' p := fun x o a l1 hx => by
    obtain ⟨h1, d1, M1⟩ := H.leaf0 x hx o a
    exact ⟨h1, m_99 H.sh d1 M1.1.1 (Or.inr (Or.inr M1.2.2.1)), M1⟩
  rw [H.rp nb]
  cases e : wsIdx tp L p (wdW ord) with
  | some k =>
    have hk := wsIdx_lt e
    have w50 : w = 50 := by rcases c with z | z; exact z; rw [e] at z; cases z.1
    have l9 : k < 9 := by
      have := hk.1
      unfold wdW at this
      split at this
      · have h8 : wdOW.length = 8 := rfl
        omega
      · have h9 : wdLW.length = 9 := rfl
        omega
    have ne : ¬ enc1 (some k) = -1 := of_nm1 (by omega)
    unfold D_X11_readPart_35 D_X11_readPart_59 D_X11_readPart_60 D_X11_readPart_71 D_X11_readPart_76 D_X11_readPart_86
    rw [H.srt, Option.bind_some, if_neg (show ¬ Int32.ofNat (srtN (tkK tp L p)) = 2 by rw [hk.2]; decide), if_neg ne, if_neg ne, if_pos rfl]
    exact fin true _ _ _ (Or.inr w50)
  | none =>
    unfold D_X11_readPart_35 D_X11_readPart_59 D_X11_readPart_60 D_X11_readPart_71 D_X11_readPart_76 D_X11_readPart_86
    rw [H.srt, Option.bind_some]
    by_cases k : tkK tp L p = 1
    · rw [if_pos (show Int32.ofNat (srtN (tkK tp L p)) = 2 by rw [k]; rfl), H.wrtJ k, Option.bind_some]
      have nl := numM_le H.2.2.2.1.1 k
      by_cases r : numM tp L p ≤ 1000
      · have w50 : w = 50 := by rcases c with z | z; exact z; exact absurd ⟨k, r⟩ z.2
        rw [if_neg (show ¬ 0 < lg_cmp (Int64.ofNat (numM tp L p)) 1000 from fun z => by
          have := (lg_pos _ _).mp z
          rw [J_int (by omega)] at this
          have : (1000 : Int) < _ := this
          omega), if_pos (show enc1 none = -1 from rfl), if_neg one_ne, if_pos (show enc1 none = -1 from rfl), if_neg one_ne, Option.bind_some]
        exact fin true _ _ _ (Or.inr w50)
      · rw [if_pos (show 0 < lg_cmp (Int64.ofNat (numM tp L p)) 1000 from (lg_pos _ _).mpr (by
          rw [J_int (by omega)]
          show (1000 : Int) < _
          omega)), if_pos (show enc1 none = -1 from rfl), if_pos rfl, if_pos (show enc1 none = -1 from rfl), if_pos rfl]
        exact fin false _ _ _ (Or.inl rfl)
    · rw [if_neg (show ¬ Int32.ofNat (srtN (tkK tp L p)) = 2 from fun z => k (by have := (srt_eq (c := 2) kb (by decide)).mp z; unfold srtN at this; split at this <;> omega)), if_pos (show enc1 none = -1 from rfl), if_pos rfl, if_pos (show enc1 none = -1 from rfl), if_pos rfl]
      exact fin false _ _ _ (Or.inl rfl)
/-- a word: down to what stands behind the leaf -/
theorem m_rp_99 (H : MSt tp L ord h0 h p n K Ka P w od) (nb : isSg tp L p 91 = false) {k : Nat} (e : wsIdx tp L p (wdW ord) = some k) (k9 : k < 9) : D_X11_readPart h (some 81) = D_X11_readPart_99 h (some 81) (Int32.ofNat (k + 1)) (some 81) 1 (Int32.ofNat (k + 1)) 0 := by
  have ne : ¬ enc1 (some k) = -1 := of_nm1 (by omega)
  rw [H.rp nb, e]
  unfold D_X11_readPart_35 D_X11_readPart_59 D_X11_readPart_60 D_X11_readPart_71 D_X11_readPart_76 D_X11_readPart_86
  rw [H.srt, Option.bind_some, if_neg (show ¬ Int32.ofNat (srtN (tkK tp L p)) = 2 by rw [(wsIdx_lt e).2]; decide), if_neg ne, if_neg ne, if_pos rfl]
  rfl
theorem m_rp_word (H : MSt tp L ord h0 h p n K Ka P w od) (nb : isSg tp L p 91 = false) {k : Nat} (e : wsIdx tp L p (wdW ord) = some k) (c : ord = false ∧ k < 9 ∨ k < 5) (hw : w < 50) (B : Bu n P p) : ∃ h', D_X11_readPart h (some 81) = some (3, h') ∧ MSt tp L ord h0 h' (tkN tp L p) (n + 1) (upd K n (Int32.ofNat (k + 1))) (upd Ka n 0) P (w + 1) od ∧ Bu (n + 1) P (tkN tp L p) := by
  have hp : p < L := tk_lt (tp := tp) (by rw [(wsIdx_lt e).2]; decide)
  obtain ⟨h1, d1, M1, B1⟩ := H.leaf1 hw hp B (Int32.ofNat (k + 1)) 0
  refine ⟨h1, ?_, M1, B1⟩
  rw [m_rp_99 H nb e (by omega)]
  refine m_99 H.sh d1 M1.sh ?_
  rcases c with c | c
  · left; rw [M1.2.2.2.2.2.2.2.1, c.1]; rfl
  · right; left; exact (nat_lt (b := 6) (by omega) (by decide)).mpr (by omega)
theorem m_rp_wordP (H : MSt tp L true h0 h p n K Ka P w od) (nb : isSg tp L p 91 = false) {k : Nat} (e : wsIdx tp L p (wdW true) = some k) (k5 : 5 ≤ k) (k8 : k < 8) (hw : w < 50) (B : Bu n P p) : ((tkK tp L (tkN tp L p) = 1 ∧ numM tp L (tkN tp L p) ≤ 5) ∧ ∃ h', D_X11_readPart h (some 81) = some (3, h') ∧ MSt tp L true h0 h' (tkN tp L (tkN tp L p)) (n + 1) (upd K n (Int32.ofNat (k + 1))) (upd Ka n (Int32.ofNat (numM tp L (tkN tp L p)))) P (w + 1) od ∧ Bu (n + 1) P (tkN tp L (tkN tp L p))) ∨ (¬ (tkK tp L (tkN tp L p) = 1 ∧ numM tp L (tkN tp L p) ≤ 5) ∧ ∃ h', D_X11_readPart h (some 81) = some (3, h') ∧ MFl h0 h' (tkN tp L p)) := by
  have hp : p < L := tk_lt (tp := tp) (by rw [(wsIdx_lt e).2]; decide)
  have hL := H.2.2.1.1
  obtain ⟨h1, d1, M1, B1⟩ := H.leaf1 hw hp B (Int32.ofNat (k + 1)) 0
  have nb1 := tkN_b (tp := tp) M1.2.2.2.1.1
  have nl : n < 400 := by have := M1.1.2.2.2.2.2.2.2.1; omega
  have pre : D_X11_readPart h (some 81) = (D_X11_number h1 (some 81) (Int64.ofNat 0) (Int64.ofNat 5)).bind fun x => (z_sI x.2 (some 93) (Int32.ofNat n) x.1).bind fun y => some (3, y) := by
    rw [m_rp_99 H nb e (by omega)]
    unfold D_X11_readPart_99
    rw [o81 H.sh, Option.bind_some, d1, Option.bind_some, s_gI M1.sh (ci := 11) rfl rfl, Option.bind_some, M1.2.2.2.2.2.2.2.1, if_neg (show ¬ b01 true = 0 by decide), if_neg (show ¬ Int32.ofNat (k + 1) < 6 from fun z => by have := (nat_lt (b := 6) (by omega) (by decide)).mp z; omega), M1.bad, Option.bind_some, if_pos rfl, s_gI M1.sh (ci := 11) rfl rfl, Option.bind_some, M1.1.2.1, Option.bind_some, show Int32.ofNat (n + 1) - 1 = Int32.ofNat n from sc_sub (k := 1) (by omega), s_gQ (r := 93) M1.sh rfl rfl, Option.bind_some, o81 M1.sh, Option.bind_some]
    rfl
  rcases M1.num (lo := 0) (hi := 5) (by decide) (by decide) with ⟨⟨a, b, c⟩, h2, d2, M2⟩ | ⟨a, v, h2, d2, M2⟩
  · left
    refine ⟨⟨a, c⟩, wA h2 93 (upd (aI h2 93) n (Int32.ofNat (numM tp L (tkN tp L p)))), ?_, ?_, ?_⟩
    · rw [pre, d2, Option.bind_some]
      dsimp only
      rw [aW M2.sh (n := 400) rfl nl (by decide), Option.bind_some]
    · have oA := onA M2.sh (a := 93) (S := KMc) (ks := []) rfl (by decide) (upd (aI h2 93) n (Int32.ofNat (numM tp L (tkN tp L p))))
      have S2 := M2.1
      have e93 : upd (aI h2 93) n (Int32.ofNat (numM tp L (tkN tp L p))) = upd Ka n (Int32.ofNat (numM tp L (tkN tp L p))) := by
        rw [S2.2.2.2.1]
        funext i
        by_cases z : i = n
        · rw [z, upd_eq, upd_eq]
        · rw [upd_ne z, upd_ne z, upd_ne z]
      exact ⟨⟨oA.1, (oA.2.2 23 (by decide)).1.trans S2.2.1, by rw [aI_wA_ne (by decide)]; exact S2.2.2.1, by rw [aI_wA_eq M2.sh rfl]; exact e93, (oA.2.2 29 (by decide)).1.trans S2.2.2.2.2.1, by rw [aI_wA_ne (by decide), aI_wA_ne (by decide)]; exact S2.2.2.2.2.2.1, S2.2.2.2.2.2.2⟩, M2.2.1.trans (oA.mono (by decide) (by decide)), M2.2.2.1.on oA (by decide) (by decide), M2.2.2.2.1.on oA (by decide), (oA.2.2 26 (by decide)).1.trans M2.2.2.2.2.1, (oA.2.2 30 (by decide)).1.trans M2.2.2.2.2.2.1, (oA.2.2 19 (by decide)).1.trans M2.2.2.2.2.2.2.1, (oA.2.2 20 (by decide)).1.trans M2.2.2.2.2.2.2.2.1, M2.2.2.2.2.2.2.2.2.1, (oA.2.2 18 (by decide)).1.trans M2.2.2.2.2.2.2.2.2.2.1, M2.2.2.2.2.2.2.2.2.2.2⟩
    · have h1 := B1.1
      have h2 := B1.2
      exact ⟨by omega, by omega⟩
  · right
    refine ⟨fun z => a ⟨z.1, Nat.zero_le _, z.2⟩, wA h2 93 (upd (aI h2 93) n v), ?_, ?_⟩
    · rw [pre, d2, Option.bind_some]
      dsimp only
      rw [aW M2.1.1 (n := 400) rfl nl (by decide), Option.bind_some]
    · obtain ⟨oo, ⟨n', K', Ka', P', S2⟩, e19, e18⟩ := M2
      have oA := onA oo.1 (a := 93) (S := KMc) (ks := []) rfl (by decide) (upd (aI h2 93) n v)
      exact ⟨oo.trans (oA.mono (by decide) (by decide)), ⟨n', K', _, P', oA.1, (oA.2.2 23 (by decide)).1.trans S2.2.1, by rw [aI_wA_ne (by decide)]; exact S2.2.2.1, rfl, (oA.2.2 29 (by decide)).1.trans S2.2.2.2.2.1, by rw [aI_wA_ne (by decide), aI_wA_ne (by decide)]; exact S2.2.2.2.2.2.1, S2.2.2.2.2.2.2⟩, (oA.2.2 19 (by decide)).1.trans e19, (oA.2.2 18 (by decide)).1.trans e18⟩
end S8
