/-! the reference's reader: its state, its small steps -/
section RS
variable {tp : Nat → Nat} {L : Nat} {ord : Bool} {h0 h : z_H} {p n w q od : Nat} {K Ka : Nat → Int32} {P : List (Nat × Nat)}
def KMf : List Nat := [14, 15, 16, 17, 18, 19, 23, 26, 29, 30]
def KMc : List Nat := [81, 92, 93, 94, 95]
def MSt (tp : Nat → Nat) (L : Nat) (ord : Bool) (h0 h : z_H) (p n : Nat) (K Ka : Nat → Int32) (P : List (Nat × Nat)) (w od : Nat) : Prop := STm h n K Ka P ∧ OnM KMc KMf h0 h ∧ TpM tp L h ∧ TokM tp L h p ∧ fI h 81 26 = Int32.ofNat w ∧ fI h 81 30 = Int32.ofNat od ∧ fI h 81 19 = 0 ∧ fI h 81 20 = b01 ord ∧ Cnst h0 ∧ fI h 81 18 = fI h0 81 18 ∧ w ≤ 50 ∧ od ≤ 8
def Bu (n : Nat) (P : List (Nat × Nat)) (p : Nat) : Prop := n + pend P ≤ p ∧ P.length ≤ p
def MFl (h0 h : z_H) (q : Nat) : Prop := OnM KMc KMf h0 h ∧ (∃ n K Ka P, STm h n K Ka P) ∧ fI h 81 19 = 1 ∧ fI h 81 18 = Int32.ofNat q
theorem STm.on {S ks : List Nat} {h' : z_H} (H : STm h n K Ka P) (o : OnM S ks h h') (h1 : 23 ∉ ks) (h2 : 29 ∉ ks) (c1 : 92 ∉ S) (c2 : 93 ∉ S) (c3 : 94 ∉ S) (c4 : 95 ∉ S) : STm h' n K Ka P :=
  ⟨o.1, (o.2.2 23 h1).1.trans H.2.1, by rw [cell_aI (o.2.1.c c1)]; exact H.2.2.1, by rw [cell_aI (o.2.1.c c2)]; exact H.2.2.2.1, (o.2.2 29 h2).1.trans H.2.2.2.2.1, by rw [cell_aI (o.2.1.c c3), cell_aI (o.2.1.c c4)]; exact H.2.2.2.2.2.1, H.2.2.2.2.2.2⟩
theorem o81 (hs : Sh h) : z_ob 11 h (some 81) = some (flds h 81) := s_ob hs rfl
theorem MSt.sh (H : MSt tp L ord h0 h p n K Ka P w od) : Sh h := H.1.1
theorem MSt.next (H : MSt tp L ord h0 h p n K Ka P w od) : ∃ h', D_X11_next h (some 81) = some h' ∧ MSt tp L ord h0 h' (tkN tp L p) n K Ka P w od := by
  obtain ⟨S, o, t, k, e26, e30, e19, e20, c, e18, hw, ho⟩ := H
  obtain ⟨h', o', k', d⟩ := m_next S.1 t k
  exact ⟨h', d, S.on o' (by decide) (by decide) (by decide) (by decide) (by decide) (by decide), o.trans (o'.mono (by decide) (by decide)), t.on o' (by decide) (by decide), k', (o'.2.2 26 (by decide)).1.trans e26, (o'.2.2 30 (by decide)).1.trans e30, (o'.2.2 19 (by decide)).1.trans e19, (o'.2.2 20 (by decide)).1.trans e20, c, (o'.2.2 18 (by decide)).1.trans e18, hw, ho⟩
theorem MSt.must1 (H : MSt tp L ord h0 h p n K Ka P w od) : ∃ h', D_X11_must h (some 81) 1 = some h' ∧ MSt tp L ord h0 h' (tkN tp L p) n K Ka P w od := by
  obtain ⟨h', d, N⟩ := H.next
  refine ⟨h', ?_, N⟩
  have e19 := H.2.2.2.2.2.2.1
  unfold D_X11_must D_X11_must_24
  simp only [s_gI H.sh (ci := 11) (a := 81) (k := 19) rfl rfl, e19, Option.bind_some, o81 H.sh, d]
  rw [if_pos trivial, if_neg one_ne, if_pos trivial]
theorem MSt.must0 (H : MSt tp L ord h0 h p n K Ka P w od) : ∃ h', D_X11_must h (some 81) 0 = some h' ∧ MFl h0 h' p := by
  obtain ⟨S, o, t, k, e26, e30, e19, e20, c, e18, hw, ho⟩ := H
  have o1 := onMF S.1 (k := 19) rfl (S := KMc) (ks := [18, 19]) (by decide) (by decide) 1
  have o2 := onMF o1.1 (k := 18) rfl (S := KMc) (ks := [18, 19]) (by decide) (by decide) (Int32.ofNat p)
  have oo := o1.trans o2
  have e14 : fI (wF h 81 19 (.int 1)) 81 14 = Int32.ofNat p := by rw [fI_wF_ne (by decide)]; exact k.2.1
  have x19 : fI (wF (wF h 81 19 (.int 1)) 81 18 (.int (Int32.ofNat p))) 81 19 = 1 := by rw [fI_wF_ne (by decide)]; exact fI_wF_eq S.1 rfl _
  refine ⟨_, ?_, o.trans (oo.mono (by decide) (by decide)), ⟨n, K, Ka, P, oo.1, by rw [fI_wF_ne (by decide), fI_wF_ne (by decide)]; exact S.2.1, by rw [aI_wF, aI_wF]; exact S.2.2.1, by rw [aI_wF, aI_wF]; exact S.2.2.2.1, by rw [fI_wF_ne (by decide), fI_wF_ne (by decide)]; exact S.2.2.2.2.1, by rw [aI_wF, aI_wF, aI_wF, aI_wF]; exact S.2.2.2.2.2.1, S.2.2.2.2.2.2⟩, x19, fI_wF_eq o1.1 rfl _⟩
  unfold D_X11_must D_X11_must_24
  rw [s_gI S.1 (ci := 11) rfl rfl, Option.bind_some, e19, if_pos rfl, if_pos rfl, s_pV S.1 (ci := 11) rfl (by decide), Option.bind_some, s_gI o1.1 (ci := 11) rfl rfl, Option.bind_some, e14, s_pV o1.1 (ci := 11) rfl (by decide), Option.bind_some, s_gI o2.1 (ci := 11) rfl rfl, Option.bind_some, x19, if_neg one_ne]
theorem MSt.push (H : MSt tp L ord h0 h p n K Ka P w od) {o a : Nat} (ho : 20 ≤ o ∧ o ≤ 32) (ha : (o = 29 ∨ o = 30) → a < n) (hb : n + pend ((o, a) :: P) ≤ 400) (hl : P.length < 400) : ∃ h', D_X11_push h (some 81) (Int32.ofNat o) (Int32.ofNat a) = some h' ∧ MSt tp L ord h0 h' p n K Ka ((o, a) :: P) w od := by
  obtain ⟨S, oo, t, k, e26, e30, e19, e20, c, e18, hw, hod⟩ := H
  obtain ⟨h', d, o', x29, x94, x95⟩ := m_pushD S.1 S.2.2.2.2.1 hl (Int32.ofNat o) (Int32.ofNat a)
  refine ⟨h', d, ⟨o'.1, (o'.2.2 23 (by decide)).1.trans S.2.1, by rw [cell_aI (o'.2.1.c (by decide))]; exact S.2.2.1, by rw [cell_aI (o'.2.1.c (by decide))]; exact S.2.2.2.1, x29, ⟨by rw [x94, upd_eq], by rw [x95, upd_eq], by rw [x94, x95]; exact PileR_upd (Nat.le_refl _) S.2.2.2.2.2.1⟩, ⟨⟨ho.1, ho.2, ha⟩, S.2.2.2.2.2.2.1⟩, hb, hl⟩, oo.trans (o'.mono (by decide) (by decide)), t.on o' (by decide) (by decide), k.on o' (by decide), (o'.2.2 26 (by decide)).1.trans e26, (o'.2.2 30 (by decide)).1.trans e30, (o'.2.2 19 (by decide)).1.trans e19, (o'.2.2 20 (by decide)).1.trans e20, c, (o'.2.2 18 (by decide)).1.trans e18, hw, hod⟩
theorem MSt.emit (H : MSt tp L ord h0 h p n K Ka P w od) (o a : Int32) (hb : n + 1 + pend P ≤ 400) : ∃ h', D_X11_emit h (some 81) o a = some h' ∧ MSt tp L ord h0 h' p (n + 1) (upd K n o) (upd Ka n a) P w od := by
  obtain ⟨S, oo, t, k, e26, e30, e19, e20, c, e18, hw, hod⟩ := H
  obtain ⟨h', d, o', x23, x92, x93⟩ := m_emitD S.1 S.2.1 (by omega) o a
  refine ⟨h', d, ⟨o'.1, x23, by rw [x92, S.2.2.1], by rw [x93, S.2.2.2.1], (o'.2.2 29 (by decide)).1.trans S.2.2.2.2.1, by rw [cell_aI (o'.2.1.c (by decide)), cell_aI (o'.2.1.c (by decide))]; exact S.2.2.2.2.2.1, pOK_mono (by omega) S.2.2.2.2.2.2.1, hb, S.2.2.2.2.2.2.2.2⟩, oo.trans (o'.mono (by decide) (by decide)), t.on o' (by decide) (by decide), k.on o' (by decide), (o'.2.2 26 (by decide)).1.trans e26, (o'.2.2 30 (by decide)).1.trans e30, (o'.2.2 19 (by decide)).1.trans e19, (o'.2.2 20 (by decide)).1.trans e20, c, (o'.2.2 18 (by decide)).1.trans e18, hw, hod⟩
/-- push and emit: an "and", an "or" -/
theorem MSt.both (H : MSt tp L ord h0 h p n K Ka P w od) {o : Nat} (ho : o = 29 ∨ o = 30) (hb : n + 1 + pend P ≤ 400) (hl : P.length < 400) : ∃ h1 h2, D_X11_push h (some 81) (Int32.ofNat o) (Int32.ofNat n) = some h1 ∧ Sh h1 ∧ D_X11_emit h1 (some 81) (Int32.ofNat o) 0 = some h2 ∧ MSt tp L ord h0 h2 p (n + 1) (upd K n (Int32.ofNat o)) (upd Ka n 0) ((o, n) :: P) w od := by
  obtain ⟨S, oo, t, k, e26, e30, e19, e20, c, e18, hw, hod⟩ := H
  obtain ⟨h1, d1, o1, x29, x94, x95⟩ := m_pushD S.1 S.2.2.2.2.1 hl (Int32.ofNat o) (Int32.ofNat n)
  obtain ⟨h2, d2, o2, x23, x92, x93⟩ := m_emitD o1.1 ((o1.2.2 23 (by decide)).1.trans S.2.1) (by omega) (Int32.ofNat o) 0
  have pd : pend ((o, n) :: P) = pend P := by
    show (if 29 ≤ o then 0 else 1) + pend P = _
    rw [if_pos (by omega)]; omega
  have oA := (o1.mono (S' := KMc) (ks' := [23, 29]) (by decide) (by decide)).trans (o2.mono (S' := KMc) (ks' := [23, 29]) (by decide) (by decide))
  have c94 : aI h2 94 = upd (aI h 94) P.length (Int32.ofNat o) := by rw [cell_aI (o2.2.1.c (by decide)), x94]
  have c95 : aI h2 95 = upd (aI h 95) P.length (Int32.ofNat n) := by rw [cell_aI (o2.2.1.c (by decide)), x95]
  refine ⟨h1, h2, d1, o1.1, d2, ⟨o2.1, x23, by rw [x92, cell_aI (o1.2.1.c (by decide)), S.2.2.1], by rw [x93, cell_aI (o1.2.1.c (by decide)), S.2.2.2.1], (o2.2.2 29 (by decide)).1.trans x29, ⟨by rw [c94, upd_eq], by rw [c95, upd_eq], by rw [c94, c95]; exact PileR_upd (Nat.le_refl _) S.2.2.2.2.2.1⟩, ⟨⟨by omega, by omega, fun _ => by omega⟩, pOK_mono (by omega) S.2.2.2.2.2.2.1⟩, by omega, hl⟩, oo.trans (oA.mono (by decide) (by decide)), t.on oA (by decide) (by decide), k.on oA (by decide), (oA.2.2 26 (by decide)).1.trans e26, (oA.2.2 30 (by decide)).1.trans e30, (oA.2.2 19 (by decide)).1.trans e19, (oA.2.2 20 (by decide)).1.trans e20, c, (oA.2.2 18 (by decide)).1.trans e18, hw, hod⟩
theorem flu_bud {lv : Nat} : ∀ (P : List (Nat × Nat)) (n : Nat) (K Ka : Nat → Int32), 1 ≤ lv → (flu lv P n K Ka).2.1 + pend (flu lv P n K Ka).1 = n + pend P ∧ (flu lv P n K Ka).1.length ≤ P.length ∧ n ≤ (flu lv P n K Ka).2.1 := by
  intro P
  induction P with
  | nil => intro n K Ka _; exact ⟨rfl, Nat.le_refl _, Nat.le_refl _⟩
  | cons x r ih =>
    intro n K Ka hl
    obtain ⟨o, a⟩ := x
    by_cases c : bnd o < lv
    · rw [flu_id (P := (o, a) :: r) c]; exact ⟨rfl, Nat.le_refl _, Nat.le_refl _⟩
    · by_cases d : o = 29 ∨ o = 30
      · rw [flu_ld c d]
        obtain ⟨h1, h2, h3⟩ := ih n K (upd Ka a (Int32.ofNat n)) hl
        have pd : pend ((o, a) :: r) = pend r := by
          show (if 29 ≤ o then 0 else 1) + pend r = _
          rw [if_pos (by omega)]; omega
        have : ((o, a) :: r).length = r.length + 1 := rfl
        omega
      · have o29 : o < 29 := by
          rcases (show o < 29 ∨ o = 29 ∨ o = 30 ∨ 31 ≤ o by omega) with z | z | z | z
          · exact z
          · exact absurd (Or.inl z) d
          · exact absurd (Or.inr z) d
          · exfalso; apply c; unfold bnd; rw [if_pos z]; omega
        rw [flu_em c o29]
        obtain ⟨h1, h2, h3⟩ := ih (n + 1) (upd K n (Int32.ofNat o)) (upd Ka n 0) hl
        have pd : pend ((o, a) :: r) = 1 + pend r := by
          show (if 29 ≤ o then 0 else 1) + pend r = _
          rw [if_neg (by omega)]
        have : ((o, a) :: r).length = r.length + 1 := rfl
        omega
theorem MSt.settle (H : MSt tp L ord h0 h p n K Ka P w od) {lv n' : Nat} {K' Ka' : Nat → Int32} {P' : List (Nat × Nat)} (h1 : 1 ≤ lv) (h6 : lv ≤ 6) (e : flu lv P n K Ka = (P', n', K', Ka')) : ∃ h', D_X11_settle h (some 81) (Int32.ofNat lv) = some h' ∧ MSt tp L ord h0 h' p n' K' Ka' P' w od := by
  obtain ⟨S, oo, t, k, e26, e30, e19, e20, c, e18, hw, hod⟩ := H
  obtain ⟨h', o', d, S'⟩ := m_settle h1 h6 S
  rw [e] at S'
  exact ⟨h', d, S', oo.trans (o'.mono (by decide) (by decide)), t.on o' (by decide) (by decide), k.on o' (by decide), (o'.2.2 26 (by decide)).1.trans e26, (o'.2.2 30 (by decide)).1.trans e30, (o'.2.2 19 (by decide)).1.trans e19, (o'.2.2 20 (by decide)).1.trans e20, c, (o'.2.2 18 (by decide)).1.trans e18, hw, hod⟩
/-- a bracket is closed: the pile's top goes, one is open less -/
theorem MSt.pop (H : MSt tp L ord h0 h p n K Ka P w od) {o a : Nat} {r : List (Nat × Nat)} (e : P = (o, a) :: r) (hb : 31 ≤ o) (h1 : 1 ≤ od) : ∃ h1 h2, z_gI 11 h (some 81) 29 = some (Int32.ofNat P.length) ∧ z_pV 11 h (some 81) 29 (.int (Int32.ofNat P.length - 1)) = some h1 ∧ z_gI 11 h1 (some 81) 30 = some (Int32.ofNat od) ∧ z_pV 11 h1 (some 81) 30 (.int (Int32.ofNat od - 1)) = some h2 ∧ MSt tp L ord h0 h2 p n K Ka r w (od - 1) := by
  obtain ⟨S, oo, t, k, e26, e30, e19, e20, c, e18, hw, hod⟩ := H
  subst e
  have hs := S.1
  have e29 : fI h 81 29 = Int32.ofNat (r.length + 1) := S.2.2.2.2.1
  have o1 := onMF hs (k := 29) rfl (S := KMc) (ks := [29, 30]) (by decide) (by decide) (Int32.ofNat r.length)
  have f30 : fI (wF h 81 29 (.int (Int32.ofNat r.length))) 81 30 = Int32.ofNat od := by rw [fI_wF_ne (by decide)]; exact e30
  have o2 := onMF o1.1 (k := 30) rfl (S := KMc) (ks := [29, 30]) (by decide) (by decide) (Int32.ofNat (od - 1))
  have oA := o1.trans o2
  have f29 : fI (wF (wF h 81 29 (.int (Int32.ofNat r.length))) 81 30 (.int (Int32.ofNat (od - 1)))) 81 29 = Int32.ofNat r.length := by rw [fI_wF_ne (by decide)]; exact fI_wF_eq hs rfl _
  have g30 : fI (wF (wF h 81 29 (.int (Int32.ofNat r.length))) 81 30 (.int (Int32.ofNat (od - 1)))) 81 30 = Int32.ofNat (od - 1) := fI_wF_eq o1.1 rfl _
  have fa : ∀ b, aI (wF (wF h 81 29 (.int (Int32.ofNat r.length))) 81 30 (.int (Int32.ofNat (od - 1)))) b = aI h b := fun b => by rw [aI_wF, aI_wF]
  have pd : pend ((o, a) :: r) = pend r := by
    show (if 29 ≤ o then 0 else 1) + pend r = _
    rw [if_pos (by omega)]; omega
  have hb' := S.2.2.2.2.2.2.2.1
  have hl' : r.length + 1 ≤ 400 := S.2.2.2.2.2.2.2.2
  refine ⟨wF h 81 29 (.int (Int32.ofNat r.length)), wF (wF h 81 29 (.int (Int32.ofNat r.length))) 81 30 (.int (Int32.ofNat (od - 1))), ?_, ?_, ?_, ?_, ⟨oA.1, (oA.2.2 23 (by decide)).1.trans S.2.1, by rw [fa]; exact S.2.2.1, by rw [fa]; exact S.2.2.2.1, f29, by rw [fa, fa]; exact S.2.2.2.2.2.1.2.2, S.2.2.2.2.2.2.1.2, by omega, by omega⟩, oo.trans (oA.mono (by decide) (by decide)), t.on oA (by decide) (by decide), k.on oA (by decide), (oA.2.2 26 (by decide)).1.trans e26, g30, (oA.2.2 19 (by decide)).1.trans e19, (oA.2.2 20 (by decide)).1.trans e20, c, (oA.2.2 18 (by decide)).1.trans e18, hw, by omega⟩
  · rw [s_gI hs (ci := 11) rfl rfl, e29]; rfl
  · rw [show Int32.ofNat ((o, a) :: r).length - 1 = Int32.ofNat r.length from sc_sub (i := r.length + 1) (k := 1) (by omega)]
    exact s_pV hs (ci := 11) rfl (by decide) _
  · rw [s_gI o1.1 (ci := 11) rfl rfl, f30]
  · rw [show Int32.ofNat od - 1 = Int32.ofNat (od - 1) from sc_sub (k := 1) h1]
    exact s_pV o1.1 (ci := 11) rfl (by decide) _
theorem MSt.sg (H : MSt tp L ord h0 h p n K Ka P w od) {c : Nat} (hc : c ≤ 255) : D_X11_isSign h (some 81) (Int32.ofNat c) = some (b01 (isSg tp L p c), h) := m_isSg hc H.sh H.2.2.1 H.2.2.2.1
theorem MSt.bad (H : MSt tp L ord h0 h p n K Ka P w od) : z_gI 11 h (some 81) 19 = some 0 := by rw [s_gI H.sh (ci := 11) rfl rfl, H.2.2.2.2.2.2.1]
theorem MFl.bad (H : MFl h0 h q) : z_gI 11 h (some 81) 19 = some 1 := by rw [s_gI H.1.1 (ci := 11) rfl rfl, H.2.2.1]
/-! which word: the reference's loops -/
theorem fnd_ge {e : Nat} : ∀ (ws : List (List Nat)) (b k : Nat), fnd tp p e ws b = some k → b ≤ k := by
  intro ws
  induction ws with
  | nil => intro b k h; cases h
  | cons v ws ih =>
    intro b k h
    have h' : (if tis tp p e v = true then some b else fnd tp p e ws (b + 1)) = some k := h
    by_cases c : tis tp p e v = true
    · rw [if_pos c] at h'; cases h'; exact Nat.le_refl _
    · rw [if_neg c] at h'
      have := ih _ _ h'
      omega
theorem fnd_iff {e : Nat} (hpe : p ≤ e) : ∀ (ws : List (List Nat)) (b k : Nat), ws.Nodup → k < ws.length → (tis tp p e (ws.getD k []) = true ↔ fnd tp p e ws b = some (b + k)) := by
  intro ws
  induction ws with
  | nil => intro b k _ h; simp at h
  | cons v ws ih =>
    intro b k nd hk
    show _ ↔ (if tis tp p e v = true then some b else fnd tp p e ws (b + 1)) = some (b + k)
    have nd' := List.nodup_cons.mp nd
    cases k with
    | zero =>
      show tis tp p e v = true ↔ _
      by_cases c : tis tp p e v = true
      · rw [if_pos c]; simp [c]
      · rw [if_neg c]
        constructor
        · intro z; exact absurd z c
        · intro z
          have := fnd_ge _ _ _ z
          omega
    | succ k =>
      have hk' : k < ws.length := by simpa using hk
      show tis tp p e (ws.getD k []) = true ↔ _
      by_cases c : tis tp p e v = true
      · rw [if_pos c]
        constructor
        · intro z
          exfalso
          have := tis_one hpe c z
          apply nd'.1
          rw [this, List.getD_eq_getElem?_getD, List.getElem?_eq_getElem hk']
          exact List.getElem_mem _
        · intro z
          have := Option.some.inj z
          omega
      · rw [if_neg c, ih (b + 1) k nd'.2 hk', show b + 1 + k = b + (k + 1) by omega]
theorem isW_iff {ws : List (List Nat)} (hp : p ≤ L) (nd : ws.Nodup) {k : Nat} (hk : k < ws.length) : isW tp L p (ws.getD k []) = true ↔ wsIdx tp L p ws = some k := by
  have eb := tkE_b (tp := tp) hp
  unfold isW wsIdx
  by_cases c : tkK tp L p = 0
  · rw [decide_eq_true c, Bool.true_and, if_pos c, fnd_iff eb.1 ws 0 k nd hk, Nat.zero_add]
  · rw [decide_eq_false c, Bool.false_and, if_neg c]
    constructor
    · intro z; cases z
    · intro z; cases z
theorem wsIdx_lt {ws : List (List Nat)} {k : Nat} (h : wsIdx tp L p ws = some k) : k < ws.length ∧ tkK tp L p = 0 := by
  unfold wsIdx at h
  by_cases c : tkK tp L p = 0
  · rw [if_pos c] at h
    refine ⟨?_, c⟩
    have : ∀ (ws : List (List Nat)) (b : Nat), fnd tp p (tkE tp L p) ws b = some k → k < b + ws.length := by
      intro ws
      induction ws with
      | nil => intro b h; cases h
      | cons v ws ih =>
        intro b h
        have h' : (if tis tp p (tkE tp L p) v = true then some b else fnd tp p (tkE tp L p) ws (b + 1)) = some k := h
        by_cases c : tis tp p (tkE tp L p) v = true
        · rw [if_pos c] at h'
          have := Option.some.inj h'
          simp; omega
        · rw [if_neg c] at h'
          have := ih _ h'
          simp; omega
    have := this ws 0 h
    omega
  · rw [if_neg c] at h; cases h
/-- the index, so far as the first i words go -/
def soFar (x : Option Nat) (i : Nat) : Option Nat := match x with
  | some k => if k < i then some k else none
  | none => none
theorem soFar_step {ws : List (List Nat)} (hp : p ≤ L) (nd : ws.Nodup) {i : Nat} (hi : i < ws.length) : soFar (wsIdx tp L p ws) (i + 1) = if isW tp L p (ws.getD i []) = true then some i else soFar (wsIdx tp L p ws) i := by
  have := isW_iff (tp := tp) hp nd hi
  cases e : wsIdx tp L p ws with
  | none =>
    rw [e] at this
    rw [if_neg (fun z => by have := this.mp z; cases this)]
    rfl
  | some k =>
    rw [e] at this
    show (if k < i + 1 then some k else none) = (if _ then _ else (if k < i then some k else none))
    by_cases c : k = i
    · subst c
      rw [if_pos (by omega), if_pos (this.mpr rfl)]
    · rw [if_neg (show ¬ isW tp L p (ws.getD i []) = true from fun z => by have := Option.some.inj (this.mp z); omega)]
      by_cases d : k < i
      · rw [if_pos (by omega), if_pos d]
      · rw [if_neg (by omega), if_neg d]
theorem soFar_all {ws : List (List Nat)} : soFar (wsIdx tp L p ws) ws.length = wsIdx tp L p ws := by
  cases e : wsIdx tp L p ws with
  | none => rfl
  | some k =>
    show (if k < ws.length then some k else none) = _
    rw [if_pos (wsIdx_lt e).1]
end RS
