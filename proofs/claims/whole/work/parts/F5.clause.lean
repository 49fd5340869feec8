/-! both readers: what a CLAUSE is made of -/
section F5
variable {tp : Nat → Nat} {L : Nat} {ord : Bool} {g0 g h0 h : z_H} {p n nM w q : Nat} {op ar K Ka : Nat → Int32}
def LC : List Nat := [23, 25, 26, 27, 28]
def LMc : List Nat := [81, 91, 92, 93, 94, 95, 112]
def LMf : List Nat := [14, 15, 16, 17, 18, 19, 21, 23, 26, 29, 30]
def CX (L : Nat) (g0 g : z_H) (q : Nat) : Prop := Sh g ∧ Tch LC g0 g ∧ fI g 23 3 = Int32.ofNat q ∧ fI g 23 2 = Int32.ofNat L
def MX (h0 h : z_H) (q : Nat) : Prop := OnM LMc LMf h0 h ∧ fI h 81 19 = 1 ∧ fI h 81 18 = Int32.ofNat q
theorem CFl.cx (H : CFl L g0 g q) {gA : z_H} (T : Tch LC gA g0) : CX L gA g q := ⟨H.1, T.trans (H.2.1.mono (by decide)), H.2.2.1, H.2.2.2.2⟩
theorem MFl.mx (H : MFl h0 h q) {hA : z_H} (o : OnM LMc LMf hA h0) : MX hA h q := ⟨o.trans (H.1.mono (by decide) (by decide)), H.2.2.1, H.2.2.2⟩
theorem MX.bad (H : MX h0 h q) : z_gI 11 h (some 81) 19 = some 1 := by rw [s_gI H.1.1 (ci := 11) rfl rfl, H.2.1]
theorem MX.wr {a : Nat} (H : MX h0 h q) (ea : isA a = true) (ha : a ∈ LMc) (f : Nat → Int32) : MX h0 (wA h a f) q := ⟨H.1.trans (onA H.1.1 ea ha f), by rw [fI_wA]; exact H.2.1, by rw [fI_wA]; exact H.2.2⟩
theorem d_set (hs : Sh g) {c k : Nat} (h : 6 * c + k < 72) (x : Int32) : D_X7_set g (some 25) (Int32.ofNat c) (Int32.ofNat k) x = some (wA g 28 (upd (aI g 28) (6 * c + k) x)) := by
  unfold D_X7_set
  rw [s_gQ (r := 28) hs rfl rfl, Option.bind_some, show Int32.ofNat c * 6 = Int32.ofNat (c * 6) from (Int32.ofNat_mul c 6).symm, sc_add, Nat.mul_comm c 6, aW hs (n := 72) rfl h (by decide), Option.bind_some]
theorem CSt.w28 (C : CSt tp L ord g g p n op ar w) (f : Nat → Int32) : CSt tp L ord (wA g 28 f) (wA g 28 f) p n op ar w := by
  obtain ⟨hs, T, t, k, e3, e26, e27, e9, e4, e54, e33, hn, hw⟩ := C
  have T' : Tch [28] g (wA g 28 f) := Tch_wA (Tch_rfl _ g) (by decide) _
  exact ⟨Sh_wA hs rfl _, Tch_rfl _ _, t.T T' (by decide) (by decide), k.T T' (by decide), by rw [fI_wA]; exact e3, by rw [aI_wA_ne (by decide)]; exact e26, by rw [aI_wA_ne (by decide)]; exact e27, by rw [fI_wA]; exact e9, by rw [fI_wA]; exact e4, rfl, rfl, hn, hw⟩
/-- a step of the class that keeps the clauses -/
theorem CSt.st (C : CSt tp L ord g0 g p n op ar w) : CSt tp L ord g g p n op ar w ∧ aI g 28 = aI g0 28 ∧ Tch LC g0 g ∧ fI g 23 3 = fI g0 23 3 ∧ fI g 25 4 = fI g0 25 4 := ⟨C.re, cell_aI (C.2.1.c (by decide)), C.2.1.mono (by decide), C.2.2.2.2.2.2.2.2.2.2.1, C.2.2.2.2.2.2.2.2.2.1⟩
theorem MS0.wA (M : MS0 tp L ord h h p n K Ka w) {a : Nat} (ea : isA a = true) (h1 : a ≠ 90) (h2 : a ≠ 92) (h3 : a ≠ 93) (f : Nat → Int32) : MS0 tp L ord (wA h a f) (wA h a f) p n K Ka w := by
  obtain ⟨hs, oo, t, k, e23, e92, e93, e26, e19, e20, c, e18, hw, np⟩ := M
  have s1 : Sh (_root_.Jvm.Pilot.CSoleReaderLaw_law_r9301_33844d.wA h a f) := Sh_wA hs ea f
  refine ⟨s1, OnM.rfl' s1, ⟨t.1, by rw [fI_wA]; exact t.2.1, by rw [aI_wA_ne (fun z => h1 z.symm)]; exact t.2.2⟩, ⟨k.1, by rw [fI_wA]; exact k.2.1, by rw [fI_wA]; exact k.2.2.1, by rw [fI_wA]; exact k.2.2.2.1, by rw [fJ_wA]; exact k.2.2.2.2⟩, by rw [fI_wA]; exact e23, by rw [aI_wA_ne (fun z => h2 z.symm)]; exact e92, by rw [aI_wA_ne (fun z => h3 z.symm)]; exact e93, by rw [fI_wA]; exact e26, by rw [fI_wA]; exact e19, by rw [fI_wA]; exact e20, ?_, rfl, hw, np⟩
  obtain ⟨c1, c2, c3, c4⟩ := c
  unfold Cnst
  rw [aJ_wA, aJ_wA, aJ_wA, aJ_wA]
  exact ⟨c1, c2, c3, c4⟩
theorem MS0.w21 (M : MS0 tp L ord h h p n K Ka w) (x : Int32) : MS0 tp L ord (wF h 81 21 (.int x)) (wF h 81 21 (.int x)) p n K Ka w := by
  obtain ⟨hs, oo, t, k, e23, e92, e93, e26, e19, e20, c, e18, hw, np⟩ := M
  have o1 := onMF hs (k := 21) rfl (S := [81]) (ks := [21]) (by decide) (by decide) x
  refine ⟨o1.1, OnM.rfl' o1.1, t.on o1 (by decide) (by decide), k.on o1 (by decide), (o1.2.2 23 (by decide)).1.trans e23, by rw [aI_wF]; exact e92, by rw [aI_wF]; exact e93, (o1.2.2 26 (by decide)).1.trans e26, (o1.2.2 19 (by decide)).1.trans e19, (o1.2.2 20 (by decide)).1.trans e20, c.on (o1.2.1.mono (by decide)), rfl, hw, np⟩
theorem MS0.next (H : MS0 tp L ord h0 h p n K Ka w) : ∃ h', D_X11_next h (some 81) = some h' ∧ MS0 tp L ord h0 h' (tkN tp L p) n K Ka w := by
  obtain ⟨hs, oo, t, k, e23, e92, e93, e26, e19, e20, c, e18, hw, np⟩ := H
  obtain ⟨h', o', k', d⟩ := m_next hs t k
  have nb := tkN_b (tp := tp) k.1
  exact ⟨h', d, o'.1, oo.trans (o'.mono (by decide) (by decide)), t.on o' (by decide) (by decide), k', (o'.2.2 23 (by decide)).1.trans e23, by rw [cell_aI (o'.2.1.c (by decide))]; exact e92, by rw [cell_aI (o'.2.1.c (by decide))]; exact e93, (o'.2.2 26 (by decide)).1.trans e26, (o'.2.2 19 (by decide)).1.trans e19, (o'.2.2 20 (by decide)).1.trans e20, c, (o'.2.2 18 (by decide)).1.trans e18, hw, by omega⟩
theorem MS0.bad (H : MS0 tp L ord h0 h p n K Ka w) : z_gI 11 h (some 81) 19 = some 0 := by rw [s_gI H.1 (ci := 11) rfl rfl, H.2.2.2.2.2.2.2.2.1]
theorem MS0.must1 (H : MS0 tp L ord h0 h p n K Ka w) : ∃ h', D_X11_must h (some 81) 1 = some h' ∧ MS0 tp L ord h0 h' (tkN tp L p) n K Ka w := by
  obtain ⟨h', d, N⟩ := H.next
  refine ⟨h', ?_, N⟩
  unfold D_X11_must D_X11_must_24
  rw [H.bad, Option.bind_some, if_pos rfl, if_neg one_ne, Option.bind_some, if_pos rfl, o81 H.1, Option.bind_some, d, Option.bind_some]
theorem MS0.must0 (H : MS0 tp L ord h0 h p n K Ka w) : ∃ h', D_X11_must h (some 81) 0 = some h' ∧ OnM KMc [18, 19] h h' ∧ fI h' 81 19 = 1 ∧ fI h' 81 18 = Int32.ofNat p := by
  have hs := H.1
  have o1 := onMF hs (k := 19) rfl (S := KMc) (ks := [18, 19]) (by decide) (by decide) 1
  have o2 := onMF o1.1 (k := 18) rfl (S := KMc) (ks := [18, 19]) (by decide) (by decide) (Int32.ofNat p)
  have e14 : fI (wF h 81 19 (.int 1)) 81 14 = Int32.ofNat p := by rw [fI_wF_ne (by decide)]; exact H.2.2.2.1.2.1
  have x19 : fI (wF (wF h 81 19 (.int 1)) 81 18 (.int (Int32.ofNat p))) 81 19 = 1 := by rw [fI_wF_ne (by decide)]; exact fI_wF_eq hs rfl _
  refine ⟨_, ?_, o1.trans o2, x19, fI_wF_eq o1.1 rfl _⟩
  unfold D_X11_must D_X11_must_24
  rw [H.bad, Option.bind_some, if_pos rfl, if_pos rfl, s_pV hs (ci := 11) rfl (by decide), Option.bind_some, s_gI o1.1 (ci := 11) rfl rfl, Option.bind_some, e14, s_pV o1.1 (ci := 11) rfl (by decide), Option.bind_some, s_gI o2.1 (ci := 11) rfl rfl, Option.bind_some, x19, if_neg one_ne]
theorem MS0.wd {v : List Nat} (hv : ∀ c ∈ v, 97 ≤ c ∧ c ≤ 122) (hl : v.length ≤ 10) {x : Int64} (hx : x = Int64.ofNat (hR v.reverse)) (H : MS0 tp L ord h0 h p n K Ka w) : D_X11_isWord h (some 81) x = some (b01 (isW tp L p v), h) := m_isW hv hl hx H.1 H.2.2.2.1
theorem MS0.st (M : MS0 tp L ord h0 h p n K Ka w) : MS0 tp L ord h h p n K Ka w ∧ aI h 91 = aI h0 91 ∧ aI h 112 = aI h0 112 ∧ OnM LMc LMf h0 h ∧ fI h 81 18 = fI h0 81 18 ∧ fI h 81 21 = fI h0 81 21 := ⟨M.re, cell_aI (M.2.1.2.1.c (by decide)), cell_aI (M.2.1.2.1.c (by decide)), M.2.1.mono (by decide) (by decide), M.2.2.2.2.2.2.2.2.2.2.2.1, (M.2.1.2.2 21 (by decide)).1⟩
/-! stretches, once more: those that stood before -/
theorem segOK_cg {op' ar' : Nat → Int32} {lo hi : Nat} (H : segOK op ar lo hi) (e : ∀ i, lo ≤ i → i < hi → op' i = op i ∧ ar' i = ar i) : segOK op' ar' lo hi := by
  obtain ⟨h, dp, a, b, s⟩ := H
  refine ⟨h, dp, a, b, fun i h1 h2 => ?_⟩
  rw [(e i h1 h2).1, (e i h1 h2).2]
  exact s i h1 h2
theorem segT_cg {op' ar' : Nat → Int32} {lo hi : Nat} (H : segT op ar lo hi) (e : ∀ i, lo ≤ i → i < hi → op' i = op i ∧ ar' i = ar i) : segT op' ar' lo hi := by
  obtain ⟨h, bt, a, b, s⟩ := H
  refine ⟨segOK_cg h e, bt, a, b, fun i h1 h2 => ?_⟩
  rw [(e i h1 h2).1]
  exact s i h1 h2
/-- code put behind code -/
theorem sg_ext {op' ar' K' Ka' : Nat → Int32} {f : Nat → Nat} {n' nM' : Nat} (H : sg ord op ar K Ka f 0 n) (e0 : f 0 = 0) (en : f n = nM) (S : SG ord op' ar' K' Ka' n n' nM nM') (k1 : ∀ i, i < n → op' i = op i ∧ ar' i = ar i) (k2 : ∀ i, i < nM → K' i = K i ∧ Ka' i = Ka i) : ∃ f', f' 0 = 0 ∧ f' n' = nM' ∧ sg ord op' ar' K' Ka' f' 0 n' ∧ (∀ i, i ≤ n → f' i = f i) := by
  obtain ⟨hle, f2, a2, b2, s2⟩ := S
  have H' : sg ord op' ar' K' Ka' f 0 n := sg_cg H (fun i _ h => k1 i h) (fun i _ h => k2 i (by rw [← en]; exact h))
  refine ⟨fun i => if i ≤ n then f i else f2 i, ?_, ?_, sg_app H' s2 (Nat.zero_le _) hle (by rw [en, a2]), fun i hi => if_pos hi⟩
  · dsimp only; rw [if_pos (Nat.zero_le _), e0]
  · dsimp only
    by_cases q : n' ≤ n
    · rw [if_pos q, show n' = n by omega, en, ← a2, ← b2, show n' = n by omega]
    · rw [if_neg q, b2]
end F5
