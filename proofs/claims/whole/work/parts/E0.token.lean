/-! TOKENS of a tape, pure; the class's advance -/
def scn (P : Nat → Bool) (L : Nat) : Nat → Nat → Nat
  | 0, i => i
  | k + 1, i => if i < L ∧ P i = true then scn P L k (i + 1) else i
def sca (P : Nat → Bool) (L i : Nat) : Nat := scn P L (L - i) i
theorem sca_step {P : Nat → Bool} {L i : Nat} (h : i < L) (p : P i = true) : sca P L i = sca P L (i + 1) := by
  unfold sca
  rw [show L - i = (L - (i + 1)) + 1 by omega]
  show (if i < L ∧ P i = true then _ else _) = _
  rw [if_pos ⟨h, p⟩]
theorem sca_stop {P : Nat → Bool} {L i : Nat} (h : ¬ (i < L ∧ P i = true)) : sca P L i = i := by
  unfold sca
  cases L - i with
  | zero => rfl
  | succ k =>
    show (if i < L ∧ P i = true then _ else _) = _
    rw [if_neg h]
theorem sca_b {P : Nat → Bool} {L : Nat} : ∀ d i, L - i = d → i ≤ L → i ≤ sca P L i ∧ sca P L i ≤ L := by
  intro d
  induction d with
  | zero => intro i h1 h2; rw [sca_stop (by omega)]; omega
  | succ d ih =>
    intro i h1 h2
    by_cases c : P i = true
    · rw [sca_step (by omega) c]
      have := ih (i + 1) (by omega) (by omega)
      omega
    · rw [sca_stop (fun z => c z.2)]; omega
theorem sca_all {P : Nat → Bool} {L : Nat} : ∀ d i, L - i = d → ∀ j, i ≤ j → j < sca P L i → P j = true := by
  intro d
  induction d with
  | zero => intro i h1 j h2 h3; rw [sca_stop (by omega)] at h3; omega
  | succ d ih =>
    intro i h1 j h2 h3
    by_cases c : P i = true
    · rw [sca_step (by omega) c] at h3
      by_cases q : j = i
      · rw [q]; exact c
      · exact ih (i + 1) (by omega) j (by omega) h3
    · rw [sca_stop (fun z => c z.2)] at h3; omega
def kdN (b : Nat) : Nat := if 97 ≤ b ∧ b ≤ 122 then 0 else if 48 ≤ b ∧ b ≤ 57 then 1 else 2
def tkF (tp : Nat → Nat) (L i : Nat) : Nat := sca (fun j => decide (tp j = 32)) L i
def tkK (tp : Nat → Nat) (L p : Nat) : Nat := if p < L then kdN (tp p) else 3
def tkE (tp : Nat → Nat) (L p : Nat) : Nat := if p < L then (if kdN (tp p) = 2 then p + 1 else sca (fun j => decide (kdN (tp j) = kdN (tp p))) L (p + 1)) else p
def tkN (tp : Nat → Nat) (L p : Nat) : Nat := tkF tp L (tkE tp L p)
theorem tkE_b {tp : Nat → Nat} {L p : Nat} (h : p ≤ L) : p ≤ tkE tp L p ∧ tkE tp L p ≤ L ∧ (p < L → p < tkE tp L p) := by
  unfold tkE
  by_cases c : p < L
  · rw [if_pos c]
    by_cases q : kdN (tp p) = 2
    · rw [if_pos q]; omega
    · rw [if_neg q]
      have := sca_b (P := fun j => decide (kdN (tp j) = kdN (tp p))) (L := L) _ (p + 1) rfl (by omega)
      omega
  · rw [if_neg c]; omega
theorem tkF_b {tp : Nat → Nat} {L i : Nat} (h : i ≤ L) : i ≤ tkF tp L i ∧ tkF tp L i ≤ L := sca_b _ i rfl h
theorem tkN_b {tp : Nat → Nat} {L p : Nat} (h : p ≤ L) : p ≤ tkN tp L p ∧ tkN tp L p ≤ L ∧ (p < L → p < tkN tp L p) := by
  have h1 := tkE_b (tp := tp) h
  have h2 := tkF_b (tp := tp) (L := L) (i := tkE tp L p) h1.2.1
  unfold tkN
  omega
def dgC (tp : Nat → Nat) : Nat → Nat → Nat → Nat
  | 0, _, v => v
  | n + 1, i, v => dgC tp n (i + 1) (if 1001 < v * 10 + tp i - 48 then 1001 else v * 10 + tp i - 48)
def dgM (tp : Nat → Nat) : Nat → Nat → Nat → Nat
  | 0, _, v => v
  | n + 1, i, v => dgM tp n (i + 1) (if 1000000 < v then v else v * 10 + tp i - 48)
def numC (tp : Nat → Nat) (L p : Nat) : Nat := dgC tp (tkE tp L p - p) p 0
def numM (tp : Nat → Nat) (L p : Nat) : Nat := dgM tp (tkE tp L p - p) p 0
theorem dg_same {tp : Nat → Nat} : ∀ n i v u, (∀ j, i ≤ j → j < i + n → 48 ≤ tp j) → v = min u 1001 → dgC tp n i v = min (dgM tp n i u) 1001 := by
  intro n
  induction n with
  | zero => intro i v u _ e; exact e
  | succ n ih =>
    intro i v u hd e
    show dgC tp n (i + 1) _ = min (dgM tp n (i + 1) _) 1001
    have := hd i (Nat.le_refl _) (by omega)
    refine ih _ _ _ (fun j h1 h2 => hd j (by omega) (by omega)) ?_
    split <;> split <;> omega
theorem dgC_le {tp : Nat → Nat} : ∀ n i v, v ≤ 1001 → dgC tp n i v ≤ 1001 := by
  intro n
  induction n with
  | zero => intro i v h; exact h
  | succ n ih =>
    intro i v h
    refine ih _ _ ?_
    split <;> omega
theorem kd_dig {b : Nat} (h : kdN b = 1) : 48 ≤ b ∧ b ≤ 57 := by
  unfold kdN at h
  split at h
  · omega
  · split at h <;> omega
theorem num_same {tp : Nat → Nat} {L p : Nat} (h : tkK tp L p = 1) : numC tp L p = min (numM tp L p) 1001 := by
  unfold numC numM
  refine dg_same _ _ _ _ (fun j h1 h2 => ?_) rfl
  have hp : p < L := by
    unfold tkK at h
    by_cases c : p < L
    · exact c
    · rw [if_neg c] at h; omega
  have hk : kdN (tp p) = 1 := by unfold tkK at h; rw [if_pos hp] at h; exact h
  by_cases q : j = p
  · rw [q]; exact (kd_dig hk).1
  · have := tkE_b (tp := tp) (L := L) (p := p) (by omega)
    unfold tkE at h2
    rw [if_pos hp, if_neg (by omega)] at h2
    have hb := sca_b (P := fun j => decide (kdN (tp j) = kdN (tp p))) (L := L) _ (p + 1) rfl (by omega)
    have := sca_all (P := fun j => decide (kdN (tp j) = kdN (tp p))) (L := L) _ (p + 1) rfl j (by omega) (by omega)
    have := of_decide_eq_true this
    exact (kd_dig (this.trans hk)).1
/-! the class's -/
section TC
variable {tp : Nat → Nat} {L : Nat} {g : z_H}
def OnC (ks : List Nat) (g g' : z_H) : Prop := Sh g' ∧ Tch [23] g g' ∧ ∀ k, k ∉ ks → fI g' 23 k = fI g 23 k
theorem OnC.rfl' {ks : List Nat} (hs : Sh g) : OnC ks g g := ⟨hs, Tch_rfl _ g, fun _ _ => rfl⟩
theorem OnC.trans {ks : List Nat} {g1 g2 g3 : z_H} (a : OnC ks g1 g2) (b : OnC ks g2 g3) : OnC ks g1 g3 := ⟨b.1, a.2.1.trans b.2.1, fun k hk => (b.2.2 k hk).trans (a.2.2 k hk)⟩
theorem OnC.mono {ks ks' : List Nat} {g g' : z_H} (H : OnC ks g g') (h2 : ∀ a ∈ ks, a ∈ ks') : OnC ks' g g' := ⟨H.1, H.2.1, fun k hk => H.2.2 k (fun q => hk (h2 k q))⟩
theorem onC {ks : List Nat} (hs : Sh g) {k : Nat} (e : isF 23 k = true) (hk : k ∈ ks) (x : Int32) : OnC ks g (wF g 23 k (.int x)) := ⟨Sh_wF hs e _, Tch_wF (Tch_rfl _ g) (by simp) _ _, fun j hj => fI_wF_ne (fun q => hj (by rw [q.2]; exact hk))⟩
def TpC (tp : Nat → Nat) (L : Nat) (g : z_H) : Prop := L ≤ 400 ∧ fI g 23 2 = Int32.ofNat L ∧ ∀ i, i < 400 → aI g 24 i = Int32.ofNat (tp i) ∧ tp i ≤ 255
theorem TpC.on {ks : List Nat} {g' : z_H} (t : TpC tp L g) (o : OnC ks g g') (h : 2 ∉ ks) : TpC tp L g' := ⟨t.1, (o.2.2 2 h).trans t.2.1, by rw [cell_aI (o.2.1.c (by decide))]; exact t.2.2⟩
theorem TpC.T {S : List Nat} {g' : z_H} (t : TpC tp L g) (o : Tch S g g') (h1 : 23 ∉ S) (h2 : 24 ∉ S) : TpC tp L g' := ⟨t.1, (cell_fI (o.2.2 _ h1) 2).trans t.2.1, by rw [cell_aI (o.2.2 _ h2)]; exact t.2.2⟩
def TokC (tp : Nat → Nat) (L : Nat) (g : z_H) (p : Nat) : Prop := p ≤ L ∧ fI g 23 5 = Int32.ofNat p ∧ fI g 23 6 = Int32.ofNat (tkE tp L p) ∧ fI g 23 7 = Int32.ofNat (tkK tp L p) ∧ (tkK tp L p = 1 → fI g 23 8 = Int32.ofNat (numC tp L p))
theorem TokC.on {ks : List Nat} {g' : z_H} {p : Nat} (t : TokC tp L g p) (o : OnC ks g g') (h : ∀ k ∈ ks, k = 3 ∨ k = 4 ∨ k = 9) : TokC tp L g' p := by
  have w : ∀ k, ¬ (k = 3 ∨ k = 4 ∨ k = 9) → fI g' 23 k = fI g 23 k := fun k hk => o.2.2 k (fun q => hk (h k q))
  exact ⟨t.1, (w 5 (by decide)).trans t.2.1, (w 6 (by decide)).trans t.2.2.1, (w 7 (by decide)).trans t.2.2.2.1, fun q => (w 8 (by decide)).trans (t.2.2.2.2 q)⟩
theorem TokC.T {S : List Nat} {g' : z_H} {p : Nat} (t : TokC tp L g p) (o : Tch S g g') (h1 : 23 ∉ S) : TokC tp L g' p := by
  have w : ∀ k, fI g' 23 k = fI g 23 k := fun k => cell_fI (o.2.2 _ h1) k
  exact ⟨t.1, (w 5).trans t.2.1, (w 6).trans t.2.2.1, (w 7).trans t.2.2.2.1, fun q => (w 8).trans (t.2.2.2.2 q)⟩
theorem c_kind {b : Nat} (hb : b ≤ 255) : D_X5_kindOf g (Int32.ofNat b) = some (Int32.ofNat (kdN b), g) := by
  have l1 : (Int32.ofNat b < 97) ↔ b < 97 := nat_lt (b := 97) (by omega) (by decide)
  have l2 : ((122 : Int32) < Int32.ofNat b) ↔ 122 < b := nat_lt (a := 122) (by decide) (by omega)
  have l3 : (Int32.ofNat b < 48) ↔ b < 48 := nat_lt (b := 48) (by omega) (by decide)
  have l4 : ((57 : Int32) < Int32.ofNat b) ↔ 57 < b := nat_lt (a := 57) (by decide) (by omega)
  unfold D_X5_kindOf D_X5_kindOf_14 kdN
  simp only [l1, l2, l3, l4]
  by_cases c1 : 97 ≤ b ∧ b ≤ 122
  · rw [if_neg (by omega), if_neg (by omega), if_pos c1]; rfl
  · rw [if_neg c1]
    by_cases c2 : 48 ≤ b ∧ b ≤ 57
    · rw [if_pos (show b < 97 by omega), if_neg (show ¬ b < 48 by omega), if_neg (show ¬ 57 < b by omega), if_pos c2]; rfl
    · rw [if_neg c2]
      by_cases q1 : b < 97
      · rw [if_pos q1]
        by_cases q2 : b < 48
        · rw [if_pos q2]; rfl
        · rw [if_neg q2, if_pos (by omega)]; rfl
      · rw [if_neg q1, if_pos (by omega), if_neg (by omega), if_pos (by omega)]; rfl
theorem c_adv8 : ∀ (d i f : Nat) (g : z_H), L - i = d → d < f → i ≤ L → Sh g → TpC tp L g → fI g 23 5 = Int32.ofNat i → ∃ g', OnC [5] g g' ∧ fI g' 23 5 = Int32.ofNat (tkF tp L i) ∧ D_X5_advance_8 f g (some 23) = D_X5_advance_46 g' (some 23) := by
  intro d
  induction d with
  | zero =>
    intro i f g hd hf hi hs t e5
    obtain ⟨f, rfl⟩ : ∃ f', f = f' + 1 := ⟨f - 1, by omega⟩
    refine ⟨g, OnC.rfl' hs, by unfold tkF; rw [sca_stop (by omega)]; exact e5, ?_⟩
    show D_X5_advance_8b _ g (some 23) = _
    unfold D_X5_advance_8b
    rw [s_gI hs (ci := 5) rfl rfl, Option.bind_some, s_gI hs (ci := 5) rfl rfl, Option.bind_some, e5, t.2.1, if_pos ((nat_le (by have := t.1; omega) (by have := t.1; omega)).mpr (by omega))]
  | succ d ih =>
    intro i f g hd hf hi hs t e5
    obtain ⟨f, rfl⟩ : ∃ f', f = f' + 1 := ⟨f - 1, by omega⟩
    have hL := t.1
    obtain ⟨et, bt⟩ := t.2.2 i (by omega)
    have q0 : z_gQ 5 g (some 23) 0 = some (some 24) := s_gQ hs rfl rfl
    show ∃ g', _ ∧ _ ∧ D_X5_advance_8b (D_X5_advance_8 f) g (some 23) = _
    unfold D_X5_advance_8b
    rw [s_gI hs (ci := 5) rfl rfl, Option.bind_some, s_gI hs (ci := 5) rfl rfl, Option.bind_some, e5, t.2.1, if_neg (fun z => by have := (nat_le (by omega) (by omega)).mp z; omega), q0, Option.bind_some, Option.bind_some, aR hs (n := 400) rfl (by omega) (by decide), et, Option.bind_some]
    by_cases c : tp i = 32
    · rw [if_pos (show Int32.ofNat (tp i) = 32 by rw [c]; rfl), Option.bind_some, s_pV hs (ci := 5) rfl (by decide), Option.bind_some, show Int32.ofNat i + 1 = Int32.ofNat (i + 1) from sc_add i 1]
      have o1 := onC hs (k := 5) rfl (ks := [5]) (by decide) (Int32.ofNat (i + 1))
      obtain ⟨g', o, e, dd⟩ := ih (i + 1) f _ (by omega) (by omega) (by omega) o1.1 (t.on o1 (by decide)) (fI_wF_eq hs rfl _)
      refine ⟨g', o1.trans o, ?_, dd⟩
      rw [e]
      unfold tkF
      rw [sca_step (P := fun j => decide (tp j = 32)) (i := i) (by omega) (by simp [c])]
    · rw [if_neg (show ¬ Int32.ofNat (tp i) = 32 from fun z => c ((eq_lit (b := 32) (by omega) (by decide)).mp z))]
      exact ⟨g, OnC.rfl' hs, by unfold tkF; rw [sca_stop (by simp [c])]; exact e5, rfl⟩
theorem c_adv97 {k : Nat} (hk : k < 2) : ∀ (d i f : Nat) (g : z_H), L - i = d → d < f → i ≤ L → Sh g → TpC tp L g → fI g 23 6 = Int32.ofNat i → fI g 23 7 = Int32.ofNat k → ∃ g', OnC [6] g g' ∧ fI g' 23 6 = Int32.ofNat (sca (fun j => decide (kdN (tp j) = k)) L i) ∧ D_X5_advance_97 f g (some 23) = D_X5_advance_148 g' (some 23) := by
  intro d
  induction d with
  | zero =>
    intro i f g hd hf hi hs t e6 e7
    obtain ⟨f, rfl⟩ : ∃ f', f = f' + 1 := ⟨f - 1, by omega⟩
    refine ⟨g, OnC.rfl' hs, by rw [sca_stop (by omega)]; exact e6, ?_⟩
    show D_X5_advance_97b _ g (some 23) = _
    unfold D_X5_advance_97b
    rw [s_gI hs (ci := 5) rfl rfl, Option.bind_some, s_gI hs (ci := 5) rfl rfl, Option.bind_some, e6, t.2.1, if_pos ((nat_le (by have := t.1; omega) (by have := t.1; omega)).mpr (by omega))]
  | succ d ih =>
    intro i f g hd hf hi hs t e6 e7
    obtain ⟨f, rfl⟩ : ∃ f', f = f' + 1 := ⟨f - 1, by omega⟩
    have hL := t.1
    obtain ⟨et, bt⟩ := t.2.2 i (by omega)
    have q0 : z_gQ 5 g (some 23) 0 = some (some 24) := s_gQ hs rfl rfl
    have r6 : z_gI 5 g (some 23) 6 = some (Int32.ofNat i) := by rw [s_gI hs (ci := 5) rfl rfl, e6]
    have r7 : z_gI 5 g (some 23) 7 = some (Int32.ofNat k) := by rw [s_gI hs (ci := 5) rfl rfl, e7]
    have r2 : z_gI 5 g (some 23) 2 = some (Int32.ofNat L) := by rw [s_gI hs (ci := 5) rfl rfl, t.2.1]
    have kb : kdN (tp i) < 3 := by unfold kdN; split <;> (try split) <;> omega
    show ∃ g', _ ∧ _ ∧ D_X5_advance_97b (D_X5_advance_97 f) g (some 23) = _
    unfold D_X5_advance_97b
    rw [r6, Option.bind_some, r2, Option.bind_some, if_neg (fun z => by have := (nat_le (by omega) (by omega)).mp z; omega), r7, Option.bind_some, if_neg (show ¬ Int32.ofNat k = 2 from fun z => by have := (eq_lit (b := 2) (by omega) (by decide)).mp z; omega), q0, Option.bind_some, Option.bind_some, aR hs (n := 400) rfl (by omega) (by decide), et, Option.bind_some, c_kind bt, Option.bind_some]
    dsimp only
    rw [r7, Option.bind_some]
    by_cases c : kdN (tp i) = k
    · rw [if_pos (show Int32.ofNat (kdN (tp i)) = Int32.ofNat k by rw [c]), r6, Option.bind_some, s_pV hs (ci := 5) rfl (by decide), Option.bind_some, show Int32.ofNat i + 1 = Int32.ofNat (i + 1) from sc_add i 1]
      have o1 := onC hs (k := 6) rfl (ks := [6]) (by decide) (Int32.ofNat (i + 1))
      obtain ⟨g', o, e, dd⟩ := ih (i + 1) f _ (by omega) (by omega) (by omega) o1.1 (t.on o1 (by decide)) (fI_wF_eq hs rfl _) ((o1.2.2 7 (by decide)).trans e7)
      refine ⟨g', o1.trans o, ?_, dd⟩
      rw [e, sca_step (P := fun j => decide (kdN (tp j) = k)) (i := i) (by omega) (by simp [c])]
    · rw [if_neg (show ¬ Int32.ofNat (kdN (tp i)) = Int32.ofNat k from fun z => c ((eq_lit (by omega) (by omega)).mp z))]
      exact ⟨g, OnC.rfl' hs, by rw [sca_stop (by simp [c])]; exact e6, rfl⟩
theorem c_adv158 {e : Nat} (he : e ≤ L) : ∀ (d i f v : Nat) (g : z_H), e - i = d → d < f → i ≤ e → v ≤ 1001 → (∀ j, i ≤ j → j < e → 48 ≤ tp j) → Sh g → TpC tp L g → fI g 23 6 = Int32.ofNat e → fI g 23 7 = 1 → fI g 23 8 = Int32.ofNat v → ∃ g', OnC [8] g g' ∧ fI g' 23 8 = Int32.ofNat (dgC tp (e - i) i v) ∧ D_X5_advance_158 f g (some 23) (Int32.ofNat i) = some g' := by
  intro d
  induction d with
  | zero =>
    intro i f v g hd hf hi hv dg hs t e6 e7 e8
    obtain ⟨f, rfl⟩ : ∃ f', f = f' + 1 := ⟨f - 1, by omega⟩
    refine ⟨g, OnC.rfl' hs, by rw [hd]; exact e8, ?_⟩
    show D_X5_advance_158b _ g (some 23) (Int32.ofNat i) = _
    unfold D_X5_advance_158b
    rw [s_gI hs (ci := 5) rfl rfl, Option.bind_some, e6, if_pos ((nat_le (by have := t.1; omega) (by have := t.1; omega)).mpr (by omega))]
  | succ d ih =>
    intro i f v g hd hf hi hv dg hs t e6 e7 e8
    obtain ⟨f, rfl⟩ : ∃ f', f = f' + 1 := ⟨f - 1, by omega⟩
    have hL := t.1
    obtain ⟨et, bt⟩ := t.2.2 i (by omega)
    have d48 := dg i (Nat.le_refl _) (by omega)
    have q0 : z_gQ 5 g (some 23) 0 = some (some 24) := s_gQ hs rfl rfl
    show ∃ g', _ ∧ _ ∧ D_X5_advance_158b (D_X5_advance_158 f) g (some 23) (Int32.ofNat i) = _
    unfold D_X5_advance_158b
    have av : (Int32.ofNat v * 10 + Int32.ofNat (tp i)) - 48 = Int32.ofNat (v * 10 + tp i - 48) := by
      rw [show Int32.ofNat v * 10 = Int32.ofNat (v * 10) from (Int32.ofNat_mul v 10).symm, sc_add]
      exact sc_sub (k := 48) (by omega)
    have mn : (if (1001 : Int32) < Int32.ofNat (v * 10 + tp i - 48) then (1001 : Int32) else Int32.ofNat (v * 10 + tp i - 48)) = Int32.ofNat (if 1001 < v * 10 + tp i - 48 then 1001 else v * 10 + tp i - 48) := by
      by_cases c : 1001 < v * 10 + tp i - 48
      · rw [if_pos (show (1001 : Int32) < Int32.ofNat (v * 10 + tp i - 48) from (nat_lt (a := 1001) (by decide) (by omega)).mpr c), if_pos c]; rfl
      · rw [if_neg (show ¬ (1001 : Int32) < Int32.ofNat (v * 10 + tp i - 48) from fun z => c ((nat_lt (a := 1001) (by decide) (by omega)).mp z)), if_neg c]
    rw [s_gI hs (ci := 5) rfl rfl, Option.bind_some, e6, if_neg (fun z => by have := (nat_le (by omega) (by omega)).mp z; omega), s_gI hs (ci := 5) rfl rfl, Option.bind_some, e7, if_pos rfl, s_gI hs (ci := 5) rfl rfl, Option.bind_some, e8, q0, Option.bind_some, aR hs (n := 400) rfl (by omega) (by decide), et, Option.bind_some, Option.bind_some, av, mn, s_pV hs (ci := 5) rfl (by decide), Option.bind_some, Option.bind_some, show Int32.ofNat i + 1 = Int32.ofNat (i + 1) from sc_add i 1]
    have o1 := onC hs (k := 8) rfl (ks := [8]) (by decide) (Int32.ofNat (if 1001 < v * 10 + tp i - 48 then 1001 else v * 10 + tp i - 48))
    obtain ⟨g', o, ee, dd⟩ := ih (i + 1) f (if 1001 < v * 10 + tp i - 48 then 1001 else v * 10 + tp i - 48) _ (by omega) (by omega) (by omega) (by split <;> omega) (fun j h1 h2 => dg j (by omega) h2) o1.1 (t.on o1 (by decide)) ((o1.2.2 6 (by decide)).trans e6) ((o1.2.2 7 (by decide)).trans e7) (fI_wF_eq hs rfl _)
    refine ⟨g', o1.trans o, ?_, dd⟩
    rw [ee, show e - i = (e - (i + 1)) + 1 by omega]
    rfl
theorem c_advance (hs : Sh g) (t : TpC tp L g) {i : Nat} (hi : i ≤ L) (e6 : fI g 23 6 = Int32.ofNat i) : ∃ g', OnC [5, 6, 7, 8] g g' ∧ TokC tp L g' (tkF tp L i) ∧ D_X5_advance g (some 23) = some g' := by
  have hL := t.1
  have o1 := onC hs (k := 5) rfl (ks := [5]) (by decide) (Int32.ofNat i)
  obtain ⟨g2, o2, e5, d2⟩ := c_adv8 (tp := tp) (L := L) _ i z_F _ rfl (by show _ < 1000000; omega) hi o1.1 (t.on o1 (by decide)) (fI_wF_eq hs rfl _)
  have o12 := (o1.trans o2).mono (ks' := [5, 6, 7, 8]) (by decide)
  have dA : D_X5_advance g (some 23) = D_X5_advance_46 g2 (some 23) := by
    unfold D_X5_advance
    rw [s_gI hs (ci := 5) rfl rfl, Option.bind_some, e6, s_pV hs (ci := 5) rfl (by decide), Option.bind_some]
    exact d2
  have fb := tkF_b (tp := tp) hi
  generalize tkF tp L i = p at *
  have hs2 := o2.1
  have t2 : TpC tp L g2 := t.on o12 (by decide)
  have o3 := onC hs2 (k := 6) rfl (ks := [5, 6, 7, 8]) (by decide) (Int32.ofNat p)
  have o4 := onC o3.1 (k := 7) rfl (ks := [5, 6, 7, 8]) (by decide) 3
  have o34 := o3.trans o4
  have t4 := t2.on o34 (by decide)
  have f5 : fI (wF (wF g2 23 6 (.int (Int32.ofNat p))) 23 7 (.int 3)) 23 5 = Int32.ofNat p := by rw [fI_wF_ne (by decide), fI_wF_ne (by decide)]; exact e5
  have f6 : fI (wF (wF g2 23 6 (.int (Int32.ofNat p))) 23 7 (.int 3)) 23 6 = Int32.ofNat p := by rw [fI_wF_ne (by decide)]; exact fI_wF_eq hs2 rfl _
  have f7 : fI (wF (wF g2 23 6 (.int (Int32.ofNat p))) 23 7 (.int 3)) 23 7 = 3 := fI_wF_eq o3.1 rfl _
  rw [dA]
  unfold D_X5_advance_46
  rw [s_gI hs2 (ci := 5) rfl rfl, Option.bind_some, e5, s_pV hs2 (ci := 5) rfl (by decide), Option.bind_some, s_pV o3.1 (ci := 5) rfl (by decide), Option.bind_some, s_gI o4.1 (ci := 5) rfl rfl, Option.bind_some, f5, s_gI o4.1 (ci := 5) rfl rfl, Option.bind_some, t4.2.1]
  generalize wF (wF g2 23 6 (.int (Int32.ofNat p))) 23 7 (.int 3) = g4 at *
  have hs4 := o4.1
  by_cases c : p < L
  · obtain ⟨et, bt⟩ := t4.2.2 p (by omega)
    have q0 : z_gQ 5 g4 (some 23) 0 = some (some 24) := s_gQ hs4 rfl rfl
    have kb : kdN (tp p) < 3 := by unfold kdN; split <;> (try split) <;> omega
    have o5 := onC hs4 (k := 7) rfl (ks := [5, 6, 7, 8]) (by decide) (Int32.ofNat (kdN (tp p)))
    have g56 : fI (wF g4 23 7 (.int (Int32.ofNat (kdN (tp p))))) 23 6 = Int32.ofNat p := by rw [fI_wF_ne (by decide)]; exact f6
    have o6 := onC o5.1 (k := 6) rfl (ks := [5, 6, 7, 8]) (by decide) (Int32.ofNat (p + 1))
    rw [if_pos ((nat_lt (by omega) (by omega)).mpr c), q0, Option.bind_some, Option.bind_some, aR hs4 (n := 400) rfl (by omega) (by decide), et, Option.bind_some, c_kind bt, Option.bind_some]
    dsimp only
    rw [s_pV hs4 (ci := 5) rfl (by decide), Option.bind_some, s_gI o5.1 (ci := 5) rfl rfl, Option.bind_some, g56, show Int32.ofNat p + 1 = Int32.ofNat (p + 1) from sc_add p 1, s_pV o5.1 (ci := 5) rfl (by decide), Option.bind_some]
    have h6 : fI (wF (wF g4 23 7 (.int (Int32.ofNat (kdN (tp p))))) 23 6 (.int (Int32.ofNat (p + 1)))) 23 6 = Int32.ofNat (p + 1) := fI_wF_eq o5.1 rfl _
    have h7 : fI (wF (wF g4 23 7 (.int (Int32.ofNat (kdN (tp p))))) 23 6 (.int (Int32.ofNat (p + 1)))) 23 7 = Int32.ofNat (kdN (tp p)) := by rw [fI_wF_ne (by decide)]; exact fI_wF_eq hs4 rfl _
    have h5 : fI (wF (wF g4 23 7 (.int (Int32.ofNat (kdN (tp p))))) 23 6 (.int (Int32.ofNat (p + 1)))) 23 5 = Int32.ofNat p := by rw [fI_wF_ne (by decide), fI_wF_ne (by decide)]; exact f5
    have o456 := o12.trans (o34.trans (o5.trans o6))
    generalize wF (wF g4 23 7 (.int (Int32.ofNat (kdN (tp p))))) 23 6 (.int (Int32.ofNat (p + 1))) = g6 at *
    have hs6 := o6.1
    have t6 : TpC tp L g6 := t.on o456 (by decide)
    have eK : tkK tp L p = kdN (tp p) := by unfold tkK; rw [if_pos c]
    -- the scan
    have sc : ∃ g7, OnC [6] g6 g7 ∧ fI g7 23 6 = Int32.ofNat (tkE tp L p) ∧ D_X5_advance_97 z_F g6 (some 23) = D_X5_advance_148 g7 (some 23) := by
      by_cases k2 : kdN (tp p) = 2
      · refine ⟨g6, OnC.rfl' hs6, by unfold tkE; rw [if_pos c, if_pos k2]; exact h6, ?_⟩
        show D_X5_advance_97b (D_X5_advance_97 999999) g6 (some 23) = _
        unfold D_X5_advance_97b
        rw [s_gI hs6 (ci := 5) rfl rfl, Option.bind_some, s_gI hs6 (ci := 5) rfl rfl, Option.bind_some, h6, t6.2.1]
        by_cases q : L ≤ p + 1
        · rw [if_pos ((nat_le (by omega) (by omega)).mpr q)]
        · rw [if_neg (fun z => q ((nat_le (by omega) (by omega)).mp z)), s_gI hs6 (ci := 5) rfl rfl, Option.bind_some, h7, if_pos (show Int32.ofNat (kdN (tp p)) = 2 by rw [k2]; rfl)]
      · obtain ⟨g7, o7, e7, d7⟩ := c_adv97 (tp := tp) (L := L) (k := kdN (tp p)) (by omega) _ (p + 1) z_F g6 rfl (by show _ < 1000000; omega) (by omega) hs6 t6 h6 h7
        refine ⟨g7, o7, ?_, d7⟩
        rw [e7]; unfold tkE; rw [if_pos c, if_neg k2]
    obtain ⟨g7, o7, e7, d7⟩ := sc
    have eb := tkE_b (tp := tp) (L := L) (p := p) (by omega)
    have o8 := onC o7.1 (k := 8) rfl (ks := [5, 6, 7, 8]) (by decide) 0
    have o78 := o456.trans ((o7.mono (ks' := [5, 6, 7, 8]) (by decide)).trans o8)
    have i5 : fI (wF g7 23 8 (.int 0)) 23 5 = Int32.ofNat p := by rw [fI_wF_ne (by decide), o7.2.2 5 (by decide)]; exact h5
    have i6 : fI (wF g7 23 8 (.int 0)) 23 6 = Int32.ofNat (tkE tp L p) := by rw [fI_wF_ne (by decide)]; exact e7
    have i7 : fI (wF g7 23 8 (.int 0)) 23 7 = Int32.ofNat (kdN (tp p)) := by rw [fI_wF_ne (by decide), o7.2.2 7 (by decide)]; exact h7
    have i8 : fI (wF g7 23 8 (.int 0)) 23 8 = Int32.ofNat 0 := fI_wF_eq o7.1 rfl _
    rw [d7]
    unfold D_X5_advance_148
    rw [s_pV o7.1 (ci := 5) rfl (by decide), Option.bind_some, s_gI o8.1 (ci := 5) rfl rfl, Option.bind_some, i5]
    generalize wF g7 23 8 (.int 0) = g8 at *
    have hs8 := o8.1
    have t8 : TpC tp L g8 := t.on o78 (by decide)
    by_cases k1 : kdN (tp p) = 1
    · obtain ⟨g9, o9, e9, d9⟩ := c_adv158 (tp := tp) (L := L) (e := tkE tp L p) eb.2.1 _ p z_F 0 g8 rfl (by show _ < 1000000; omega) eb.1 (by omega) (fun j h1 h2 => by
        by_cases q : j = p
        · rw [q]; exact (kd_dig k1).1
        · have h2' := h2
          unfold tkE at h2'
          rw [if_pos c, if_neg (by omega)] at h2'
          have := sca_all (P := fun j => decide (kdN (tp j) = kdN (tp p))) (L := L) _ (p + 1) rfl j (by omega) h2'
          exact (kd_dig ((of_decide_eq_true this).trans k1)).1) hs8 t8 i6 (i7.trans (by rw [k1]; rfl)) i8
      refine ⟨g9, o78.trans (o9.mono (by decide)), ⟨by omega, (o9.2.2 5 (by decide)).trans i5, (o9.2.2 6 (by decide)).trans i6, (o9.2.2 7 (by decide)).trans (i7.trans (by rw [eK])), fun _ => e9⟩, d9⟩
    · refine ⟨g8, o78, ⟨by omega, i5, i6, i7.trans (by rw [eK]), fun q => absurd (eK.symm.trans q) k1⟩, ?_⟩
      show D_X5_advance_158b (D_X5_advance_158 999999) g8 (some 23) (Int32.ofNat p) = _
      unfold D_X5_advance_158b
      rw [s_gI hs8 (ci := 5) rfl rfl, Option.bind_some, i6, if_neg (fun z => by have := (nat_le (by omega) (by omega)).mp z; have := eb.2.2 c; omega), s_gI hs8 (ci := 5) rfl rfl, Option.bind_some, i7, if_neg (show ¬ Int32.ofNat (kdN (tp p)) = 1 from fun z => k1 ((eq_lit (b := 1) (by omega) (by decide)).mp z))]
  · rw [if_neg (fun z => c ((nat_lt (by omega) (by omega)).mp z))]
    have eE : tkE tp L p = p := by unfold tkE; rw [if_neg c]
    have eK : tkK tp L p = 3 := by unfold tkK; rw [if_neg c]
    exact ⟨g4, o12.trans o34, ⟨fb.2, f5, by rw [eE]; exact f6, by rw [eK]; exact f7, fun q => by omega⟩, rfl⟩
/-- the next token -/
theorem c_next (hs : Sh g) (t : TpC tp L g) {p : Nat} (k : TokC tp L g p) : ∃ g', OnC [5, 6, 7, 8] g g' ∧ TokC tp L g' (tkN tp L p) ∧ D_X5_advance g (some 23) = some g' := c_advance hs t (tkE_b k.1).2.1 k.2.2.1
end TC
