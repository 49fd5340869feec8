/-! the reference's next -/
section TM
variable {tp : Nat → Nat} {L : Nat} {g : z_H}
def hV (tp : Nat → Nat) (p : Nat) : Nat → Nat
  | 0 => 0
  | n + 1 => hV tp p n * 32 + tp (p + n) - 96
def hW (tp : Nat → Nat) (p n : Nat) : Int64 := if n ≤ 10 then Int64.ofNat (hV tp p n) else -1
def srtN (k : Nat) : Nat := if k = 3 then 0 else k + 1
def wrt (tp : Nat → Nat) (L p : Nat) : Int64 := if tkK tp L p = 0 then hW tp p (tkE tp L p - p) else if tkK tp L p = 1 then Int64.ofNat (numM tp L p) else if tkK tp L p = 2 then Int64.ofNat (tp p) else 0
theorem onMF {S ks : List Nat} (hs : Sh g) {k : Nat} (e : isF 81 k = true) (hS : 81 ∈ S) (hk : k ∈ ks) (x : Int32) : OnM S ks g (wF g 81 k (.int x)) := ⟨Sh_wF hs e _, Tch_wF (Tch_rfl _ g) hS _ _, fun j hj => ⟨fI_wF_ne (fun q => hj (by rw [q.2]; exact hk)), fJ_wF_ne (fun q => hj (by rw [q.2]; exact hk))⟩⟩
theorem onMJ {S ks : List Nat} (hs : Sh g) {k : Nat} (e : isJ 81 k = true) (hS : 81 ∈ S) (hk : k ∈ ks) (x : Int64) : OnM S ks g (wF g 81 k (.long x)) := ⟨Sh_wFJ hs e _, Tch_wF (Tch_rfl _ g) hS _ _, fun j hj => ⟨fI_wF_ne (fun q => hj (by rw [q.2]; exact hk)), fJ_wF_ne (fun q => hj (by rw [q.2]; exact hk))⟩⟩
def TpM (tp : Nat → Nat) (L : Nat) (g : z_H) : Prop := L ≤ 400 ∧ fI g 81 13 = Int32.ofNat L ∧ ∀ i, i < 400 → aI g 90 i = Int32.ofNat (tp i) ∧ tp i ≤ 255
theorem TpM.on {S ks : List Nat} {g' : z_H} (t : TpM tp L g) (o : OnM S ks g g') (h : 13 ∉ ks) (h2 : 90 ∉ S) : TpM tp L g' := ⟨t.1, ((o.2.2 13 h).1).trans t.2.1, by rw [cell_aI (o.2.1.c h2)]; exact t.2.2⟩
def TokM (tp : Nat → Nat) (L : Nat) (g : z_H) (p : Nat) : Prop := p ≤ L ∧ fI g 81 14 = Int32.ofNat p ∧ fI g 81 15 = Int32.ofNat (tkE tp L p) ∧ fI g 81 16 = Int32.ofNat (srtN (tkK tp L p)) ∧ fJ g 81 17 = wrt tp L p
theorem TokM.on {S ks : List Nat} {g' : z_H} {p : Nat} (t : TokM tp L g p) (o : OnM S ks g g') (h : ∀ k ∈ ks, 18 ≤ k ∨ k ≤ 13) : TokM tp L g' p := by
  have w : ∀ k, ¬ (18 ≤ k ∨ k ≤ 13) → fI g' 81 k = fI g 81 k ∧ fJ g' 81 k = fJ g 81 k := fun k hk => o.2.2 k (fun q => hk (h k q))
  exact ⟨t.1, (w 14 (by decide)).1.trans t.2.1, (w 15 (by decide)).1.trans t.2.2.1, (w 16 (by decide)).1.trans t.2.2.2.1, (w 17 (by decide)).2.trans t.2.2.2.2⟩
theorem m_small {b : Nat} (hb : b ≤ 255) : D_X11_isSmall g (Int32.ofNat b) = some (b01 (decide (kdN b = 0)), g) := by
  have l1 : (Int32.ofNat b < 97) ↔ b < 97 := nat_lt (b := 97) (by omega) (by decide)
  have l2 : ((122 : Int32) < Int32.ofNat b) ↔ 122 < b := nat_lt (a := 122) (by decide) (by omega)
  unfold D_X11_isSmall kdN
  simp only [l1, l2]
  by_cases c1 : 97 ≤ b ∧ b ≤ 122
  · rw [if_neg (by omega), if_neg (by omega), if_pos c1]; rfl
  · rw [if_neg c1]
    have : ¬ (if 48 ≤ b ∧ b ≤ 57 then 1 else 2) = 0 := by split <;> omega
    rw [decide_eq_false this]
    by_cases q1 : b < 97
    · rw [if_pos q1]; rfl
    · rw [if_neg q1, if_pos (by omega)]; rfl
theorem m_digit {b : Nat} (hb : b ≤ 255) : D_X11_isDigit g (Int32.ofNat b) = some (b01 (decide (kdN b = 1)), g) := by
  have l1 : (Int32.ofNat b < 48) ↔ b < 48 := nat_lt (b := 48) (by omega) (by decide)
  have l2 : ((57 : Int32) < Int32.ofNat b) ↔ 57 < b := nat_lt (a := 57) (by decide) (by omega)
  unfold D_X11_isDigit kdN
  simp only [l1, l2]
  by_cases c1 : 48 ≤ b ∧ b ≤ 57
  · rw [if_neg (by omega), if_neg (by omega), if_neg (by omega), if_pos c1]; rfl
  · have : ¬ (if 97 ≤ b ∧ b ≤ 122 then 0 else if 48 ≤ b ∧ b ≤ 57 then 1 else 2) = 1 := by rw [if_neg c1]; split <;> omega
    rw [decide_eq_false this]
    by_cases q1 : b < 48
    · rw [if_pos q1]; rfl
    · rw [if_neg q1, if_pos (by omega)]; rfl
theorem m_nx8 : ∀ (d i f : Nat) (g : z_H), L - i = d → d < f → i ≤ L → Sh g → TpM tp L g → fI g 81 14 = Int32.ofNat i → ∃ g', OnM [81] [14] g g' ∧ fI g' 81 14 = Int32.ofNat (tkF tp L i) ∧ D_X11_next_8 f g (some 81) = D_X11_next_46 g' (some 81) := by
  intro d
  induction d with
  | zero =>
    intro i f g hd hf hi hs t e5
    obtain ⟨f, rfl⟩ : ∃ f', f = f' + 1 := ⟨f - 1, by omega⟩
    refine ⟨g, OnM.rfl' hs, by unfold tkF; rw [sca_stop (by omega)]; exact e5, ?_⟩
    show D_X11_next_8b _ g (some 81) = _
    unfold D_X11_next_8b
    rw [s_gI hs (ci := 11) rfl rfl, Option.bind_some, s_gI hs (ci := 11) rfl rfl, Option.bind_some, e5, t.2.1, if_pos ((nat_le (by have := t.1; omega) (by have := t.1; omega)).mpr (by omega))]
  | succ d ih =>
    intro i f g hd hf hi hs t e5
    obtain ⟨f, rfl⟩ : ∃ f', f = f' + 1 := ⟨f - 1, by omega⟩
    have hL := t.1
    obtain ⟨et, bt⟩ := t.2.2 i (by omega)
    have q0 : z_gQ 11 g (some 81) 12 = some (some 90) := s_gQ hs rfl rfl
    show ∃ g', _ ∧ _ ∧ D_X11_next_8b (D_X11_next_8 f) g (some 81) = _
    unfold D_X11_next_8b
    rw [s_gI hs (ci := 11) rfl rfl, Option.bind_some, s_gI hs (ci := 11) rfl rfl, Option.bind_some, e5, t.2.1, if_neg (fun z => by have := (nat_le (by omega) (by omega)).mp z; omega), q0, Option.bind_some, Option.bind_some, aR hs (n := 400) rfl (by omega) (by decide), et, Option.bind_some]
    by_cases c : tp i = 32
    · rw [if_pos (show Int32.ofNat (tp i) = 32 by rw [c]; rfl), Option.bind_some, s_pV hs (ci := 11) rfl (by decide), Option.bind_some, show Int32.ofNat i + 1 = Int32.ofNat (i + 1) from sc_add i 1]
      have o1 := onMF hs (k := 14) rfl (S := [81]) (ks := [14]) (by decide) (by decide) (Int32.ofNat (i + 1))
      obtain ⟨g', o, e, dd⟩ := ih (i + 1) f _ (by omega) (by omega) (by omega) o1.1 (t.on o1 (by decide) (by decide)) (fI_wF_eq hs rfl _)
      refine ⟨g', o1.trans o, ?_, dd⟩
      rw [e]
      unfold tkF
      rw [sca_step (P := fun j => decide (tp j = 32)) (i := i) (by omega) (by simp [c])]
    · rw [if_neg (show ¬ Int32.ofNat (tp i) = 32 from fun z => c ((eq_lit (b := 32) (by omega) (by decide)).mp z))]
      exact ⟨g, OnM.rfl' hs, by unfold tkF; rw [sca_stop (by simp [c])]; exact e5, rfl⟩
theorem hV_lt {tp : Nat → Nat} (p : Nat) : ∀ n, (∀ j, j < n → tp (p + j) ≤ 122) → hV tp p n < 32 ^ n := by
  intro n
  induction n with
  | zero => intro _; show 0 < 1; omega
  | succ n ih =>
    intro h
    have h1 := ih (fun j hj => h j (by omega))
    have h2 := h n (by omega)
    show hV tp p n * 32 + tp (p + n) - 96 < 32 ^ (n + 1)
    rw [Nat.pow_succ]
    omega
theorem kd_let {b : Nat} (h : kdN b = 0) : 97 ≤ b ∧ b ≤ 122 := by
  unfold kdN at h
  split at h
  · assumption
  · split at h <;> omega
theorem m_nx149 {p : Nat} : ∀ (d i f : Nat) (g : z_H), L - i = d → d < f → i ≤ L → p ≤ i → Sh g → TpM tp L g → fI g 81 14 = Int32.ofNat p → fI g 81 15 = Int32.ofNat i → fI g 81 16 = 1 → fJ g 81 17 = hW tp p (i - p) → ∃ g', OnM [81] [15, 17] g g' ∧ fI g' 81 15 = Int32.ofNat (sca (fun j => decide (kdN (tp j) = 0)) L i) ∧ fJ g' 81 17 = hW tp p (sca (fun j => decide (kdN (tp j) = 0)) L i - p) ∧ D_X11_next_149 f g (some 81) = D_X11_next_243 z_F g' (some 81) := by
  intro d
  induction d with
  | zero =>
    intro i f g hd hf hi hp hs t e14 e15 e16 e17
    obtain ⟨f, rfl⟩ : ∃ f', f = f' + 1 := ⟨f - 1, by omega⟩
    refine ⟨g, OnM.rfl' hs, by rw [sca_stop (by omega)]; exact e15, by rw [sca_stop (by omega)]; exact e17, ?_⟩
    show D_X11_next_149b _ g (some 81) = _
    unfold D_X11_next_149b
    rw [s_gI hs (ci := 11) rfl rfl, Option.bind_some, e16, if_pos rfl, s_gI hs (ci := 11) rfl rfl, Option.bind_some, s_gI hs (ci := 11) rfl rfl, Option.bind_some, e15, t.2.1, if_pos ((nat_le (by have := t.1; omega) (by have := t.1; omega)).mpr (by omega))]
  | succ d ih =>
    intro i f g hd hf hi hp hs t e14 e15 e16 e17
    obtain ⟨f, rfl⟩ : ∃ f', f = f' + 1 := ⟨f - 1, by omega⟩
    have hL := t.1
    obtain ⟨et, bt⟩ := t.2.2 i (by omega)
    have q0 : z_gQ 11 g (some 81) 12 = some (some 90) := s_gQ hs rfl rfl
    have r14 : z_gI 11 g (some 81) 14 = some (Int32.ofNat p) := by rw [s_gI hs (ci := 11) rfl rfl, e14]
    have r15 : z_gI 11 g (some 81) 15 = some (Int32.ofNat i) := by rw [s_gI hs (ci := 11) rfl rfl, e15]
    show ∃ g', _ ∧ _ ∧ _ ∧ D_X11_next_149b (D_X11_next_149 f) g (some 81) = _
    unfold D_X11_next_149b
    rw [s_gI hs (ci := 11) rfl rfl, Option.bind_some, e16, if_pos rfl, r15, Option.bind_some, s_gI hs (ci := 11) rfl rfl, Option.bind_some, t.2.1, if_neg (fun z => by have := (nat_le (by omega) (by omega)).mp z; omega), q0, Option.bind_some, Option.bind_some, aR hs (n := 400) rfl (by omega) (by decide), et, Option.bind_some, m_small bt, Option.bind_some]
    dsimp only
    by_cases c : kdN (tp i) = 0
    · have hb := kd_let c
      rw [decide_eq_true c, if_neg (show ¬ b01 true = 0 by decide), r15, Option.bind_some, r14, Option.bind_some, sc_sub hp]
      have tail : ∀ x : Int64, x = hW tp p (i + 1 - p) → ∃ g', OnM [81] [15, 17] g g' ∧ fI g' 81 15 = Int32.ofNat (sca (fun j => decide (kdN (tp j) = 0)) L i) ∧ fJ g' 81 17 = hW tp p (sca (fun j => decide (kdN (tp j) = 0)) L i - p) ∧ D_X11_next_227 (D_X11_next_149 f) g (some 81) (some 81) x = D_X11_next_243 z_F g' (some 81) := by
        intro x hx
        have o1 := onMJ hs (k := 17) rfl (S := [81]) (ks := [15, 17]) (by decide) (by decide) x
        have o2 := onMF o1.1 (k := 15) rfl (S := [81]) (ks := [15, 17]) (by decide) (by decide) (Int32.ofNat (i + 1))
        have oo := o1.trans o2
        obtain ⟨g', o, ea, eb, dd⟩ := ih (i + 1) f _ (by omega) (by omega) (by omega) (by omega) oo.1 (t.on oo (by decide) (by decide)) ((oo.2.2 14 (by decide)).1.trans e14) (fI_wF_eq o1.1 rfl _) ((oo.2.2 16 (by decide)).1.trans e16) (by rw [fJ_wF_ne (by decide), fJ_wF_eq hs rfl, hx])
        rw [sca_step (P := fun j => decide (kdN (tp j) = 0)) (i := i) (by omega) (by simp [c])]
        refine ⟨g', oo.trans o, ea, eb, ?_⟩
        unfold D_X11_next_227
        rw [s_pV hs (ci := 11) rfl (by decide), Option.bind_some, s_gI o1.1 (ci := 11) rfl rfl, Option.bind_some, fI_wF_ne (by decide), e15, show Int32.ofNat i + 1 = Int32.ofNat (i + 1) from sc_add i 1, s_pV o1.1 (ci := 11) rfl (by decide), Option.bind_some]
        exact dd
      by_cases q : 10 ≤ i - p
      · rw [if_pos (show (10 : Int32) ≤ Int32.ofNat (i - p) from (nat_le (a := 10) (by decide) (by omega)).mpr q)]
        refine tail _ ?_
        unfold hW
        rw [if_neg (by omega)]
      · rw [if_neg (show ¬ (10 : Int32) ≤ Int32.ofNat (i - p) from fun z => q ((nat_le (a := 10) (by decide) (by omega)).mp z)), s_gJ hs (ci := 11) rfl rfl, Option.bind_some, q0, Option.bind_some, Option.bind_some, aR hs (n := 400) rfl (by omega) (by decide), et, Option.bind_some]
        refine tail _ ?_
        rw [e17]
        unfold hW
        rw [if_pos (by omega), if_pos (by omega), show i + 1 - p = (i - p) + 1 by omega]
        show Int64.ofNat (hV tp p (i - p)) * 32 + (Int32.ofNat (tp i)).toInt64 - 96 = Int64.ofNat (hV tp p (i - p) * 32 + tp (p + (i - p)) - 96)
        rw [J_of32 (by omega), show p + (i - p) = i by omega, show Int64.ofNat (hV tp p (i - p)) * 32 = Int64.ofNat (hV tp p (i - p) * 32) from J_mul _ 32, J_add]
        exact J_sub (b := 96) (by omega)
    · rw [decide_eq_false c, if_pos (show b01 false = 0 from rfl)]
      exact ⟨g, OnM.rfl' hs, by rw [sca_stop (by simp [c])]; exact e15, by rw [sca_stop (by simp [c])]; exact e17, rfl⟩
theorem m_nx149_no {f : Nat} (hs : Sh g) {s : Int32} (e16 : fI g 81 16 = s) (h : ¬ s = 1) : D_X11_next_149 (f + 1) g (some 81) = D_X11_next_243 z_F g (some 81) := by
  show D_X11_next_149b _ g (some 81) = _
  unfold D_X11_next_149b
  rw [s_gI hs (ci := 11) rfl rfl, Option.bind_some, e16, if_neg h]
theorem m_nx243_no {f : Nat} (hs : Sh g) {s : Int32} (e16 : fI g 81 16 = s) (h : ¬ s = 2) : D_X11_next_243 (f + 1) g (some 81) = some g := by
  show D_X11_next_243b _ g (some 81) = _
  unfold D_X11_next_243b
  rw [s_gI hs (ci := 11) rfl rfl, Option.bind_some, e16, if_neg h]
theorem m_nx243 : ∀ (d i f v : Nat) (g : z_H), L - i = d → d < f → i ≤ L → v ≤ 10000009 → Sh g → TpM tp L g → fI g 81 15 = Int32.ofNat i → fI g 81 16 = 2 → fJ g 81 17 = Int64.ofNat v → ∃ g', OnM [81] [15, 17] g g' ∧ fI g' 81 15 = Int32.ofNat (sca (fun j => decide (kdN (tp j) = 1)) L i) ∧ fJ g' 81 17 = Int64.ofNat (dgM tp (sca (fun j => decide (kdN (tp j) = 1)) L i - i) i v) ∧ D_X11_next_243 f g (some 81) = some g' := by
  intro d
  induction d with
  | zero =>
    intro i f v g hd hf hi hv hs t e15 e16 e17
    obtain ⟨f, rfl⟩ : ∃ f', f = f' + 1 := ⟨f - 1, by omega⟩
    refine ⟨g, OnM.rfl' hs, by rw [sca_stop (by omega)]; exact e15, by rw [sca_stop (by omega), Nat.sub_self]; exact e17, ?_⟩
    show D_X11_next_243b _ g (some 81) = _
    unfold D_X11_next_243b
    rw [s_gI hs (ci := 11) rfl rfl, Option.bind_some, e16, if_pos rfl, s_gI hs (ci := 11) rfl rfl, Option.bind_some, s_gI hs (ci := 11) rfl rfl, Option.bind_some, e15, t.2.1, if_pos ((nat_le (by have := t.1; omega) (by have := t.1; omega)).mpr (by omega))]
  | succ d ih =>
    intro i f v g hd hf hi hv hs t e15 e16 e17
    obtain ⟨f, rfl⟩ : ∃ f', f = f' + 1 := ⟨f - 1, by omega⟩
    have hL := t.1
    obtain ⟨et, bt⟩ := t.2.2 i (by omega)
    have q0 : z_gQ 11 g (some 81) 12 = some (some 90) := s_gQ hs rfl rfl
    have r15 : z_gI 11 g (some 81) 15 = some (Int32.ofNat i) := by rw [s_gI hs (ci := 11) rfl rfl, e15]
    have r17 : z_gJ 11 g (some 81) 17 = some (Int64.ofNat v) := by rw [s_gJ hs (ci := 11) rfl rfl, e17]
    show ∃ g', _ ∧ _ ∧ _ ∧ D_X11_next_243b (D_X11_next_243 f) g (some 81) = _
    unfold D_X11_next_243b
    rw [s_gI hs (ci := 11) rfl rfl, Option.bind_some, e16, if_pos rfl, r15, Option.bind_some, s_gI hs (ci := 11) rfl rfl, Option.bind_some, t.2.1, if_neg (fun z => by have := (nat_le (by omega) (by omega)).mp z; omega), q0, Option.bind_some, Option.bind_some, aR hs (n := 400) rfl (by omega) (by decide), et, Option.bind_some, m_digit bt, Option.bind_some]
    dsimp only
    by_cases c : kdN (tp i) = 1
    · have hb := kd_dig c
      have e1 : (if 1000000 < v then v else v * 10 + tp i - 48) ≤ 10000009 := by split <;> omega
      have tail : ∀ x : Int64, x = Int64.ofNat (if 1000000 < v then v else v * 10 + tp i - 48) → ∃ g', OnM [81] [15, 17] g g' ∧ fI g' 81 15 = Int32.ofNat (sca (fun j => decide (kdN (tp j) = 1)) L i) ∧ fJ g' 81 17 = Int64.ofNat (dgM tp (sca (fun j => decide (kdN (tp j) = 1)) L i - i) i v) ∧ D_X11_next_319 (D_X11_next_243 f) g (some 81) (some 81) x = some g' := by
        intro x hx
        have o1 := onMJ hs (k := 17) rfl (S := [81]) (ks := [15, 17]) (by decide) (by decide) x
        have o2 := onMF o1.1 (k := 15) rfl (S := [81]) (ks := [15, 17]) (by decide) (by decide) (Int32.ofNat (i + 1))
        have oo := o1.trans o2
        obtain ⟨g', o, ea, eb, dd⟩ := ih (i + 1) f _ _ (by omega) (by omega) (by omega) e1 oo.1 (t.on oo (by decide) (by decide)) (fI_wF_eq o1.1 rfl _) ((oo.2.2 16 (by decide)).1.trans e16) (by rw [fJ_wF_ne (by decide), fJ_wF_eq hs rfl, hx])
        have ss := sca_step (P := fun j => decide (kdN (tp j) = 1)) (L := L) (i := i) (by omega) (by simp [c])
        have sb := sca_b (P := fun j => decide (kdN (tp j) = 1)) (L := L) _ (i + 1) rfl (by omega)
        refine ⟨g', oo.trans o, by rw [ss]; exact ea, ?_, ?_⟩
        · rw [eb, ss, show sca (fun j => decide (kdN (tp j) = 1)) L (i + 1) - i = (sca (fun j => decide (kdN (tp j) = 1)) L (i + 1) - (i + 1)) + 1 by omega]
          rfl
        unfold D_X11_next_319
        rw [s_pV hs (ci := 11) rfl (by decide), Option.bind_some, s_gI o1.1 (ci := 11) rfl rfl, Option.bind_some, fI_wF_ne (by decide), e15, show Int32.ofNat i + 1 = Int32.ofNat (i + 1) from sc_add i 1, s_pV o1.1 (ci := 11) rfl (by decide), Option.bind_some]
        exact dd
      rw [decide_eq_true c, if_neg (show ¬ b01 true = 0 by decide), r17, Option.bind_some]
      have cm : (lg_cmp (Int64.ofNat v) 1000000 ≤ 0) ↔ ¬ 1000000 < v := by
        rw [lg_nonpos, J_int (by omega)]
        show ¬ ((1000000 : Int) < (v : Int)) ↔ _
        omega
      by_cases q : 1000000 < v
      · rw [if_neg (fun z => cm.mp z q), Option.bind_some]
        exact tail _ (by rw [if_pos q])
      · rw [if_pos (cm.mpr q), Option.bind_some, q0, Option.bind_some, r15, Option.bind_some, aR hs (n := 400) rfl (by omega) (by decide), et, Option.bind_some]
        refine tail _ ?_
        rw [if_neg q, J_of32 (by omega), show Int64.ofNat v * 10 = Int64.ofNat (v * 10) from J_mul _ 10, J_add]
        exact J_sub (b := 48) (by omega)
    · rw [decide_eq_false c, if_pos (show b01 false = 0 from rfl)]
      exact ⟨g, OnM.rfl' hs, by rw [sca_stop (by simp [c])]; exact e15, by rw [sca_stop (by simp [c]), Nat.sub_self]; exact e17, rfl⟩
theorem m_nextI (hs : Sh g) (t : TpM tp L g) {i : Nat} (hi : i ≤ L) (e15 : fI g 81 15 = Int32.ofNat i) : ∃ g', OnM [81] [14, 15, 16, 17] g g' ∧ TokM tp L g' (tkF tp L i) ∧ D_X11_next g (some 81) = some g' := by
  have hL := t.1
  have o1 := onMF hs (k := 14) rfl (S := [81]) (ks := [14]) (by decide) (by decide) (Int32.ofNat i)
  obtain ⟨g2, o2, e14, d2⟩ := m_nx8 (tp := tp) (L := L) _ i z_F _ rfl (by show _ < 1000000; omega) hi o1.1 (t.on o1 (by decide) (by decide)) (fI_wF_eq hs rfl _)
  have o12 := (o1.trans o2).mono (S' := [81]) (ks' := [14, 15, 16, 17]) (by decide) (by decide)
  have dA : D_X11_next g (some 81) = D_X11_next_46 g2 (some 81) := by
    unfold D_X11_next
    rw [s_gI hs (ci := 11) rfl rfl, Option.bind_some, e15, s_pV hs (ci := 11) rfl (by decide), Option.bind_some]
    exact d2
  have fb := tkF_b (tp := tp) hi
  generalize tkF tp L i = p at *
  have hs2 := o2.1
  have o3 := onMF hs2 (k := 15) rfl (S := [81]) (ks := [14, 15, 16, 17]) (by decide) (by decide) (Int32.ofNat p)
  have o4 := onMJ o3.1 (k := 17) rfl (S := [81]) (ks := [14, 15, 16, 17]) (by decide) (by decide) 0
  have o14 := o12.trans (o3.trans o4)
  have f14 : fI (wF (wF g2 81 15 (.int (Int32.ofNat p))) 81 17 (.long 0)) 81 14 = Int32.ofNat p := by rw [fI_wF_ne (by decide), fI_wF_ne (by decide)]; exact e14
  have f15 : fI (wF (wF g2 81 15 (.int (Int32.ofNat p))) 81 17 (.long 0)) 81 15 = Int32.ofNat p := by rw [fI_wF_ne (by decide)]; exact fI_wF_eq hs2 rfl _
  have f17 : fJ (wF (wF g2 81 15 (.int (Int32.ofNat p))) 81 17 (.long 0)) 81 17 = 0 := fJ_wF_eq o3.1 rfl _
  rw [dA]
  unfold D_X11_next_46
  rw [s_gI hs2 (ci := 11) rfl rfl, Option.bind_some, e14, s_pV hs2 (ci := 11) rfl (by decide), Option.bind_some, s_pV o3.1 (ci := 11) rfl (by decide), Option.bind_some, s_gI o4.1 (ci := 11) rfl rfl, Option.bind_some, f14, s_gI o4.1 (ci := 11) rfl rfl, Option.bind_some]
  generalize wF (wF g2 81 15 (.int (Int32.ofNat p))) 81 17 (.long 0) = g4 at *
  have hs4 := o4.1
  have t4 : TpM tp L g4 := t.on o14 (by decide) (by decide)
  rw [t4.2.1]
  -- the sort
  have tail : ∀ s : Nat, s = srtN (tkK tp L p) → ∃ g', OnM [81] [14, 15, 16, 17] g g' ∧ TokM tp L g' p ∧ D_X11_next_114 g4 (some 81) (some 81) (Int32.ofNat s) = some g' := by
    intro s hsr
    have o5 := onMF hs4 (k := 16) rfl (S := [81]) (ks := [14, 15, 16, 17]) (by decide) (by decide) (Int32.ofNat s)
    have h14 : fI (wF g4 81 16 (.int (Int32.ofNat s))) 81 14 = Int32.ofNat p := by rw [fI_wF_ne (by decide)]; exact f14
    have h15 : fI (wF g4 81 16 (.int (Int32.ofNat s))) 81 15 = Int32.ofNat p := by rw [fI_wF_ne (by decide)]; exact f15
    have h16 : fI (wF g4 81 16 (.int (Int32.ofNat s))) 81 16 = Int32.ofNat s := fI_wF_eq hs4 rfl _
    have h17 : fJ (wF g4 81 16 (.int (Int32.ofNat s))) 81 17 = 0 := by rw [fJ_wF_ne (by decide)]; exact f17
    have o15 := o14.trans o5
    unfold D_X11_next_114
    rw [s_pV hs4 (ci := 11) rfl (by decide), Option.bind_some, s_gI o5.1 (ci := 11) rfl rfl, Option.bind_some, h16]
    generalize wF g4 81 16 (.int (Int32.ofNat s)) = g5 at *
    have hs5 := o5.1
    have t5 : TpM tp L g5 := t.on o15 (by decide) (by decide)
    have eb := tkE_b (tp := tp) (L := L) (p := p) (by omega)
    have eK : tkK tp L p = if p < L then kdN (tp p) else 3 := rfl
    have kb : kdN (tp p) < 3 := by unfold kdN; split <;> (try split) <;> omega
    have kK : tkK tp L p ≤ 3 := by rw [eK]; split <;> omega
    have hw : ∀ k, tkK tp L p = k → k < 3 → p < L ∧ kdN (tp p) = k := fun k e1 e2 => by
      rw [eK] at e1
      by_cases c : p < L
      · rw [if_pos c] at e1; exact ⟨c, e1⟩
      · rw [if_neg c] at e1; omega
    rcases (show tkK tp L p = 0 ∨ tkK tp L p = 1 ∨ tkK tp L p = 2 ∨ tkK tp L p = 3 by omega) with k | k | k | k
    · obtain ⟨c, kp⟩ := hw 0 k (by decide)
      have s1 : s = 1 := by rw [hsr, k]; rfl
      subst s1
      have eE : tkE tp L p = sca (fun j => decide (kdN (tp j) = 0)) L p := by
        unfold tkE
        rw [if_pos c, if_neg (by omega), kp]
        exact (sca_step (P := fun j => decide (kdN (tp j) = 0)) c (by simp [kp])).symm
      obtain ⟨g6, o6, a6, b6, d6⟩ := m_nx149 (tp := tp) (L := L) (p := p) _ p z_F g5 rfl (by show _ < 1000000; omega) (by omega) (Nat.le_refl _) hs5 t5 h14 h15 h16 (by rw [h17, Nat.sub_self]; rfl)
      have e6 := (o6.2.2 16 (by decide)).1.trans h16
      refine ⟨g6, o15.trans (o6.mono (by decide) (by decide)), ⟨by omega, (o6.2.2 14 (by decide)).1.trans h14, by rw [eE]; exact a6, by rw [k]; exact e6, by unfold wrt; rw [if_pos k, eE]; exact b6⟩, ?_⟩
      rw [if_neg (by decide), d6]
      exact m_nx243_no (f := 999999) o6.1 e6 (by decide)
    · obtain ⟨c, kp⟩ := hw 1 k (by decide)
      have s1 : s = 2 := by rw [hsr, k]; rfl
      subst s1
      have eE : tkE tp L p = sca (fun j => decide (kdN (tp j) = 1)) L p := by
        unfold tkE
        rw [if_pos c, if_neg (by omega), kp]
        exact (sca_step (P := fun j => decide (kdN (tp j) = 1)) c (by simp [kp])).symm
      obtain ⟨g6, o6, a6, b6, d6⟩ := m_nx243 (tp := tp) (L := L) _ p z_F 0 g5 rfl (by show _ < 1000000; omega) (by omega) (by omega) hs5 t5 h15 h16 h17
      refine ⟨g6, o15.trans (o6.mono (by decide) (by decide)), ⟨by omega, (o6.2.2 14 (by decide)).1.trans h14, by rw [eE]; exact a6, by rw [k]; exact (o6.2.2 16 (by decide)).1.trans h16, by unfold wrt numM; rw [if_neg (by omega), if_pos k, eE]; exact b6⟩, ?_⟩
      rw [if_neg (by decide), show z_F = 999999 + 1 from rfl, m_nx149_no hs5 h16 (by decide)]
      exact d6
    · obtain ⟨c, kp⟩ := hw 2 k (by decide)
      have s1 : s = 3 := by rw [hsr, k]; rfl
      subst s1
      obtain ⟨et, bt⟩ := t5.2.2 p (by omega)
      have eE : tkE tp L p = p + 1 := by unfold tkE; rw [if_pos c, if_pos kp]
      have o6 := onMJ hs5 (k := 17) rfl (S := [81]) (ks := [14, 15, 16, 17]) (by decide) (by decide) (Int64.ofNat (tp p))
      have o7 := onMF o6.1 (k := 15) rfl (S := [81]) (ks := [14, 15, 16, 17]) (by decide) (by decide) (Int32.ofNat (p + 1))
      have e6 : fI (wF (wF g5 81 17 (.long (Int64.ofNat (tp p)))) 81 15 (.int (Int32.ofNat (p + 1)))) 81 16 = Int32.ofNat 3 := by rw [fI_wF_ne (by decide), fI_wF_ne (by decide)]; exact h16
      refine ⟨_, o15.trans (o6.trans o7), ⟨by omega, by rw [fI_wF_ne (by decide), fI_wF_ne (by decide)]; exact h14, by rw [eE]; exact fI_wF_eq o6.1 rfl _, by rw [k]; exact e6, by unfold wrt; rw [if_neg (by omega), if_neg (by omega), if_pos k, fJ_wF_ne (by decide)]; exact fJ_wF_eq hs5 rfl _⟩, ?_⟩
      rw [if_pos (by decide), s_gQ (r := 90) hs5 rfl rfl, Option.bind_some, s_gI hs5 (ci := 11) rfl rfl, Option.bind_some, h14, aR hs5 (n := 400) rfl (by omega) (by decide), et, Option.bind_some, J_of32 (by omega), s_pV hs5 (ci := 11) rfl (by decide), Option.bind_some, s_gI o6.1 (ci := 11) rfl rfl, Option.bind_some, fI_wF_ne (by decide), h15, show Int32.ofNat p + 1 = Int32.ofNat (p + 1) from sc_add p 1, s_pV o6.1 (ci := 11) rfl (by decide), Option.bind_some, show z_F = 999999 + 1 from rfl, m_nx149_no o7.1 e6 (by decide)]
      exact m_nx243_no (f := 999999) o7.1 e6 (by decide)
    · have s1 : s = 0 := by rw [hsr, k]; rfl
      subst s1
      have c : ¬ p < L := fun c => by rw [eK, if_pos c] at k; omega
      have eE : tkE tp L p = p := by unfold tkE; rw [if_neg c]
      refine ⟨g5, o15, ⟨by omega, h14, by rw [eE]; exact h15, by rw [k]; exact h16, by unfold wrt; rw [if_neg (by omega), if_neg (by omega), if_neg (by omega)]; exact h17⟩, ?_⟩
      rw [if_neg (by decide), show z_F = 999999 + 1 from rfl, m_nx149_no hs5 h16 (by decide)]
      exact m_nx243_no (f := 999999) hs5 h16 (by decide)
  by_cases c : p < L
  · obtain ⟨et, bt⟩ := t4.2.2 p (by omega)
    have q0 : z_gQ 11 g4 (some 81) 12 = some (some 90) := s_gQ hs4 rfl rfl
    have eK : tkK tp L p = kdN (tp p) := by unfold tkK; rw [if_pos c]
    have kb : kdN (tp p) < 3 := by unfold kdN; split <;> (try split) <;> omega
    rw [if_neg (fun z => by have := (eq_lit (by omega) (by omega)).mp z; omega), q0, Option.bind_some, Option.bind_some, aR hs4 (n := 400) rfl (by omega) (by decide), et, Option.bind_some, m_small bt, Option.bind_some]
    dsimp only
    by_cases k0 : kdN (tp p) = 0
    · rw [decide_eq_true k0, if_neg (show ¬ b01 true = 0 by decide)]
      exact tail 1 (by rw [eK, k0]; rfl)
    · rw [decide_eq_false k0, if_pos (show b01 false = 0 from rfl), q0, Option.bind_some, s_gI hs4 (ci := 11) rfl rfl, Option.bind_some, f14, aR hs4 (n := 400) rfl (by omega) (by decide), et, Option.bind_some, m_digit bt, Option.bind_some]
      dsimp only
      by_cases k1 : kdN (tp p) = 1
      · rw [decide_eq_true k1, if_neg (show ¬ b01 true = 0 by decide)]
        exact tail 2 (by rw [eK, k1]; rfl)
      · rw [decide_eq_false k1, if_pos (show b01 false = 0 from rfl)]
        exact tail 3 (by rw [eK, show kdN (tp p) = 2 by omega]; rfl)
  · have eK : tkK tp L p = 3 := by unfold tkK; rw [if_neg c]
    rw [if_pos (show Int32.ofNat p = Int32.ofNat L by rw [show p = L by omega])]
    exact tail 0 (by rw [eK]; rfl)
theorem m_next (hs : Sh g) (t : TpM tp L g) {p : Nat} (k : TokM tp L g p) : ∃ g', OnM [81] [14, 15, 16, 17] g g' ∧ TokM tp L g' (tkN tp L p) ∧ D_X11_next g (some 81) = some g' := m_nextI hs t (tkE_b k.1).2.1 k.2.2.1
end TM
