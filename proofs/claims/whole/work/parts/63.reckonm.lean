/-! THE REFERENCE'S RECKONING, a step at a time -/
def SM (g : z_H) (s : List Int64) : Prop := s.length ≤ 51 ∧ ∀ i, i < s.length → s.reverse[i]? = some (aJ g 101 i)
theorem SM.top {g : z_H} {x : Int64} {r : List Int64} (H : SM g (x :: r)) : aJ g 101 r.length = x := by
  have := H.2 r.length (by simp)
  simp at this
  exact this.symm
theorem SM.tl {g : z_H} {x : Int64} {r : List Int64} (H : SM g (x :: r)) : SM g r := by
  refine ⟨by have := H.1; simp at this; omega, fun i hi => ?_⟩
  have := H.2 i (by simp; omega)
  rw [List.reverse_cons, List.getElem?_append_left (by simpa using hi)] at this
  exact this
theorem SM.push {g g' : z_H} {s : List Int64} {v : Int64} (H : SM g s) (hl : s.length < 51) (e : aJ g' 101 = vp_updL (aJ g 101) s.length v) : SM g' (v :: s) := by
  refine ⟨by simp; omega, fun i hi => ?_⟩
  rw [List.reverse_cons]
  by_cases q : i = s.length
  · subst q
    rw [List.getElem?_append_right (by simp), e]
    simp [vp_updL]
  · have hi2 : i < s.length := by simp at hi; omega
    rw [List.getElem?_append_left (by simpa using hi2), e, H.2 i hi2]
    simp [vp_updL, q]
theorem SM.of {g g' : z_H} {s : List Int64} (H : SM g s) (e : aJ g' 101 = aJ g 101) : SM g' s := ⟨H.1, fun i hi => by rw [e]; exact H.2 i hi⟩
/-- what a leaf is worth -/
def LfM (g : z_H) (ord : Bool) (o a : Int32) : Int64 := if o = 0 then a.toInt64 else if ord = false then aJ g 99 (tn o) else if tn o < 6 then aJ g 100 (tn o) else if tn a < tn (aI g 83 0) then (if o = 6 then (aI g 83 (8 + tn a)).toInt64 else (aI g 83 (20 + 4 * tn a + tn o - 7)).toInt64) else -1
def wfL (ord : Bool) (o a : Int32) : Prop := o = 0 ∨ (ord = false ∧ ∃ k : Nat, o = Int32.ofNat (k + 1) ∧ k < 9) ∨ (ord = true ∧ ∃ k : Nat, o = Int32.ofNat (k + 1) ∧ k < 5) ∨ (ord = true ∧ ∃ k p : Nat, o = Int32.ofNat (6 + k) ∧ k < 3 ∧ a = Int32.ofNat p ∧ p < 6)
/-- the code that the reference reads -/
def RdM (g : z_H) (ord : Bool) (K Ka : Nat → Int32) : Prop := fI g 81 20 = (if ord = true then 1 else 0) ∧ nb (aI g 83 0) 6 ∧ (ord = false → ∃ L : Nat, L + 900 ≤ 5462 ∧ fI g 81 34 = Int32.ofNat L ∧ ∀ k, k < 400 → aI g 83 (L + 98 + 2 * k) = K k ∧ aI g 83 (L + 99 + 2 * k) = Ka k) ∧ (ord = true → ∀ k, k < 400 → aI g 92 k = K k ∧ aI g 93 k = Ka k)
/-- of the reference only the stack and these fields have changed -/
def OnM (S ks : List Nat) (g g' : z_H) : Prop := Sh g' ∧ Tch S g g' ∧ ∀ k, k ∉ ks → fI g' 81 k = fI g 81 k ∧ fJ g' 81 k = fJ g 81 k
theorem OnM.trans {S ks : List Nat} {g1 g2 g3 : z_H} (a : OnM S ks g1 g2) (b : OnM S ks g2 g3) : OnM S ks g1 g3 := ⟨b.1, a.2.1.trans b.2.1, fun k hk => ⟨((b.2.2 k hk).1).trans (a.2.2 k hk).1, ((b.2.2 k hk).2).trans (a.2.2 k hk).2⟩⟩
theorem OnM.rfl' {S ks : List Nat} {g : z_H} (hs : Sh g) : OnM S ks g g := ⟨hs, Tch_rfl _ g, fun _ _ => ⟨rfl, rfl⟩⟩
theorem OnM.mono {S S' ks ks' : List Nat} {g g' : z_H} (H : OnM S ks g g') (h1 : ∀ a ∈ S, a ∈ S') (h2 : ∀ a ∈ ks, a ∈ ks') : OnM S' ks' g g' := ⟨H.1, H.2.1.mono h1, fun k hk => H.2.2 k (fun q => hk (h2 k q))⟩
theorem RdM.on {g g' : z_H} {ord : Bool} {K Ka : Nat → Int32} (H : RdM g ord K Ka) (o : OnM [81, 101] [38, 39] g g') : RdM g' ord K Ka := by
  obtain ⟨h1, h2, h3, h4⟩ := H
  have c : ∀ a, a ∉ [81, 101] → aI g' a = aI g a := fun a ha => cell_aI (o.2.1.c ha)
  refine ⟨by rw [(o.2.2 20 (by decide)).1]; exact h1, by rw [c 83 (by decide)]; exact h2, ?_, ?_⟩
  · rw [(o.2.2 34 (by decide)).1, c 83 (by decide)]; exact h3
  · rw [c 92 (by decide), c 93 (by decide)]; exact h4
theorem LfM_on {g g' : z_H} {ord : Bool} {ks : List Nat} (o : OnM [81, 101] ks g g') (x a : Int32) : LfM g' ord x a = LfM g ord x a := by
  unfold LfM
  rw [cell_aI (o.2.1.c (by decide : 83 ∉ _)), cell_aJ (o.2.1.c (by decide : 99 ∉ _)), cell_aJ (o.2.1.c (by decide : 100 ∉ _))]
section RMS
variable {g : z_H} {ord : Bool} {K Ka : Nat → Int32} {last : Nat}
def puM (g : z_H) (k : Nat) (v : Int64) : z_H := wJ g 101 (vp_updL (aJ g 101) k v)
theorem Sh_puM (hs : Sh g) (k : Nat) (v : Int64) : Sh (puM g k v) := Sh_wJ hs rfl _
theorem puM_a (hs : Sh g) (k : Nat) (v : Int64) : aJ (puM g k v) 101 = vp_updL (aJ g 101) k v := aJ_wJ_eq hs rfl _
theorem puM_on (hs : Sh g) (k : Nat) (v : Int64) : OnM [81, 101] [38, 39] g (puM g k v) := ⟨Sh_puM hs k v, Tch_wJ (Tch_rfl _ g) (by decide) _, fun _ _ => ⟨fI_wJ _ _ _ _, fJ_wJ _ _ _ _⟩⟩
theorem ix1 (L k : Nat) : (Int32.ofNat L + 98) + 2 * Int32.ofNat k = Int32.ofNat (L + 98 + 2 * k) := by rw [show (98 : Int32) = Int32.ofNat 98 from rfl, show (2 : Int32) = Int32.ofNat 2 from rfl, sc_mul, sc_add, sc_add]
theorem ix2 (L k : Nat) : Int32.ofNat (L + 98 + 2 * k) + 1 = Int32.ofNat (L + 99 + 2 * k) := by
  have e : L + 99 + 2 * k = (L + 98 + 2 * k) + 1 := by omega
  rw [e]
  exact sc_add _ 1
theorem rm_h1 (hs : Sh g) (rd : RdM g ord K Ka) {k : Nat} (hk : k < 400) : ord = false → ∃ L : Nat, fI g 81 34 = Int32.ofNat L ∧ iR 5462 (aI g 83) (Int32.ofNat (L + 98 + 2 * k)) = some (K k) ∧ iR 5462 (aI g 83) (Int32.ofNat (L + 99 + 2 * k)) = some (Ka k) := fun c => by
  obtain ⟨r1, r2, r3, r4⟩ := rd
  obtain ⟨L, l1, l2, l3'⟩ := r3 c
  have b1 : L + 98 + 2 * k < 5462 := by omega
  have b2 : L + 99 + 2 * k < 5462 := by omega
  refine ⟨L, l2, ?_, ?_⟩
  · rw [iR_ofNat b1 (by decide), (l3' k hk).1]
  · rw [iR_ofNat b2 (by decide), (l3' k hk).2]
theorem rm_head (hs : Sh g) (rd : RdM g ord K Ka) (br : fI g 81 38 = 0) {k : Nat} (hk : k < last) (hl : last ≤ 400) (m : Nat) (l3 : Int32) : D_X11_reckonAll_10 (m + 1) g (some 81) (Int32.ofNat last) l3 (Int32.ofNat k) = D_X11_reckonAll_95 (D_X11_reckonAll_10 m) g (some 81) (Int32.ofNat last) l3 (Int32.ofNat k) (K k) (Ka k) := by
  have hh := rm_h1 hs rd (k := k) (by omega)
  have hk4 : k < 400 := by omega
  have g38 : z_gI 11 g (some 81) 38 = some (fI g 81 38) := s_gI hs rfl rfl
  have g20 : z_gI 11 g (some 81) 20 = some (fI g 81 20) := s_gI hs rfl rfl
  have g34 : z_gI 11 g (some 81) 34 = some (fI g 81 34) := s_gI hs rfl rfl
  have g3 : z_gQ 11 g (some 81) 3 = some (some 83) := s_gQ hs rfl rfl
  have g24 : z_gQ 11 g (some 81) 24 = some (some 92) := s_gQ hs rfl rfl
  have g25 : z_gQ 11 g (some 81) 25 = some (some 93) := s_gQ hs rfl rfl
  have ga : ∀ i, z_aI .int g (some 83) i = iR 5462 (aI g 83) i := fun i => s_aI hs (Or.inl rfl) rfl i
  have gb : ∀ i, z_aI .int g (some 92) i = iR 400 (aI g 92) i := fun i => s_aI hs (Or.inl rfl) rfl i
  have gc : ∀ i, z_aI .int g (some 93) i = iR 400 (aI g 93) i := fun i => s_aI hs (Or.inl rfl) rfl i
  obtain ⟨r1, r2, r3, r4⟩ := rd
  have n1 : ¬ Int32.ofNat last ≤ Int32.ofNat k := by rw [nat_le (by omega) (by omega)]; omega
  show D_X11_reckonAll_10b (D_X11_reckonAll_10 m) g (some 81) (Int32.ofNat last) l3 (Int32.ofNat k) = _
  unfold D_X11_reckonAll_10b
  rw [if_neg n1]
  cases ord with
  | false =>
    obtain ⟨L, l2, q1, q2⟩ := hh rfl
    rw [if_neg (by decide)] at r1
    rw [g38, Option.bind_some, br, if_pos rfl, g20, Option.bind_some, r1, if_pos rfl, g3, Option.bind_some, g34, Option.bind_some, l2, ix1, ga, q1, Option.bind_some]
    unfold D_X11_reckonAll_57
    rw [g20, Option.bind_some, r1, if_pos rfl, g3, Option.bind_some, g34, Option.bind_some, l2, ix1, ix2, ga, q2, Option.bind_some]
  | true =>
    rw [if_pos rfl] at r1
    rw [g38, Option.bind_some, br, if_pos rfl, g20, Option.bind_some, r1, if_neg one_ne, g24, Option.bind_some, gb, iR_ofNat hk4 (by decide), Option.bind_some, (r4 rfl k hk4).1]
    unfold D_X11_reckonAll_57
    rw [g20, Option.bind_some, r1, if_neg one_ne, g25, Option.bind_some, gc, iR_ofNat hk4 (by decide), Option.bind_some, (r4 rfl k hk4).2]
theorem rm_push (hs : Sh g) {s : List Int64} (sm : SM g s) (hl : s.length < 51) (m k : Nat) (v : Int64) : D_X11_reckonAll_212 (D_X11_reckonAll_10 m) g (some 81) (Int32.ofNat last) (Int32.ofNat s.length) (Int32.ofNat k) (some 101) (Int32.ofNat s.length) v = D_X11_reckonAll_10 m (puM g s.length v) (some 81) (Int32.ofNat last) (Int32.ofNat (v :: s).length) (Int32.ofNat k) := by
  have tl : (Int32.ofNat s.length).toNatClampNeg = s.length := tn_of (by omega)
  have e1 : Int32.ofNat s.length + 1 = Int32.ofNat (v :: s).length := by rw [List.length_cons]; exact sc_add _ 1
  simp only [D_X11_reckonAll_212, wrA_m hs, iW_ofNat (show s.length < 400 by omega) (by decide), Option.bind_some, tl, D_X11_reckonAll_358, e1, puM]
theorem lf_lt {o : Nat} (ho : o < 20) : ¬ (20 : Int32) ≤ Int32.ofNat o := by rw [show (20 : Int32) = Int32.ofNat 20 from rfl, nat_le (by decide) (by omega)]; omega
theorem of_ne {a b : Nat} (ha : a < 2 ^ 31) (hb : b < 2 ^ 31) (e : a ≠ b) : ¬ Int32.ofNat a = Int32.ofNat b := fun q => e (by have := congrArg tn q; rwa [tn_of ha, tn_of hb] at this)
theorem rm_leaf (hs : Sh g) (rd : RdM g ord K Ka) (br : fI g 81 38 = 0) {s : List Int64} (sm : SM g s) (hl : s.length < 51) {k : Nat} (hk : k < last) (h4 : last ≤ 400) (wf : wfL ord (K k) (Ka k)) (m : Nat) :
    D_X11_reckonAll_10 (m + 1) g (some 81) (Int32.ofNat last) (Int32.ofNat s.length) (Int32.ofNat k) = D_X11_reckonAll_10 m (puM g s.length (LfM g ord (K k) (Ka k))) (some 81) (Int32.ofNat last) (Int32.ofNat (LfM g ord (K k) (Ka k) :: s).length) (Int32.ofNat (k + 1)) := by
  rw [rm_head hs rd br hk h4 m]
  obtain ⟨r1, r2, -, -⟩ := rd
  have e1 : Int32.ofNat k + 1 = Int32.ofNat (k + 1) := sc_add k 1
  unfold D_X11_reckonAll_95
  rw [Option.bind_some, e1]
  have pz := fun v => rm_push (last := last) hs sm hl m (k + 1) v
  rcases wf with e | ⟨rfl, o, e, ho⟩ | ⟨rfl, o, e, ho⟩ | ⟨rfl, o, p, e, ho, ea, hp⟩
  · have ev : LfM g ord (K k) (Ka k) = (Ka k).toInt64 := by unfold LfM; rw [if_pos e]
    rw [ev, e, if_neg (by decide), (by simp only [rdQ_m hs] : z_gQ 11 g (some 81) 37 = some (some 101)), Option.bind_some, if_pos rfl]
    exact pz _
  · have n0 : ¬ Int32.ofNat (o + 1) = 0 := of_ne (b := 0) (by omega) (by decide) (by omega)
    have ev : LfM g false (K k) (Ka k) = aJ g 99 (o + 1) := by unfold LfM; rw [e, if_neg n0, if_pos rfl, tn_of (by omega)]
    rw [if_neg (by decide)] at r1
    rw [ev, e, if_neg (lf_lt (by omega))]
    simp only [rdQ_m hs, Option.bind_some, if_neg n0, rdF_m hs, r1, if_true, rdA_m hs, iR_ofNat (show o + 1 < 13 by omega) (by decide)]
    exact pz _
  · have n0 : ¬ Int32.ofNat (o + 1) = 0 := of_ne (b := 0) (by omega) (by decide) (by omega)
    have n6 : ¬ (6 : Int32) ≤ Int32.ofNat (o + 1) := by rw [show (6 : Int32) = Int32.ofNat 6 from rfl, nat_le (by decide) (by omega)]; omega
    have ev : LfM g true (K k) (Ka k) = aJ g 100 (o + 1) := by unfold LfM; rw [e, if_neg n0, if_neg (by decide), tn_of (by omega), if_pos (by omega)]
    rw [if_pos rfl] at r1
    rw [ev, e, if_neg (lf_lt (by omega))]
    simp only [rdQ_m hs, Option.bind_some, if_neg n0, rdF_m hs, r1, if_neg one_ne, if_neg n6, rdA_m hs, iR_ofNat (show o + 1 < 13 by omega) (by decide)]
    exact pz _
  · have n0 : ¬ Int32.ofNat (6 + o) = 0 := of_ne (b := 0) (by omega) (by decide) (by omega)
    have n6 : (6 : Int32) ≤ Int32.ofNat (6 + o) := by rw [show (6 : Int32) = Int32.ofNat 6 from rfl, nat_le (by decide) (by omega)]; omega
    have n7 : o ≠ 0 → ¬ Int32.ofNat (6 + o) = 6 := fun z => of_ne (b := 6) (by omega) (by decide) (by omega)
    obtain ⟨q, eq, hq⟩ := r2
    have ip : D_X11_isPair g (some 81) (Ka k) = some (if p < q then 1 else 0, g) := by
      simp only [D_X11_isPair, rdQ_m hs, Option.bind_some, rdA_m hs, iRs, Nat.reduceLT, Nat.reduceLeDiff, eq, ea, d_in]
      have : (Int64.toInt 0 ≤ (Int32.ofNat p).toInt64.toInt ∧ (Int32.ofNat p).toInt64.toInt ≤ ((Int32.ofNat q).toInt64 - 1).toInt) ↔ p < q := by
        rw [sub1 ⟨q, rfl, hq⟩ (by decide), wide, Int32.toInt_ofNat_of_lt (by omega), Int32.toInt_ofNat_of_lt (by omega), l_lits.1]; omega
      by_cases c : p < q
      · rw [if_pos (this.mpr c), if_pos c, if_pos (Or.inr rfl)]
      · rw [if_neg (fun z => c (this.mp z)), if_neg c, if_pos (Or.inl rfl)]
    rw [if_pos rfl] at r1
    have ev : LfM g true (K k) (Ka k) = if p < q then (if o = 0 then (aI g 83 (8 + p)).toInt64 else (aI g 83 (20 + 4 * p + o - 1)).toInt64) else -1 := by
      unfold LfM
      rw [e, if_neg n0, if_neg (by decide), tn_of (by omega), if_neg (by omega), ea, tn_of (by omega), eq, tn_of (by omega)]
      by_cases c : p < q
      · rw [if_pos c, if_pos c]
        by_cases co : o = 0
        · subst co; rfl
        · rw [if_neg (n7 co), if_neg co]; congr 2; omega
      · rw [if_neg c, if_neg c]
    rw [ev, e, if_neg (lf_lt (by omega))]
    simp only [rdQ_m hs, Option.bind_some, if_neg n0, rdF_m hs, r1, if_neg one_ne, if_pos n6, rdO_m hs, ip]
    by_cases c : p < q
    · simp only [if_pos c, if_neg one_ne]
      by_cases co : o = 0
      · subst co
        have e8 : (8 : Int32) + Ka k = Int32.ofNat (8 + p) := by rw [ea]; exact sc_add 8 p
        rw [if_pos (by rfl), if_pos rfl]
        simp only [rdA_m hs, e8, iR_ofNat (show 8 + p < 5462 by omega) (by decide), Option.bind_some]
        exact pz _
      · have e8 : (20 : Int32) + 4 * Ka k + Int32.ofNat (6 + o) - 7 = Int32.ofNat (20 + 4 * p + o - 1) := by
          rw [ea, show (20 : Int32) = Int32.ofNat 20 from rfl, show (4 : Int32) = Int32.ofNat 4 from rfl, show (7 : Int32) = Int32.ofNat 7 from rfl, sc_mul, sc_add, sc_add, sc_sub (by omega)]; congr 1; omega
        rw [if_neg (n7 co), if_neg co]
        simp only [rdA_m hs, e8, iR_ofNat (show 20 + 4 * p + o - 1 < 5462 by omega) (by decide), Option.bind_some]
        exact pz _
    · simp only [if_neg c, if_true]
      exact pz _
end RMS
