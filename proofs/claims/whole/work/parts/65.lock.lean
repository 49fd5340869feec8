/-! BOTH RECKON ALIKE -/
section LK
variable {ord : Bool} {op ar K Ka w : Nat → Int32} {n lo hi : Nat} {f dp : Nat → Nat}
theorem op_not {o c : Nat} (h5 : 5 ≤ o) (h12 : o ≤ 12) (hc : c < 5) : ¬ Int32.ofNat c = Int32.ofNat o := of_ne (by omega) (by omega) (by omega)
theorem code_wf (C : codeRel ord op ar K Ka n f) {i : Nat} (hi : i < n) : (op i = 1 → nb (ar i) 22) ∧ (op i = 3 ∨ op i = 4 → nb (ar i) 400) := by
  obtain ⟨h1, h2, h3⟩ := C
  obtain ⟨p, -⟩ := h3 i hi
  rcases p with ⟨e, -⟩ | ⟨e, -, v, hv, ea, -⟩ | ⟨e, -, v, hv, ea, -⟩ | ⟨e, -, v, p, hv, hp, ea, -⟩ | ⟨e, -⟩ | ⟨e, j, t, e', j1, j2, ea, -⟩ | ⟨o, h5, h12, e, -⟩
  · refine ⟨fun q => ?_, fun q => ?_⟩ <;> rw [e] at q <;> exact absurd q (by decide)
  · exact ⟨fun _ => ⟨v, ea, by omega⟩, fun q => by rw [e] at q; exact absurd q (by decide)⟩
  · exact ⟨fun _ => ⟨v, ea, by omega⟩, fun q => by rw [e] at q; exact absurd q (by decide)⟩
  · exact ⟨fun _ => ⟨_, ea, by omega⟩, fun q => by rw [e] at q; exact absurd q (by decide)⟩
  · refine ⟨fun q => ?_, fun q => ?_⟩ <;> rw [e] at q <;> exact absurd q (by decide)
  · refine ⟨fun q => ?_, fun q => ⟨j, ea, by omega⟩⟩
    rcases e with ⟨e, -⟩ | ⟨e, -⟩ <;> rw [e] at q <;> exact absurd q (by decide)
  · refine ⟨fun q => ?_, fun q => ?_⟩
    · rw [e] at q; exact absurd q.symm (op_not (c := 1) h5 h12 (by decide))
    · rw [e] at q
      rcases q with q | q
      · exact absurd q.symm (op_not (c := 3) h5 h12 (by decide))
      · exact absurd q.symm (op_not (c := 4) h5 h12 (by decide))
theorem f_mono (C : codeRel ord op ar K Ka n f) : ∀ d i, i + d ≤ n → f i + d ≤ f (i + d) := by
  intro d
  induction d with
  | zero => intro i _; exact Nat.le_refl _
  | succ d ih =>
    intro i h
    have a := ih i (by omega)
    obtain ⟨-, t, e, -⟩ := C.2.2 (i + d) (by omega)
    rw [show i + (d + 1) = i + d + 1 by omega, e]
    omega
theorem f_le (C : codeRel ord op ar K Ka n f) {i j : Nat} (h1 : i ≤ j) (h2 : j ≤ n) : f i + (j - i) ≤ f j := by
  have := f_mono C (j - i) i (by omega)
  rwa [show i + (j - i) = j by omega] at this
theorem not2 (x : Int64) : 1 - (1 - x) = x := by rw [Int64.sub_eq_add_neg, Int64.neg_sub, Int64.add_comm, Int64.sub_add_cancel]
theorem rm_nots {last : Nat} (h4 : last ≤ 400) : ∀ (e a m : Nat) (g : z_H) (x : Int64) (r : List Int64), a + 2 * e ≤ last → notsM K a (2 * e) → Sh g → RdM g ord K Ka → fI g 81 38 = 0 → SM g (x :: r) →
    ∃ g', OnM [81, 101] [38, 39] g g' ∧ fI g' 81 38 = 0 ∧ SM g' (x :: r) ∧ D_X11_reckonAll_10 (m + 2 * e) g (some 81) (Int32.ofNat last) (Int32.ofNat (x :: r).length) (Int32.ofNat a) = D_X11_reckonAll_10 m g' (some 81) (Int32.ofNat last) (Int32.ofNat (x :: r).length) (Int32.ofNat (a + 2 * e)) := by
  intro e
  induction e with
  | zero => intro a m g x r _ _ hs rd br sm; exact ⟨g, OnM.rfl' hs, br, sm, rfl⟩
  | succ e ih =>
    intro a m g x r h1 hn hs rd br sm
    have s1 := rm_not (last := last) hs rd br sm (k := a) (by omega) h4 (hn 0 (by omega)) (m + 2 * e + 1)
    have o1 := puM_on hs r.length (1 - x)
    have sm1 : SM (puM g r.length (1 - x)) ((1 - x) :: r) := sm.set hs
    have br1 : fI (puM g r.length (1 - x)) 81 38 = 0 := (fI_wJ _ _ _ _).trans br
    have s2 := rm_not (last := last) o1.1 (rd.on o1) br1 sm1 (k := a + 1) (by omega) h4 (hn 1 (by omega)) (m + 2 * e)
    have o2 := puM_on o1.1 r.length (1 - (1 - x))
    have sm2 : SM (puM (puM g r.length (1 - x)) r.length (1 - (1 - x))) ((1 - (1 - x)) :: r) := sm1.set o1.1
    have br2 : fI (puM (puM g r.length (1 - x)) r.length (1 - (1 - x))) 81 38 = 0 := (fI_wJ _ _ _ _).trans br1
    rw [not2] at s2 o2 sm2 br2
    obtain ⟨g', a1, a2, a3, a4⟩ := ih (a + 2) m (puM (puM g r.length (1 - x)) r.length x) x r (by omega) (fun u hu => by rw [show a + 2 + u = a + (u + 2) by omega]; exact hn (u + 2) (by omega)) o2.1 ((rd.on o1).on o2) br2 sm2
    refine ⟨g', (o1.trans o2).trans a1, a2, a3, ?_⟩
    rw [show m + 2 * (e + 1) = m + 2 * e + 1 + 1 by omega, s1]
    rw [s2, show a + 1 + 1 = a + 2 by omega, a4, show a + 2 * (e + 1) = a + 2 + 2 * e by omega]
theorem stC_0 {i : Nat} {s : List Int64} (e : op i = 0) (h : s.length ≤ 50) : stC op ar w i s = some (i + 1, (ar i).toInt64 :: s) := by
  unfold stC; rw [if_pos e, if_neg (by omega)]
theorem stC_1 {i : Nat} {s : List Int64} (e : op i = 1) (h : s.length ≤ 50) : stC op ar w i s = some (i + 1, (w (tn (ar i))).toInt64 :: s) := by
  unfold stC; rw [if_neg (by rw [e]; decide), if_pos e, if_neg (by omega)]
theorem stC_2 {i : Nat} {x : Int64} {r : List Int64} (e : op i = 2) : stC op ar w i (x :: r) = some (i + 1, (1 - x) :: r) := by
  unfold stC; rw [if_neg (by rw [e]; decide), if_neg (by rw [e]; decide)]; dsimp only; rw [if_pos e]
theorem stC_34 {i : Nat} {x : Int64} {r : List Int64} (e : op i = 3 ∨ op i = 4) : stC op ar w i (x :: r) = if x = (if op i = 4 then 1 else 0) then some (max (i + 1) (tn (ar i)), x :: r) else some (i + 1, r) := by
  unfold stC
  have n0 : ¬ op i = 0 := fun q => by rw [q] at e; exact absurd e (by decide)
  have n1 : ¬ op i = 1 := fun q => by rw [q] at e; exact absurd e (by decide)
  have n2 : ¬ op i = 2 := fun q => by rw [q] at e; exact absurd e (by decide)
  rw [if_neg n0, if_neg n1]; dsimp only; rw [if_neg n2, if_pos e]
theorem stC_o {i o : Nat} {x y : Int64} {r : List Int64} (h5 : 5 ≤ o) (h12 : o ≤ 12) (e : op i = Int32.ofNat o) : stC op ar w i (x :: y :: r) = if (x = 0 ∧ (o = 8 ∨ o = 9)) ∨ ¬ (-1000000000 ≤ (jn (Int32.ofNat o) y x).toInt ∧ (jn (Int32.ofNat o) y x).toInt ≤ 1000000000) then none else some (i + 1, jn (Int32.ofNat o) y x :: r) := by
  have nn : ∀ c, c < 5 → ¬ op i = Int32.ofNat c := fun c hc q => op_not h5 h12 hc (q.symm.trans e)
  unfold stC
  have n0 : ¬ op i = 0 := nn 0 (by decide)
  have n1 : ¬ op i = 1 := nn 1 (by decide)
  have n2 : ¬ op i = 2 := nn 2 (by decide)
  rw [if_neg n0, if_neg n1]; dsimp only
  rw [if_neg n2, if_neg (fun q => q.elim (nn 3 (by decide)) (nn 4 (by decide)))]
  have e8 : op i = 8 ↔ o = 8 := ⟨fun q => by rw [e] at q; exact Classical.byContradiction fun z => of_ne (b := 8) (by omega) (by decide) z q, fun q => by rw [e, q]; rfl⟩
  have e9 : op i = 9 ↔ o = 9 := ⟨fun q => by rw [e] at q; exact Classical.byContradiction fun z => of_ne (b := 9) (by omega) (by decide) z q, fun q => by rw [e, q]; rfl⟩
  rw [e]
  rw [e] at e8 e9
  by_cases c1 : x = 0 ∧ (o = 8 ∨ o = 9)
  · rw [if_pos ⟨c1.1, c1.2.imp e8.mpr e9.mpr⟩, if_pos (Or.inl c1)]
  · rw [if_neg (fun q => c1 ⟨q.1, q.2.imp e8.mp e9.mp⟩)]
    by_cases c2 : -1000000000 ≤ (jn (Int32.ofNat o) y x).toInt ∧ (jn (Int32.ofNat o) y x).toInt ≤ 1000000000
    · rw [if_pos c2, if_neg (fun q => q.elim c1 (fun z => z c2))]
    · rw [if_neg c2, if_pos (Or.inr c2)]
/-- what one step of the class is for the reference: an end by being BROKEN, or a walk to the place that belongs to the next -/
theorem lk_step (C : codeRel ord op ar K Ka n f) (D : deepOK op ar lo hi dp) (hn : hi ≤ n) {i : Nat} (hl : lo ≤ i) (hh : i < hi) {g : z_H} {s : List Int64} (hd : s.length = dp i) (hs : Sh g) (rd : RdM g ord K Ka) (br : fI g 81 38 = 0) (sm : SM g s) (lf : op i = 1 → (w (tn (ar i))).toInt64 = LfM g ord (K (f i)) (Ka (f i))) {m : Nat} (hm : f hi - f i < m) :
    (stC op ar w i s = none → ∃ g', OnM [81, 101] [38, 39] g g' ∧ fI g' 81 38 = 1 ∧ D_X11_reckonAll_10 m g (some 81) (Int32.ofNat (f hi)) (Int32.ofNat s.length) (Int32.ofNat (f i)) = some g') ∧
    ∀ i' s', stC op ar w i s = some (i', s') → i < i' ∧ i' ≤ hi ∧ s'.length = dp i' ∧ ∃ g' m', OnM [81, 101] [38, 39] g g' ∧ fI g' 81 38 = 0 ∧ SM g' s' ∧ f hi - f i' < m' ∧ D_X11_reckonAll_10 m g (some 81) (Int32.ofNat (f hi)) (Int32.ofNat s.length) (Int32.ofNat (f i)) = D_X11_reckonAll_10 m' g' (some 81) (Int32.ofNat (f hi)) (Int32.ofNat s'.length) (Int32.ofNat (f i')) := by
  have h4 : f hi ≤ 400 := by have := f_le C hn (Nat.le_refl n); have := C.2.1; omega
  obtain ⟨P, t, et, et0, ent⟩ := C.2.2 i (by omega)
  have fm : f i + 1 + 2 * t ≤ f hi := by rw [← et]; have := f_le C (show i + 1 ≤ hi by omega) hn; omega
  obtain ⟨m, rfl⟩ : ∃ m', m = m' + 2 * t + 1 := ⟨m - 2 * t - 1, by omega⟩
  have hm2 : f hi - f (i + 1) < m := by omega
  obtain ⟨d50, dd⟩ := D.2.2 i hl hh
  -- from f i + 1 on, with something on the stack
  have go : ∀ (g1 : z_H) (x : Int64) (r : List Int64), OnM [81, 101] [38, 39] g g1 → fI g1 81 38 = 0 → SM g1 (x :: r) → ∃ g' m', OnM [81, 101] [38, 39] g g' ∧ fI g' 81 38 = 0 ∧ SM g' (x :: r) ∧ f hi - f (i + 1) < m' ∧ D_X11_reckonAll_10 (m + 2 * t) g1 (some 81) (Int32.ofNat (f hi)) (Int32.ofNat (x :: r).length) (Int32.ofNat (f i + 1)) = D_X11_reckonAll_10 m' g' (some 81) (Int32.ofNat (f hi)) (Int32.ofNat (x :: r).length) (Int32.ofNat (f (i + 1))) := fun g1 x r o1 b1 s1 => by
    obtain ⟨g', a1, a2, a3, a4⟩ := rm_nots h4 t (f i + 1) m g1 x r fm ent o1.1 (rd.on o1) b1 s1
    exact ⟨g', m, o1.trans a1, a2, a3, hm2, by rw [a4, et]⟩
  have fi : f i < f hi := by omega
  have leaf : ∀ v : Int64, v = LfM g ord (K (f i)) (Ka (f i)) → wfL ord (K (f i)) (Ka (f i)) → stC op ar w i s = some (i + 1, v :: s) → dp (i + 1) = dp i + 1 → dp i < 50 →
      (stC op ar w i s = none → ∃ g', OnM [81, 101] [38, 39] g g' ∧ fI g' 81 38 = 1 ∧ D_X11_reckonAll_10 (m + 2 * t + 1) g (some 81) (Int32.ofNat (f hi)) (Int32.ofNat s.length) (Int32.ofNat (f i)) = some g') ∧
      ∀ i' s', stC op ar w i s = some (i', s') → i < i' ∧ i' ≤ hi ∧ s'.length = dp i' ∧ ∃ g' m', OnM [81, 101] [38, 39] g g' ∧ fI g' 81 38 = 0 ∧ SM g' s' ∧ f hi - f i' < m' ∧ D_X11_reckonAll_10 (m + 2 * t + 1) g (some 81) (Int32.ofNat (f hi)) (Int32.ofNat s.length) (Int32.ofNat (f i)) = D_X11_reckonAll_10 m' g' (some 81) (Int32.ofNat (f hi)) (Int32.ofNat s'.length) (Int32.ofNat (f i')) := fun v ev wf es d1 d2 => by
    rw [es]
    refine ⟨fun q => (by cases q), fun i' s' q => ?_⟩
    cases q
    refine ⟨by omega, by omega, by rw [List.length_cons, d1, hd], ?_⟩
    rw [rm_leaf hs rd br sm (by omega) fi h4 wf (m + 2 * t), ← ev]
    exact go _ v s (puM_on hs _ _) ((fI_wJ _ _ _ _).trans br) (sm.push (by omega) (puM_a hs _ _))
  rcases P with ⟨e, k0, ka, nb1⟩ | ⟨e, rfl, v, hv, ea, ek⟩ | ⟨e, rfl, v, hv, ea, ek⟩ | ⟨e, rfl, v, p, hv, hp, ea, ek, eka⟩ | ⟨e, ek⟩ | ⟨e, j, t', e', j1, j2, ea, eka, jt, jf, jn'⟩ | ⟨o, h5, h12, e, ek⟩
  · rcases dd with ⟨-, d1, d2⟩ | ⟨q, -⟩ | ⟨q, -⟩ | ⟨⟨o', h5', h12', q⟩, -⟩
    · refine leaf (ar i).toInt64 ?_ (Or.inl k0) (stC_0 e (by omega)) d1 d2
      unfold LfM; rw [if_pos k0, ka]
    · rw [e] at q; exact absurd q (by decide)
    · rw [e] at q; exact absurd q (by decide)
    · rw [e] at q; exact absurd q (op_not (c := 0) h5' h12' (by decide))
  · rcases dd with ⟨-, d1, d2⟩ | ⟨q, -⟩ | ⟨q, -⟩ | ⟨⟨o', h5', h12', q⟩, -⟩
    · exact leaf _ (lf e) (Or.inr (Or.inl ⟨rfl, v, ek, hv⟩)) (stC_1 e (by omega)) d1 d2
    · rw [e] at q; exact absurd q (by decide)
    · rw [e] at q; exact absurd q (by decide)
    · rw [e] at q; exact absurd q (op_not (c := 1) h5' h12' (by decide))
  · rcases dd with ⟨-, d1, d2⟩ | ⟨q, -⟩ | ⟨q, -⟩ | ⟨⟨o', h5', h12', q⟩, -⟩
    · exact leaf _ (lf e) (Or.inr (Or.inr (Or.inl ⟨rfl, v, ek, hv⟩))) (stC_1 e (by omega)) d1 d2
    · rw [e] at q; exact absurd q (by decide)
    · rw [e] at q; exact absurd q (by decide)
    · rw [e] at q; exact absurd q (op_not (c := 1) h5' h12' (by decide))
  · rcases dd with ⟨-, d1, d2⟩ | ⟨q, -⟩ | ⟨q, -⟩ | ⟨⟨o', h5', h12', q⟩, -⟩
    · exact leaf _ (lf e) (Or.inr (Or.inr (Or.inr ⟨rfl, v, p, ek, hv, eka, hp⟩))) (stC_1 e (by omega)) d1 d2
    · rw [e] at q; exact absurd q (by decide)
    · rw [e] at q; exact absurd q (by decide)
    · rw [e] at q; exact absurd q (op_not (c := 1) h5' h12' (by decide))
  · rcases dd with ⟨q, -⟩ | ⟨-, d1, d2⟩ | ⟨q, -⟩ | ⟨⟨o', h5', h12', q⟩, -⟩
    · rw [e] at q; exact absurd q (by decide)
    · cases s with
      | nil => simp at hd; omega
      | cons x r =>
        rw [stC_2 e]
        refine ⟨fun q => (by cases q), fun i' s' q => ?_⟩
        cases q
        refine ⟨by omega, by omega, by rw [d2, ← hd]; simp, ?_⟩
        rw [rm_not hs rd br sm fi h4 ek (m + 2 * t)]
        exact go _ (1 - x) r (puM_on hs _ _) ((fI_wJ _ _ _ _).trans br) (sm.set hs)
    · rw [e] at q; exact absurd q (by decide)
    · rw [e] at q; exact absurd q (op_not (c := 2) h5' h12' (by decide))
  · have e34 : op i = 3 ∨ op i = 4 := e.elim (fun z => Or.inl z.1) (fun z => Or.inr z.1)
    have ek : K (f i) = 29 ∨ K (f i) = 30 := e.elim (fun z => Or.inl z.2) (fun z => Or.inr z.2)
    have ee : (if op i = 4 then (1 : Int64) else 0) = (if K (f i) = 30 then 1 else 0) := by
      rcases e with ⟨q1, q2⟩ | ⟨q1, q2⟩ <;> rw [q1, q2] <;> rfl
    have t0 : t = 0 := et0 e34
    rcases dd with ⟨q, -⟩ | ⟨q, -⟩ | ⟨-, d1, d2, d3, d4⟩ | ⟨⟨o', h5', h12', q⟩, -⟩
    · rcases e34 with z | z <;> rw [z] at q <;> exact absurd q (by decide)
    · rcases e34 with z | z <;> rw [z] at q <;> exact absurd q (by decide)
    · cases s with
      | nil => simp at hd; omega
      | cons x r =>
        have tj : tn (ar i) = j := by rw [ea]; exact tn_of (by have := C.1; omega)
        rw [tj] at d3 d4
        rw [stC_34 e34, tj, show max (i + 1) j = j by omega, rm_jmp hs rd br sm fi h4 ek (m + 2 * t), ee]
        by_cases c : x = (if K (f i) = 30 then 1 else 0)
        · rw [if_pos c, if_pos c]
          refine ⟨fun q => (by cases q), fun i' s' q => ?_⟩
          cases q
          refine ⟨j1, d3, by rw [d4, hd], ?_⟩
          have fj : f j ≤ f hi := by have := f_le C d3 hn; omega
          obtain ⟨m3, em3⟩ : ∃ m3, m + 2 * t = m3 + 2 * e' := ⟨m + 2 * t - 2 * e', by omega⟩
          obtain ⟨g', a1, a2, a3, a4⟩ := rm_nots h4 e' t' m3 g x r (by omega) jn' hs rd br sm
          exact ⟨g', m3, a1, a2, a3, by omega, by rw [eka, em3, a4, jt]⟩
        · rw [if_neg c, if_neg c]
          refine ⟨fun q => (by cases q), fun i' s' q => ?_⟩
          cases q
          refine ⟨by omega, by omega, by simp at hd; omega, g, m + 2 * t, OnM.rfl' hs, br, sm.tl, by omega, ?_⟩
          rw [et, t0]
    · rcases e34 with z | z <;> rw [z] at q
      · exact absurd q (op_not (c := 3) h5' h12' (by decide))
      · exact absurd q (op_not (c := 4) h5' h12' (by decide))
  · rcases dd with ⟨q, -⟩ | ⟨q, -⟩ | ⟨q, -⟩ | ⟨-, d1, d2⟩
    · rw [e] at q; rcases q with q | q
      · exact absurd q.symm (op_not (c := 0) h5 h12 (by decide))
      · exact absurd q.symm (op_not (c := 1) h5 h12 (by decide))
    · rw [e] at q; exact absurd q.symm (op_not (c := 2) h5 h12 (by decide))
    · rw [e] at q; rcases q with q | q
      · exact absurd q.symm (op_not (c := 3) h5 h12 (by decide))
      · exact absurd q.symm (op_not (c := 4) h5 h12 (by decide))
    · cases s with
      | nil => simp at hd; omega
      | cons x s =>
        cases s with
        | nil => simp at hd; omega
        | cons y r =>
          obtain ⟨g1, o1, sm1, b1, de⟩ := rm_op hs rd br sm fi h4 h5 h12 ek (m + 2 * t)
          rw [stC_o h5 h12 e, de]
          by_cases c : (x = 0 ∧ (o = 8 ∨ o = 9)) ∨ ¬ (-1000000000 ≤ (jn (Int32.ofNat o) y x).toInt ∧ (jn (Int32.ofNat o) y x).toInt ≤ 1000000000)
          · rw [if_pos c]
            rw [if_pos c] at b1
            refine ⟨fun _ => ?_, fun i' s' q => (by cases q)⟩
            obtain ⟨m3, em3⟩ : ∃ m3, m + 2 * t = m3 + 1 := ⟨m + 2 * t - 1, by omega⟩
            obtain ⟨g', a1, a2, -, a4⟩ := rm_out (last := f hi) o1.1 sm1 (k := f i + 1) (Or.inr b1) m3
            exact ⟨g', o1.trans a1, by rw [a2, b1], by rw [em3]; exact a4⟩
          · rw [if_neg c]
            rw [if_neg c] at b1
            refine ⟨fun q => (by cases q), fun i' s' q => ?_⟩
            cases q
            refine ⟨by omega, by omega, by simp at hd ⊢; omega, ?_⟩
            exact go g1 _ r o1 b1 sm1
end LK
