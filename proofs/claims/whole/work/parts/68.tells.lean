/-! THE REFERENCE: whether a clause is so, what a head tells -/
/-- the law's row begins at L -/
def LwM (g : z_H) (L : Nat) (m : Nat → Int32) : Prop := L + 900 ≤ 5462 ∧ fI g 81 34 = Int32.ofNat L ∧ fI g 81 20 = 0 ∧ nb (aI g 83 0) 6 ∧ ∀ i, i < 900 → aI g 83 (L + i) = m i
section MT
variable {g : z_H} {L n cc : Nat} {op ar cl w m : Nat → Int32} {f : Nat → Nat}
theorem LwM.rd (H : LwM g L m) : RdM g false (fun k => m (98 + 2 * k)) (fun k => m (99 + 2 * k)) := by
  obtain ⟨h1, h2, h3, h4, h5⟩ := H
  refine ⟨by rw [h3]; rfl, h4, fun _ => ⟨L, h1, h2, fun k hk => ⟨?_, ?_⟩⟩, fun q => by cases q⟩
  · rw [Nat.add_assoc]; exact h5 _ (by omega)
  · rw [Nat.add_assoc]; exact h5 _ (by omega)
theorem LwM.on (H : LwM g L m) {g' : z_H} {ks : List Nat} (o : OnM [81, 101] ks g g') (k1 : 34 ∉ ks) (k2 : 20 ∉ ks) : LwM g' L m := by
  obtain ⟨h1, h2, h3, h4, h5⟩ := H
  have c : aI g' 83 = aI g 83 := cell_aI (o.2.1.c (by decide))
  exact ⟨h1, by rw [(o.2.2 34 k1).1]; exact h2, by rw [(o.2.2 20 k2).1]; exact h3, by rw [c]; exact h4, by rw [c]; exact h5⟩
theorem LwM.at (hs : Sh g) (H : LwM g L m) {i : Nat} (hi : i < 900) : z_aI .int g (some 83) (Int32.ofNat (L + i)) = some (m i) := by
  have h1 := H.1
  have b : L + i < 5462 := by omega
  rw [s_aI (n := 5462) hs (Or.inl rfl) rfl, iR_ofNat b (by decide), H.2.2.2.2 i hi]
theorem lf_law (C : codeRel false op ar (fun k => m (98 + 2 * k)) (fun k => m (99 + 2 * k)) n f) (hw : ∀ k, k < 9 → aJ g 99 (k + 1) = (w k).toInt64) {i : Nat} (hi : i < n) (e : op i = 1) : (w (tn (ar i))).toInt64 = LfM g false (m (98 + 2 * f i)) (m (99 + 2 * f i)) := by
  obtain ⟨P, -⟩ := C.2.2 i hi
  rcases P with ⟨q, -⟩ | ⟨-, -, v, hv, ea, ek⟩ | ⟨-, q, -⟩ | ⟨-, q, -⟩ | ⟨q, -⟩ | ⟨q, -⟩ | ⟨o, h5, h12, q, -⟩
  · rw [e] at q; exact absurd q (by decide)
  · have ek : m (98 + 2 * f i) = Int32.ofNat (v + 1) := ek
    rw [ek, ea, tn_of (by omega)]
    have n0 : ¬ Int32.ofNat (v + 1) = 0 := of_ne (b := 0) (by omega) (by decide) (by omega)
    unfold LfM
    rw [if_neg n0, if_pos rfl, tn_of (by omega), hw v hv]
  · cases q
  · cases q
  · rw [e] at q; exact absurd q (by decide)
  · rcases q with ⟨q, -⟩ | ⟨q, -⟩ <;> rw [e] at q <;> exact absurd q (by decide)
  · rw [e] at q; exact absurd q (op_not (c := 1) h5 h12 (by decide))
theorem ev_none (i : Nat) : evC op ar w i i = some [] := by
  unfold evC runC
  rw [if_pos (Nat.le_refl _)]
theorem m_isSo (hs : Sh g) (lw : LwM g L m) (hw : ∀ k, k < 9 → aJ g 99 (k + 1) = (w k).toInt64) (n4 : n ≤ 400)
    (C : codeRel false op ar (fun k => m (98 + 2 * k)) (fun k => m (99 + 2 * k)) n f) {k v s0 s1 s2 : Nat} (hk : k < 12) (hv : v < 3)
    (l2 : cl (6 * k + 2) = Int32.ofNat s0) (l3 : cl (6 * k + 3) = Int32.ofNat s1) (l4 : cl (6 * k + 4) = Int32.ofNat s1) (l5 : cl (6 * k + 5) = Int32.ofNat s2) (sn : s2 ≤ n)
    (m0 : m (2 + 8 * k) = Int32.ofNat v) (m3 : m (2 + 8 * k + 3) = Int32.ofNat (f s0)) (m4 : m (2 + 8 * k + 4) = Int32.ofNat (f s1)) (m5 : m (2 + 8 * k + 5) = Int32.ofNat (f s1)) (m6 : m (2 + 8 * k + 6) = Int32.ofNat (f s2))
    (v2 : v = 2 → s1 = s0) (vn : v ≠ 2 → segOK op ar s0 s1) (st : s1 = s2 ∨ segT op ar s1 s2) :
    (hC op ar cl w k = none → ∃ g', OnM [81, 101] [38, 39, 40] g g' ∧ D_X11_isSo g (some 81) (Int32.ofNat (L + (2 + 8 * k))) = some (0, g')) ∧
    ∀ x, hC op ar cl w k = some x → ∃ g', OnM [81, 101] [38, 39, 40] g g' ∧ (v ≠ 2 → fJ g' 81 40 = x) ∧ D_X11_isSo g (some 81) (Int32.ofNat (L + (2 + 8 * k))) = some (1, g') := by
  have s12 : s1 ≤ s2 := st.elim (fun z => by omega) (fun z => z.1.1)
  have s01 : s0 ≤ s1 := Classical.byCases (fun z : v = 2 => by have := v2 z; omega) (fun z => (vn z).1)
  have fb := f_le C sn (Nat.le_refl n)
  have fb1 := f_le C s12 sn
  have fb2 := f_le C s01 (by omega)
  have fn := C.2.1
  have t0 : tn (cl (6 * k + 2)) = s0 := by rw [l2]; exact tn_of (by omega)
  have t1 : tn (cl (6 * k + 3)) = s1 := by rw [l3]; exact tn_of (by omega)
  have t2 : tn (cl (6 * k + 4)) = s1 := by rw [l4]; exact tn_of (by omega)
  have t3 : tn (cl (6 * k + 5)) = s2 := by rw [l5]; exact tn_of (by omega)
  have ix : ∀ q : Nat, Int32.ofNat (L + (2 + 8 * k)) + Int32.ofNat q = Int32.ofNat (L + (2 + 8 * k + q)) := fun q => (sc_add _ _).trans (congrArg Int32.ofNat (Nat.add_assoc _ _ _))
  have hCe : hC op ar cl w k = match evC op ar w s1 s2 with
    | none => none
    | some s => if bot s = 1 then (evC op ar w s0 s1).map botJ else none := by unfold hC; rw [t0, t1, t2, t3]; rfl
  -- the second half
  have half : ∀ g1, OnM [81, 101] [38, 39] g g1 → ((evC op ar w s0 s1).map botJ = none → ∃ g', OnM [81, 101] [38, 39, 40] g g' ∧ D_X11_isSo_59 g1 (some 81) (Int32.ofNat (L + (2 + 8 * k))) = some (0, g')) ∧ ∀ x, (evC op ar w s0 s1).map botJ = some x → ∃ g', OnM [81, 101] [38, 39, 40] g g' ∧ (v ≠ 2 → fJ g' 81 40 = x) ∧ D_X11_isSo_59 g1 (some 81) (Int32.ofNat (L + (2 + 8 * k))) = some (1, g') := fun g1 o1 => by
    have hs1 := o1.1
    have lw1 := lw.on o1 (by decide) (by decide)
    have o1' := o1.mono (S' := [81, 101]) (ks' := [38, 39, 40]) (by decide) (by decide)
    unfold D_X11_isSo_59
    rw [s_gQ (r := 83) hs1 rfl rfl, Option.bind_some, lw1.at hs1 (by omega), Option.bind_some, m0]
    by_cases c2 : v = 2
    · rw [if_pos (by rw [c2]; rfl), v2 c2, ev_none]
      refine ⟨fun q => (by cases q), fun x _ => ⟨g1, o1', fun z => absurd c2 z, rfl⟩⟩
    · have nv : ¬ Int32.ofNat v = 2 := of_ne (b := 2) (by omega) (by decide) c2
      rw [if_neg nv, Option.bind_some, show (3 : Int32) = Int32.ofNat 3 from rfl, ix 3, lw1.at hs1 (by omega), Option.bind_some, Option.bind_some, show (4 : Int32) = Int32.ofNat 4 from rfl, ix 4, lw1.at hs1 (by omega), Option.bind_some, s_ob hs1 (ci := 11) rfl, Option.bind_some, m3, m4]
      have rk := rk_ref C (vn c2) (by omega) hs1 lw1.rd (w := w) (fun i x1 x2 x3 => lf_law C (fun q hq => by rw [cell_aJ (o1.2.1.c (by decide)), hw q hq]) (by omega) x3)
      have p40 : ∀ g2, Sh g2 → OnM [81, 101] [38, 39, 40] g2 (wF g2 81 40 (.long (fJ g2 81 39))) := fun g2 s2 => ⟨Sh_wFJ s2 rfl _, Tch_wF (Tch_rfl _ _) (by decide) _ _, fun k hk => ⟨fI_wF_ne (fun q => hk (by rw [q.2]; decide)), fJ_wF_ne (fun q => hk (by rw [q.2]; decide))⟩⟩
      cases e : evC op ar w s0 s1 with
      | none =>
        obtain ⟨g2, o2, b2, d2⟩ := rk.1 e
        refine ⟨fun _ => ⟨_, (o1'.trans (o2.mono (by decide) (by decide))).trans (p40 g2 o2.1), ?_⟩, fun x q => (by cases q)⟩
        rw [d2, Option.bind_some, s_gJ o2.1 (ci := 11) rfl rfl, Option.bind_some, s_pV o2.1 (ci := 11) rfl (by decide), Option.bind_some, s_gI (p40 g2 o2.1).1 (ci := 11) rfl rfl, Option.bind_some, fI_wF_ne (by decide), b2, if_neg one_ne]
      | some s =>
        obtain ⟨y, rfl, g2, o2, b2, v2', d2⟩ := rk.2 s e
        refine ⟨fun q => (by cases q), fun x q => ?_⟩
        cases q
        refine ⟨_, (o1'.trans (o2.mono (by decide) (by decide))).trans (p40 g2 o2.1), fun _ => ?_, ?_⟩
        · rw [fJ_wF_eq o2.1 rfl, v2']; rfl
        · rw [d2, Option.bind_some, s_gJ o2.1 (ci := 11) rfl rfl, Option.bind_some, s_pV o2.1 (ci := 11) rfl (by decide), Option.bind_some, s_gI (p40 g2 o2.1).1 (ci := 11) rfl rfl, Option.bind_some, fI_wF_ne (by decide), b2, if_pos rfl]
  have hd : D_X11_isSo g (some 81) (Int32.ofNat (L + (2 + 8 * k))) = if f s2 ≤ f s1 then D_X11_isSo_59 g (some 81) (Int32.ofNat (L + (2 + 8 * k))) else (D_X11_reckonAll g (some 81) (Int32.ofNat (f s1)) (Int32.ofNat (f s2))).bind fun p => (z_gI 11 p (some 81) 38).bind fun x => if x = 0 then (z_gJ 11 p (some 81) 39).bind fun y => if lg_cmp y 0 = 0 then some (0, p) else D_X11_isSo_59 p (some 81) (Int32.ofNat (L + (2 + 8 * k))) else some (0, p) := by
    unfold D_X11_isSo
    rw [s_gQ (r := 83) hs rfl rfl, Option.bind_some, show (5 : Int32) = Int32.ofNat 5 from rfl, ix 5, lw.at hs (by omega), Option.bind_some, Option.bind_some, show (6 : Int32) = Int32.ofNat 6 from rfl, ix 6, lw.at hs (by omega), Option.bind_some, m5, m6]
    by_cases c : f s2 ≤ f s1
    · rw [if_pos ((nat_le (by omega) (by omega)).mpr c), if_pos c]
    · rw [if_neg (fun q => c ((nat_le (by omega) (by omega)).mp q)), if_neg c, Option.bind_some, lw.at hs (by omega), Option.bind_some, Option.bind_some, lw.at hs (by omega), Option.bind_some, s_ob hs (ci := 11) rfl, Option.bind_some, m5, m6]
  rw [hd, hCe]
  rcases st with rfl | st
  · rw [if_pos (Nat.le_refl _), ev_none]
    dsimp only
    rw [if_pos (by rfl)]
    exact half g (OnM.rfl' hs)
  · have ne : s1 < s2 := by
      obtain ⟨⟨h1, -⟩, bt, b0, b1, -⟩ := st
      rcases Nat.lt_or_ge s1 s2 with q | q
      · exact q
      · have : s1 = s2 := by omega
        rw [this, b1] at b0; cases b0
    have fb3 := f_le C (i := s1) (j := s2) (by omega) sn
    have rk := rk_ref C st.1 sn hs lw.rd (w := w) (fun i x1 x2 x3 => lf_law C hw (by omega) x3)
    rw [if_neg (by omega)]
    cases e : evC op ar w s1 s2 with
    | none =>
      obtain ⟨g2, o2, b2, d2⟩ := rk.1 e
      refine ⟨fun _ => ⟨g2, o2.mono (by decide) (by decide), ?_⟩, fun x q => (by cases q)⟩
      rw [d2, Option.bind_some, s_gI o2.1 (ci := 11) rfl rfl, Option.bind_some, b2, if_neg one_ne]
    | some s =>
      obtain ⟨y, rfl, g2, o2, b2, v2', d2⟩ := rk.2 s e
      obtain ⟨y', r', e1, e2⟩ := ev_test st e (fun i hi => (code_wf C (by omega)).2) (by omega)
      cases e1
      rw [d2, Option.bind_some, s_gI o2.1 (ci := 11) rfl rfl, Option.bind_some, b2, if_pos rfl, s_gJ o2.1 (ci := 11) rfl rfl, Option.bind_some, v2']
      dsimp only
      rcases e2 with rfl | rfl
      · rw [if_neg (by decide), if_pos (by decide)]
        exact ⟨fun _ => ⟨g2, o2.mono (by decide) (by decide), rfl⟩, fun x q => (by cases q)⟩
      · rw [if_pos (by decide), if_neg (by decide)]
        exact half g2 o2
/-- what a head tells, of the last clause that holds -/
def tv (head : Nat) (without : Int64) (o : Option Int64) : Int64 := match o with
  | none => without
  | some v => if head = 2 then 1 else v
theorem m_loop (head : Nat) (hh : head < 3) (without : Int64) (lr : LR n cc op ar cl m) : ∀ (d c F : Nat) (g : z_H), cc - c = d → c ≤ cc → d < F → Sh g → LwM g L m → (∀ k, k < 9 → aJ g 99 (k + 1) = (w k).toInt64) →
    ∃ g', OnM [81, 101] [38, 39, 40] g g' ∧ D_X11_tells_155 F g (some 81) (Int32.ofNat head) (tv head without (lastC op ar cl w (Int32.ofNat (5 + head)) c)) (Int32.ofNat c) = some (tv head without (lastC op ar cl w (Int32.ofNat (5 + head)) cc), g') := by
  obtain ⟨hc12, hm1, f, C, cls⟩ := lr
  intro d
  induction d with
  | zero =>
    intro c F g hd hc hF hs lw hw
    obtain ⟨F, rfl⟩ : ∃ m', F = m' + 1 := ⟨F - 1, by omega⟩
    have : c = cc := by omega
    subst this
    refine ⟨g, OnM.rfl' hs, ?_⟩
    show D_X11_tells_155b (D_X11_tells_155 F) g (some 81) (Int32.ofNat head) _ (Int32.ofNat c) = _
    unfold D_X11_tells_155b
    rw [s_gQ (r := 83) hs rfl rfl, Option.bind_some, s_gI hs (ci := 11) rfl rfl, Option.bind_some, lw.2.1, show Int32.ofNat L + 1 = Int32.ofNat (L + 1) from sc_add L 1, lw.at hs (by omega), Option.bind_some, hm1, if_pos ((nat_le (by omega) (by omega)).mpr (Nat.le_refl _))]
  | succ d ih =>
    intro c F g hd hc hF hs lw hw
    obtain ⟨F, rfl⟩ : ∃ m', F = m' + 1 := ⟨F - 1, by omega⟩
    have lL := lw.1
    obtain ⟨v, s0, s1, s2, hv, l0, l2, l3, l4, l5, sn, m0, m3, m4, m5, m6, v2, vn, st⟩ := cls c (by omega)
    have so := m_isSo hs lw hw C.1 C (by omega) hv l2 l3 l4 l5 sn m0 m3 m4 m5 m6 v2 vn st
    have lc : lastC op ar cl w (Int32.ofNat (5 + head)) (c + 1) = if cl (6 * c) = Int32.ofNat (5 + head) then (match hC op ar cl w c with
      | some v => some v
      | none => lastC op ar cl w (Int32.ofNat (5 + head)) c) else lastC op ar cl w (Int32.ofNat (5 + head)) c := rfl
    have ix : Int32.ofNat L + 2 + 8 * Int32.ofNat c = Int32.ofNat (L + (2 + 8 * c)) := by
      rw [show (2 : Int32) = Int32.ofNat 2 from rfl, show (8 : Int32) = Int32.ofNat 8 from rfl, sc_mul, sc_add, sc_add, Nat.add_assoc]
    have e220 : ∀ (g2 : z_H) (x : Int64), D_X11_tells_220 (D_X11_tells_155 F) g2 (some 81) (Int32.ofNat head) x (Int32.ofNat c) = D_X11_tells_155 F g2 (some 81) (Int32.ofNat head) x (Int32.ofNat (c + 1)) := fun g2 x => by
      unfold D_X11_tells_220
      rw [Option.bind_some, show Int32.ofNat c + 1 = Int32.ofNat (c + 1) from sc_add c 1]
    have next : ∀ g2, OnM [81, 101] [38, 39, 40] g g2 → ∃ g', OnM [81, 101] [38, 39, 40] g g' ∧ D_X11_tells_155 F g2 (some 81) (Int32.ofNat head) (tv head without (lastC op ar cl w (Int32.ofNat (5 + head)) (c + 1))) (Int32.ofNat (c + 1)) = some (tv head without (lastC op ar cl w (Int32.ofNat (5 + head)) cc), g') := fun g2 o2 => by
      obtain ⟨g', a1, a2⟩ := ih (c + 1) F g2 (by omega) (by omega) (by omega) o2.1 (lw.on o2 (by decide) (by decide)) (fun k hk => by rw [cell_aJ (o2.2.1.c (by decide)), hw k hk])
      exact ⟨g', o2.trans a1, a2⟩
    have hst : D_X11_tells_155 (F + 1) g (some 81) (Int32.ofNat head) (tv head without (lastC op ar cl w (Int32.ofNat (5 + head)) c)) (Int32.ofNat c) = D_X11_tells_155b (D_X11_tells_155 F) g (some 81) (Int32.ofNat head) (tv head without (lastC op ar cl w (Int32.ofNat (5 + head)) c)) (Int32.ofNat c) := rfl
    rw [hst]
    unfold D_X11_tells_155b
    rw [s_gQ (r := 83) hs rfl rfl, Option.bind_some, s_gI hs (ci := 11) rfl rfl, Option.bind_some, lw.2.1, show Int32.ofNat L + 1 = Int32.ofNat (L + 1) from sc_add L 1, lw.at hs (by omega), Option.bind_some, hm1, if_neg (fun q => by have := (nat_le (by omega) (by omega)).mp q; omega), Option.bind_some, Option.bind_some, ix, Option.bind_some, lw.at hs (by omega), Option.bind_some, m0]
    by_cases cv : v = head
    · subst cv
      rw [if_pos l0] at lc
      rw [if_pos rfl, s_ob hs (ci := 11) rfl, Option.bind_some]
      cases eh : hC op ar cl w c with
      | none =>
        obtain ⟨g2, o2, d2⟩ := so.1 eh
        rw [eh] at lc
        rw [d2, Option.bind_some]
        dsimp only
        rw [if_pos rfl, e220]
        have := next g2 o2
        rw [lc] at this
        exact this
      | some x =>
        obtain ⟨g2, o2, q2, d2⟩ := so.2 x eh
        rw [eh] at lc
        rw [d2, Option.bind_some]
        dsimp only
        have := next g2 o2
        rw [lc] at this
        rw [if_neg one_ne]
        by_cases c2 : v = 2
        · subst c2
          rw [if_pos (by rfl : Int32.ofNat 2 = 2)]
          unfold D_X11_tells_218
          rw [e220]
          exact this
        · have nv : ¬ Int32.ofNat v = 2 := of_ne (b := 2) (by omega) (by decide) c2
          rw [if_neg nv, s_gJ o2.1 (ci := 11) rfl rfl, Option.bind_some, q2 c2]
          unfold D_X11_tells_218
          rw [e220]
          unfold tv at this
          dsimp only at this
          rw [if_neg c2] at this
          exact this
    · have ncl : ¬ cl (6 * c) = Int32.ofNat (5 + head) := fun q => by rw [l0] at q; exact of_ne (by omega) (by omega) (by omega) q
      rw [if_neg ncl] at lc
      rw [if_neg (of_ne (by omega) (by omega) cv), e220]
      have := next g (OnM.rfl' hs)
      rw [lc] at this
      exact this
end MT
