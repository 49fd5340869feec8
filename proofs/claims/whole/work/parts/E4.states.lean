/-! the two readers' states, the class's small steps -/
section ST
variable {tp : Nat → Nat} {L : Nat} {ord : Bool} {g0 g : z_H} {p n w q : Nat} {op ar : Nat → Int32}
def KC : List Nat := [23, 25, 26, 27]
def CSt (tp : Nat → Nat) (L : Nat) (ord : Bool) (g0 g : z_H) (p n : Nat) (op ar : Nat → Int32) (w : Nat) : Prop := Sh g ∧ Tch KC g0 g ∧ TpC tp L g ∧ TokC tp L g p ∧ fI g 25 3 = Int32.ofNat n ∧ aI g 26 = op ∧ aI g 27 = ar ∧ fI g 23 9 = Int32.ofNat w ∧ fI g 23 4 = b01 ord ∧ fI g 25 4 = fI g0 25 4 ∧ fI g 23 3 = fI g0 23 3 ∧ n ≤ 400 ∧ w ≤ 50
/-- the class has failed at q -/
def CFl (L : Nat) (g0 g : z_H) (q : Nat) : Prop := Sh g ∧ Tch KC g0 g ∧ fI g 23 3 = Int32.ofNat q ∧ (∃ s, s ≤ 400 ∧ fI g 25 3 = Int32.ofNat s) ∧ fI g 23 2 = Int32.ofNat L
theorem CSt.fail (H : CSt tp L ord g0 g p n op ar w) : ∃ g', D_X5_failHere g (some 23) = some (0, g') ∧ CFl L g0 g' p := by
  obtain ⟨hs, T, t, k, e3, e26, e27, e9, e4, e54, e33, hn, hw⟩ := H
  have o := onC hs (k := 3) rfl (ks := [3]) (by decide) (Int32.ofNat p)
  refine ⟨wF g 23 3 (.int (Int32.ofNat p)), ?_, o.1, Tch_wF T (by decide) _ _, fI_wF_eq hs rfl _, ⟨n, hn, by rw [fI_wF_ne (by decide)]; exact e3⟩, (o.2.2 2 (by decide)).trans t.2.1⟩
  unfold D_X5_failHere
  rw [s_gI hs (ci := 5) rfl rfl, Option.bind_some, k.2.1, s_pV hs (ci := 5) rfl (by decide), Option.bind_some]
theorem CSt.next (H : CSt tp L ord g0 g p n op ar w) : ∃ g', D_X5_advance g (some 23) = some g' ∧ CSt tp L ord g0 g' (tkN tp L p) n op ar w := by
  obtain ⟨hs, T, t, k, e3, e26, e27, e9, e4, e54, e33, hn, hw⟩ := H
  obtain ⟨g', o, k', d⟩ := c_next hs t k
  have c25 : g'.2.2 25 = g.2.2 25 := o.2.1.c (by decide)
  refine ⟨g', d, o.1, T.trans (o.2.1.mono (by decide)), t.on o (by decide), k', by rw [cell_fI c25]; exact e3, by rw [cell_aI (o.2.1.c (by decide))]; exact e26, by rw [cell_aI (o.2.1.c (by decide))]; exact e27, (o.2.2 9 (by decide)).trans e9, (o.2.2 4 (by decide)).trans e4, by rw [cell_fI c25]; exact e54, (o.2.2 3 (by decide)).trans e33, hn, hw⟩
theorem q25 (hs : Sh g) : z_gQ 5 g (some 23) 1 = some (some 25) := s_gQ hs rfl rfl
theorem o25 (hs : Sh g) : z_ob 7 g (some 25) = some (flds g 25) := s_ob hs rfl
theorem o23 (hs : Sh g) : z_ob 5 g (some 23) = some (flds g 23) := s_ob hs rfl
theorem CSt.size (H : CSt tp L ord g0 g p n op ar w) : z_gI 7 g (some 25) 3 = some (Int32.ofNat n) := by rw [s_gI H.1 (ci := 7) rfl rfl, H.2.2.2.2.1]
/-- emit, whatever the state -/
theorem d_emit (hs : Sh g) {n : Nat} (e3 : fI g 25 3 = Int32.ofNat n) (hn : n < 400) (o a : Int32) : ∃ g', D_X7_emit g (some 25) o a = some g' ∧ Sh g' ∧ Tch [25, 26, 27] g g' ∧ fI g' 25 3 = Int32.ofNat (n + 1) ∧ aI g' 26 = upd (aI g 26) n o ∧ aI g' 27 = upd (aI g 27) n a ∧ fI g' 25 4 = fI g 25 4 := by
  have s1 : Sh (wA g 26 (upd (aI g 26) n o)) := Sh_wA hs rfl _
  generalize h1 : wA g 26 (upd (aI g 26) n o) = g1 at s1
  have s2 : Sh (wA g1 27 (upd (aI g1 27) n a)) := Sh_wA s1 rfl _
  generalize h2 : wA g1 27 (upd (aI g1 27) n a) = g2 at s2
  have f1 : fI g1 25 3 = Int32.ofNat n := by rw [← h1, fI_wA]; exact e3
  have f2 : fI g2 25 3 = Int32.ofNat n := by rw [← h2, fI_wA]; exact f1
  refine ⟨wF g2 25 3 (.int (Int32.ofNat (n + 1))), ?_, Sh_wF s2 rfl _, ?_, fI_wF_eq s2 rfl _, ?_, ?_, ?_⟩
  · unfold D_X7_emit
    rw [s_gI hs (ci := 7) rfl rfl, Option.bind_some, e3, s_gQ (r := 26) hs rfl rfl, Option.bind_some, s_lI hs (n := 400) rfl, Option.bind_some, if_neg (fun z => by have := (nat_le (by decide) (by omega)).mp z; omega), Option.bind_some, Option.bind_some, aW hs (n := 400) rfl hn (by decide), Option.bind_some, h1, s_gQ (r := 27) s1 rfl rfl, Option.bind_some, s_gI s1 (ci := 7) rfl rfl, Option.bind_some, f1, aW s1 (n := 400) rfl hn (by decide), Option.bind_some, h2, s_gI s2 (ci := 7) rfl rfl, Option.bind_some, f2, show Int32.ofNat n + 1 = Int32.ofNat (n + 1) from sc_add n 1, s_pV s2 (ci := 7) rfl (by decide), Option.bind_some]
  · rw [← h2, ← h1]
    exact Tch_wF (Tch_wA (Tch_wA (Tch_rfl _ g) (by decide) _) (by decide) _) (by decide) _ _
  · rw [aI_wF, ← h2, aI_wA_ne (by decide), ← h1, aI_wA_eq hs rfl]
  · rw [aI_wF, ← h2, aI_wA_eq s1 rfl, ← h1, aI_wA_ne (by decide)]
  · rw [fI_wF_ne (by decide), ← h2, fI_wA, ← h1, fI_wA]
theorem CSt.emit (H : CSt tp L ord g0 g p n op ar w) (hn : n < 400) (o a : Int32) : ∃ g', D_X7_emit g (some 25) o a = some g' ∧ CSt tp L ord g0 g' p (n + 1) (upd op n o) (upd ar n a) w := by
  obtain ⟨hs, T, t, k, e3, e26, e27, e9, e4, e54, e33, _, hw⟩ := H
  obtain ⟨g', d, hs', T', f3, f26, f27, f4⟩ := d_emit hs e3 hn o a
  have c23 : g'.2.2 23 = g.2.2 23 := T'.c (by decide)
  exact ⟨g', d, hs', T.trans (T'.mono (by decide)), t.T T' (by decide) (by decide), k.T T' (by decide), f3, by rw [f26, e26], by rw [f27, e27], by rw [cell_fI c23]; exact e9, by rw [cell_fI c23]; exact e4, f4.trans e54, by rw [cell_fI c23]; exact e33, by omega, hw⟩
theorem CFl.emit (H : CFl L g0 g q) (o a : Int32) : ∃ g', D_X7_emit g (some 25) o a = some g' ∧ CFl L g0 g' q := by
  obtain ⟨hs, T, e3, ⟨s, hb, es⟩, e2⟩ := H
  by_cases c : s < 400
  · obtain ⟨g', d, hs', T', f3, f26, f27, f4⟩ := d_emit hs es c o a
    have c23 : g'.2.2 23 = g.2.2 23 := T'.c (by decide)
    exact ⟨g', d, hs', T.trans (T'.mono (by decide)), by rw [cell_fI c23]; exact e3, ⟨s + 1, by omega, f3⟩, by rw [cell_fI c23]; exact e2⟩
  · refine ⟨g, ?_, hs, T, e3, ⟨s, hb, es⟩, e2⟩
    unfold D_X7_emit
    rw [s_gI hs (ci := 7) rfl rfl, Option.bind_some, es, s_gQ (r := 26) hs rfl rfl, Option.bind_some, s_lI hs (n := 400) rfl, Option.bind_some, if_pos ((nat_le (by decide) (by omega)).mpr (by omega))]
theorem d_land (hs : Sh g) {n j : Nat} (e3 : fI g 25 3 = Int32.ofNat n) (hn : n ≤ 400) (hj : j < n) : D_X7_landHere g (some 25) (Int32.ofNat j) = some (wA g 27 (upd (aI g 27) j (Int32.ofNat n))) := by
  unfold D_X7_landHere
  rw [if_neg (not_neg (by omega)), s_gI hs (ci := 7) rfl rfl, Option.bind_some, e3, if_neg (fun z => by have := (nat_le (by omega) (by omega)).mp z; omega), s_gQ (r := 27) hs rfl rfl, Option.bind_some, Option.bind_some, aW hs (n := 400) rfl (by omega) (by decide), Option.bind_some]
theorem CSt.land (H : CSt tp L ord g0 g p n op ar w) {j : Nat} (hj : j < n) : ∃ g', D_X7_landHere g (some 25) (Int32.ofNat j) = some g' ∧ CSt tp L ord g0 g' p n op (upd ar j (Int32.ofNat n)) w := by
  obtain ⟨hs, T, t, k, e3, e26, e27, e9, e4, e54, e33, hn, hw⟩ := H
  have T' : Tch [27] g (wA g 27 (upd (aI g 27) j (Int32.ofNat n))) := Tch_wA (Tch_rfl _ g) (by decide) _
  refine ⟨_, d_land hs e3 hn hj, Sh_wA hs rfl _, T.trans (T'.mono (by decide)), t.T T' (by decide) (by decide), k.T T' (by decide), by rw [fI_wA]; exact e3, by rw [aI_wA_ne (by decide)]; exact e26, by rw [aI_wA_eq hs rfl, e27], by rw [fI_wA]; exact e9, by rw [fI_wA]; exact e4, by rw [fI_wA]; exact e54, by rw [fI_wA]; exact e33, hn, hw⟩
theorem CFl.land (H : CFl L g0 g q) {j : Nat} (hj : j ≤ 400) : ∃ g', D_X7_landHere g (some 25) (Int32.ofNat j) = some g' ∧ CFl L g0 g' q := by
  obtain ⟨hs, T, e3, ⟨s, hb, es⟩, e2⟩ := H
  by_cases c : j < s
  · refine ⟨_, d_land hs es hb c, Sh_wA hs rfl _, Tch_wA T (by decide) _, by rw [fI_wA]; exact e3, ⟨s, hb, by rw [fI_wA]; exact es⟩, by rw [fI_wA]; exact e2⟩
  · refine ⟨g, ?_, hs, T, e3, ⟨s, hb, es⟩, e2⟩
    unfold D_X7_landHere
    rw [if_neg (not_neg (by omega)), s_gI hs (ci := 7) rfl rfl, Option.bind_some, es, if_pos ((nat_le (by omega) (by omega)).mpr (by omega))]
theorem CSt.sg (H : CSt tp L ord g0 g p n op ar w) {c : Nat} (hc : c ≤ 255) : D_X5_isSign g (some 23) (Int32.ofNat c) = some (b01 (isSg tp L p c), g) := c_isSg hc H.1 H.2.2.1 H.2.2.2.1
/-- a sign that must be there -/
theorem CSt.skip (H : CSt tp L ord g0 g p n op ar w) {c : Nat} (hc : c ≤ 255) : (isSg tp L p c = true ∧ ∃ g', D_X5_skipSign g (some 23) (Int32.ofNat c) = some (1, g') ∧ CSt tp L ord g0 g' (tkN tp L p) n op ar w) ∨ (isSg tp L p c = false ∧ ∃ g', D_X5_skipSign g (some 23) (Int32.ofNat c) = some (0, g') ∧ CFl L g0 g' p) := by
  cases e : isSg tp L p c with
  | true =>
    obtain ⟨g', d, N⟩ := H.next
    refine Or.inl ⟨rfl, g', ?_, N⟩
    unfold D_X5_skipSign
    rw [o23 H.1, Option.bind_some, H.sg hc, Option.bind_some, e]
    dsimp only
    rw [if_neg (show ¬ b01 true = 0 by decide), o23 H.1, Option.bind_some, d, Option.bind_some]
  | false =>
    obtain ⟨g', d, N⟩ := H.fail
    refine Or.inr ⟨rfl, g', ?_, N⟩
    unfold D_X5_skipSign
    rw [o23 H.1, Option.bind_some, H.sg hc, Option.bind_some, e]
    dsimp only
    rw [if_pos (show b01 false = 0 from rfl), o23 H.1, Option.bind_some, d, Option.bind_some]
    rfl
theorem CSt.lt (H : CSt tp L ord g0 g p n op ar w) {c : Nat} (h : isSg tp L p c = true) : p < L ∧ p < tkN tp L p ∧ tkN tp L p ≤ L := by
  unfold isSg at h
  rw [Bool.and_eq_true] at h
  have := of_decide_eq_true h.1
  have pl := tk_lt (tp := tp) (L := L) (p := p) (by omega)
  have := tkN_b (tp := tp) H.2.2.2.1.1
  omega
end ST
