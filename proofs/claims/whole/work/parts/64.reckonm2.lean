section RMS2
variable {g : z_H} {ord : Bool} {K Ka : Nat → Int32} {last : Nat}
theorem SM.set {g : z_H} (hs : Sh g) {x v : Int64} {r : List Int64} (H : SM g (x :: r)) : SM (puM g r.length v) (v :: r) := by
  have hl : r.length < 51 := by have := H.1; simp at this; omega
  exact H.tl.push hl (puM_a hs _ _)
theorem m_rd (hs : Sh g) {x : Int64} {r : List Int64} (sm : SM g (x :: r)) : z_aJ g (some 101) (Int32.ofNat r.length) = some x := by
  have := sm.1
  rw [s_aJ (n := 400) hs rfl, iR_ofNat (show r.length < 400 by simp at this; omega) (by decide), sm.top]
theorem m_wr (hs : Sh g) {n : Nat} (hn : n < 51) (v : Int64) : z_sJ g (some 101) (Int32.ofNat n) v = some (puM g n v) := by
  have tl : (Int32.ofNat n).toNatClampNeg = n := tn_of (by omega)
  rw [s_sJ (n := 400) hs rfl, iW_ofNat (show n < 400 by omega) (by decide), tl, puM]
theorem rm_not (hs : Sh g) (rd : RdM g ord K Ka) (br : fI g 81 38 = 0) {x : Int64} {r : List Int64} (sm : SM g (x :: r)) {k : Nat} (hk : k < last) (h4 : last ≤ 400) (e : K k = 28) (m : Nat) :
    D_X11_reckonAll_10 (m + 1) g (some 81) (Int32.ofNat last) (Int32.ofNat (x :: r).length) (Int32.ofNat k) = D_X11_reckonAll_10 m (puM g r.length (1 - x)) (some 81) (Int32.ofNat last) (Int32.ofNat ((1 - x) :: r).length) (Int32.ofNat (k + 1)) := by
  rw [rm_head hs rd br hk h4 m]
  have e1 : Int32.ofNat k + 1 = Int32.ofNat (k + 1) := sc_add k 1
  have lr : r.length < 51 := by have := sm.1; simp at this; omega
  unfold D_X11_reckonAll_95
  rw [Option.bind_some, e1, e, if_pos (by decide), if_pos (by decide), if_pos rfl, s_gQ (r := 101) hs rfl rfl, Option.bind_some, Option.bind_some, l4_cons, m_rd hs sm, Option.bind_some, m_wr hs lr, Option.bind_some]
  unfold D_X11_reckonAll_358
  rw [List.length_cons, List.length_cons]
theorem rm_jmp (hs : Sh g) (rd : RdM g ord K Ka) (br : fI g 81 38 = 0) {x : Int64} {r : List Int64} (sm : SM g (x :: r)) {k : Nat} (hk : k < last) (h4 : last ≤ 400) (e : K k = 29 ∨ K k = 30) (m : Nat) :
    D_X11_reckonAll_10 (m + 1) g (some 81) (Int32.ofNat last) (Int32.ofNat (x :: r).length) (Int32.ofNat k) = if x = (if K k = 30 then 1 else 0) then D_X11_reckonAll_10 m g (some 81) (Int32.ofNat last) (Int32.ofNat (x :: r).length) (Ka k) else D_X11_reckonAll_10 m g (some 81) (Int32.ofNat last) (Int32.ofNat r.length) (Int32.ofNat (k + 1)) := by
  rw [rm_head hs rd br hk h4 m]
  have e1 : Int32.ofNat k + 1 = Int32.ofNat (k + 1) := sc_add k 1
  have lr : r.length < 51 := by have := sm.1; simp at this; omega
  have e344 : ∀ b : Int64, D_X11_reckonAll_344 (D_X11_reckonAll_10 m) g (some 81) (Int32.ofNat last) (Int32.ofNat (x :: r).length) (Int32.ofNat (k + 1)) (Ka k) x b = if x = b then D_X11_reckonAll_10 m g (some 81) (Int32.ofNat last) (Int32.ofNat (x :: r).length) (Ka k) else D_X11_reckonAll_10 m g (some 81) (Int32.ofNat last) (Int32.ofNat r.length) (Int32.ofNat (k + 1)) := fun b => by
    unfold D_X11_reckonAll_344 D_X11_reckonAll_358
    by_cases c : x = b
    · rw [if_pos ((lg_zero _ _).mpr c), if_pos c]
    · rw [if_neg (fun q => c ((lg_zero _ _).mp q)), if_neg c, Option.bind_some, show Int32.ofNat (x :: r).length + (-1) = Int32.ofNat (x :: r).length - 1 from (Int32.sub_eq_add_neg _ _).symm, l4_cons]
  unfold D_X11_reckonAll_95
  rw [Option.bind_some, e1]
  rcases e with e | e
  · rw [e, if_pos (by decide), if_pos (by decide), if_neg (by decide), s_gQ (r := 101) hs rfl rfl, Option.bind_some, l4_cons, m_rd hs sm, Option.bind_some, if_pos rfl, show (if (29 : Int32) = 30 then (1 : Int64) else 0) = 0 from rfl]
    exact e344 0
  · rw [e, if_pos (by decide), if_pos (by decide), if_neg (by decide), s_gQ (r := 101) hs rfl rfl, Option.bind_some, l4_cons, m_rd hs sm, Option.bind_some, if_neg (by decide), show (if (30 : Int32) = 30 then (1 : Int64) else 0) = 1 from rfl]
    exact e344 1
/-- joining -/
theorem rm_join (hs : Sh g) (br : fI g 81 38 = 0) {o : Nat} (h5 : 5 ≤ o) (h12 : o ≤ 12) (a b : Int64) : ∃ g', OnM [81, 101] [38, 39] g g' ∧ aJ g' 101 = aJ g 101 ∧ D_X11_reckon g (some 81) (Int32.ofNat (o + 15)) a b = some (jn (Int32.ofNat o) a b, g') ∧ (fI g' 81 38 = if b = 0 ∧ (o = 8 ∨ o = 9) then 1 else 0) := by
  have p38 : ∀ x : Int32, z_pV 11 g (some 81) 38 (.int x) = some (wF g 81 38 (.int x)) := fun x => s_pV hs rfl (by decide) _
  have on : ∀ x : Int32, OnM [81, 101] [38, 39] g (wF g 81 38 (.int x)) := fun x => ⟨Sh_wF hs rfl _, Tch_wF (Tch_rfl _ g) (by decide) _ _, fun k hk => ⟨fI_wF_ne (fun q => hk (by rw [q.2]; decide)), fJ_wF_ne (fun q => hk (by rw [q.2]; decide))⟩⟩
  have rd : ∀ x : Int32, z_gI 11 (wF g 81 38 (.int x)) (some 81) 38 = some x := fun x => by rw [s_gI (Sh_wF hs rfl x) rfl rfl, fI_wF_eq hs rfl]
  have keep : ∀ v : Int64, D_X11_reckon g (some 81) (Int32.ofNat (o + 15)) a b = some (v, g) → v = jn (Int32.ofNat o) a b → ¬ (o = 8 ∨ o = 9) → ∃ g', OnM [81, 101] [38, 39] g g' ∧ aJ g' 101 = aJ g 101 ∧ D_X11_reckon g (some 81) (Int32.ofNat (o + 15)) a b = some (jn (Int32.ofNat o) a b, g') ∧ (fI g' 81 38 = if b = 0 ∧ (o = 8 ∨ o = 9) then 1 else 0) := fun v e ev no => ⟨g, OnM.rfl' hs, rfl, by rw [e, ev], by rw [if_neg (fun q => no q.2)]; exact br⟩
  have cases8 : o = 5 ∨ o = 6 ∨ o = 7 ∨ o = 8 ∨ o = 9 ∨ o = 10 ∨ o = 11 ∨ o = 12 := by omega
  rcases cases8 with rfl | rfl | rfl | rfl | rfl | rfl | rfl | rfl
  · exact keep (a + b) (by unfold D_X11_reckon; rw [if_pos (by decide)]) (by unfold jn; rw [if_pos (by decide)]) (by decide)
  · exact keep (a - b) (by unfold D_X11_reckon; rw [if_neg (by decide), if_pos (by decide)]) (by unfold jn; rw [if_neg (by decide), if_pos (by decide)]) (by decide)
  · exact keep (a * b) (by unfold D_X11_reckon; rw [if_neg (by decide), if_neg (by decide), if_pos (by decide)]) (by unfold jn; rw [if_neg (by decide), if_neg (by decide), if_pos (by decide)]) (by decide)
  · have ej : jn (Int32.ofNat 8) a b = if b = 0 then 0 else a / b := by unfold jn; rw [if_neg (by decide), if_neg (by decide), if_neg (by decide), if_pos (by decide)]
    have ed : D_X11_reckon g (some 81) (Int32.ofNat (8 + 15)) a b = if b = 0 then D_X11_reckon_72 g (some 81) a b (some 81) 1 else D_X11_reckon_72 g (some 81) a b (some 81) 0 := by
      unfold D_X11_reckon; rw [if_neg (by decide), if_neg (by decide), if_neg (by decide), if_pos (by decide)]
      by_cases c : b = 0
      · rw [if_pos ((lg_zero _ _).mpr c), if_pos c]
      · rw [if_neg (fun q => c ((lg_zero _ _).mp q)), if_neg c]
    rw [ej, ed]
    by_cases c : b = 0
    · refine ⟨wF g 81 38 (.int 1), on 1, aJ_wF _ _ _ _, ?_, ?_⟩
      · rw [if_pos c, if_pos c]; unfold D_X11_reckon_72; rw [if_pos (by decide), p38, Option.bind_some, rd, Option.bind_some, if_neg one_ne]
      · rw [if_pos ⟨c, Or.inl rfl⟩, fI_wF_eq hs rfl]
    · refine ⟨wF g 81 38 (.int 0), on 0, aJ_wF _ _ _ _, ?_, ?_⟩
      · rw [if_neg c, if_neg c]; unfold D_X11_reckon_72; rw [if_pos (by decide), p38, Option.bind_some, rd, Option.bind_some, if_pos rfl, if_neg c]
      · rw [if_neg (fun q => c q.1), fI_wF_eq hs rfl]
  · have ej : jn (Int32.ofNat 9) a b = if b = 0 then 0 else a - a / b * b := by unfold jn; rw [if_neg (by decide), if_neg (by decide), if_neg (by decide), if_neg (by decide), if_pos (by decide)]
    have ed : D_X11_reckon g (some 81) (Int32.ofNat (9 + 15)) a b = if b = 0 then D_X11_reckon_104 g (some 81) a b (some 81) 1 else D_X11_reckon_104 g (some 81) a b (some 81) 0 := by
      unfold D_X11_reckon; rw [if_neg (by decide), if_neg (by decide), if_neg (by decide), if_neg (by decide), if_pos (by decide)]
      by_cases c : b = 0
      · rw [if_pos ((lg_zero _ _).mpr c), if_pos c]
      · rw [if_neg (fun q => c ((lg_zero _ _).mp q)), if_neg c]
    rw [ej, ed]
    by_cases c : b = 0
    · refine ⟨wF g 81 38 (.int 1), on 1, aJ_wF _ _ _ _, ?_, ?_⟩
      · rw [if_pos c, if_pos c]; unfold D_X11_reckon_104; rw [if_pos (by decide), p38, Option.bind_some, rd, Option.bind_some, if_neg one_ne]
      · rw [if_pos ⟨c, Or.inr rfl⟩, fI_wF_eq hs rfl]
    · refine ⟨wF g 81 38 (.int 0), on 0, aJ_wF _ _ _ _, ?_, ?_⟩
      · rw [if_neg c, if_neg c]; unfold D_X11_reckon_104; rw [if_pos (by decide), p38, Option.bind_some, rd, Option.bind_some, if_pos rfl, if_neg c]
      · rw [if_neg (fun q => c q.1), fI_wF_eq hs rfl]
  · refine keep (if a.toInt < b.toInt then 1 else 0) ?_ (Eq.symm (by unfold jn; rw [if_neg (by decide), if_neg (by decide), if_neg (by decide), if_neg (by decide), if_neg (by decide), if_pos (by decide)])) (by decide)
    unfold D_X11_reckon; rw [if_neg (by decide), if_neg (by decide), if_neg (by decide), if_neg (by decide), if_neg (by decide), if_pos (by decide)]
    by_cases c : a.toInt < b.toInt
    · rw [if_neg (fun q => ((lg_nonneg _ _).mp q) c), if_pos c]
    · rw [if_pos ((lg_nonneg _ _).mpr c), if_neg c]
  · refine keep (if b.toInt < a.toInt then 1 else 0) ?_ (Eq.symm (by unfold jn; rw [if_neg (by decide), if_neg (by decide), if_neg (by decide), if_neg (by decide), if_neg (by decide), if_neg (by decide), if_pos (by decide)])) (by decide)
    unfold D_X11_reckon; rw [if_neg (by decide), if_neg (by decide), if_neg (by decide), if_neg (by decide), if_neg (by decide), if_neg (by decide), if_pos (by decide)]
    by_cases c : b.toInt < a.toInt
    · rw [if_neg (fun q => ((lg_nonpos _ _).mp q) c), if_pos c]
    · rw [if_pos ((lg_nonpos _ _).mpr c), if_neg c]
  · refine keep (if a = b then 1 else 0) ?_ (Eq.symm (by unfold jn; rw [if_neg (by decide), if_neg (by decide), if_neg (by decide), if_neg (by decide), if_neg (by decide), if_neg (by decide), if_neg (by decide)])) (by decide)
    unfold D_X11_reckon; rw [if_neg (by decide), if_neg (by decide), if_neg (by decide), if_neg (by decide), if_neg (by decide), if_neg (by decide), if_neg (by decide)]
    by_cases c : a = b
    · rw [if_pos ((lg_zero _ _).mpr c), if_pos c]
    · rw [if_neg (fun q => c ((lg_zero _ _).mp q)), if_neg c]
theorem rm_op (hs : Sh g) (rd : RdM g ord K Ka) (br : fI g 81 38 = 0) {x y : Int64} {r : List Int64} (sm : SM g (x :: y :: r)) {k : Nat} (hk : k < last) (h4 : last ≤ 400) {o : Nat} (h5 : 5 ≤ o) (h12 : o ≤ 12) (e : K k = Int32.ofNat (o + 15)) (m : Nat) :
    ∃ g', OnM [81, 101] [38, 39] g g' ∧ SM g' (jn (Int32.ofNat o) y x :: r) ∧ (fI g' 81 38 = if (x = 0 ∧ (o = 8 ∨ o = 9)) ∨ ¬ (-1000000000 ≤ (jn (Int32.ofNat o) y x).toInt ∧ (jn (Int32.ofNat o) y x).toInt ≤ 1000000000) then 1 else 0) ∧
    D_X11_reckonAll_10 (m + 1) g (some 81) (Int32.ofNat last) (Int32.ofNat (x :: y :: r).length) (Int32.ofNat k) = D_X11_reckonAll_10 m g' (some 81) (Int32.ofNat last) (Int32.ofNat (jn (Int32.ofNat o) y x :: r).length) (Int32.ofNat (k + 1)) := by
  obtain ⟨g1, o1, a1, d1, b1⟩ := rm_join (g := g) hs br h5 h12 y x
  have hs1 := o1.1
  have lr : r.length < 50 := by have := sm.1; simp at this; omega
  have sm1 : SM g1 (x :: y :: r) := sm.of a1
  have hs2 : Sh (puM g1 r.length (jn (Int32.ofNat o) y x)) := Sh_puM hs1 _ _
  have sm2 : SM (puM g1 r.length (jn (Int32.ofNat o) y x)) (jn (Int32.ofNat o) y x :: r) := sm1.tl.set hs1
  have on2 := o1.trans (puM_on hs1 r.length (jn (Int32.ofNat o) y x))
  have e1 : Int32.ofNat k + 1 = Int32.ofNat (k + 1) := sc_add k 1
  have em : Int32.ofNat (x :: y :: r).length + (-1) = Int32.ofNat (y :: r).length := by rw [← l4_cons x (y :: r)]; exact (Int32.sub_eq_add_neg _ _).symm
  have lk : (jn (Int32.ofNat o) y x :: r).length = (y :: r).length := by simp
  have p38 : ∀ v : Int32, z_pV 11 (puM g1 r.length (jn (Int32.ofNat o) y x)) (some 81) 38 (.int v) = some (wF (puM g1 r.length (jn (Int32.ofNat o) y x)) 81 38 (.int v)) := fun v => s_pV hs2 rfl (by decide) _
  have f38 : fI (puM g1 r.length (jn (Int32.ofNat o) y x)) 81 38 = fI g1 81 38 := fI_wJ _ _ _ _
  have fin : ∀ v : Int32, (v = 0 ∨ v = 1) → D_X11_reckonAll_290 (D_X11_reckonAll_10 m) (puM g1 r.length (jn (Int32.ofNat o) y x)) (some 81) (Int32.ofNat last) (Int32.ofNat (y :: r).length) (Int32.ofNat (k + 1)) (some 81) v = D_X11_reckonAll_10 m (wF (puM g1 r.length (jn (Int32.ofNat o) y x)) 81 38 (.int v)) (some 81) (Int32.ofNat last) (Int32.ofNat (jn (Int32.ofNat o) y x :: r).length) (Int32.ofNat (k + 1)) := fun v hv => by
    unfold D_X11_reckonAll_290 D_X11_reckonAll_358
    rw [if_pos hv, p38, Option.bind_some, lk]
  have on3 : ∀ v : Int32, OnM [81, 101] [38, 39] g (wF (puM g1 r.length (jn (Int32.ofNat o) y x)) 81 38 (.int v)) := fun v => on2.trans ⟨Sh_wF hs2 rfl _, Tch_wF (Tch_rfl _ _) (by decide) _ _, fun k hk => ⟨fI_wF_ne (fun q => hk (by rw [q.2]; decide)), fJ_wF_ne (fun q => hk (by rw [q.2]; decide))⟩⟩
  have go : D_X11_reckonAll_10 (m + 1) g (some 81) (Int32.ofNat last) (Int32.ofNat (x :: y :: r).length) (Int32.ofNat k) = D_X11_reckonAll_290 (D_X11_reckonAll_10 m) (puM g1 r.length (jn (Int32.ofNat o) y x)) (some 81) (Int32.ofNat last) (Int32.ofNat (y :: r).length) (Int32.ofNat (k + 1)) (some 81) (if (x = 0 ∧ (o = 8 ∨ o = 9)) ∨ ¬ (-1000000000 ≤ (jn (Int32.ofNat o) y x).toInt ∧ (jn (Int32.ofNat o) y x).toInt ≤ 1000000000) then 1 else 0) := by
    rw [rm_head hs rd br hk h4 m]
    have k20 : (20 : Int32) ≤ Int32.ofNat (o + 15) := (nat_le (a := 20) (by decide) (by omega)).mpr (by omega)
    have k28 : ¬ (28 : Int32) ≤ Int32.ofNat (o + 15) := fun q => by have := (nat_le (a := 28) (by decide) (by omega)).mp q; omega
    unfold D_X11_reckonAll_95
    rw [Option.bind_some, e1, e, if_pos k20, if_neg k28, Option.bind_some, em, s_gQ (r := 101) hs rfl rfl, Option.bind_some, Option.bind_some, l4_cons, m_rd hs sm.tl, Option.bind_some, Option.bind_some, m_rd hs sm, Option.bind_some, s_ob hs (ci := 11) rfl, Option.bind_some, d1, Option.bind_some]
    dsimp only
    rw [m_wr hs1 (by omega), Option.bind_some, s_gI hs2 (ci := 11) rfl rfl, Option.bind_some, f38, b1]
    by_cases c : x = 0 ∧ (o = 8 ∨ o = 9)
    · rw [if_pos c, if_neg one_ne, if_pos (Or.inl c)]
      unfold D_X11_reckonAll_285
      rfl
    · rw [if_neg c, if_pos rfl, s_gQ (r := 101) hs2 rfl rfl, Option.bind_some, m_rd hs2 sm2, Option.bind_some, d_in, Option.bind_some]
      dsimp only
      have bb : ((-1000000000 : Int64).toInt ≤ (jn (Int32.ofNat o) y x).toInt ∧ (jn (Int32.ofNat o) y x).toInt ≤ (1000000000 : Int64).toInt) ↔ (-1000000000 ≤ (jn (Int32.ofNat o) y x).toInt ∧ (jn (Int32.ofNat o) y x).toInt ≤ 1000000000) := Iff.rfl
      by_cases c2 : -1000000000 ≤ (jn (Int32.ofNat o) y x).toInt ∧ (jn (Int32.ofNat o) y x).toInt ≤ 1000000000
      · rw [if_pos (bb.mpr c2), if_neg one_ne, if_neg (fun q => q.elim c (fun z => z c2))]
      · rw [if_neg (fun q => c2 (bb.mp q)), if_pos rfl, if_pos (Or.inr c2)]
        unfold D_X11_reckonAll_285
        rfl
  rw [go]
  by_cases c : (x = 0 ∧ (o = 8 ∨ o = 9)) ∨ ¬ (-1000000000 ≤ (jn (Int32.ofNat o) y x).toInt ∧ (jn (Int32.ofNat o) y x).toInt ≤ 1000000000)
  · rw [if_pos c]
    exact ⟨_, on3 1, sm2.of (aJ_wF _ _ _ _), fI_wF_eq hs2 rfl _, fin 1 (Or.inr rfl)⟩
  · rw [if_neg c]
    exact ⟨_, on3 0, sm2.of (aJ_wF _ _ _ _), fI_wF_eq hs2 rfl _, fin 0 (Or.inl rfl)⟩
/-- the end of the loop -/
theorem rm_out (hs : Sh g) {s : List Int64} (sm : SM g s) {k : Nat} (hk : (last ≤ k ∧ last ≤ 400 ∧ k ≤ 400) ∨ fI g 81 38 = 1) (m : Nat) : ∃ g', OnM [81, 101] [38, 39] g g' ∧ fI g' 81 38 = fI g 81 38 ∧ fJ g' 81 39 = s.getLast?.getD 0 ∧ D_X11_reckonAll_10 (m + 1) g (some 81) (Int32.ofNat last) (Int32.ofNat s.length) (Int32.ofNat k) = some g' := by
  have out : ∃ g', OnM [81, 101] [38, 39] g g' ∧ fI g' 81 38 = fI g 81 38 ∧ fJ g' 81 39 = s.getLast?.getD 0 ∧ D_X11_reckonAll_361 g (some 81) (Int32.ofNat s.length) = some g' := by
    refine ⟨wF g 81 39 (.long (s.getLast?.getD 0)), ⟨Sh_wFJ hs rfl _, Tch_wF (Tch_rfl _ _) (by decide) _ _, fun k hk => ⟨fI_wF_ne (fun q => hk (by rw [q.2]; decide)), fJ_wF_ne (fun q => hk (by rw [q.2]; decide))⟩⟩, fI_wF_ne (by decide), fJ_wF_eq hs rfl _, ?_⟩
    unfold D_X11_reckonAll_361
    have p39 : ∀ v : Int64, D_X11_reckonAll_376 g (some 81) v = some (wF g 81 39 (.long v)) := fun v => by
      unfold D_X11_reckonAll_376
      rw [s_pV hs (ci := 11) rfl (by decide), Option.bind_some]
    cases s with
    | nil => rw [if_pos (by decide), p39]; rfl
    | cons x r =>
      have := sm.1
      have n0 : ¬ Int32.ofNat (x :: r).length ≤ 0 := fun q => by have := (nat_le (b := 0) (by simp at this ⊢; omega) (by decide)).mp q; simp at this
      have hd := sm.2 0 (by simp)
      rw [← List.head?_eq_getElem?, List.head?_reverse] at hd
      rw [if_neg n0, s_gQ (r := 101) hs rfl rfl, Option.bind_some, s_aJ (n := 400) hs rfl, (iRs (n := 400) (f := aJ g 101) (by decide)).1 (by decide), Option.bind_some, p39, hd]
      rfl
  obtain ⟨g', h1, h2, h3, h4⟩ := out
  refine ⟨g', h1, h2, h3, ?_⟩
  show D_X11_reckonAll_10b (D_X11_reckonAll_10 m) g (some 81) (Int32.ofNat last) (Int32.ofNat s.length) (Int32.ofNat k) = _
  unfold D_X11_reckonAll_10b
  rcases hk with ⟨q1, q2, q3⟩ | q
  · rw [if_pos ((nat_le (by omega) (by omega)).mpr q1)]; exact h4
  · rw [s_gI hs (ci := 11) rfl rfl, Option.bind_some, q, if_neg one_ne]
    by_cases c : Int32.ofNat last ≤ Int32.ofNat k
    · rw [if_pos c]; exact h4
    · rw [if_neg c]; exact h4
end RMS2
