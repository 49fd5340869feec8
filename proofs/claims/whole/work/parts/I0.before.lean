/-! orders: what stands ahead is kept, and given back -/
section I0
variable {g h : z_H}
theorem c_log1 (hs : Sh g) : ∃ g', Sh g' ∧ Tch [44, 45] g g' ∧ aI g' 45 = va_cpy (aI g 22) (aI g 45) 0 0 112 ∧ fI g' 44 1 = fI g 21 1 ∧ D_X8_become g (some 44) (some 21) = some g' := by
  have cp : z_cI g (some 22) 0 (some 45) 0 112 = some (wA g 45 (va_cpy (aI g 22) (aI g 45) 0 0 112)) := s_cI (sp := 0) (dp := 0) (k := 112) hs (a := 45) (b := 22) rfl rfl (by decide) (by decide) (by decide) (by decide)
  have s1 : Sh (wA g 45 (va_cpy (aI g 22) (aI g 45) 0 0 112)) := Sh_wA hs rfl _
  refine ⟨_, Sh_wF s1 rfl (fI g 21 1), Tch_wF (Tch_wA (Tch_rfl _ _) (by decide) _) (by decide) _ _, by rw [aI_wF, aI_wA_eq hs rfl], fI_wF_eq s1 rfl _, ?_⟩
  unfold D_X8_become
  rw [s_gQ (r := 22) hs rfl rfl, Option.bind_some, s_gQ (r := 45) hs rfl rfl, Option.bind_some, cp, Option.bind_some, s_gI s1 (ci := 8) rfl rfl, Option.bind_some, fI_wA, s_pV s1 (ci := 8) rfl (by decide), Option.bind_some]
theorem c_log2 (hs : Sh g) : ∃ g', Sh g' ∧ Tch [21, 22] g g' ∧ aI g' 22 = va_cpy (aI g 45) (aI g 22) 0 0 112 ∧ fI g' 21 1 = fI g 44 1 ∧ D_X8_become g (some 21) (some 44) = some g' := by
  have cp : z_cI g (some 45) 0 (some 22) 0 112 = some (wA g 22 (va_cpy (aI g 45) (aI g 22) 0 0 112)) := s_cI (sp := 0) (dp := 0) (k := 112) hs (a := 22) (b := 45) rfl rfl (by decide) (by decide) (by decide) (by decide)
  have s1 : Sh (wA g 22 (va_cpy (aI g 45) (aI g 22) 0 0 112)) := Sh_wA hs rfl _
  refine ⟨_, Sh_wF s1 rfl (fI g 44 1), Tch_wF (Tch_wA (Tch_rfl _ _) (by decide) _) (by decide) _ _, by rw [aI_wF, aI_wA_eq hs rfl], fI_wF_eq s1 rfl _, ?_⟩
  unfold D_X8_become
  rw [s_gQ (r := 45) hs rfl rfl, Option.bind_some, s_gQ (r := 22) hs rfl rfl, Option.bind_some, cp, Option.bind_some, s_gI s1 (ci := 8) rfl rfl, Option.bind_some, fI_wA, s_pV s1 (ci := 8) rfl (by decide), Option.bind_some]
theorem m_copies (hs : Sh h) (l1 : Int32) : D_X11_orders_77 z_F h (some 81) l1 0 = D_X11_orders_104b (fun _ _ _ _ => none) (wA (wA h 88 (va_cpy (aI h 86) (aI h 88) 0 0 624)) 89 (va_cpy (aI h 87) (aI h 89) 0 0 16)) (some 81) l1 16 := by
  have c1 := copy_loop (F := fun f x i => D_X11_orders_77 f x (some 81) l1 i) (G := fun x => D_X11_orders_104 z_F x (some 81) l1 0) (a := 88) (b := 86) (sp := 0) (dp := 0) (N := 624) rfl (fun f x sx => ?_) (fun f x i sx hi => ?_) (Or.inl (by decide)) hs (by decide)
  · have s1 : Sh (wA h 88 (va_cpy (aI h 86) (aI h 88) 0 0 624)) := Sh_wA hs rfl _
    have c2 := copy_loop (F := fun f x i => D_X11_orders_104 f x (some 81) l1 i) (G := fun x => D_X11_orders_104b (fun _ _ _ _ => none) x (some 81) l1 16) (a := 89) (b := 87) (sp := 0) (dp := 0) (N := 16) rfl (fun f x sx => ?_) (fun f x i sx hi => ?_) (Or.inl (by decide)) s1 (by decide)
    · rw [aI_wA_ne (by decide), aI_wA_ne (by decide)] at c2
      exact c1.trans c2
    · show D_X11_orders_104b _ x (some 81) l1 (Int32.ofNat 16) = _
      unfold D_X11_orders_104b
      rw [if_pos (show (16 : Int32) ≤ Int32.ofNat 16 by decide), if_pos (show (16 : Int32) ≤ 16 by decide)]
    · show D_X11_orders_104b (D_X11_orders_104 f) x (some 81) l1 (Int32.ofNat i) = _
      unfold D_X11_orders_104b
      rw [if_neg (show ¬ (16 : Int32) ≤ Int32.ofNat i from fun z => by have := (nat_le (a := 16) (by decide) (by omega)).mp z; omega), s_gQ (r := 89) sx rfl rfl, Option.bind_some, s_gQ (r := 87) sx rfl rfl, Option.bind_some, aR sx (n := 16) rfl hi (by decide), Option.bind_some, aW sx (n := 16) rfl hi (by decide), Option.bind_some, Option.bind_some, show Int32.ofNat i + 1 = Int32.ofNat (i + 1) from sc_add i 1, Nat.zero_add]
  · show D_X11_orders_77b _ x (some 81) l1 (Int32.ofNat 624) = _
    unfold D_X11_orders_77b
    rw [if_pos (show (624 : Int32) ≤ Int32.ofNat 624 by decide)]
  · show D_X11_orders_77b (D_X11_orders_77 f) x (some 81) l1 (Int32.ofNat i) = _
    unfold D_X11_orders_77b
    rw [if_neg (show ¬ (624 : Int32) ≤ Int32.ofNat i from fun z => by have := (nat_le (a := 624) (by decide) (by omega)).mp z; omega), s_gQ (r := 88) sx rfl rfl, Option.bind_some, s_gQ (r := 86) sx rfl rfl, Option.bind_some, aR sx (n := 702) rfl (by omega) (by decide), Option.bind_some, aW sx (n := 624) rfl hi (by decide), Option.bind_some, Option.bind_some, show Int32.ofNat i + 1 = Int32.ofNat (i + 1) from sc_add i 1, Nat.zero_add]
theorem m_giveBack (hs : Sh h) (had : Int32) : ∃ h', OnM [81, 83, 86, 87] [8] h h' ∧ fI h' 81 8 = had ∧ aI h' 83 = va_cpy (aI h 86) (aI h 83) 663 5 39 ∧ aI h' 86 = va_cpy (aI h 88) (aI h 86) 0 0 624 ∧ aI h' 87 = va_cpy (aI h 89) (aI h 87) 0 0 16 ∧ D_X11_giveBack h (some 81) had = some h' := by
  have p1 := m_putBack hs (k := 17) (by decide)
  have s0 : Sh (wA h 83 (va_cpy (aI h 86) (aI h 83) 663 5 39)) := Sh_wA hs rfl _
  have o0 := onA hs (a := 83) (S := [81, 83, 86, 87]) (ks := [8]) rfl (by decide) (va_cpy (aI h 86) (aI h 83) 663 5 39)
  have c1 := copy_loop (F := fun f x i => D_X11_giveBack_8 f x (some 81) had i) (G := fun x => D_X11_giveBack_35 z_F x (some 81) had 0) (a := 86) (b := 88) (sp := 0) (dp := 0) (N := 624) rfl (fun f x sx => ?_) (fun f x i sx hi => ?_) (Or.inl (by decide)) s0 (by decide)
  · rw [aI_wA_ne (by decide), aI_wA_ne (by decide)] at c1
    have s1 : Sh (wA (wA h 83 (va_cpy (aI h 86) (aI h 83) 663 5 39)) 86 (va_cpy (aI h 88) (aI h 86) 0 0 624)) := Sh_wA s0 rfl _
    have o1 := onA s0 (a := 86) (S := [81, 83, 86, 87]) (ks := [8]) rfl (by decide) (va_cpy (aI h 88) (aI h 86) 0 0 624)
    have c2 := copy_loop (F := fun f x i => D_X11_giveBack_35 f x (some 81) had i) (G := fun x => D_X11_giveBack_35b (fun _ _ _ _ => none) x (some 81) had 16) (a := 87) (b := 89) (sp := 0) (dp := 0) (N := 16) rfl (fun f x sx => ?_) (fun f x i sx hi => ?_) (Or.inl (by decide)) s1 (by decide)
    · rw [aI_wA_ne (by decide), aI_wA_ne (by decide), aI_wA_ne (by decide), aI_wA_ne (by decide)] at c2
      have s2 : Sh (wA (wA (wA h 83 (va_cpy (aI h 86) (aI h 83) 663 5 39)) 86 (va_cpy (aI h 88) (aI h 86) 0 0 624)) 87 (va_cpy (aI h 89) (aI h 87) 0 0 16)) := Sh_wA s1 rfl _
      have o2 := onA s1 (a := 87) (S := [81, 83, 86, 87]) (ks := [8]) rfl (by decide) (va_cpy (aI h 89) (aI h 87) 0 0 16)
      have o3 := onMF s2 (k := 8) rfl (S := [81, 83, 86, 87]) (ks := [8]) (by decide) (by decide) had
      refine ⟨_, o0.trans (o1.trans (o2.trans o3)), fI_wF_eq s2 rfl _, ?_, ?_, ?_, ?_⟩
      · rw [aI_wF, aI_wA_ne (by decide), aI_wA_ne (by decide), aI_wA_eq hs rfl]
      · rw [aI_wF, aI_wA_ne (by decide), aI_wA_eq s0 rfl]
      · rw [aI_wF, aI_wA_eq s1 rfl]
      · unfold D_X11_giveBack
        rw [o81 hs, Option.bind_some, show D_X11_putBack h (some 81) 17 = some (wA h 83 (va_cpy (aI h 86) (aI h 83) 663 5 39)) from p1, Option.bind_some]
        refine (c1.trans c2).trans ?_
        unfold D_X11_giveBack_35b
        rw [if_pos (by decide), s_pV s2 (ci := 11) rfl (by decide), Option.bind_some]
    · show D_X11_giveBack_35b _ x (some 81) had (Int32.ofNat 16) = _
      unfold D_X11_giveBack_35b
      rw [if_pos (show (16 : Int32) ≤ Int32.ofNat 16 by decide), if_pos (show (16 : Int32) ≤ 16 by decide)]
    · show D_X11_giveBack_35b (D_X11_giveBack_35 f) x (some 81) had (Int32.ofNat i) = _
      unfold D_X11_giveBack_35b
      rw [if_neg (show ¬ (16 : Int32) ≤ Int32.ofNat i from fun z => by have := (nat_le (a := 16) (by decide) (by omega)).mp z; omega), s_gQ (r := 87) sx rfl rfl, Option.bind_some, s_gQ (r := 89) sx rfl rfl, Option.bind_some, aR sx (n := 16) rfl hi (by decide), Option.bind_some, aW sx (n := 16) rfl hi (by decide), Option.bind_some, Option.bind_some, show Int32.ofNat i + 1 = Int32.ofNat (i + 1) from sc_add i 1, Nat.zero_add]
  · show D_X11_giveBack_8b _ x (some 81) had (Int32.ofNat 624) = _
    unfold D_X11_giveBack_8b
    rw [if_pos (show (624 : Int32) ≤ Int32.ofNat 624 by decide)]
  · show D_X11_giveBack_8b (D_X11_giveBack_8 f) x (some 81) had (Int32.ofNat i) = _
    unfold D_X11_giveBack_8b
    rw [if_neg (show ¬ (624 : Int32) ≤ Int32.ofNat i from fun z => by have := (nat_le (a := 624) (by decide) (by omega)).mp z; omega), s_gQ (r := 86) sx rfl rfl, Option.bind_some, s_gQ (r := 88) sx rfl rfl, Option.bind_some, aR sx (n := 624) rfl hi (by decide), Option.bind_some, aW sx (n := 702) rfl (by omega) (by decide), Option.bind_some, Option.bind_some, show Int32.ofNat i + 1 = Int32.ofNat (i + 1) from sc_add i 1, Nat.zero_add]
end I0
