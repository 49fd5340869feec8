/-! orders: the loops -/
section I2
variable {g0 h0 g h : z_H} {m0 m op ar cl K Ka mo : Nat → Int32} {n cc k dn nu : Nat} {la had : Int32} {f : Nat → Nat}
theorem loop_in (tx : TxC g0 25 26 27 28 400 n 72 cc op ar cl) (C : codeRel true op ar K Ka n f) (HT : ∃ S, low S = true ∧ Tch S g0 h0) (Y35 : Yrel g0 35 m0) (hk : k < cc) (O : OLR op ar cl mo f n k) {tm : Nat} (htm : tm ≤ 20) (e1 : mo (8 * k + 7) = Int32.ofNat tm) (k29 : z_H → Option Nat → Option Nat → Option Nat → Option Nat → Int32 → Option (Int32 × z_H)) (k140 : z_H → Option Nat → Int32 → Int32 → Option (Int32 × z_H)) : ∀ (d t F F' : Nat) (g h : z_H) (m : Nat → Int32) (dn nu : Nat) (la : Int32), tm - t = d → d < F → d < F' → t ≤ tm → RJ g0 h0 m0 K Ka mo g h m dn nu la → dn ≤ 20 * k + t →
    (∃ (g' h' : z_H) (m' : Nat → Int32) (dn' nu' : Nat) (la' : Int32), D_X2_run_50 k29 F g (some 34) (some 25) (some 1) (some 21) (Int32.ofNat k) (Int32.ofNat tm) (Int32.ofNat t) = k29 g' (some 34) (some 25) (some 1) (some 21) (Int32.ofNat (k + 1)) ∧ D_X11_orders_150 k140 F' h (some 81) had (Int32.ofNat k) (Int32.ofNat t) = k140 h' (some 81) had (Int32.ofNat (k + 1)) ∧ RJ g0 h0 m0 K Ka mo g' h' m' dn' nu' la' ∧ dn' ≤ 20 * (k + 1)) ∨
    FA g0 h0 m0 had (D_X2_run_50 k29 F g (some 34) (some 25) (some 1) (some 21) (Int32.ofNat k) (Int32.ofNat tm) (Int32.ofNat t)) (D_X11_orders_150 k140 F' h (some 81) had (Int32.ofNat k) (Int32.ofNat t)) := by
  have c12 : cc ≤ 12 := tx.2.2.2.2.2.2.1.2.1
  have e8 : (8 : Int32) * Int32.ofNat k = Int32.ofNat (8 * k) := sc_mul 8 k
  intro d
  induction d with
  | zero =>
    intro t F F' g h m dn nu la ed hF hF' ht J hd
    obtain ⟨F, rfl⟩ : ∃ x, F = x + 1 := ⟨F - 1, by omega⟩
    obtain ⟨F', rfl⟩ : ∃ x, F' = x + 1 := ⟨F' - 1, by omega⟩
    have tt : t = tm := by omega
    have R := J.2.2.2.2.2.2.2.2.1
    refine Or.inl ⟨g, h, m, dn, nu, la, ?_, ?_, J, by omega⟩
    · show D_X2_run_50b k29 (D_X2_run_50 k29 F) g (some 34) (some 25) (some 1) (some 21) (Int32.ofNat k) (Int32.ofNat tm) (Int32.ofNat t) = _
      unfold D_X2_run_50b
      rw [tt, if_pos (by rw [Int32.le_iff_toInt_le]; exact Int.le_refl _), Option.bind_some, show Int32.ofNat k + 1 = Int32.ofNat (k + 1) from sc_add k 1]
    · show D_X11_orders_150b k140 (D_X11_orders_150 k140 F') h (some 81) had (Int32.ofNat k) (Int32.ofNat t) = _
      unfold D_X11_orders_150b
      rw [s_gQ (r := 112) R.1 rfl rfl, Option.bind_some, e8, show Int32.ofNat (8 * k) + 7 = Int32.ofNat (8 * k + 7) from sc_add _ 7, aR R.1 (n := 96) rfl (by omega) (by decide), R.2.2.2.2.2.2.2 _ (by omega), e1, Option.bind_some, tt, if_pos (by rw [Int32.le_iff_toInt_le]; exact Int.le_refl _), Option.bind_some, show Int32.ofNat k + 1 = Int32.ofNat (k + 1) from sc_add k 1]
  | succ d ih =>
    intro t F F' g h m dn nu la ed hF hF' ht J hd
    obtain ⟨F, rfl⟩ : ∃ x, F = x + 1 := ⟨F - 1, by omega⟩
    obtain ⟨F', rfl⟩ : ∃ x, F' = x + 1 := ⟨F' - 1, by omega⟩
    have R := J.2.2.2.2.2.2.2.2.1
    have nle : ¬ Int32.ofNat tm ≤ Int32.ofNat t := fun z => by have := (nat_le (by omega) (by omega)).mp z; omega
    have uA : D_X2_run_50 k29 (F + 1) g (some 34) (some 25) (some 1) (some 21) (Int32.ofNat k) (Int32.ofNat tm) (Int32.ofNat t) = (D_X2_obey g (some 34) (some 25) (Int32.ofNat k) (some 1) (some 21)).bind fun p3028 => if p3028.1 = 0 then (z_gQ 2 p3028.2 (some 34) 2).bind fun x3032 => (z_ob 9 p3028.2 (some 1)).bind fun _ => (D_X9_become p3028.2 (some 1) x3032).bind fun p3033 => (z_gQ 2 p3033 (some 34) 3).bind fun x3035 => (z_ob 8 p3033 (some 21)).bind fun _ => (D_X8_become p3033 (some 21) x3035).bind fun p3036 => (z_pV 2 p3036 (some 34) 6 (.int (Int32.ofNat k))).bind fun h3038 => some ((-3:Int32), h3038) else (some (Int32.ofNat t + (1:Int32))).bind fun x3031 => D_X2_run_50 k29 F p3028.2 (some 34) (some 25) (some 1) (some 21) (Int32.ofNat k) (Int32.ofNat tm) x3031 := by
      show D_X2_run_50b k29 (D_X2_run_50 k29 F) g (some 34) (some 25) (some 1) (some 21) (Int32.ofNat k) (Int32.ofNat tm) (Int32.ofNat t) = _
      unfold D_X2_run_50b
      rw [if_neg nle, s_ob J.1 (ci := 2) rfl, Option.bind_some]
    have uB : D_X11_orders_150 k140 (F' + 1) h (some 81) had (Int32.ofNat k) (Int32.ofNat t) = (D_X11_run h (some 81) (Int32.ofNat (8 * k))).bind fun p3642 => if 0 ≤ p3642.1 then (some (Int32.ofNat t + (1:Int32))).bind fun x3645 => D_X11_orders_150 k140 F' p3642.2 (some 81) had (Int32.ofNat k) x3645 else (z_ob 11 p3642.2 (some 81)).bind fun _ => (D_X11_giveBack p3642.2 (some 81) had).bind fun p3646 => (z_pV 11 p3646 (some 81) 54 (.int (Int32.ofNat k))).bind fun h3648 => (z_ob 11 h3648 (some 81)).bind fun _ => (D_X11_tell h3648 (some 81) (-3:Int32)).bind fun p3649 => some (p3649.1, p3649.2) := by
      show D_X11_orders_150b k140 (D_X11_orders_150 k140 F') h (some 81) had (Int32.ofNat k) (Int32.ofNat t) = _
      unfold D_X11_orders_150b
      rw [s_gQ (r := 112) R.1 rfl rfl, Option.bind_some, e8, show Int32.ofNat (8 * k) + 7 = Int32.ofNat (8 * k + 7) from sc_add _ 7, aR R.1 (n := 96) rfl (by omega) (by decide), R.2.2.2.2.2.2.2 _ (by omega), e1, Option.bind_some, if_neg nle, o81 R.1, Option.bind_some]
    rcases loop_one tx C HT hk O J with ⟨g', h', m', dn', nu', la', dA, dB, J', le⟩ | ⟨g', h', dA, dB, s', T', O', q663, qm, q20⟩
    · have X := ih (t + 1) F F' g' h' m' dn' nu' la' (by omega) (by omega) (by omega) (by omega) J' (by omega)
      rw [dA, Option.bind_some] at uA
      rw [dB, Option.bind_some] at uB
      dsimp only at uA uB
      rw [if_neg one_ne, Option.bind_some, show Int32.ofNat t + 1 = Int32.ofNat (t + 1) from sc_add t 1] at uA
      rw [if_pos (by decide), Option.bind_some, show Int32.ofNat t + 1 = Int32.ofNat (t + 1) from sc_add t 1] at uB
      rw [uA, uB]
      exact X
    · obtain ⟨g1, x1, X1⟩ := c_fail (k := k) s' T' Y35
      obtain ⟨h1, y1, Y1⟩ := m_fail (k := k) O' q663 qm q20 had
      rw [dA, Option.bind_some] at uA
      rw [dB, Option.bind_some] at uB
      dsimp only at uA uB
      rw [if_pos rfl, x1] at uA
      rw [if_neg (by decide), y1] at uB
      rw [uA, uB]
      exact Or.inr ⟨g1, h1, k, rfl, rfl, X1, Y1⟩
def RUN (g0 h0 : z_H) (m0 K Ka mo : Nat → Int32) (had : Int32) (A B : Option (Int32 × z_H)) : Prop := (∃ (g' h' : z_H) (m : Nat → Int32) (dn nu : Nat) (la : Int32), A = some (Int32.ofNat dn, g') ∧ B = some (Int32.ofNat dn, wF h' 81 1 (.int 0)) ∧ dn ≤ 240 ∧ RJ g0 h0 m0 K Ka mo g' h' m dn nu la) ∨ FA g0 h0 m0 had A B
theorem loop_out (tx : TxC g0 25 26 27 28 400 n 72 cc op ar cl) (C : codeRel true op ar K Ka n f) (HT : ∃ S, low S = true ∧ Tch S g0 h0) (Y35 : Yrel g0 35 m0) (O : ∀ k, k < cc → OLR op ar cl mo f n k) (e21 : fI h0 81 21 = Int32.ofNat cc) : ∀ (d k F F' : Nat) (g h : z_H) (m : Nat → Int32) (dn nu : Nat) (la : Int32), cc - k = d → d < F → d < F' → k ≤ cc → RJ g0 h0 m0 K Ka mo g h m dn nu la → dn ≤ 20 * k → RUN g0 h0 m0 K Ka mo had (D_X2_run_29 F g (some 34) (some 25) (some 1) (some 21) (Int32.ofNat k)) (D_X11_orders_140 F' h (some 81) had (Int32.ofNat k)) := by
  have c12 : cc ≤ 12 := tx.2.2.2.2.2.2.1.2.1
  intro d
  induction d with
  | zero =>
    intro k F F' g h m dn nu la ed hF hF' hk J hd
    obtain ⟨F, rfl⟩ : ∃ x, F = x + 1 := ⟨F - 1, by omega⟩
    obtain ⟨F', rfl⟩ : ∃ x, F' = x + 1 := ⟨F' - 1, by omega⟩
    have kk : k = cc := by omega
    have tg := TxC_W tx J.2.2.2.2.2.2.2.1
    have R := J.2.2.2.2.2.2.2.2.1
    have OM := J.2.2.2.2.2.2.2.2.2.1
    refine Or.inl ⟨g, h, m, dn, nu, la, ?_, ?_, by omega, J⟩
    · show D_X2_run_29b (D_X2_run_29 F) g (some 34) (some 25) (some 1) (some 21) (Int32.ofNat k) = _
      unfold D_X2_run_29b
      rw [(TxC_r tg).2.2.2.2.1, Option.bind_some, kk, if_pos (by rw [Int32.le_iff_toInt_le]; exact Int.le_refl _), s_gI J.1 (ci := 2) rfl rfl, Option.bind_some, J.2.2.1]
    · show D_X11_orders_140b (D_X11_orders_140 F') h (some 81) had (Int32.ofNat k) = _
      unfold D_X11_orders_140b
      rw [s_gI R.1 (ci := 11) rfl rfl, Option.bind_some, (OM.2.2 21 (by decide)).1, e21, kk, if_pos (by rw [Int32.le_iff_toInt_le]; exact Int.le_refl _), s_gI R.1 (ci := 11) rfl rfl, Option.bind_some, R.2.2.2.1, o81 R.1, Option.bind_some, d_tell_ok R.1 (by rw [ge0, of_int (by omega)]; omega), Option.bind_some]
  | succ d ih =>
    intro k F F' g h m dn nu la ed hF hF' hk J hd
    obtain ⟨F, rfl⟩ : ∃ x, F = x + 1 := ⟨F - 1, by omega⟩
    obtain ⟨F', rfl⟩ : ∃ x, F' = x + 1 := ⟨F' - 1, by omega⟩
    have kc : k < cc := by omega
    have tg := TxC_W tx J.2.2.2.2.2.2.2.1
    have R := J.2.2.2.2.2.2.2.2.1
    have OM := J.2.2.2.2.2.2.2.2.2.1
    have nle : ¬ Int32.ofNat cc ≤ Int32.ofNat k := fun z => by have := (nat_le (by omega) (by omega)).mp z; omega
    obtain ⟨v, tm, s0, s1, s2, s3, hv, q1, q2, b0, b1, b2, b3, b4, b5, h01, h12, h23, h3n, mv, m7, r⟩ := O k kc
    have uA : D_X2_run_29 (F + 1) g (some 34) (some 25) (some 1) (some 21) (Int32.ofNat k) = D_X2_run_50 (D_X2_run_29 F) z_F g (some 34) (some 25) (some 1) (some 21) (Int32.ofNat k) (Int32.ofNat tm) (Int32.ofNat 0) := by
      show D_X2_run_29b (D_X2_run_29 F) g (some 34) (some 25) (some 1) (some 21) (Int32.ofNat k) = _
      unfold D_X2_run_29b
      rw [(TxC_r tg).2.2.2.2.1, Option.bind_some, if_neg nle, o25 J.1, Option.bind_some, show D_X7_field g (some 25) (Int32.ofNat k) 1 = some (cl (6 * k + 1), g) from c_field tg kc (j := 1) (by decide), Option.bind_some, b1]
      rfl
    have uB : D_X11_orders_140 (F' + 1) h (some 81) had (Int32.ofNat k) = D_X11_orders_150 (D_X11_orders_140 F') z_F h (some 81) had (Int32.ofNat k) (Int32.ofNat 0) := by
      show D_X11_orders_140b (D_X11_orders_140 F') h (some 81) had (Int32.ofNat k) = _
      unfold D_X11_orders_140b
      rw [s_gI R.1 (ci := 11) rfl rfl, Option.bind_some, (OM.2.2 21 (by decide)).1, e21, if_neg nle]
      rfl
    rw [uA, uB]
    rcases loop_in (had := had) tx C HT Y35 kc (O k kc) q2 m7 (D_X2_run_29 F) (D_X11_orders_140 F') tm 0 z_F z_F g h m dn nu la rfl (by show _ < 1000000; omega) (by show _ < 1000000; omega) (Nat.zero_le _) J (by omega) with ⟨g', h', m', dn', nu', la', dA, dB, J', le⟩ | X
    · rw [dA, dB]
      exact ih (k + 1) F F' g' h' m' dn' nu' la' (by omega) (by omega) (by omega) (by omega) J' le
    · exact Or.inr X
end I2
