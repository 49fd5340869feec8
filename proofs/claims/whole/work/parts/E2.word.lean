/-! words and signs -/
section WD
variable {tp : Nat → Nat} {L : Nat} {g : z_H} {p e : Nat}
def amg (tp : Nat → Nat) (p e : Nat) : List Nat → Nat → Nat → Bool → Option Nat
  | [], w, a, s => if s = true ∧ a = e then some w else none
  | c :: cs, w, a, s => if c = 32 then (if s = true ∧ a = e then some w else amg tp p e cs (w + 1) p true) else amg tp p e cs w (a + 1) (s && (decide (a < e) && decide (tp a = c)))
def mt (tp : Nat → Nat) (e : Nat) : Nat → List Nat → Bool
  | _, [] => true
  | a, c :: w => (decide (a < e) && decide (tp a = c)) && mt tp e (a + 1) w
def tis (tp : Nat → Nat) (p e : Nat) (w : List Nat) : Bool := mt tp e p w && decide (p + w.length = e)
def jnW : List (List Nat) → List Nat
  | [] => []
  | [w] => w
  | w :: ws => w ++ 32 :: jnW ws
def fnd (tp : Nat → Nat) (p e : Nat) : List (List Nat) → Nat → Option Nat
  | [], _ => none
  | w :: ws, k => if tis tp p e w = true then some k else fnd tp p e ws (k + 1)
theorem amg_word : ∀ (w cs : List Nat) (k a : Nat) (s : Bool), (∀ c ∈ w, c ≠ 32) → amg tp p e (w ++ cs) k a s = amg tp p e cs k (a + w.length) (s && mt tp e a w) := by
  intro w
  induction w with
  | nil => intro cs k a s _; simp [mt]
  | cons c w ih =>
    intro cs k a s h
    show (if c = 32 then _ else amg tp p e (w ++ cs) k (a + 1) (s && (decide (a < e) && decide (tp a = c)))) = _
    rw [if_neg (h c (by simp)), ih cs k (a + 1) _ (fun d hd => h d (by simp [hd]))]
    show _ = amg tp p e cs k (a + (w.length + 1)) (s && ((decide (a < e) && decide (tp a = c)) && mt tp e (a + 1) w))
    rw [Bool.and_assoc, show a + 1 + w.length = a + (w.length + 1) by omega]
theorem amg_jnW : ∀ (ws : List (List Nat)) (k : Nat), ws ≠ [] → (∀ w ∈ ws, ∀ c ∈ w, c ≠ 32) → amg tp p e (jnW ws) k p true = fnd tp p e ws k := by
  intro ws
  induction ws with
  | nil => intro k h; exact absurd rfl h
  | cons w ws ih =>
    intro k _ h
    cases ws with
    | nil =>
      have := amg_word (tp := tp) (p := p) (e := e) w [] k p true (h w (by simp))
      rw [List.append_nil] at this
      show amg tp p e w k p true = (if tis tp p e w = true then some k else none)
      rw [this]
      unfold tis amg
      by_cases c : mt tp e p w = true ∧ p + w.length = e
      · simp [c.1, c.2]
      · rw [if_neg (by simpa using c), if_neg (by simpa using c)]
    | cons w2 ws =>
      show amg tp p e (w ++ 32 :: jnW (w2 :: ws)) k p true = (if tis tp p e w = true then some k else fnd tp p e (w2 :: ws) (k + 1))
      rw [amg_word w _ k p true (h w (by simp))]
      show (if (32 : Nat) = 32 then (if (true && mt tp e p w) = true ∧ p + w.length = e then some k else amg tp p e (jnW (w2 :: ws)) (k + 1) p true) else _) = _
      rw [if_pos rfl, ih (k + 1) (by simp) (fun v hv => h v (by simp [hv]))]
      unfold tis
      by_cases c : mt tp e p w = true ∧ p + w.length = e
      · simp [c.1, c.2]
      · rw [if_neg (by simpa using c), if_neg (by simpa using c)]
/-- the class's search for a word -/
theorem c_among22 {x : Nat} {cs : List Nat} (hx : 4 ≤ x ∧ x < 15) (hl : z_len.getD (x - 4) 0 = cs.length) (hb : z_byt.getD (x - 4) [] = cs.map Int32.ofNat) (hc : ∀ c ∈ cs, c ≤ 255) (hn : cs.length ≤ 100) (hs : Sh g) (t : TpC tp L g) (k : TokC tp L g p) : ∀ (rest pre : List Nat) (w a : Nat) (s : Bool) (f : Nat), pre ++ rest = cs → rest.length < f → a + rest.length ≤ 600 → D_X5_among_22 f g (some 23) x (Int32.ofNat w) (Int32.ofNat a) (b01 s) (Int32.ofNat pre.length) = some (enc (amg tp p (tkE tp L p) rest w a s), g) := by
  have hL := t.1
  have eb := tkE_b (tp := tp) k.1
  have r6 : z_gI 5 g (some 23) 6 = some (Int32.ofNat (tkE tp L p)) := by rw [s_gI hs (ci := 5) rfl rfl, k.2.2.1]
  have r5 : z_gI 5 g (some 23) 5 = some (Int32.ofNat p) := by rw [s_gI hs (ci := 5) rfl rfl, k.2.1]
  have q0 : z_gQ 5 g (some 23) 0 = some (some 24) := s_gQ hs rfl rfl
  intro rest
  induction rest with
  | nil =>
    intro pre w a s f hp hf ha
    obtain ⟨f, rfl⟩ : ∃ f', f = f' + 1 := ⟨f - 1, by omega⟩
    have hpl : pre.length = cs.length := by rw [← hp]; simp
    show D_X5_among_22b _ g (some 23) x (Int32.ofNat w) (Int32.ofNat a) (b01 s) (Int32.ofNat pre.length) = _
    unfold D_X5_among_22b D_J0_length_8abf5 amg
    rw [if_pos hx, Option.bind_some]
    dsimp only
    rw [hl, hpl, if_pos (by rw [Int32.le_iff_toInt_le]; exact Int.le_refl _)]
    cases s with
    | false => rw [if_pos (show b01 false = 0 from rfl), if_neg (by simp)]; rfl
    | true =>
      rw [if_neg (show ¬ b01 true = 0 by decide), r6, Option.bind_some]
      by_cases c : a = tkE tp L p
      · rw [if_pos (by rw [c]), if_pos ⟨rfl, c⟩]; rfl
      · rw [if_neg (fun z => c ((eq_lit (by simp at ha; omega) (by omega)).mp z)), if_neg (fun z => c z.2)]; rfl
  | cons c rest ih =>
    intro pre w a s f hp hf ha
    obtain ⟨f, rfl⟩ : ∃ f', f = f' + 1 := ⟨f - 1, by omega⟩
    have hlen : pre.length + (rest.length + 1) = cs.length := by rw [← hp]; simp
    have cm : c ∈ cs := by rw [← hp]; simp
    have c255 := hc c cm
    have ha' : a + (rest.length + 1) ≤ 600 := by simpa using ha
    have hf' : rest.length + 1 < f + 1 := by simpa using hf
    have ca : D_J0_charAt_5068e g x (Int32.ofNat pre.length) = some (Int32.ofNat c, g) := by
      unfold D_J0_charAt_5068e
      have e1 : (Int32.ofNat pre.length).toNatClampNeg = pre.length := Int32.toNatClampNeg_ofNat_of_lt (by omega)
      rw [if_pos ⟨hx, not_neg (by omega), by rw [e1, hl]; omega, by rw [hl]; exact (nat_lt (by omega) (by omega)).mpr (by omega)⟩, e1, hb, ← hp]
      simp
    have nxt' : Int32.ofNat pre.length + 1 = Int32.ofNat (pre ++ [c]).length := by
      rw [List.length_append]
      exact sc_add pre.length 1
    have hp' : (pre ++ [c]) ++ rest = cs := by rw [← hp]; simp
    show D_X5_among_22b (D_X5_among_22 f) g (some 23) x (Int32.ofNat w) (Int32.ofNat a) (b01 s) (Int32.ofNat pre.length) = _
    unfold D_X5_among_22b D_J0_length_8abf5
    rw [if_pos hx, Option.bind_some]
    dsimp only
    rw [hl, if_neg (fun z => by have := (nat_le (by omega) (by omega)).mp z; omega), ca, Option.bind_some]
    dsimp only
    have s98 : ∀ s0 : Bool, D_X5_among_98 (D_X5_among_22 f) g (some 23) x (Int32.ofNat w) (Int32.ofNat pre.length) = some (enc (amg tp p (tkE tp L p) rest (w + 1) p true), g) := fun _ => by
      unfold D_X5_among_98 D_X5_among_109
      rw [Option.bind_some, r5, Option.bind_some, Option.bind_some, nxt', show Int32.ofNat w + 1 = Int32.ofNat (w + 1) from sc_add w 1]
      exact ih (pre ++ [c]) (w + 1) p true f hp' (by omega) (by have := k.1; omega)
    have s75 : ∀ b : Bool, D_X5_among_75 (D_X5_among_22 f) g (some 23) x (Int32.ofNat w) (Int32.ofNat a) (Int32.ofNat pre.length) (b01 b) = some (enc (amg tp p (tkE tp L p) rest w (a + 1) b), g) := fun b => by
      unfold D_X5_among_75 D_X5_among_109
      rw [Option.bind_some, Option.bind_some, nxt', show Int32.ofNat a + 1 = Int32.ofNat (a + 1) from sc_add a 1]
      exact ih (pre ++ [c]) w (a + 1) b f hp' (by omega) (by omega)
    show _ = some (enc (if c = 32 then (if s = true ∧ a = tkE tp L p then some w else amg tp p (tkE tp L p) rest (w + 1) p true) else amg tp p (tkE tp L p) rest w (a + 1) (s && (decide (a < tkE tp L p) && decide (tp a = c)))), g)
    by_cases b : c = 32
    · rw [if_pos (show Int32.ofNat c = 32 by rw [b]; rfl), if_pos b]
      cases s with
      | false =>
        rw [if_pos (show b01 false = 0 from rfl), if_neg (by simp)]
        exact s98 true
      | true =>
        rw [if_neg (show ¬ b01 true = 0 by decide), r6, Option.bind_some]
        by_cases q : a = tkE tp L p
        · rw [if_pos (by rw [q]), if_pos ⟨rfl, q⟩]; rfl
        · rw [if_neg (fun z => q ((eq_lit (by omega) (by omega)).mp z)), if_neg (fun z => q z.2)]
          exact s98 true
    · rw [if_neg (show ¬ Int32.ofNat c = 32 from fun z => b ((eq_lit (b := 32) (by omega) (by decide)).mp z)), if_neg b]
      cases s with
      | false =>
        rw [if_pos (show b01 false = 0 from rfl), Bool.false_and]
        exact s75 false
      | true =>
        rw [if_neg (show ¬ b01 true = 0 by decide), r6, Option.bind_some, Bool.true_and]
        by_cases q : a < tkE tp L p
        · obtain ⟨et, bt⟩ := t.2.2 a (by omega)
          rw [if_neg (fun z => by have := (nat_le (by omega) (by omega)).mp z; omega), q0, Option.bind_some, aR hs (n := 400) rfl (by omega) (by decide), et, Option.bind_some, ca, Option.bind_some]
          dsimp only
          by_cases u : tp a = c
          · rw [if_pos (by rw [u]), decide_eq_true q, decide_eq_true u]
            exact s75 true
          · rw [if_neg (fun z => u ((eq_lit (by omega) (by omega)).mp z)), decide_eq_true q, decide_eq_false u]
            exact s75 false
        · rw [if_pos ((nat_le (by omega) (by omega)).mpr (by omega)), decide_eq_false q]
          exact s75 false
def wsIdx (tp : Nat → Nat) (L p : Nat) (ws : List (List Nat)) : Option Nat := if tkK tp L p = 0 then fnd tp p (tkE tp L p) ws 0 else none
theorem tkK_b : tkK tp L p ≤ 3 := by
  unfold tkK kdN
  split
  · split
    · omega
    · split <;> omega
  · omega
theorem c_among {x : Nat} {ws : List (List Nat)} (hx : 4 ≤ x ∧ x < 15) (hw : ws ≠ []) (h32 : ∀ w ∈ ws, ∀ c ∈ w, c ≠ 32) (hl : z_len.getD (x - 4) 0 = (jnW ws).length) (hb : z_byt.getD (x - 4) [] = (jnW ws).map Int32.ofNat) (hc : ∀ c ∈ jnW ws, c ≤ 255) (hn : (jnW ws).length ≤ 100) (hs : Sh g) (t : TpC tp L g) (k : TokC tp L g p) : D_X5_among g (some 23) x = some (enc (wsIdx tp L p ws), g) := by
  have hL := t.1
  have kb := tkK_b (tp := tp) (L := L) (p := p)
  unfold D_X5_among wsIdx
  rw [s_gI hs (ci := 5) rfl rfl, Option.bind_some, k.2.2.2.1]
  by_cases c : tkK tp L p = 0
  · rw [if_pos (show Int32.ofNat (tkK tp L p) = 0 by rw [c]; rfl), if_pos c, s_gI hs (ci := 5) rfl rfl, Option.bind_some, k.2.1, ← amg_jnW ws 0 hw h32]
    exact c_among22 hx hl hb hc hn hs t k (jnW ws) [] 0 p true z_F rfl (by show _ < 1000000; omega) (by have := k.1; omega)
  · rw [if_neg (show ¬ Int32.ofNat (tkK tp L p) = 0 from fun z => c ((eq_lit (b := 0) (by omega) (by decide)).mp z)), if_neg c]
    rfl
def isW (tp : Nat → Nat) (L p : Nat) (w : List Nat) : Bool := decide (tkK tp L p = 0) && tis tp p (tkE tp L p) w
theorem c_isW {x : Nat} {w : List Nat} (hx : 4 ≤ x ∧ x < 15) (h32 : ∀ c ∈ w, c ≠ 32) (hl : z_len.getD (x - 4) 0 = w.length) (hb : z_byt.getD (x - 4) [] = w.map Int32.ofNat) (hc : ∀ c ∈ w, c ≤ 255) (hn : w.length ≤ 100) (hs : Sh g) (t : TpC tp L g) (k : TokC tp L g p) : D_X5_isWord g (some 23) x = some (b01 (isW tp L p w), g) := by
  unfold D_X5_isWord
  rw [s_ob hs (ci := 5) rfl, Option.bind_some, c_among (ws := [w]) hx (by simp) (by simpa using h32) hl hb hc hn hs t k, Option.bind_some]
  dsimp only
  unfold wsIdx isW fnd fnd
  by_cases c : tkK tp L p = 0
  · rw [if_pos c, decide_eq_true c, Bool.true_and]
    cases tis tp p (tkE tp L p) w
    · rfl
    · rfl
  · rw [if_neg c, decide_eq_false c, Bool.false_and, if_neg (by decide)]; rfl
/-! the reference's numbers of words -/
def hR : List Nat → Nat
  | [] => 0
  | c :: r => hR r * 32 + c - 96
def mtR (tp : Nat → Nat) (p : Nat) : List Nat → Prop
  | [] => True
  | c :: r => tp (p + r.length) = c ∧ mtR tp p r
theorem mt_app : ∀ (w v : List Nat) (a : Nat), mt tp e a (w ++ v) = (mt tp e a w && mt tp e (a + w.length) v) := by
  intro w
  induction w with
  | nil => intro v a; simp [mt]
  | cons c w ih =>
    intro v a
    show ((decide (a < e) && decide (tp a = c)) && mt tp e (a + 1) (w ++ v)) = (((decide (a < e) && decide (tp a = c)) && mt tp e (a + 1) w) && mt tp e (a + (w.length + 1)) v)
    rw [ih, Bool.and_assoc, show a + 1 + w.length = a + (w.length + 1) by omega]
    simp [Bool.and_assoc]
theorem mt_rev : ∀ r : List Nat, p ≤ e → (mt tp e p r.reverse = true ↔ p + r.length ≤ e ∧ mtR tp p r) := by
  intro r hpe
  induction r with
  | nil => simp [mt, mtR, hpe]
  | cons c r ih =>
    rw [List.reverse_cons, mt_app, Bool.and_eq_true, ih]
    show (p + r.length ≤ e ∧ mtR tp p r) ∧ ((decide (p + r.reverse.length < e) && decide (tp (p + r.reverse.length) = c)) && true) = true ↔ p + (r.length + 1) ≤ e ∧ tp (p + r.length) = c ∧ mtR tp p r
    rw [List.length_reverse]
    simp only [Bool.and_true, Bool.and_eq_true, decide_eq_true_eq]
    constructor
    · rintro ⟨⟨h1, h2⟩, h3, h4⟩; exact ⟨by omega, h4, h2⟩
    · rintro ⟨h1, h2, h3⟩; exact ⟨⟨by omega, h3⟩, by omega, h2⟩
theorem tis_iff {w : List Nat} (hpe : p ≤ e) : tis tp p e w = true ↔ e = p + w.length ∧ mtR tp p w.reverse := by
  unfold tis
  have := mt_rev (tp := tp) (p := p) (e := e) w.reverse hpe
  rw [List.reverse_reverse, List.length_reverse] at this
  rw [Bool.and_eq_true, this, decide_eq_true_eq]
  constructor
  · rintro ⟨⟨_, h⟩, h2⟩; exact ⟨h2.symm, h⟩
  · rintro ⟨h1, h2⟩; exact ⟨⟨by omega, h2⟩, h1.symm⟩
theorem hV_iff : ∀ (r : List Nat) (n : Nat), (∀ c ∈ r, 97 ≤ c ∧ c ≤ 122) → (∀ j, j < n → 97 ≤ tp (p + j) ∧ tp (p + j) ≤ 122) → (hV tp p n = hR r ↔ n = r.length ∧ mtR tp p r) := by
  intro r
  induction r with
  | nil =>
    intro n _ ht
    cases n with
    | zero => simp [hV, hR, mtR]
    | succ n =>
      have := ht n (by omega)
      show hV tp p n * 32 + tp (p + n) - 96 = 0 ↔ n + 1 = 0 ∧ True
      constructor
      · intro z; omega
      · rintro ⟨z, _⟩; omega
  | cons c r ih =>
    intro n hc ht
    have c0 := hc c (by simp)
    cases n with
    | zero =>
      show 0 = hR r * 32 + c - 96 ↔ 0 = r.length + 1 ∧ _
      constructor
      · intro z; omega
      · rintro ⟨z, _⟩; omega
    | succ n =>
      have t0 := ht n (by omega)
      have := ih n (fun d hd => hc d (by simp [hd])) (fun j hj => ht j (by omega))
      show hV tp p n * 32 + tp (p + n) - 96 = hR r * 32 + c - 96 ↔ n + 1 = r.length + 1 ∧ tp (p + r.length) = c ∧ mtR tp p r
      constructor
      · intro z
        have h1 : hV tp p n = hR r := by omega
        obtain ⟨h2, h3⟩ := this.mp h1
        refine ⟨by omega, ?_, h3⟩
        rw [← h2]; omega
      · rintro ⟨h1, h2, h3⟩
        have h4 := this.mpr ⟨by omega, h3⟩
        have h5 : n = r.length := by omega
        rw [← h5] at h2
        omega
theorem mtR_one : ∀ (r r' : List Nat), r.length = r'.length → mtR tp p r → mtR tp p r' → r = r' := by
  intro r
  induction r with
  | nil => intro r' h _ _; cases r' with
    | nil => rfl
    | cons _ _ => simp at h
  | cons c r ih =>
    intro r' h h1 h2
    cases r' with
    | nil => simp at h
    | cons c' r' =>
      have hl : r.length = r'.length := by simpa using h
      have := ih r' hl h1.2 h2.2
      have a := h1.1
      have b := h2.1
      rw [hl] at a
      rw [this, ← a, ← b]
theorem tis_one {w w' : List Nat} (hpe : p ≤ e) (h1 : tis tp p e w = true) (h2 : tis tp p e w' = true) : w = w' := by
  obtain ⟨a1, b1⟩ := (tis_iff hpe).mp h1
  obtain ⟨a2, b2⟩ := (tis_iff hpe).mp h2
  have := mtR_one w.reverse w'.reverse (by rw [List.length_reverse, List.length_reverse]; omega) b1 b2
  exact List.reverse_inj.mp this
theorem tkE_let (h : tkK tp L p = 0) : ∀ j, p ≤ j → j < tkE tp L p → 97 ≤ tp j ∧ tp j ≤ 122 := by
  intro j h1 h2
  have hp : p < L := by
    unfold tkK at h
    by_cases c : p < L
    · exact c
    · rw [if_neg c] at h; omega
  have hk : kdN (tp p) = 0 := by unfold tkK at h; rw [if_pos hp] at h; exact h
  by_cases q : j = p
  · rw [q]; exact kd_let hk
  · unfold tkE at h2
    rw [if_pos hp, if_neg (by omega)] at h2
    have := sca_all (P := fun j => decide (kdN (tp j) = kdN (tp p))) (L := L) _ (p + 1) rfl j (by omega) (by omega)
    exact kd_let ((of_decide_eq_true this).trans hk)
theorem word_iff {w : List Nat} (hp : p ≤ L) (hk : tkK tp L p = 0) (hw : ∀ c ∈ w, 97 ≤ c ∧ c ≤ 122) (hl : w.length ≤ 10) : hW tp p (tkE tp L p - p) = Int64.ofNat (hR w.reverse) ↔ tis tp p (tkE tp L p) w = true := by
  have eb := tkE_b (tp := tp) hp
  have le := tkE_let hk
  have b2 : hR w.reverse < 2 ^ 63 := by
    have : ∀ r : List Nat, (∀ c ∈ r, 97 ≤ c ∧ c ≤ 122) → hR r < 32 ^ r.length := by
      intro r
      induction r with
      | nil => intro _; decide
      | cons c r ih =>
        intro h
        have h1 := ih (fun d hd => h d (by simp [hd]))
        have h2 := h c (by simp)
        show hR r * 32 + c - 96 < 32 ^ (r.length + 1)
        rw [Nat.pow_succ]; omega
    have h1 := this w.reverse (by simpa using hw)
    rw [List.length_reverse] at h1
    have h2 : 32 ^ w.length ≤ 32 ^ 10 := Nat.pow_le_pow_right (by decide) hl
    omega
  rw [tis_iff eb.1]
  unfold hW
  by_cases c : tkE tp L p - p ≤ 10
  · rw [if_pos c]
    have h1 := hV_lt (tp := tp) p (tkE tp L p - p) (fun j hj => (le (p + j) (by omega) (by omega)).2)
    have h2 : 32 ^ (tkE tp L p - p) ≤ 32 ^ 10 := Nat.pow_le_pow_right (by decide) c
    have hi := hV_iff (tp := tp) (p := p) w.reverse (tkE tp L p - p) (by simpa using hw) (fun j hj => le (p + j) (by omega) (by omega))
    rw [List.length_reverse] at hi
    constructor
    · intro z
      have z2 := congrArg Int64.toInt z
      rw [J_int (by omega), J_int b2] at z2
      obtain ⟨a, b⟩ := hi.mp (by omega)
      exact ⟨by omega, b⟩
    · rintro ⟨a, b⟩
      rw [hi.mpr ⟨by omega, b⟩]
  · rw [if_neg c]
    constructor
    · intro z
      have z2 := congrArg Int64.toInt z
      rw [J_int b2] at z2
      have : (-1 : Int) = _ := z2
      omega
    · rintro ⟨a, _⟩; omega
theorem m_isW {w : List Nat} (hw : ∀ c ∈ w, 97 ≤ c ∧ c ≤ 122) (hl : w.length ≤ 10) {x : Int64} (hx : x = Int64.ofNat (hR w.reverse)) (hs : Sh g) (k : TokM tp L g p) : D_X11_isWord g (some 81) x = some (b01 (isW tp L p w), g) := by
  have kb := tkK_b (tp := tp) (L := L) (p := p)
  unfold D_X11_isWord isW
  rw [s_gI hs (ci := 11) rfl rfl, Option.bind_some, k.2.2.2.1]
  by_cases c : tkK tp L p = 0
  · rw [if_pos (show Int32.ofNat (srtN (tkK tp L p)) = 1 by rw [c]; rfl), s_gJ hs (ci := 11) rfl rfl, Option.bind_some, k.2.2.2.2, decide_eq_true c, Bool.true_and]
    have wi := word_iff (tp := tp) (L := L) (p := p) (w := w) k.1 c hw hl
    have ew : wrt tp L p = hW tp p (tkE tp L p - p) := by unfold wrt; rw [if_pos c]
    rw [← hx] at wi
    by_cases q : tis tp p (tkE tp L p) w = true
    · rw [if_pos ((lg_zero _ _).mpr (ew.trans (wi.mpr q))), q]; rfl
    · rw [if_neg (fun z => q (wi.mp (ew.symm.trans ((lg_zero _ _).mp z)))), Bool.eq_false_iff.mpr q]; rfl
  · have : ¬ Int32.ofNat (srtN (tkK tp L p)) = 1 := fun z => by
      have := (eq_lit (b := 1) (by unfold srtN; split <;> omega) (by decide)).mp z
      unfold srtN at this
      split at this <;> omega
    rw [if_neg this, decide_eq_false c, Bool.false_and]; rfl
def isSg (tp : Nat → Nat) (L p c : Nat) : Bool := decide (tkK tp L p = 2) && decide (tp p = c)
theorem tk_lt (h : tkK tp L p < 3) : p < L := by
  unfold tkK at h
  by_cases c : p < L
  · exact c
  · rw [if_neg c] at h; omega
theorem c_isSg {c : Nat} (hc : c ≤ 255) (hs : Sh g) (t : TpC tp L g) (k : TokC tp L g p) : D_X5_isSign g (some 23) (Int32.ofNat c) = some (b01 (isSg tp L p c), g) := by
  have hL := t.1
  have kb := tkK_b (tp := tp) (L := L) (p := p)
  unfold D_X5_isSign isSg
  rw [s_gI hs (ci := 5) rfl rfl, Option.bind_some, k.2.2.2.1]
  by_cases q : tkK tp L p = 2
  · have pl := tk_lt (tp := tp) (L := L) (p := p) (by omega)
    obtain ⟨et, bt⟩ := t.2.2 p (by omega)
    rw [if_pos (show Int32.ofNat (tkK tp L p) = 2 by rw [q]; rfl), s_gQ (r := 24) hs rfl rfl, Option.bind_some, s_gI hs (ci := 5) rfl rfl, Option.bind_some, k.2.1, aR hs (n := 400) rfl (by omega) (by decide), et, Option.bind_some, decide_eq_true q, Bool.true_and]
    by_cases u : tp p = c
    · rw [if_pos (by rw [u]), decide_eq_true u]; rfl
    · rw [if_neg (fun z => u ((eq_lit (by omega) (by omega)).mp z)), decide_eq_false u]; rfl
  · rw [if_neg (show ¬ Int32.ofNat (tkK tp L p) = 2 from fun z => q ((eq_lit (b := 2) (by omega) (by decide)).mp z)), decide_eq_false q, Bool.false_and]; rfl
theorem m_isSg {c : Nat} (hc : c ≤ 255) (hs : Sh g) (t : TpM tp L g) (k : TokM tp L g p) : D_X11_isSign g (some 81) (Int32.ofNat c) = some (b01 (isSg tp L p c), g) := by
  have hL := t.1
  have kb := tkK_b (tp := tp) (L := L) (p := p)
  unfold D_X11_isSign isSg
  rw [s_gI hs (ci := 11) rfl rfl, Option.bind_some, k.2.2.2.1]
  by_cases q : tkK tp L p = 2
  · have pl := tk_lt (tp := tp) (L := L) (p := p) (by omega)
    obtain ⟨et, bt⟩ := t.2.2 p (by omega)
    have ew : wrt tp L p = Int64.ofNat (tp p) := by unfold wrt; rw [if_neg (by omega), if_neg (by omega), if_pos q]
    rw [if_pos (show Int32.ofNat (srtN (tkK tp L p)) = 3 by rw [q]; rfl), s_gJ hs (ci := 11) rfl rfl, Option.bind_some, k.2.2.2.2, ew, J_of32 (by omega), decide_eq_true q, Bool.true_and]
    by_cases u : tp p = c
    · rw [if_pos ((lg_zero _ _).mpr (by rw [u])), decide_eq_true u]; rfl
    · rw [if_neg (fun z => u (by
        have z2 := congrArg Int64.toInt ((lg_zero _ _).mp z)
        rw [J_int (by omega), J_int (by omega)] at z2
        omega)), decide_eq_false u]; rfl
  · have : ¬ Int32.ofNat (srtN (tkK tp L p)) = 3 := fun z => by
      have := (eq_lit (b := 3) (by unfold srtN; split <;> omega) (by decide)).mp z
      unfold srtN at this
      split at this <;> omega
    rw [if_neg this, decide_eq_false q, Bool.false_and]; rfl
end WD
