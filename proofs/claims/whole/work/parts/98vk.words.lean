/-! texts: words of the reference against kinds of the class (by wip/whole/mk_98vk.py) -/
theorem z_M_isWord_0 (C : Nat → List Value → sm_M → sm_R) (n : Nat) (u : sm_M) (a0 : Nat) (l1 : Int64) : sm_run C c_M_isWord (n + 1) 0 [some (.ref a0), some (.long l1), none] [] u = if sm_tg u a0 = 112 then (if (sm_I u a0 9) = (nI 2) then (if sm_tg u a0 = 112 then (if (lg_cmp (sm_L u a0 11) l1) = 0 then (sm_run C c_M_isWord n 13 [some (.ref a0), some (.long l1), none] [.int (nI 1)] u) else (sm_run C c_M_isWord n 11 [some (.ref a0), some (.long l1), none] [] u)) else none) else (sm_run C c_M_isWord n 11 [some (.ref a0), some (.long l1), none] [] u)) else none := q_M_isWord_0 C n u a0 l1
theorem z_M_isWord_13 (C : Nat → List Value → sm_M → sm_R) (n : Nat) (u : sm_M) (a0 : Nat) (l1 : Int64) (s0 : Int32) : sm_run C c_M_isWord (n + 1) 13 [some (.ref a0), some (.long l1), none] [.int s0] u = if s0 = 0 ∨ s0 = 1 then some (some (.int s0), u) else none := q_M_isWord_13 C n u a0 l1 s0
theorem z_M_isWord_11 (C : Nat → List Value → sm_M → sm_R) (n : Nat) (u : sm_M) (a0 : Nat) (l1 : Int64) : sm_run C c_M_isWord (n + 1) 11 [some (.ref a0), some (.long l1), none] [] u = sm_run C c_M_isWord n 13 [some (.ref a0), some (.long l1), none] [.int (nI 0)] u := q_M_isWord_11 C n u a0 l1
theorem z_M_w5_0 (C : Nat → List Value → sm_M → sm_R) (n : Nat) (u : sm_M) (v0 v1 v2 v3 v4 : Int32) : sm_run C c_M_w5 (n + 1) 0 [some (.int v0), some (.int v1), some (.int v2), some (.int v3), some (.int v4)] [] u = sm_rl (C 228 [.int v0, .int v1, .int v2, .int v3] u) (fun x2 u1 => some (some (.long ((x2 <<< (Int32.toInt64 (nI 8) &&& 63)) ||| (Int32.toInt64 v4))), u1)) := q_M_w5_0 C n u v0 v1 v2 v3 v4
theorem z_M_w4_0 (C : Nat → List Value → sm_M → sm_R) (n : Nat) (u : sm_M) (v0 v1 v2 v3 : Int32) : sm_run C c_M_w4 (n + 1) 0 [some (.int v0), some (.int v1), some (.int v2), some (.int v3)] [] u = sm_rl (C 227 [.int v0, .int v1, .int v2] u) (fun x2 u1 => some (some (.long ((x2 <<< (Int32.toInt64 (nI 8) &&& 63)) ||| (Int32.toInt64 v3))), u1)) := q_M_w4_0 C n u v0 v1 v2 v3
theorem z_M_w3_0 (C : Nat → List Value → sm_M → sm_R) (n : Nat) (u : sm_M) (v0 v1 v2 : Int32) : sm_run C c_M_w3 (n + 1) 0 [some (.int v0), some (.int v1), some (.int v2)] [] u = sm_rl (C 226 [.int v0, .int v1] u) (fun x2 u1 => some (some (.long ((x2 <<< (Int32.toInt64 (nI 8) &&& 63)) ||| (Int32.toInt64 v2))), u1)) := q_M_w3_0 C n u v0 v1 v2
theorem z_M_w2_0 (C : Nat → List Value → sm_M → sm_R) (n : Nat) (u : sm_M) (v0 v1 : Int32) : sm_run C c_M_w2 (n + 1) 0 [some (.int v0), some (.int v1)] [] u = some (some (.long (((Int32.toInt64 v0) <<< (Int32.toInt64 (nI 8) &&& 63)) ||| (Int32.toInt64 v1))), u) := q_M_w2_0 C n u v0 v1
theorem z_M_w6_0 (C : Nat → List Value → sm_M → sm_R) (n : Nat) (u : sm_M) (v0 v1 v2 v3 v4 v5 : Int32) : sm_run C c_M_w6 (n + 1) 0 [some (.int v0), some (.int v1), some (.int v2), some (.int v3), some (.int v4), some (.int v5)] [] u = sm_rl (C 229 [.int v0, .int v1, .int v2, .int v3, .int v4] u) (fun x2 u1 => some (some (.long ((x2 <<< (Int32.toInt64 (nI 8) &&& 63)) ||| (Int32.toInt64 v5))), u1)) := q_M_w6_0 C n u v0 v1 v2 v3 v4 v5
def pk (l : List Nat) : Nat := l.foldl (fun a c => a * 256 + c) 0
def bl (b : Nat → Nat) : Nat → Nat → List Nat
  | 0, _ => []
  | k + 1, i => b i :: bl b k (i + 1)
theorem bl_len (b : Nat → Nat) : ∀ k i, (bl b k i).length = k
  | 0, _ => rfl
  | k + 1, i => by unfold bl; rw [List.length_cons, bl_len b k]
theorem spc_bl {b : Nat → Nat} : ∀ (l : List Nat) (i : Nat), spc b i l = true ↔ bl b l.length i = l
  | [], _ => ⟨fun _ => rfl, fun _ => rfl⟩
  | c :: l, i => by
    unfold spc
    rw [List.length_cons]
    unfold bl
    rw [Bool.and_eq_true, decide_eq_true_eq, spc_bl l (i + 1), List.cons.injEq]
theorem spl_bl {b : Nat → Nat} {i j w : Nat} (h : i ≤ j) : spl b i j w = true ↔ bl b (j - i) i = sm_tx w := by
  unfold spl
  rw [Bool.and_eq_true, decide_eq_true_eq, spc_bl]
  constructor
  · rintro ⟨h1, h2⟩
    rw [show j - i = (sm_tx w).length by omega]
    exact h2
  · intro h1
    have hl := congrArg List.length h1
    rw [bl_len] at hl
    exact ⟨by omega, by rw [← hl]; exact h1⟩
theorem pk_a (l : List Nat) (c : Nat) : pk (l ++ [c]) = pk l * 256 + c := by
  unfold pk
  rw [List.foldl_append]
  rfl
def ltr (l : List Nat) : Prop := ∀ c, c ∈ l → 65 ≤ c ∧ c ≤ 122
theorem pk_pos {l : List Nat} (h : ltr l) : pk l = 0 ↔ l = [] := by
  rcases List.eq_nil_or_concat l with e | ⟨r, c, e⟩
  · rw [e]; exact ⟨fun _ => rfl, fun _ => rfl⟩
  · rw [List.concat_eq_append] at e
    rw [e, pk_a]
    have := h c (by rw [e]; simp)
    exact ⟨fun z => by omega, fun z => by simp at z⟩
theorem pk_inj : ∀ (k : Nat) (a c : List Nat), a.length ≤ k → ltr a → ltr c → pk a = pk c → a = c := by
  intro k
  induction k with
  | zero =>
    intro a c hk ha hc h
    have ea : a = [] := List.eq_nil_of_length_eq_zero (by omega)
    subst ea
    exact ((pk_pos hc).mp h.symm).symm
  | succ k ih =>
    intro a c hk ha hc h
    rcases List.eq_nil_or_concat a with e | ⟨r, x, e⟩
    · rw [e] at h ⊢
      exact ((pk_pos hc).mp h.symm).symm
    · rw [List.concat_eq_append] at e
      rcases List.eq_nil_or_concat c with e2 | ⟨r2, x2, e2⟩
      · rw [e2] at h ⊢
        exact (pk_pos ha).mp h
      · rw [List.concat_eq_append] at e2
        rw [e, e2, pk_a, pk_a] at h
        have hx := ha x (by rw [e]; simp)
        have hx2 := hc x2 (by rw [e2]; simp)
        have e3 : x = x2 := by omega
        have e4 : pk r = pk r2 := by omega
        have := ih r r2 (by rw [e, List.length_append] at hk; simp at hk; omega) (fun y hy => ha y (by rw [e]; simp [hy])) (fun y hy => hc y (by rw [e2]; simp [hy])) e4
        rw [e, e2, this, e3]
theorem pkw_lt : ∀ (k : Nat) (a : List Nat), a.length ≤ k → ltr a → pk a < 256 ^ k
  | 0, a, h, _ => by
    have ea : a = [] := List.eq_nil_of_length_eq_zero (by omega)
    rw [ea]
    decide
  | k + 1, a, h, ha => by
    rcases List.eq_nil_or_concat a with e | ⟨r, x, e⟩
    · rw [e]
      exact Nat.pow_pos (by decide)
    · rw [List.concat_eq_append] at e
      have hx := ha x (by rw [e]; simp)
      have := pkw_lt k r (by rw [e, List.length_append] at h; simp at h; omega) (fun y hy => ha y (by rw [e]; simp [hy]))
      rw [e, pk_a, Nat.pow_succ]
      omega
theorem bl_a (b : Nat → Nat) : ∀ k i, bl b (k + 1) i = bl b k i ++ [b (i + k)]
  | 0, i => rfl
  | k + 1, i => by
    show b i :: bl b (k + 1) (i + 1) = (b i :: bl b k (i + 1)) ++ [b (i + (k + 1))]
    rw [bl_a b k (i + 1), show i + 1 + k = i + (k + 1) by omega]
    rfl
/-- the reference's word: packed, or too long -/
theorem wvf_v {b : Nat → Nat} {i : Nat} : ∀ k m, (∀ j, i ≤ j → j < i + m + k → 65 ≤ b j ∧ b j ≤ 122) → wvf b k (i + m) (if m ≤ 7 then pk (bl b m i) else 2 ^ 60) = if m + k ≤ 7 then pk (bl b (m + k) i) else 2 ^ 60
  | 0, m, _ => rfl
  | k + 1, m, h => by
    have hlt : ltr (bl b m i) := by
      have : ∀ m i', (∀ j, i' ≤ j → j < i' + m → 65 ≤ b j ∧ b j ≤ 122) → ltr (bl b m i') := by
        intro m
        induction m with
        | zero => intro i' _ c hc; cases hc
        | succ m ih =>
          intro i' hj c hc
          cases hc with
          | head => exact hj i' (Nat.le_refl _) (by omega)
          | tail _ hc => exact ih (i' + 1) (fun j h1 h2 => hj j (by omega) (by omega)) c hc
      exact this m i (fun j h1 h2 => h j h1 (by omega))
    rw [wvf_s]
    have ih := wvf_v (b := b) (i := i) k (m + 1) (fun j h1 h2 => h j h1 (by omega))
    rw [show m + 1 + k = m + (k + 1) by omega] at ih
    rw [← ih, show i + m + 1 = i + (m + 1) by omega]
    congr 1
    have hb := h (i + m) (by omega) (by omega)
    by_cases q : m ≤ 7
    · rw [if_pos q]
      by_cases q6 : m ≤ 6
      · have := pkw_lt 6 (bl b m i) (by rw [bl_len]; exact q6) hlt
        rw [if_pos (show pk (bl b m i) / 2 ^ 48 = 0 from Nat.div_eq_of_lt (by omega)), if_pos (show m + 1 ≤ 7 by omega), bl_a, pk_a]
      · have e7 : m = 7 := by omega
        subst e7
        have hge : 65 * 256 ^ 6 ≤ pk (bl b 7 i) := by
          show 65 * 256 ^ 6 ≤ pk [b i, b (i + 1), b (i + 1 + 1), b (i + 1 + 1 + 1), b (i + 1 + 1 + 1 + 1), b (i + 1 + 1 + 1 + 1 + 1), b (i + 1 + 1 + 1 + 1 + 1 + 1)]
          have h0 := h i (by omega) (by omega)
          unfold pk
          simp only [List.foldl_cons, List.foldl_nil]
          omega
        rw [if_neg (show ¬ pk (bl b 7 i) / 2 ^ 48 = 0 from fun z => by have := Nat.div_pos (show 2 ^ 48 ≤ pk (bl b 7 i) by omega) (by decide); omega), if_neg (show ¬ 7 + 1 ≤ 7 by omega)]
    · rw [if_neg q, if_neg (show ¬ 2 ^ 60 / 2 ^ 48 = 0 by decide), if_neg (show ¬ m + 1 ≤ 7 by omega)]
theorem tx_lt : ∀ w, w < 22 → ∀ c, c ∈ sm_tx w → 65 ≤ c ∧ c ≤ 122 := by decide
theorem tx_dist : ∀ w, w < 22 → ∀ v, v < 22 → sm_tx w = sm_tx v → w = v := by decide
theorem wvv_eq {b : Nat → Nat} {n s w : Nat} (hs : s < n) (hl : isL (b s) = true) (hw : w < 22) : wvv b n s = pk (sm_tx w) ↔ spl b s (enp b n s) w = true := by
  have he := enp_b (b := b) hs
  have hlt : ∀ j, s ≤ j → j < enp b n s → 65 ≤ b j ∧ b j ≤ 122 := fun j h1 h2 => by
    have := run_L hs hl j h1 h2
    unfold isL at this
    simp at this
    omega
  have e := wvf_v (b := b) (i := s) (enp b n s - s) 0 (fun j h1 h2 => hlt j h1 (by omega))
  rw [Nat.zero_add, Nat.add_zero] at e
  have e : wvv b n s = if enp b n s - s ≤ 7 then pk (bl b (enp b n s - s) s) else 2 ^ 60 := e
  have hwl := tx_len w hw
  have hlb : ltr (bl b (enp b n s - s) s) := by
    have : ∀ m i', (∀ j, i' ≤ j → j < i' + m → 65 ≤ b j ∧ b j ≤ 122) → ltr (bl b m i') := by
      intro m
      induction m with
      | zero => intro i' _ c hc; cases hc
      | succ m ih =>
        intro i' hj c hc
        cases hc with
        | head => exact hj i' (Nat.le_refl _) (by omega)
        | tail _ hc => exact ih (i' + 1) (fun j h1 h2 => hj j (by omega) (by omega)) c hc
    exact this _ s (fun j h1 h2 => hlt j h1 (by omega))
  have hlw : ltr (sm_tx w) := tx_lt w hw
  have hpw := pkw_lt 6 (sm_tx w) hwl.2 hlw
  rw [spl_bl (by omega), e]
  by_cases q : enp b n s - s ≤ 7
  · rw [if_pos q]
    exact ⟨fun z => pk_inj 7 _ _ (by rw [bl_len]; exact q) hlb hlw z, fun z => by rw [z]⟩
  · rw [if_neg q]
    constructor
    · intro z; exfalso; omega
    · intro z
      have := congrArg List.length z
      rw [bl_len] at this
      omega
theorem wvv_lt {b : Nat → Nat} {n s : Nat} (hs : s < n) (hl : isL (b s) = true) : wvv b n s < 2 ^ 61 := by
  have he := enp_b (b := b) hs
  have hlt : ∀ j, s ≤ j → j < enp b n s → 65 ≤ b j ∧ b j ≤ 122 := fun j h1 h2 => by
    have := run_L hs hl j h1 h2
    unfold isL at this
    simp at this
    omega
  have e := wvf_v (b := b) (i := s) (enp b n s - s) 0 (fun j h1 h2 => hlt j h1 (by omega))
  rw [Nat.zero_add, Nat.add_zero] at e
  have e : wvv b n s = if enp b n s - s ≤ 7 then pk (bl b (enp b n s - s) s) else 2 ^ 60 := e
  have hlb : ltr (bl b (enp b n s - s) s) := by
    have : ∀ m i', (∀ j, i' ≤ j → j < i' + m → 65 ≤ b j ∧ b j ≤ 122) → ltr (bl b m i') := by
      intro m
      induction m with
      | zero => intro i' _ c hc; cases hc
      | succ m ih =>
        intro i' hj c hc
        cases hc with
        | head => exact hj i' (Nat.le_refl _) (by omega)
        | tail _ hc => exact ih (i' + 1) (fun j h1 h2 => hj j (by omega) (by omega)) c hc
    exact this _ s (fun j h1 h2 => hlt j h1 (by omega))
  rw [e]
  by_cases q : enp b n s - s ≤ 7
  · rw [if_pos q]
    have := pkw_lt 7 _ (by rw [bl_len]; exact q) hlb
    omega
  · rw [if_neg q]
    decide
/-- a word's kind -/
theorem kd_w {b : Nat → Nat} {n s w : Nat} (hw : w < 22) : kdp b n s = 200 + w ↔ s < n ∧ isL (b s) = true ∧ spl b s (enp b n s) w = true := by
  rcases kd_c (b := b) (n := n) (s := s) with ⟨g1, h⟩ | ⟨g1, g2, h⟩ | ⟨g1, g2, g3, h⟩ | ⟨g1, g2, g3, h⟩
  · rw [h]; exact ⟨fun z => by omega, fun z => by omega⟩
  · rw [h]
    refine ⟨fun z => by omega, fun z => ?_⟩
    have := z.2.1
    unfold isL at this
    unfold isD at g2
    simp at this g2
    omega
  · rw [h]
    have he := enp_b (b := b) g1
    constructor
    · intro z
      rcases wkd_v (b := b) (i := s) (j := enp b n s) 22 0 with q | ⟨x, q1, q2, q3, q4⟩
      · rw [q] at z; omega
      · rw [q3] at z
        have : x = w := by omega
        rw [this] at q4
        exact ⟨g1, g3, q4⟩
    · rintro ⟨_, _, z⟩
      have key : ∀ k v, v ≤ w → w < v + k → v + k ≤ 22 → wkd b s (enp b n s) k v = 200 + w := by
        intro k
        induction k with
        | zero => intro v h1 h2; omega
        | succ k ih =>
          intro v h1 h2 h3
          show (if spl b s (enp b n s) v = true then 200 + v else wkd b s (enp b n s) k (v + 1)) = _
          by_cases q : spl b s (enp b n s) v = true
          · have := tx_dist v (by omega) w hw (((spl_bl (by omega)).mp q).symm.trans ((spl_bl (by omega)).mp z))
            rw [if_pos q, this]
          · rw [if_neg q]
            have hne : v ≠ w := fun e => q (by rw [e]; exact z)
            exact ih (v + 1) (by omega) (by omega) (by omega)
      exact key 22 0 (Nat.zero_le w) (by omega) (by omega)
  · rw [h]
    have := sg_b (c := b s) (z := enp b n s - s)
    refine ⟨fun z => by omega, fun z => ?_⟩
    rw [g3] at z
    cases z.2.1
/-- signs -/
theorem tk_kd {b : Nat → Nat} {n s : Nat} : (tkc b n s = 0 ↔ kdp b n s = 1) ∧ (tkc b n s = 1 ↔ kdp b n s = 2) ∧ (tkc b n s = 4 ↔ kdp b n s = 3) ∧ (tkc b n s = 5 ↔ kdp b n s = 4) ∧ (∀ c, 35 ≤ c → c ≤ 62 → (tkc b n s = c ↔ kdp b n s = c)) ∧ tkc b n s < 63 ∧ (tkc b n s = 2 ↔ s < n ∧ isL (b s) = true) := by
  unfold tkc
  rcases kd_c (b := b) (n := n) (s := s) with ⟨g1, h⟩ | ⟨g1, g2, h⟩ | ⟨g1, g2, g3, h⟩ | ⟨g1, g2, g3, h⟩
  · rw [h, if_pos g1]
    exact ⟨by omega, by omega, by omega, by omega, fun c h1 h2 => by omega, by omega, by omega⟩
  · have g4 : isL (b s) = false := by
      unfold isL
      unfold isD at g2
      simp at g2 ⊢
      omega
    rw [h, if_neg (show ¬ n ≤ s by omega), g2, g4, if_pos (show true = true from rfl)]
    exact ⟨by omega, by omega, by omega, by omega, fun c h1 h2 => by omega, by omega, ⟨fun z => by omega, fun z => by cases z.2⟩⟩
  · rw [h, if_neg (show ¬ n ≤ s by omega), g2, g3, if_neg (show ¬ false = true by simp), if_pos (show true = true from rfl)]
    have := wk_b (b := b) (i := s) (j := enp b n s)
    generalize wkd b s (enp b n s) 22 0 = W at *
    exact ⟨by omega, by omega, by omega, by omega, fun c h1 h2 => by omega, by omega, ⟨fun _ => ⟨g1, rfl⟩, fun _ => rfl⟩⟩
  · rw [h, if_neg (show ¬ n ≤ s by omega), g2, g3, if_neg (show ¬ false = true by simp), if_neg (show ¬ false = true by simp)]
    have := sg_b (c := b s) (z := enp b n s - s)
    generalize sgn (b s) (enp b n s - s) = G at *
    have hf : ¬ (s < n ∧ false = true) := fun z => by cases z.2
    by_cases q0 : G = 0
    · rw [if_pos q0]
      exact ⟨by omega, by omega, by omega, by omega, fun c h1 h2 => by omega, by omega, ⟨fun z => by omega, fun z => absurd z hf⟩⟩
    · rw [if_neg q0]
      by_cases q3 : G = 3
      · rw [if_pos q3]
        exact ⟨by omega, by omega, by omega, by omega, fun c h1 h2 => by omega, by omega, ⟨fun z => by omega, fun z => absurd z hf⟩⟩
      · rw [if_neg q3]
        by_cases q4 : G = 4
        · rw [if_pos q4]
          exact ⟨by omega, by omega, by omega, by omega, fun c h1 h2 => by omega, by omega, ⟨fun z => by omega, fun z => absurd z hf⟩⟩
        · rw [if_neg q4]
          exact ⟨by omega, by omega, by omega, by omega, fun c h1 h2 => by omega, by omega, ⟨fun z => by omega, fun z => absurd z hf⟩⟩
section
variable {u0 : sm_M} {b : Nat → Nat} {n t ev : Nat}
theorem m_isWord {D w : Nat} (hw : w < 22) {u : sm_M} {τ : Sr} (h : MS u0 b n t u τ) (f : Int32 → sm_M → sm_R) : sm_ri (sm_call (D + 1) 231 [.ref 275, .long (lN (pk (sm_tx w)))] u) f = f (if kdp b n τ.1 = 200 + w then 1 else 0) u := by
  have hT := h.2.2.1
  have e9 := hT.2.2.2.1
  have htk := tk_kd (b := b) (n := n) (s := τ.1)
  have hpw := pkw_lt 6 (sm_tx w) (tx_len w hw).2 (tx_lt w hw)
  have ek : sm_call (D + 1) 231 [.ref 275, .long (lN (pk (sm_tx w)))] u = sm_run (sm_call D) c_M_isWord 3000000 0 [some (.ref 275), some (.long (lN (pk (sm_tx w)))), none] [] u := sm_callE (nl := 3) rfl rfl rfl rfl
  have e2 : sm_call (D + 1) 231 [.ref 275, .long (lN (pk (sm_tx w)))] u = some (some (.int (if kdp b n τ.1 = 200 + w then 1 else 0)), u) := by
    rw [ek, z_M_isWord_0]
    simp -implicitDefEqProofs only [h.tg, e9, ↓reduceIte]
    by_cases q : τ.1 < n ∧ isL (b τ.1) = true
    · have e11 := hT.2.2.2.2.2 q.1 q.2
      have hvl := wvv_lt q.1 q.2
      rw [if_pos (show nI (tkc b n τ.1) = nI 2 by rw [htk.2.2.2.2.2.2.mpr q])]
      simp -implicitDefEqProofs only [e11, wl_eq hvl (show pk (sm_tx w) < 2 ^ 61 by omega)]
      have hq := wvv_eq (w := w) q.1 q.2 hw
      by_cases q2 : wvv b n τ.1 = pk (sm_tx w)
      · rw [if_pos q2, z_M_isWord_13, if_pos (show nI 1 = 0 ∨ nI 1 = 1 from Or.inr rfl), if_pos ((kd_w hw).mpr ⟨q.1, q.2, hq.mp q2⟩)]
        rfl
      · rw [if_neg q2, z_M_isWord_11, z_M_isWord_13, if_pos (show nI 0 = 0 ∨ nI 0 = 1 from Or.inl rfl), if_neg (fun z => q2 (hq.mpr ((kd_w hw).mp z).2.2))]
        rfl
    · rw [if_neg (show ¬ nI (tkc b n τ.1) = nI 2 from fun z => q (htk.2.2.2.2.2.2.mp ((nI_eq (by omega) (by omega)).mp z))), z_M_isWord_11, z_M_isWord_13, if_pos (show nI 0 = 0 ∨ nI 0 = 1 from Or.inl rfl), if_neg (fun z => q ⟨((kd_w hw).mp z).1, ((kd_w hw).mp z).2.1⟩)]
      rfl
  rw [e2]
  rfl
theorem kw_0 (d : Nat) (u : sm_M) (f : Int64 → sm_M → sm_R) : sm_rl (sm_call (d + 5) 229 [.int (nI 101), .int (nI 118), .int (nI 101), .int (nI 110), .int (nI 116)] u) f = f (lN (pk (sm_tx 0))) u := by
  have e : sm_call (d + 5) 229 [.int (nI 101), .int (nI 118), .int (nI 101), .int (nI 110), .int (nI 116)] u = some (some (.long (lN (pk (sm_tx 0)))), u) := by
    rw [k_M_w5, z_M_w5_0]
    rw [k_M_w4, z_M_w4_0]
    rw [k_M_w3, z_M_w3_0]
    rw [k_M_w2, z_M_w2_0]
    rfl
  rw [e]
  rfl
theorem kw_1 (d : Nat) (u : sm_M) (f : Int64 → sm_M → sm_R) : sm_rl (sm_call (d + 5) 227 [.int (nI 109), .int (nI 97), .int (nI 121)] u) f = f (lN (pk (sm_tx 1))) u := by
  have e : sm_call (d + 5) 227 [.int (nI 109), .int (nI 97), .int (nI 121)] u = some (some (.long (lN (pk (sm_tx 1)))), u) := by
    rw [k_M_w3, z_M_w3_0]
    rw [k_M_w2, z_M_w2_0]
    rfl
  rw [e]
  rfl
theorem kw_2 (d : Nat) (u : sm_M) (f : Int64 → sm_M → sm_R) : sm_rl (sm_call (d + 5) 230 [.int (nI 99), .int (nI 104), .int (nI 111), .int (nI 105), .int (nI 99), .int (nI 101)] u) f = f (lN (pk (sm_tx 2))) u := by
  have e : sm_call (d + 5) 230 [.int (nI 99), .int (nI 104), .int (nI 111), .int (nI 105), .int (nI 99), .int (nI 101)] u = some (some (.long (lN (pk (sm_tx 2)))), u) := by
    rw [k_M_w6, z_M_w6_0]
    rw [k_M_w5, z_M_w5_0]
    rw [k_M_w4, z_M_w4_0]
    rw [k_M_w3, z_M_w3_0]
    rw [k_M_w2, z_M_w2_0]
    rfl
  rw [e]
  rfl
theorem kw_3 (d : Nat) (u : sm_M) (f : Int64 → sm_M → sm_R) : sm_rl (sm_call (d + 5) 228 [.int (nI 111), .int (nI 100), .int (nI 100), .int (nI 115)] u) f = f (lN (pk (sm_tx 3))) u := by
  have e : sm_call (d + 5) 228 [.int (nI 111), .int (nI 100), .int (nI 100), .int (nI 115)] u = some (some (.long (lN (pk (sm_tx 3)))), u) := by
    rw [k_M_w4, z_M_w4_0]
    rw [k_M_w3, z_M_w3_0]
    rw [k_M_w2, z_M_w2_0]
    rfl
  rw [e]
  rfl
theorem kw_4 (d : Nat) (u : sm_M) (f : Int64 → sm_M → sm_R) : sm_rl (sm_call (d + 5) 228 [.int (nI 114), .int (nI 111), .int (nI 111), .int (nI 109)] u) f = f (lN (pk (sm_tx 4))) u := by
  have e : sm_call (d + 5) 228 [.int (nI 114), .int (nI 111), .int (nI 111), .int (nI 109)] u = some (some (.long (lN (pk (sm_tx 4)))), u) := by
    rw [k_M_w4, z_M_w4_0]
    rw [k_M_w3, z_M_w3_0]
    rw [k_M_w2, z_M_w2_0]
    rfl
  rw [e]
  rfl
theorem kw_5 (d : Nat) (u : sm_M) (f : Int64 → sm_M → sm_R) : sm_rl (sm_call (d + 5) 227 [.int (nI 102), .int (nI 111), .int (nI 114)] u) f = f (lN (pk (sm_tx 5))) u := by
  have e : sm_call (d + 5) 227 [.int (nI 102), .int (nI 111), .int (nI 114)] u = some (some (.long (lN (pk (sm_tx 5)))), u) := by
    rw [k_M_w3, z_M_w3_0]
    rw [k_M_w2, z_M_w2_0]
    rfl
  rw [e]
  rfl
theorem kw_6 (d : Nat) (u : sm_M) (f : Int64 → sm_M → sm_R) : sm_rl (sm_call (d + 5) 228 [.int (nI 116), .int (nI 117), .int (nI 114), .int (nI 110)] u) f = f (lN (pk (sm_tx 6))) u := by
  have e : sm_call (d + 5) 228 [.int (nI 116), .int (nI 117), .int (nI 114), .int (nI 110)] u = some (some (.long (lN (pk (sm_tx 6)))), u) := by
    rw [k_M_w4, z_M_w4_0]
    rw [k_M_w3, z_M_w3_0]
    rw [k_M_w2, z_M_w2_0]
    rfl
  rw [e]
  rfl
theorem kw_7 (d : Nat) (u : sm_M) (f : Int64 → sm_M → sm_R) : sm_rl (sm_call (d + 5) 227 [.int (nI 115), .int (nI 101), .int (nI 116)] u) f = f (lN (pk (sm_tx 7))) u := by
  have e : sm_call (d + 5) 227 [.int (nI 115), .int (nI 101), .int (nI 116)] u = some (some (.long (lN (pk (sm_tx 7)))), u) := by
    rw [k_M_w3, z_M_w3_0]
    rw [k_M_w2, z_M_w2_0]
    rfl
  rw [e]
  rfl
theorem kw_8 (d : Nat) (u : sm_M) (f : Int64 → sm_M → sm_R) : sm_rl (sm_call (d + 5) 226 [.int (nI 116), .int (nI 111)] u) f = f (lN (pk (sm_tx 8))) u := by
  have e : sm_call (d + 5) 226 [.int (nI 116), .int (nI 111)] u = some (some (.long (lN (pk (sm_tx 8)))), u) := by
    rw [k_M_w2, z_M_w2_0]
    rfl
  rw [e]
  rfl
theorem kw_9 (d : Nat) (u : sm_M) (f : Int64 → sm_M → sm_R) : sm_rl (sm_call (d + 5) 227 [.int (nI 112), .int (nI 117), .int (nI 116)] u) f = f (lN (pk (sm_tx 9))) u := by
  have e : sm_call (d + 5) 227 [.int (nI 112), .int (nI 117), .int (nI 116)] u = some (some (.long (lN (pk (sm_tx 9)))), u) := by
    rw [k_M_w3, z_M_w3_0]
    rw [k_M_w2, z_M_w2_0]
    rfl
  rw [e]
  rfl
theorem kw_10 (d : Nat) (u : sm_M) (f : Int64 → sm_M → sm_R) : sm_rl (sm_call (d + 5) 226 [.int (nI 105), .int (nI 110)] u) f = f (lN (pk (sm_tx 10))) u := by
  have e : sm_call (d + 5) 226 [.int (nI 105), .int (nI 110)] u = some (some (.long (lN (pk (sm_tx 10)))), u) := by
    rw [k_M_w2, z_M_w2_0]
    rfl
  rw [e]
  rfl
theorem kw_11 (d : Nat) (u : sm_M) (f : Int64 → sm_M → sm_R) : sm_rl (sm_call (d + 5) 228 [.int (nI 116), .int (nI 97), .int (nI 107), .int (nI 101)] u) f = f (lN (pk (sm_tx 11))) u := by
  have e : sm_call (d + 5) 228 [.int (nI 116), .int (nI 97), .int (nI 107), .int (nI 101)] u = some (some (.long (lN (pk (sm_tx 11)))), u) := by
    rw [k_M_w4, z_M_w4_0]
    rw [k_M_w3, z_M_w3_0]
    rw [k_M_w2, z_M_w2_0]
    rfl
  rw [e]
  rfl
theorem kw_12 (d : Nat) (u : sm_M) (f : Int64 → sm_M → sm_R) : sm_rl (sm_call (d + 5) 226 [.int (nI 115), .int (nI 111)] u) f = f (lN (pk (sm_tx 12))) u := by
  have e : sm_call (d + 5) 226 [.int (nI 115), .int (nI 111)] u = some (some (.long (lN (pk (sm_tx 12)))), u) := by
    rw [k_M_w2, z_M_w2_0]
    rfl
  rw [e]
  rfl
theorem kw_13 (d : Nat) (u : sm_M) (f : Int64 → sm_M → sm_R) : sm_rl (sm_call (d + 5) 226 [.int (nI 111), .int (nI 114)] u) f = f (lN (pk (sm_tx 13))) u := by
  have e : sm_call (d + 5) 226 [.int (nI 111), .int (nI 114)] u = some (some (.long (lN (pk (sm_tx 13)))), u) := by
    rw [k_M_w2, z_M_w2_0]
    rfl
  rw [e]
  rfl
theorem kw_14 (d : Nat) (u : sm_M) (f : Int64 → sm_M → sm_R) : sm_rl (sm_call (d + 5) 227 [.int (nI 97), .int (nI 110), .int (nI 100)] u) f = f (lN (pk (sm_tx 14))) u := by
  have e : sm_call (d + 5) 227 [.int (nI 97), .int (nI 110), .int (nI 100)] u = some (some (.long (lN (pk (sm_tx 14)))), u) := by
    rw [k_M_w3, z_M_w3_0]
    rw [k_M_w2, z_M_w2_0]
    rfl
  rw [e]
  rfl
theorem kw_15 (d : Nat) (u : sm_M) (f : Int64 → sm_M → sm_R) : sm_rl (sm_call (d + 5) 227 [.int (nI 110), .int (nI 111), .int (nI 116)] u) f = f (lN (pk (sm_tx 15))) u := by
  have e : sm_call (d + 5) 227 [.int (nI 110), .int (nI 111), .int (nI 116)] u = some (some (.long (lN (pk (sm_tx 15)))), u) := by
    rw [k_M_w3, z_M_w3_0]
    rw [k_M_w2, z_M_w2_0]
    rfl
  rw [e]
  rfl
theorem kw_16 (d : Nat) (u : sm_M) (f : Int64 → sm_M → sm_R) : sm_rl (sm_call (d + 5) 227 [.int (nI 119), .int (nI 97), .int (nI 115)] u) f = f (lN (pk (sm_tx 16))) u := by
  have e : sm_call (d + 5) 227 [.int (nI 119), .int (nI 97), .int (nI 115)] u = some (some (.long (lN (pk (sm_tx 16)))), u) := by
    rw [k_M_w3, z_M_w3_0]
    rw [k_M_w2, z_M_w2_0]
    rfl
  rw [e]
  rfl
theorem kw_17 (d : Nat) (u : sm_M) (f : Int64 → sm_M → sm_R) : sm_rl (sm_call (d + 5) 228 [.int (nI 99), .int (nI 97), .int (nI 109), .int (nI 101)] u) f = f (lN (pk (sm_tx 17))) u := by
  have e : sm_call (d + 5) 228 [.int (nI 99), .int (nI 97), .int (nI 109), .int (nI 101)] u = some (some (.long (lN (pk (sm_tx 17)))), u) := by
    rw [k_M_w4, z_M_w4_0]
    rw [k_M_w3, z_M_w3_0]
    rw [k_M_w2, z_M_w2_0]
    rfl
  rw [e]
  rfl
theorem kw_18 (d : Nat) (u : sm_M) (f : Int64 → sm_M → sm_R) : sm_rl (sm_call (d + 5) 229 [.int (nI 99), .int (nI 111), .int (nI 117), .int (nI 110), .int (nI 116)] u) f = f (lN (pk (sm_tx 18))) u := by
  have e : sm_call (d + 5) 229 [.int (nI 99), .int (nI 111), .int (nI 117), .int (nI 110), .int (nI 116)] u = some (some (.long (lN (pk (sm_tx 18)))), u) := by
    rw [k_M_w5, z_M_w5_0]
    rw [k_M_w4, z_M_w4_0]
    rw [k_M_w3, z_M_w3_0]
    rw [k_M_w2, z_M_w2_0]
    rfl
  rw [e]
  rfl
theorem kw_19 (d : Nat) (u : sm_M) (f : Int64 → sm_M → sm_R) : sm_rl (sm_call (d + 5) 227 [.int (nI 119), .int (nI 97), .int (nI 121)] u) f = f (lN (pk (sm_tx 19))) u := by
  have e : sm_call (d + 5) 227 [.int (nI 119), .int (nI 97), .int (nI 121)] u = some (some (.long (lN (pk (sm_tx 19)))), u) := by
    rw [k_M_w3, z_M_w3_0]
    rw [k_M_w2, z_M_w2_0]
    rfl
  rw [e]
  rfl
theorem kw_20 (d : Nat) (u : sm_M) (f : Int64 → sm_M → sm_R) : sm_rl (sm_call (d + 5) 228 [.int (nI 109), .int (nI 97), .int (nI 110), .int (nI 121)] u) f = f (lN (pk (sm_tx 20))) u := by
  have e : sm_call (d + 5) 228 [.int (nI 109), .int (nI 97), .int (nI 110), .int (nI 121)] u = some (some (.long (lN (pk (sm_tx 20)))), u) := by
    rw [k_M_w4, z_M_w4_0]
    rw [k_M_w3, z_M_w3_0]
    rw [k_M_w2, z_M_w2_0]
    rfl
  rw [e]
  rfl
theorem kw_21 (d : Nat) (u : sm_M) (f : Int64 → sm_M → sm_R) : sm_rl (sm_call (d + 5) 228 [.int (nI 100), .int (nI 111), .int (nI 110), .int (nI 101)] u) f = f (lN (pk (sm_tx 21))) u := by
  have e : sm_call (d + 5) 228 [.int (nI 100), .int (nI 111), .int (nI 110), .int (nI 101)] u = some (some (.long (lN (pk (sm_tx 21)))), u) := by
    rw [k_M_w4, z_M_w4_0]
    rw [k_M_w3, z_M_w3_0]
    rw [k_M_w2, z_M_w2_0]
    rfl
  rw [e]
  rfl
end
