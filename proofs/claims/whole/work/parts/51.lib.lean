/-! numbers, and the machine's own small steps -/
theorem nx_and (a b : Nat) : nI a &&& nI b = nI (a &&& b) := by
  apply Int32.toBitVec_inj.mp
  rw [Int32.toBitVec_and]
  show BitVec.ofNat 32 a &&& BitVec.ofNat 32 b = BitVec.ofNat 32 (a &&& b)
  apply BitVec.eq_of_getLsbD_eq
  intro i hi
  simp [hi, Nat.testBit_and]
theorem nx_or (a b : Nat) : nI a ||| nI b = nI (a ||| b) := by
  apply Int32.toBitVec_inj.mp
  rw [Int32.toBitVec_or]
  show BitVec.ofNat 32 a ||| BitVec.ofNat 32 b = BitVec.ofNat 32 (a ||| b)
  apply BitVec.eq_of_getLsbD_eq
  intro i hi
  simp [hi, Nat.testBit_or]
theorem nx_xor (a b : Nat) : nI a ^^^ nI b = nI (a ^^^ b) := by
  apply Int32.toBitVec_inj.mp
  rw [Int32.toBitVec_xor]
  show BitVec.ofNat 32 a ^^^ BitVec.ofNat 32 b = BitVec.ofNat 32 (a ^^^ b)
  apply BitVec.eq_of_getLsbD_eq
  intro i hi
  simp [hi, Nat.testBit_xor]
theorem s_l : ∀ n, n < 32 → ((nI n &&& 31).toBitVec.smod 32).toNat = n := by decide +kernel
theorem nx_shl {a k : Nat} (hk : k < 32) (h : a * 2 ^ k < 2 ^ 32) : nI a <<< (nI k &&& 31) = nI (a * 2 ^ k) := pk_shlN _ k (s_l k hk) h
theorem nx_shr {a k : Nat} (ha : a < 2 ^ 31) (hk : k < 32) : nI a >>> (nI k &&& 31) = nI (a / 2 ^ k) := pk_shrN ha _ k (s_l k hk)
theorem nx_bit {a k : Nat} (ha : a < 2 ^ 31) (hk : k < 32) : (nI a >>> (nI k &&& 31)) &&& nI 1 = nI (a / 2 ^ k % 2) := by
  rw [nx_shr ha hk, nx_and, Nat.and_one_is_mod]
theorem oi_n (n : Nat) : Int32.ofInt (n : Int) = nI n := rfl
theorem oi_m1 : Int32.ofInt (-1) = -1 := rfl
theorem oi_m2 : Int32.ofInt (-2) = -2 := rfl
theorem nI_m1 {n : Nat} (h : n < 2 ^ 31) : nI n ≠ -1 := by
  intro q
  have := congrArg Int32.toInt q
  rw [nI_toInt h] at this
  have e : (-1 : Int32).toInt = -1 := by decide
  rw [e] at this
  omega
section
variable {u : sm_M} {a k b j : Nat}
theorem lt_s1 (f : sm_M → sm_R) : sm_lt u f = f u := rfl
theorem rr_s (f : Nat → sm_R) : sm_rr (some a) f = f a := rfl
theorem ri_s {x : Int32} (f : Int32 → sm_M → sm_R) : sm_ri (some (some (.int x), u)) f = f x u := rfl
theorem rl_s {x : Int64} (f : Int64 → sm_M → sm_R) : sm_rl (some (some (.long x), u)) f = f x u := rfl
theorem rv_s (f : sm_M → sm_R) : sm_rv (some (none, u)) f = f u := rfl
theorem wI_tg {v : Int32} : sm_tg (sm_wI u a k v) b = sm_tg u b := rfl
theorem wI_ln {v : Int32} : sm_ln (sm_wI u a k v) b = sm_ln u b := rfl
theorem wI_rf {v : Int32} : sm_Rf (sm_wI u a k v) b j = sm_Rf u b j := rfl
theorem wI_L {v : Int32} : sm_L (sm_wI u a k v) b j = sm_L u b j := rfl
theorem wI_at {v : Int32} : sm_I (sm_wI u a k v) a k = v := by simp [sm_I, sm_wI, sm_up]
theorem wI_ne {v : Int32} (h : b ≠ a ∨ j ≠ k) : sm_I (sm_wI u a k v) b j = sm_I u b j := by
  simp only [sm_I, sm_wI, sm_up]
  by_cases h1 : b = a
  · rw [if_pos h1]
    by_cases h2 : j = k
    · rcases h with h | h
      · exact absurd h1 h
      · exact absurd h2 h
    · rw [if_neg h2]
  · rw [if_neg h1]
theorem wI_na {v : Int32} (h : b ≠ a) : sm_I (sm_wI u a k v) b j = sm_I u b j := wI_ne (Or.inl h)
theorem wI_nk {v : Int32} (h : j ≠ k) : sm_I (sm_wI u a k v) b j = sm_I u b j := wI_ne (Or.inr h)
theorem Ly.wI {v : Int32} (h : Ly u) : Ly (sm_wI u a k v) := h
theorem in_ok {t n : Nat} (ht : sm_tg u a = t) (hl : sm_ln u a = n) (hj : j < n) (hn : n < 2 ^ 31) : sm_in u t a (nI j) := ⟨ht, by rw [hl]; exact nI_in hj hn⟩
theorem rd_ok {t n : Nat} (ht : sm_tg u a = t) (hl : sm_ln u a = n) (hj : j < n) (hn : n < 2 ^ 31) (X : sm_R) : (if sm_in u t a (nI j) then X else none) = X := if_pos (in_ok ht hl hj hn)
end
/-! small methods -/
theorem z01 {c : Prop} [Decidable c] : (if c then (1 : Int32) else 0) = 0 ∨ (if c then (1 : Int32) else 0) = 1 := by split <;> simp
theorem oi (n : Nat) : Int32.ofInt (no_index (@OfNat.ofNat Int n instOfNat)) = nI n := rfl
theorem i0 : (0 : Int32) = nI 0 := rfl
theorem i1 : (1 : Int32) = nI 1 := rfl
theorem zr0 {X : sm_R} : (if Int32.ofInt 0 = 0 ∨ Int32.ofInt 0 = 1 then X else none) = X := if_pos (Or.inl rfl)
theorem zr1 {X : sm_R} : (if Int32.ofInt 1 = 0 ∨ Int32.ofInt 1 = 1 then X else none) = X := if_pos (Or.inr rfl)
theorem s_isOneOf (d : Nat) (u : sm_M) (v c : Int32) : sm_call (d + 1) 195 [.int v, .int c] u = some (some (.int (if 0 ≤ v ∧ v < c then 1 else 0)), u) := by
  rw [k_W_isOneOf, q_W_isOneOf_0]
  by_cases h1 : v < 0
  · rw [if_pos h1, q_W_isOneOf_7, q_W_isOneOf_9, zr0, if_neg (fun h => Int32.not_le.mpr h1 h.1)]
    rfl
  · rw [if_neg h1]
    by_cases h2 : c ≤ v
    · rw [if_pos h2, q_W_isOneOf_7, q_W_isOneOf_9, zr0, if_neg (fun h => Int32.not_le.mpr h.2 h2)]
      rfl
    · rw [if_neg h2, q_W_isOneOf_9, zr1, if_pos ⟨Int32.not_lt.mp h1, Int32.not_le.mp h2⟩]
      rfl
theorem s_isIn (d : Nat) (u : sm_M) (v lo hi : Int32) : sm_call (d + 1) 201 [.int v, .int lo, .int hi] u = some (some (.int (if lo ≤ v ∧ v ≤ hi then 1 else 0)), u) := by
  rw [k_M_isIn, q_M_isIn_0]
  by_cases h1 : v < lo
  · rw [if_pos h1, q_M_isIn_8, q_M_isIn_10, zr0, if_neg (fun h => Int32.not_le.mpr h1 h.1)]
    rfl
  · rw [if_neg h1]
    by_cases h2 : hi < v
    · rw [if_pos h2, q_M_isIn_8, q_M_isIn_10, zr0, if_neg (fun h => Int32.not_le.mpr h2 h.2)]
      rfl
    · rw [if_neg h2, q_M_isIn_10, zr1, if_pos ⟨Int32.not_lt.mp h1, Int32.not_lt.mp h2⟩]
      rfl
/-- how many of the first k bits are set -/
def cnt (a : Nat) : Nat → Nat
  | 0 => 0
  | k + 1 => cnt a k + a / 2 ^ k % 2
theorem s_bits_l (C : Nat → List Value → sm_M → sm_R) (u : sm_M) {a : Nat} (ha : a < 2 ^ 31) : ∀ j, j ≤ 10 → ∀ n, j + 2 ≤ n → sm_run C c_M_bits n 5 [some (.int (nI a)), some (.int (nI (cnt a (10 - j)))), some (.int (nI (10 - j)))] [] u = some (some (.int (nI (cnt a 10))), u)
  | 0, _, n, hn => by
    obtain ⟨n, rfl⟩ : ∃ k, n = k + 2 := ⟨n - 2, by omega⟩
    rw [q_M_bits_5, if_pos (by decide), q_M_bits_18]
  | j + 1, hj, n, hn => by
    obtain ⟨n, rfl⟩ : ∃ k, n = k + 1 := ⟨n - 1, by omega⟩
    have ih := s_bits_l C u ha j (by omega) n (by omega)
    rw [q_M_bits_5, if_neg (by simp (disch := omega) only [oi, nI_leI]; omega)]
    simp (disch := omega) only [oi, nx_bit, nI_add]
    rw [show 10 - (j + 1) + 1 = 10 - j by omega, show cnt a (10 - (j + 1)) + a / 2 ^ (10 - (j + 1)) % 2 = cnt a (10 - (j + 1) + 1) from rfl, show 10 - (j + 1) + 1 = 10 - j by omega]
    exact ih
theorem s_bits (d : Nat) (u : sm_M) {a : Nat} (ha : a < 2 ^ 31) : sm_call (d + 1) 203 [.int (nI a)] u = some (some (.int (nI (cnt a 10))), u) := by
  rw [k_M_bits, q_M_bits_0]
  exact s_bits_l _ u ha 10 (by omega) _ (by decide)
