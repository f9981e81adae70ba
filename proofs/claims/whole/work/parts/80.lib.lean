/-! loops, numbers, bounds (by wip/whole/mk_80.py) -/
def fd {α : Type} (f : Nat → α → α) : Nat → Nat → α → α
  | 0, _, a => a
  | k + 1, i, a => fd f k (i + 1) (f i a)
theorem fd_lp {α β : Type} {R : Nat → Nat → α → β} {m kb ke : Nat} {f : Nat → α → α} {o : α → β} {P : Nat → α → Prop}
    (hs : ∀ i a n, i < m → P i a → ∃ q, n ≤ q ∧ R (n + kb) i a = R q (i + 1) (f i a))
    (hP : ∀ i a, i < m → P i a → P (i + 1) (f i a))
    (he : ∀ a n, P m a → R (n + ke) m a = o a) :
    ∀ k i a n, i + k = m → P i a → k * kb + ke ≤ n → R n i a = o (fd f k i a)
  | 0, i, a, n, hi, hp, hn => by
    have hi : i = m := hi
    subst hi
    obtain ⟨j, rfl⟩ : ∃ j, n = j + ke := ⟨n - ke, by omega⟩
    exact he a j hp
  | k + 1, i, a, n, hi, hp, hn => by
    rw [Nat.succ_mul] at hn
    obtain ⟨j, rfl⟩ : ∃ j, n = j + kb := ⟨n - kb, by omega⟩
    obtain ⟨q, hq, e⟩ := hs i a j (by omega) hp
    rw [e]
    exact fd_lp hs hP he k (i + 1) (f i a) q (by omega) (hP i a (by omega) hp) (by omega)
theorem fd_inv {α : Type} {m : Nat} {f : Nat → α → α} {P : Nat → α → Prop} (hP : ∀ i a, i < m → P i a → P (i + 1) (f i a)) :
    ∀ k i a, i + k = m → P i a → P m (fd f k i a)
  | 0, i, a, hi, hp => by
    have hi : i = m := hi
    subst hi
    exact hp
  | k + 1, i, a, hi, hp => fd_inv hP k (i + 1) (f i a) (by omega) (hP i a (by omega) hp)
theorem fd_cg {α : Type} {m : Nat} {f g : Nat → α → α} (h : ∀ i a, i < m → f i a = g i a) : ∀ k i a, i + k = m → fd f k i a = fd g k i a
  | 0, _, _, _ => rfl
  | k + 1, i, a, hi => by
    show fd f k (i + 1) (f i a) = fd g k (i + 1) (g i a)
    rw [h i a (by omega)]
    exact fd_cg h k (i + 1) _ (by omega)
theorem fd_map {α β : Type} {m : Nat} {f : Nat → α → α} {g : Nat → β → β} {F : α → β} {P : Nat → α → Prop} (hP : ∀ i a, i < m → P i a → P (i + 1) (f i a)) (h : ∀ i a, i < m → P i a → F (f i a) = g i (F a)) : ∀ k i a, i + k = m → P i a → F (fd f k i a) = fd g k i (F a)
  | 0, _, _, _, _ => rfl
  | k + 1, i, a, hi, hp => by
    show F (fd f k (i + 1) (f i a)) = fd g k (i + 1) (g i (F a))
    rw [← h i a (by omega) hp]
    exact fd_map hP h k (i + 1) _ (by omega) (hP i a (by omega) hp)
theorem fd_last {α : Type} (f : Nat → α → α) : ∀ k i a, fd f (k + 1) i a = f (i + k) (fd f k i a)
  | 0, i, a => rfl
  | k + 1, i, a => by
    show fd f (k + 1) (i + 1) (f i a) = f (i + (k + 1)) (fd f k (i + 1) (f i a))
    rw [fd_last f k (i + 1) (f i a), show i + 1 + k = i + (k + 1) by omega]
/-- a loop that may end early -/
def fb {α β : Type} (f : Nat → α → α ⊕ β) : Nat → Nat → α → α ⊕ β
  | 0, _, a => .inl a
  | k + 1, i, a => match f i a with
    | .inl b => fb f k (i + 1) b
    | .inr r => .inr r
theorem fb_lp {α β γ : Type} {R : Nat → Nat → α → γ} {m kb ke : Nat} {f : Nat → α → α ⊕ β} {o : α → γ} {e : β → γ} {P : Nat → α → Prop}
    (hs : ∀ i a n, i < m → P i a → match f i a with
      | .inl b => ∃ q, n ≤ q ∧ R (n + kb) i a = R q (i + 1) b
      | .inr r => R (n + kb) i a = e r)
    (hP : ∀ i a b, i < m → P i a → f i a = .inl b → P (i + 1) b)
    (he : ∀ a n, P m a → R (n + ke) m a = o a) :
    ∀ k i a n, i + k = m → P i a → k * kb + ke ≤ n → R n i a = match fb f k i a with
      | .inl b => o b
      | .inr r => e r
  | 0, i, a, n, hi, hp, hn => by
    have hi : i = m := hi
    subst hi
    obtain ⟨j, rfl⟩ : ∃ j, n = j + ke := ⟨n - ke, by omega⟩
    exact he a j hp
  | k + 1, i, a, n, hi, hp, hn => by
    rw [Nat.succ_mul] at hn
    obtain ⟨j, rfl⟩ : ∃ j, n = j + kb := ⟨n - kb, by omega⟩
    have h1 := hs i a j (by omega) hp
    unfold fb
    cases hf : f i a with
    | inl b =>
      rw [hf] at h1
      obtain ⟨q, hq, e1⟩ := h1
      rw [e1]
      exact fb_lp hs hP he k (i + 1) b q (by omega) (hP i a b (by omega) hp hf) (by omega)
    | inr r =>
      rw [hf] at h1
      exact h1
theorem fb_cg {α β : Type} {m : Nat} {f g : Nat → α → α ⊕ β} (h : ∀ i a, i < m → f i a = g i a) : ∀ k i a, i + k = m → fb f k i a = fb g k i a
  | 0, _, _, _ => rfl
  | k + 1, i, a, hi => by
    unfold fb
    rw [h i a (by omega)]
    cases g i a with
    | inl b => exact fb_cg h k (i + 1) b (by omega)
    | inr r => rfl
/-! numbers -/
theorem nI_mul (a b : Nat) : nI a * nI b = nI (a * b) := (Int32.ofNat_mul a b).symm
theorem nI_sub {a b : Nat} (h : b ≤ a) : nI a - nI b = nI (a - b) := by
  have e : nI a = nI (a - b) + nI b := by rw [nI_add, Nat.sub_add_cancel h]
  rw [e]
  exact Int32.add_sub_cancel _ _
theorem nI_lt0 {n : Nat} (h : n < 2 ^ 31) : (nI n < 0) = False := eq_false (nI_pos h)
theorem m1_lt {n : Nat} (h : n < 2 ^ 31) : (Int32.ofInt (-1) < nI n) = True := by
  apply eq_true
  rw [Int32.lt_iff_toInt_lt, nI_toInt h]
  have e : (Int32.ofInt (-1)).toInt = -1 := by decide
  omega
theorem m1_le {n : Nat} (h : n < 2 ^ 31) : (Int32.ofInt (-1) ≤ nI n) = True := by
  apply eq_true
  rw [Int32.le_iff_toInt_le, nI_toInt h]
  have e : (Int32.ofInt (-1)).toInt = -1 := by decide
  omega
theorem le_m1 {n : Nat} (h : n < 2 ^ 31) : (nI n ≤ Int32.ofInt (-1)) = False := by
  apply eq_false
  rw [Int32.le_iff_toInt_le, nI_toInt h]
  have e : (Int32.ofInt (-1)).toInt = -1 := by decide
  omega
theorem lt_m1 {n : Nat} (h : n < 2 ^ 31) : (nI n < Int32.ofInt (-1)) = False := by
  apply eq_false
  rw [Int32.lt_iff_toInt_lt, nI_toInt h]
  have e : (Int32.ofInt (-1)).toInt = -1 := by decide
  omega
theorem ne_m1 {n : Nat} (h : n < 2 ^ 31) : (nI n = Int32.ofInt (-1)) = False := by
  apply eq_false
  intro q
  have q := congrArg Int32.toInt q
  rw [nI_toInt h] at q
  have e : (Int32.ofInt (-1)).toInt = -1 := by decide
  omega
theorem m1_ne {n : Nat} (h : n < 2 ^ 31) : (Int32.ofInt (-1) = nI n) = False := by
  exact eq_false (fun q => (ne_m1 h).mp q.symm)
theorem iv_of {v : Int32} {m : Nat} (hm : m < 2 ^ 31) : (0 ≤ v ∧ v < nI m) ↔ ∃ n, n < m ∧ v = nI n := by
  constructor
  · intro ⟨h1, h2⟩
    obtain ⟨j, hj, rfl⟩ := nI_of (Int32.not_lt.mpr h1)
    exact ⟨j, (nI_ltI hj hm).mp h2, rfl⟩
  · rintro ⟨n, hn, rfl⟩
    exact ⟨nI_pos' (by omega), nI_lt hn hm⟩
theorem iv_of2 {v : Int32} {l m : Nat} (hl : l < 2 ^ 31) (hm : m < 2 ^ 31) : (nI l ≤ v ∧ v ≤ nI m) ↔ ∃ n, l ≤ n ∧ n ≤ m ∧ v = nI n := by
  constructor
  · intro ⟨h1, h2⟩
    obtain ⟨j, hj, rfl⟩ := nI_of (Int32.not_lt.mpr (Int32.le_trans (nI_pos' hl) h1))
    exact ⟨j, (nI_leI hl hj).mp h1, (nI_leI hj hm).mp h2, rfl⟩
  · rintro ⟨n, h1, h2, rfl⟩
    exact ⟨nI_le h1 (by omega), nI_le h2 hm⟩
theorem bz0 {c : Prop} [Decidable c] : ((if c then (1 : Int32) else 0) = 0) = ¬ c := by
  by_cases h : c
  · simp [h]
  · simp [h]
theorem bz1 {c : Prop} [Decidable c] : ((if c then (1 : Int32) else 0) = 1) = c := by
  by_cases h : c
  · simp [h]
  · simp [h]
theorem bzo {c : Prop} [Decidable c] {X : sm_R} : (if (if c then (1 : Int32) else 0) = 0 ∨ (if c then (1 : Int32) else 0) = 1 then X else none) = X := if_pos z01
theorem nI_ge0 {n : Nat} (h : n < 2 ^ 31) : (0 ≤ nI n) = True := eq_true (nI_pos' h)
theorem m1_ge0 : (0 ≤ Int32.ofInt (-1)) = False := by decide
theorem m1_lt0 : (Int32.ofInt (-1) < 0) = True := by decide
theorem m1_n {n : Nat} (h : n < 2 ^ 31) : ¬ nI n = Int32.ofInt (-1) := fun q => (ne_m1 h).mp q
theorem nle {n t : Nat} (h : t < n) : (n ≤ t) = False := eq_false (by omega)
theorem yle {n t : Nat} (h : n ≤ t) : (n ≤ t) = True := eq_true h
theorem nlt {n t : Nat} (h : t ≤ n) : (n < t) = False := eq_false (by omega)
theorem ylt {n t : Nat} (h : n < t) : (n < t) = True := eq_true h
theorem e10 : ((1 : Int32) = 0) = False := by decide
theorem e01 : ((0 : Int32) = 1) = False := by decide
theorem nI_eq0 {n : Nat} (h : n < 2 ^ 31) : (nI n = 0) = (n = 0) := propext (nI_eq (b := 0) h (by decide))
theorem and2p (x k : Nat) : x &&& 2 ^ k = if x.testBit k then 2 ^ k else 0 := by
  apply Nat.eq_of_testBit_eq
  intro i
  rw [Nat.testBit_and, Nat.testBit_two_pow]
  by_cases h : k = i
  · subst h
    cases hx : x.testBit k <;> simp [Nat.testBit_two_pow]
  · cases hx : x.testBit k <;> simp [h, Nat.testBit_two_pow]
theorem nne {a b : Nat} (h : a ≠ b) : (a = b) = False := eq_false h
theorem nI_eq1 {n : Nat} (h : n < 2 ^ 31) : (nI n = 1) = (n = 1) := propext (nI_eq (b := 1) h (by decide))
theorem emn {c : Prop} : (¬ c ∨ c) = True := eq_true (Or.symm (Classical.em c))
theorem lc_up {α : Type} {f : Nat → Nat → α} {a k b j : Nat} {v : α} : sm_up f a k v b j = if b = a ∧ j = k then v else f b j := by
  unfold sm_up
  by_cases h : b = a
  · by_cases h2 : j = k
    · simp [h, h2]
    · simp [h, h2]
  · simp [h]
/-! bounds of arrays -/
theorem in_3 {u : sm_M} {j : Nat} (h : Ly u) (hj : j < 6) : sm_in u 1 3 (nI j) = True := eq_true (in_ok (yt_3 h) (yl_3 h) hj (by decide))
theorem in_4 {u : sm_M} {j : Nat} (h : Ly u) (hj : j < 10) : sm_in u 1 4 (nI j) = True := eq_true (in_ok (yt_4 h) (yl_4 h) hj (by decide))
theorem in_97 {u : sm_M} {j : Nat} (h : Ly u) (hj : j < 8) : sm_in u 1 97 (nI j) = True := eq_true (in_ok (yt_97 h) (yl_97 h) hj (by decide))
theorem in_99 {u : sm_M} {j : Nat} (h : Ly u) (hj : j < 6) : sm_in u 1 99 (nI j) = True := eq_true (in_ok (yt_99 h) (yl_99 h) hj (by decide))
theorem in_100 {u : sm_M} {j : Nat} (h : Ly u) (hj : j < 8) : sm_in u 1 100 (nI j) = True := eq_true (in_ok (yt_100 h) (yl_100 h) hj (by decide))
theorem in_101 {u : sm_M} {j : Nat} (h : Ly u) (hj : j < 8) : sm_in u 1 101 (nI j) = True := eq_true (in_ok (yt_101 h) (yl_101 h) hj (by decide))
theorem in_102 {u : sm_M} {j : Nat} (h : Ly u) (hj : j < 8) : sm_in u 1 102 (nI j) = True := eq_true (in_ok (yt_102 h) (yl_102 h) hj (by decide))
theorem in_116 {u : sm_M} {j : Nat} (h : Ly u) (hj : j < 6) : sm_in u 1 116 (nI j) = True := eq_true (in_ok (yt_116 h) (yl_116 h) hj (by decide))
theorem in_117 {u : sm_M} {j : Nat} (h : Ly u) (hj : j < 10) : sm_in u 1 117 (nI j) = True := eq_true (in_ok (yt_117 h) (yl_117 h) hj (by decide))
theorem in_210 {u : sm_M} {j : Nat} (h : Ly u) (hj : j < 8) : sm_in u 1 210 (nI j) = True := eq_true (in_ok (yt_210 h) (yl_210 h) hj (by decide))
theorem in_212 {u : sm_M} {j : Nat} (h : Ly u) (hj : j < 6) : sm_in u 1 212 (nI j) = True := eq_true (in_ok (yt_212 h) (yl_212 h) hj (by decide))
theorem in_213 {u : sm_M} {j : Nat} (h : Ly u) (hj : j < 8) : sm_in u 1 213 (nI j) = True := eq_true (in_ok (yt_213 h) (yl_213 h) hj (by decide))
theorem in_214 {u : sm_M} {j : Nat} (h : Ly u) (hj : j < 8) : sm_in u 1 214 (nI j) = True := eq_true (in_ok (yt_214 h) (yl_214 h) hj (by decide))
theorem in_215 {u : sm_M} {j : Nat} (h : Ly u) (hj : j < 8) : sm_in u 1 215 (nI j) = True := eq_true (in_ok (yt_215 h) (yl_215 h) hj (by decide))
theorem in_228 {u : sm_M} {j : Nat} (h : Ly u) (hj : j < 300) : sm_in u 1 228 (nI j) = True := eq_true (in_ok (yt_228 h) (yl_228 h) hj (by decide))
theorem in_229 {u : sm_M} {j : Nat} (h : Ly u) (hj : j < 301) : sm_in u 1 229 (nI j) = True := eq_true (in_ok (yt_229 h) (yl_229 h) hj (by decide))
theorem in_230 {u : sm_M} {j : Nat} (h : Ly u) (hj : j < 301) : sm_in u 1 230 (nI j) = True := eq_true (in_ok (yt_230 h) (yl_230 h) hj (by decide))
theorem in_231 {u : sm_M} {j : Nat} (h : Ly u) (hj : j < 301) : sm_in u 1 231 (nI j) = True := eq_true (in_ok (yt_231 h) (yl_231 h) hj (by decide))
theorem in_235 {u : sm_M} {j : Nat} (h : Ly u) (hj : j < 300) : sm_in u 1 235 (nI j) = True := eq_true (in_ok (yt_235 h) (yl_235 h) hj (by decide))
theorem in_237 {u : sm_M} {j : Nat} (h : Ly u) (hj : j < 24) : sm_in u 1 237 (nI j) = True := eq_true (in_ok (yt_237 h) (yl_237 h) hj (by decide))
theorem in_238 {u : sm_M} {j : Nat} (h : Ly u) (hj : j < 24) : sm_in u 1 238 (nI j) = True := eq_true (in_ok (yt_238 h) (yl_238 h) hj (by decide))
theorem in_239 {u : sm_M} {j : Nat} (h : Ly u) (hj : j < 24) : sm_in u 1 239 (nI j) = True := eq_true (in_ok (yt_239 h) (yl_239 h) hj (by decide))
theorem in_240 {u : sm_M} {j : Nat} (h : Ly u) (hj : j < 300) : sm_in u 1 240 (nI j) = True := eq_true (in_ok (yt_240 h) (yl_240 h) hj (by decide))
theorem in_241 {u : sm_M} {j : Nat} (h : Ly u) (hj : j < 300) : sm_in u 1 241 (nI j) = True := eq_true (in_ok (yt_241 h) (yl_241 h) hj (by decide))
theorem in_242 {u : sm_M} {j : Nat} (h : Ly u) (hj : j < 256) : sm_in u 1 242 (nI j) = True := eq_true (in_ok (yt_242 h) (yl_242 h) hj (by decide))
theorem in_244 {u : sm_M} {j : Nat} (h : Ly u) (hj : j < 24) : sm_in u 1 244 (nI j) = True := eq_true (in_ok (yt_244 h) (yl_244 h) hj (by decide))
theorem in_245 {u : sm_M} {j : Nat} (h : Ly u) (hj : j < 24) : sm_in u 1 245 (nI j) = True := eq_true (in_ok (yt_245 h) (yl_245 h) hj (by decide))
theorem in_246 {u : sm_M} {j : Nat} (h : Ly u) (hj : j < 24) : sm_in u 1 246 (nI j) = True := eq_true (in_ok (yt_246 h) (yl_246 h) hj (by decide))
theorem in_247 {u : sm_M} {j : Nat} (h : Ly u) (hj : j < 300) : sm_in u 1 247 (nI j) = True := eq_true (in_ok (yt_247 h) (yl_247 h) hj (by decide))
theorem in_248 {u : sm_M} {j : Nat} (h : Ly u) (hj : j < 300) : sm_in u 1 248 (nI j) = True := eq_true (in_ok (yt_248 h) (yl_248 h) hj (by decide))
theorem in_249 {u : sm_M} {j : Nat} (h : Ly u) (hj : j < 256) : sm_in u 1 249 (nI j) = True := eq_true (in_ok (yt_249 h) (yl_249 h) hj (by decide))
theorem in_251 {u : sm_M} {j : Nat} (h : Ly u) (hj : j < 24) : sm_in u 1 251 (nI j) = True := eq_true (in_ok (yt_251 h) (yl_251 h) hj (by decide))
theorem in_252 {u : sm_M} {j : Nat} (h : Ly u) (hj : j < 24) : sm_in u 1 252 (nI j) = True := eq_true (in_ok (yt_252 h) (yl_252 h) hj (by decide))
theorem in_253 {u : sm_M} {j : Nat} (h : Ly u) (hj : j < 24) : sm_in u 1 253 (nI j) = True := eq_true (in_ok (yt_253 h) (yl_253 h) hj (by decide))
theorem in_254 {u : sm_M} {j : Nat} (h : Ly u) (hj : j < 300) : sm_in u 1 254 (nI j) = True := eq_true (in_ok (yt_254 h) (yl_254 h) hj (by decide))
theorem in_255 {u : sm_M} {j : Nat} (h : Ly u) (hj : j < 300) : sm_in u 1 255 (nI j) = True := eq_true (in_ok (yt_255 h) (yl_255 h) hj (by decide))
theorem in_256 {u : sm_M} {j : Nat} (h : Ly u) (hj : j < 256) : sm_in u 1 256 (nI j) = True := eq_true (in_ok (yt_256 h) (yl_256 h) hj (by decide))
theorem in_258 {u : sm_M} {j : Nat} (h : Ly u) (hj : j < 24) : sm_in u 1 258 (nI j) = True := eq_true (in_ok (yt_258 h) (yl_258 h) hj (by decide))
theorem in_259 {u : sm_M} {j : Nat} (h : Ly u) (hj : j < 24) : sm_in u 1 259 (nI j) = True := eq_true (in_ok (yt_259 h) (yl_259 h) hj (by decide))
theorem in_260 {u : sm_M} {j : Nat} (h : Ly u) (hj : j < 24) : sm_in u 1 260 (nI j) = True := eq_true (in_ok (yt_260 h) (yl_260 h) hj (by decide))
theorem in_261 {u : sm_M} {j : Nat} (h : Ly u) (hj : j < 300) : sm_in u 1 261 (nI j) = True := eq_true (in_ok (yt_261 h) (yl_261 h) hj (by decide))
theorem in_262 {u : sm_M} {j : Nat} (h : Ly u) (hj : j < 300) : sm_in u 1 262 (nI j) = True := eq_true (in_ok (yt_262 h) (yl_262 h) hj (by decide))
theorem in_263 {u : sm_M} {j : Nat} (h : Ly u) (hj : j < 256) : sm_in u 1 263 (nI j) = True := eq_true (in_ok (yt_263 h) (yl_263 h) hj (by decide))
theorem in_265 {u : sm_M} {j : Nat} (h : Ly u) (hj : j < 256) : sm_in u 1 265 (nI j) = True := eq_true (in_ok (yt_265 h) (yl_265 h) hj (by decide))
theorem in_266 {u : sm_M} {j : Nat} (h : Ly u) (hj : j < 256) : sm_in u 1 266 (nI j) = True := eq_true (in_ok (yt_266 h) (yl_266 h) hj (by decide))
theorem in_267 {u : sm_M} {j : Nat} (h : Ly u) (hj : j < 256) : sm_in u 1 267 (nI j) = True := eq_true (in_ok (yt_267 h) (yl_267 h) hj (by decide))
theorem in_269 {u : sm_M} {j : Nat} (h : Ly u) (hj : j < 256) : sm_in u 1 269 (nI j) = True := eq_true (in_ok (yt_269 h) (yl_269 h) hj (by decide))
theorem in_270 {u : sm_M} {j : Nat} (h : Ly u) (hj : j < 256) : sm_in u 1 270 (nI j) = True := eq_true (in_ok (yt_270 h) (yl_270 h) hj (by decide))
theorem in_272 {u : sm_M} {j : Nat} (h : Ly u) (hj : j < 1024) : sm_in u 1 272 (nI j) = True := eq_true (in_ok (yt_272 h) (yl_272 h) hj (by decide))
theorem in_273 {u : sm_M} {j : Nat} (h : Ly u) (hj : j < 10) : sm_in u 1 273 (nI j) = True := eq_true (in_ok (yt_273 h) (yl_273 h) hj (by decide))
theorem in_274 {u : sm_M} {j : Nat} (h : Ly u) (hj : j < 6) : sm_in u 1 274 (nI j) = True := eq_true (in_ok (yt_274 h) (yl_274 h) hj (by decide))
theorem in_276 {u : sm_M} {j : Nat} (h : Ly u) (hj : j < 992) : sm_in u 1 276 (nI j) = True := eq_true (in_ok (yt_276 h) (yl_276 h) hj (by decide))
theorem in_277 {u : sm_M} {j : Nat} (h : Ly u) (hj : j < 992) : sm_in u 1 277 (nI j) = True := eq_true (in_ok (yt_277 h) (yl_277 h) hj (by decide))
theorem in_278 {u : sm_M} {j : Nat} (h : Ly u) (hj : j < 2820) : sm_in u 1 278 (nI j) = True := eq_true (in_ok (yt_278 h) (yl_278 h) hj (by decide))
theorem in_279 {u : sm_M} {j : Nat} (h : Ly u) (hj : j < 300) : sm_in u 1 279 (nI j) = True := eq_true (in_ok (yt_279 h) (yl_279 h) hj (by decide))
theorem in_280 {u : sm_M} {j : Nat} (h : Ly u) (hj : j < 160) : sm_in u 1 280 (nI j) = True := eq_true (in_ok (yt_280 h) (yl_280 h) hj (by decide))
theorem in_281 {u : sm_M} {j : Nat} (h : Ly u) (hj : j < 9) : sm_in u 1 281 (nI j) = True := eq_true (in_ok (yt_281 h) (yl_281 h) hj (by decide))
theorem in_282 {u : sm_M} {j : Nat} (h : Ly u) (hj : j < 330) : sm_in u 3 282 (nI j) = True := eq_true (in_ok (yt_282 h) (yl_282 h) hj (by decide))
theorem in_283 {u : sm_M} {j : Nat} (h : Ly u) (hj : j < 330) : sm_in u 2 283 (nI j) = True := eq_true (in_ok (yt_283 h) (yl_283 h) hj (by decide))
theorem in_284 {u : sm_M} {j : Nat} (h : Ly u) (hj : j < 256) : sm_in u 1 284 (nI j) = True := eq_true (in_ok (yt_284 h) (yl_284 h) hj (by decide))
theorem in_285 {u : sm_M} {j : Nat} (h : Ly u) (hj : j < 256) : sm_in u 2 285 (nI j) = True := eq_true (in_ok (yt_285 h) (yl_285 h) hj (by decide))
theorem in_286 {u : sm_M} {j : Nat} (h : Ly u) (hj : j < 256) : sm_in u 1 286 (nI j) = True := eq_true (in_ok (yt_286 h) (yl_286 h) hj (by decide))
theorem in_287 {u : sm_M} {j : Nat} (h : Ly u) (hj : j < 256) : sm_in u 1 287 (nI j) = True := eq_true (in_ok (yt_287 h) (yl_287 h) hj (by decide))
theorem in_288 {u : sm_M} {j : Nat} (h : Ly u) (hj : j < 256) : sm_in u 1 288 (nI j) = True := eq_true (in_ok (yt_288 h) (yl_288 h) hj (by decide))
theorem in_289 {u : sm_M} {j : Nat} (h : Ly u) (hj : j < 10) : sm_in u 1 289 (nI j) = True := eq_true (in_ok (yt_289 h) (yl_289 h) hj (by decide))
theorem in_290 {u : sm_M} {j : Nat} (h : Ly u) (hj : j < 10) : sm_in u 1 290 (nI j) = True := eq_true (in_ok (yt_290 h) (yl_290 h) hj (by decide))
theorem in_291 {u : sm_M} {j : Nat} (h : Ly u) (hj : j < 10) : sm_in u 1 291 (nI j) = True := eq_true (in_ok (yt_291 h) (yl_291 h) hj (by decide))
theorem in_292 {u : sm_M} {j : Nat} (h : Ly u) (hj : j < 7) : sm_in u 1 292 (nI j) = True := eq_true (in_ok (yt_292 h) (yl_292 h) hj (by decide))
theorem in_293 {u : sm_M} {j : Nat} (h : Ly u) (hj : j < 70) : sm_in u 2 293 (nI j) = True := eq_true (in_ok (yt_293 h) (yl_293 h) hj (by decide))
theorem ia_6 {u : sm_M} {j : Nat} (h : Ly u) (hj : j < 30) : (4 ≤ sm_tg u 6 ∧ sm_tg u 6 ≤ 6 ∧ ¬ (nI j < 0 ∨ sm_ln u 6 ≤ (nI j).toNatClampNeg)) = True := eq_true ⟨by rw [yt_6 h]; decide, by rw [yt_6 h]; decide, by rw [yl_6 h]; exact nI_in hj (by decide)⟩
theorem ia_98 {u : sm_M} {j : Nat} (h : Ly u) (hj : j < 10) : (4 ≤ sm_tg u 98 ∧ sm_tg u 98 ≤ 6 ∧ ¬ (nI j < 0 ∨ sm_ln u 98 ≤ (nI j).toNatClampNeg)) = True := eq_true ⟨by rw [yt_98 h]; decide, by rw [yt_98 h]; decide, by rw [yl_98 h]; exact nI_in hj (by decide)⟩
theorem ia_119 {u : sm_M} {j : Nat} (h : Ly u) (hj : j < 30) : (4 ≤ sm_tg u 119 ∧ sm_tg u 119 ≤ 6 ∧ ¬ (nI j < 0 ∨ sm_ln u 119 ≤ (nI j).toNatClampNeg)) = True := eq_true ⟨by rw [yt_119 h]; decide, by rw [yt_119 h]; decide, by rw [yl_119 h]; exact nI_in hj (by decide)⟩
theorem ia_211 {u : sm_M} {j : Nat} (h : Ly u) (hj : j < 10) : (4 ≤ sm_tg u 211 ∧ sm_tg u 211 ≤ 6 ∧ ¬ (nI j < 0 ∨ sm_ln u 211 ≤ (nI j).toNatClampNeg)) = True := eq_true ⟨by rw [yt_211 h]; decide, by rw [yt_211 h]; decide, by rw [yl_211 h]; exact nI_in hj (by decide)⟩
theorem ia_234 {u : sm_M} {j : Nat} (h : Ly u) (hj : j < 4) : (4 ≤ sm_tg u 234 ∧ sm_tg u 234 ≤ 6 ∧ ¬ (nI j < 0 ∨ sm_ln u 234 ≤ (nI j).toNatClampNeg)) = True := eq_true ⟨by rw [yt_234 h]; decide, by rw [yt_234 h]; decide, by rw [yl_234 h]; exact nI_in hj (by decide)⟩
theorem tx_r0 {u : sm_M} {t : Nat} (h : Ly u) (ht : t < 4) : sm_Rf u (236 + 7 * t) 0 = some (237 + 7 * t) := by
  match t, ht with
  | 0, _ => exact yr_236_0 h
  | 1, _ => exact yr_243_0 h
  | 2, _ => exact yr_250_0 h
  | 3, _ => exact yr_257_0 h
theorem tx_i0 {u : sm_M} {t i : Nat} (h : Ly u) (ht : t < 4) (hi : i < 24) : sm_in u 1 (237 + 7 * t) (nI i) = True := by
  match t, ht with
  | 0, _ => exact in_237 h hi
  | 1, _ => exact in_244 h hi
  | 2, _ => exact in_251 h hi
  | 3, _ => exact in_258 h hi
theorem tx_r1 {u : sm_M} {t : Nat} (h : Ly u) (ht : t < 4) : sm_Rf u (236 + 7 * t) 1 = some (238 + 7 * t) := by
  match t, ht with
  | 0, _ => exact yr_236_1 h
  | 1, _ => exact yr_243_1 h
  | 2, _ => exact yr_250_1 h
  | 3, _ => exact yr_257_1 h
theorem tx_i1 {u : sm_M} {t i : Nat} (h : Ly u) (ht : t < 4) (hi : i < 24) : sm_in u 1 (238 + 7 * t) (nI i) = True := by
  match t, ht with
  | 0, _ => exact in_238 h hi
  | 1, _ => exact in_245 h hi
  | 2, _ => exact in_252 h hi
  | 3, _ => exact in_259 h hi
theorem tx_r2 {u : sm_M} {t : Nat} (h : Ly u) (ht : t < 4) : sm_Rf u (236 + 7 * t) 2 = some (239 + 7 * t) := by
  match t, ht with
  | 0, _ => exact yr_236_2 h
  | 1, _ => exact yr_243_2 h
  | 2, _ => exact yr_250_2 h
  | 3, _ => exact yr_257_2 h
theorem tx_i2 {u : sm_M} {t i : Nat} (h : Ly u) (ht : t < 4) (hi : i < 24) : sm_in u 1 (239 + 7 * t) (nI i) = True := by
  match t, ht with
  | 0, _ => exact in_239 h hi
  | 1, _ => exact in_246 h hi
  | 2, _ => exact in_253 h hi
  | 3, _ => exact in_260 h hi
theorem tx_r3 {u : sm_M} {t : Nat} (h : Ly u) (ht : t < 4) : sm_Rf u (236 + 7 * t) 3 = some (240 + 7 * t) := by
  match t, ht with
  | 0, _ => exact yr_236_3 h
  | 1, _ => exact yr_243_3 h
  | 2, _ => exact yr_250_3 h
  | 3, _ => exact yr_257_3 h
theorem tx_i3 {u : sm_M} {t i : Nat} (h : Ly u) (ht : t < 4) (hi : i < 300) : sm_in u 1 (240 + 7 * t) (nI i) = True := by
  match t, ht with
  | 0, _ => exact in_240 h hi
  | 1, _ => exact in_247 h hi
  | 2, _ => exact in_254 h hi
  | 3, _ => exact in_261 h hi
theorem tx_r4 {u : sm_M} {t : Nat} (h : Ly u) (ht : t < 4) : sm_Rf u (236 + 7 * t) 4 = some (241 + 7 * t) := by
  match t, ht with
  | 0, _ => exact yr_236_4 h
  | 1, _ => exact yr_243_4 h
  | 2, _ => exact yr_250_4 h
  | 3, _ => exact yr_257_4 h
theorem tx_i4 {u : sm_M} {t i : Nat} (h : Ly u) (ht : t < 4) (hi : i < 300) : sm_in u 1 (241 + 7 * t) (nI i) = True := by
  match t, ht with
  | 0, _ => exact in_241 h hi
  | 1, _ => exact in_248 h hi
  | 2, _ => exact in_255 h hi
  | 3, _ => exact in_262 h hi
theorem tx_r5 {u : sm_M} {t : Nat} (h : Ly u) (ht : t < 4) : sm_Rf u (236 + 7 * t) 5 = some (242 + 7 * t) := by
  match t, ht with
  | 0, _ => exact yr_236_5 h
  | 1, _ => exact yr_243_5 h
  | 2, _ => exact yr_250_5 h
  | 3, _ => exact yr_257_5 h
theorem tx_i5 {u : sm_M} {t i : Nat} (h : Ly u) (ht : t < 4) (hi : i < 256) : sm_in u 1 (242 + 7 * t) (nI i) = True := by
  match t, ht with
  | 0, _ => exact in_242 h hi
  | 1, _ => exact in_249 h hi
  | 2, _ => exact in_256 h hi
  | 3, _ => exact in_263 h hi
theorem tx_tg {u : sm_M} {t : Nat} (h : Ly u) (ht : t < 4) : sm_tg u (236 + 7 * t) = 102 := by
  match t, ht with
  | 0, _ => exact yt_236 h
  | 1, _ => exact yt_243 h
  | 2, _ => exact yt_250 h
  | 3, _ => exact yt_257 h
theorem tx_rf {u : sm_M} {t : Nat} (h : Ly u) (ht : t < 4) : sm_Rf u 234 t = some (236 + 7 * t) := by
  match t, ht with
  | 0, _ => exact h.rf (by decide) rfl
  | 1, _ => exact h.rf (by decide) rfl
  | 2, _ => exact h.rf (by decide) rfl
  | 3, _ => exact h.rf (by decide) rfl
theorem nd_rf {u : sm_M} {t : Nat} (h : Ly u) (ht : t < 10) : sm_Rf u 98 t = some (104 + t) := by
  match t, ht with
  | 0, _ => exact h.rf (by decide) rfl
  | 1, _ => exact h.rf (by decide) rfl
  | 2, _ => exact h.rf (by decide) rfl
  | 3, _ => exact h.rf (by decide) rfl
  | 4, _ => exact h.rf (by decide) rfl
  | 5, _ => exact h.rf (by decide) rfl
  | 6, _ => exact h.rf (by decide) rfl
  | 7, _ => exact h.rf (by decide) rfl
  | 8, _ => exact h.rf (by decide) rfl
  | 9, _ => exact h.rf (by decide) rfl
theorem nd_tg {u : sm_M} {t : Nat} (h : Ly u) (ht : t < 10) : sm_tg u (104 + t) = 101 := by
  match t, ht with
  | 0, _ => exact h.tg rfl
  | 1, _ => exact h.tg rfl
  | 2, _ => exact h.tg rfl
  | 3, _ => exact h.tg rfl
  | 4, _ => exact h.tg rfl
  | 5, _ => exact h.tg rfl
  | 6, _ => exact h.tg rfl
  | 7, _ => exact h.tg rfl
  | 8, _ => exact h.tg rfl
  | 9, _ => exact h.tg rfl
theorem rg_rf_d : ∀ t, t < 30 → RF 6 t = some (7 + 3 * t) := by decide +kernel
theorem rg_rf {u : sm_M} {t : Nat} (h : Ly u) (ht : t < 30) : sm_Rf u 6 t = some (7 + 3 * t) := h.rf (by omega) (rg_rf_d t ht)
theorem rg_ra_d : ∀ t, t < 30 → RF (7 + 3 * t) 5 = some (8 + 3 * t) := by decide +kernel
theorem rg_ra {u : sm_M} {t : Nat} (h : Ly u) (ht : t < 30) : sm_Rf u (7 + 3 * t) 5 = some (8 + 3 * t) := h.rf (by omega) (rg_ra_d t ht)
theorem rg_ta_d : ∀ t, t < 30 → (SH.getD (8 + 3 * t) (0, 0)).1 = 1 := by decide +kernel
theorem rg_ta {u : sm_M} {t : Nat} (h : Ly u) (ht : t < 30) : sm_tg u (8 + 3 * t) = 1 := h.tg (rg_ta_d t ht)
theorem rg_la_d : ∀ t, t < 30 → (SH.getD (8 + 3 * t) (0, 0)).2 = 6 := by decide +kernel
theorem rg_la {u : sm_M} {t : Nat} (h : Ly u) (ht : t < 30) : sm_ln u (8 + 3 * t) = 6 := h.ln (rg_la_d t ht)
theorem rg_rb_d : ∀ t, t < 30 → RF (7 + 3 * t) 6 = some (9 + 3 * t) := by decide +kernel
theorem rg_rb {u : sm_M} {t : Nat} (h : Ly u) (ht : t < 30) : sm_Rf u (7 + 3 * t) 6 = some (9 + 3 * t) := h.rf (by omega) (rg_rb_d t ht)
theorem rg_tb_d : ∀ t, t < 30 → (SH.getD (9 + 3 * t) (0, 0)).1 = 1 := by decide +kernel
theorem rg_tb {u : sm_M} {t : Nat} (h : Ly u) (ht : t < 30) : sm_tg u (9 + 3 * t) = 1 := h.tg (rg_tb_d t ht)
theorem rg_lb_d : ∀ t, t < 30 → (SH.getD (9 + 3 * t) (0, 0)).2 = 10 := by decide +kernel
theorem rg_lb {u : sm_M} {t : Nat} (h : Ly u) (ht : t < 30) : sm_ln u (9 + 3 * t) = 10 := h.ln (rg_lb_d t ht)
theorem rg_tg_d : ∀ t, t < 30 → (SH.getD (7 + 3 * t) (0, 0)).1 = 100 := by decide +kernel
theorem rg_tg {u : sm_M} {t : Nat} (h : Ly u) (ht : t < 30) : sm_tg u (7 + 3 * t) = 100 := h.tg (rg_tg_d t ht)
theorem yk_0_0 {u : sm_M} (h : Ly u) (f : Nat → sm_R) : sm_rr (sm_Rf u 0 0) f = f 1 := by rw [yr_0_0 h]; rfl
theorem yk_0_1 {u : sm_M} (h : Ly u) (f : Nat → sm_R) : sm_rr (sm_Rf u 0 1) f = f 114 := by rw [yr_0_1 h]; rfl
theorem yk_0_2 {u : sm_M} (h : Ly u) (f : Nat → sm_R) : sm_rr (sm_Rf u 0 2) f = f 227 := by rw [yr_0_2 h]; rfl
theorem yk_0_3 {u : sm_M} (h : Ly u) (f : Nat → sm_R) : sm_rr (sm_Rf u 0 3) f = f 232 := by rw [yr_0_3 h]; rfl
theorem yk_0_4 {u : sm_M} (h : Ly u) (f : Nat → sm_R) : sm_rr (sm_Rf u 0 4) f = f 233 := by rw [yr_0_4 h]; rfl
theorem yk_0_5 {u : sm_M} (h : Ly u) (f : Nat → sm_R) : sm_rr (sm_Rf u 0 5) f = f 264 := by rw [yr_0_5 h]; rfl
theorem yk_0_6 {u : sm_M} (h : Ly u) (f : Nat → sm_R) : sm_rr (sm_Rf u 0 6) f = f 268 := by rw [yr_0_6 h]; rfl
theorem yk_0_7 {u : sm_M} (h : Ly u) (f : Nat → sm_R) : sm_rr (sm_Rf u 0 7) f = f 271 := by rw [yr_0_7 h]; rfl
theorem yk_1_0 {u : sm_M} (h : Ly u) (f : Nat → sm_R) : sm_rr (sm_Rf u 1 0) f = f 2 := by rw [yr_1_0 h]; rfl
theorem yk_1_1 {u : sm_M} (h : Ly u) (f : Nat → sm_R) : sm_rr (sm_Rf u 1 1) f = f 5 := by rw [yr_1_1 h]; rfl
theorem yk_1_2 {u : sm_M} (h : Ly u) (f : Nat → sm_R) : sm_rr (sm_Rf u 1 2) f = f 97 := by rw [yr_1_2 h]; rfl
theorem yk_1_3 {u : sm_M} (h : Ly u) (f : Nat → sm_R) : sm_rr (sm_Rf u 1 3) f = f 98 := by rw [yr_1_3 h]; rfl
theorem yk_1_4 {u : sm_M} (h : Ly u) (f : Nat → sm_R) : sm_rr (sm_Rf u 1 4) f = f 99 := by rw [yr_1_4 h]; rfl
theorem yk_1_5 {u : sm_M} (h : Ly u) (f : Nat → sm_R) : sm_rr (sm_Rf u 1 5) f = f 100 := by rw [yr_1_5 h]; rfl
theorem yk_1_6 {u : sm_M} (h : Ly u) (f : Nat → sm_R) : sm_rr (sm_Rf u 1 6) f = f 101 := by rw [yr_1_6 h]; rfl
theorem yk_1_7 {u : sm_M} (h : Ly u) (f : Nat → sm_R) : sm_rr (sm_Rf u 1 7) f = f 102 := by rw [yr_1_7 h]; rfl
theorem yk_1_8 {u : sm_M} (h : Ly u) (f : Nat → sm_R) : sm_rr (sm_Rf u 1 8) f = f 103 := by rw [yr_1_8 h]; rfl
theorem yk_2_5 {u : sm_M} (h : Ly u) (f : Nat → sm_R) : sm_rr (sm_Rf u 2 5) f = f 3 := by rw [yr_2_5 h]; rfl
theorem yk_2_6 {u : sm_M} (h : Ly u) (f : Nat → sm_R) : sm_rr (sm_Rf u 2 6) f = f 4 := by rw [yr_2_6 h]; rfl
theorem yk_5_0 {u : sm_M} (h : Ly u) (f : Nat → sm_R) : sm_rr (sm_Rf u 5 0) f = f 6 := by rw [yr_5_0 h]; rfl
theorem yk_114_0 {u : sm_M} (h : Ly u) (f : Nat → sm_R) : sm_rr (sm_Rf u 114 0) f = f 115 := by rw [yr_114_0 h]; rfl
theorem yk_114_1 {u : sm_M} (h : Ly u) (f : Nat → sm_R) : sm_rr (sm_Rf u 114 1) f = f 118 := by rw [yr_114_1 h]; rfl
theorem yk_114_2 {u : sm_M} (h : Ly u) (f : Nat → sm_R) : sm_rr (sm_Rf u 114 2) f = f 210 := by rw [yr_114_2 h]; rfl
theorem yk_114_3 {u : sm_M} (h : Ly u) (f : Nat → sm_R) : sm_rr (sm_Rf u 114 3) f = f 211 := by rw [yr_114_3 h]; rfl
theorem yk_114_4 {u : sm_M} (h : Ly u) (f : Nat → sm_R) : sm_rr (sm_Rf u 114 4) f = f 212 := by rw [yr_114_4 h]; rfl
theorem yk_114_5 {u : sm_M} (h : Ly u) (f : Nat → sm_R) : sm_rr (sm_Rf u 114 5) f = f 213 := by rw [yr_114_5 h]; rfl
theorem yk_114_6 {u : sm_M} (h : Ly u) (f : Nat → sm_R) : sm_rr (sm_Rf u 114 6) f = f 214 := by rw [yr_114_6 h]; rfl
theorem yk_114_7 {u : sm_M} (h : Ly u) (f : Nat → sm_R) : sm_rr (sm_Rf u 114 7) f = f 215 := by rw [yr_114_7 h]; rfl
theorem yk_114_8 {u : sm_M} (h : Ly u) (f : Nat → sm_R) : sm_rr (sm_Rf u 114 8) f = f 216 := by rw [yr_114_8 h]; rfl
theorem yk_115_5 {u : sm_M} (h : Ly u) (f : Nat → sm_R) : sm_rr (sm_Rf u 115 5) f = f 116 := by rw [yr_115_5 h]; rfl
theorem yk_115_6 {u : sm_M} (h : Ly u) (f : Nat → sm_R) : sm_rr (sm_Rf u 115 6) f = f 117 := by rw [yr_115_6 h]; rfl
theorem yk_118_0 {u : sm_M} (h : Ly u) (f : Nat → sm_R) : sm_rr (sm_Rf u 118 0) f = f 119 := by rw [yr_118_0 h]; rfl
theorem yk_227_0 {u : sm_M} (h : Ly u) (f : Nat → sm_R) : sm_rr (sm_Rf u 227 0) f = f 228 := by rw [yr_227_0 h]; rfl
theorem yk_227_1 {u : sm_M} (h : Ly u) (f : Nat → sm_R) : sm_rr (sm_Rf u 227 1) f = f 229 := by rw [yr_227_1 h]; rfl
theorem yk_227_2 {u : sm_M} (h : Ly u) (f : Nat → sm_R) : sm_rr (sm_Rf u 227 2) f = f 230 := by rw [yr_227_2 h]; rfl
theorem yk_227_3 {u : sm_M} (h : Ly u) (f : Nat → sm_R) : sm_rr (sm_Rf u 227 3) f = f 231 := by rw [yr_227_3 h]; rfl
theorem yk_232_0 {u : sm_M} (h : Ly u) (f : Nat → sm_R) : sm_rr (sm_Rf u 232 0) f = f 227 := by rw [yr_232_0 h]; rfl
theorem yk_233_0 {u : sm_M} (h : Ly u) (f : Nat → sm_R) : sm_rr (sm_Rf u 233 0) f = f 1 := by rw [yr_233_0 h]; rfl
theorem yk_233_1 {u : sm_M} (h : Ly u) (f : Nat → sm_R) : sm_rr (sm_Rf u 233 1) f = f 234 := by rw [yr_233_1 h]; rfl
theorem yk_233_2 {u : sm_M} (h : Ly u) (f : Nat → sm_R) : sm_rr (sm_Rf u 233 2) f = f 235 := by rw [yr_233_2 h]; rfl
theorem yk_236_0 {u : sm_M} (h : Ly u) (f : Nat → sm_R) : sm_rr (sm_Rf u 236 0) f = f 237 := by rw [yr_236_0 h]; rfl
theorem yk_236_1 {u : sm_M} (h : Ly u) (f : Nat → sm_R) : sm_rr (sm_Rf u 236 1) f = f 238 := by rw [yr_236_1 h]; rfl
theorem yk_236_2 {u : sm_M} (h : Ly u) (f : Nat → sm_R) : sm_rr (sm_Rf u 236 2) f = f 239 := by rw [yr_236_2 h]; rfl
theorem yk_236_3 {u : sm_M} (h : Ly u) (f : Nat → sm_R) : sm_rr (sm_Rf u 236 3) f = f 240 := by rw [yr_236_3 h]; rfl
theorem yk_236_4 {u : sm_M} (h : Ly u) (f : Nat → sm_R) : sm_rr (sm_Rf u 236 4) f = f 241 := by rw [yr_236_4 h]; rfl
theorem yk_236_5 {u : sm_M} (h : Ly u) (f : Nat → sm_R) : sm_rr (sm_Rf u 236 5) f = f 242 := by rw [yr_236_5 h]; rfl
theorem yk_243_0 {u : sm_M} (h : Ly u) (f : Nat → sm_R) : sm_rr (sm_Rf u 243 0) f = f 244 := by rw [yr_243_0 h]; rfl
theorem yk_243_1 {u : sm_M} (h : Ly u) (f : Nat → sm_R) : sm_rr (sm_Rf u 243 1) f = f 245 := by rw [yr_243_1 h]; rfl
theorem yk_243_2 {u : sm_M} (h : Ly u) (f : Nat → sm_R) : sm_rr (sm_Rf u 243 2) f = f 246 := by rw [yr_243_2 h]; rfl
theorem yk_243_3 {u : sm_M} (h : Ly u) (f : Nat → sm_R) : sm_rr (sm_Rf u 243 3) f = f 247 := by rw [yr_243_3 h]; rfl
theorem yk_243_4 {u : sm_M} (h : Ly u) (f : Nat → sm_R) : sm_rr (sm_Rf u 243 4) f = f 248 := by rw [yr_243_4 h]; rfl
theorem yk_243_5 {u : sm_M} (h : Ly u) (f : Nat → sm_R) : sm_rr (sm_Rf u 243 5) f = f 249 := by rw [yr_243_5 h]; rfl
theorem yk_250_0 {u : sm_M} (h : Ly u) (f : Nat → sm_R) : sm_rr (sm_Rf u 250 0) f = f 251 := by rw [yr_250_0 h]; rfl
theorem yk_250_1 {u : sm_M} (h : Ly u) (f : Nat → sm_R) : sm_rr (sm_Rf u 250 1) f = f 252 := by rw [yr_250_1 h]; rfl
theorem yk_250_2 {u : sm_M} (h : Ly u) (f : Nat → sm_R) : sm_rr (sm_Rf u 250 2) f = f 253 := by rw [yr_250_2 h]; rfl
theorem yk_250_3 {u : sm_M} (h : Ly u) (f : Nat → sm_R) : sm_rr (sm_Rf u 250 3) f = f 254 := by rw [yr_250_3 h]; rfl
theorem yk_250_4 {u : sm_M} (h : Ly u) (f : Nat → sm_R) : sm_rr (sm_Rf u 250 4) f = f 255 := by rw [yr_250_4 h]; rfl
theorem yk_250_5 {u : sm_M} (h : Ly u) (f : Nat → sm_R) : sm_rr (sm_Rf u 250 5) f = f 256 := by rw [yr_250_5 h]; rfl
theorem yk_257_0 {u : sm_M} (h : Ly u) (f : Nat → sm_R) : sm_rr (sm_Rf u 257 0) f = f 258 := by rw [yr_257_0 h]; rfl
theorem yk_257_1 {u : sm_M} (h : Ly u) (f : Nat → sm_R) : sm_rr (sm_Rf u 257 1) f = f 259 := by rw [yr_257_1 h]; rfl
theorem yk_257_2 {u : sm_M} (h : Ly u) (f : Nat → sm_R) : sm_rr (sm_Rf u 257 2) f = f 260 := by rw [yr_257_2 h]; rfl
theorem yk_257_3 {u : sm_M} (h : Ly u) (f : Nat → sm_R) : sm_rr (sm_Rf u 257 3) f = f 261 := by rw [yr_257_3 h]; rfl
theorem yk_257_4 {u : sm_M} (h : Ly u) (f : Nat → sm_R) : sm_rr (sm_Rf u 257 4) f = f 262 := by rw [yr_257_4 h]; rfl
theorem yk_257_5 {u : sm_M} (h : Ly u) (f : Nat → sm_R) : sm_rr (sm_Rf u 257 5) f = f 263 := by rw [yr_257_5 h]; rfl
theorem yk_264_0 {u : sm_M} (h : Ly u) (f : Nat → sm_R) : sm_rr (sm_Rf u 264 0) f = f 1 := by rw [yr_264_0 h]; rfl
theorem yk_264_1 {u : sm_M} (h : Ly u) (f : Nat → sm_R) : sm_rr (sm_Rf u 264 1) f = f 233 := by rw [yr_264_1 h]; rfl
theorem yk_264_2 {u : sm_M} (h : Ly u) (f : Nat → sm_R) : sm_rr (sm_Rf u 264 2) f = f 265 := by rw [yr_264_2 h]; rfl
theorem yk_264_3 {u : sm_M} (h : Ly u) (f : Nat → sm_R) : sm_rr (sm_Rf u 264 3) f = f 266 := by rw [yr_264_3 h]; rfl
theorem yk_264_4 {u : sm_M} (h : Ly u) (f : Nat → sm_R) : sm_rr (sm_Rf u 264 4) f = f 267 := by rw [yr_264_4 h]; rfl
theorem yk_268_0 {u : sm_M} (h : Ly u) (f : Nat → sm_R) : sm_rr (sm_Rf u 268 0) f = f 1 := by rw [yr_268_0 h]; rfl
theorem yk_268_1 {u : sm_M} (h : Ly u) (f : Nat → sm_R) : sm_rr (sm_Rf u 268 1) f = f 233 := by rw [yr_268_1 h]; rfl
theorem yk_268_2 {u : sm_M} (h : Ly u) (f : Nat → sm_R) : sm_rr (sm_Rf u 268 2) f = f 269 := by rw [yr_268_2 h]; rfl
theorem yk_268_3 {u : sm_M} (h : Ly u) (f : Nat → sm_R) : sm_rr (sm_Rf u 268 3) f = f 270 := by rw [yr_268_3 h]; rfl
theorem yk_271_0 {u : sm_M} (h : Ly u) (f : Nat → sm_R) : sm_rr (sm_Rf u 271 0) f = f 1 := by rw [yr_271_0 h]; rfl
theorem yk_271_1 {u : sm_M} (h : Ly u) (f : Nat → sm_R) : sm_rr (sm_Rf u 271 1) f = f 233 := by rw [yr_271_1 h]; rfl
theorem yk_271_2 {u : sm_M} (h : Ly u) (f : Nat → sm_R) : sm_rr (sm_Rf u 271 2) f = f 272 := by rw [yr_271_2 h]; rfl
theorem yk_271_3 {u : sm_M} (h : Ly u) (f : Nat → sm_R) : sm_rr (sm_Rf u 271 3) f = f 273 := by rw [yr_271_3 h]; rfl
theorem yk_271_4 {u : sm_M} (h : Ly u) (f : Nat → sm_R) : sm_rr (sm_Rf u 271 4) f = f 274 := by rw [yr_271_4 h]; rfl
theorem yk_275_0 {u : sm_M} (h : Ly u) (f : Nat → sm_R) : sm_rr (sm_Rf u 275 0) f = f 276 := by rw [yr_275_0 h]; rfl
theorem yk_275_1 {u : sm_M} (h : Ly u) (f : Nat → sm_R) : sm_rr (sm_Rf u 275 1) f = f 277 := by rw [yr_275_1 h]; rfl
theorem yk_275_2 {u : sm_M} (h : Ly u) (f : Nat → sm_R) : sm_rr (sm_Rf u 275 2) f = f 278 := by rw [yr_275_2 h]; rfl
theorem yk_275_3 {u : sm_M} (h : Ly u) (f : Nat → sm_R) : sm_rr (sm_Rf u 275 3) f = f 279 := by rw [yr_275_3 h]; rfl
theorem yk_275_15 {u : sm_M} (h : Ly u) (f : Nat → sm_R) : sm_rr (sm_Rf u 275 15) f = f 280 := by rw [yr_275_15 h]; rfl
theorem yk_275_16 {u : sm_M} (h : Ly u) (f : Nat → sm_R) : sm_rr (sm_Rf u 275 16) f = f 281 := by rw [yr_275_16 h]; rfl
theorem yk_275_22 {u : sm_M} (h : Ly u) (f : Nat → sm_R) : sm_rr (sm_Rf u 275 22) f = f 282 := by rw [yr_275_22 h]; rfl
theorem yk_275_23 {u : sm_M} (h : Ly u) (f : Nat → sm_R) : sm_rr (sm_Rf u 275 23) f = f 283 := by rw [yr_275_23 h]; rfl
theorem yk_275_24 {u : sm_M} (h : Ly u) (f : Nat → sm_R) : sm_rr (sm_Rf u 275 24) f = f 284 := by rw [yr_275_24 h]; rfl
theorem yk_275_25 {u : sm_M} (h : Ly u) (f : Nat → sm_R) : sm_rr (sm_Rf u 275 25) f = f 285 := by rw [yr_275_25 h]; rfl
theorem yk_275_26 {u : sm_M} (h : Ly u) (f : Nat → sm_R) : sm_rr (sm_Rf u 275 26) f = f 286 := by rw [yr_275_26 h]; rfl
theorem yk_275_27 {u : sm_M} (h : Ly u) (f : Nat → sm_R) : sm_rr (sm_Rf u 275 27) f = f 287 := by rw [yr_275_27 h]; rfl
theorem yk_275_28 {u : sm_M} (h : Ly u) (f : Nat → sm_R) : sm_rr (sm_Rf u 275 28) f = f 288 := by rw [yr_275_28 h]; rfl
theorem yk_275_29 {u : sm_M} (h : Ly u) (f : Nat → sm_R) : sm_rr (sm_Rf u 275 29) f = f 289 := by rw [yr_275_29 h]; rfl
theorem yk_275_30 {u : sm_M} (h : Ly u) (f : Nat → sm_R) : sm_rr (sm_Rf u 275 30) f = f 290 := by rw [yr_275_30 h]; rfl
theorem yk_275_31 {u : sm_M} (h : Ly u) (f : Nat → sm_R) : sm_rr (sm_Rf u 275 31) f = f 291 := by rw [yr_275_31 h]; rfl
theorem yk_275_32 {u : sm_M} (h : Ly u) (f : Nat → sm_R) : sm_rr (sm_Rf u 275 32) f = f 292 := by rw [yr_275_32 h]; rfl
theorem yk_275_33 {u : sm_M} (h : Ly u) (f : Nat → sm_R) : sm_rr (sm_Rf u 275 33) f = f 293 := by rw [yr_275_33 h]; rfl
theorem s_isOneOf_k (d : Nat) (u : sm_M) (v c : Int32) (f : Int32 → sm_M → sm_R) : sm_ri (sm_call (d + 1) 195 [.int v, .int c] u) f = f (if 0 ≤ v ∧ v < c then 1 else 0) u := by rw [s_isOneOf]; rfl
theorem s_isIn_k (d : Nat) (u : sm_M) (v lo hi : Int32) (f : Int32 → sm_M → sm_R) : sm_ri (sm_call (d + 1) 201 [.int v, .int lo, .int hi] u) f = f (if lo ≤ v ∧ v ≤ hi then 1 else 0) u := by rw [s_isIn]; rfl
theorem s_bits_k (d : Nat) (u : sm_M) {a : Nat} (ha : a < 2 ^ 31) (f : Int32 → sm_M → sm_R) : sm_ri (sm_call (d + 1) 203 [.int (nI a)] u) f = f (nI (cnt a 10)) u := by rw [s_bits d u ha]; rfl
