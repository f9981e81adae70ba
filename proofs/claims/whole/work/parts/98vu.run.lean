/-! texts: runs of the reference's steps; the descent keeps its fault (by wip/whole/mk_98vu.py) -/
def rcK (b : Nat → Nat) (n ev : Nat) : Nat → S5 → S5 → Prop
  | 0, τ, τ' => τ = τ'
  | k + 1, τ, τ' => (stq b n ev τ).1 = 0 ∧ rcK b n ev k (stq b n ev τ).2 τ'
def Rch (b : Nat → Nat) (n ev : Nat) (τ τ' : S5) : Prop := ∃ k, rcK b n ev k τ τ'
section
variable {b : Nat → Nat} {n ev : Nat}
theorem Rch.rf (τ : S5) : Rch b n ev τ τ := ⟨0, rfl⟩
theorem Rch.st {τ τ' : S5} (q : (stq b n ev τ).1 = 0) (h : Rch b n ev (stq b n ev τ).2 τ') : Rch b n ev τ τ' := by
  obtain ⟨k, h⟩ := h
  exact ⟨k + 1, q, h⟩
theorem Rch.tr {τ τ' τ'' : S5} (h : Rch b n ev τ τ') (h' : Rch b n ev τ' τ'') : Rch b n ev τ τ'' := by
  obtain ⟨k, h⟩ := h
  induction k generalizing τ with
  | zero =>
    have h : τ = τ' := h
    rw [h]
    exact h'
  | succ k ih => exact Rch.st h.1 (ih h.2)
theorem Rch.iv {τ τ' : S5} (h : Rch b n ev τ τ') (hI : Iv n τ) : Iv n τ' ∧ τ.1 ≤ τ'.1 := by
  obtain ⟨k, h⟩ := h
  induction k generalizing τ with
  | zero =>
    have h : τ = τ' := h
    rw [← h]
    exact ⟨hI, Nat.le_refl _⟩
  | succ k ih =>
    have h1 := hI.sq (b := b) (ev := ev)
    have h2 := ih (h1.2.1 (Or.inl h.1)) h.2
    have h3 := h1.2.2 h.1
    exact ⟨h2.1, by omega⟩
theorem wh_f : ∀ (k j : Nat) (τ : S5), Iv n τ → n < τ.1 + k → n < τ.1 + j → whR b n ev k τ = whR b n ev j τ
  | 0, _, τ, h, hk, _ => by
    have := h.2.2.1
    omega
  | _, 0, τ, h, _, hj => by
    have := h.2.2.1
    omega
  | k + 1, j + 1, τ, h, hk, hj => by
    have h1 := h.sq (b := b) (ev := ev)
    show (if (stq b n ev τ).1 = 0 then whR b n ev k (stq b n ev τ).2 else _) = (if (stq b n ev τ).1 = 0 then whR b n ev j (stq b n ev τ).2 else _)
    by_cases q : (stq b n ev τ).1 = 0
    · rw [if_pos q, if_pos q]
      have := h1.2.2 q
      exact wh_f k j _ (h1.2.1 (Or.inl q)) (by omega) (by omega)
    · rw [if_neg q, if_neg q]
theorem Rch.wh {τ τ' : S5} (h : Rch b n ev τ τ') (hI : Iv n τ) (k : Nat) (hk : n < τ.1 + k) : whR b n ev k τ = whR b n ev k τ' := by
  obtain ⟨j, h⟩ := h
  induction j generalizing τ with
  | zero =>
    have h : τ = τ' := h
    rw [h]
  | succ j ih =>
    have h1 := hI.sq (b := b) (ev := ev)
    have h2 := h1.2.1 (Or.inl h.1)
    have h3 := h1.2.2 h.1
    have h4 := hI.2.2.1
    rw [← ih h2 (by omega) h.2]
    obtain ⟨k, rfl⟩ : ∃ i, k = i + 1 := ⟨k - 1, by omega⟩
    have e : whR b n ev (k + 1) τ = whR b n ev k (stq b n ev τ).2 := if_pos h.1
    rw [e]
    exact wh_f k (k + 1) _ h2 (by omega) (by omega)
def Flt (b : Nat → Nat) (n ev : Nat) (τ : S5) (f p : Nat) : Prop := ∃ τ', Rch b n ev τ τ' ∧ ((stq b n ev τ').1 = f ∧ f ≠ 0 ∧ f ≠ 9 ∧ (stq b n ev τ').2.1 = p ∨ (stq b n ev τ').1 = 9 ∧ f = 1 ∧ (ndF (stq b n ev τ').2).1 = 1 ∧ (stq b n ev τ').2.1 = p)
theorem Rch.fl {τ τ' : S5} {f p : Nat} (h : Rch b n ev τ τ') (h' : Flt b n ev τ' f p) : Flt b n ev τ f p := by
  obtain ⟨x, h1, h2⟩ := h'
  exact ⟨x, h.tr h1, h2⟩
theorem ndF_1 (τ : S5) : (ndF τ).2.1 = τ.1 := by
  unfold ndF
  split
  · rfl
  · rfl
theorem Flt.wh {τ : S5} {f p : Nat} (h : Flt b n ev τ f p) (hI : Iv n τ) {k : Nat} (hk : n < τ.1 + k) : (whR b n ev k τ).1 = f ∧ (whR b n ev k τ).2.1 = p := by
  obtain ⟨x, h1, h2⟩ := h
  rw [h1.wh hI k hk]
  obtain ⟨i1, i2⟩ := h1.iv hI
  have i3 := i1.2.2.1
  obtain ⟨k, rfl⟩ : ∃ i, k = i + 1 := ⟨k - 1, by omega⟩
  show (if (stq b n ev x).1 = 0 then whR b n ev k (stq b n ev x).2 else if (stq b n ev x).1 = 9 then ndF (stq b n ev x).2 else stq b n ev x).1 = f ∧ (if (stq b n ev x).1 = 0 then whR b n ev k (stq b n ev x).2 else if (stq b n ev x).1 = 9 then ndF (stq b n ev x).2 else stq b n ev x).2.1 = p
  rcases h2 with ⟨a1, a2, a3, a4⟩ | ⟨a1, a2, a3, a4⟩
  · rw [if_neg (show ¬ (stq b n ev x).1 = 0 by omega), if_neg (show ¬ (stq b n ev x).1 = 9 by omega)]
    exact ⟨a1, a4⟩
  · rw [if_neg (show ¬ (stq b n ev x).1 = 0 by omega), if_pos a1]
    exact ⟨by omega, by rw [ndF_1]; exact a4⟩
end
