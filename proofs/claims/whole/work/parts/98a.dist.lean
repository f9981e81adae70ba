/-! distances in doors (walk): what fixes them -/
theorem pig : ∀ (n m : Nat) (f : Nat → Nat), (∀ i, i < m → f i < n) → (∀ i j, i < j → j < m → f i ≠ f j) → m ≤ n
  | 0, m, f, h1, _ => by
    rcases Nat.eq_zero_or_pos m with e | e
    · omega
    · exact absurd (h1 0 e) (Nat.not_lt_zero _)
  | n + 1, m, f, h1, h2 => by
    by_cases hx : ∃ i, i < m ∧ f i = n
    · obtain ⟨x, hx, e⟩ := hx
      have := pig n (m - 1) (fun i => if i < x then f i else f (i + 1)) (fun i hi => by
        by_cases q : i < x
        · have a := h1 i (by omega)
          have b := h2 i x q hx
          simp only [if_pos q]
          omega
        · have a := h1 (i + 1) (by omega)
          have b := h2 x (i + 1) (by omega) (by omega)
          simp only [if_neg q]
          omega) (fun i j hij hj => by
        by_cases q : j < x
        · have q' : i < x := by omega
          simp only [if_pos q, if_pos q']
          exact h2 i j hij (by omega)
        · by_cases q' : i < x
          · simp only [if_neg q, if_pos q']
            exact h2 i (j + 1) (by omega) (by omega)
          · simp only [if_neg q, if_neg q']
            exact h2 (i + 1) (j + 1) (by omega) (by omega))
      omega
    · have := pig n m f (fun i hi => by
        have a := h1 i hi
        have b : f i ≠ n := fun e => hx ⟨i, hi, e⟩
        omega) h2
      omega
theorem xp {k w c : Nat} (hw : w < 2 ^ k) (hc : c < k) : w ^^^ 2 ^ c < 2 ^ k := Nat.xor_lt_two_pow hw (Nat.pow_lt_pow_right (by decide) hc)
theorem xx (w c : Nat) : w ^^^ 2 ^ c ^^^ 2 ^ c = w := by rw [Nat.xor_assoc, Nat.xor_self, Nat.xor_zero]
def ud (D : Nat → Option Nat) (x : Nat) (y : Option Nat) : Nat → Option Nat := fun w => if w = x then y else D w
theorem ud_a {D : Nat → Option Nat} {x : Nat} {y : Option Nat} : ud D x y x = y := if_pos rfl
theorem ud_n {D : Nat → Option Nat} {x w : Nat} {y : Option Nat} (h : w ≠ x) : ud D x y w = D w := if_neg h
def Dp (P : Nat → Bool) (k t : Nat) (D : Nat → Option Nat) : Prop :=
  (P t = true → D t = some 0) ∧ (∀ w, w < 2 ^ k → D w = some 0 → w = t ∧ P t = true) ∧
  (∀ w i, w < 2 ^ k → D w = some (i + 1) → P w = true ∧ ∃ c, c < k ∧ D (w ^^^ 2 ^ c) = some i)
def Cl (P : Nat → Bool) (D : Nat → Option Nat) (w C : Nat) : Prop := ∀ c a, c < C → P (w ^^^ 2 ^ c) = true → D w = some a → ∃ b, b ≤ a + 1 ∧ D (w ^^^ 2 ^ c) = some b
def Dok (P : Nat → Bool) (k t : Nat) (D : Nat → Option Nat) : Prop := Dp P k t D ∧ ∀ w, w < 2 ^ k → Cl P D w k
theorem Dok_le {P : Nat → Bool} {k t : Nat} {D E : Nat → Option Nat} (hD : Dok P k t D) (hE : Dok P k t E) : ∀ i w, w < 2 ^ k → D w = some i → ∃ j, j ≤ i ∧ E w = some j
  | 0, w, hw, h => by
    obtain ⟨rfl, h2⟩ := hD.1.2.1 w hw h
    exact ⟨0, Nat.le_refl _, hE.1.1 h2⟩
  | i + 1, w, hw, h => by
    obtain ⟨hp, c, hc, h2⟩ := hD.1.2.2 w i hw h
    obtain ⟨j, hj, h3⟩ := Dok_le hD hE i _ (xp hw hc) h2
    have := hE.2 _ (xp hw hc) c j hc (by rw [xx]; exact hp) h3
    rw [xx] at this
    obtain ⟨b, hb, h4⟩ := this
    exact ⟨b, by omega, h4⟩
theorem Dok_eq {P : Nat → Bool} {k t : Nat} {D E : Nat → Option Nat} (hD : Dok P k t D) (hE : Dok P k t E) {w : Nat} (hw : w < 2 ^ k) : D w = E w := by
  cases h : D w with
  | some i =>
    obtain ⟨j, hj, h1⟩ := Dok_le hD hE i w hw h
    obtain ⟨x, hx, h2⟩ := Dok_le hE hD j w hw h1
    rw [h] at h2
    injection h2 with h2
    rw [h1]
    congr 1
    omega
  | none =>
    cases h1 : E w with
    | none => rfl
    | some j =>
      obtain ⟨x, hx, h2⟩ := Dok_le hE hD j w hw h1
      rw [h] at h2
      cases h2
noncomputable def dd (P : Nat → Bool) (k t : Nat) : Nat → Option Nat := @dite _ (∃ D, Dok P k t D) (Classical.propDecidable _) (fun h => h.choose) (fun _ _ => none)
theorem dd_eq {P : Nat → Bool} {k t : Nat} {D : Nat → Option Nat} (hD : Dok P k t D) {w : Nat} (hw : w < 2 ^ k) : D w = dd P k t w := by
  have hx : ∃ D, Dok P k t D := ⟨D, hD⟩
  unfold dd
  rw [dif_pos hx]
  exact Dok_eq hD hx.choose_spec hw
theorem Dp.add {P : Nat → Bool} {k t : Nat} {D : Nat → Option Nat} (h : Dp P k t D) {w c i : Nat} (hw : w < 2 ^ k) (hc : c < k) (hi : D w = some i) (hn : D (w ^^^ 2 ^ c) = none) (hp : P (w ^^^ 2 ^ c) = true) : Dp P k t (ud D (w ^^^ 2 ^ c) (some (i + 1))) := by
  refine ⟨fun ht => ?_, fun x hx e => ?_, fun x j hx e => ?_⟩
  · have e := h.1 ht
    rw [ud_n (fun q => by rw [q, hn] at e; cases e)]
    exact e
  · by_cases q : x = w ^^^ 2 ^ c
    · subst q
      rw [ud_a] at e
      cases e
    · rw [ud_n q] at e
      exact h.2.1 x hx e
  · have key : ∀ y z, D y = some z → ud D (w ^^^ 2 ^ c) (some (i + 1)) y = some z := fun y z e => by
      rw [ud_n (fun q => by rw [q, hn] at e; cases e)]
      exact e
    by_cases q : x = w ^^^ 2 ^ c
    · subst q
      rw [ud_a] at e
      injection e with e
      have e : i = j := by omega
      subst e
      refine ⟨hp, c, hc, ?_⟩
      rw [xx]
      exact key _ _ hi
    · rw [ud_n q] at e
      obtain ⟨h1, c', h2, h3⟩ := h.2.2 x j hx e
      exact ⟨h1, c', h2, key _ _ h3⟩
theorem Dp.ch {P : Nat → Bool} {k t : Nat} {D : Nat → Option Nat} (h : Dp P k t D) : ∀ i w, w < 2 ^ k → D w = some i → ∃ f : Nat → Nat, ∀ j, j ≤ i → f j < 2 ^ k ∧ D (f j) = some j
  | 0, w, hw, e => ⟨fun _ => w, fun j hj => ⟨hw, by rw [e]; congr 1; omega⟩⟩
  | i + 1, w, hw, e => by
    obtain ⟨_, c, hc, h2⟩ := h.2.2 w i hw e
    obtain ⟨f, hf⟩ := Dp.ch h i _ (xp hw hc) h2
    refine ⟨fun j => if j = i + 1 then w else f j, fun j hj => ?_⟩
    by_cases q : j = i + 1
    · subst q
      simp only [if_true]
      exact ⟨hw, e⟩
    · simp only [if_neg q]
      exact hf j (by omega)
theorem Dp.lt {P : Nat → Bool} {k t : Nat} {D : Nat → Option Nat} (h : Dp P k t D) {i w : Nat} (hw : w < 2 ^ k) (e : D w = some i) : i < 2 ^ k := by
  obtain ⟨f, hf⟩ := h.ch i w hw e
  exact pig (2 ^ k) (i + 1) f (fun j hj => (hf j (by omega)).1) (fun a b hab hb q => by
    have h1 := (hf a (by omega)).2
    have h2 := (hf b (by omega)).2
    rw [q, h2] at h1
    injection h1 with h1
    omega)
theorem Cl.add {P : Nat → Bool} {D : Nat → Option Nat} {w C x : Nat} {y : Option Nat} (h : Cl P D w C) (hn : D x = none) (hw : w ≠ x) : Cl P (ud D x y) w C := by
  intro c a hc hp e
  rw [ud_n hw] at e
  obtain ⟨b, hb, e2⟩ := h c a hc hp e
  exact ⟨b, hb, by rw [ud_n (fun q => by rw [q, hn] at e2; cases e2)]; exact e2⟩
theorem Cl.up {P : Nat → Bool} {D : Nat → Option Nat} {w C : Nat} (h : Cl P D w C) (h1 : P (w ^^^ 2 ^ C) = true → ∀ a, D w = some a → ∃ b, b ≤ a + 1 ∧ D (w ^^^ 2 ^ C) = some b) : Cl P D w (C + 1) := by
  intro c a hc hp e
  by_cases q : c = C
  · subst q
    exact h1 hp a e
  · exact h c a (by omega) hp e
/-! the queue -/
def Bq (k : Nat) (D : Nat → Option Nat) (q : Nat → Nat) (T : Nat) : Prop :=
  (∀ i, i < T → q i < 2 ^ k ∧ ∃ a, D (q i) = some a) ∧ (∀ w a, w < 2 ^ k → D w = some a → ∃ i, i < T ∧ q i = w) ∧
  (∀ i j, i < j → j < T → q i ≠ q j) ∧ (∀ i j a b, i < j → j < T → D (q i) = some a → D (q j) = some b → a ≤ b)
def BI (P : Nat → Bool) (k t : Nat) (D : Nat → Option Nat) (q : Nat → Nat) (T H C : Nat) : Prop :=
  Dp P k t D ∧ Bq k D q T ∧ (∀ i, i < H → i < T → Cl P D (q i) k) ∧ (H < T → (∀ j a b, j < T → D (q H) = some a → D (q j) = some b → b ≤ a + 1) ∧ Cl P D (q H) C)
theorem Bq.le {k T : Nat} {D : Nat → Option Nat} {q : Nat → Nat} (h : Bq k D q T) : T ≤ 2 ^ k := pig _ _ q (fun i hi => (h.1 i hi).1) h.2.2.1
def uq (q : Nat → Nat) (T x : Nat) : Nat → Nat := fun i => if i = T then x else q i
theorem uq_a {q : Nat → Nat} {T x : Nat} : uq q T x T = x := if_pos rfl
theorem uq_n {q : Nat → Nat} {T x i : Nat} (h : i < T) : uq q T x i = q i := if_neg (by omega)
theorem BI.add {P : Nat → Bool} {k t : Nat} {D : Nat → Option Nat} {q : Nat → Nat} {T H C a : Nat} (h : BI P k t D q T H C) (hT : H < T) (hc : C < k) (hi : D (q H) = some a) (hn : D (q H ^^^ 2 ^ C) = none) (hp : P (q H ^^^ 2 ^ C) = true) :
    BI P k t (ud D (q H ^^^ 2 ^ C) (some (a + 1))) (uq q T (q H ^^^ 2 ^ C)) (T + 1) H (C + 1) := by
  obtain ⟨g1, ⟨b1, b2, b3, b4⟩, g3, g4⟩ := h
  obtain ⟨g4, g5⟩ := g4 hT
  have hw := (b1 H hT).1
  have ne : ∀ i, i < T → q i ≠ q H ^^^ 2 ^ C := fun i hi e => by
    obtain ⟨_, a, h2⟩ := b1 i hi
    rw [e, hn] at h2
    cases h2
  have dq : ∀ i, i < T → ud D (q H ^^^ 2 ^ C) (some (a + 1)) (uq q T (q H ^^^ 2 ^ C) i) = D (q i) := fun i hi => by
    rw [uq_n hi, ud_n (ne i hi)]
  have dT : ud D (q H ^^^ 2 ^ C) (some (a + 1)) (uq q T (q H ^^^ 2 ^ C) T) = some (a + 1) := by rw [uq_a, ud_a]
  refine ⟨g1.add hw hc hi hn hp, ⟨fun i hi => ?_, fun w b hw2 e => ?_, fun i j hij hj => ?_, fun i j x y hij hj e1 e2 => ?_⟩, fun i hi _ => ?_, fun _ => ⟨fun j x y hj e1 e2 => ?_, ?_⟩⟩
  · by_cases e : i = T
    · subst e
      rw [dT, uq_a]
      exact ⟨xp hw hc, _, rfl⟩
    · rw [dq i (by omega), uq_n (by omega)]
      exact b1 i (by omega)
  · by_cases e3 : w = q H ^^^ 2 ^ C
    · exact ⟨T, by omega, by rw [uq_a, e3]⟩
    · rw [ud_n e3] at e
      obtain ⟨i, h1, h2⟩ := b2 w b hw2 e
      exact ⟨i, by omega, by rw [uq_n h1, h2]⟩
  · by_cases e : j = T
    · subst e
      rw [uq_a, uq_n hij]
      exact ne i hij
    · rw [uq_n (by omega), uq_n (by omega)]
      exact b3 i j hij (by omega)
  · rw [dq i (by omega)] at e1
    by_cases e : j = T
    · subst e
      rw [dT] at e2
      injection e2 with e2
      have := g4 i a x hij hi e1
      omega
    · rw [dq j (by omega)] at e2
      exact b4 i j x y hij (by omega) e1 e2
  · rw [uq_n (by omega)]
    exact (g3 i hi (by omega)).add hn (ne i (by omega))
  · rw [dq H hT] at e1
    rw [hi] at e1
    injection e1 with e1
    by_cases e : j = T
    · subst e
      rw [dT] at e2
      injection e2 with e2
      omega
    · rw [dq j (by omega)] at e2
      have := g4 j a y (by omega) hi e2
      omega
  · rw [uq_n hT]
    refine (g5.add hn (ne H hT)).up (fun _ x e => ⟨a + 1, ?_, ud_a⟩)
    rw [ud_n (ne H hT), hi] at e
    injection e with e
    omega
theorem BI.skip {P : Nat → Bool} {k t : Nat} {D : Nat → Option Nat} {q : Nat → Nat} {T H C : Nat} (h : BI P k t D q T H C) (hT : H < T) (hc : C < k) (hn : P (q H ^^^ 2 ^ C) = true → D (q H ^^^ 2 ^ C) ≠ none) : BI P k t D q T H (C + 1) := by
  obtain ⟨g1, ⟨b1, b2, b3, b4⟩, g3, g4⟩ := h
  obtain ⟨g4, g5⟩ := g4 hT
  refine ⟨g1, ⟨b1, b2, b3, b4⟩, g3, fun _ => ⟨g4, g5.up (fun hp a e => ?_)⟩⟩
  cases h : D (q H ^^^ 2 ^ C) with
  | none => exact absurd h (hn hp)
  | some b =>
    obtain ⟨i, h1, h2⟩ := b2 _ b (xp (b1 H hT).1 hc) h
    exact ⟨b, g4 i a b h1 e (by rw [h2]; exact h), rfl⟩
theorem BI.next {P : Nat → Bool} {k t : Nat} {D : Nat → Option Nat} {q : Nat → Nat} {T H : Nat} (h : BI P k t D q T H k) (hT : H < T) : BI P k t D q T (H + 1) 0 := by
  obtain ⟨g1, ⟨b1, b2, b3, b4⟩, g3, g4⟩ := h
  obtain ⟨g4, g5⟩ := g4 hT
  refine ⟨g1, ⟨b1, b2, b3, b4⟩, fun i hi hi2 => ?_, fun hT2 => ⟨fun j a b hj e1 e2 => ?_, fun c a hc => absurd hc (Nat.not_lt_zero c)⟩⟩
  · by_cases e : i = H
    · subst e; exact g5
    · exact g3 i (by omega) hi2
  · obtain ⟨_, x, e⟩ := b1 H hT
    have := b4 H (H + 1) x a (by omega) hT2 e e1
    have := g4 j x b hj e e2
    omega
theorem BI.done {P : Nat → Bool} {k t : Nat} {D : Nat → Option Nat} {q : Nat → Nat} {T H : Nat} (h : BI P k t D q T H 0) (hT : T ≤ H) : Dok P k t D := by
  obtain ⟨g1, ⟨b1, b2, b3, b4⟩, g3, g4⟩ := h
  refine ⟨g1, fun w hw c a hc hp e => ?_⟩
  obtain ⟨i, h1, h2⟩ := b2 w a hw e
  subst h2
  exact g3 i (by omega) h1 c a hc hp e
theorem BI.st1 {P : Nat → Bool} {k t : Nat} {q : Nat → Nat} (ht : t < 2 ^ k) (hp : P t = true) (hq : q 0 = t) : BI P k t (ud (fun _ => none) t (some 0)) q 1 0 0 := by
  refine ⟨⟨fun _ => ud_a, fun w _ e => ⟨?_, hp⟩, fun w i _ e => ?_⟩, ⟨fun i hi => ?_, fun w a hw e => ?_, fun i j h1 h2 => by omega, fun i j a b h1 h2 => by omega⟩, fun i hi => absurd hi (Nat.not_lt_zero i), fun _ => ⟨fun j a b hj e1 e2 => ?_, fun c a hc => absurd hc (Nat.not_lt_zero c)⟩⟩
  · by_cases e2 : w = t
    · exact e2
    · rw [ud_n e2] at e; cases e
  · by_cases e2 : w = t
    · subst e2; rw [ud_a] at e; cases e
    · rw [ud_n e2] at e; cases e
  · have : i = 0 := by omega
    subst this
    rw [hq, ud_a]
    exact ⟨ht, _, rfl⟩
  · by_cases e2 : w = t
    · exact ⟨0, by omega, by rw [hq, e2]⟩
    · rw [ud_n e2] at e; cases e
  · have : j = 0 := by omega
    subst this
    rw [e1] at e2
    injection e2 with e2
    omega
theorem BI.st0 {P : Nat → Bool} {k t : Nat} {q : Nat → Nat} (hp : ¬ P t = true) : BI P k t (fun _ => none) q 0 0 0 :=
  ⟨⟨fun h => absurd h hp, fun w _ e => (by cases e), fun w i _ e => (by cases e)⟩, ⟨fun i hi => absurd hi (Nat.not_lt_zero i), fun w a hw e => (by cases e), fun i j _ h => absurd h (Nat.not_lt_zero j), fun i j _ _ _ h => absurd h (Nat.not_lt_zero j)⟩, fun i hi => absurd hi (Nat.not_lt_zero i), fun h => absurd h (Nat.not_lt_zero 0)⟩
/-! by rounds -/
def RI (P : Nat → Bool) (k t : Nat) (D : Nat → Option Nat) (r W C : Nat) : Prop :=
  Dp P k t D ∧ (∀ w i, w < 2 ^ k → D w = some i → i ≤ r + 1) ∧ (∀ w i, w < 2 ^ k → D w = some i → (i < r ∨ (i = r ∧ w < W)) → Cl P D w k) ∧ (D W = some r → Cl P D W C)
theorem RI.add {P : Nat → Bool} {k t : Nat} {D : Nat → Option Nat} {r W C : Nat} (h : RI P k t D r W C) (hW : W < 2 ^ k) (hc : C < k) (hi : D W = some r) (hn : D (W ^^^ 2 ^ C) = none) (hp : P (W ^^^ 2 ^ C) = true) : RI P k t (ud D (W ^^^ 2 ^ C) (some (r + 1))) r W (C + 1) := by
  obtain ⟨g1, g2, g3, g4⟩ := h
  have nW : W ≠ W ^^^ 2 ^ C := fun q => by rw [← q, hi] at hn; cases hn
  refine ⟨g1.add hW hc hi hn hp, fun w i hw e => ?_, fun w i hw e h2 => ?_, fun _ => ?_⟩
  · by_cases q : w = W ^^^ 2 ^ C
    · subst q
      rw [ud_a] at e
      injection e with e
      omega
    · rw [ud_n q] at e
      exact g2 w i hw e
  · by_cases q : w = W ^^^ 2 ^ C
    · subst q
      rw [ud_a] at e
      injection e with e
      omega
    · rw [ud_n q] at e
      exact (g3 w i hw e h2).add hn q
  · refine ((g4 hi).add hn nW).up (fun _ a e => ⟨r + 1, ?_, ud_a⟩)
    rw [ud_n nW, hi] at e
    injection e with e
    omega
theorem RI.skip {P : Nat → Bool} {k t : Nat} {D : Nat → Option Nat} {r W C : Nat} (h : RI P k t D r W C) (hW : W < 2 ^ k) (hc : C < k) (hn : D W = some r → P (W ^^^ 2 ^ C) = true → D (W ^^^ 2 ^ C) ≠ none) : RI P k t D r W (C + 1) := by
  obtain ⟨g1, g2, g3, g4⟩ := h
  refine ⟨g1, g2, g3, fun hi => (g4 hi).up (fun hp a e => ?_)⟩
  rw [hi] at e
  injection e with e
  subst e
  cases h : D (W ^^^ 2 ^ C) with
  | none => exact absurd h (hn hi hp)
  | some b => exact ⟨b, g2 _ b (xp hW hc) h, rfl⟩
theorem RI.way {P : Nat → Bool} {k t : Nat} {D : Nat → Option Nat} {r W : Nat} (h : RI P k t D r W k) : RI P k t D r (W + 1) 0 := by
  obtain ⟨g1, g2, g3, g4⟩ := h
  refine ⟨g1, g2, fun w i hw e h2 => ?_, fun _ c a hc => absurd hc (Nat.not_lt_zero c)⟩
  by_cases q : w = W
  · subst q
    by_cases q2 : i = r
    · subst q2; exact g4 e
    · exact g3 w i hw e (Or.inl (by omega))
  · exact g3 w i hw e (by omega)
theorem RI.rnd {P : Nat → Bool} {k t : Nat} {D : Nat → Option Nat} {r : Nat} (h : RI P k t D r (2 ^ k) 0) : RI P k t D (r + 1) 0 0 := by
  obtain ⟨g1, g2, g3, g4⟩ := h
  refine ⟨g1, fun w i hw e => Nat.le_succ_of_le (g2 w i hw e), fun w i hw e h2 => g3 w i hw e (by omega), fun _ c a hc => absurd hc (Nat.not_lt_zero c)⟩
theorem RI.done {P : Nat → Bool} {k t : Nat} {D : Nat → Option Nat} (h : RI P k t D (2 ^ k) 0 0) : Dok P k t D :=
  ⟨h.1, fun w hw c a hc hp e => h.2.2.1 w a hw e (Or.inl (h.1.lt hw e)) c a hc hp e⟩
theorem RI.st {P : Nat → Bool} {k t : Nat} : RI P k t (ud (fun _ => none) t (if P t then some 0 else none)) 0 0 0 := by
  have hz : ∀ w i, ud (fun _ => none) t (if P t then some 0 else none) w = some i → w = t ∧ P t = true ∧ i = 0 := fun w i e => by
    by_cases e2 : w = t
    · subst e2
      rw [ud_a] at e
      by_cases hp : P w = true
      · rw [if_pos hp] at e
        injection e with e
        exact ⟨rfl, hp, e.symm⟩
      · rw [if_neg hp] at e; cases e
    · rw [ud_n e2] at e; cases e
  refine ⟨⟨fun hp => ?_, fun w _ e => ⟨(hz w 0 e).1, (hz w 0 e).2.1⟩, fun w i _ e => absurd (hz w _ e).2.2 (by omega)⟩, fun w i _ e => by have := (hz w i e).2.2; omega, fun w i _ e h2 => by have := (hz w i e).2.2; omega, fun _ c a hc => absurd hc (Nat.not_lt_zero c)⟩
  rw [ud_a, if_pos hp]
/-! the walk -/
def fs (p : Nat → Bool) : Nat → Nat
  | 0 => 0
  | k + 1 => if p 0 then 0 else fs (fun x => p (x + 1)) k + 1
theorem fs_ok : ∀ (k : Nat) (p : Nat → Bool), (∃ c, c < k ∧ p c = true) → fs p k < k ∧ p (fs p k) = true ∧ ∀ c, c < fs p k → p c = false
  | 0, p, ⟨c, h, _⟩ => absurd h (Nat.not_lt_zero c)
  | k + 1, p, ⟨c, h, e⟩ => by
    unfold fs
    by_cases h0 : p 0 = true
    · rw [if_pos h0]
      exact ⟨by omega, h0, fun c hc => absurd hc (Nat.not_lt_zero c)⟩
    · rw [if_neg h0]
      obtain ⟨c, rfl⟩ : ∃ x, c = x + 1 := ⟨c - 1, by
        have : c ≠ 0 := fun q => h0 (by rw [← q]; exact e)
        omega⟩
      obtain ⟨g1, g2, g3⟩ := fs_ok k (fun x => p (x + 1)) ⟨c, by omega, e⟩
      refine ⟨by omega, g2, fun c hc => ?_⟩
      cases c with
      | zero => simpa using h0
      | succ c => exact g3 c (by omega)
def one (D : Nat → Option Nat) (w c : Nat) : Bool := match D w, D (w ^^^ 2 ^ c) with
  | some d, some i => decide (d = i + 1)
  | _, _ => false
theorem one_s {D : Nat → Option Nat} {w c d : Nat} (h : D w = some (d + 1)) : one D w c = true ↔ D (w ^^^ 2 ^ c) = some d := by
  unfold one
  rw [h]
  cases h2 : D (w ^^^ 2 ^ c) with
  | none => simp
  | some i =>
    simp only [decide_eq_true_eq, Option.some.injEq]
    omega
def stp (D : Nat → Option Nat) (k w : Nat) : Nat := fs (one D w) k
def wk (D : Nat → Option Nat) (k w : Nat) : Nat → Nat
  | 0 => w
  | j + 1 => wk D k w j ^^^ 2 ^ stp D k (wk D k w j)
theorem stp_ok {P : Nat → Bool} {k t : Nat} {D : Nat → Option Nat} (h : Dok P k t D) {w d : Nat} (hw : w < 2 ^ k) (e : D w = some (d + 1)) : stp D k w < k ∧ D (w ^^^ 2 ^ stp D k w) = some d ∧ ∀ c, c < stp D k w → D (w ^^^ 2 ^ c) ≠ some d := by
  obtain ⟨_, c, hc, h2⟩ := h.1.2.2 w d hw e
  obtain ⟨g1, g2, g3⟩ := fs_ok k (one D w) ⟨c, hc, (one_s e).2 h2⟩
  refine ⟨g1, (one_s e).1 g2, fun c hc q => ?_⟩
  have := g3 c hc
  rw [(one_s e).2 q] at this
  cases this
theorem wk_ok {P : Nat → Bool} {k t : Nat} {D : Nat → Option Nat} (h : Dok P k t D) {w d : Nat} (hw : w < 2 ^ k) (e : D w = some d) : ∀ j, j ≤ d → wk D k w j < 2 ^ k ∧ D (wk D k w j) = some (d - j)
  | 0, _ => ⟨hw, e⟩
  | j + 1, hj => by
    obtain ⟨g1, g2⟩ := wk_ok h hw e j (by omega)
    rw [show d - j = (d - (j + 1)) + 1 by omega] at g2
    obtain ⟨s1, s2, _⟩ := stp_ok h g1 g2
    exact ⟨xp g1 s1, s2⟩
theorem stp_cg {k : Nat} {D E : Nat → Option Nat} (hE : ∀ w, w < 2 ^ k → D w = E w) {w : Nat} (hw : w < 2 ^ k) : stp D k w = stp E k w := by
  unfold stp
  have : ∀ (n : Nat) (p q : Nat → Bool), (∀ c, c < n → p c = q c) → fs p n = fs q n := by
    intro n
    induction n with
    | zero => intro p q _; rfl
    | succ n ih =>
      intro p q hh
      unfold fs
      rw [hh 0 (by omega), ih _ _ (fun c hc => hh (c + 1) (by omega))]
  apply this
  intro c hc
  unfold one
  rw [hE w hw, hE _ (xp hw hc)]
