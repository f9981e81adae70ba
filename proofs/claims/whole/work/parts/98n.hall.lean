/-! laying out: the greatest number laid is the least cut -/
def sx (c : Nat → Nat) (X : Nat) : Nat → Nat
  | 0 => 0
  | k + 1 => sx c X k + (if X.testBit k = true then c k else 0)
/-- some room of S, below R, is not in X -/
def ns (S X : Nat) : Nat → Bool
  | 0 => false
  | k + 1 => ns S X k || (S.testBit k && !X.testBit k)
def cv (R : Nat) : List Nat → Nat → Nat
  | [], _ => 0
  | S :: L, X => (if ns S X R = true then 1 else 0) + cv R L X
def cut (R : Nat) (c : Nat → Nat) (L : List Nat) (X : Nat) : Nat := sx c X R + cv R L X
def mnf (f : Nat → Nat) : Nat → Nat
  | 0 => 10
  | k + 1 => min (mnf f k) (f k)
def mc (R : Nat) (c : Nat → Nat) (L : List Nat) : Nat := mnf (cut R c L) (2 ^ R)
def dc (c : Nat → Nat) (r : Nat) : Nat → Nat := fun x => if x = r then c x - 1 else c x
theorem ns_f {S X : Nat} : ∀ k, ns S X k = false ↔ ∀ r, r < k → S.testBit r = true → X.testBit r = true
  | 0 => ⟨fun _ r hr => absurd hr (Nat.not_lt_zero r), fun _ => rfl⟩
  | k + 1 => by
    unfold ns
    rw [Bool.or_eq_false_iff, ns_f k]
    constructor
    · rintro ⟨h1, h2⟩ r hr hs
      by_cases q : r = k
      · subst q
        rw [hs] at h2
        simpa using h2
      · exact h1 r (by omega) hs
    · intro h
      refine ⟨fun r hr hs => h r (by omega) hs, ?_⟩
      cases hs : S.testBit k with
      | false => rfl
      | true => rw [h k (by omega) hs]; rfl
theorem mnf_le (f : Nat → Nat) : ∀ k X, X < k → mnf f k ≤ f X
  | 0, X, h => absurd h (Nat.not_lt_zero X)
  | k + 1, X, h => by
    unfold mnf
    by_cases q : X = k
    · subst q; exact Nat.min_le_right _ _
    · exact Nat.le_trans (Nat.min_le_left _ _) (mnf_le f k X (by omega))
theorem mnf_at (f : Nat → Nat) : ∀ k, mnf f k = 10 ∨ ∃ X, X < k ∧ mnf f k = f X
  | 0 => Or.inl rfl
  | k + 1 => by
    unfold mnf
    rcases mnf_at f k with h | ⟨X, h1, h2⟩
    · rw [h]
      by_cases q : f k ≤ 10
      · exact Or.inr ⟨k, by omega, by omega⟩
      · exact Or.inl (by omega)
    · by_cases q : f k ≤ mnf f k
      · exact Or.inr ⟨k, by omega, by omega⟩
      · exact Or.inr ⟨X, by omega, by omega⟩
theorem cv_le (R : Nat) : ∀ (L : List Nat) (X : Nat), cv R L X ≤ L.length
  | [], _ => Nat.le_refl _
  | S :: L, X => by
    have := cv_le R L X
    unfold cv
    simp only [List.length_cons]
    split <;> omega
theorem sx_0 (c : Nat → Nat) : ∀ k, sx c 0 k = 0
  | 0 => rfl
  | k + 1 => by unfold sx; rw [sx_0 c k, Nat.zero_testBit]; rfl
theorem mc_at {R : Nat} {c : Nat → Nat} {L : List Nat} (hL : L.length < 10) : ∃ X, X < 2 ^ R ∧ mc R c L = cut R c L X := by
  have h0 : mc R c L ≤ cut R c L 0 := mnf_le _ _ 0 (Nat.pow_pos (by omega))
  have h1 : cut R c L 0 ≤ L.length := by unfold cut; rw [sx_0, Nat.zero_add]; exact cv_le R L 0
  rcases mnf_at (cut R c L) (2 ^ R) with h | h
  · have h : mc R c L = 10 := h
    omega
  · exact h
theorem mc_le {R : Nat} {c : Nat → Nat} {L : List Nat} {X : Nat} (hX : X < 2 ^ R) : mc R c L ≤ cut R c L X := mnf_le _ _ X hX
theorem sx_dc (c : Nat → Nat) {r X : Nat} (hc : 1 ≤ c r) : ∀ k, sx c X k = sx (dc c r) X k + (if r < k ∧ X.testBit r = true then 1 else 0)
  | 0 => by simp [sx]
  | k + 1 => by
    unfold sx
    rw [sx_dc c hc k]
    unfold dc
    by_cases q : k = r
    · subst q
      cases hx : X.testBit k <;> simp <;> omega
    · rw [if_neg q]
      have e1 : (if r < k + 1 ∧ X.testBit r = true then 1 else 0) = (if r < k ∧ X.testBit r = true then 1 else 0) := by
        by_cases q2 : r < k ∧ X.testBit r = true
        · rw [if_pos q2, if_pos ⟨by omega, q2.2⟩]
        · rw [if_neg q2, if_neg (fun z => q2 ⟨by omega, z.2⟩)]
      rw [e1]
      omega
theorem mcq_1 {R : Nat} {c : Nat → Nat} {S : Nat} {L : List Nat} (hL : L.length < 9) : mc R c L ≤ mc R c (S :: L) := by
  obtain ⟨X, hX, e⟩ := mc_at (R := R) (c := c) (L := S :: L) (by simp; omega)
  have := mc_le (R := R) (c := c) (L := L) hX
  rw [e]
  unfold cut at *
  unfold cv
  omega
theorem mcq_2 {R : Nat} {c : Nat → Nat} {S : Nat} {L : List Nat} (hL : L.length < 9) {r : Nat} (hr : r < R) (hs : S.testBit r = true) (hc : 1 ≤ c r) : mc R (dc c r) L + 1 ≤ mc R c (S :: L) := by
  obtain ⟨X, hX, e⟩ := mc_at (R := R) (c := c) (L := S :: L) (by simp; omega)
  have h := mc_le (R := R) (c := dc c r) (L := L) hX
  rw [e]
  unfold cut at *
  rw [sx_dc c hc R]
  unfold cv
  cases hx : X.testBit r with
  | true =>
    rw [if_pos ⟨hr, rfl⟩]
    omega
  | false =>
    have : ns S X R = true := by
      cases h2 : ns S X R with
      | true => rfl
      | false => rw [(ns_f R).mp h2 r hr hs] at hx; cases hx
    rw [this, if_pos rfl]
    omega
theorem sx_m (c : Nat → Nat) (X Y : Nat) : ∀ k, sx c (X ||| Y) k + sx c (X &&& Y) k = sx c X k + sx c Y k
  | 0 => rfl
  | k + 1 => by
    have := sx_m c X Y k
    unfold sx
    rw [Nat.testBit_or, Nat.testBit_and]
    cases X.testBit k <;> cases Y.testBit k <;> simp <;> omega
theorem cv_m (R : Nat) (X Y : Nat) : ∀ L, cv R L (X ||| Y) + cv R L (X &&& Y) ≤ cv R L X + cv R L Y
  | [] => Nat.le_refl _
  | S :: L => by
    have := cv_m R X Y L
    unfold cv
    have h1 : ns S X R = false → ns S (X ||| Y) R = false := fun h => (ns_f R).mpr (fun r hr hs => by rw [Nat.testBit_or, (ns_f R).mp h r hr hs]; rfl)
    have h2 : ns S Y R = false → ns S (X ||| Y) R = false := fun h => (ns_f R).mpr (fun r hr hs => by rw [Nat.testBit_or, (ns_f R).mp h r hr hs, Bool.or_true])
    have h3 : ns S X R = false → ns S Y R = false → ns S (X &&& Y) R = false := fun h h' => (ns_f R).mpr (fun r hr hs => by rw [Nat.testBit_and, (ns_f R).mp h r hr hs, (ns_f R).mp h' r hr hs]; rfl)
    cases hx : ns S X R with
    | false =>
      rw [h1 hx]
      cases hy : ns S Y R with
      | false => rw [h3 hx hy]; simp; omega
      | true =>
        simp
        split <;> omega
    | true =>
      cases hy : ns S Y R with
      | false =>
        rw [h2 hy]
        simp
        split <;> omega
      | true =>
        simp
        split <;> split <;> omega
/-- a least cut with k's least ones -/
theorem mc_u {R : Nat} {c : Nat → Nat} {L : List Nat} {X Y : Nat} (hX : X < 2 ^ R) (hY : Y < 2 ^ R) (eX : cut R c L X = mc R c L) (eY : cut R c L Y = mc R c L) : cut R c L (X ||| Y) = mc R c L := by
  have h1 := mc_le (c := c) (L := L) (Nat.or_lt_two_pow hX hY)
  have h2 := mc_le (c := c) (L := L) (Nat.and_lt_two_pow (n := R) X hY)
  have h3 := sx_m c X Y R
  have h4 := cv_m R X Y L
  unfold cut at *
  omega
theorem mcq_3 {R : Nat} {c : Nat → Nat} {S : Nat} {L : List Nat} (hL : L.length < 9) : mc R c (S :: L) = mc R c L ∨ ∃ r, r < R ∧ S.testBit r = true ∧ 1 ≤ c r ∧ mc R (dc c r) L + 1 = mc R c (S :: L) := by
  by_cases hh : ∀ r, r < R → S.testBit r = true → ∃ X, X < 2 ^ R ∧ cut R c L X = mc R c L ∧ X.testBit r = true
  · -- a least cut holds all of S
    have : ∀ k, k ≤ R → ∃ X, X < 2 ^ R ∧ cut R c L X = mc R c L ∧ ∀ r, r < k → S.testBit r = true → X.testBit r = true := by
      intro k
      induction k with
      | zero =>
        intro _
        obtain ⟨X, hX, e⟩ := mc_at (R := R) (c := c) (L := L) (by omega)
        exact ⟨X, hX, e.symm, fun r hr => absurd hr (Nat.not_lt_zero r)⟩
      | succ k ih =>
        intro hk
        obtain ⟨X, hX, e, hx⟩ := ih (by omega)
        cases hs : S.testBit k with
        | false => exact ⟨X, hX, e, fun r hr q => by
            by_cases z : r = k
            · subst z; rw [hs] at q; cases q
            · exact hx r (by omega) q⟩
        | true =>
          obtain ⟨Y, hY, eY, hy⟩ := hh k (by omega) hs
          refine ⟨X ||| Y, Nat.or_lt_two_pow hX hY, mc_u hX hY e eY, fun r hr q => ?_⟩
          rw [Nat.testBit_or]
          by_cases z : r = k
          · subst z; rw [hy, Bool.or_true]
          · rw [hx r (by omega) q]; rfl
    obtain ⟨X, hX, e, hx⟩ := this R (Nat.le_refl R)
    left
    have h1 := mcq_1 (R := R) (c := c) (S := S) (L := L) hL
    have h2 := mc_le (R := R) (c := c) (L := S :: L) hX
    have h3 : ns S X R = false := (ns_f R).mpr hx
    unfold cut at h2 e
    unfold cv at h2
    rw [h3] at h2
    simp at h2
    omega
  · right
    obtain ⟨r, hr⟩ := Classical.not_forall.mp hh
    obtain ⟨h1, hr⟩ := Classical.not_imp.mp hr
    obtain ⟨h2, h3⟩ := Classical.not_imp.mp hr
    have h4 : ∀ X, X < 2 ^ R → X.testBit r = true → mc R c L + 1 ≤ cut R c L X := fun X hX hx => by
      have a := mc_le (R := R) (c := c) (L := L) hX
      have b : cut R c L X ≠ mc R c L := fun q => h3 ⟨X, hX, q, hx⟩
      omega
    have hp : 2 ^ r < 2 ^ R := Nat.pow_lt_pow_right (by omega) h1
    -- there is space
    have hc : 1 ≤ c r := by
      rcases Nat.eq_zero_or_pos (c r) with z | z
      · exfalso
        obtain ⟨X, hX, e⟩ := mc_at (R := R) (c := c) (L := L) (by omega)
        have a := h4 (X ||| 2 ^ r) (Nat.or_lt_two_pow hX hp) (by rw [Nat.testBit_or, Nat.testBit_two_pow_self, Bool.or_true])
        have s1 := sx_m c X (2 ^ r) R
        have s2 := cv_m R X (2 ^ r) L
        have s3 : sx c (2 ^ r) R = 0 := by
          have : ∀ k, sx c (2 ^ r) k = 0 := by
            intro k
            induction k with
            | zero => rfl
            | succ k ih =>
              unfold sx
              rw [ih, Nat.testBit_two_pow]
              by_cases q : r = k
              · subst q; rw [z]; simp
              · simp [q]
          exact this R
        -- more rooms, no more pieces
        have s4 : cv R L (X ||| 2 ^ r) ≤ cv R L X := by
          have : ∀ L, cv R L (X ||| 2 ^ r) ≤ cv R L X := by
            intro L
            induction L with
            | nil => exact Nat.le_refl _
            | cons S' L ih =>
              unfold cv
              have q : ns S' X R = false → ns S' (X ||| 2 ^ r) R = false := fun h => (ns_f R).mpr (fun r' hr' hs => by rw [Nat.testBit_or, (ns_f R).mp h r' hr' hs]; rfl)
              cases hx : ns S' X R with
              | false => rw [q hx]; simp; omega
              | true => simp; split <;> omega
          exact this L
        unfold cut at *
        omega
      · exact z
    refine ⟨r, h1, h2, hc, ?_⟩
    have a := mcq_2 (R := R) (c := c) (S := S) (L := L) hL h1 h2 hc
    obtain ⟨X, hX, e⟩ := mc_at (R := R) (c := dc c r) (L := L) (by omega)
    have b : mc R c L ≤ mc R (dc c r) L := by
      rw [e]
      have := sx_dc c (X := X) hc R
      cases hx : X.testBit r with
      | true =>
        have q := h4 X hX hx
        rw [hx, if_pos ⟨h1, rfl⟩] at this
        unfold cut at *
        omega
      | false =>
        have q := mc_le (R := R) (c := c) (L := L) hX
        rw [hx, if_neg (by simp)] at this
        unfold cut at *
        omega
    have d : mc R c (S :: L) ≤ mc R c L + 1 := by
      obtain ⟨Y, hY, eY⟩ := mc_at (R := R) (c := c) (L := L) (by omega)
      have := mc_le (R := R) (c := c) (L := S :: L) hY
      rw [eY]
      unfold cut at *
      unfold cv at this
      split at this <;> omega
    omega
