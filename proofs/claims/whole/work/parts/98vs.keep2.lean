/-! texts: every step of the reference's law keeps the invariant (by wip/whole/mk_98vs.py) -/
theorem bet_1 (P : List Nat) : betF P 1 = 99 := by
  simp [betF, cmO]
theorem bet_23 {P : List Nat} {k : Nat} : betF P k = 23 → k = 212 ∧ opw P = 0 := by
  unfold betF cmO
  intro h
  repeat (first | omega | split at h)
theorem Pkk.tl40 {R N : List Nat} (h : Pkk (40 :: R) N) : Pkk R N := by
  obtain ⟨h1, h2, h3, h4, h5⟩ := h
  have h3 : nop R + 1 ≤ 8 := h3
  have h4 : N.length = c41 R + 0 := h4
  exact ⟨h1.tl, h2.1, by omega, h4, h5⟩
theorem Pkk.tl41 {R N : List Nat} {x : Nat} (h : Pkk (41 :: R) (x :: N)) : Pkk R N := by
  obtain ⟨h1, h2, h3, h4, h5⟩ := h
  have h3 : nop R + 1 ≤ 8 := h3
  have h4 : N.length + 1 = c41 R + 1 := h4
  exact ⟨h1.tl, h2.1, by omega, by omega, fun y hy => h5 y (List.mem_cons_of_mem _ hy)⟩
section
variable {b : Nat → Nat} {n ev : Nat}
theorem Iv.beg {τ : S5} (h : Iv n τ) (hw : ¬ τ.2.2.2.2 = true) : (begF b n ev τ).1 ≤ 8 ∧ ((begF b n ev τ).1 = 0 → Iv n (begF b n ev τ).2 ∧ τ.1 < (begF b n ev τ).2.1) := by
  unfold begF
  by_cases q2 : kdp b n τ.1 = 2
  · rw [if_pos q2]
    by_cases q : 9999 < vlp b n τ.1
    · rw [if_pos q]
      exact ⟨Nat.le_of_ble_eq_true rfl, fun z => by cases z⟩
    · rw [if_neg q]
      exact ⟨Nat.zero_le _, fun _ => h.vE (by omega) hw⟩
  rw [if_neg q2]
  by_cases q219 : kdp b n τ.1 = 219
  · rw [if_pos q219]
    exact ⟨Nat.zero_le _, fun _ => h.vE (by omega) hw⟩
  rw [if_neg q219]
  by_cases q220 : kdp b n τ.1 = 220
  · rw [if_pos q220]
    exact ⟨Nat.zero_le _, fun _ => h.vE (by omega) hw⟩
  rw [if_neg q220]
  by_cases q221 : kdp b n τ.1 = 221
  · rw [if_pos q221]
    exact ⟨Nat.zero_le _, fun _ => h.vE (by omega) hw⟩
  rw [if_neg q221]
  by_cases q40 : kdp b n τ.1 = 40
  · rw [if_pos q40]
    exact h.vO (by omega) (by omega) hw
  rw [if_neg q40]
  by_cases q45 : kdp b n τ.1 = 45
  · rw [if_pos q45]
    exact h.vO (by omega) (by omega) hw
  rw [if_neg q45]
  by_cases q218 : kdp b n τ.1 = 218
  · rw [if_pos q218]
    exact h.vO (by omega) (by omega) hw
  rw [if_neg q218]
  by_cases qa : iaa τ.2.2.1 = true
  · rw [if_neg (show ¬ ¬ iaa τ.2.2.1 = true from fun z => z qa)]
    by_cases q215 : kdp b n τ.1 = 215
    · rw [if_pos q215]
      exact h.vO (by omega) (by omega) hw
    rw [if_neg q215]
    by_cases q216 : kdp b n τ.1 = 216
    · rw [if_pos q216]
      exact h.vA (by omega) hw qa
    rw [if_neg q216]
    by_cases q217 : kdp b n τ.1 = 217
    · rw [if_pos q217]
      exact h.vA (by omega) hw qa
    rw [if_neg q217]
    exact ⟨Nat.le_of_ble_eq_true rfl, fun z => by cases z⟩
  · rw [if_pos qa]
    exact ⟨Nat.le_of_ble_eq_true rfl, fun z => by cases z⟩
theorem Iv.psh {s : Nat} {c : List (Nat × Nat)} {P N : List Nat} (hP : Pkk P N) (h6 : c.length + P.length + 1 ≤ s) (h8 : 3 * so3 P + 1 ≤ s) (hk : ¬ kdp b n s = 1) {o : Nat} (ho : 6 ≤ o ∧ o ≤ 15 ∨ 21 ≤ o ∧ o ≤ 23) (h23 : o = 23 → kdp b n s = 212 ∧ opw P = 0) {r : Nat} (hr : r = if o = 23 then 2 else rnk o) : Iv n (nx1 b n s, (stl r P c).2, o :: (stl r P c).1, N, false) := by
  obtain ⟨k1, k2, k3⟩ := nx_lt hk
  have oo : opo o := by
    unfold opo
    omega
  have hi : iso o = false := by
    rcases gg_v oo with z | z
    · have := z.1
      unfold iso at this
      simp only [Bool.or_eq_true, decide_eq_true_eq] at this
      omega
    · exact z.1
  have hv : (o = 23 ∧ rnk o = 1 ∧ gg o = 0) ∨ (o ≠ 23 ∧ rnk o = 2 ∧ gg o = 1) ∨ (o ≠ 23 ∧ rnk o = 3 ∧ gg o = 2) ∨ (o ≠ 23 ∧ rnk o = 5 ∧ gg o = 3) ∨ (o ≠ 23 ∧ rnk o = 6 ∧ gg o = 4) ∨ (o ≠ 23 ∧ rnk o = 7 ∧ gg o = 5) := by
    rcases gg_v oo with z | z
    · rw [hi] at z
      exact absurd z.1 (by decide)
    · exact z.2.2.2
  have hr1 : 1 ≤ r := by
    by_cases q : o = 23
    · rw [if_pos q] at hr
      omega
    · rw [if_neg q] at hr
      omega
  obtain ⟨g1, g2, g3, g4, g5, g6, g7⟩ := stl_k hr1 P c hP.1 hP.2.1
  obtain ⟨_, s2, s3⟩ := stl_sub r P c
  have hR := hP.vS hr1 c
  generalize (stl r P c).2 = c1 at *
  generalize (stl r P c).1 = R at *
  have hk2 : o = 23 ∧ R.length = so3 R ∨ tg1 R < gg o := by
    by_cases q : o = 23
    · rw [if_pos q] at hr
      refine Or.inl ⟨q, ?_⟩
      cases R with
      | nil => rfl
      | cons x R =>
        have x1 := g7 x R rfl
        have x2 := gg_v (g1 x List.mem_cons_self)
        have x3 := (h23 q).2
        have x4 : ¬ 40 ≤ x := by
          intro z
          have : opw (x :: R) = x := if_pos z
          omega
        have x5 : x = 23 := by
          rcases x2 with z | z
          · exfalso
            have y := z.1
            unfold iso at y
            simp only [Bool.or_eq_true, decide_eq_true_eq] at y
            rcases y with y | y | y
            · rw [y] at x1
              have : rnk 5 = 8 := rfl
              omega
            · rw [y] at x1
              have : rnk 20 = 4 := rfl
              omega
            · exact x4 y
          · omega
        have x6 : R.length = so3 R := by
          rcases g2.2 with z | z | z
          · rw [x5] at z
            exact absurd z (by decide)
          · exact z.2
          · rw [x5] at z
            have : gg 23 = 0 := rfl
            omega
        show R.length + 1 = so3 R + (if x = 23 then 1 else 0)
        rw [if_pos x5, x6]
    · rw [if_neg q] at hr
      refine Or.inr ?_
      cases R with
      | nil =>
        show 0 < gg o
        omega
      | cons x R =>
        have x1 := g7 x R rfl
        have x2 := gg_v (g1 x List.mem_cons_self)
        show gg x < gg o
        omega
  refine ⟨hR.op oo hi hk2, ?_, k3, ?_⟩
  · show c1.length + (R.length + 1) + 1 ≤ nx1 b n s
    omega
  · show 3 * (so3 R + (if o = 23 then 1 else 0)) + 0 ≤ nx1 b n s
    by_cases q : o = 23
    · have := nx_so (h23 q).1
      rw [if_pos q]
      omega
    · rw [if_neg q]
      omega
theorem Iv.cls {s : Nat} {c : List (Nat × Nat)} {R N : List Nat} (hP : Pkk R N) (h6 : c.length + R.length ≤ s) (h8 : 3 * so3 R + 1 ≤ s) (hk : ¬ kdp b n s = 1) : Iv n (nx1 b n s, (stl 8 R c).2, (stl 8 R c).1, N, true) := by
  obtain ⟨k1, k2, k3⟩ := nx_lt hk
  obtain ⟨g1, g2, g3, g4, g5, g6, g7⟩ := stl_k (r := 8) (by omega) R c hP.1 hP.2.1
  obtain ⟨_, s2, s3⟩ := stl_sub 8 R c
  refine ⟨hP.vS (by omega) c, ?_, k3, ?_⟩
  · show (stl 8 R c).2.length + (stl 8 R c).1.length + 1 ≤ nx1 b n s
    omega
  · show 3 * so3 (stl 8 R c).1 + 1 ≤ nx1 b n s
    omega
end
