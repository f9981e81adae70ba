/-! texts: the invariant of the reference's law (by wip/whole/mk_98vr.py) -/
def Pkk (P N : List Nat) : Prop := opl P ∧ okp P ∧ nop P ≤ 8 ∧ N.length = c41 P ∧ ∀ x, x ∈ N → x ≤ 6
def Iv (n : Nat) (τ : S5) : Prop := Pkk τ.2.2.1 τ.2.2.2.1 ∧ τ.2.1.length + τ.2.2.1.length + 1 ≤ τ.1 ∧ τ.1 ≤ n ∧ 3 * so3 τ.2.2.1 + (if τ.2.2.2.2 = true then 1 else 0) ≤ τ.1
theorem Pkk.vS {P N : List Nat} (h : Pkk P N) {r : Nat} (hr : 1 ≤ r) (c : List (Nat × Nat)) : Pkk (stl r P c).1 N := by
  obtain ⟨h1, h2, h3, h4, h5⟩ := h
  obtain ⟨g1, g2, g3, g4, g5, g6, g7⟩ := stl_k hr P c h1 h2
  exact ⟨g1, g2, by omega, by omega, h5⟩
theorem Iv.pre {n : Nat} (hn : n ≤ 300) {τ : S5} (h : Iv n τ) : pre5 τ ∧ τ.1 ≤ n := by
  obtain ⟨s, c, P, N, w⟩ := τ
  obtain ⟨⟨h1, h2, h3, h4, h5⟩, h6, h7, h8⟩ := h
  have h1 : opl P := h1
  have h2 : okp P := h2
  have h3 : nop P ≤ 8 := h3
  have h4 : N.length = c41 P := h4
  have h6 : c.length + P.length + 1 ≤ s := h6
  have h7 : s ≤ n := h7
  have h8 : 3 * so3 P + (if w = true then 1 else 0) ≤ s := h8
  have hl := okp_len P h1 h2
  have h5' := tg1_l h1
  obtain ⟨k1, k2⟩ := c41_l P
  refine ⟨⟨h1, show P.length < 160 by omega, show c.length + P.length < 300 by omega, show N.length < 9 by omega, fun z => ?_⟩, h7⟩
  have := k2 z
  show ∃ x N', N = x :: N' ∧ x ≤ 6
  cases N with
  | nil =>
    rw [List.length_nil] at h4
    omega
  | cons x N' => exact ⟨x, N', rfl, h5 x List.mem_cons_self⟩
section
variable {b : Nat → Nat} {n ev : Nat}
theorem Pkk.vI {P N : List Nat} {o : Nat} (h : Pkk P N) (ho : opo o) (hi : iso o = true) (h8 : ¬ nop P = 8) (h41 : ¬ o = 41) : Pkk (o :: P) N := by
  obtain ⟨h1, h2, h3, h4, h5⟩ := h
  refine ⟨fun x hx => ?_, ⟨h2, Or.inl hi⟩, ?_, ?_, h5⟩
  · rcases List.mem_cons.mp hx with z | z
    · rw [z]; exact ho
    · exact h1 x z
  · show nop P + (if iso o = true then 1 else 0) ≤ 8
    rw [if_pos hi]
    omega
  · show _ = c41 P + (if o = 41 then 1 else 0)
    rw [if_neg h41]
    exact h4
theorem Pkk.o41 {P N : List Nat} (h : Pkk P N) (h8 : ¬ nop P = 8) : Pkk (41 :: P) (1 :: N) := by
  obtain ⟨h1, h2, h3, h4, h5⟩ := h
  refine ⟨fun x hx => ?_, ⟨h2, Or.inl rfl⟩, ?_, ?_, fun x hx => ?_⟩
  · rcases List.mem_cons.mp hx with z | z
    · rw [z]; exact Or.inr (Or.inr (Or.inr rfl))
    · exact h1 x z
  · show nop P + 1 ≤ 8
    omega
  · show N.length + 1 = c41 P + 1
    rw [h4]
  · rcases List.mem_cons.mp hx with z | z
    · omega
    · exact h5 x z
theorem Pkk.op {P N : List Nat} {o : Nat} (h : Pkk P N) (ho : opo o) (hi : iso o = false) (hk : o = 23 ∧ P.length = so3 P ∨ tg1 P < gg o) : Pkk (o :: P) N := by
  obtain ⟨h1, h2, h3, h4, h5⟩ := h
  have hv := gg_v ho
  refine ⟨fun x hx => ?_, ⟨h2, Or.inr hk⟩, ?_, ?_, h5⟩
  · rcases List.mem_cons.mp hx with z | z
    · rw [z]; exact ho
    · exact h1 x z
  · show nop P + (if iso o = true then 1 else 0) ≤ 8
    rw [hi]
    exact h3
  · show _ = c41 P + (if o = 41 then 1 else 0)
    rw [if_neg (show ¬ o = 41 by
      rcases hv with z | z
      · rw [hi] at z
        exact absurd z.1 (by decide)
      · exact z.2.1)]
    exact h4
theorem so3_ni {o : Nat} {P : List Nat} (h : ¬ o = 23) : so3 (o :: P) = so3 P := by
  show so3 P + (if o = 23 then 1 else 0) = _
  rw [if_neg h]
  rfl
theorem w01 (w : Bool) : (if w = true then 1 else 0) ≤ 1 := by
  cases w <;> decide
theorem Iv.vO {τ : S5} (h : Iv n τ) {o : Nat} (ho : o = 5 ∨ o = 20 ∨ o = 40 ∨ o = 41) (hk : ¬ kdp b n τ.1 = 1) (hw : ¬ τ.2.2.2.2 = true) : (opnd b n o τ).1 ≤ 8 ∧ ((opnd b n o τ).1 = 0 → Iv n (opnd b n o τ).2 ∧ τ.1 < (opnd b n o τ).2.1) := by
  obtain ⟨s, c, P, N, w⟩ := τ
  obtain ⟨hP, h6, h7, h8⟩ := h
  have hP : Pkk P N := hP
  have h6 : c.length + P.length + 1 ≤ s := h6
  have h7 : s ≤ n := h7
  have h8 : 3 * so3 P + (if w = true then 1 else 0) ≤ s := h8
  have hk : ¬ kdp b n s = 1 := hk
  obtain ⟨k1, k2, k3⟩ := nx_lt hk
  unfold opnd
  by_cases q8 : nop P = 8
  · rw [if_pos (show nop P = 8 from q8)]
    exact ⟨Nat.le_of_ble_eq_true rfl, fun z => by cases z⟩
  · rw [if_neg (show ¬ nop P = 8 from q8)]
    by_cases q41 : o = 41
    · rw [if_pos q41]
      by_cases q40 : kdp b n (nx1 b n s) = 40
      · rw [if_pos (show kdp b n (nx1 b n s) = 40 from q40)]
        obtain ⟨j1, j2, j3⟩ := nx_lt (b := b) (n := n) (s := nx1 b n s) (by omega)
        rw [q41]
        refine ⟨Nat.zero_le _, fun _ => ⟨⟨hP.o41 q8, ?_, j3, ?_⟩, ?_⟩⟩
        · show c.length + (P.length + 1) + 1 ≤ nx1 b n (nx1 b n s)
          omega
        · show 3 * so3 P + (if w = true then 1 else 0) ≤ nx1 b n (nx1 b n s)
          omega
        · show s < nx1 b n (nx1 b n s)
          omega
      · rw [if_neg (show ¬ kdp b n (nx1 b n s) = 40 from q40)]
        exact ⟨Nat.le_of_ble_eq_true rfl, fun z => by cases z⟩
    · rw [if_neg q41]
      have hi : iso o = true ∧ opo o ∧ ¬ o = 23 := by
        rcases ho with rfl | rfl | rfl | rfl <;> refine ⟨rfl, ?_, by decide⟩ <;> unfold opo <;> omega
      refine ⟨Nat.zero_le _, fun _ => ⟨⟨hP.vI hi.2.1 hi.1 q8 q41, ?_, k3, ?_⟩, k2⟩⟩
      · show c.length + (P.length + 1) + 1 ≤ nx1 b n s
        omega
      · show 3 * so3 (o :: P) + (if w = true then 1 else 0) ≤ nx1 b n s
        rw [so3_ni hi.2.2]
        omega
theorem Iv.vE {τ : S5} (h : Iv n τ) {o v : Nat} (hk : ¬ kdp b n τ.1 = 1) (hw : ¬ τ.2.2.2.2 = true) : Iv n (emF b n o v τ).2 ∧ τ.1 < (emF b n o v τ).2.1 := by
  obtain ⟨s, c, P, N, w⟩ := τ
  obtain ⟨hP, h6, h7, h8⟩ := h
  have hP : Pkk P N := hP
  have h6 : c.length + P.length + 1 ≤ s := h6
  have h8 : 3 * so3 P + (if w = true then 1 else 0) ≤ s := h8
  have hk : ¬ kdp b n s = 1 := hk
  obtain ⟨k1, k2, k3⟩ := nx_lt hk
  obtain ⟨_, s2, s3⟩ := stl_sub 8 P (c ++ [(o, v)])
  obtain ⟨_, _, _, g4, _⟩ := stl_k (r := 8) (by omega) P (c ++ [(o, v)]) hP.1 hP.2.1
  rw [List.length_append, List.length_singleton] at s3
  refine ⟨⟨hP.vS (by omega) _, ?_, k3, ?_⟩, k2⟩
  · show (stl 8 P (c ++ [(o, v)])).2.length + (stl 8 P (c ++ [(o, v)])).1.length + 1 ≤ nx1 b n s
    omega
  · show 3 * so3 (stl 8 P (c ++ [(o, v)])).1 + 1 ≤ nx1 b n s
    omega
theorem Iv.vA {τ : S5} (h : Iv n τ) {o top : Nat} (hk : ¬ kdp b n τ.1 = 1) (hw : ¬ τ.2.2.2.2 = true) (ha : iaa τ.2.2.1 = true) : (askd b n ev o top τ).1 ≤ 8 ∧ ((askd b n ev o top τ).1 = 0 → Iv n (askd b n ev o top τ).2 ∧ τ.1 < (askd b n ev o top τ).2.1) := by
  obtain ⟨s, c, P, N, w⟩ := τ
  obtain ⟨hP, h6, h7, h8⟩ := h
  have hP : Pkk P N := hP
  have h6 : c.length + P.length + 1 ≤ s := h6
  have h8 : 3 * so3 P + (if w = true then 1 else 0) ≤ s := h8
  have hk : ¬ kdp b n s = 1 := hk
  have ha : iaa P = true := ha
  obtain ⟨k1, k2, k3⟩ := nx_lt hk
  unfold askd
  by_cases q1 : kdp b n (nx1 b n s) = 2
  · rw [if_neg (show ¬ ¬ kdp b n (nx1 b n s) = 2 from fun z => z q1)]
    obtain ⟨j1, j2, j3⟩ := nx_lt (b := b) (n := n) (s := nx1 b n s) (by omega)
    by_cases q2 : top < vlp b n (nx1 b n s)
    · rw [if_pos (show top < vlp b n (nx1 b n s) from q2)]
      exact ⟨Nat.le_of_ble_eq_true rfl, fun z => by cases z⟩
    · rw [if_neg (show ¬ top < vlp b n (nx1 b n s) from q2)]
      by_cases q3 : o = 3 ∧ ev ≤ vlp b n (nx1 b n s)
      · rw [if_pos (show o = 3 ∧ ev ≤ vlp b n (nx1 b n s) from q3)]
        exact ⟨Nat.le_of_ble_eq_true rfl, fun z => by cases z⟩
      · rw [if_neg (show ¬ (o = 3 ∧ ev ≤ vlp b n (nx1 b n s)) from q3)]
        have ht : tg1 P < gg 16 := by
          show tg1 P < 3
          cases P with
          | nil => exact Nat.succ_pos _
          | cons x P =>
            have hx := gg_v (hP.1 x List.mem_cons_self)
            show gg x < 3
            unfold iaa at ha
            simp only [Bool.and_eq_true, Bool.or_eq_true, decide_eq_true_eq] at ha
            omega
        refine ⟨Nat.zero_le _, fun _ => ⟨⟨hP.op (o := 16) (by unfold opo; omega) rfl (Or.inr ht), ?_, j3, ?_⟩, ?_⟩⟩
        · show (c ++ [_]).length + (P.length + 1) + 1 ≤ nx1 b n (nx1 b n s)
          rw [List.length_append, List.length_singleton]
          omega
        · show 3 * so3 P + 1 ≤ nx1 b n (nx1 b n s)
          omega
        · show s < nx1 b n (nx1 b n s)
          omega
  · rw [if_pos (show ¬ kdp b n (nx1 b n s) = 2 from q1)]
    exact ⟨Nat.le_of_ble_eq_true rfl, fun z => by cases z⟩
end
