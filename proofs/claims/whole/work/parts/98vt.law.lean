/-! texts: the reference's law, from its start to its end (by wip/whole/mk_98vt.py) -/
section
variable {b : Nat → Nat} {n ev : Nat}
theorem Iv.beh {τ : S5} (h : Iv n τ) (hw : τ.2.2.2.2 = true) : (behF b n τ).1 ≤ 9 ∧ ((behF b n τ).1 = 0 ∨ (behF b n τ).1 = 9 → Iv n (behF b n τ).2) ∧ ((behF b n τ).1 = 0 → τ.1 < (behF b n τ).2.1) := by
  have h0 := h
  obtain ⟨s, c, P, N, w⟩ := τ
  obtain ⟨hP, h6, h7, h8⟩ := h
  have hw : w = true := hw
  subst hw
  have hP : Pkk P N := hP
  have h6 : c.length + P.length + 1 ≤ s := h6
  have h7 : s ≤ n := h7
  have h8 : 3 * so3 P + 1 ≤ s := h8
  have hbv := betF_v (P := P) (k := kdp b n s)
  have how := opw_v P hP.1
  unfold behF
  by_cases q99 : betF P (kdp b n s) = 99
  · rw [if_neg (show ¬ ¬ betF P (kdp b n s) = 99 from fun z => z q99)]
    by_cases qa : opw P = 41 ∧ ¬ icm P = true
    · rw [if_pos (show opw P = 41 ∧ ¬ icm P = true from qa)]
      exact ⟨Nat.le_refl _, fun _ => h0, fun z => by cases z⟩
    · rw [if_neg (show ¬ (opw P = 41 ∧ ¬ icm P = true) from qa)]
      obtain ⟨g1, g2, g3, g4, g5, g6, g7⟩ := stl_k (r := 1) (by omega) P c hP.1 hP.2.1
      obtain ⟨_, s2, s3⟩ := stl_sub 1 P c
      have hR := hP.vS (r := 1) (by omega) c
      have h41 : opw P = 41 → ∃ x N', N = x :: N' ∧ x ≤ 6 := fun z => by
        have k1 := (c41_l P).2 z
        have k2 := hP.2.2.2.1
        have k3 := hP.2.2.2.2
        cases N with
        | nil =>
          rw [List.length_nil] at k2
          omega
        | cons x N' => exact ⟨x, N', rfl, k3 x List.mem_cons_self⟩
      by_cases qb : opw P = 41 ∧ kdp b n s = 44
      · rw [if_pos (show opw P = 41 ∧ kdp b n s = 44 from qb)]
        obtain ⟨x, N', rfl, hx⟩ := h41 qb.1
        obtain ⟨k1, k2, k3⟩ := nx_lt (b := b) (n := n) (s := s) (by omega)
        by_cases qc : x = 6
        · rw [if_pos (show cntn (x :: N') = 6 from qc)]
          exact ⟨Nat.le_of_ble_eq_true rfl, fun z => (by rcases z with z | z <;> cases z), fun z => (by cases z)⟩
        · rw [if_neg (show ¬ cntn (x :: N') = 6 from qc)]
          refine ⟨Nat.zero_le _, fun _ => ⟨⟨hR.1, hR.2.1, hR.2.2.1, hR.2.2.2.1, fun y hy => ?_⟩, ?_, k3, ?_⟩, fun _ => k2⟩
          · rcases List.mem_cons.mp hy with z | z
            · have z : y = x + 1 := z
              omega
            · exact hR.2.2.2.2 y (List.mem_cons_of_mem _ z)
          · show (stl 1 P c).2.length + (stl 1 P c).1.length + 1 ≤ nx1 b n s
            omega
          · show 3 * so3 (stl 1 P c).1 + 0 ≤ nx1 b n s
            omega
      · rw [if_neg (show ¬ (opw P = 41 ∧ kdp b n s = 44) from qb)]
        by_cases qd : opw P = 0 ∨ ¬ kdp b n s = 41
        · rw [if_pos (show opw P = 0 ∨ ¬ kdp b n s = 41 from qd)]
          exact ⟨Nat.le_refl _, fun _ => h0, fun z => by cases z⟩
        · rw [if_neg (show ¬ (opw P = 0 ∨ ¬ kdp b n s = 41) from qd)]
          have hk : ¬ kdp b n s = 1 := by clear h41; omega
          obtain ⟨k1, k2, k3⟩ := nx_lt hk
          obtain ⟨R, eR⟩ := stl_1 P c hP.1 (by clear h41; omega)
          have so : so3 (opw P :: R) = so3 R := so3_ni (by clear h41; omega)
          rw [eR] at g4 s3 hR
          rw [so] at g4
          have s3 : (stl 1 P c).2.length + (R.length + 1) ≤ c.length + P.length := s3
          have et : (stl 1 P c).1.tail = R := by
            rw [eR]
            rfl
          by_cases qe : opw P = 41
          · rw [if_pos (show opw P = 41 from qe)]
            obtain ⟨x, N', rfl, hx⟩ := h41 qe
            rw [qe] at hR
            refine ⟨Nat.zero_le _, fun _ => ?_, fun _ => k2⟩
            show Iv n (nx1 b n s, (stl 8 (stl 1 P c).1.tail ((stl 1 P c).2 ++ [(4, x)])).2, (stl 8 (stl 1 P c).1.tail ((stl 1 P c).2 ++ [(4, x)])).1, N', true)
            rw [et]
            exact Iv.cls hR.tl41 (by rw [List.length_append, List.length_singleton]; omega) (by omega) hk
          · rw [if_neg (show ¬ opw P = 41 from qe)]
            have q40 : opw P = 40 := by clear h41; omega
            rw [q40] at hR
            refine ⟨Nat.zero_le _, fun _ => ?_, fun _ => k2⟩
            show Iv n (nx1 b n s, (stl 8 (stl 1 P c).1.tail (stl 1 P c).2).2, (stl 8 (stl 1 P c).1.tail (stl 1 P c).2).1, N, true)
            rw [et]
            exact Iv.cls hR.tl40 (by omega) (by omega) hk
  · rw [if_pos (show ¬ betF P (kdp b n s) = 99 from q99)]
    have hk : ¬ kdp b n s = 1 := fun z => q99 (by rw [z]; exact bet_1 P)
    obtain ⟨k1, k2, k3⟩ := nx_lt hk
    have h23 := bet_23 (P := P) (k := kdp b n s)
    refine ⟨Nat.zero_le _, fun _ => ?_, fun _ => k2⟩
    exact Iv.psh hP h6 h8 hk (by omega) h23 rfl
theorem Iv.sq {τ : S5} (h : Iv n τ) : (stq b n ev τ).1 ≤ 9 ∧ ((stq b n ev τ).1 = 0 ∨ (stq b n ev τ).1 = 9 → Iv n (stq b n ev τ).2) ∧ ((stq b n ev τ).1 = 0 → τ.1 < (stq b n ev τ).2.1) := by
  by_cases q : τ.2.2.2.2 = true
  · have e : stq b n ev τ = behF b n τ := if_pos q
    rw [e]
    exact h.beh q
  · have e : stq b n ev τ = begF b n ev τ := if_neg q
    rw [e]
    have := h.beg (b := b) (ev := ev) q
    exact ⟨by omega, fun z => z.elim (fun y => (this.2 y).1) (fun y => by omega), fun z => (this.2 z).2⟩
end
section
variable {u0 : sm_M} {b : Nat → Nat} {n t ev : Nat}
/-- the reference's law: whR, from what was read before it -/
theorem m_law (H : Mx u0 b n t ev) {D : Nat} (hD : 9 ≤ D) (hB : ∀ i, b i < 256) {s : Nat} {c : List (Nat × Nat)} {u : sm_M} (h : M0 u0 b n t u s c) (hs : c.length + 1 ≤ s) (hn : s ≤ n) : Ri (sm_call D 247 [.ref 275] u) (fun x v => x = nI (whR b n ev 301 (s, c, [], [], false)).1 ∧ M5 u0 b n t v (whR b n ev 301 (s, c, [], [], false)).2) :=
  m_whl H hD hB (I := Iv n) (fun _ hτ => hτ.pre H.1) (fun _ hτ => hτ.sq) h ⟨⟨fun o ho => (by cases ho), trivial, Nat.zero_le _, rfl, fun x hx => (by cases hx)⟩, hs, hn, Nat.zero_le _⟩
end
