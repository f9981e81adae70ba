/-! texts: what holds while the reference reads a law (by wip/whole/mk_98vq.py) -/
def so3 : List Nat → Nat
  | [] => 0
  | o :: P => so3 P + (if o = 23 then 1 else 0)
def c41 : List Nat → Nat
  | [] => 0
  | o :: P => c41 P + (if o = 41 then 1 else 0)
def gg (o : Nat) : Nat := if iso o = true then 0 else if rnk o ≤ 3 then rnk o - 1 else rnk o - 2
def tg1 : List Nat → Nat
  | [] => 0
  | o :: _ => gg o
def okp : List Nat → Prop
  | [] => True
  | o :: P => okp P ∧ (iso o = true ∨ o = 23 ∧ P.length = so3 P ∨ tg1 P < gg o)
theorem opo_l {o : Nat} (h : opo o) : o = 5 ∨ o = 6 ∨ o = 7 ∨ o = 8 ∨ o = 9 ∨ o = 10 ∨ o = 11 ∨ o = 12 ∨ o = 13 ∨ o = 14 ∨ o = 15 ∨ o = 16 ∨ o = 20 ∨ o = 21 ∨ o = 22 ∨ o = 23 ∨ o = 40 ∨ o = 41 := by
  unfold opo at h
  omega
theorem gg_v {o : Nat} (h : opo o) : (iso o = true ∧ gg o = 0 ∧ o ≠ 23) ∨ (iso o = false ∧ o ≠ 41 ∧ ¬ 40 ≤ o ∧ ((o = 23 ∧ rnk o = 1 ∧ gg o = 0) ∨ (o ≠ 23 ∧ rnk o = 2 ∧ gg o = 1) ∨ (o ≠ 23 ∧ rnk o = 3 ∧ gg o = 2) ∨ (o ≠ 23 ∧ rnk o = 5 ∧ gg o = 3) ∨ (o ≠ 23 ∧ rnk o = 6 ∧ gg o = 4) ∨ (o ≠ 23 ∧ rnk o = 7 ∧ gg o = 5))) := by
  rcases opo_l h with rfl | rfl | rfl | rfl | rfl | rfl | rfl | rfl | rfl | rfl | rfl | rfl | rfl | rfl | rfl | rfl | rfl | rfl <;> decide
theorem opl.tl {o : Nat} {P : List Nat} (h : opl (o :: P)) : opl P := fun x hx => h x (List.mem_cons_of_mem _ hx)
theorem tg1_l : ∀ {P : List Nat}, opl P → tg1 P ≤ 5
  | [], _ => Nat.zero_le _
  | o :: P, h => by
    show gg o ≤ 5
    have := gg_v (h o List.mem_cons_self)
    omega
theorem okp_len : ∀ (P : List Nat), opl P → okp P → P.length ≤ so3 P + 6 * nop P + tg1 P
  | [], _, _ => Nat.zero_le _
  | o :: P, h, hk => by
    have ih := okp_len P h.tl hk.1
    have h5 := tg1_l h.tl
    have hv := gg_v (h o List.mem_cons_self)
    have e1 : so3 (o :: P) = so3 P + (if o = 23 then 1 else 0) := rfl
    have e2 : nop (o :: P) = nop P + (if iso o = true then 1 else 0) := rfl
    have e3 : tg1 (o :: P) = gg o := rfl
    rw [List.length_cons, e1, e2, e3]
    rcases hk.2 with q | ⟨q1, q2⟩ | q
    · rw [if_pos q]
      omega
    · rw [if_pos q1]
      omega
    · have : so3 P ≤ so3 P + (if o = 23 then 1 else 0) := Nat.le_add_right _ _
      have : nop P ≤ nop P + (if iso o = true then 1 else 0) := Nat.le_add_right _ _
      omega
theorem stl_k {r : Nat} (hr : 1 ≤ r) : ∀ (P : List Nat) (c : List (Nat × Nat)), opl P → okp P → opl (stl r P c).1 ∧ okp (stl r P c).1 ∧ nop (stl r P c).1 ≤ nop P ∧ so3 (stl r P c).1 ≤ so3 P ∧ c41 (stl r P c).1 = c41 P ∧ opw (stl r P c).1 = opw P ∧ ∀ o R, (stl r P c).1 = o :: R → rnk o < r
  | [], c, h, hk => ⟨h, hk, Nat.le_refl _, Nat.le_refl _, rfl, rfl, fun o R e => by cases e⟩
  | o :: P, c, h, hk => by
    by_cases q : r ≤ rnk o
    · have e : stl r (o :: P) c = stl r P (if o = 16 then c else c ++ [(o, 0)]) := if_pos q
      obtain ⟨h1, h2, h3, h4, h5, h6, h7⟩ := stl_k hr P (if o = 16 then c else c ++ [(o, 0)]) h.tl hk.1
      have n41 : ¬ 40 ≤ o := by
        intro z
        have : rnk o = 0 := if_pos z
        omega
      have e1 : so3 (o :: P) = so3 P + (if o = 23 then 1 else 0) := rfl
      have e2 : nop (o :: P) = nop P + (if iso o = true then 1 else 0) := rfl
      have e3 : c41 (o :: P) = c41 P := by
        show c41 P + (if o = 41 then 1 else 0) = _
        rw [if_neg (by omega)]
        rfl
      have e4 : opw (o :: P) = opw P := if_neg n41
      rw [e, e1, e2, e3, e4]
      exact ⟨h1, h2, by omega, by omega, h5, h6, h7⟩
    · have e : stl r (o :: P) c = (o :: P, c) := if_neg q
      rw [e]
      refine ⟨h, hk, Nat.le_refl _, Nat.le_refl _, rfl, rfl, fun x R e => ?_⟩
      injection e with e1 e2
      rw [← e1]
      omega
theorem c41_l : ∀ (P : List Nat), c41 P ≤ nop P ∧ (opw P = 41 → 1 ≤ c41 P)
  | [] => ⟨Nat.le_refl _, fun z => by cases z⟩
  | o :: P => by
    obtain ⟨h1, h2⟩ := c41_l P
    show c41 P + (if o = 41 then 1 else 0) ≤ nop P + (if iso o = true then 1 else 0) ∧ ((if 40 ≤ o then o else opw P) = 41 → 1 ≤ c41 P + (if o = 41 then 1 else 0))
    by_cases q : o = 41
    · rw [if_pos q, if_pos (show iso o = true by rw [q]; rfl)]
      exact ⟨by omega, fun _ => by omega⟩
    · rw [if_neg q]
      refine ⟨by omega, fun z => ?_⟩
      by_cases q4 : 40 ≤ o
      · rw [if_pos q4] at z
        exact absurd z q
      · rw [if_neg q4] at z
        have := h2 z
        omega
section
variable {b : Nat → Nat} {n : Nat}
theorem nx_lt {s : Nat} (h : ¬ kdp b n s = 1) : s < n ∧ s < nx1 b n s ∧ nx1 b n s ≤ n := by
  have hs : s < n := by
    rcases kd_c (b := b) (n := n) (s := s) with ⟨_, g⟩ | ⟨g, _⟩ | ⟨g, _⟩ | ⟨g, _⟩
    · exact absurd g h
    · exact g
    · exact g
    · exact g
  obtain ⟨h1, h2, _⟩ := nxt_b (b := b) hs
  have e : nx1 b n s = nxt b n s := if_pos hs
  rw [e]
  refine ⟨hs, h1, ?_⟩
  rcases h2 with z | z
  · omega
  · omega
theorem nx_so {s : Nat} (h : kdp b n s = 212) : s + 2 ≤ nx1 b n s := by
  obtain ⟨hs, h1, h2⟩ := nx_lt (b := b) (n := n) (s := s) (by omega)
  obtain ⟨e1, e2, e3⟩ := enp_b (b := b) hs
  obtain ⟨g1, g2, _⟩ := nxt_b (b := b) hs
  have e : nx1 b n s = nxt b n s := if_pos hs
  have hl : enp b n s = s + 2 := by
    rcases kd_c (b := b) (n := n) (s := s) with ⟨_, g⟩ | ⟨_, _, g⟩ | ⟨_, _, _, g⟩ | ⟨_, _, _, g⟩
    · omega
    · omega
    · rcases wkd_v (b := b) (i := s) (j := enp b n s) 22 0 with z | ⟨x, _, _, z, w⟩
      · omega
      · have hx : x = 12 := by omega
        rw [hx] at w
        unfold spl at w
        rw [Bool.and_eq_true] at w
        have := of_decide_eq_true w.1
        rw [this]
        rfl
    · exfalso
      rw [g] at h
      unfold sgn isG at h
      simp only [Bool.or_eq_true, decide_eq_true_eq] at h
      repeat (first | omega | split at h)
  rw [e]
  apply Classical.byContradiction
  intro z
  have hg := e3 (nxt b n s) g1 (by omega)
  rcases g2 with y | ⟨_, y⟩
  · omega
  · unfold sta at y
    rw [hg] at y
    simp at y
end
