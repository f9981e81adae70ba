/-! a law of the reference: its two piles -/
theorem z_M_clip_0 (C : Nat → List Value → sm_M → sm_R) (n : Nat) (u : sm_M) (l0 : Int64) : sm_run C c_M_clip (n + 1) 0 [some (.long l0), none] [] u = if (lg_cmp l0 (Int64.ofNat 1000000)) ≤ 0 then (sm_run C c_M_clip n 6 [some (.long l0), none] [] u) else (sm_run C c_M_clip n 14 [some (.long l0), none] [.long (Int64.ofNat 1000000)] u) := q_M_clip_0 C n u l0
theorem z_M_clip_6 (C : Nat → List Value → sm_M → sm_R) (n : Nat) (u : sm_M) (l0 : Int64) : sm_run C c_M_clip (n + 1) 6 [some (.long l0), none] [] u = if 0 ≤ (lg_cmp l0 (-(Int64.ofNat 1000000))) then (sm_run C c_M_clip n 12 [some (.long l0), none] [] u) else (sm_run C c_M_clip n 14 [some (.long l0), none] [.long (-(Int64.ofNat 1000000))] u) := q_M_clip_6 C n u l0
theorem z_M_clip_12 (C : Nat → List Value → sm_M → sm_R) (n : Nat) (u : sm_M) (l0 : Int64) : sm_run C c_M_clip (n + 1) 12 [some (.long l0), none] [] u = sm_run C c_M_clip n 14 [some (.long l0), none] [.long l0] u := q_M_clip_12 C n u l0
theorem z_M_clip_14 (C : Nat → List Value → sm_M → sm_R) (n : Nat) (u : sm_M) (l0 z0 : Int64) : sm_run C c_M_clip (n + 1) 14 [some (.long l0), none] [.long z0] u = some (some (.long z0), u) := q_M_clip_14 C n u l0 z0
theorem z_M_two_0 (C : Nat → List Value → sm_M → sm_R) (n : Nat) (u : sm_M) (v0 : Int32) (l1 l3 : Int64) : sm_run C c_M_two (n + 1) 0 [some (.int v0), some (.long l1), none, some (.long l3), none] [] u = if v0 = (nI 6) then (sm_run C c_M_two n 2 [some (.int v0), some (.long l1), none, some (.long l3), none] [] u) else if v0 = (nI 7) then (sm_run C c_M_two n 7 [some (.int v0), some (.long l1), none, some (.long l3), none] [] u) else if v0 = (nI 8) then (sm_run C c_M_two n 12 [some (.int v0), some (.long l1), none, some (.long l3), none] [] u) else sm_run C c_M_two n 17 [some (.int v0), some (.long l1), none, some (.long l3), none] [] u := q_M_two_0 C n u v0 l1 l3
theorem z_M_two_2 (C : Nat → List Value → sm_M → sm_R) (n : Nat) (u : sm_M) (v0 : Int32) (l1 l3 : Int64) : sm_run C c_M_two (n + 1) 2 [some (.int v0), some (.long l1), none, some (.long l3), none] [] u = sm_rl (C 258 [.long (l1 + l3)] u) (fun x2 u1 => some (some (.long x2), u1)) := q_M_two_2 C n u v0 l1 l3
theorem z_M_two_7 (C : Nat → List Value → sm_M → sm_R) (n : Nat) (u : sm_M) (v0 : Int32) (l1 l3 : Int64) : sm_run C c_M_two (n + 1) 7 [some (.int v0), some (.long l1), none, some (.long l3), none] [] u = sm_rl (C 258 [.long (l1 - l3)] u) (fun x2 u1 => some (some (.long x2), u1)) := q_M_two_7 C n u v0 l1 l3
theorem z_M_two_12 (C : Nat → List Value → sm_M → sm_R) (n : Nat) (u : sm_M) (v0 : Int32) (l1 l3 : Int64) : sm_run C c_M_two (n + 1) 12 [some (.int v0), some (.long l1), none, some (.long l3), none] [] u = sm_rl (C 258 [.long (l1 * l3)] u) (fun x2 u1 => some (some (.long x2), u1)) := q_M_two_12 C n u v0 l1 l3
theorem z_M_two_17 (C : Nat → List Value → sm_M → sm_R) (n : Nat) (u : sm_M) (v0 : Int32) (l1 l3 : Int64) : sm_run C c_M_two (n + 1) 17 [some (.int v0), some (.long l1), none, some (.long l3), none] [] u = if (lg_cmp l3 (Int64.ofNat 0)) = 0 then (sm_run C c_M_two n 28 [some (.int v0), some (.long l1), none, some (.long l3), none] [.long (Int64.ofNat 0)] u) else (sm_run C c_M_two n 23 [some (.int v0), some (.long l1), none, some (.long l3), none] [] u) := q_M_two_17 C n u v0 l1 l3
theorem z_M_two_23 (C : Nat → List Value → sm_M → sm_R) (n : Nat) (u : sm_M) (v0 : Int32) (l1 l3 : Int64) : sm_run C c_M_two (n + 1) 23 [some (.int v0), some (.long l1), none, some (.long l3), none] [] u = if l3 = 0 then none else (sm_rl (C 258 [.long (l1 / l3)] u) (fun x2 u1 => sm_run C c_M_two n 28 [some (.int v0), some (.long l1), none, some (.long l3), none] [.long x2] u1)) := q_M_two_23 C n u v0 l1 l3
theorem z_M_two_28 (C : Nat → List Value → sm_M → sm_R) (n : Nat) (u : sm_M) (v0 : Int32) (l1 l3 z0 : Int64) : sm_run C c_M_two (n + 1) 28 [some (.int v0), some (.long l1), none, some (.long l3), none] [.long z0] u = some (some (.long z0), u) := q_M_two_28 C n u v0 l1 l3 z0
theorem z_M_isAsked_0 (C : Nat → List Value → sm_M → sm_R) (n : Nat) (u : sm_M) (v0 : Int32) (l1 l3 : Int64) : sm_run C c_M_isAsked (n + 1) 0 [some (.int v0), some (.long l1), none, some (.long l3), none] [] u = if v0 = (nI 10) then (if 0 ≤ (lg_cmp l1 l3) then (sm_run C c_M_isAsked n 9 [some (.int v0), some (.long l1), none, some (.long l3), none] [] u) else (sm_run C c_M_isAsked n 63 [some (.int v0), some (.long l1), none, some (.long l3), none] [.int (nI 1)] u)) else (sm_run C c_M_isAsked n 11 [some (.int v0), some (.long l1), none, some (.long l3), none] [] u) := q_M_isAsked_0 C n u v0 l1 l3
theorem z_M_isAsked_9 (C : Nat → List Value → sm_M → sm_R) (n : Nat) (u : sm_M) (v0 : Int32) (l1 l3 : Int64) : sm_run C c_M_isAsked (n + 1) 9 [some (.int v0), some (.long l1), none, some (.long l3), none] [] u = sm_run C c_M_isAsked n 63 [some (.int v0), some (.long l1), none, some (.long l3), none] [.int (nI 0)] u := q_M_isAsked_9 C n u v0 l1 l3
theorem z_M_isAsked_11 (C : Nat → List Value → sm_M → sm_R) (n : Nat) (u : sm_M) (v0 : Int32) (l1 l3 : Int64) : sm_run C c_M_isAsked (n + 1) 11 [some (.int v0), some (.long l1), none, some (.long l3), none] [] u = if v0 = (nI 11) then (if 0 < (lg_cmp l1 l3) then (sm_run C c_M_isAsked n 20 [some (.int v0), some (.long l1), none, some (.long l3), none] [] u) else (sm_run C c_M_isAsked n 63 [some (.int v0), some (.long l1), none, some (.long l3), none] [.int (nI 1)] u)) else (sm_run C c_M_isAsked n 22 [some (.int v0), some (.long l1), none, some (.long l3), none] [] u) := q_M_isAsked_11 C n u v0 l1 l3
theorem z_M_isAsked_20 (C : Nat → List Value → sm_M → sm_R) (n : Nat) (u : sm_M) (v0 : Int32) (l1 l3 : Int64) : sm_run C c_M_isAsked (n + 1) 20 [some (.int v0), some (.long l1), none, some (.long l3), none] [] u = sm_run C c_M_isAsked n 63 [some (.int v0), some (.long l1), none, some (.long l3), none] [.int (nI 0)] u := q_M_isAsked_20 C n u v0 l1 l3
theorem z_M_isAsked_22 (C : Nat → List Value → sm_M → sm_R) (n : Nat) (u : sm_M) (v0 : Int32) (l1 l3 : Int64) : sm_run C c_M_isAsked (n + 1) 22 [some (.int v0), some (.long l1), none, some (.long l3), none] [] u = if v0 = (nI 12) then (if (lg_cmp l1 l3) ≤ 0 then (sm_run C c_M_isAsked n 31 [some (.int v0), some (.long l1), none, some (.long l3), none] [] u) else (sm_run C c_M_isAsked n 63 [some (.int v0), some (.long l1), none, some (.long l3), none] [.int (nI 1)] u)) else (sm_run C c_M_isAsked n 33 [some (.int v0), some (.long l1), none, some (.long l3), none] [] u) := q_M_isAsked_22 C n u v0 l1 l3
theorem z_M_isAsked_31 (C : Nat → List Value → sm_M → sm_R) (n : Nat) (u : sm_M) (v0 : Int32) (l1 l3 : Int64) : sm_run C c_M_isAsked (n + 1) 31 [some (.int v0), some (.long l1), none, some (.long l3), none] [] u = sm_run C c_M_isAsked n 63 [some (.int v0), some (.long l1), none, some (.long l3), none] [.int (nI 0)] u := q_M_isAsked_31 C n u v0 l1 l3
theorem z_M_isAsked_33 (C : Nat → List Value → sm_M → sm_R) (n : Nat) (u : sm_M) (v0 : Int32) (l1 l3 : Int64) : sm_run C c_M_isAsked (n + 1) 33 [some (.int v0), some (.long l1), none, some (.long l3), none] [] u = if v0 = (nI 13) then (if (lg_cmp l1 l3) < 0 then (sm_run C c_M_isAsked n 42 [some (.int v0), some (.long l1), none, some (.long l3), none] [] u) else (sm_run C c_M_isAsked n 63 [some (.int v0), some (.long l1), none, some (.long l3), none] [.int (nI 1)] u)) else (sm_run C c_M_isAsked n 44 [some (.int v0), some (.long l1), none, some (.long l3), none] [] u) := q_M_isAsked_33 C n u v0 l1 l3
theorem z_M_isAsked_42 (C : Nat → List Value → sm_M → sm_R) (n : Nat) (u : sm_M) (v0 : Int32) (l1 l3 : Int64) : sm_run C c_M_isAsked (n + 1) 42 [some (.int v0), some (.long l1), none, some (.long l3), none] [] u = sm_run C c_M_isAsked n 63 [some (.int v0), some (.long l1), none, some (.long l3), none] [.int (nI 0)] u := q_M_isAsked_42 C n u v0 l1 l3
theorem z_M_isAsked_44 (C : Nat → List Value → sm_M → sm_R) (n : Nat) (u : sm_M) (v0 : Int32) (l1 l3 : Int64) : sm_run C c_M_isAsked (n + 1) 44 [some (.int v0), some (.long l1), none, some (.long l3), none] [] u = if v0 = (nI 14) then (if (lg_cmp l1 l3) = 0 then (sm_run C c_M_isAsked n 63 [some (.int v0), some (.long l1), none, some (.long l3), none] [.int (nI 1)] u) else (sm_run C c_M_isAsked n 53 [some (.int v0), some (.long l1), none, some (.long l3), none] [] u)) else (sm_run C c_M_isAsked n 55 [some (.int v0), some (.long l1), none, some (.long l3), none] [] u) := q_M_isAsked_44 C n u v0 l1 l3
theorem z_M_isAsked_53 (C : Nat → List Value → sm_M → sm_R) (n : Nat) (u : sm_M) (v0 : Int32) (l1 l3 : Int64) : sm_run C c_M_isAsked (n + 1) 53 [some (.int v0), some (.long l1), none, some (.long l3), none] [] u = sm_run C c_M_isAsked n 63 [some (.int v0), some (.long l1), none, some (.long l3), none] [.int (nI 0)] u := q_M_isAsked_53 C n u v0 l1 l3
theorem z_M_isAsked_55 (C : Nat → List Value → sm_M → sm_R) (n : Nat) (u : sm_M) (v0 : Int32) (l1 l3 : Int64) : sm_run C c_M_isAsked (n + 1) 55 [some (.int v0), some (.long l1), none, some (.long l3), none] [] u = if (lg_cmp l1 l3) = 0 then (sm_run C c_M_isAsked n 61 [some (.int v0), some (.long l1), none, some (.long l3), none] [] u) else (sm_run C c_M_isAsked n 63 [some (.int v0), some (.long l1), none, some (.long l3), none] [.int (nI 1)] u) := q_M_isAsked_55 C n u v0 l1 l3
theorem z_M_isAsked_61 (C : Nat → List Value → sm_M → sm_R) (n : Nat) (u : sm_M) (v0 : Int32) (l1 l3 : Int64) : sm_run C c_M_isAsked (n + 1) 61 [some (.int v0), some (.long l1), none, some (.long l3), none] [] u = sm_run C c_M_isAsked n 63 [some (.int v0), some (.long l1), none, some (.long l3), none] [.int (nI 0)] u := q_M_isAsked_61 C n u v0 l1 l3
theorem z_M_isAsked_63 (C : Nat → List Value → sm_M → sm_R) (n : Nat) (u : sm_M) (v0 s0 : Int32) (l1 l3 : Int64) : sm_run C c_M_isAsked (n + 1) 63 [some (.int v0), some (.long l1), none, some (.long l3), none] [.int s0] u = if s0 = 0 ∨ s0 = 1 then some (some (.int s0), u) else none := q_M_isAsked_63 C n u v0 s0 l1 l3
theorem z_M_counted_0 (C : Nat → List Value → sm_M → sm_R) (n : Nat) (u : sm_M) (a0 : Nat) (v1 v2 : Int32) : sm_run C c_M_counted (n + 1) 0 [some (.ref a0), some (.int v1), some (.int v2), none, none] [] u = sm_run C c_M_counted n 5 [some (.ref a0), some (.int v1), some (.int v2), some (.int (nI 0)), some (.int (nI 0))] [] u := q_M_counted_0 C n u a0 v1 v2
theorem z_M_counted_5 (C : Nat → List Value → sm_M → sm_R) (n : Nat) (u : sm_M) (a0 : Nat) (v1 v2 v3 v4 : Int32) : sm_run C c_M_counted (n + 1) 5 [some (.ref a0), some (.int v1), some (.int v2), some (.int v3), some (.int v4)] [] u = if v2 ≤ v4 then (sm_run C c_M_counted n 24 [some (.ref a0), some (.int v1), some (.int v2), some (.int v3), some (.int v4)] [] u) else (if sm_tg u a0 = 112 then sm_rr (sm_Rf u a0 23) (fun q1 => if sm_in u 2 q1 (v1 + v4) then (if (sm_I u q1 (v1 + v4).toNatClampNeg) = 0 then (sm_run C c_M_counted n 18 [some (.ref a0), some (.int v1), some (.int v2), some (.int v3), some (.int v4)] [.int v3] u) else (sm_run C c_M_counted n 20 [some (.ref a0), some (.int v1), some (.int v2), some (.int v3), some (.int v4)] [.int (nI 1), .int v3] u)) else none) else none) := q_M_counted_5 C n u a0 v1 v2 v3 v4
theorem z_M_counted_18 (C : Nat → List Value → sm_M → sm_R) (n : Nat) (u : sm_M) (a0 : Nat) (v1 v2 v3 v4 s0 : Int32) : sm_run C c_M_counted (n + 1) 18 [some (.ref a0), some (.int v1), some (.int v2), some (.int v3), some (.int v4)] [.int s0] u = sm_run C c_M_counted n 20 [some (.ref a0), some (.int v1), some (.int v2), some (.int v3), some (.int v4)] [.int (nI 0), .int s0] u := q_M_counted_18 C n u a0 v1 v2 v3 v4 s0
theorem z_M_counted_20 (C : Nat → List Value → sm_M → sm_R) (n : Nat) (u : sm_M) (a0 : Nat) (v1 v2 v3 v4 s0 s1 : Int32) : sm_run C c_M_counted (n + 1) 20 [some (.ref a0), some (.int v1), some (.int v2), some (.int v3), some (.int v4)] [.int s0, .int s1] u = sm_run C c_M_counted n 5 [some (.ref a0), some (.int v1), some (.int v2), some (.int (s1 + s0)), some (.int (v4 + (nI 1)))] [] u := q_M_counted_20 C n u a0 v1 v2 v3 v4 s0 s1
theorem z_M_counted_24 (C : Nat → List Value → sm_M → sm_R) (n : Nat) (u : sm_M) (a0 : Nat) (v1 v2 v3 v4 : Int32) : sm_run C c_M_counted (n + 1) 24 [some (.ref a0), some (.int v1), some (.int v2), some (.int v3), some (.int v4)] [] u = some (some (.int v3), u) := q_M_counted_24 C n u a0 v1 v2 v3 v4
abbrev lI (x : Int) : Int64 := Int64.ofInt x
def bd (x : Int) : Prop := -4000000000000000000 ≤ x ∧ x ≤ 4000000000000000000
theorem lI_t {x : Int} (h : bd x) : (lI x).toInt = x := Int64.toInt_ofInt_of_le (by unfold bd at h; omega) (by unfold bd at h; omega)
theorem lI_n (n : Nat) : Int64.ofNat n = lI n := Int64.ofInt_eq_ofNat.symm
theorem lI_i {n : Nat} (h : n < 2 ^ 31) : Int32.toInt64 (nI n) = lI n := Int64.toInt_inj.mp (by rw [Int32.toInt_toInt64, nI_toInt h, lI_t (by unfold bd; omega)])
theorem lc_le {x y : Int} (hx : bd x) (hy : bd y) : (lg_cmp (lI x) (lI y) ≤ 0) = (x ≤ y) := by
  apply propext
  rw [lg_cmp_le, Int64.le_iff_toInt_le, lI_t hx, lI_t hy]
theorem lc_ge {x y : Int} (hx : bd x) (hy : bd y) : (0 ≤ lg_cmp (lI x) (lI y)) = (y ≤ x) := by
  apply propext
  rw [lg_cmp_ge, Int64.le_iff_toInt_le, lI_t hx, lI_t hy]
theorem lc_lt {x y : Int} (hx : bd x) (hy : bd y) : (lg_cmp (lI x) (lI y) < 0) = (x < y) := by
  apply propext
  rw [← Int32.not_le, lc_ge hx hy, Int.not_le]
theorem lc_gt {x y : Int} (hx : bd x) (hy : bd y) : (0 < lg_cmp (lI x) (lI y)) = (y < x) := by
  apply propext
  rw [← Int32.not_le, lc_le hx hy, Int.not_le]
theorem lc_eq {x y : Int} (hx : bd x) (hy : bd y) : (lg_cmp (lI x) (lI y) = 0) = (x = y) := by
  apply propext
  have h1 := lc_le hx hy
  have h2 := lc_ge hx hy
  constructor
  · intro e
    have g1 : lg_cmp (lI x) (lI y) ≤ 0 := by rw [e]; decide
    have g2 : 0 ≤ lg_cmp (lI x) (lI y) := by rw [e]; decide
    rw [h1] at g1
    rw [h2] at g2
    omega
  · rintro rfl
    unfold lg_cmp
    rw [if_neg (by simp), if_pos rfl]
theorem s_clip (d : Nat) (u : sm_M) {x : Int} (hx : bd x) : sm_call (d + 1) 258 [.long (lI x)] u = some (some (.long (lI (cl6 x))), u) := by
  rw [k_M_clip]
  unfold cl6
  have e1 : -(lI (1000000 : Nat)) = lI (-1000000) := by decide
  have b1 : bd (1000000 : Nat) := by unfold bd; omega
  have b2 : bd (-1000000) := by unfold bd; omega
  by_cases h1 : x ≤ 1000000
  · have h1' : (x ≤ ((1000000 : Nat) : Int)) = True := eq_true h1
    by_cases h2 : -1000000 ≤ x
    · simp (disch := first | assumption | omega) only [z_M_clip_0, z_M_clip_6, z_M_clip_12, z_M_clip_14, lI_n, e1, lc_le, lc_ge, h1', h2, if_true]
      rw [if_neg (by omega), if_neg (by omega)]
    · simp (disch := first | assumption | omega) only [z_M_clip_0, z_M_clip_6, z_M_clip_12, z_M_clip_14, lI_n, e1, lc_le, lc_ge, h1', h2, if_true, if_false]
      rw [if_neg (by omega), if_pos (by omega)]
  · have h1' : (x ≤ ((1000000 : Nat) : Int)) = False := eq_false h1
    simp (disch := first | assumption | omega) only [z_M_clip_0, z_M_clip_6, z_M_clip_12, z_M_clip_14, lI_n, e1, lc_le, lc_ge, h1', if_false]
    rw [if_pos (by omega)]
    rfl
theorem s_clip_k (d : Nat) (u : sm_M) {x : Int} (hx : bd x) (f : Int64 → sm_M → sm_R) : sm_rl (sm_call (d + 1) 258 [.long (lI x)] u) f = f (lI (cl6 x)) u := by
  rw [s_clip d u hx]
  rfl
def b6 (x : Int) : Prop := -1000000 ≤ x ∧ x ≤ 1000000
theorem mul_b6 {x y : Int} (hx : b6 x) (hy : b6 y) : -1000000000000 ≤ x * y ∧ x * y ≤ 1000000000000 := by
  unfold b6 at *
  have h : (x * y).natAbs ≤ 1000000 * 1000000 := by
    rw [Int.natAbs_mul]
    exact Nat.mul_le_mul (by omega) (by omega)
  omega
theorem div_b6 {x y : Int} (hx : b6 x) : b6 (x.tdiv y) := by
  unfold b6 at *
  have h : (x.tdiv y).natAbs ≤ x.natAbs := by
    rw [Int.natAbs_tdiv]
    exact Nat.div_le_self _ _
  omega
theorem cl_b6 (x : Int) : b6 (cl6 x) := by
  unfold b6 cl6
  split
  · omega
  · split <;> omega
theorem two_b6 (o : Nat) (x y : Int) : b6 (two_ o x y) := by
  unfold two_
  split
  · exact cl_b6 _
  split
  · exact cl_b6 _
  split
  · exact cl_b6 _
  split
  · unfold b6; omega
  · exact cl_b6 _
theorem s_two (d : Nat) (u : sm_M) {o : Nat} {x y : Int} (ho : 6 ≤ o) (ho2 : o < 10) (hx : b6 x) (hy : b6 y) : sm_call (d + 2) 259 [.int (nI o), .long (lI x), .long (lI y)] u = some (some (.long (lI (two_ o x y))), u) := by
  rw [k_M_two]
  have hx' := hx
  have hy' := hy
  unfold b6 at hx' hy'
  have hm := mul_b6 hx hy
  have hq := div_b6 (y := y) hx
  unfold b6 at hq
  have bx : bd x := by unfold bd; omega
  have by_ : bd y := by unfold bd; omega
  have b0 : bd (0 : Nat) := by unfold bd; omega
  have e1 : lI x + lI y = lI (x + y) := (Int64.ofInt_add x y).symm
  have e2 : lI x - lI y = lI (x - y) := (Int64.ofInt_sub x y).symm
  have e3 : lI x * lI y = lI (x * y) := (Int64.ofInt_mul x y).symm
  have mn : Int64.minValue.toInt = -9223372036854775808 := by decide
  have mx : Int64.maxValue.toInt = 9223372036854775807 := by decide
  have e4 : lI x / lI y = lI (x.tdiv y) := (Int64.ofInt_tdiv (a := x) (b := y) (by omega) (by omega) (by omega) (by omega)).symm
  have c1 := s_clip d u (x := x + y) (by unfold bd; omega)
  have c2 := s_clip d u (x := x - y) (by unfold bd; omega)
  have c3 := s_clip d u (x := x * y) (by unfold bd; omega)
  have c4 := s_clip d u (x := x.tdiv y) (by unfold bd; omega)
  have ho3 : o = 6 ∨ o = 7 ∨ o = 8 ∨ o = 9 := by omega
  rcases ho3 with rfl | rfl | rfl | rfl
  · simp (disch := first | assumption | omega) [z_M_two_0, z_M_two_2, z_M_two_7, z_M_two_12, z_M_two_17, z_M_two_23, z_M_two_28, nI_eq, e1, c1, rl_s, two_, -Int64.ofInt_add]
  · simp (disch := first | assumption | omega) [z_M_two_0, z_M_two_2, z_M_two_7, z_M_two_12, z_M_two_17, z_M_two_23, z_M_two_28, nI_eq, e2, c2, rl_s, two_, -Int64.ofInt_sub]
  · simp (disch := first | assumption | omega) [z_M_two_0, z_M_two_2, z_M_two_7, z_M_two_12, z_M_two_17, z_M_two_23, z_M_two_28, nI_eq, e3, c3, rl_s, two_, -Int64.ofInt_mul]
  · by_cases hz : y = 0
    · subst hz
      simp (disch := first | assumption | omega) [z_M_two_0, z_M_two_2, z_M_two_7, z_M_two_12, z_M_two_17, z_M_two_23, z_M_two_28, nI_eq, lI_n, lc_eq, two_]
    · have hz2 : ¬ lI y = 0 := fun e => hz (by
        have e5 := congrArg Int64.toInt e
        rw [lI_t by_] at e5
        simpa using e5)
      simp (disch := first | assumption | omega) [z_M_two_0, z_M_two_2, z_M_two_7, z_M_two_12, z_M_two_17, z_M_two_23, z_M_two_28, nI_eq, lI_n, lc_eq, two_, hz, hz2, e4, c4, rl_s]
theorem s_isAsked (d : Nat) (u : sm_M) {o : Nat} {x y : Int} (ho : 10 ≤ o) (ho2 : o < 16) (hx : b6 x) (hy : b6 y) : sm_call (d + 1) 260 [.int (nI o), .long (lI x), .long (lI y)] u = some (some (.int (if cmp_ o x y then 1 else 0)), u) := by
  rw [k_M_isAsked]
  unfold b6 at hx hy
  have bx : bd x := by unfold bd; omega
  have by_ : bd y := by unfold bd; omega
  have ho3 : o = 10 ∨ o = 11 ∨ o = 12 ∨ o = 13 ∨ o = 14 ∨ o = 15 := by omega
  rcases ho3 with rfl | rfl | rfl | rfl | rfl | rfl
  · by_cases hc : y ≤ x
    · simp (disch := first | assumption | omega) [z_M_isAsked_0, z_M_isAsked_9, z_M_isAsked_11, z_M_isAsked_20, z_M_isAsked_22, z_M_isAsked_31, z_M_isAsked_33, z_M_isAsked_42, z_M_isAsked_44, z_M_isAsked_53, z_M_isAsked_55, z_M_isAsked_61, z_M_isAsked_63, nI_eq, lc_le, lc_ge, lc_lt, lc_gt, lc_eq, cmp_, hc, nI, Int.not_lt.mpr hc]
    · simp (disch := first | assumption | omega) [z_M_isAsked_0, z_M_isAsked_9, z_M_isAsked_11, z_M_isAsked_20, z_M_isAsked_22, z_M_isAsked_31, z_M_isAsked_33, z_M_isAsked_42, z_M_isAsked_44, z_M_isAsked_53, z_M_isAsked_55, z_M_isAsked_61, z_M_isAsked_63, nI_eq, lc_le, lc_ge, lc_lt, lc_gt, lc_eq, cmp_, hc, nI, Int.not_le.mp hc]
  · by_cases hc : y < x
    · simp (disch := first | assumption | omega) [z_M_isAsked_0, z_M_isAsked_9, z_M_isAsked_11, z_M_isAsked_20, z_M_isAsked_22, z_M_isAsked_31, z_M_isAsked_33, z_M_isAsked_42, z_M_isAsked_44, z_M_isAsked_53, z_M_isAsked_55, z_M_isAsked_61, z_M_isAsked_63, nI_eq, lc_le, lc_ge, lc_lt, lc_gt, lc_eq, cmp_, hc, nI, Int.not_le.mpr hc]
    · simp (disch := first | assumption | omega) [z_M_isAsked_0, z_M_isAsked_9, z_M_isAsked_11, z_M_isAsked_20, z_M_isAsked_22, z_M_isAsked_31, z_M_isAsked_33, z_M_isAsked_42, z_M_isAsked_44, z_M_isAsked_53, z_M_isAsked_55, z_M_isAsked_61, z_M_isAsked_63, nI_eq, lc_le, lc_ge, lc_lt, lc_gt, lc_eq, cmp_, hc, nI, Int.not_lt.mp hc]
  · by_cases hc : x ≤ y
    · simp (disch := first | assumption | omega) [z_M_isAsked_0, z_M_isAsked_9, z_M_isAsked_11, z_M_isAsked_20, z_M_isAsked_22, z_M_isAsked_31, z_M_isAsked_33, z_M_isAsked_42, z_M_isAsked_44, z_M_isAsked_53, z_M_isAsked_55, z_M_isAsked_61, z_M_isAsked_63, nI_eq, lc_le, lc_ge, lc_lt, lc_gt, lc_eq, cmp_, hc, nI, Int.not_lt.mpr hc]
    · simp (disch := first | assumption | omega) [z_M_isAsked_0, z_M_isAsked_9, z_M_isAsked_11, z_M_isAsked_20, z_M_isAsked_22, z_M_isAsked_31, z_M_isAsked_33, z_M_isAsked_42, z_M_isAsked_44, z_M_isAsked_53, z_M_isAsked_55, z_M_isAsked_61, z_M_isAsked_63, nI_eq, lc_le, lc_ge, lc_lt, lc_gt, lc_eq, cmp_, hc, nI, Int.not_le.mp hc]
  · by_cases hc : x < y
    · simp (disch := first | assumption | omega) [z_M_isAsked_0, z_M_isAsked_9, z_M_isAsked_11, z_M_isAsked_20, z_M_isAsked_22, z_M_isAsked_31, z_M_isAsked_33, z_M_isAsked_42, z_M_isAsked_44, z_M_isAsked_53, z_M_isAsked_55, z_M_isAsked_61, z_M_isAsked_63, nI_eq, lc_le, lc_ge, lc_lt, lc_gt, lc_eq, cmp_, hc, nI, Int.not_le.mpr hc]
    · simp (disch := first | assumption | omega) [z_M_isAsked_0, z_M_isAsked_9, z_M_isAsked_11, z_M_isAsked_20, z_M_isAsked_22, z_M_isAsked_31, z_M_isAsked_33, z_M_isAsked_42, z_M_isAsked_44, z_M_isAsked_53, z_M_isAsked_55, z_M_isAsked_61, z_M_isAsked_63, nI_eq, lc_le, lc_ge, lc_lt, lc_gt, lc_eq, cmp_, hc, nI, Int.not_lt.mp hc]
  · by_cases hc : x = y
    · simp (disch := first | assumption | omega) [z_M_isAsked_0, z_M_isAsked_9, z_M_isAsked_11, z_M_isAsked_20, z_M_isAsked_22, z_M_isAsked_31, z_M_isAsked_33, z_M_isAsked_42, z_M_isAsked_44, z_M_isAsked_53, z_M_isAsked_55, z_M_isAsked_61, z_M_isAsked_63, nI_eq, lc_le, lc_ge, lc_lt, lc_gt, lc_eq, cmp_, hc, nI]
    · simp (disch := first | assumption | omega) [z_M_isAsked_0, z_M_isAsked_9, z_M_isAsked_11, z_M_isAsked_20, z_M_isAsked_22, z_M_isAsked_31, z_M_isAsked_33, z_M_isAsked_42, z_M_isAsked_44, z_M_isAsked_53, z_M_isAsked_55, z_M_isAsked_61, z_M_isAsked_63, nI_eq, lc_le, lc_ge, lc_lt, lc_gt, lc_eq, cmp_, hc, nI]
  · by_cases hc : x = y
    · simp (disch := first | assumption | omega) [z_M_isAsked_0, z_M_isAsked_9, z_M_isAsked_11, z_M_isAsked_20, z_M_isAsked_22, z_M_isAsked_31, z_M_isAsked_33, z_M_isAsked_42, z_M_isAsked_44, z_M_isAsked_53, z_M_isAsked_55, z_M_isAsked_61, z_M_isAsked_63, nI_eq, lc_le, lc_ge, lc_lt, lc_gt, lc_eq, cmp_, hc, nI]
    · simp (disch := first | assumption | omega) [z_M_isAsked_0, z_M_isAsked_9, z_M_isAsked_11, z_M_isAsked_20, z_M_isAsked_22, z_M_isAsked_31, z_M_isAsked_33, z_M_isAsked_42, z_M_isAsked_44, z_M_isAsked_53, z_M_isAsked_55, z_M_isAsked_61, z_M_isAsked_63, nI_eq, lc_le, lc_ge, lc_lt, lc_gt, lc_eq, cmp_, hc, nI]
theorem s_isAsked_k (d : Nat) (u : sm_M) {o : Nat} {x y : Int} (ho : 10 ≤ o) (ho2 : o < 16) (hx : b6 x) (hy : b6 y) (f : Int32 → sm_M → sm_R) : sm_ri (sm_call (d + 1) 260 [.int (nI o), .long (lI x), .long (lI y)] u) f = f (if cmp_ o x y then 1 else 0) u := by
  rw [s_isAsked d u ho ho2 hx hy]
  rfl
/-- the piles in memory: the values (282), the truths (283), the top first -/
def VS (u : sm_M) : List Int → Prop
  | [] => True
  | x :: r => sm_L u 282 r.length = lI x ∧ VS u r
def BS (u : sm_M) : List Bool → Prop
  | [] => True
  | b :: r => sm_I u 283 r.length = (if b then 1 else 0) ∧ BS u r
theorem VS.wL {u : sm_M} {j : Nat} {z : Int64} : ∀ {vs : List Int}, VS u vs → vs.length ≤ j → VS (sm_wL u 282 j z) vs
  | [], _, _ => trivial
  | x :: r, h, hj => by
    have hj : r.length + 1 ≤ j := hj
    refine ⟨?_, VS.wL h.2 (by omega)⟩
    rw [← h.1]
    show sm_up u.2.2.2 282 j z 282 r.length = _
    rw [lc_up, if_neg (by omega)]
theorem VS.wI {u : sm_M} {a j : Nat} {z : Int32} : ∀ {vs : List Int}, VS u vs → VS (sm_wI u a j z) vs
  | [], _ => trivial
  | x :: r, h => ⟨h.1, VS.wI h.2⟩
theorem BS.wI {u : sm_M} {j : Nat} {z : Int32} : ∀ {ts : List Bool}, BS u ts → ts.length ≤ j → BS (sm_wI u 283 j z) ts
  | [], _, _ => trivial
  | x :: r, h, hj => by
    have hj : r.length + 1 ≤ j := hj
    refine ⟨?_, BS.wI h.2 (by omega)⟩
    rw [← h.1]
    exact wI_nk (by omega)
theorem BS.wL {u : sm_M} {a j : Nat} {z : Int64} : ∀ {ts : List Bool}, BS u ts → BS (sm_wL u a j z) ts
  | [], _ => trivial
  | x :: r, h => ⟨h.1, BS.wL h.2⟩
theorem BS.drop {u : sm_M} : ∀ (v : Nat) {ts : List Bool}, BS u ts → BS u (ts.drop v)
  | 0, ts, h => h
  | v + 1, [], h => h
  | v + 1, b :: r, h => BS.drop v h.2
theorem BS.at {u : sm_M} : ∀ {ts : List Bool}, BS u ts → ∀ k, k < ts.length → sm_I u 283 (ts.length - 1 - k) = (if ts.getD k false then 1 else 0)
  | [], _, k, hk => absurd hk (Nat.not_lt_zero k)
  | b :: r, h, 0, _ => h.1
  | b :: r, h, k + 1, hk => by
    have hk : k + 1 < r.length + 1 := hk
    have e := BS.at h.2 k (by omega)
    show sm_I u 283 (r.length + 1 - 1 - (k + 1)) = _
    rw [show r.length + 1 - 1 - (k + 1) = r.length - 1 - k by omega, e]
    rfl
/-- how many of the upper k are so -/
def ctn (ts : List Bool) : Nat → Nat
  | 0 => 0
  | k + 1 => ctn ts k + (if ts.getD k false then 1 else 0)
theorem ctr_n : ∀ (ts : List Bool) (k : Nat), k ≤ ts.length → ctr (ts.take k) = (ctn ts k : Int) := by
  have ap : ∀ (l : List Bool) (b : Bool), ctr (l ++ [b]) = ctr l + (if b then 1 else 0) := by
    intro l b
    induction l with
    | nil => simp [ctr]
    | cons a r ih => simp only [List.cons_append, ctr, ih]; omega
  intro ts k
  induction k with
  | zero => intro _; simp [ctr, ctn]
  | succ k ih =>
    intro hk
    rw [List.take_succ_eq_append_getElem (by omega), ap, ih (by omega)]
    have e : ctn ts (k + 1) = ctn ts k + (if ts[k] then 1 else 0) := by
      show ctn ts k + (if ts.getD k false then 1 else 0) = _
      rw [List.getD_eq_getElem?_getD, List.getElem?_eq_getElem (by omega)]
      rfl
    rw [e]
    cases ts[k] <;> simp
theorem ctn_le (ts : List Bool) : ∀ k, ctn ts k ≤ k
  | 0 => Nat.le_refl _
  | k + 1 => by
    have := ctn_le ts k
    unfold ctn
    split <;> omega
theorem s_counted_l (C : Nat → List Value → sm_M → sm_R) {u : sm_M} (hu : Ly u) {ts : List Bool} (hB : BS u ts) (hl : ts.length ≤ 330) {v : Nat} (hv : v ≤ ts.length) : ∀ k, k ≤ v → ∀ (m n : Nat), 3 * k + 2 ≤ n → m + ctn ts k ≤ 330 → sm_run C c_M_counted n 5 [some (.ref 275), some (.int (nI (ts.length - v))), some (.int (nI v)), some (.int (nI m)), some (.int (nI (v - k)))] [] u = some (some (.int (nI (m + ctn ts k))), u)
  | 0, _, m, n, hn, _ => by
    obtain ⟨n, rfl⟩ : ∃ j, n = j + 2 := ⟨n - 2, by omega⟩
    simp -implicitDefEqProofs (disch := first | assumption | exact Ly.wI (by assumption) | omega) only [↓reduceIte, rr_s, ri_s, rl_s, rv_s, ↓lt_s1, ↓rr_s, ↓ri_s, ↓rl_s, ↓rv_s, wI_tg, wI_ln, wI_rf, zr0, zr1, emn, bz0, bz1, oi, nI_add, nI_mul, nI_clamp, nI_leI, nI_ltI, nI_eq, nI_lt0, ne_m1, m1_ne, m1_le, m1_lt, le_m1, lt_m1, not_true_eq_false, not_false_eq_true, true_and, and_true, false_and, and_false, or_true, true_or, or_false, false_or, and_self, Nat.zero_le, ite_self, Bool.false_eq_true, e10, e01, nI_eq0, nI_eq1, nI_ge0, m1_ge0, m1_lt0, nne, nle, yle, nlt, ylt, yt_0, yt_1, yt_2, yt_3, yl_3, yt_4, yl_4, yt_5, yt_6, yl_6, yt_97, yl_97, yt_98, yl_98, yt_99, yl_99, yt_100, yl_100, yt_101, yl_101, yt_102, yl_102, yt_103, yt_114, yt_115, yt_116, yl_116, yt_117, yl_117, yt_118, yt_119, yl_119, yt_210, yl_210, yt_211, yl_211, yt_212, yl_212, yt_213, yl_213, yt_214, yl_214, yt_215, yl_215, yt_216, yt_227, yt_228, yl_228, yt_229, yl_229, yt_230, yl_230, yt_231, yl_231, yt_232, yt_233, yt_234, yl_234, yt_235, yl_235, yt_236, yt_237, yl_237, yt_238, yl_238, yt_239, yl_239, yt_240, yl_240, yt_241, yl_241, yt_242, yl_242, yt_243, yt_244, yl_244, yt_245, yl_245, yt_246, yl_246, yt_247, yl_247, yt_248, yl_248, yt_249, yl_249, yt_250, yt_251, yl_251, yt_252, yl_252, yt_253, yl_253, yt_254, yl_254, yt_255, yl_255, yt_256, yl_256, yt_257, yt_258, yl_258, yt_259, yl_259, yt_260, yl_260, yt_261, yl_261, yt_262, yl_262, yt_263, yl_263, yt_264, yt_265, yl_265, yt_266, yl_266, yt_267, yl_267, yt_268, yt_269, yl_269, yt_270, yl_270, yt_271, yt_272, yl_272, yt_273, yl_273, yt_274, yl_274, yt_275, yt_276, yl_276, yt_277, yl_277, yt_278, yl_278, yt_279, yl_279, yt_280, yl_280, yt_281, yl_281, yt_282, yl_282, yt_283, yl_283, yt_284, yl_284, yt_285, yl_285, yt_286, yl_286, yt_287, yl_287, yt_288, yl_288, yt_289, yl_289, yt_290, yl_290, yt_291, yl_291, yt_292, yl_292, yt_293, yl_293, yr_0_0, yr_0_1, yr_0_2, yr_0_3, yr_0_4, yr_0_5, yr_0_6, yr_0_7, yr_1_0, yr_1_1, yr_1_2, yr_1_3, yr_1_4, yr_1_5, yr_1_6, yr_1_7, yr_1_8, yr_2_5, yr_2_6, yr_5_0, yr_114_0, yr_114_1, yr_114_2, yr_114_3, yr_114_4, yr_114_5, yr_114_6, yr_114_7, yr_114_8, yr_115_5, yr_115_6, yr_118_0, yr_227_0, yr_227_1, yr_227_2, yr_227_3, yr_232_0, yr_233_0, yr_233_1, yr_233_2, yr_236_0, yr_236_1, yr_236_2, yr_236_3, yr_236_4, yr_236_5, yr_243_0, yr_243_1, yr_243_2, yr_243_3, yr_243_4, yr_243_5, yr_250_0, yr_250_1, yr_250_2, yr_250_3, yr_250_4, yr_250_5, yr_257_0, yr_257_1, yr_257_2, yr_257_3, yr_257_4, yr_257_5, yr_264_0, yr_264_1, yr_264_2, yr_264_3, yr_264_4, yr_268_0, yr_268_1, yr_268_2, yr_268_3, yr_271_0, yr_271_1, yr_271_2, yr_271_3, yr_271_4, yr_275_0, yr_275_1, yr_275_2, yr_275_3, yr_275_15, yr_275_16, yr_275_22, yr_275_23, yr_275_24, yr_275_25, yr_275_26, yr_275_27, yr_275_28, yr_275_29, yr_275_30, yr_275_31, yr_275_32, yr_275_33, ↓yk_0_0, ↓yk_0_1, ↓yk_0_2, ↓yk_0_3, ↓yk_0_4, ↓yk_0_5, ↓yk_0_6, ↓yk_0_7, ↓yk_1_0, ↓yk_1_1, ↓yk_1_2, ↓yk_1_3, ↓yk_1_4, ↓yk_1_5, ↓yk_1_6, ↓yk_1_7, ↓yk_1_8, ↓yk_2_5, ↓yk_2_6, ↓yk_5_0, ↓yk_114_0, ↓yk_114_1, ↓yk_114_2, ↓yk_114_3, ↓yk_114_4, ↓yk_114_5, ↓yk_114_6, ↓yk_114_7, ↓yk_114_8, ↓yk_115_5, ↓yk_115_6, ↓yk_118_0, ↓yk_227_0, ↓yk_227_1, ↓yk_227_2, ↓yk_227_3, ↓yk_232_0, ↓yk_233_0, ↓yk_233_1, ↓yk_233_2, ↓yk_236_0, ↓yk_236_1, ↓yk_236_2, ↓yk_236_3, ↓yk_236_4, ↓yk_236_5, ↓yk_243_0, ↓yk_243_1, ↓yk_243_2, ↓yk_243_3, ↓yk_243_4, ↓yk_243_5, ↓yk_250_0, ↓yk_250_1, ↓yk_250_2, ↓yk_250_3, ↓yk_250_4, ↓yk_250_5, ↓yk_257_0, ↓yk_257_1, ↓yk_257_2, ↓yk_257_3, ↓yk_257_4, ↓yk_257_5, ↓yk_264_0, ↓yk_264_1, ↓yk_264_2, ↓yk_264_3, ↓yk_264_4, ↓yk_268_0, ↓yk_268_1, ↓yk_268_2, ↓yk_268_3, ↓yk_271_0, ↓yk_271_1, ↓yk_271_2, ↓yk_271_3, ↓yk_271_4, ↓yk_275_0, ↓yk_275_1, ↓yk_275_2, ↓yk_275_3, ↓yk_275_15, ↓yk_275_16, ↓yk_275_22, ↓yk_275_23, ↓yk_275_24, ↓yk_275_25, ↓yk_275_26, ↓yk_275_27, ↓yk_275_28, ↓yk_275_29, ↓yk_275_30, ↓yk_275_31, ↓yk_275_32, ↓yk_275_33, in_3, in_4, in_97, in_99, in_100, in_101, in_102, in_116, in_117, in_210, in_212, in_213, in_214, in_215, in_228, in_229, in_230, in_231, in_235, in_237, in_238, in_239, in_240, in_241, in_242, in_244, in_245, in_246, in_247, in_248, in_249, in_251, in_252, in_253, in_254, in_255, in_256, in_258, in_259, in_260, in_261, in_262, in_263, in_265, in_266, in_267, in_269, in_270, in_272, in_273, in_274, in_276, in_277, in_278, in_279, in_280, in_281, in_282, in_283, in_284, in_285, in_286, in_287, in_288, in_289, in_290, in_291, in_292, in_293, ia_6, ia_98, ia_119, ia_211, ia_234, z_M_counted_0, z_M_counted_5, z_M_counted_18, z_M_counted_20, z_M_counted_24]
    rfl
  | k + 1, hk, m, n, hn, hm => by
    have e := hB.at k (by omega)
    have e1 : ts.length - v + (v - (k + 1)) = ts.length - 1 - k := by omega
    have e2 : v - (k + 1) + 1 = v - k := by omega
    have ec : ctn ts (k + 1) = ctn ts k + (if ts.getD k false then 1 else 0) := rfl
    rw [ec] at hm
    by_cases hb : ts.getD k false = true
    · rw [if_pos hb] at e ec hm
      obtain ⟨n, rfl⟩ : ∃ j, n = j + 2 := ⟨n - 2, by omega⟩
      have ih := s_counted_l C hu hB hl hv k (by omega) (m + 1) n (by omega) (by omega)
      simp -implicitDefEqProofs (disch := first | assumption | exact Ly.wI (by assumption) | omega) only [↓reduceIte, rr_s, ri_s, rl_s, rv_s, ↓lt_s1, ↓rr_s, ↓ri_s, ↓rl_s, ↓rv_s, wI_tg, wI_ln, wI_rf, zr0, zr1, emn, bz0, bz1, oi, nI_add, nI_mul, nI_clamp, nI_leI, nI_ltI, nI_eq, nI_lt0, ne_m1, m1_ne, m1_le, m1_lt, le_m1, lt_m1, not_true_eq_false, not_false_eq_true, true_and, and_true, false_and, and_false, or_true, true_or, or_false, false_or, and_self, Nat.zero_le, ite_self, Bool.false_eq_true, e10, e01, nI_eq0, nI_eq1, nI_ge0, m1_ge0, m1_lt0, nne, nle, yle, nlt, ylt, yt_0, yt_1, yt_2, yt_3, yl_3, yt_4, yl_4, yt_5, yt_6, yl_6, yt_97, yl_97, yt_98, yl_98, yt_99, yl_99, yt_100, yl_100, yt_101, yl_101, yt_102, yl_102, yt_103, yt_114, yt_115, yt_116, yl_116, yt_117, yl_117, yt_118, yt_119, yl_119, yt_210, yl_210, yt_211, yl_211, yt_212, yl_212, yt_213, yl_213, yt_214, yl_214, yt_215, yl_215, yt_216, yt_227, yt_228, yl_228, yt_229, yl_229, yt_230, yl_230, yt_231, yl_231, yt_232, yt_233, yt_234, yl_234, yt_235, yl_235, yt_236, yt_237, yl_237, yt_238, yl_238, yt_239, yl_239, yt_240, yl_240, yt_241, yl_241, yt_242, yl_242, yt_243, yt_244, yl_244, yt_245, yl_245, yt_246, yl_246, yt_247, yl_247, yt_248, yl_248, yt_249, yl_249, yt_250, yt_251, yl_251, yt_252, yl_252, yt_253, yl_253, yt_254, yl_254, yt_255, yl_255, yt_256, yl_256, yt_257, yt_258, yl_258, yt_259, yl_259, yt_260, yl_260, yt_261, yl_261, yt_262, yl_262, yt_263, yl_263, yt_264, yt_265, yl_265, yt_266, yl_266, yt_267, yl_267, yt_268, yt_269, yl_269, yt_270, yl_270, yt_271, yt_272, yl_272, yt_273, yl_273, yt_274, yl_274, yt_275, yt_276, yl_276, yt_277, yl_277, yt_278, yl_278, yt_279, yl_279, yt_280, yl_280, yt_281, yl_281, yt_282, yl_282, yt_283, yl_283, yt_284, yl_284, yt_285, yl_285, yt_286, yl_286, yt_287, yl_287, yt_288, yl_288, yt_289, yl_289, yt_290, yl_290, yt_291, yl_291, yt_292, yl_292, yt_293, yl_293, yr_0_0, yr_0_1, yr_0_2, yr_0_3, yr_0_4, yr_0_5, yr_0_6, yr_0_7, yr_1_0, yr_1_1, yr_1_2, yr_1_3, yr_1_4, yr_1_5, yr_1_6, yr_1_7, yr_1_8, yr_2_5, yr_2_6, yr_5_0, yr_114_0, yr_114_1, yr_114_2, yr_114_3, yr_114_4, yr_114_5, yr_114_6, yr_114_7, yr_114_8, yr_115_5, yr_115_6, yr_118_0, yr_227_0, yr_227_1, yr_227_2, yr_227_3, yr_232_0, yr_233_0, yr_233_1, yr_233_2, yr_236_0, yr_236_1, yr_236_2, yr_236_3, yr_236_4, yr_236_5, yr_243_0, yr_243_1, yr_243_2, yr_243_3, yr_243_4, yr_243_5, yr_250_0, yr_250_1, yr_250_2, yr_250_3, yr_250_4, yr_250_5, yr_257_0, yr_257_1, yr_257_2, yr_257_3, yr_257_4, yr_257_5, yr_264_0, yr_264_1, yr_264_2, yr_264_3, yr_264_4, yr_268_0, yr_268_1, yr_268_2, yr_268_3, yr_271_0, yr_271_1, yr_271_2, yr_271_3, yr_271_4, yr_275_0, yr_275_1, yr_275_2, yr_275_3, yr_275_15, yr_275_16, yr_275_22, yr_275_23, yr_275_24, yr_275_25, yr_275_26, yr_275_27, yr_275_28, yr_275_29, yr_275_30, yr_275_31, yr_275_32, yr_275_33, ↓yk_0_0, ↓yk_0_1, ↓yk_0_2, ↓yk_0_3, ↓yk_0_4, ↓yk_0_5, ↓yk_0_6, ↓yk_0_7, ↓yk_1_0, ↓yk_1_1, ↓yk_1_2, ↓yk_1_3, ↓yk_1_4, ↓yk_1_5, ↓yk_1_6, ↓yk_1_7, ↓yk_1_8, ↓yk_2_5, ↓yk_2_6, ↓yk_5_0, ↓yk_114_0, ↓yk_114_1, ↓yk_114_2, ↓yk_114_3, ↓yk_114_4, ↓yk_114_5, ↓yk_114_6, ↓yk_114_7, ↓yk_114_8, ↓yk_115_5, ↓yk_115_6, ↓yk_118_0, ↓yk_227_0, ↓yk_227_1, ↓yk_227_2, ↓yk_227_3, ↓yk_232_0, ↓yk_233_0, ↓yk_233_1, ↓yk_233_2, ↓yk_236_0, ↓yk_236_1, ↓yk_236_2, ↓yk_236_3, ↓yk_236_4, ↓yk_236_5, ↓yk_243_0, ↓yk_243_1, ↓yk_243_2, ↓yk_243_3, ↓yk_243_4, ↓yk_243_5, ↓yk_250_0, ↓yk_250_1, ↓yk_250_2, ↓yk_250_3, ↓yk_250_4, ↓yk_250_5, ↓yk_257_0, ↓yk_257_1, ↓yk_257_2, ↓yk_257_3, ↓yk_257_4, ↓yk_257_5, ↓yk_264_0, ↓yk_264_1, ↓yk_264_2, ↓yk_264_3, ↓yk_264_4, ↓yk_268_0, ↓yk_268_1, ↓yk_268_2, ↓yk_268_3, ↓yk_271_0, ↓yk_271_1, ↓yk_271_2, ↓yk_271_3, ↓yk_271_4, ↓yk_275_0, ↓yk_275_1, ↓yk_275_2, ↓yk_275_3, ↓yk_275_15, ↓yk_275_16, ↓yk_275_22, ↓yk_275_23, ↓yk_275_24, ↓yk_275_25, ↓yk_275_26, ↓yk_275_27, ↓yk_275_28, ↓yk_275_29, ↓yk_275_30, ↓yk_275_31, ↓yk_275_32, ↓yk_275_33, in_3, in_4, in_97, in_99, in_100, in_101, in_102, in_116, in_117, in_210, in_212, in_213, in_214, in_215, in_228, in_229, in_230, in_231, in_235, in_237, in_238, in_239, in_240, in_241, in_242, in_244, in_245, in_246, in_247, in_248, in_249, in_251, in_252, in_253, in_254, in_255, in_256, in_258, in_259, in_260, in_261, in_262, in_263, in_265, in_266, in_267, in_269, in_270, in_272, in_273, in_274, in_276, in_277, in_278, in_279, in_280, in_281, in_282, in_283, in_284, in_285, in_286, in_287, in_288, in_289, in_290, in_291, in_292, in_293, ia_6, ia_98, ia_119, ia_211, ia_234, z_M_counted_5, e1, e, z_M_counted_18, z_M_counted_20, e2]
      rw [ih, ec, show m + 1 + ctn ts k = m + (ctn ts k + 1) by omega]
    · rw [if_neg hb] at e ec hm
      obtain ⟨n, rfl⟩ : ∃ j, n = j + 3 := ⟨n - 3, by omega⟩
      have ih := s_counted_l C hu hB hl hv k (by omega) m n (by omega) (by omega)
      simp -implicitDefEqProofs (disch := first | assumption | exact Ly.wI (by assumption) | omega) only [↓reduceIte, rr_s, ri_s, rl_s, rv_s, ↓lt_s1, ↓rr_s, ↓ri_s, ↓rl_s, ↓rv_s, wI_tg, wI_ln, wI_rf, zr0, zr1, emn, bz0, bz1, oi, nI_add, nI_mul, nI_clamp, nI_leI, nI_ltI, nI_eq, nI_lt0, ne_m1, m1_ne, m1_le, m1_lt, le_m1, lt_m1, not_true_eq_false, not_false_eq_true, true_and, and_true, false_and, and_false, or_true, true_or, or_false, false_or, and_self, Nat.zero_le, ite_self, Bool.false_eq_true, e10, e01, nI_eq0, nI_eq1, nI_ge0, m1_ge0, m1_lt0, nne, nle, yle, nlt, ylt, yt_0, yt_1, yt_2, yt_3, yl_3, yt_4, yl_4, yt_5, yt_6, yl_6, yt_97, yl_97, yt_98, yl_98, yt_99, yl_99, yt_100, yl_100, yt_101, yl_101, yt_102, yl_102, yt_103, yt_114, yt_115, yt_116, yl_116, yt_117, yl_117, yt_118, yt_119, yl_119, yt_210, yl_210, yt_211, yl_211, yt_212, yl_212, yt_213, yl_213, yt_214, yl_214, yt_215, yl_215, yt_216, yt_227, yt_228, yl_228, yt_229, yl_229, yt_230, yl_230, yt_231, yl_231, yt_232, yt_233, yt_234, yl_234, yt_235, yl_235, yt_236, yt_237, yl_237, yt_238, yl_238, yt_239, yl_239, yt_240, yl_240, yt_241, yl_241, yt_242, yl_242, yt_243, yt_244, yl_244, yt_245, yl_245, yt_246, yl_246, yt_247, yl_247, yt_248, yl_248, yt_249, yl_249, yt_250, yt_251, yl_251, yt_252, yl_252, yt_253, yl_253, yt_254, yl_254, yt_255, yl_255, yt_256, yl_256, yt_257, yt_258, yl_258, yt_259, yl_259, yt_260, yl_260, yt_261, yl_261, yt_262, yl_262, yt_263, yl_263, yt_264, yt_265, yl_265, yt_266, yl_266, yt_267, yl_267, yt_268, yt_269, yl_269, yt_270, yl_270, yt_271, yt_272, yl_272, yt_273, yl_273, yt_274, yl_274, yt_275, yt_276, yl_276, yt_277, yl_277, yt_278, yl_278, yt_279, yl_279, yt_280, yl_280, yt_281, yl_281, yt_282, yl_282, yt_283, yl_283, yt_284, yl_284, yt_285, yl_285, yt_286, yl_286, yt_287, yl_287, yt_288, yl_288, yt_289, yl_289, yt_290, yl_290, yt_291, yl_291, yt_292, yl_292, yt_293, yl_293, yr_0_0, yr_0_1, yr_0_2, yr_0_3, yr_0_4, yr_0_5, yr_0_6, yr_0_7, yr_1_0, yr_1_1, yr_1_2, yr_1_3, yr_1_4, yr_1_5, yr_1_6, yr_1_7, yr_1_8, yr_2_5, yr_2_6, yr_5_0, yr_114_0, yr_114_1, yr_114_2, yr_114_3, yr_114_4, yr_114_5, yr_114_6, yr_114_7, yr_114_8, yr_115_5, yr_115_6, yr_118_0, yr_227_0, yr_227_1, yr_227_2, yr_227_3, yr_232_0, yr_233_0, yr_233_1, yr_233_2, yr_236_0, yr_236_1, yr_236_2, yr_236_3, yr_236_4, yr_236_5, yr_243_0, yr_243_1, yr_243_2, yr_243_3, yr_243_4, yr_243_5, yr_250_0, yr_250_1, yr_250_2, yr_250_3, yr_250_4, yr_250_5, yr_257_0, yr_257_1, yr_257_2, yr_257_3, yr_257_4, yr_257_5, yr_264_0, yr_264_1, yr_264_2, yr_264_3, yr_264_4, yr_268_0, yr_268_1, yr_268_2, yr_268_3, yr_271_0, yr_271_1, yr_271_2, yr_271_3, yr_271_4, yr_275_0, yr_275_1, yr_275_2, yr_275_3, yr_275_15, yr_275_16, yr_275_22, yr_275_23, yr_275_24, yr_275_25, yr_275_26, yr_275_27, yr_275_28, yr_275_29, yr_275_30, yr_275_31, yr_275_32, yr_275_33, ↓yk_0_0, ↓yk_0_1, ↓yk_0_2, ↓yk_0_3, ↓yk_0_4, ↓yk_0_5, ↓yk_0_6, ↓yk_0_7, ↓yk_1_0, ↓yk_1_1, ↓yk_1_2, ↓yk_1_3, ↓yk_1_4, ↓yk_1_5, ↓yk_1_6, ↓yk_1_7, ↓yk_1_8, ↓yk_2_5, ↓yk_2_6, ↓yk_5_0, ↓yk_114_0, ↓yk_114_1, ↓yk_114_2, ↓yk_114_3, ↓yk_114_4, ↓yk_114_5, ↓yk_114_6, ↓yk_114_7, ↓yk_114_8, ↓yk_115_5, ↓yk_115_6, ↓yk_118_0, ↓yk_227_0, ↓yk_227_1, ↓yk_227_2, ↓yk_227_3, ↓yk_232_0, ↓yk_233_0, ↓yk_233_1, ↓yk_233_2, ↓yk_236_0, ↓yk_236_1, ↓yk_236_2, ↓yk_236_3, ↓yk_236_4, ↓yk_236_5, ↓yk_243_0, ↓yk_243_1, ↓yk_243_2, ↓yk_243_3, ↓yk_243_4, ↓yk_243_5, ↓yk_250_0, ↓yk_250_1, ↓yk_250_2, ↓yk_250_3, ↓yk_250_4, ↓yk_250_5, ↓yk_257_0, ↓yk_257_1, ↓yk_257_2, ↓yk_257_3, ↓yk_257_4, ↓yk_257_5, ↓yk_264_0, ↓yk_264_1, ↓yk_264_2, ↓yk_264_3, ↓yk_264_4, ↓yk_268_0, ↓yk_268_1, ↓yk_268_2, ↓yk_268_3, ↓yk_271_0, ↓yk_271_1, ↓yk_271_2, ↓yk_271_3, ↓yk_271_4, ↓yk_275_0, ↓yk_275_1, ↓yk_275_2, ↓yk_275_3, ↓yk_275_15, ↓yk_275_16, ↓yk_275_22, ↓yk_275_23, ↓yk_275_24, ↓yk_275_25, ↓yk_275_26, ↓yk_275_27, ↓yk_275_28, ↓yk_275_29, ↓yk_275_30, ↓yk_275_31, ↓yk_275_32, ↓yk_275_33, in_3, in_4, in_97, in_99, in_100, in_101, in_102, in_116, in_117, in_210, in_212, in_213, in_214, in_215, in_228, in_229, in_230, in_231, in_235, in_237, in_238, in_239, in_240, in_241, in_242, in_244, in_245, in_246, in_247, in_248, in_249, in_251, in_252, in_253, in_254, in_255, in_256, in_258, in_259, in_260, in_261, in_262, in_263, in_265, in_266, in_267, in_269, in_270, in_272, in_273, in_274, in_276, in_277, in_278, in_279, in_280, in_281, in_282, in_283, in_284, in_285, in_286, in_287, in_288, in_289, in_290, in_291, in_292, in_293, ia_6, ia_98, ia_119, ia_211, ia_234, z_M_counted_5, e1, e, z_M_counted_18, z_M_counted_20, e2, Nat.add_zero]
      rw [ih, ec]
      rfl
theorem s_counted (d : Nat) {u : sm_M} (hu : Ly u) {ts : List Bool} (hB : BS u ts) (hl : ts.length ≤ 330) {v : Nat} (hv : v ≤ ts.length) : sm_call (d + 1) 261 [.ref 275, .int (nI (ts.length - v)), .int (nI v)] u = some (some (.int (nI (ctn ts v))), u) := by
  have h1 := ctn_le ts v
  have h := s_counted_l (sm_call d) hu hB hl hv v (Nat.le_refl _) 0 2999999 (by omega) (by omega)
  rw [Nat.sub_self, Nat.zero_add] at h
  rw [k_M_counted, z_M_counted_0]
  exact h

theorem s_counted_k (d : Nat) {u : sm_M} (hu : Ly u) {ts : List Bool} (hB : BS u ts) (hl : ts.length ≤ 330) {v : Nat} (hv : v ≤ ts.length) (f : Int32 → sm_M → sm_R) : sm_ri (sm_call (d + 1) 261 [.ref 275, .int (nI (ts.length - v)), .int (nI v)] u) f = f (nI (ctn ts v)) u := by
  rw [s_counted d hu hB hl hv]
  rfl