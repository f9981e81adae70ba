/-! texts: looks at the pile (by wip/whole/mk_98vj.py) -/
theorem z_M_settle_0 (C : Nat → List Value → sm_M → sm_R) (n : Nat) (u : sm_M) (a0 : Nat) (v1 : Int32) : sm_run C c_M_settle (n + 1) 0 [some (.ref a0), some (.int v1)] [] u = if sm_tg u a0 = 112 then (if (sm_I u a0 17) ≤ 0 then (sm_run C c_M_settle n 57 [some (.ref a0), some (.int v1)] [] u) else (if sm_tg u a0 = 112 then sm_rr (sm_Rf u a0 15) (fun q1 => if sm_tg u a0 = 112 then (if sm_in u 1 q1 ((sm_I u a0 17) - (nI 1)) then (sm_ri (C 234 [.int (sm_I u q1 ((sm_I u a0 17) - (nI 1)).toNatClampNeg)] u) (fun x3 u2 => if x3 < v1 then (sm_run C c_M_settle n 57 [some (.ref a0), some (.int v1)] [] u2) else (if sm_tg u2 a0 = 112 then (if sm_tg u2 a0 = 112 then (sm_lt (sm_wI u2 a0 17 ((sm_I u2 a0 17) - (nI 1))) (fun u4 => if sm_tg u4 a0 = 112 then sm_rr (sm_Rf u4 a0 15) (fun q5 => if sm_tg u4 a0 = 112 then (if sm_in u4 1 q5 (sm_I u4 a0 17) then (if (sm_I u4 q5 (sm_I u4 a0 17).toNatClampNeg) = (nI 16) then (sm_run C c_M_settle n 35 [some (.ref a0), some (.int v1)] [] u4) else (if sm_tg u4 a0 = 112 then sm_rr (sm_Rf u4 a0 15) (fun q6 => if sm_tg u4 a0 = 112 then (if sm_in u4 1 q6 (sm_I u4 a0 17) then (if sm_tg u4 a0 = 112 then (sm_rv (C 232 [.ref a0, .int (sm_I u4 q6 (sm_I u4 a0 17).toNatClampNeg), .int (nI 0)] u4) (fun u7 => sm_run C c_M_settle n 35 [some (.ref a0), some (.int v1)] [] u7)) else none) else none) else none) else none)) else none) else none) else none)) else none) else none))) else none) else none) else none)) else none := q_M_settle_0 C n u a0 v1
theorem z_M_settle_57 (C : Nat → List Value → sm_M → sm_R) (n : Nat) (u : sm_M) (a0 : Nat) (v1 : Int32) : sm_run C c_M_settle (n + 1) 57 [some (.ref a0), some (.int v1)] [] u = some (none, u) := q_M_settle_57 C n u a0 v1
theorem z_M_settle_35 (C : Nat → List Value → sm_M → sm_R) (n : Nat) (u : sm_M) (a0 : Nat) (v1 : Int32) : sm_run C c_M_settle (n + 1) 35 [some (.ref a0), some (.int v1)] [] u = if sm_tg u a0 = 112 then sm_rr (sm_Rf u a0 15) (fun q1 => if sm_tg u a0 = 112 then (if sm_in u 1 q1 (sm_I u a0 17) then (if (sm_I u q1 (sm_I u a0 17).toNatClampNeg) = (nI 5) then (sm_run C c_M_settle n 50 [some (.ref a0), some (.int v1)] [] u) else (if sm_tg u a0 = 112 then sm_rr (sm_Rf u a0 15) (fun q2 => if sm_tg u a0 = 112 then (if sm_in u 1 q2 (sm_I u a0 17) then (if (sm_I u q2 (sm_I u a0 17).toNatClampNeg) = (nI 20) then (sm_run C c_M_settle n 50 [some (.ref a0), some (.int v1)] [] u) else (sm_run C c_M_settle n 0 [some (.ref a0), some (.int v1)] [] u)) else none) else none) else none)) else none) else none) else none := q_M_settle_35 C n u a0 v1
theorem z_M_settle_50 (C : Nat → List Value → sm_M → sm_R) (n : Nat) (u : sm_M) (a0 : Nat) (v1 : Int32) : sm_run C c_M_settle (n + 1) 50 [some (.ref a0), some (.int v1)] [] u = if sm_tg u a0 = 112 then (if sm_tg u a0 = 112 then (sm_lt (sm_wI u a0 18 ((sm_I u a0 18) - (nI 1))) (fun u1 => sm_run C c_M_settle n 0 [some (.ref a0), some (.int v1)] [] u1)) else none) else none := q_M_settle_50 C n u a0 v1
theorem z_M_openNow_6 (C : Nat → List Value → sm_M → sm_R) (n : Nat) (u : sm_M) (a0 : Nat) (v1 : Int32) : sm_run C c_M_openNow (n + 1) 6 [some (.ref a0), some (.int v1)] [] u = if v1 < 0 then (sm_run C c_M_openNow n 16 [some (.ref a0), some (.int v1)] [] u) else (if sm_tg u a0 = 112 then sm_rr (sm_Rf u a0 15) (fun q1 => if sm_in u 1 q1 v1 then (if (nI 40) ≤ (sm_I u q1 v1.toNatClampNeg) then (sm_run C c_M_openNow n 16 [some (.ref a0), some (.int v1)] [] u) else (sm_run C c_M_openNow n 6 [some (.ref a0), some (.int (v1 + (Int32.ofInt (-1))))] [] u)) else none) else none) := q_M_openNow_6 C n u a0 v1
theorem z_M_openNow_16 (C : Nat → List Value → sm_M → sm_R) (n : Nat) (u : sm_M) (a0 : Nat) (v1 : Int32) : sm_run C c_M_openNow (n + 1) 16 [some (.ref a0), some (.int v1)] [] u = if 0 ≤ v1 then (sm_run C c_M_openNow n 20 [some (.ref a0), some (.int v1)] [] u) else (sm_run C c_M_openNow n 25 [some (.ref a0), some (.int v1)] [.int (Int32.ofInt (-1))] u) := q_M_openNow_16 C n u a0 v1
theorem z_M_openNow_25 (C : Nat → List Value → sm_M → sm_R) (n : Nat) (u : sm_M) (a0 : Nat) (v1 s0 : Int32) : sm_run C c_M_openNow (n + 1) 25 [some (.ref a0), some (.int v1)] [.int s0] u = some (some (.int s0), u) := q_M_openNow_25 C n u a0 v1 s0
theorem z_M_openNow_20 (C : Nat → List Value → sm_M → sm_R) (n : Nat) (u : sm_M) (a0 : Nat) (v1 : Int32) : sm_run C c_M_openNow (n + 1) 20 [some (.ref a0), some (.int v1)] [] u = if sm_tg u a0 = 112 then sm_rr (sm_Rf u a0 15) (fun q1 => if sm_in u 1 q1 v1 then (sm_run C c_M_openNow n 25 [some (.ref a0), some (.int v1)] [.int (sm_I u q1 v1.toNatClampNeg)] u) else none) else none := q_M_openNow_20 C n u a0 v1
theorem z_M_openNow_0 (C : Nat → List Value → sm_M → sm_R) (n : Nat) (u : sm_M) (a0 : Nat) : sm_run C c_M_openNow (n + 1) 0 [some (.ref a0), none] [] u = if sm_tg u a0 = 112 then (sm_run C c_M_openNow n 6 [some (.ref a0), some (.int ((sm_I u a0 17) - (nI 1)))] [] u) else none := q_M_openNow_0 C n u a0
theorem z_M_isCompared_6 (C : Nat → List Value → sm_M → sm_R) (n : Nat) (u : sm_M) (a0 : Nat) (v1 : Int32) : sm_run C c_M_isCompared (n + 1) 6 [some (.ref a0), some (.int v1)] [] u = if v1 < 0 then (sm_run C c_M_isCompared n 17 [some (.ref a0), some (.int v1)] [] u) else (if sm_tg u a0 = 112 then sm_rr (sm_Rf u a0 15) (fun q1 => if sm_in u 1 q1 v1 then (sm_ri (C 234 [.int (sm_I u q1 v1.toNatClampNeg)] u) (fun x3 u2 => if x3 ≤ (nI 5) then (sm_run C c_M_isCompared n 17 [some (.ref a0), some (.int v1)] [] u2) else (sm_run C c_M_isCompared n 6 [some (.ref a0), some (.int (v1 + (Int32.ofInt (-1))))] [] u2))) else none) else none) := q_M_isCompared_6 C n u a0 v1
theorem z_M_isCompared_17 (C : Nat → List Value → sm_M → sm_R) (n : Nat) (u : sm_M) (a0 : Nat) (v1 : Int32) : sm_run C c_M_isCompared (n + 1) 17 [some (.ref a0), some (.int v1)] [] u = if v1 < 0 then (sm_run C c_M_isCompared n 28 [some (.ref a0), some (.int v1)] [] u) else (if sm_tg u a0 = 112 then sm_rr (sm_Rf u a0 15) (fun q1 => if sm_in u 1 q1 v1 then (sm_ri (C 234 [.int (sm_I u q1 v1.toNatClampNeg)] u) (fun x3 u2 => if x3 = (nI 5) then (sm_run C c_M_isCompared n 30 [some (.ref a0), some (.int v1)] [.int (nI 1)] u2) else (sm_run C c_M_isCompared n 28 [some (.ref a0), some (.int v1)] [] u2))) else none) else none) := q_M_isCompared_17 C n u a0 v1
theorem z_M_isCompared_28 (C : Nat → List Value → sm_M → sm_R) (n : Nat) (u : sm_M) (a0 : Nat) (v1 : Int32) : sm_run C c_M_isCompared (n + 1) 28 [some (.ref a0), some (.int v1)] [] u = sm_run C c_M_isCompared n 30 [some (.ref a0), some (.int v1)] [.int (nI 0)] u := q_M_isCompared_28 C n u a0 v1
theorem z_M_isCompared_30 (C : Nat → List Value → sm_M → sm_R) (n : Nat) (u : sm_M) (a0 : Nat) (v1 s0 : Int32) : sm_run C c_M_isCompared (n + 1) 30 [some (.ref a0), some (.int v1)] [.int s0] u = if s0 = 0 ∨ s0 = 1 then some (some (.int s0), u) else none := q_M_isCompared_30 C n u a0 v1 s0
theorem z_M_isCompared_0 (C : Nat → List Value → sm_M → sm_R) (n : Nat) (u : sm_M) (a0 : Nat) : sm_run C c_M_isCompared (n + 1) 0 [some (.ref a0), none] [] u = if sm_tg u a0 = 112 then (sm_run C c_M_isCompared n 6 [some (.ref a0), some (.int ((sm_I u a0 17) - (nI 1)))] [] u) else none := q_M_isCompared_0 C n u a0
theorem z_M_isAskHere_0 (C : Nat → List Value → sm_M → sm_R) (n : Nat) (u : sm_M) (a0 : Nat) : sm_run C c_M_isAskHere (n + 1) 0 [some (.ref a0)] [] u = if sm_tg u a0 = 112 then (sm_ri (C 236 [.ref a0] u) (fun x2 u1 => if x2 = (nI 40) then (sm_run C c_M_isAskHere n 6 [some (.ref a0)] [] u1) else (sm_run C c_M_isAskHere n 8 [some (.ref a0)] [.int (nI 1)] u1))) else none := q_M_isAskHere_0 C n u a0
theorem z_M_isAskHere_8 (C : Nat → List Value → sm_M → sm_R) (n : Nat) (u : sm_M) (a0 : Nat) (s0 : Int32) : sm_run C c_M_isAskHere (n + 1) 8 [some (.ref a0)] [.int s0] u = if s0 = 0 ∨ s0 = 1 then some (some (.int s0), u) else none := q_M_isAskHere_8 C n u a0 s0
theorem z_M_isAskHere_6 (C : Nat → List Value → sm_M → sm_R) (n : Nat) (u : sm_M) (a0 : Nat) : sm_run C c_M_isAskHere (n + 1) 6 [some (.ref a0)] [] u = sm_run C c_M_isAskHere n 8 [some (.ref a0)] [.int (nI 0)] u := q_M_isAskHere_6 C n u a0
theorem z_M_isAskAhead_28 (C : Nat → List Value → sm_M → sm_R) (n : Nat) (u : sm_M) (a0 : Nat) : sm_run C c_M_isAskAhead (n + 1) 28 [some (.ref a0)] [] u = sm_run C c_M_isAskAhead n 32 [some (.ref a0)] [.int (nI 1)] u := q_M_isAskAhead_28 C n u a0
theorem z_M_isAskAhead_32 (C : Nat → List Value → sm_M → sm_R) (n : Nat) (u : sm_M) (a0 : Nat) (s0 : Int32) : sm_run C c_M_isAskAhead (n + 1) 32 [some (.ref a0)] [.int s0] u = if s0 = 0 ∨ s0 = 1 then some (some (.int s0), u) else none := q_M_isAskAhead_32 C n u a0 s0
theorem z_M_isAskAhead_30 (C : Nat → List Value → sm_M → sm_R) (n : Nat) (u : sm_M) (a0 : Nat) : sm_run C c_M_isAskAhead (n + 1) 30 [some (.ref a0)] [] u = sm_run C c_M_isAskAhead n 32 [some (.ref a0)] [.int (nI 0)] u := q_M_isAskAhead_30 C n u a0
theorem z_M_isAskAhead_0 (C : Nat → List Value → sm_M → sm_R) (n : Nat) (u : sm_M) (a0 : Nat) : sm_run C c_M_isAskAhead (n + 1) 0 [some (.ref a0)] [] u = if sm_tg u a0 = 112 then (sm_ri (C 238 [.ref a0] u) (fun x2 u1 => if x2 = 0 then (sm_run C c_M_isAskAhead n 30 [some (.ref a0)] [] u1) else (if sm_tg u1 a0 = 112 then (if (sm_I u1 a0 17) = 0 then (sm_run C c_M_isAskAhead n 28 [some (.ref a0)] [] u1) else (if sm_tg u1 a0 = 112 then sm_rr (sm_Rf u1 a0 15) (fun q3 => if sm_tg u1 a0 = 112 then (if sm_in u1 1 q3 ((sm_I u1 a0 17) - (nI 1)) then (if (sm_I u1 q3 ((sm_I u1 a0 17) - (nI 1)).toNatClampNeg) = (nI 41) then (sm_run C c_M_isAskAhead n 28 [some (.ref a0)] [] u1) else (if sm_tg u1 a0 = 112 then sm_rr (sm_Rf u1 a0 15) (fun q4 => if sm_tg u1 a0 = 112 then (if sm_in u1 1 q4 ((sm_I u1 a0 17) - (nI 1)) then (sm_ri (C 234 [.int (sm_I u1 q4 ((sm_I u1 a0 17) - (nI 1)).toNatClampNeg)] u1) (fun x6 u5 => sm_ri (C 201 [.int x6, .int (nI 1), .int (nI 4)] u5) (fun x8 u7 => if x8 = 0 then (sm_run C c_M_isAskAhead n 30 [some (.ref a0)] [] u7) else (sm_run C c_M_isAskAhead n 28 [some (.ref a0)] [] u7)))) else none) else none) else none)) else none) else none) else none)) else none))) else none := q_M_isAskAhead_0 C n u a0
theorem nop_le (P : List Nat) : nop P ≤ P.length := by
  induction P with
  | nil => exact Nat.le_refl 0
  | cons o P ih =>
    unfold nop
    rw [List.length_cons]
    split <;> omega
section
variable {u0 : sm_M} {b : Nat → Nat} {n t ev : Nat}
theorem l_settle (H : Mx u0 b n t ev) {D r s : Nat} {N : List Nat} {w : Bool} (hr1 : 1 ≤ r) (hr8 : r ≤ 8) : ∀ (P : List Nat) (c : List (Nat × Nat)) (u : sm_M) (m : Nat), opl P → c.length + P.length ≤ 300 → MS u0 b n t u (s, c, P, nop P, N, w) → P.length * 3 + 2 ≤ m → Rn (sm_run (sm_call (D + 1)) c_M_settle m 0 [some (.ref 275), some (.int (nI r))] [] u) (fun v => MS u0 b n t v (s, (stl r P c).2, (stl r P c).1, nop (stl r P c).1, N, w)) := by
  intro P
  induction P with
  | nil =>
    intro c u m hP hl h hm
    obtain ⟨m, rfl⟩ : ∃ k, m = k + 2 := ⟨m - 2, by omega⟩
    have e17 : sm_I u 275 17 = nI 0 := h.2.2.2.2.1.1
    rw [z_M_settle_0]
    simp -implicitDefEqProofs only [h.tg, e17, ↓reduceIte]
    rw [if_pos (show nI 0 ≤ 0 by decide), z_M_settle_57]
    exact Rn.ret h
  | cons o P ih =>
    intro c u m hP hl h hm
    rw [List.length_cons] at hl hm
    obtain ⟨m, rfl⟩ : ∃ k, m = k + 3 := ⟨m - 3, by omega⟩
    have ho := hP o List.mem_cons_self
    have hob := opo_b ho
    have hP' : opl P := fun x hx => hP x (List.mem_cons_of_mem _ hx)
    have hu := h.ly
    have e17 : sm_I u 275 17 = nI (P.length + 1) := h.2.2.2.2.1.1
    have l17 : P.length + 1 ≤ 160 := h.2.2.2.2.1.2.1
    have e280 : sm_I u 280 P.length = nI o := h.2.2.2.2.1.2.2.1.1
    have x1 : nI (P.length + 1) - nI 1 = nI P.length := by rw [nI_sub (by omega)]; rfl
    have cP : (nI P.length).toNatClampNeg = P.length := nI_clamp (by omega)
    have hrk := rnk_lt o
    have e0 : stl r (o :: P) c = if r ≤ rnk o then stl r P (if o = 16 then c else c ++ [(o, 0)]) else (o :: P, c) := rfl
    rw [z_M_settle_0]
    simp -implicitDefEqProofs only [h.tg, e17, ↓yk_275_15 hu, x1, in_280 hu (show P.length < 160 by omega), cP, e280, s_rank D u hob.1 hob.2, ↓reduceIte]
    rw [if_neg (show ¬ nI (P.length + 1) ≤ 0 from fun z => by have := (nI_leI (b := 0) (by omega) (by omega)).mp z; omega)]
    by_cases q : r ≤ rnk o
    · rw [if_neg (show ¬ nI (rnk o) < nI r from fun z => by have := (nI_ltI (by omega) (by omega)).mp z; omega)]
      obtain ⟨h1, e1⟩ := h.pop
      simp -implicitDefEqProofs only [lt_s1]
      generalize sm_wI u 275 17 (nI P.length) = w1 at *
      have L1 := h1.ly
      have f17 : sm_I w1 275 17 = nI P.length := h1.2.2.2.2.1.1
      simp -implicitDefEqProofs only [h1.tg, f17, ↓yk_275_15 L1, in_280 L1 (show P.length < 160 by omega), cP, e1, ↓reduceIte]
      -- behind the term
      have fin : ∀ (c' : List (Nat × Nat)) (v : sm_M), c'.length + P.length ≤ 300 → MS u0 b n t v (s, c', P, nop (o :: P), N, w) → sm_I v 280 P.length = nI o → Rn (sm_run (sm_call (D + 1)) c_M_settle (m + 2) 35 [some (.ref 275), some (.int (nI r))] [] v) (fun v => MS u0 b n t v (s, (stl r P c').2, (stl r P c').1, nop (stl r P c').1, N, w)) := by
        intro c' v hl' hv ev
        have Lv := hv.ly
        have g17 : sm_I v 275 17 = nI P.length := hv.2.2.2.2.1.1
        have g18 : sm_I v 275 18 = nI (nop (o :: P)) := hv.2.2.2.2.2.1.1
        have hnp := nop_le P
        rw [z_M_settle_35]
        simp -implicitDefEqProofs only [hv.tg, g17, ↓yk_275_15 Lv, in_280 Lv (show P.length < 160 by omega), cP, ev, ↓reduceIte]
        have go50 : iso o = true → ∀ m', P.length * 3 + 2 ≤ m' → Rn (sm_run (sm_call (D + 1)) c_M_settle (m' + 1) 50 [some (.ref 275), some (.int (nI r))] [] v) (fun v => MS u0 b n t v (s, (stl r P c').2, (stl r P c').1, nop (stl r P c').1, N, w)) := by
          intro hi m' hm'
          have en : nop (o :: P) = nop P + 1 := by
            show nop P + (if iso o = true then 1 else 0) = _
            rw [if_pos hi]
          have x2 : nI (nop P + 1) - nI 1 = nI (nop P) := by rw [nI_sub (by omega)]; rfl
          rw [en] at g18
          rw [z_M_settle_50]
          simp -implicitDefEqProofs only [hv.tg, g18, x2, ↓reduceIte, lt_s1]
          refine ih c' _ m' hP' hl' ?_ hm'
          exact hv.w (k := 18) (τ' := (s, c', P, nop P, N, w)) (Or.inl rfl) rfl rfl rfl rfl (fun z => absurd rfl z) (fun _ => ⟨rfl, show nop P ≤ 300 by omega⟩) (fun _ => rfl) (fun z => by cases z)
        by_cases q5 : o = 5
        · rw [if_pos (show nI o = nI 5 by rw [q5])]
          exact go50 (by rw [q5]; rfl) m (by omega)
        · rw [if_neg (show ¬ nI o = nI 5 from fun z => q5 ((nI_eq (by omega) (by omega)).mp z))]
          by_cases q20 : o = 20
          · rw [if_pos (show nI o = nI 20 by rw [q20])]
            exact go50 (by rw [q20]; rfl) m (by omega)
          · rw [if_neg (show ¬ nI o = nI 20 from fun z => q20 ((nI_eq (by omega) (by omega)).mp z))]
            have hni : ¬ iso o = true := by
              unfold iso
              have h40 : ¬ 40 ≤ o := fun z => by
                have : rnk o = 0 := if_pos z
                omega
              rw [decide_eq_false q5, decide_eq_false q20, decide_eq_false h40]
              simp
            have en : nop (o :: P) = nop P := by
              show nop P + (if iso o = true then 1 else 0) = _
              rw [if_neg hni]
              rfl
            rw [en] at hv
            exact ih c' v (m + 1) hP' hl' hv (by omega)
      rw [e0, if_pos q]
      by_cases q16 : o = 16
      · rw [if_pos (show nI o = nI 16 by rw [q16]), if_pos q16]
        exact fin c w1 (by omega) h1 e1
      · rw [if_neg (show ¬ nI o = nI 16 from fun z => q16 ((nI_eq (by omega) (by omega)).mp z)), if_neg q16]
        refine (m_emit H (D := D + 1) (by omega) h1 (o := o) (v := 0) (by omega)).rv (fun v hv => ?_)
        exact fin (c ++ [(o, 0)]) v (by rw [List.length_append]; show c.length + 1 + P.length ≤ 300; omega) hv.1 (by rw [hv.2]; exact e1)
    · rw [if_pos (show nI (rnk o) < nI r from nI_lt (by omega) (by omega)), z_M_settle_57, e0, if_neg q]
      exact Rn.ret h
theorem m_settle (H : Mx u0 b n t ev) {D r s : Nat} {N : List Nat} {w : Bool} {P : List Nat} {c : List (Nat × Nat)} {u : sm_M} (hD : 2 ≤ D) (hr1 : 1 ≤ r) (hr8 : r ≤ 8) (hP : opl P) (hl : c.length + P.length ≤ 300) (h : MS u0 b n t u (s, c, P, nop P, N, w)) : Rn (sm_call D 235 [.ref 275, .int (nI r)] u) (fun v => MS u0 b n t v (s, (stl r P c).2, (stl r P c).1, nop (stl r P c).1, N, w)) := by
  obtain ⟨D, rfl⟩ : ∃ k, D = k + 2 := ⟨D - 2, by omega⟩
  have l17 : P.length ≤ 160 := h.2.2.2.2.1.2.1
  rw [k_M_settle]
  exact l_settle H hr1 hr8 P c u 3000000 hP hl h (by omega)
/-- -1, or what is open -/
def opI (P : List Nat) : Int32 := if opw P = 0 then Int32.ofInt (-1) else nI (opw P)
theorem opw_v (P : List Nat) (hP : opl P) : opw P = 0 ∨ opw P = 40 ∨ opw P = 41 := by
  induction P with
  | nil => exact Or.inl rfl
  | cons o P ih =>
    unfold opw
    by_cases q : 40 ≤ o
    · rw [if_pos q]
      have := hP o List.mem_cons_self
      unfold opo at this
      omega
    · rw [if_neg q]
      exact ih (fun x hx => hP x (List.mem_cons_of_mem _ hx))
theorem l_openNow {D : Nat} {u : sm_M} (hu : Ly u) : ∀ (P : List Nat) (m : Nat), P.length ≤ 160 → PM u 280 P → P.length + 3 ≤ m → sm_run (sm_call D) c_M_openNow m 6 [some (.ref 275), some (.int (nI P.length - nI 1))] [] u = some (some (.int (opI P)), u) := by
  intro P
  induction P with
  | nil =>
    intro m hl hp hm
    obtain ⟨m, rfl⟩ : ∃ k, m = k + 3 := ⟨m - 3, by omega⟩
    rw [z_M_openNow_6, if_pos (show nI ([] : List Nat).length - nI 1 < 0 by decide), z_M_openNow_16, if_neg (show ¬ 0 ≤ nI ([] : List Nat).length - nI 1 by decide), z_M_openNow_25]
    rfl
  | cons o P ih =>
    intro m hl hp hm
    rw [List.length_cons] at hl hm ⊢
    obtain ⟨m, rfl⟩ : ∃ k, m = k + 4 := ⟨m - 4, by omega⟩
    have x1 : nI (P.length + 1) - nI 1 = nI P.length := by rw [nI_sub (by omega)]; rfl
    have cP : (nI P.length).toNatClampNeg = P.length := nI_clamp (by omega)
    have e280 := hp.1.1
    have ho := hp.1.2
    rw [x1, z_M_openNow_6, if_neg (show ¬ nI P.length < 0 from nI_pos (by omega))]
    simp -implicitDefEqProofs only [eq_true (yt_275 hu), ↓yk_275_15 hu, in_280 hu (show P.length < 160 by omega), cP, e280, ↓reduceIte]
    have e0 : opw (o :: P) = if 40 ≤ o then o else opw P := rfl
    by_cases q : 40 ≤ o
    · rw [if_pos (show nI 40 ≤ nI o from nI_le q (by omega)), z_M_openNow_16, if_pos (show 0 ≤ nI P.length from nI_pos' (by omega)), z_M_openNow_20]
      simp -implicitDefEqProofs only [eq_true (yt_275 hu), ↓yk_275_15 hu, in_280 hu (show P.length < 160 by omega), cP, e280, ↓reduceIte]
      rw [z_M_openNow_25]
      unfold opI
      rw [e0, if_pos q, if_neg (by omega)]
    · rw [if_neg (show ¬ nI 40 ≤ nI o from fun z => q ((nI_leI (by omega) (by omega)).mp z)), pm1]
      have := ih (m + 3) (by omega) hp.2 (by omega)
      unfold opI at this ⊢
      rw [e0, if_neg q]
      exact this
theorem m_openNow {D : Nat} {u : sm_M} {τ : Sr} (h : MS u0 b n t u τ) (f : Int32 → sm_M → sm_R) : sm_ri (sm_call (D + 1) 236 [.ref 275] u) f = f (opI τ.2.2.1) u := by
  have e17 := h.2.2.2.2.1.1
  have l17 := h.2.2.2.2.1.2.1
  have e := l_openNow (D := D) h.ly τ.2.2.1 2999999 l17 h.2.2.2.2.1.2.2 (by omega)
  have e2 : sm_call (D + 1) 236 [.ref 275] u = some (some (.int (opI τ.2.2.1)), u) := by
    rw [k_M_openNow, z_M_openNow_0]
    simp -implicitDefEqProofs only [h.tg, e17, ↓reduceIte]
    exact e
  rw [e2]
  rfl
theorem l_isCmp {D : Nat} {u : sm_M} (hu : Ly u) : ∀ (P : List Nat) (m : Nat), P.length ≤ 160 → opl P → PM u 280 P → P.length + 4 ≤ m → sm_run (sm_call (D + 1)) c_M_isCompared m 6 [some (.ref 275), some (.int (nI P.length - nI 1))] [] u = some (some (.int (if icm P = true then 1 else 0)), u) := by
  intro P
  induction P with
  | nil =>
    intro m hl hP hp hm
    obtain ⟨m, rfl⟩ : ∃ k, m = k + 4 := ⟨m - 4, by omega⟩
    rw [z_M_isCompared_6, if_pos (show nI ([] : List Nat).length - nI 1 < 0 by decide), z_M_isCompared_17, if_pos (show nI ([] : List Nat).length - nI 1 < 0 by decide), z_M_isCompared_28, z_M_isCompared_30, if_pos (show nI 0 = 0 ∨ nI 0 = 1 from Or.inl rfl)]
    rfl
  | cons o P ih =>
    intro m hl hP hp hm
    rw [List.length_cons] at hl hm ⊢
    obtain ⟨m, rfl⟩ : ∃ k, m = k + 5 := ⟨m - 5, by omega⟩
    have x1 : nI (P.length + 1) - nI 1 = nI P.length := by rw [nI_sub (by omega)]; rfl
    have cP : (nI P.length).toNatClampNeg = P.length := nI_clamp (by omega)
    have e280 := hp.1.1
    have hob := opo_b (hP o List.mem_cons_self)
    have hrk := rnk_lt o
    rw [x1, z_M_isCompared_6, if_neg (show ¬ nI P.length < 0 from nI_pos (by omega))]
    simp -implicitDefEqProofs only [eq_true (yt_275 hu), ↓yk_275_15 hu, in_280 hu (show P.length < 160 by omega), cP, e280, s_rank D u hob.1 hob.2, ↓reduceIte]
    have e0 : icm (o :: P) = if 5 < rnk o then icm P else decide (rnk o = 5) := rfl
    by_cases q : 5 < rnk o
    · rw [if_neg (show ¬ nI (rnk o) ≤ nI 5 from fun z => by have := (nI_leI (by omega) (by omega)).mp z; omega), pm1, e0, if_pos q]
      exact ih (m + 4) (by omega) (fun x hx => hP x (List.mem_cons_of_mem _ hx)) hp.2 (by omega)
    · rw [if_pos (show nI (rnk o) ≤ nI 5 from nI_le (by omega) (by omega)), z_M_isCompared_17, if_neg (show ¬ nI P.length < 0 from nI_pos (by omega)), e0, if_neg q]
      simp -implicitDefEqProofs only [eq_true (yt_275 hu), ↓yk_275_15 hu, in_280 hu (show P.length < 160 by omega), cP, e280, s_rank D u hob.1 hob.2, ↓reduceIte]
      by_cases q5 : rnk o = 5
      · rw [if_pos (show nI (rnk o) = nI 5 by rw [q5]), z_M_isCompared_30, if_pos (show nI 1 = 0 ∨ nI 1 = 1 from Or.inr rfl), decide_eq_true q5, if_pos (show true = true from rfl)]
        rfl
      · rw [if_neg (show ¬ nI (rnk o) = nI 5 from fun z => q5 ((nI_eq (by omega) (by omega)).mp z)), z_M_isCompared_28, z_M_isCompared_30, if_pos (show nI 0 = 0 ∨ nI 0 = 1 from Or.inl rfl), decide_eq_false q5, if_neg (show ¬ false = true by simp)]
        rfl
theorem m_isCmp {D : Nat} {u : sm_M} {τ : Sr} (h : MS u0 b n t u τ) (hP : opl τ.2.2.1) (f : Int32 → sm_M → sm_R) : sm_ri (sm_call (D + 2) 237 [.ref 275] u) f = f (if icm τ.2.2.1 = true then 1 else 0) u := by
  have e17 := h.2.2.2.2.1.1
  have l17 := h.2.2.2.2.1.2.1
  have e := l_isCmp (D := D) h.ly τ.2.2.1 2999999 l17 hP h.2.2.2.2.1.2.2 (by omega)
  have e2 : sm_call (D + 2) 237 [.ref 275] u = some (some (.int (if icm τ.2.2.1 = true then 1 else 0)), u) := by
    rw [k_M_isCompared, z_M_isCompared_0]
    simp -implicitDefEqProofs only [h.tg, e17, ↓reduceIte]
    exact e
  rw [e2]
  rfl
theorem m_askHere {D : Nat} {u : sm_M} {τ : Sr} (h : MS u0 b n t u τ) (hP : opl τ.2.2.1) (f : Int32 → sm_M → sm_R) : sm_ri (sm_call (D + 2) 238 [.ref 275] u) f = f (if opw τ.2.2.1 = 40 then 0 else 1) u := by
  have e2 : sm_call (D + 2) 238 [.ref 275] u = some (some (.int (if opw τ.2.2.1 = 40 then 0 else 1)), u) := by
    rw [k_M_isAskHere, z_M_isAskHere_0]
    simp -implicitDefEqProofs only [h.tg, m_openNow h, ↓reduceIte]
    unfold opI
    rcases opw_v τ.2.2.1 hP with e | e | e
    · rw [e, if_pos (show 0 = 0 from rfl), if_neg (show ¬ Int32.ofInt (-1) = nI 40 by decide), z_M_isAskHere_8, if_pos (show nI 1 = 0 ∨ nI 1 = 1 from Or.inr rfl), if_neg (show ¬ 0 = 40 by omega)]
      rfl
    · rw [e, if_neg (show ¬ 40 = 0 by omega), if_pos (show nI 40 = nI 40 from rfl), z_M_isAskHere_6, z_M_isAskHere_8, if_pos (show nI 0 = 0 ∨ nI 0 = 1 from Or.inl rfl), if_pos (show 40 = 40 from rfl)]
      rfl
    · rw [e, if_neg (show ¬ 41 = 0 by omega), if_neg (show ¬ nI 41 = nI 40 by decide), z_M_isAskHere_8, if_pos (show nI 1 = 0 ∨ nI 1 = 1 from Or.inr rfl), if_neg (show ¬ 41 = 40 by omega)]
      rfl
  rw [e2]
  rfl
theorem m_askAhead {D : Nat} {u : sm_M} {τ : Sr} (h : MS u0 b n t u τ) (hP : opl τ.2.2.1) (f : Int32 → sm_M → sm_R) : sm_ri (sm_call (D + 3) 239 [.ref 275] u) f = f (if iaa τ.2.2.1 = true then 1 else 0) u := by
  have e2 : sm_call (D + 3) 239 [.ref 275] u = some (some (.int (if iaa τ.2.2.1 = true then 1 else 0)), u) := by
    have f28 : ∀ m, sm_run (sm_call (D + 2)) c_M_isAskAhead (m + 2) 28 [some (.ref 275)] [] u = some (some (.int 1), u) := fun m => by
      rw [z_M_isAskAhead_28, z_M_isAskAhead_32, if_pos (show nI 1 = 0 ∨ nI 1 = 1 from Or.inr rfl)]
      rfl
    have f30 : ∀ m, sm_run (sm_call (D + 2)) c_M_isAskAhead (m + 2) 30 [some (.ref 275)] [] u = some (some (.int 0), u) := fun m => by
      rw [z_M_isAskAhead_30, z_M_isAskAhead_32, if_pos (show nI 0 = 0 ∨ nI 0 = 1 from Or.inl rfl)]
      rfl
    rw [k_M_isAskAhead, z_M_isAskAhead_0]
    simp -implicitDefEqProofs only [h.tg, m_askHere h hP, ↓reduceIte]
    have e17 := h.2.2.2.2.1.1
    have l17 := h.2.2.2.2.1.2.1
    have hpm := h.2.2.2.2.1.2.2
    have hu := h.ly
    unfold iaa
    by_cases q : opw τ.2.2.1 = 40
    · rw [if_pos q, if_pos (show (0 : Int32) = 0 from rfl), decide_eq_true q]
      rw [if_neg (show ¬ (!true && _) = true by simp)]
      exact f30 _
    · rw [if_neg q, if_neg (show ¬ (1 : Int32) = 0 by decide), decide_eq_false q]
      generalize τ.2.2.1 = P at *
      cases P with
      | nil =>
        simp -implicitDefEqProofs only [e17]
        rw [if_pos (show nI ([] : List Nat).length = 0 from rfl), if_pos (by rfl)]
        exact f28 _
      | cons o P =>
        rw [List.length_cons] at e17 l17
        have ho := hP o List.mem_cons_self
        have hob := opo_b ho
        have hrk := rnk_lt o
        have x1 : nI (P.length + 1) - nI 1 = nI P.length := by rw [nI_sub (by omega)]; rfl
        have cP : (nI P.length).toNatClampNeg = P.length := nI_clamp (by omega)
        have e280 := hpm.1.1
        simp -implicitDefEqProofs only [e17, ↓yk_275_15 hu, x1, in_280 hu (show P.length < 160 by omega), cP, e280, s_rank (D + 1) u hob.1 hob.2, s_isIn_k (D + 1), ↓reduceIte]
        rw [if_neg (show ¬ nI (P.length + 1) = 0 from fun z => by have := (nI_eq (b := 0) (by omega) (by omega)).mp z; omega)]
        show _ = some (some (Value.int (if (!false && (decide (o = 41) || (decide (1 ≤ rnk o) && decide (rnk o ≤ 4)))) = true then 1 else 0)), u)
        by_cases q41 : o = 41
        · rw [if_pos (show nI o = nI 41 by rw [q41]), decide_eq_true q41]
          exact f28 _
        · rw [if_neg (show ¬ nI o = nI 41 from fun z => q41 ((nI_eq (by omega) (by omega)).mp z)), decide_eq_false q41]
          by_cases qr : 1 ≤ rnk o ∧ rnk o ≤ 4
          · rw [if_pos (show nI 1 ≤ nI (rnk o) ∧ nI (rnk o) ≤ nI 4 from ⟨nI_le qr.1 (by omega), nI_le qr.2 (by omega)⟩), if_neg (show ¬ (1 : Int32) = 0 by decide), decide_eq_true qr.1, decide_eq_true qr.2]
            exact f28 _
          · rw [if_neg (show ¬ (nI 1 ≤ nI (rnk o) ∧ nI (rnk o) ≤ nI 4) from fun z => qr ⟨(nI_leI (by omega) (by omega)).mp z.1, (nI_leI (by omega) (by omega)).mp z.2⟩), if_pos (show (0 : Int32) = 0 from rfl)]
            rw [if_neg (show ¬ (!false && (false || (decide (1 ≤ rnk o) && decide (rnk o ≤ 4)))) = true by simpa using qr)]
            exact f30 _
  rw [e2]
  rfl
end
