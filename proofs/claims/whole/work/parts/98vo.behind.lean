/-! texts: the reference behind one, a whole law (by wip/whole/mk_98vo.py) -/
theorem z_M_nextOfCount_0 (C : Nat → List Value → sm_M → sm_R) (n : Nat) (u : sm_M) (a0 : Nat) : sm_run C c_M_nextOfCount (n + 1) 0 [some (.ref a0)] [] u = if sm_tg u a0 = 112 then sm_rr (sm_Rf u a0 16) (fun q1 => if sm_tg u a0 = 112 then (if sm_in u 1 q1 ((sm_I u a0 19) - (nI 1)) then (if (sm_I u q1 ((sm_I u a0 19) - (nI 1)).toNatClampNeg) = (nI 6) then (some (some (.int (nI 7)), u)) else (sm_run C c_M_nextOfCount n 11 [some (.ref a0)] [] u)) else none) else none) else none := q_M_nextOfCount_0 C n u a0
theorem z_M_nextOfCount_11 (C : Nat → List Value → sm_M → sm_R) (n : Nat) (u : sm_M) (a0 : Nat) : sm_run C c_M_nextOfCount (n + 1) 11 [some (.ref a0)] [] u = if sm_tg u a0 = 112 then (sm_rv (C 235 [.ref a0, .int (nI 1)] u) (fun u1 => if sm_tg u1 a0 = 112 then sm_rr (sm_Rf u1 a0 16) (fun q2 => if sm_tg u1 a0 = 112 then (if sm_in u1 1 q2 ((sm_I u1 a0 19) - (nI 1)) then (if sm_in u1 1 q2 ((sm_I u1 a0 19) - (nI 1)) then (sm_lt (sm_wI u1 q2 ((sm_I u1 a0 19) - (nI 1)).toNatClampNeg ((sm_I u1 q2 ((sm_I u1 a0 19) - (nI 1)).toNatClampNeg) + (nI 1))) (fun u3 => if sm_tg u3 a0 = 112 ∧ ((nI 0) = 0 ∨ (nI 0) = 1) then (sm_lt (sm_wI u3 a0 20 (nI 0)) (fun u4 => if sm_tg u4 a0 = 112 then (sm_rv (C 225 [.ref a0] u4) (fun u5 => some (some (.int (nI 0)), u5))) else none)) else none)) else none) else none) else none) else none)) else none := q_M_nextOfCount_11 C n u a0
theorem z_M_behindOne_98 (C : Nat → List Value → sm_M → sm_R) (n : Nat) (u : sm_M) (a0 : Nat) (v1 v2 : Int32) : sm_run C c_M_behindOne (n + 1) 98 [some (.ref a0), some (.int v1), some (.int v2)] [] u = if sm_tg u a0 = 112 then (sm_rv (C 225 [.ref a0] u) (fun u1 => if sm_tg u1 a0 = 112 then (sm_rv (C 235 [.ref a0, .int (nI 8)] u1) (fun u2 => some (some (.int (nI 0)), u2))) else none)) else none := q_M_behindOne_98 C n u a0 v1 v2
theorem z_M_behindOne_65 (C : Nat → List Value → sm_M → sm_R) (n : Nat) (u : sm_M) (a0 : Nat) (v1 v2 : Int32) : sm_run C c_M_behindOne (n + 1) 65 [some (.ref a0), some (.int v1), some (.int v2)] [] u = if sm_tg u a0 = 112 then (sm_rv (C 235 [.ref a0, .int (nI 1)] u) (fun u1 => if sm_tg u1 a0 = 112 then (if sm_tg u1 a0 = 112 then (sm_lt (sm_wI u1 a0 17 ((sm_I u1 a0 17) - (nI 1))) (fun u2 => if sm_tg u2 a0 = 112 then (if sm_tg u2 a0 = 112 then (sm_lt (sm_wI u2 a0 18 ((sm_I u2 a0 18) - (nI 1))) (fun u3 => if v2 = (nI 41) then (if sm_tg u3 a0 = 112 then (if sm_tg u3 a0 = 112 then (sm_lt (sm_wI u3 a0 19 ((sm_I u3 a0 19) - (nI 1))) (fun u4 => if sm_tg u4 a0 = 112 then sm_rr (sm_Rf u4 a0 16) (fun q5 => if sm_tg u4 a0 = 112 then (if sm_in u4 1 q5 (sm_I u4 a0 19) then (if sm_tg u4 a0 = 112 then (sm_rv (C 232 [.ref a0, .int (nI 4), .int (sm_I u4 q5 (sm_I u4 a0 19).toNatClampNeg)] u4) (fun u6 => sm_run C c_M_behindOne n 98 [some (.ref a0), some (.int v1), some (.int v2)] [] u6)) else none) else none) else none) else none)) else none) else none) else (sm_run C c_M_behindOne n 98 [some (.ref a0), some (.int v1), some (.int v2)] [] u3))) else none) else none)) else none) else none)) else none := q_M_behindOne_65 C n u a0 v1 v2
theorem z_M_behindOne_14 (C : Nat → List Value → sm_M → sm_R) (n : Nat) (u : sm_M) (a0 y1 : Nat) (v1 s0 : Int32) : sm_run C c_M_behindOne (n + 1) 14 [some (.ref a0), some (.int v1), none] [.int s0, .ref y1] u = if sm_tg u y1 = 112 then (sm_rv (C 235 [.ref y1, .int s0] u) (fun u1 => if sm_tg u1 a0 = 112 then sm_rr (sm_Rf u1 a0 15) (fun q2 => if sm_tg u1 a0 = 112 then (if sm_in u1 1 q2 (sm_I u1 a0 17) then (sm_lt (sm_wI u1 q2 (sm_I u1 a0 17).toNatClampNeg v1) (fun u3 => if sm_tg u3 a0 = 112 then (if sm_tg u3 a0 = 112 then (sm_lt (sm_wI u3 a0 17 ((sm_I u3 a0 17) + (nI 1))) (fun u4 => if sm_tg u4 a0 = 112 ∧ ((nI 0) = 0 ∨ (nI 0) = 1) then (sm_lt (sm_wI u4 a0 20 (nI 0)) (fun u5 => if sm_tg u5 a0 = 112 then (sm_rv (C 225 [.ref a0] u5) (fun u6 => some (some (.int (nI 0)), u6))) else none)) else none)) else none) else none)) else none) else none) else none)) else none := q_M_behindOne_14 C n u a0 y1 v1 s0
theorem z_M_behindOne_0 (C : Nat → List Value → sm_M → sm_R) (n : Nat) (u : sm_M) (a0 : Nat) : sm_run C c_M_behindOne (n + 1) 0 [some (.ref a0), none, none] [] u = if sm_tg u a0 = 112 then (sm_ri (C 244 [.ref a0] u) (fun x2 u1 => if x2 < 0 then (sm_run C c_M_behindOne n 34 [some (.ref a0), some (.int x2), none] [] u1) else (if x2 = (nI 23) then (sm_run C c_M_behindOne n 14 [some (.ref a0), some (.int x2), none] [.int (nI 2), .ref a0] u1) else (sm_run C c_M_behindOne n 11 [some (.ref a0), some (.int x2), none] [.ref a0] u1)))) else none := q_M_behindOne_0 C n u a0
theorem z_M_behindOne_34 (C : Nat → List Value → sm_M → sm_R) (n : Nat) (u : sm_M) (a0 : Nat) (v1 : Int32) : sm_run C c_M_behindOne (n + 1) 34 [some (.ref a0), some (.int v1), none] [] u = if sm_tg u a0 = 112 then (sm_ri (C 236 [.ref a0] u) (fun x2 u1 => if x2 = (nI 41) then (if sm_tg u1 a0 = 112 then (sm_ri (C 237 [.ref a0] u1) (fun x4 u3 => if x4 = 0 then (some (some (.int (Int32.ofInt (-1))), u3)) else (sm_run C c_M_behindOne n 45 [some (.ref a0), some (.int v1), some (.int x2)] [] u3))) else none) else (sm_run C c_M_behindOne n 45 [some (.ref a0), some (.int v1), some (.int x2)] [] u1))) else none := q_M_behindOne_34 C n u a0 v1
theorem z_M_behindOne_55 (C : Nat → List Value → sm_M → sm_R) (n : Nat) (u : sm_M) (a0 : Nat) (v1 v2 : Int32) : sm_run C c_M_behindOne (n + 1) 55 [some (.ref a0), some (.int v1), some (.int v2)] [] u = if v2 = (Int32.ofInt (-1)) then (sm_run C c_M_behindOne n 63 [some (.ref a0), some (.int v1), some (.int v2)] [] u) else (if sm_tg u a0 = 112 then (if (sm_I u a0 9) = (nI 41) then (sm_run C c_M_behindOne n 65 [some (.ref a0), some (.int v1), some (.int v2)] [] u) else (sm_run C c_M_behindOne n 63 [some (.ref a0), some (.int v1), some (.int v2)] [] u)) else none) := q_M_behindOne_55 C n u a0 v1 v2
theorem z_M_behindOne_63 (C : Nat → List Value → sm_M → sm_R) (n : Nat) (u : sm_M) (a0 : Nat) (v1 v2 : Int32) : sm_run C c_M_behindOne (n + 1) 63 [some (.ref a0), some (.int v1), some (.int v2)] [] u = some (some (.int (Int32.ofInt (-1))), u) := q_M_behindOne_63 C n u a0 v1 v2
theorem z_M_behindOne_45 (C : Nat → List Value → sm_M → sm_R) (n : Nat) (u : sm_M) (a0 : Nat) (v1 v2 : Int32) : sm_run C c_M_behindOne (n + 1) 45 [some (.ref a0), some (.int v1), some (.int v2)] [] u = if v2 = (nI 41) then (if sm_tg u a0 = 112 then (if (sm_I u a0 9) = (nI 44) then (if sm_tg u a0 = 112 then (sm_ri (C 245 [.ref a0] u) (fun x2 u1 => some (some (.int x2), u1))) else none) else (sm_run C c_M_behindOne n 55 [some (.ref a0), some (.int v1), some (.int v2)] [] u)) else none) else (sm_run C c_M_behindOne n 55 [some (.ref a0), some (.int v1), some (.int v2)] [] u) := q_M_behindOne_45 C n u a0 v1 v2
theorem z_M_behindOne_11 (C : Nat → List Value → sm_M → sm_R) (n : Nat) (u : sm_M) (a0 y0 : Nat) (v1 : Int32) : sm_run C c_M_behindOne (n + 1) 11 [some (.ref a0), some (.int v1), none] [.ref y0] u = sm_ri (C 234 [.int v1] u) (fun x2 u1 => sm_run C c_M_behindOne n 14 [some (.ref a0), some (.int v1), none] [.int x2, .ref y0] u1) := q_M_behindOne_11 C n u a0 y0 v1
def pre5 (τ : S5) : Prop := opl τ.2.2.1 ∧ τ.2.2.1.length < 160 ∧ τ.2.1.length + τ.2.2.1.length < 300 ∧ τ.2.2.2.1.length < 9 ∧ (opw τ.2.2.1 = 41 → ∃ x N, τ.2.2.2.1 = x :: N ∧ x ≤ 6)
theorem betF_v {P : List Nat} {k : Nat} : betF P k = 99 ∨ (6 ≤ betF P k ∧ betF P k ≤ 15) ∨ (21 ≤ betF P k ∧ betF P k ≤ 23) := by
  unfold betF cmO
  repeat (first | omega | split)
section
variable {u0 : sm_M} {b : Nat → Nat} {n t ev : Nat}
theorem MS.setN {u : sm_M} {s : Nat} {c : List (Nat × Nat)} {P : List Nat} {p : Nat} {N : List Nat} {w : Bool} {x : Nat} (h : MS u0 b n t u (s, c, P, p, x :: N, w)) {y : Nat} (hy : y < 1000) : MS u0 b n t (sm_wI u 281 N.length (nI y)) (s, c, P, p, y :: N, w) := by
  obtain ⟨⟨hu, hB⟩, hf, hT, hc, hp, hop, hn, hw⟩ := h
  have F1 : FrP (fun a _ => a = 281) u (sm_wI u 281 N.length (nI y)) := FrP.rf.wI rfl
  have R : ∀ a j, a ≠ 281 → sm_I (sm_wI u 281 N.length (nI y)) a j = sm_I u a j := fun a j h1 => F1.2.2 a j h1
  refine ⟨⟨hu.wI, hB.fr F1 (by omega) (fun i => by omega)⟩, hf.wI (by omega), ?_, ?_, ?_, ?_, ?_, ?_⟩
  · exact ⟨hT.1, by rw [R _ _ (by omega)]; exact hT.2.1, by rw [R _ _ (by omega)]; exact hT.2.2.1, by rw [R _ _ (by omega)]; exact hT.2.2.2.1, fun z1 z2 => by rw [R _ _ (by omega)]; exact hT.2.2.2.2.1 z1 z2, fun z1 z2 => by rw [wI_L]; exact hT.2.2.2.2.2 z1 z2⟩
  · exact ⟨by rw [R _ _ (by omega)]; exact hc.1, hc.2.1, fun i hi => by rw [R _ _ (by omega), R _ _ (by omega)]; exact hc.2.2 i hi⟩
  · exact ⟨by rw [R _ _ (by omega)]; exact hp.1, hp.2.1, hp.2.2.cg (fun k _ => R _ _ (by omega))⟩
  · exact ⟨by rw [R _ _ (by omega)]; exact hop.1, hop.2⟩
  · exact ⟨by rw [R _ _ (by omega)]; exact hn.1, hn.2.1, ⟨⟨wI_at, hy⟩, hn.2.2.2.cg (fun k (hk : k < N.length) => by rw [wI_nk (by omega)])⟩⟩
  · rw [R _ _ (by omega)]
    exact hw
theorem MS.popN {u : sm_M} {s : Nat} {c : List (Nat × Nat)} {P : List Nat} {p : Nat} {N : List Nat} {w : Bool} {x : Nat} (h : MS u0 b n t u (s, c, P, p, x :: N, w)) : MS u0 b n t (sm_wI u 275 19 (nI N.length)) (s, c, P, p, N, w) ∧ sm_I (sm_wI u 275 19 (nI N.length)) 281 N.length = nI x := by
  obtain ⟨⟨hu, hB⟩, hf, hT, hc, hp, hop, hn, hw⟩ := h
  have F1 : FrP (fun a j => a = 275 ∧ j = 19) u (sm_wI u 275 19 (nI N.length)) := FrP.rf.wI ⟨rfl, rfl⟩
  have R : ∀ a j, (a ≠ 275 ∨ j ≠ 19) → sm_I (sm_wI u 275 19 (nI N.length)) a j = sm_I u a j := fun a j h1 => F1.2.2 a j (by omega)
  have hl : N.length + 1 ≤ 9 := hn.2.1
  refine ⟨⟨⟨hu.wI, hB.fr F1 (by omega) (fun i => by omega)⟩, hf.wI (by omega), ?_, ?_, ?_, ?_, ?_, ?_⟩, ?_⟩
  · exact ⟨hT.1, by rw [R _ _ (by omega)]; exact hT.2.1, by rw [R _ _ (by omega)]; exact hT.2.2.1, by rw [R _ _ (by omega)]; exact hT.2.2.2.1, fun z1 z2 => by rw [R _ _ (by omega)]; exact hT.2.2.2.2.1 z1 z2, fun z1 z2 => by rw [wI_L]; exact hT.2.2.2.2.2 z1 z2⟩
  · exact ⟨by rw [R _ _ (by omega)]; exact hc.1, hc.2.1, fun i hi => by rw [R _ _ (by omega), R _ _ (by omega)]; exact hc.2.2 i hi⟩
  · exact ⟨by rw [R _ _ (by omega)]; exact hp.1, hp.2.1, hp.2.2.cg (fun k _ => R _ _ (by omega))⟩
  · exact ⟨by rw [R _ _ (by omega)]; exact hop.1, hop.2⟩
  · exact ⟨wI_at, Nat.le_of_succ_le hl, hn.2.2.2.cg (fun k _ => R _ _ (by omega))⟩
  · rw [R _ _ (by omega)]
    exact hw
  · rw [R _ _ (by omega)]
    exact hn.2.2.1.1
theorem m_nextC (H : Mx u0 b n t ev) {D s x : Nat} {c : List (Nat × Nat)} {P N : List Nat} {w : Bool} {u : sm_M} (hD : 3 ≤ D) (h : MS u0 b n t u (s, c, P, nop P, x :: N, w)) (hP : opl P) (hl : c.length + P.length ≤ 300) (hx : x ≤ 6) : Ri (sm_call D 245 [.ref 275] u) (fun r v => if x = 6 then r = ffI 7 ∧ MS u0 b n t v (s, c, P, nop P, x :: N, w) else r = ffI 0 ∧ MS u0 b n t v (nx1 b n s, (stl 1 P c).2, (stl 1 P c).1, nop (stl 1 P c).1, (x + 1) :: N, false)) := by
  obtain ⟨D, rfl⟩ : ∃ k, D = k + 3 := ⟨D - 3, by omega⟩
  have hu := h.ly
  have e19 : sm_I u 275 19 = nI (N.length + 1) := h.2.2.2.2.2.2.1.1
  have l19 : N.length + 1 ≤ 9 := h.2.2.2.2.2.2.1.2.1
  have e281 : sm_I u 281 N.length = nI x := h.2.2.2.2.2.2.1.2.2.1.1
  have x1 : nI (N.length + 1) - nI 1 = nI N.length := by rw [nI_sub (by omega)]; rfl
  have cN : (nI N.length).toNatClampNeg = N.length := nI_clamp (by omega)
  rw [k_M_nextOfCount, z_M_nextOfCount_0]
  simp -implicitDefEqProofs only [h.tg, ↓yk_275_16 hu, e19, x1, in_281 hu (show N.length < 9 by omega), cN, e281, ↓reduceIte]
  by_cases q : x = 6
  · rw [if_pos (show nI x = nI 6 by rw [q])]
    refine Ri.ret ?_
    rw [if_pos q]
    exact ⟨rfl, h⟩
  · rw [if_neg (show ¬ nI x = nI 6 from fun z => q ((nI_eq (by omega) (by omega)).mp z)), z_M_nextOfCount_11]
    simp -implicitDefEqProofs only [h.tg, ↓reduceIte]
    refine Ri.rv (m_settle H (r := 1) (by omega) (by omega) (by omega) hP hl h) (fun v hv => ?_)
    have Lv := hv.ly
    have f19 : sm_I v 275 19 = nI (N.length + 1) := hv.2.2.2.2.2.2.1.1
    have f281 : sm_I v 281 N.length = nI x := hv.2.2.2.2.2.2.1.2.2.1.1
    simp -implicitDefEqProofs only [hv.tg, ↓yk_275_16 Lv, f19, x1, in_281 Lv (show N.length < 9 by omega), cN, f281, nI_add, ↓reduceIte, lt_s1]
    have h1 := hv.setN (y := x + 1) (by omega)
    generalize sm_wI v 281 N.length (nI (x + 1)) = w1 at *
    rw [if_pos (show sm_tg w1 275 = 112 ∧ (nI 0 = 0 ∨ nI 0 = 1) from ⟨yt_275 h1.ly, Or.inl rfl⟩)]
    have h2 := h1.w (k := 20) (x := nI 0) (τ' := (s, (stl 1 P c).2, (stl 1 P c).1, nop (stl 1 P c).1, (x + 1) :: N, false)) (Or.inr rfl) rfl rfl rfl rfl (fun _ => rfl) (fun z => by cases z) (fun z => absurd rfl z) (fun _ => rfl)
    generalize sm_wI w1 275 20 (nI 0) = w2 at *
    simp -implicitDefEqProofs only [h2.tg, ↓reduceIte]
    refine Ri.rv (m_next H (by omega) h2) (fun v3 h3 => ?_)
    refine Ri.ret ?_
    rw [if_neg q]
    exact ⟨rfl, h3⟩
theorem m_beh98 (H : Mx u0 b n t ev) {D s m : Nat} {c : List (Nat × Nat)} {P N : List Nat} {w : Bool} {u : sm_M} {x y : Int32} (hD : 2 ≤ D) (h : MS u0 b n t u (s, c, P, nop P, N, w)) (hP : opl P) (hl : c.length + P.length ≤ 300) : Ri (sm_run (sm_call D) c_M_behindOne (m + 1) 98 [some (.ref 275), some (.int x), some (.int y)] [] u) (fun r v => r = ffI 0 ∧ MS u0 b n t v (nx1 b n s, (stl 8 P c).2, (stl 8 P c).1, nop (stl 8 P c).1, N, w)) := by
  rw [z_M_behindOne_98]
  simp -implicitDefEqProofs only [h.tg, ↓reduceIte]
  refine Ri.rv (m_next H (by omega) h) (fun v hv => ?_)
  simp -implicitDefEqProofs only [hv.tg, ↓reduceIte]
  refine Ri.rv (m_settle H (r := 8) (by omega) (by omega) (by omega) hP hl hv) (fun v2 hv2 => ?_)
  exact Ri.ret ⟨rfl, hv2⟩
theorem m_beh65 (H : Mx u0 b n t ev) {D s m : Nat} {c : List (Nat × Nat)} {P N : List Nat} {w : Bool} {u : sm_M} {x : Int32} (hD : 2 ≤ D) (h : MS u0 b n t u (s, c, P, nop P, N, w)) (hP : opl P) (hl : c.length + P.length < 300) (hq : opw P = 40 ∨ opw P = 41) (h41 : opw P = 41 → ∃ x N', N = x :: N' ∧ x ≤ 6) : Ri (sm_run (sm_call D) c_M_behindOne (m + 2) 65 [some (.ref 275), some (.int x), some (.int (nI (opw P)))] [] u) (fun r v => r = ffI 0 ∧ M5 u0 b n t v (if opw P = 41 then (nx1 b n s, (stl 8 (stl 1 P c).1.tail ((stl 1 P c).2 ++ [(4, cntn N)])).2, (stl 8 (stl 1 P c).1.tail ((stl 1 P c).2 ++ [(4, cntn N)])).1, N.tail, w) else (nx1 b n s, (stl 8 (stl 1 P c).1.tail (stl 1 P c).2).2, (stl 8 (stl 1 P c).1.tail (stl 1 P c).2).1, N, w))) := by
  rw [z_M_behindOne_65]
  simp -implicitDefEqProofs only [h.tg, ↓reduceIte]
  refine Ri.rv (m_settle H (r := 1) (by omega) (by omega) (by omega) hP (by omega) h) (fun v hv => ?_)
  obtain ⟨s1, s2, s3⟩ := stl_sub 1 P c
  obtain ⟨R, eR⟩ := stl_1 P c hP (by omega)
  rw [eR] at hv s1 s2 s3 ⊢
  generalize (stl 1 P c).2 = c1 at *
  have hR : opl R := fun o ho => hP o (s1 o (List.mem_cons_of_mem _ ho))
  have l3 : c1.length + (R.length + 1) ≤ c.length + P.length := s3
  have en : nop (opw P :: R) = nop R + 1 := by
    show nop R + (if iso (opw P) = true then 1 else 0) = _
    rw [if_pos (show iso (opw P) = true by rcases hq with e | e <;> rw [e] <;> rfl)]
  rw [en] at hv
  have e17 : sm_I v 275 17 = nI (R.length + 1) := hv.2.2.2.2.1.1
  have l17 : R.length + 1 ≤ 160 := hv.2.2.2.2.1.2.1
  have x1 : nI (R.length + 1) - nI 1 = nI R.length := by rw [nI_sub (by omega)]; rfl
  simp -implicitDefEqProofs only [hv.tg, e17, x1, ↓reduceIte, lt_s1]
  have h1 := hv.pop.1
  generalize sm_wI v 275 17 (nI R.length) = w1 at *
  have e18 : sm_I w1 275 18 = nI (nop R + 1) := h1.2.2.2.2.2.1.1
  have l18 : nop R + 1 ≤ 300 := h1.2.2.2.2.2.1.2
  have x2 : nI (nop R + 1) - nI 1 = nI (nop R) := by rw [nI_sub (by omega)]; rfl
  simp -implicitDefEqProofs only [h1.tg, e18, x2, ↓reduceIte, lt_s1]
  have h2 := h1.w (k := 18) (x := nI (nop R)) (τ' := (s, c1, R, nop R, N, w)) (Or.inl rfl) rfl rfl rfl rfl (fun z => absurd rfl z) (fun _ => ⟨rfl, show nop R ≤ 300 by omega⟩) (fun _ => rfl) (fun z => by cases z)
  generalize sm_wI w1 275 18 (nI (nop R)) = w2 at *
  by_cases q : opw P = 41
  · obtain ⟨y, N', rfl, hy⟩ := h41 q
    rw [if_pos (show nI (opw P) = nI 41 by rw [q]), if_pos q]
    have e19 : sm_I w2 275 19 = nI (N'.length + 1) := h2.2.2.2.2.2.2.1.1
    have l19 : N'.length + 1 ≤ 9 := h2.2.2.2.2.2.2.1.2.1
    have x3 : nI (N'.length + 1) - nI 1 = nI N'.length := by rw [nI_sub (by omega)]; rfl
    have cN : (nI N'.length).toNatClampNeg = N'.length := nI_clamp (by omega)
    simp -implicitDefEqProofs only [h2.tg, e19, x3, ↓reduceIte, lt_s1]
    obtain ⟨h3, h3'⟩ := h2.popN
    have k19 : sm_I (sm_wI w2 275 19 (nI N'.length)) 275 19 = nI N'.length := wI_at
    generalize sm_wI w2 275 19 (nI N'.length) = w3 at *
    have L3 := h3.ly
    simp -implicitDefEqProofs only [h3.tg, ↓yk_275_16 L3, k19, in_281 L3 (show N'.length < 9 by omega), cN, h3', ↓reduceIte]
    refine Ri.rv (m_emit H (by omega) h3 (o := 4) (v := y) (by omega)) (fun v4 h4 => ?_)
    exact m_beh98 H hD h4.1 hR (by rw [List.length_append]; show c1.length + 1 + R.length ≤ 300; omega)
  · rw [if_neg (show ¬ nI (opw P) = nI 41 from fun z => q ((nI_eq (by omega) (by omega)).mp z)), if_neg q]
    exact m_beh98 H hD h2 hR (by show c1.length + R.length ≤ 300; omega)
theorem m_beh14 (H : Mx u0 b n t ev) {D s m r o : Nat} {c : List (Nat × Nat)} {P N : List Nat} {w : Bool} {u : sm_M} (hD : 2 ≤ D) (h : MS u0 b n t u (s, c, P, nop P, N, w)) (hP : opl P) (hp : P.length < 160) (hl : c.length + P.length ≤ 300) (hr1 : 1 ≤ r) (hr8 : r ≤ 8) (ho : o < 1000) (hi : iso o = false) : Ri (sm_run (sm_call D) c_M_behindOne (m + 1) 14 [some (.ref 275), some (.int (nI o)), none] [.int (nI r), .ref 275] u) (fun x v => x = ffI 0 ∧ M5 u0 b n t v (nx1 b n s, (stl r P c).2, o :: (stl r P c).1, N, false)) := by
  rw [z_M_behindOne_14]
  simp -implicitDefEqProofs only [h.tg, ↓reduceIte]
  refine Ri.rv (m_settle H (by omega) hr1 hr8 hP hl h) (fun v hv => ?_)
  have s2 := (stl_sub r P c).2.1
  generalize (stl r P c).2 = c1 at *
  generalize (stl r P c).1 = R at *
  have en : nop (o :: R) = nop R := by
    show nop R + (if iso o = true then 1 else 0) = _
    rw [hi]
    rfl
  have Lv := hv.ly
  have e17 : sm_I v 275 17 = nI R.length := hv.2.2.2.2.1.1
  have cP : (nI R.length).toNatClampNeg = R.length := nI_clamp (by omega)
  simp -implicitDefEqProofs only [hv.tg, e17, ↓yk_275_15 Lv, in_280 Lv (show R.length < 160 by omega), cP, ↓reduceIte, lt_s1]
  have h2 := hv.push (o := o) ho (by omega)
  have L2 : Ly (sm_wI v 280 R.length (nI o)) := Lv.wI
  have g17 : sm_I (sm_wI v 280 R.length (nI o)) 275 17 = nI R.length := by rw [wI_na (by decide)]; exact e17
  simp -implicitDefEqProofs only [eq_true (yt_275 L2), g17, nI_add, ↓reduceIte, lt_s1]
  generalize sm_wI (sm_wI v 280 R.length (nI o)) 275 17 (nI (R.length + 1)) = w2 at *
  rw [if_pos (show sm_tg w2 275 = 112 ∧ (nI 0 = 0 ∨ nI 0 = 1) from ⟨yt_275 h2.ly, Or.inl rfl⟩)]
  have h3 := h2.w (k := 20) (x := nI 0) (τ' := (s, c1, o :: R, nop R, N, false)) (Or.inr rfl) rfl rfl rfl rfl (fun _ => rfl) (fun z => by cases z) (fun z => absurd rfl z) (fun _ => rfl)
  generalize sm_wI w2 275 20 (nI 0) = w3 at *
  simp -implicitDefEqProofs only [h3.tg, ↓reduceIte]
  refine Ri.rv (m_next H (by omega) h3) (fun v3 h4 => ?_)
  refine Ri.ret ⟨rfl, ?_⟩
  show MS u0 b n t v3 (nx1 b n s, c1, o :: R, nop (o :: R), N, false)
  rw [en]
  exact h4
theorem m_behind (H : Mx u0 b n t ev) {D : Nat} (hD : 8 ≤ D) {τ : S5} {u : sm_M} (h : M5 u0 b n t u τ) (hp : pre5 τ) : Ri (sm_call D 246 [.ref 275] u) (fun x v => x = ffI (behF b n τ).1 ∧ M5 u0 b n t v (behF b n τ).2) := by
  obtain ⟨D, rfl⟩ : ∃ k, D = k + 8 := ⟨D - 8, by omega⟩
  obtain ⟨s, c, P, N, w⟩ := τ
  have h : MS u0 b n t u (s, c, P, nop P, N, w) := h
  obtain ⟨hP, hl, hc, hN, h41⟩ := hp
  have hP : opl P := hP
  have hl : P.length < 160 := hl
  have hc : c.length + P.length < 300 := hc
  have hN : N.length < 9 := hN
  have h41 : opw P = 41 → ∃ x N', N = x :: N' ∧ x ≤ 6 := h41
  have e9 : sm_I u 275 9 = nI (tkc b n s) := h.2.2.1.2.2.2.1
  have htk := tk_kd (b := b) (n := n) (s := s)
  have hbv := betF_v (P := P) (k := kdp b n s)
  have how := opw_v P hP
  unfold behF
  rw [k_M_behindOne, z_M_behindOne_0]
  simp -implicitDefEqProofs only [h.tg, m_betweenOf (D := D + 1) h hP, ↓reduceIte]
  show Ri (if btI (betF P (kdp b n s)) < 0 then _ else _) _
  by_cases q99 : betF P (kdp b n s) = 99
  · have e1 : btI (betF P (kdp b n s)) = Int32.ofInt (-1) := if_pos q99
    rw [e1, if_pos (show Int32.ofInt (-1) < 0 by decide), if_neg (show ¬ ¬ betF P (kdp b n s) = 99 from fun z => z q99), z_M_behindOne_34]
    simp -implicitDefEqProofs only [h.tg, m_openNow (D := D + 6) h, m_isCmp (D := D + 5) h hP, ↓reduceIte]
    -- from 45 on
    have f45 : ∀ m, ¬ (opw P = 41 ∧ ¬ icm P = true) → Ri (sm_run (sm_call (D + 7)) c_M_behindOne (m + 5) 45 [some (.ref 275), some (.int (Int32.ofInt (-1))), some (.int (opI P))] [] u) (fun x v => x = ffI (if opw P = 41 ∧ kdp b n s = 44 then (if cntn N = 6 then ((7, (s, c, P, N, w)) : Nat × S5) else (0, (nx1 b n s, (stl 1 P c).2, (stl 1 P c).1, (cntn N + 1) :: N.tail, false))) else if opw P = 0 ∨ ¬ kdp b n s = 41 then (9, (s, c, P, N, w)) else if opw P = 41 then (0, (nx1 b n s, (stl 8 (stl 1 P c).1.tail ((stl 1 P c).2 ++ [(4, cntn N)])).2, (stl 8 (stl 1 P c).1.tail ((stl 1 P c).2 ++ [(4, cntn N)])).1, N.tail, w)) else (0, (nx1 b n s, (stl 8 (stl 1 P c).1.tail (stl 1 P c).2).2, (stl 8 (stl 1 P c).1.tail (stl 1 P c).2).1, N, w))).1 ∧ M5 u0 b n t v (if opw P = 41 ∧ kdp b n s = 44 then (if cntn N = 6 then ((7, (s, c, P, N, w)) : Nat × S5) else (0, (nx1 b n s, (stl 1 P c).2, (stl 1 P c).1, (cntn N + 1) :: N.tail, false))) else if opw P = 0 ∨ ¬ kdp b n s = 41 then (9, (s, c, P, N, w)) else if opw P = 41 then (0, (nx1 b n s, (stl 8 (stl 1 P c).1.tail ((stl 1 P c).2 ++ [(4, cntn N)])).2, (stl 8 (stl 1 P c).1.tail ((stl 1 P c).2 ++ [(4, cntn N)])).1, N.tail, w)) else (0, (nx1 b n s, (stl 8 (stl 1 P c).1.tail (stl 1 P c).2).2, (stl 8 (stl 1 P c).1.tail (stl 1 P c).2).1, N, w))).2) := by
      intro m hn
      have o99 : ¬ opw P = 0 → opI P = nI (opw P) := fun z => if_neg z
      have k44 : nI (tkc b n s) = nI 44 ↔ kdp b n s = 44 := ⟨fun z => (htk.2.2.2.2.1 44 (by omega) (by omega)).mp ((nI_eq (by omega) (by omega)).mp z), fun z => by rw [(htk.2.2.2.2.1 44 (by omega) (by omega)).mpr z]⟩
      have k41 : nI (tkc b n s) = nI 41 ↔ kdp b n s = 41 := ⟨fun z => (htk.2.2.2.2.1 41 (by omega) (by omega)).mp ((nI_eq (by omega) (by omega)).mp z), fun z => by rw [(htk.2.2.2.2.1 41 (by omega) (by omega)).mpr z]⟩
      have f55 : ¬ (opw P = 41 ∧ kdp b n s = 44) → Ri (sm_run (sm_call (D + 7)) c_M_behindOne (m + 4) 55 [some (.ref 275), some (.int (Int32.ofInt (-1))), some (.int (opI P))] [] u) (fun x v => x = ffI (if opw P = 0 ∨ ¬ kdp b n s = 41 then (9, (s, c, P, N, w)) else if opw P = 41 then ((0, (nx1 b n s, (stl 8 (stl 1 P c).1.tail ((stl 1 P c).2 ++ [(4, cntn N)])).2, (stl 8 (stl 1 P c).1.tail ((stl 1 P c).2 ++ [(4, cntn N)])).1, N.tail, w)) : Nat × S5) else (0, (nx1 b n s, (stl 8 (stl 1 P c).1.tail (stl 1 P c).2).2, (stl 8 (stl 1 P c).1.tail (stl 1 P c).2).1, N, w))).1 ∧ M5 u0 b n t v (if opw P = 0 ∨ ¬ kdp b n s = 41 then (9, (s, c, P, N, w)) else if opw P = 41 then ((0, (nx1 b n s, (stl 8 (stl 1 P c).1.tail ((stl 1 P c).2 ++ [(4, cntn N)])).2, (stl 8 (stl 1 P c).1.tail ((stl 1 P c).2 ++ [(4, cntn N)])).1, N.tail, w)) : Nat × S5) else (0, (nx1 b n s, (stl 8 (stl 1 P c).1.tail (stl 1 P c).2).2, (stl 8 (stl 1 P c).1.tail (stl 1 P c).2).1, N, w))).2) := by
        intro _
        rw [z_M_behindOne_55]
        by_cases q0 : opw P = 0
        · have e0 : opI P = Int32.ofInt (-1) := if_pos q0
          rw [if_pos (show opI P = Int32.ofInt (-1) from e0), if_pos (show opw P = 0 ∨ ¬ kdp b n s = 41 from Or.inl q0), z_M_behindOne_63]
          exact Ri.ret ⟨rfl, h⟩
        · rw [o99 q0, if_neg (show ¬ nI (opw P) = Int32.ofInt (-1) by rcases how with e | e | e <;> rw [e] <;> decide)]
          simp -implicitDefEqProofs only [h.tg, e9, ↓reduceIte]
          by_cases q1 : kdp b n s = 41
          · rw [if_pos (k41.mpr q1), if_neg (show ¬ (opw P = 0 ∨ ¬ kdp b n s = 41) from fun z => z.elim q0 (fun y => y q1))]
            have := m_beh65 (m := m + 1) (x := Int32.ofInt (-1)) H (D := D + 7) (by omega) h hP hc (by omega) h41
            by_cases q : opw P = 41
            · rw [if_pos q] at this ⊢
              exact this
            · rw [if_neg q] at this ⊢
              exact this
          · rw [if_neg (show ¬ nI (tkc b n s) = nI 41 from fun z => q1 (k41.mp z)), if_pos (show opw P = 0 ∨ ¬ kdp b n s = 41 from Or.inr q1), z_M_behindOne_63]
            exact Ri.ret ⟨rfl, h⟩
      rw [z_M_behindOne_45]
      by_cases q : opw P = 41
      · have eo : opI P = nI 41 := by
          rw [o99 (by omega), q]
        rw [if_pos (show opI P = nI 41 from eo)]
        simp -implicitDefEqProofs only [h.tg, e9, ↓reduceIte]
        by_cases q2 : kdp b n s = 44
        · rw [if_pos (k44.mpr q2), if_pos (show opw P = 41 ∧ kdp b n s = 44 from ⟨q, q2⟩)]
          obtain ⟨y, N', rfl, hy⟩ := h41 q
          show Ri _ (fun x v => x = ffI (if y = 6 then ((7, (s, c, P, y :: N', w)) : Nat × S5) else (0, (nx1 b n s, (stl 1 P c).2, (stl 1 P c).1, (y + 1) :: N', false))).1 ∧ M5 u0 b n t v (if y = 6 then ((7, (s, c, P, y :: N', w)) : Nat × S5) else (0, (nx1 b n s, (stl 1 P c).2, (stl 1 P c).1, (y + 1) :: N', false))).2)
          refine Ri.ri (m_nextC H (D := D + 7) (by omega) h hP (by omega) hy) (fun x v hv => ?_)
          refine Ri.ret ?_
          by_cases q6 : y = 6
          · rw [if_pos q6] at hv ⊢
            exact hv
          · rw [if_neg q6] at hv ⊢
            exact hv
        · rw [if_neg (show ¬ nI (tkc b n s) = nI 44 from fun z => q2 (k44.mp z)), if_neg (show ¬ (opw P = 41 ∧ kdp b n s = 44) from fun z => q2 z.2)]
          exact f55 (fun z => q2 z.2)
      · have eo : ¬ opI P = nI 41 := by
          unfold opI
          rcases how with e | e | e
          · rw [e]; decide
          · rw [e]; decide
          · exact absurd e q
        rw [if_neg (show ¬ opI P = nI 41 from eo), if_neg (show ¬ (opw P = 41 ∧ kdp b n s = 44) from fun z => q z.1)]
        exact f55 (fun z => q z.1)
    by_cases qc : opw P = 41
    · have eo : opI P = nI 41 := by
        unfold opI
        rw [qc]
        rfl
      by_cases qi : icm P = true
      · rw [if_neg (show ¬ (opw P = 41 ∧ ¬ icm P = true) from fun z => z.2 qi)]
        have := f45 2999993 (fun z => z.2 qi)
        show Ri (if opI P = nI 41 then _ else _) _
        rw [eo] at this ⊢
        rw [if_pos (show nI 41 = nI 41 from rfl)]
        show Ri (if (if icm P = true then (1 : Int32) else 0) = 0 then _ else _) _
        rw [if_pos qi, if_neg (show ¬ (1 : Int32) = 0 by decide)]
        exact this
      · rw [if_pos (show opw P = 41 ∧ ¬ icm P = true from ⟨qc, qi⟩)]
        show Ri (if opI P = nI 41 then _ else _) _
        rw [eo, if_pos (show nI 41 = nI 41 from rfl)]
        show Ri (if (if icm P = true then (1 : Int32) else 0) = 0 then _ else _) _
        rw [if_neg qi, if_pos (show (0 : Int32) = 0 from rfl)]
        exact Ri.ret ⟨rfl, h⟩
    · have eo : ¬ opI P = nI 41 := by
        unfold opI
        rcases how with e | e | e
        · rw [e]; decide
        · rw [e]; decide
        · exact absurd e qc
      rw [if_neg (show ¬ (opw P = 41 ∧ ¬ icm P = true) from fun z => qc z.1)]
      show Ri (if opI P = nI 41 then _ else _) _
      rw [if_neg eo]
      exact f45 2999993 (fun z => qc z.1)
  · have e1 : btI (betF P (kdp b n s)) = nI (betF P (kdp b n s)) := if_neg q99
    rw [e1, if_neg (show ¬ nI (betF P (kdp b n s)) < 0 from nI_pos (by omega)), if_pos (show ¬ betF P (kdp b n s) = 99 from q99)]
    generalize betF P (kdp b n s) = o at *
    have hi : iso o = false := by
      unfold iso
      simp only [decide_eq_false (show ¬ o = 5 by omega), decide_eq_false (show ¬ o = 20 by omega), decide_eq_false (show ¬ 40 ≤ o by omega), Bool.or_false]
    by_cases q : o = 23
    · rw [if_pos (show nI o = nI 23 by rw [q]), if_pos q]
      exact m_beh14 H (by omega) h hP hl (by omega) (by omega) (by omega) (by omega) hi
    · rw [if_neg (show ¬ nI o = nI 23 from fun z => q ((nI_eq (by omega) (by omega)).mp z)), if_neg q, z_M_behindOne_11, s_rank (D + 6) u (by omega) (by omega)]
      have hr : 1 ≤ rnk o := by
        unfold rnk
        repeat (first | omega | split)
      exact m_beh14 H (by omega) h hP hl (by omega) hr (rnk_lt o) (by omega) hi
end
