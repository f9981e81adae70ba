/-! texts: the reference reads what a clause says (by hand) -/
theorem z_M_lawClause_0 (C : Nat → List Value → sm_M → sm_R) (n : Nat) (u : sm_M) (a0 : Nat) (v1 : Int32) : sm_run C c_M_lawClause (n + 1) 0 [some (.ref a0), some (.int v1), none] [] u = if sm_tg u a0 = 112 then sm_rr (sm_Rf u a0 2) (fun q1 => if sm_tg u a0 = 112 then (if sm_in u 1 q1 (v1 + (nI 1)) then (sm_lt (sm_wI u q1 (v1 + (nI 1)).toNatClampNeg (sm_I u a0 13)) (fun u2 => if sm_tg u2 a0 = 112 then (sm_ri (C 247 [.ref a0] u2) (fun x4 u3 => if sm_tg u3 a0 = 112 then sm_rr (sm_Rf u3 a0 2) (fun q5 => if sm_tg u3 a0 = 112 then (if sm_in u3 1 q5 (v1 + (nI 2)) then (sm_lt (sm_wI u3 q5 (v1 + (nI 2)).toNatClampNeg (sm_I u3 a0 13)) (fun u6 => some (some (.int x4), u6))) else none) else none) else none)) else none)) else none) else none) else none := q_M_lawClause_0 C n u a0 v1
theorem z_M_body_0 (C : Nat → List Value → sm_M → sm_R) (n : Nat) (u : sm_M) (a0 : Nat) (v1 v2 : Int32) : sm_run C c_M_body (n + 1) 0 [some (.ref a0), some (.int v1), some (.int v2)] [] u = if v1 = (nI 2) then (sm_run C c_M_body n 2 [some (.ref a0), some (.int v1), some (.int v2)] [] u) else if v1 = (nI 3) then (sm_run C c_M_body n 14 [some (.ref a0), some (.int v1), some (.int v2)] [] u) else if v1 = (nI 4) then (sm_run C c_M_body n 25 [some (.ref a0), some (.int v1), some (.int v2)] [] u) else if v1 = (nI 5) then (sm_run C c_M_body n 33 [some (.ref a0), some (.int v1), some (.int v2)] [] u) else if v1 = (nI 6) then (sm_run C c_M_body n 43 [some (.ref a0), some (.int v1), some (.int v2)] [] u) else if v1 = (nI 7) then (sm_run C c_M_body n 53 [some (.ref a0), some (.int v1), some (.int v2)] [] u) else sm_run C c_M_body n 61 [some (.ref a0), some (.int v1), some (.int v2)] [] u := q_M_body_0 C n u a0 v1 v2
theorem z_M_body_61 (C : Nat → List Value → sm_M → sm_R) (n : Nat) (u : sm_M) (a0 : Nat) (v1 v2 : Int32) : sm_run C c_M_body (n + 1) 61 [some (.ref a0), some (.int v1), some (.int v2)] [] u = if sm_tg u a0 = 112 then (sm_ri (C 249 [.ref a0, .int v2] u) (fun x2 u1 => some (some (.int x2), u1))) else none := q_M_body_61 C n u a0 v1 v2
theorem z_M_body_2 (C : Nat → List Value → sm_M → sm_R) (n : Nat) (u : sm_M) (a0 : Nat) (v1 v2 : Int32) : sm_run C c_M_body (n + 1) 2 [some (.ref a0), some (.int v1), some (.int v2)] [] u = sm_rl (C 228 [.int (nI 111), .int (nI 100), .int (nI 100), .int (nI 115)] u) (fun x2 u1 => if sm_tg u1 a0 = 112 then (sm_ri (C 250 [.ref a0, .int v2, .int (nI 1), .long x2, .int (nI 0), .int (nI 10)] u1) (fun x4 u3 => some (some (.int x4), u3))) else none) := q_M_body_2 C n u a0 v1 v2
theorem z_M_body_14 (C : Nat → List Value → sm_M → sm_R) (n : Nat) (u : sm_M) (a0 : Nat) (v1 v2 : Int32) : sm_run C c_M_body (n + 1) 14 [some (.ref a0), some (.int v1), some (.int v2)] [] u = sm_rl (C 227 [.int (nI 102), .int (nI 111), .int (nI 114)] u) (fun x2 u1 => if sm_tg u1 a0 = 112 then (sm_ri (C 250 [.ref a0, .int v2, .int (nI 255), .long x2, .int (nI 1), .int (nI 9)] u1) (fun x4 u3 => some (some (.int x4), u3))) else none) := q_M_body_14 C n u a0 v1 v2
theorem z_M_body_25 (C : Nat → List Value → sm_M → sm_R) (n : Nat) (u : sm_M) (a0 : Nat) (v1 v2 : Int32) : sm_run C c_M_body (n + 1) 25 [some (.ref a0), some (.int v1), some (.int v2)] [] u = if sm_tg u a0 = 112 then (sm_ri (C 248 [.ref a0, .int (v2 + (nI 1)), .int (nI 0), .int (nI 7)] u) (fun x2 u1 => some (some (.int x2), u1))) else none := q_M_body_25 C n u a0 v1 v2
theorem z_M_body_33 (C : Nat → List Value → sm_M → sm_R) (n : Nat) (u : sm_M) (a0 : Nat) (v1 v2 : Int32) : sm_run C c_M_body (n + 1) 33 [some (.ref a0), some (.int v1), some (.int v2)] [] u = sm_rl (C 226 [.int (nI 116), .int (nI 111)] u) (fun x2 u1 => if sm_tg u1 a0 = 112 then (sm_ri (C 250 [.ref a0, .int v2, .int (nI 5), .long x2, .int (nI 0), .int (nI 255)] u1) (fun x4 u3 => some (some (.int x4), u3))) else none) := q_M_body_33 C n u a0 v1 v2
theorem z_M_body_43 (C : Nat → List Value → sm_M → sm_R) (n : Nat) (u : sm_M) (a0 : Nat) (v1 v2 : Int32) : sm_run C c_M_body (n + 1) 43 [some (.ref a0), some (.int v1), some (.int v2)] [] u = sm_rl (C 226 [.int (nI 105), .int (nI 110)] u) (fun x2 u1 => if sm_tg u1 a0 = 112 then (sm_ri (C 250 [.ref a0, .int v2, .int (nI 9), .long x2, .int (nI 0), .int (nI 5)] u1) (fun x4 u3 => some (some (.int x4), u3))) else none) := q_M_body_43 C n u a0 v1 v2
theorem z_M_body_53 (C : Nat → List Value → sm_M → sm_R) (n : Nat) (u : sm_M) (a0 : Nat) (v1 v2 : Int32) : sm_run C c_M_body (n + 1) 53 [some (.ref a0), some (.int v1), some (.int v2)] [] u = if sm_tg u a0 = 112 then (sm_ri (C 248 [.ref a0, .int (v2 + (nI 1)), .int (nI 0), .int (nI 9)] u) (fun x2 u1 => some (some (.int x2), u1))) else none := q_M_body_53 C n u a0 v1 v2
theorem z_M_sortOf_0 (C : Nat → List Value → sm_M → sm_R) (n : Nat) (u : sm_M) (a0 : Nat) : sm_run C c_M_sortOf (n + 1) 0 [some (.ref a0)] [] u = sm_rl (C 227 [.int (nI 109), .int (nI 97), .int (nI 121)] u) (fun x2 u1 => if sm_tg u1 a0 = 112 then (sm_ri (C 231 [.ref a0, .long x2] u1) (fun x4 u3 => if x4 = 0 then (sm_run C c_M_sortOf n 9 [some (.ref a0)] [] u3) else (some (some (.int (nI 0)), u3)))) else none) := q_M_sortOf_0 C n u a0
theorem z_M_sortOf_9 (C : Nat → List Value → sm_M → sm_R) (n : Nat) (u : sm_M) (a0 : Nat) : sm_run C c_M_sortOf (n + 1) 9 [some (.ref a0)] [] u = sm_rl (C 229 [.int (nI 101), .int (nI 118), .int (nI 101), .int (nI 110), .int (nI 116)] u) (fun x2 u1 => if sm_tg u1 a0 = 112 then (sm_ri (C 231 [.ref a0, .long x2] u1) (fun x4 u3 => if x4 = 0 then (sm_run C c_M_sortOf n 20 [some (.ref a0)] [] u3) else (some (some (.int (nI 1)), u3)))) else none) := q_M_sortOf_9 C n u a0
theorem z_M_sortOf_20 (C : Nat → List Value → sm_M → sm_R) (n : Nat) (u : sm_M) (a0 : Nat) : sm_run C c_M_sortOf (n + 1) 20 [some (.ref a0)] [] u = sm_rl (C 230 [.int (nI 99), .int (nI 104), .int (nI 111), .int (nI 105), .int (nI 99), .int (nI 101)] u) (fun x2 u1 => if sm_tg u1 a0 = 112 then (sm_ri (C 231 [.ref a0, .long x2] u1) (fun x4 u3 => if x4 = 0 then (sm_run C c_M_sortOf n 32 [some (.ref a0)] [] u3) else (some (some (.int (nI 2)), u3)))) else none) := q_M_sortOf_20 C n u a0
theorem z_M_sortOf_32 (C : Nat → List Value → sm_M → sm_R) (n : Nat) (u : sm_M) (a0 : Nat) : sm_run C c_M_sortOf (n + 1) 32 [some (.ref a0)] [] u = sm_rl (C 228 [.int (nI 114), .int (nI 111), .int (nI 111), .int (nI 109)] u) (fun x2 u1 => if sm_tg u1 a0 = 112 then (sm_ri (C 231 [.ref a0, .long x2] u1) (fun x4 u3 => if x4 = 0 then (sm_run C c_M_sortOf n 42 [some (.ref a0)] [] u3) else (some (some (.int (nI 3)), u3)))) else none) := q_M_sortOf_32 C n u a0
theorem z_M_sortOf_42 (C : Nat → List Value → sm_M → sm_R) (n : Nat) (u : sm_M) (a0 : Nat) : sm_run C c_M_sortOf (n + 1) 42 [some (.ref a0)] [] u = sm_rl (C 228 [.int (nI 116), .int (nI 117), .int (nI 114), .int (nI 110)] u) (fun x2 u1 => if sm_tg u1 a0 = 112 then (sm_ri (C 231 [.ref a0, .long x2] u1) (fun x4 u3 => if x4 = 0 then (sm_run C c_M_sortOf n 52 [some (.ref a0)] [] u3) else (some (some (.int (nI 4)), u3)))) else none) := q_M_sortOf_42 C n u a0
theorem z_M_sortOf_52 (C : Nat → List Value → sm_M → sm_R) (n : Nat) (u : sm_M) (a0 : Nat) : sm_run C c_M_sortOf (n + 1) 52 [some (.ref a0)] [] u = sm_rl (C 227 [.int (nI 115), .int (nI 101), .int (nI 116)] u) (fun x2 u1 => if sm_tg u1 a0 = 112 then (sm_ri (C 231 [.ref a0, .long x2] u1) (fun x4 u3 => if x4 = 0 then (sm_run C c_M_sortOf n 61 [some (.ref a0)] [] u3) else (some (some (.int (nI 5)), u3)))) else none) := q_M_sortOf_52 C n u a0
theorem z_M_sortOf_61 (C : Nat → List Value → sm_M → sm_R) (n : Nat) (u : sm_M) (a0 : Nat) : sm_run C c_M_sortOf (n + 1) 61 [some (.ref a0)] [] u = sm_rl (C 227 [.int (nI 112), .int (nI 117), .int (nI 116)] u) (fun x2 u1 => if sm_tg u1 a0 = 112 then (sm_ri (C 231 [.ref a0, .long x2] u1) (fun x4 u3 => if x4 = 0 then (sm_run C c_M_sortOf n 70 [some (.ref a0)] [] u3) else (sm_run C c_M_sortOf n 82 [some (.ref a0)] [.int (nI 6)] u3))) else none) := q_M_sortOf_61 C n u a0
theorem z_M_sortOf_82 (C : Nat → List Value → sm_M → sm_R) (n : Nat) (u : sm_M) (a0 : Nat) (s0 : Int32) : sm_run C c_M_sortOf (n + 1) 82 [some (.ref a0)] [.int s0] u = some (some (.int s0), u) := q_M_sortOf_82 C n u a0 s0
theorem z_M_sortOf_70 (C : Nat → List Value → sm_M → sm_R) (n : Nat) (u : sm_M) (a0 : Nat) : sm_run C c_M_sortOf (n + 1) 70 [some (.ref a0)] [] u = sm_rl (C 228 [.int (nI 116), .int (nI 97), .int (nI 107), .int (nI 101)] u) (fun x2 u1 => if sm_tg u1 a0 = 112 then (sm_ri (C 231 [.ref a0, .long x2] u1) (fun x4 u3 => if x4 = 0 then (sm_run C c_M_sortOf n 80 [some (.ref a0)] [] u3) else (sm_run C c_M_sortOf n 82 [some (.ref a0)] [.int (nI 7)] u3))) else none) := q_M_sortOf_70 C n u a0
theorem z_M_sortOf_80 (C : Nat → List Value → sm_M → sm_R) (n : Nat) (u : sm_M) (a0 : Nat) : sm_run C c_M_sortOf (n + 1) 80 [some (.ref a0)] [] u = sm_run C c_M_sortOf n 82 [some (.ref a0)] [.int (Int32.ofInt (-1))] u := q_M_sortOf_80 C n u a0
section
variable {u0 : sm_M} {b : Nat → Nat} {n t : Nat} {cl : Cls} {lim : Bool}
theorem RS.m0 {u : sm_M} {s : Nat} {c : List (Nat × Nat)} (h : RS u0 b n t cl lim u s c) : M0 u b n t u s c := ⟨h.1, FrP.rf, h.2.2.1, h.2.2.2.1⟩
/-- behind a law -/
theorem RS.law {w v : sm_M} {s : Nat} {c : List (Nat × Nat)} (h : RS u0 b n t cl lim w s c) {τ : S5} (hv : M5 w b n t v τ) : RS u0 b n t cl lim v τ.1 τ.2.1 ∧ ∀ k, k < 705 * t + 97 → sm_I v 278 k = sm_I w 278 k := by
  obtain ⟨⟨hu, hR⟩, hf, hT, hc, hm, hk, hl⟩ := h
  obtain ⟨l1, l2, l3, l4, _⟩ := hv
  have R : ∀ k, k < 705 * t + 97 → sm_I v 278 k = sm_I w 278 k := fun k hk => l2.2.2 278 k (by omega)
  have R2 : ∀ k, k = 12 ∨ k = 14 ∨ k = 21 → sm_I v 275 k = sm_I w 275 k := fun k hk => l2.2.2 275 k (by omega)
  have hl1 := hl.1
  refine ⟨⟨l1, hf.tr (l2.mono (fun a k q => by omega)), l3, l4, ⟨by rw [R2 _ (by omega)]; exact hm.1, by rw [R2 _ (by omega)]; exact hm.2.1, by rw [R2 _ (by omega)]; exact hm.2.2⟩, by rw [R _ (by omega)]; exact hk, hl.1, fun i hi => ?_⟩, R⟩
  rw [R _ (by omega), R _ (by omega), R _ (by omega)]
  exact hl.2 i hi
theorem r_law (ht : t < 4) (hB : ∀ i, b i < 256) {D z : Nat} (hD : 11 ≤ D) {u : sm_M} {s : Nat} {c : List (Nat × Nat)} (h : RS u0 b n t cl lim u s c) (hs : c.length + 1 ≤ s) (hev : evc cl ≤ 10) (hz1 : 705 * t + 1 + 4 * cl.length ≤ z) (hz2 : z + 2 < 705 * t + 97) (pl : Int32) :
    Ri (sm_call D 249 [.ref 275, .int (nI z)] u) (fun x v => RP u0 b n t cl lim pl (whF b n (lvl b n (evc cl) 8 3) (s, 0, pl, c)) x v ∧ (∀ k, k < 705 * t + 97 → k ≠ z + 1 → k ≠ z + 2 → sm_I v 278 k = sm_I u 278 k) ∧ ((whF b n (lvl b n (evc cl) 8 3) (s, 0, pl, c)).2.1 = 0 → sm_I v 278 (z + 1) = nI c.length ∧ sm_I v 278 (z + 2) = nI (whF b n (lvl b n (evc cl) 8 3) (s, 0, pl, c)).2.2.2.length)) := by
  obtain ⟨D, rfl⟩ : ∃ k, D = k + 11 := ⟨D - 11, by omega⟩
  have hu := h.1.1
  have hn : n ≤ 300 := h.1.2.1
  have hsn : s ≤ n := h.2.2.1.1.le
  have c1 : (nI (z + 1)).toNatClampNeg = z + 1 := nI_clamp (by omega)
  have c2 : (nI (z + 2)).toNatClampNeg = z + 2 := nI_clamp (by omega)
  have e13 : sm_I u 275 13 = nI c.length := h.2.2.2.1.1
  rw [k_M_lawClause, z_M_lawClause_0]
  simp -implicitDefEqProofs only [h.tg, ↓yk_275_2 hu, nI_add, in_278 hu (show z + 1 < 2820 by omega), c1, e13, ↓reduceIte, lt_s1]
  have h2 := h.wc (x := nI c.length) (show 705 * t + 1 + 4 * cl.length ≤ z + 1 by omega) (by omega)
  have V2 : sm_I (sm_wI u 278 (z + 1) (nI c.length)) 278 (z + 1) = nI c.length := wI_at
  have K2 : ∀ k, k ≠ z + 1 → sm_I (sm_wI u 278 (z + 1) (nI c.length)) 278 k = sm_I u 278 k := fun k hk => wI_nk hk
  generalize sm_wI u 278 (z + 1) (nI c.length) = w at *
  simp -implicitDefEqProofs only [h2.tg, ↓reduceIte]
  have HM : Mx w b n t (evc cl) := ⟨hn, ht, h2.2.2.2.2.1.1, h2.2.2.2.2.1.2.1, hev⟩
  refine Ri.ri (m_law HM (by omega) hB h2.m0 hs hsn) (fun x v hv => ?_)
  obtain ⟨ex, hv⟩ := hv
  obtain ⟨h3, R3⟩ := h2.law hv
  have hu3 := h3.1.1
  have e13' : sm_I v 275 13 = nI (whR b n (evc cl) 301 (s, c, [], [], false)).2.2.1.length := h3.2.2.2.1.1
  simp -implicitDefEqProofs only [h3.tg, ↓yk_275_2 hu3, in_278 hu3 (show z + 2 < 2820 by omega), c2, e13', ↓reduceIte, lt_s1]
  have h4 := h3.wc (x := nI (whR b n (evc cl) 301 (s, c, [], [], false)).2.2.1.length) (show 705 * t + 1 + 4 * cl.length ≤ z + 2 by omega) (by omega)
  have V4 : sm_I (sm_wI v 278 (z + 2) (nI (whR b n (evc cl) 301 (s, c, [], [], false)).2.2.1.length)) 278 (z + 2) = nI (whR b n (evc cl) 301 (s, c, [], [], false)).2.2.1.length := wI_at
  have K4 : ∀ k, k ≠ z + 2 → sm_I (sm_wI v 278 (z + 2) (nI (whR b n (evc cl) 301 (s, c, [], [], false)).2.2.1.length)) 278 k = sm_I v 278 k := fun k hk => wI_nk hk
  have V8 : sm_I (sm_wI v 278 (z + 2) (nI (whR b n (evc cl) 301 (s, c, [], [], false)).2.2.1.length)) 275 8 = nI (whR b n (evc cl) 301 (s, c, [], [], false)).2.1 := by
    rw [wI_na (by decide)]
    exact h3.2.2.1.2.2.1
  generalize sm_wI v 278 (z + 2) (nI (whR b n (evc cl) 301 (s, c, [], [], false)).2.2.1.length) = w4 at *
  have KK : ∀ k, k < 705 * t + 97 → k ≠ z + 1 → k ≠ z + 2 → sm_I w4 278 k = sm_I u 278 k := fun k j0 j1 j2 => (K4 k j2).trans ((R3 k j0).trans (K2 k j1))
  have V1 : sm_I w4 278 (z + 1) = nI c.length := (K4 (z + 1) (by omega)).trans ((R3 (z + 1) (by omega)).trans V2)
  refine Ri.ret ⟨?_, KK, ?_⟩
  · rcases n_whole (b := b) (ev := evc cl) (pl := pl) hn hs hsn with g | g
    · obtain ⟨g1, g2, g3, g4, g5, g6⟩ := g
      rw [g3] at h4 ex
      refine ⟨by rw [ex, g1], by omega, ⟨h4.1.1, h4.2.1⟩, fun _ => ⟨g2, h4⟩, fun y => absurd g1 y⟩
    · obtain ⟨g1, g2, g3, g4⟩ := g
      refine ⟨by rw [ex, g3], g2, ⟨h4.1.1, h4.2.1⟩, fun y => absurd y g1, fun _ => ?_⟩
      rw [V8]
      exact g4
  · intro y
    rcases n_whole (b := b) (ev := evc cl) (pl := pl) hn hs hsn with g | g
    · obtain ⟨g1, g2, g3, g4, g5, g6⟩ := g
      rw [g3] at V4
      exact ⟨V1, V4⟩
    · exact absurd y g.1
/-- what a clause of the kind k says: its two numbers, and where the reading stands -/
def bdF (b : Nat → Nat) (n ev k : Nat) (σ : Rst) : (Nat × Nat) × Rst := if k = 200 ∨ k = 201 then ((σ.2.2.2.length, (whF b n (lvl b n ev 8 3) σ).2.2.2.length), whF b n (lvl b n ev 8 3) σ) else dedF b n k σ
def BP (u0 : sm_M) (b : Nat → Nat) (n t : Nat) (cl : Cls) (lim : Bool) (pl : Int32) (z k : Nat) (u : sm_M) (p : (Nat × Nat) × Rst) (x : Int32) (v : sm_M) : Prop :=
  RP u0 b n t cl lim pl p.2 x v ∧ (∀ j, j < 705 * t + 97 → j ≠ z + 1 → j ≠ z + 2 → sm_I v 278 j = sm_I u 278 j) ∧ (p.2.2.1 = 0 → sm_I v 278 (z + 1) = nI p.1.1 ∧ (k ≠ 206 → k ≠ 211 → sm_I v 278 (z + 2) = nI p.1.2))
abbrev kd8 (k : Nat) : Prop := k = 200 ∨ k = 201 ∨ k = 202 ∨ k = 204 ∨ k = 206 ∨ k = 207 ∨ k = 209 ∨ k = 211
theorem r_body (ht : t < 4) (hB : ∀ i, b i < 256) {D z k : Nat} (hD : 12 ≤ D) (hk : kd8 k) {u : sm_M} {s : Nat} {c : List (Nat × Nat)} (h : RS u0 b n t cl lim u s c) (hs : c.length + 1 ≤ s) (hev : evc cl ≤ 10) (hz1 : 705 * t + 1 + 4 * cl.length ≤ z) (hz2 : z + 2 < 705 * t + 97) (pl : Int32) :
    Ri (sm_call D 251 [.ref 275, .int (nI (srt k)), .int (nI z)] u) (fun x v => BP u0 b n t cl lim pl z k u (bdF b n (evc cl) k (s, 0, pl, c)) x v) := by
  obtain ⟨D, rfl⟩ : ∃ j, D = j + 12 := ⟨D - 12, by omega⟩
  rw [k_M_body, z_M_body_0]
  have lw : ∀ m, k = 200 ∨ k = 201 → Ri (sm_run (sm_call (D + 11)) c_M_body (m + 1) 61 [some (.ref 275), some (.int (nI (srt k))), some (.int (nI z))] [] u) (fun x v => BP u0 b n t cl lim pl z k u (bdF b n (evc cl) k (s, 0, pl, c)) x v) := by
    intro m q
    rw [z_M_body_61]
    simp -implicitDefEqProofs only [h.tg, ↓reduceIte]
    refine Ri.ri (r_law ht hB (by omega) h hs hev hz1 hz2 pl) (fun x v hv => ?_)
    have eb : bdF b n (evc cl) k (s, 0, pl, c) = ((c.length, (whF b n (lvl b n (evc cl) 8 3) (s, 0, pl, c)).2.2.2.length), whF b n (lvl b n (evc cl) 8 3) (s, 0, pl, c)) := if_pos q
    rw [eb]
    generalize whF b n (lvl b n (evc cl) 8 3) (s, 0, pl, c) = W at hv ⊢
    exact Ri.ret ⟨hv.1, hv.2.1, fun y => ⟨(hv.2.2 y).1, fun _ _ => (hv.2.2 y).2⟩⟩
  have dd : ¬ (k = 200 ∨ k = 201) → bdF b n (evc cl) k (s, 0, pl, c) = dedF b n k (s, 0, pl, c) := fun q => if_neg q
  rcases hk with rfl | rfl | rfl | rfl | rfl | rfl | rfl | rfl
  · rw [show srt 200 = 1 from rfl, if_neg (by decide), if_neg (by decide), if_neg (by decide), if_neg (by decide), if_neg (by decide), if_neg (by decide)]
    exact lw _ (by omega)
  · rw [show srt 201 = 0 from rfl, if_neg (by decide), if_neg (by decide), if_neg (by decide), if_neg (by decide), if_neg (by decide), if_neg (by decide)]
    exact lw _ (by omega)
  · rw [show srt 202 = 2 from rfl, if_pos rfl, z_M_body_2, kw_3]
    simp -implicitDefEqProofs only [h.tg, ↓reduceIte]
    refine Ri.ri (r_par ht hB (by omega) (by omega) (by omega) (by omega) (by omega) h hz1 hz2 pl) (fun x v hv => ?_)
    rw [dd (by omega), show dedF b n 202 (s, 0, pl, c) = parF b n 1 (200 + 3) 0 10 (s, 0, pl, c) from rfl]
    generalize parF b n 1 (200 + 3) 0 10 (s, 0, pl, c) = W at hv ⊢
    exact Ri.ret ⟨hv.1, fun j _ j1 j2 => hv.2.1 j j1 j2, fun y => ⟨(hv.2.2 y).1, fun _ _ => (hv.2.2 y).2⟩⟩
  · rw [show srt 204 = 3 from rfl, if_neg (by decide), if_pos rfl, z_M_body_14, kw_5]
    simp -implicitDefEqProofs only [h.tg, ↓reduceIte]
    refine Ri.ri (r_par ht hB (by omega) (by omega) (by omega) (by omega) (by omega) h hz1 hz2 pl) (fun x v hv => ?_)
    rw [dd (by omega), show dedF b n 204 (s, 0, pl, c) = parF b n 255 (200 + 5) 1 9 (s, 0, pl, c) from rfl]
    generalize parF b n 255 (200 + 5) 1 9 (s, 0, pl, c) = W at hv ⊢
    exact Ri.ret ⟨hv.1, fun j _ j1 j2 => hv.2.1 j j1 j2, fun y => ⟨(hv.2.2 y).1, fun _ _ => (hv.2.2 y).2⟩⟩
  · rw [show srt 206 = 4 from rfl, if_neg (by decide), if_neg (by decide), if_pos rfl, z_M_body_25]
    simp -implicitDefEqProofs only [h.tg, nI_add, ↓reduceIte]
    refine Ri.ri (r_fig ht hB (by omega) (by omega) (by omega) h (show 705 * t + 1 + 4 * cl.length ≤ z + 1 by omega) (by omega) pl) (fun x v hv => ?_)
    rw [dd (by omega), show dedF b n 206 (s, 0, pl, c) = ((rnv b n 0 7 (s, 0, pl, c), 0), rns b n 0 7 (s, 0, pl, c)) from rfl]
    generalize rnv b n 0 7 (s, 0, pl, c) = Y at hv ⊢
    generalize rns b n 0 7 (s, 0, pl, c) = W at hv ⊢
    exact Ri.ret ⟨hv.1, fun j _ j1 _ => hv.2.1 j j1, fun y => ⟨hv.2.2 y, fun y2 _ => absurd rfl y2⟩⟩
  · rw [show srt 207 = 5 from rfl, if_neg (by decide), if_neg (by decide), if_neg (by decide), if_pos rfl, z_M_body_33, kw_8]
    simp -implicitDefEqProofs only [h.tg, ↓reduceIte]
    refine Ri.ri (r_par ht hB (by omega) (by omega) (by omega) (by omega) (by omega) h hz1 hz2 pl) (fun x v hv => ?_)
    rw [dd (by omega), show dedF b n 207 (s, 0, pl, c) = parF b n 5 (200 + 8) 0 255 (s, 0, pl, c) from rfl]
    generalize parF b n 5 (200 + 8) 0 255 (s, 0, pl, c) = W at hv ⊢
    exact Ri.ret ⟨hv.1, fun j _ j1 j2 => hv.2.1 j j1 j2, fun y => ⟨(hv.2.2 y).1, fun _ _ => (hv.2.2 y).2⟩⟩
  · rw [show srt 209 = 6 from rfl, if_neg (by decide), if_neg (by decide), if_neg (by decide), if_neg (by decide), if_pos rfl, z_M_body_43, kw_10]
    simp -implicitDefEqProofs only [h.tg, ↓reduceIte]
    refine Ri.ri (r_par ht hB (by omega) (by omega) (by omega) (by omega) (by omega) h hz1 hz2 pl) (fun x v hv => ?_)
    rw [dd (by omega), show dedF b n 209 (s, 0, pl, c) = parF b n 9 (200 + 10) 0 5 (s, 0, pl, c) from rfl]
    generalize parF b n 9 (200 + 10) 0 5 (s, 0, pl, c) = W at hv ⊢
    exact Ri.ret ⟨hv.1, fun j _ j1 j2 => hv.2.1 j j1 j2, fun y => ⟨(hv.2.2 y).1, fun _ _ => (hv.2.2 y).2⟩⟩
  · rw [show srt 211 = 7 from rfl, if_neg (by decide), if_neg (by decide), if_neg (by decide), if_neg (by decide), if_neg (by decide), if_pos rfl, z_M_body_53]
    simp -implicitDefEqProofs only [h.tg, nI_add, ↓reduceIte]
    refine Ri.ri (r_fig ht hB (by omega) (by omega) (by omega) h (show 705 * t + 1 + 4 * cl.length ≤ z + 1 by omega) (by omega) pl) (fun x v hv => ?_)
    rw [dd (by omega), show dedF b n 211 (s, 0, pl, c) = ((rnv b n 0 9 (s, 0, pl, c), 0), rns b n 0 9 (s, 0, pl, c)) from rfl]
    generalize rnv b n 0 9 (s, 0, pl, c) = Y at hv ⊢
    generalize rns b n 0 9 (s, 0, pl, c) = W at hv ⊢
    exact Ri.ret ⟨hv.1, fun j _ j1 _ => hv.2.1 j j1, fun y => ⟨hv.2.2 y, fun _ y2 => absurd rfl y2⟩⟩
/-- what the reference takes a word for -/
theorem r_sort {D : Nat} {u : sm_M} {s : Nat} {c : List (Nat × Nat)} (h : RS u0 b n t cl lim u s c) (f : Int32 → sm_M → sm_R) : sm_ri (sm_call (D + 6) 252 [.ref 275] u) f = f (if kd8 (kdp b n s) then nI (srt (kdp b n s)) else Int32.ofInt (-1)) u := by
  have e : sm_call (D + 6) 252 [.ref 275] u = some (some (.int (if kd8 (kdp b n s) then nI (srt (kdp b n s)) else Int32.ofInt (-1))), u) := by
    have iw := fun w (hw : w < 22) => w_isW (D := D + 4) (b := b) (n := n) (s := s) hw h.1.1 h.2.2.1
    rw [k_M_sortOf, z_M_sortOf_0, kw_1]
    simp -implicitDefEqProofs only [h.tg, iw 1 (by decide), ↓reduceIte]
    by_cases q1 : kdp b n s = 200 + 1
    · rw [if_pos q1, if_neg (show ¬ (1 : Int32) = 0 by decide), if_pos (show kd8 (kdp b n s) by unfold kd8; omega), q1]
      rfl
    rw [if_neg q1, if_pos (show (0 : Int32) = 0 from rfl), z_M_sortOf_9, kw_0]
    simp -implicitDefEqProofs only [h.tg, iw 0 (by decide), ↓reduceIte]
    by_cases q0 : kdp b n s = 200 + 0
    · rw [if_pos q0, if_neg (show ¬ (1 : Int32) = 0 by decide), if_pos (show kd8 (kdp b n s) by unfold kd8; omega), q0]
      rfl
    rw [if_neg q0, if_pos (show (0 : Int32) = 0 from rfl), z_M_sortOf_20, kw_2]
    simp -implicitDefEqProofs only [h.tg, iw 2 (by decide), ↓reduceIte]
    by_cases q2 : kdp b n s = 200 + 2
    · rw [if_pos q2, if_neg (show ¬ (1 : Int32) = 0 by decide), if_pos (show kd8 (kdp b n s) by unfold kd8; omega), q2]
      rfl
    rw [if_neg q2, if_pos (show (0 : Int32) = 0 from rfl), z_M_sortOf_32, kw_4]
    simp -implicitDefEqProofs only [h.tg, iw 4 (by decide), ↓reduceIte]
    by_cases q4 : kdp b n s = 200 + 4
    · rw [if_pos q4, if_neg (show ¬ (1 : Int32) = 0 by decide), if_pos (show kd8 (kdp b n s) by unfold kd8; omega), q4]
      rfl
    rw [if_neg q4, if_pos (show (0 : Int32) = 0 from rfl), z_M_sortOf_42, kw_6]
    simp -implicitDefEqProofs only [h.tg, iw 6 (by decide), ↓reduceIte]
    by_cases q6 : kdp b n s = 200 + 6
    · rw [if_pos q6, if_neg (show ¬ (1 : Int32) = 0 by decide), if_pos (show kd8 (kdp b n s) by unfold kd8; omega), q6]
      rfl
    rw [if_neg q6, if_pos (show (0 : Int32) = 0 from rfl), z_M_sortOf_52, kw_7]
    simp -implicitDefEqProofs only [h.tg, iw 7 (by decide), ↓reduceIte]
    by_cases q7 : kdp b n s = 200 + 7
    · rw [if_pos q7, if_neg (show ¬ (1 : Int32) = 0 by decide), if_pos (show kd8 (kdp b n s) by unfold kd8; omega), q7]
      rfl
    rw [if_neg q7, if_pos (show (0 : Int32) = 0 from rfl), z_M_sortOf_61, kw_9]
    simp -implicitDefEqProofs only [h.tg, iw 9 (by decide), ↓reduceIte]
    by_cases q9 : kdp b n s = 200 + 9
    · rw [if_pos q9, if_neg (show ¬ (1 : Int32) = 0 by decide), z_M_sortOf_82, if_pos (show kd8 (kdp b n s) by unfold kd8; omega), q9]
      rfl
    rw [if_neg q9, if_pos (show (0 : Int32) = 0 from rfl), z_M_sortOf_70, kw_11]
    simp -implicitDefEqProofs only [h.tg, iw 11 (by decide), ↓reduceIte]
    by_cases q11 : kdp b n s = 200 + 11
    · rw [if_pos q11, if_neg (show ¬ (1 : Int32) = 0 by decide), z_M_sortOf_82, if_pos (show kd8 (kdp b n s) by unfold kd8; omega), q11]
      rfl
    rw [if_neg q11, if_pos (show (0 : Int32) = 0 from rfl), z_M_sortOf_80, z_M_sortOf_82, if_neg (show ¬ kd8 (kdp b n s) by unfold kd8; omega)]
  rw [e]
  rfl
end
