/-! texts: the reference begins one (by wip/whole/mk_98vm.py) -/
theorem z_M_nameOf_0 (C : Nat → List Value → sm_M → sm_R) (n : Nat) (u : sm_M) (a0 : Nat) : sm_run C c_M_nameOf (n + 1) 0 [some (.ref a0)] [] u = sm_rl (C 227 [.int (nI 119), .int (nI 97), .int (nI 121)] u) (fun x2 u1 => if sm_tg u1 a0 = 112 then (sm_ri (C 231 [.ref a0, .long x2] u1) (fun x4 u3 => if x4 = 0 then (sm_run C c_M_nameOf n 9 [some (.ref a0)] [] u3) else (some (some (.int (nI 0)), u3)))) else none) := q_M_nameOf_0 C n u a0
theorem z_M_nameOf_9 (C : Nat → List Value → sm_M → sm_R) (n : Nat) (u : sm_M) (a0 : Nat) : sm_run C c_M_nameOf (n + 1) 9 [some (.ref a0)] [] u = sm_rl (C 228 [.int (nI 109), .int (nI 97), .int (nI 110), .int (nI 121)] u) (fun x2 u1 => if sm_tg u1 a0 = 112 then (sm_ri (C 231 [.ref a0, .long x2] u1) (fun x4 u3 => if x4 = 0 then (sm_run C c_M_nameOf n 19 [some (.ref a0)] [] u3) else (some (some (.int (nI 1)), u3)))) else none) := q_M_nameOf_9 C n u a0
theorem z_M_nameOf_19 (C : Nat → List Value → sm_M → sm_R) (n : Nat) (u : sm_M) (a0 : Nat) : sm_run C c_M_nameOf (n + 1) 19 [some (.ref a0)] [] u = sm_rl (C 228 [.int (nI 100), .int (nI 111), .int (nI 110), .int (nI 101)] u) (fun x2 u1 => if sm_tg u1 a0 = 112 then (sm_ri (C 231 [.ref a0, .long x2] u1) (fun x4 u3 => if x4 = 0 then (sm_run C c_M_nameOf n 29 [some (.ref a0)] [] u3) else (sm_run C c_M_nameOf n 31 [some (.ref a0)] [.int (nI 2)] u3))) else none) := q_M_nameOf_19 C n u a0
theorem z_M_nameOf_31 (C : Nat → List Value → sm_M → sm_R) (n : Nat) (u : sm_M) (a0 : Nat) (s0 : Int32) : sm_run C c_M_nameOf (n + 1) 31 [some (.ref a0)] [.int s0] u = some (some (.int s0), u) := q_M_nameOf_31 C n u a0 s0
theorem z_M_nameOf_29 (C : Nat → List Value → sm_M → sm_R) (n : Nat) (u : sm_M) (a0 : Nat) : sm_run C c_M_nameOf (n + 1) 29 [some (.ref a0)] [] u = sm_run C c_M_nameOf n 31 [some (.ref a0)] [.int (Int32.ofInt (-1))] u := q_M_nameOf_29 C n u a0
theorem z_M_beginOne_38 (C : Nat → List Value → sm_M → sm_R) (n : Nat) (u : sm_M) (a0 y2 : Nat) (v1 s0 s1 : Int32) : sm_run C c_M_beginOne (n + 1) 38 [some (.ref a0), some (.int v1)] [.int s0, .int s1, .ref y2] u = if sm_tg u y2 = 112 then (sm_rv (C 232 [.ref y2, .int s1, .int s0] u) (fun u1 => if sm_tg u1 a0 = 112 then (sm_rv (C 225 [.ref a0] u1) (fun u2 => if sm_tg u2 a0 = 112 ∧ ((nI 1) = 0 ∨ (nI 1) = 1) then (sm_lt (sm_wI u2 a0 20 (nI 1)) (fun u3 => if sm_tg u3 a0 = 112 then (sm_rv (C 235 [.ref a0, .int (nI 8)] u3) (fun u4 => some (some (.int (nI 0)), u4))) else none)) else none)) else none)) else none := q_M_beginOne_38 C n u a0 y2 v1 s0 s1
theorem z_M_beginOne_0 (C : Nat → List Value → sm_M → sm_R) (n : Nat) (u : sm_M) (a0 : Nat) : sm_run C c_M_beginOne (n + 1) 0 [some (.ref a0), none] [] u = if sm_tg u a0 = 112 then (if (sm_I u a0 9) = (nI 1) then (if sm_tg u a0 = 112 then (if (sm_I u a0 10) ≤ (nI 9999) then (sm_run C c_M_beginOne n 10 [some (.ref a0), none] [] u) else (some (some (.int (nI 2)), u))) else none) else (sm_run C c_M_beginOne n 10 [some (.ref a0), none] [] u)) else none := q_M_beginOne_0 C n u a0
theorem z_M_beginOne_10 (C : Nat → List Value → sm_M → sm_R) (n : Nat) (u : sm_M) (a0 : Nat) : sm_run C c_M_beginOne (n + 1) 10 [some (.ref a0), none] [] u = if sm_tg u a0 = 112 then (sm_ri (C 233 [.ref a0] u) (fun x2 u1 => if sm_tg u1 a0 = 112 then (if (sm_I u1 a0 9) = (nI 1) then (sm_run C c_M_beginOne n 20 [some (.ref a0), some (.int x2)] [] u1) else (if x2 < 0 then (sm_run C c_M_beginOne n 49 [some (.ref a0), some (.int x2)] [] u1) else (sm_run C c_M_beginOne n 20 [some (.ref a0), some (.int x2)] [] u1))) else none)) else none := q_M_beginOne_10 C n u a0
theorem z_M_beginOne_20 (C : Nat → List Value → sm_M → sm_R) (n : Nat) (u : sm_M) (a0 : Nat) (v1 : Int32) : sm_run C c_M_beginOne (n + 1) 20 [some (.ref a0), some (.int v1)] [] u = if sm_tg u a0 = 112 then (if (sm_I u a0 9) = (nI 1) then (sm_run C c_M_beginOne n 29 [some (.ref a0), some (.int v1)] [.int (nI 0), .ref a0] u) else (sm_run C c_M_beginOne n 27 [some (.ref a0), some (.int v1)] [.ref a0] u)) else none := q_M_beginOne_20 C n u a0 v1
theorem z_M_beginOne_29 (C : Nat → List Value → sm_M → sm_R) (n : Nat) (u : sm_M) (a0 y1 : Nat) (v1 s0 : Int32) : sm_run C c_M_beginOne (n + 1) 29 [some (.ref a0), some (.int v1)] [.int s0, .ref y1] u = if sm_tg u a0 = 112 then (if (sm_I u a0 9) = (nI 1) then (if sm_tg u a0 = 112 then (sm_run C c_M_beginOne n 38 [some (.ref a0), some (.int v1)] [.int (sm_I u a0 10), .int s0, .ref y1] u) else none) else (sm_run C c_M_beginOne n 36 [some (.ref a0), some (.int v1)] [.int s0, .ref y1] u)) else none := q_M_beginOne_29 C n u a0 y1 v1 s0
theorem z_M_beginOne_27 (C : Nat → List Value → sm_M → sm_R) (n : Nat) (u : sm_M) (a0 y0 : Nat) (v1 : Int32) : sm_run C c_M_beginOne (n + 1) 27 [some (.ref a0), some (.int v1)] [.ref y0] u = sm_run C c_M_beginOne n 29 [some (.ref a0), some (.int v1)] [.int (nI 1), .ref y0] u := q_M_beginOne_27 C n u a0 y0 v1
theorem z_M_beginOne_36 (C : Nat → List Value → sm_M → sm_R) (n : Nat) (u : sm_M) (a0 y1 : Nat) (v1 s0 : Int32) : sm_run C c_M_beginOne (n + 1) 36 [some (.ref a0), some (.int v1)] [.int s0, .ref y1] u = sm_run C c_M_beginOne n 38 [some (.ref a0), some (.int v1)] [.int v1, .int s0, .ref y1] u := q_M_beginOne_36 C n u a0 y1 v1 s0
theorem z_M_beginOne_49 (C : Nat → List Value → sm_M → sm_R) (n : Nat) (u : sm_M) (a0 : Nat) (v1 : Int32) : sm_run C c_M_beginOne (n + 1) 49 [some (.ref a0), some (.int v1)] [] u = if sm_tg u a0 = 112 then (if (sm_I u a0 9) = (nI 40) then (if sm_tg u a0 = 112 then (sm_ri (C 240 [.ref a0, .int (nI 40)] u) (fun x2 u1 => some (some (.int x2), u1))) else none) else (sm_run C c_M_beginOne n 57 [some (.ref a0), some (.int v1)] [] u)) else none := q_M_beginOne_49 C n u a0 v1
theorem z_M_beginOne_57 (C : Nat → List Value → sm_M → sm_R) (n : Nat) (u : sm_M) (a0 : Nat) (v1 : Int32) : sm_run C c_M_beginOne (n + 1) 57 [some (.ref a0), some (.int v1)] [] u = if sm_tg u a0 = 112 then (if (sm_I u a0 9) = (nI 45) then (if sm_tg u a0 = 112 then (sm_ri (C 240 [.ref a0, .int (nI 5)] u) (fun x2 u1 => some (some (.int x2), u1))) else none) else (sm_run C c_M_beginOne n 65 [some (.ref a0), some (.int v1)] [] u)) else none := q_M_beginOne_57 C n u a0 v1
theorem z_M_beginOne_65 (C : Nat → List Value → sm_M → sm_R) (n : Nat) (u : sm_M) (a0 : Nat) (v1 : Int32) : sm_run C c_M_beginOne (n + 1) 65 [some (.ref a0), some (.int v1)] [] u = sm_rl (C 229 [.int (nI 99), .int (nI 111), .int (nI 117), .int (nI 110), .int (nI 116)] u) (fun x2 u1 => if sm_tg u1 a0 = 112 then (sm_ri (C 231 [.ref a0, .long x2] u1) (fun x4 u3 => if x4 = 0 then (sm_run C c_M_beginOne n 78 [some (.ref a0), some (.int v1)] [] u3) else (if sm_tg u3 a0 = 112 then (sm_ri (C 240 [.ref a0, .int (nI 41)] u3) (fun x6 u5 => some (some (.int x6), u5))) else none))) else none) := q_M_beginOne_65 C n u a0 v1
theorem z_M_beginOne_78 (C : Nat → List Value → sm_M → sm_R) (n : Nat) (u : sm_M) (a0 : Nat) (v1 : Int32) : sm_run C c_M_beginOne (n + 1) 78 [some (.ref a0), some (.int v1)] [] u = if sm_tg u a0 = 112 then (sm_ri (C 239 [.ref a0] u) (fun x2 u1 => if x2 = 0 then (some (some (.int (nI 1)), u1)) else (sm_run C c_M_beginOne n 83 [some (.ref a0), some (.int v1)] [] u1))) else none := q_M_beginOne_78 C n u a0 v1
theorem z_M_beginOne_83 (C : Nat → List Value → sm_M → sm_R) (n : Nat) (u : sm_M) (a0 : Nat) (v1 : Int32) : sm_run C c_M_beginOne (n + 1) 83 [some (.ref a0), some (.int v1)] [] u = sm_rl (C 227 [.int (nI 110), .int (nI 111), .int (nI 116)] u) (fun x2 u1 => if sm_tg u1 a0 = 112 then (sm_ri (C 231 [.ref a0, .long x2] u1) (fun x4 u3 => if x4 = 0 then (sm_run C c_M_beginOne n 94 [some (.ref a0), some (.int v1)] [] u3) else (if sm_tg u3 a0 = 112 then (sm_ri (C 240 [.ref a0, .int (nI 20)] u3) (fun x6 u5 => some (some (.int x6), u5))) else none))) else none) := q_M_beginOne_83 C n u a0 v1
theorem z_M_beginOne_94 (C : Nat → List Value → sm_M → sm_R) (n : Nat) (u : sm_M) (a0 : Nat) (v1 : Int32) : sm_run C c_M_beginOne (n + 1) 94 [some (.ref a0), some (.int v1)] [] u = sm_rl (C 227 [.int (nI 119), .int (nI 97), .int (nI 115)] u) (fun x2 u1 => if sm_tg u1 a0 = 112 then (sm_ri (C 231 [.ref a0, .long x2] u1) (fun x4 u3 => if x4 = 0 then (sm_run C c_M_beginOne n 106 [some (.ref a0), some (.int v1)] [] u3) else (if sm_tg u3 a0 = 112 then (sm_ri (C 241 [.ref a0, .int (nI 2), .int (nI 7)] u3) (fun x6 u5 => some (some (.int x6), u5))) else none))) else none) := q_M_beginOne_94 C n u a0 v1
theorem z_M_beginOne_106 (C : Nat → List Value → sm_M → sm_R) (n : Nat) (u : sm_M) (a0 : Nat) (v1 : Int32) : sm_run C c_M_beginOne (n + 1) 106 [some (.ref a0), some (.int v1)] [] u = sm_rl (C 228 [.int (nI 99), .int (nI 97), .int (nI 109), .int (nI 101)] u) (fun x2 u1 => if sm_tg u1 a0 = 112 then (sm_ri (C 231 [.ref a0, .long x2] u1) (fun x4 u3 => if x4 = 0 then (sm_run C c_M_beginOne n 119 [some (.ref a0), some (.int v1)] [] u3) else (if sm_tg u3 a0 = 112 then (sm_ri (C 241 [.ref a0, .int (nI 3), .int (nI 9)] u3) (fun x6 u5 => sm_run C c_M_beginOne n 121 [some (.ref a0), some (.int v1)] [.int x6] u5)) else none))) else none) := q_M_beginOne_106 C n u a0 v1
theorem z_M_beginOne_121 (C : Nat → List Value → sm_M → sm_R) (n : Nat) (u : sm_M) (a0 : Nat) (v1 s0 : Int32) : sm_run C c_M_beginOne (n + 1) 121 [some (.ref a0), some (.int v1)] [.int s0] u = some (some (.int s0), u) := q_M_beginOne_121 C n u a0 v1 s0
theorem z_M_beginOne_119 (C : Nat → List Value → sm_M → sm_R) (n : Nat) (u : sm_M) (a0 : Nat) (v1 : Int32) : sm_run C c_M_beginOne (n + 1) 119 [some (.ref a0), some (.int v1)] [] u = sm_run C c_M_beginOne n 121 [some (.ref a0), some (.int v1)] [.int (nI 1)] u := q_M_beginOne_119 C n u a0 v1
def nmI (k : Nat) : Int32 := if k = 219 then nI 0 else if k = 220 then nI 1 else if k = 221 then nI 2 else Int32.ofInt (-1)
def emF (b : Nat → Nat) (n o v : Nat) (τ : S5) : Nat × S5 := (0, (nx1 b n τ.1, (stl 8 τ.2.2.1 (τ.2.1 ++ [(o, v)])).2, (stl 8 τ.2.2.1 (τ.2.1 ++ [(o, v)])).1, τ.2.2.2.1, true))
def begF (b : Nat → Nat) (n ev : Nat) (τ : S5) : Nat × S5 :=
  if kdp b n τ.1 = 2 then (if 9999 < vlp b n τ.1 then (2, τ) else emF b n 0 (vlp b n τ.1) τ)
  else if kdp b n τ.1 = 219 then emF b n 1 0 τ
  else if kdp b n τ.1 = 220 then emF b n 1 1 τ
  else if kdp b n τ.1 = 221 then emF b n 1 2 τ
  else if kdp b n τ.1 = 40 then opnd b n 40 τ
  else if kdp b n τ.1 = 45 then opnd b n 5 τ
  else if kdp b n τ.1 = 218 then opnd b n 41 τ
  else if ¬ iaa τ.2.2.1 = true then (1, τ)
  else if kdp b n τ.1 = 215 then opnd b n 20 τ
  else if kdp b n τ.1 = 216 then askd b n ev 2 7 τ
  else if kdp b n τ.1 = 217 then askd b n ev 3 9 τ
  else (1, τ)
section
variable {u0 : sm_M} {b : Nat → Nat} {n t ev : Nat}
theorem m_nameOf {D : Nat} {u : sm_M} {τ : Sr} (h : MS u0 b n t u τ) (f : Int32 → sm_M → sm_R) : sm_ri (sm_call (D + 6) 233 [.ref 275] u) f = f (nmI (kdp b n τ.1)) u := by
  have e2 : sm_call (D + 6) 233 [.ref 275] u = some (some (.int (nmI (kdp b n τ.1))), u) := by
    unfold nmI
    rw [k_M_nameOf, z_M_nameOf_0]
    simp -implicitDefEqProofs only [kw_19 D, h.tg, m_isWord (D := D + 4) (w := 19) (by decide) h, ↓reduceIte]
    by_cases q1 : kdp b n τ.1 = 219
    · rw [if_pos (show kdp b n τ.1 = 200 + 19 from q1), if_neg (show ¬ (1 : Int32) = 0 by decide), if_pos q1]
    · rw [if_neg (show ¬ kdp b n τ.1 = 200 + 19 from q1), if_pos (show (0 : Int32) = 0 from rfl), if_neg q1, z_M_nameOf_9]
      simp -implicitDefEqProofs only [kw_20 D, h.tg, m_isWord (D := D + 4) (w := 20) (by decide) h, ↓reduceIte]
      by_cases q2 : kdp b n τ.1 = 220
      · rw [if_pos (show kdp b n τ.1 = 200 + 20 from q2), if_neg (show ¬ (1 : Int32) = 0 by decide), if_pos q2]
      · rw [if_neg (show ¬ kdp b n τ.1 = 200 + 20 from q2), if_pos (show (0 : Int32) = 0 from rfl), if_neg q2, z_M_nameOf_19]
        simp -implicitDefEqProofs only [kw_21 D, h.tg, m_isWord (D := D + 4) (w := 21) (by decide) h, ↓reduceIte]
        by_cases q3 : kdp b n τ.1 = 221
        · rw [if_pos (show kdp b n τ.1 = 200 + 21 from q3), if_neg (show ¬ (1 : Int32) = 0 by decide), if_pos q3, z_M_nameOf_31]
        · rw [if_neg (show ¬ kdp b n τ.1 = 200 + 21 from q3), if_pos (show (0 : Int32) = 0 from rfl), if_neg q3, z_M_nameOf_29, z_M_nameOf_31]
  rw [e2]
  rfl
theorem m_em (H : Mx u0 b n t ev) {D o v : Nat} {τ : S5} {u : sm_M} (h : M5 u0 b n t u τ) (hP : opl τ.2.2.1) (hl : τ.2.1.length + τ.2.2.1.length < 300) (m : Nat) (x1 : Int32) : Ri (sm_run (sm_call (D + 2)) c_M_beginOne (m + 1) 38 [some (.ref 275), some (.int x1)] [.int (nI v), .int (nI o), .ref 275] u) (fun x w => x = ffI (emF b n o v τ).1 ∧ M5 u0 b n t w (emF b n o v τ).2) := by
  obtain ⟨s, c, P, N, w⟩ := τ
  have h : MS u0 b n t u (s, c, P, nop P, N, w) := h
  have hP : opl P := hP
  have hl : c.length + P.length < 300 := hl
  rw [z_M_beginOne_38]
  simp -implicitDefEqProofs only [h.tg, ↓reduceIte]
  refine Ri.rv (m_emit H (by omega) h (o := o) (v := v) (by omega)) (fun v1 hv1 => ?_)
  have hv1 := hv1.1
  simp -implicitDefEqProofs only [hv1.tg, ↓reduceIte]
  refine Ri.rv (m_next H (by omega) hv1) (fun v2 hv2 => ?_)
  rw [if_pos (show sm_tg v2 275 = 112 ∧ (nI 1 = 0 ∨ nI 1 = 1) from ⟨yt_275 hv2.ly, Or.inr rfl⟩)]
  simp -implicitDefEqProofs only [lt_s1]
  have h3 := hv2.w (k := 20) (x := nI 1) (τ' := (nx1 b n s, c ++ [(o, v)], P, nop P, N, true)) (Or.inr rfl) rfl rfl rfl rfl (fun _ => rfl) (fun z => by cases z) (fun z => absurd rfl z) (fun _ => rfl)
  generalize sm_wI v2 275 20 (nI 1) = w3 at *
  simp -implicitDefEqProofs only [h3.tg, ↓reduceIte]
  refine Ri.rv (m_settle H (by omega) (r := 8) (by omega) (by omega) hP (by rw [List.length_append]; show c.length + 1 + P.length ≤ 300; omega) h3) (fun v4 hv4 => ?_)
  exact Ri.ret ⟨rfl, hv4⟩
theorem m_begin (H : Mx u0 b n t ev) {D : Nat} (hD : 8 ≤ D) {τ : S5} {u : sm_M} (h : M5 u0 b n t u τ) (hB : ∀ i, b i < 256) (hP : opl τ.2.2.1) (hl : τ.2.2.1.length < 160) (hc : τ.2.1.length + τ.2.2.1.length < 300) (hN : τ.2.2.2.1.length < 9) : Ri (sm_call D 242 [.ref 275] u) (fun x v => x = ffI (begF b n ev τ).1 ∧ M5 u0 b n t v (begF b n ev τ).2) := by
  obtain ⟨D, rfl⟩ : ∃ k, D = k + 8 := ⟨D - 8, by omega⟩
  have h0 : MS u0 b n t u (τ.1, τ.2.1, τ.2.2.1, nop τ.2.2.1, τ.2.2.2.1, τ.2.2.2.2) := h
  have e9 : sm_I u 275 9 = nI (tkc b n τ.1) := h0.2.2.1.2.2.2.1
  have htk := tk_kd (b := b) (n := n) (s := τ.1)
  unfold begF
  rw [k_M_beginOne, z_M_beginOne_0]
  by_cases q2 : kdp b n τ.1 = 2
  · have et : tkc b n τ.1 = 1 := htk.2.1.mpr q2
    rw [et] at e9
    have hd := kd_2.mp q2
    have e10 : sm_I u 275 10 = nI (nrv b n τ.1) := h0.2.2.1.2.2.2.2.1 hd.1 hd.2
    have hnr := nr_top (b := b) (n := n) (top := 9999) q2 (by omega)
    have hnl : nrv b n τ.1 ≤ 1000300 := nrf_le hB _ _ _ (by omega)
    rw [if_pos q2]
    simp -implicitDefEqProofs only [h0.tg, e9, e10, ↓reduceIte]
    by_cases qv : vlp b n τ.1 ≤ 9999
    · have en := hnr.2 qv
      rw [if_pos (show nI (nrv b n τ.1) ≤ nI 9999 from nI_le (by omega) (by omega)), if_neg (show ¬ 9999 < vlp b n τ.1 by omega), z_M_beginOne_10]
      simp -implicitDefEqProofs only [h0.tg, m_nameOf (D := D + 1) h0, e9, ↓reduceIte]
      rw [z_M_beginOne_20]
      simp -implicitDefEqProofs only [h0.tg, e9, ↓reduceIte]
      rw [z_M_beginOne_29]
      simp -implicitDefEqProofs only [h0.tg, e9, e10, en, ↓reduceIte]
      exact m_em H (D := D + 5) h hP hc _ _
    · rw [if_neg (show ¬ nI (nrv b n τ.1) ≤ nI 9999 from fun z => by have := (nI_leI (by omega) (by omega)).mp z; omega), if_pos (show 9999 < vlp b n τ.1 by omega)]
      exact Ri.ret ⟨rfl, h⟩
  · have hne : ¬ nI (tkc b n τ.1) = nI 1 := fun z => q2 (htk.2.1.mp ((nI_eq (by omega) (by omega)).mp z))
    rw [if_neg q2]
    simp -implicitDefEqProofs only [h0.tg, e9, eq_false hne, ↓reduceIte]
    rw [z_M_beginOne_10]
    simp -implicitDefEqProofs only [h0.tg, m_nameOf (D := D + 1) h0, e9, eq_false hne, ↓reduceIte]
    -- a name
    have name : ∀ k v, v < 3 → nmI k = nI v → Ri (if nmI k < 0 then sm_run (sm_call (D + 7)) c_M_beginOne 2999998 49 [some (.ref 275), some (.int (nmI k))] [] u else sm_run (sm_call (D + 7)) c_M_beginOne 2999998 20 [some (.ref 275), some (.int (nmI k))] [] u) (fun x w => x = ffI (emF b n 1 v τ).1 ∧ M5 u0 b n t w (emF b n 1 v τ).2) := by
      intro k v hv ek
      rw [ek, if_neg (show ¬ nI v < 0 from nI_pos (by omega)), z_M_beginOne_20]
      simp -implicitDefEqProofs only [h0.tg, e9, eq_false hne, ↓reduceIte]
      rw [z_M_beginOne_27, z_M_beginOne_29]
      simp -implicitDefEqProofs only [h0.tg, e9, eq_false hne, ↓reduceIte]
      rw [z_M_beginOne_36]
      exact m_em H (D := D + 5) h hP hc _ _
    by_cases qa : kdp b n τ.1 = 219
    · rw [if_pos qa]
      exact name _ 0 (by omega) (by rw [qa]; rfl)
    · rw [if_neg qa]
      by_cases qb : kdp b n τ.1 = 220
      · rw [if_pos qb]
        exact name _ 1 (by omega) (by rw [qb]; rfl)
      · rw [if_neg qb]
        by_cases qc : kdp b n τ.1 = 221
        · rw [if_pos qc]
          exact name _ 2 (by omega) (by rw [qc]; rfl)
        · rw [if_neg qc]
          have enm : nmI (kdp b n τ.1) = Int32.ofInt (-1) := by
            unfold nmI
            rw [if_neg qa, if_neg qb, if_neg qc]
          rw [enm, if_pos (show Int32.ofInt (-1) < 0 by decide), z_M_beginOne_49]
          simp -implicitDefEqProofs only [h0.tg, e9, ↓reduceIte]
          by_cases q40 : kdp b n τ.1 = 40
          · rw [if_pos (show nI (tkc b n τ.1) = nI 40 by rw [(htk.2.2.2.2.1 40 (by omega) (by omega)).mpr q40]), if_pos q40]
            refine Ri.ri (m_opened H (o := 40) (by omega) (by omega) h hl hN) (fun x v hv => ?_)
            exact Ri.ret hv
          · rw [if_neg (show ¬ nI (tkc b n τ.1) = nI 40 from fun z => q40 ((htk.2.2.2.2.1 40 (by omega) (by omega)).mp ((nI_eq (by omega) (by omega)).mp z))), if_neg q40, z_M_beginOne_57]
            simp -implicitDefEqProofs only [h0.tg, e9, ↓reduceIte]
            by_cases q45 : kdp b n τ.1 = 45
            · rw [if_pos (show nI (tkc b n τ.1) = nI 45 by rw [(htk.2.2.2.2.1 45 (by omega) (by omega)).mpr q45]), if_pos q45]
              refine Ri.ri (m_opened H (o := 5) (by omega) (by omega) h hl hN) (fun x v hv => ?_)
              exact Ri.ret hv
            · rw [if_neg (show ¬ nI (tkc b n τ.1) = nI 45 from fun z => q45 ((htk.2.2.2.2.1 45 (by omega) (by omega)).mp ((nI_eq (by omega) (by omega)).mp z))), if_neg q45, z_M_beginOne_65]
              simp -implicitDefEqProofs only [kw_18 (D + 2), h0.tg, m_isWord (D := D + 6) (w := 18) (by decide) h0, ↓reduceIte]
              by_cases qd : kdp b n τ.1 = 218
              · rw [if_pos (show kdp b n τ.1 = 200 + 18 from qd), if_neg (show ¬ (1 : Int32) = 0 by decide), if_pos qd]
                refine Ri.ri (m_opened H (o := 41) (by omega) (by omega) h hl hN) (fun x v hv => ?_)
                exact Ri.ret hv
              · rw [if_neg (show ¬ kdp b n τ.1 = 200 + 18 from qd), if_pos (show (0 : Int32) = 0 from rfl), if_neg qd, z_M_beginOne_78]
                simp -implicitDefEqProofs only [h0.tg, m_askAhead (D := D + 4) h0 hP, ↓reduceIte]
                by_cases qi : iaa τ.2.2.1 = true
                · rw [if_pos (show iaa τ.2.2.1 = true from qi), if_neg (show ¬ (1 : Int32) = 0 by decide), if_neg (show ¬ ¬ iaa τ.2.2.1 = true from fun z => z qi), z_M_beginOne_83]
                  simp -implicitDefEqProofs only [kw_15 (D + 2), h0.tg, m_isWord (D := D + 6) (w := 15) (by decide) h0, ↓reduceIte]
                  by_cases qe : kdp b n τ.1 = 215
                  · rw [if_pos (show kdp b n τ.1 = 200 + 15 from qe), if_neg (show ¬ (1 : Int32) = 0 by decide), if_pos qe]
                    refine Ri.ri (m_opened H (o := 20) (by omega) (by omega) h hl hN) (fun x v hv => ?_)
                    exact Ri.ret hv
                  · rw [if_neg (show ¬ kdp b n τ.1 = 200 + 15 from qe), if_pos (show (0 : Int32) = 0 from rfl), if_neg qe, z_M_beginOne_94]
                    simp -implicitDefEqProofs only [kw_16 (D + 2), h0.tg, m_isWord (D := D + 6) (w := 16) (by decide) h0, ↓reduceIte]
                    by_cases qf : kdp b n τ.1 = 216
                    · rw [if_pos (show kdp b n τ.1 = 200 + 16 from qf), if_neg (show ¬ (1 : Int32) = 0 by decide), if_pos qf]
                      refine Ri.ri (m_asked H (o := 2) (top := 7) (by omega) (by omega) (by omega) h hB hl (by omega)) (fun x v hv => ?_)
                      exact Ri.ret hv
                    · rw [if_neg (show ¬ kdp b n τ.1 = 200 + 16 from qf), if_pos (show (0 : Int32) = 0 from rfl), if_neg qf, z_M_beginOne_106]
                      simp -implicitDefEqProofs only [kw_17 (D + 2), h0.tg, m_isWord (D := D + 6) (w := 17) (by decide) h0, ↓reduceIte]
                      by_cases qg : kdp b n τ.1 = 217
                      · rw [if_pos (show kdp b n τ.1 = 200 + 17 from qg), if_neg (show ¬ (1 : Int32) = 0 by decide), if_pos qg]
                        refine Ri.ri (m_asked H (o := 3) (top := 9) (by omega) (by omega) (by omega) h hB hl (by omega)) (fun x v hv => ?_)
                        rw [z_M_beginOne_121]
                        exact Ri.ret hv
                      · rw [if_neg (show ¬ kdp b n τ.1 = 200 + 17 from qg), if_pos (show (0 : Int32) = 0 from rfl), if_neg qg, z_M_beginOne_119, z_M_beginOne_121]
                        exact Ri.ret ⟨rfl, h⟩
                · rw [if_neg (show ¬ iaa τ.2.2.1 = true from qi), if_pos (show (0 : Int32) = 0 from rfl), if_pos (show ¬ iaa τ.2.2.1 = true from qi)]
                  exact Ri.ret ⟨rfl, h⟩
end
