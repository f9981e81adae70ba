/-! texts: what the reference opens and asks (by wip/whole/mk_98vl.py) -/
theorem z_M_opened_0 (C : Nat → List Value → sm_M → sm_R) (n : Nat) (u : sm_M) (a0 : Nat) (v1 : Int32) : sm_run C c_M_opened (n + 1) 0 [some (.ref a0), some (.int v1)] [] u = if sm_tg u a0 = 112 then (if (sm_I u a0 18) = (nI 8) then (some (some (.int (nI 3)), u)) else (sm_run C c_M_opened n 6 [some (.ref a0), some (.int v1)] [] u)) else none := q_M_opened_0 C n u a0 v1
theorem z_M_opened_6 (C : Nat → List Value → sm_M → sm_R) (n : Nat) (u : sm_M) (a0 : Nat) (v1 : Int32) : sm_run C c_M_opened (n + 1) 6 [some (.ref a0), some (.int v1)] [] u = if sm_tg u a0 = 112 then (if sm_tg u a0 = 112 then (sm_lt (sm_wI u a0 18 ((sm_I u a0 18) + (nI 1))) (fun u1 => if sm_tg u1 a0 = 112 then sm_rr (sm_Rf u1 a0 15) (fun q2 => if sm_tg u1 a0 = 112 then (if sm_in u1 1 q2 (sm_I u1 a0 17) then (sm_lt (sm_wI u1 q2 (sm_I u1 a0 17).toNatClampNeg v1) (fun u3 => if sm_tg u3 a0 = 112 then (if sm_tg u3 a0 = 112 then (sm_lt (sm_wI u3 a0 17 ((sm_I u3 a0 17) + (nI 1))) (fun u4 => if sm_tg u4 a0 = 112 then (sm_rv (C 225 [.ref a0] u4) (fun u5 => if v1 = (nI 41) then (sm_run C c_M_opened n 31 [some (.ref a0), some (.int v1)] [] u5) else (some (some (.int (nI 0)), u5)))) else none)) else none) else none)) else none) else none) else none)) else none) else none := q_M_opened_6 C n u a0 v1
theorem z_M_opened_31 (C : Nat → List Value → sm_M → sm_R) (n : Nat) (u : sm_M) (a0 : Nat) (v1 : Int32) : sm_run C c_M_opened (n + 1) 31 [some (.ref a0), some (.int v1)] [] u = if sm_tg u a0 = 112 then (if (sm_I u a0 9) = (nI 40) then (sm_run C c_M_opened n 37 [some (.ref a0), some (.int v1)] [] u) else (some (some (.int (nI 1)), u))) else none := q_M_opened_31 C n u a0 v1
theorem z_M_opened_37 (C : Nat → List Value → sm_M → sm_R) (n : Nat) (u : sm_M) (a0 : Nat) (v1 : Int32) : sm_run C c_M_opened (n + 1) 37 [some (.ref a0), some (.int v1)] [] u = if sm_tg u a0 = 112 then sm_rr (sm_Rf u a0 16) (fun q1 => if sm_tg u a0 = 112 then (if sm_in u 1 q1 (sm_I u a0 19) then (sm_lt (sm_wI u q1 (sm_I u a0 19).toNatClampNeg (nI 1)) (fun u2 => if sm_tg u2 a0 = 112 then (if sm_tg u2 a0 = 112 then (sm_lt (sm_wI u2 a0 19 ((sm_I u2 a0 19) + (nI 1))) (fun u3 => if sm_tg u3 a0 = 112 then (sm_rv (C 225 [.ref a0] u3) (fun u4 => some (some (.int (nI 0)), u4))) else none)) else none) else none)) else none) else none) else none := q_M_opened_37 C n u a0 v1
theorem z_M_asked_0 (C : Nat → List Value → sm_M → sm_R) (n : Nat) (u : sm_M) (a0 : Nat) (v1 v2 : Int32) : sm_run C c_M_asked (n + 1) 0 [some (.ref a0), some (.int v1), some (.int v2)] [] u = if sm_tg u a0 = 112 then (sm_rv (C 225 [.ref a0] u) (fun u1 => if sm_tg u1 a0 = 112 then (if (sm_I u1 a0 9) = (nI 1) then (sm_run C c_M_asked n 8 [some (.ref a0), some (.int v1), some (.int v2)] [] u1) else (some (some (.int (nI 1)), u1))) else none)) else none := q_M_asked_0 C n u a0 v1 v2
theorem z_M_asked_8 (C : Nat → List Value → sm_M → sm_R) (n : Nat) (u : sm_M) (a0 : Nat) (v1 v2 : Int32) : sm_run C c_M_asked (n + 1) 8 [some (.ref a0), some (.int v1), some (.int v2)] [] u = if sm_tg u a0 = 112 then (if (sm_I u a0 10) ≤ v2 then (sm_run C c_M_asked n 14 [some (.ref a0), some (.int v1), some (.int v2)] [] u) else (some (some (.int (nI 2)), u))) else none := q_M_asked_8 C n u a0 v1 v2
theorem z_M_asked_14 (C : Nat → List Value → sm_M → sm_R) (n : Nat) (u : sm_M) (a0 : Nat) (v1 v2 : Int32) : sm_run C c_M_asked (n + 1) 14 [some (.ref a0), some (.int v1), some (.int v2)] [] u = if v1 = (nI 3) then (if sm_tg u a0 = 112 then (if sm_tg u a0 = 112 then (if (sm_I u a0 10) < (sm_I u a0 14) then (sm_run C c_M_asked n 24 [some (.ref a0), some (.int v1), some (.int v2)] [] u) else (some (some (.int (nI 5)), u))) else none) else none) else (sm_run C c_M_asked n 24 [some (.ref a0), some (.int v1), some (.int v2)] [] u) := q_M_asked_14 C n u a0 v1 v2
theorem z_M_asked_24 (C : Nat → List Value → sm_M → sm_R) (n : Nat) (u : sm_M) (a0 : Nat) (v1 v2 : Int32) : sm_run C c_M_asked (n + 1) 24 [some (.ref a0), some (.int v1), some (.int v2)] [] u = if sm_tg u a0 = 112 then (if sm_tg u a0 = 112 then (sm_rv (C 232 [.ref a0, .int v1, .int (sm_I u a0 10)] u) (fun u1 => if sm_tg u1 a0 = 112 then (sm_rv (C 225 [.ref a0] u1) (fun u2 => if sm_tg u2 a0 = 112 then sm_rr (sm_Rf u2 a0 15) (fun q3 => if sm_tg u2 a0 = 112 then (if sm_in u2 1 q3 (sm_I u2 a0 17) then (sm_lt (sm_wI u2 q3 (sm_I u2 a0 17).toNatClampNeg (nI 16)) (fun u4 => if sm_tg u4 a0 = 112 then (if sm_tg u4 a0 = 112 then (sm_lt (sm_wI u4 a0 17 ((sm_I u4 a0 17) + (nI 1))) (fun u5 => if sm_tg u5 a0 = 112 ∧ ((nI 1) = 0 ∨ (nI 1) = 1) then (sm_lt (sm_wI u5 a0 20 (nI 1)) (fun u6 => some (some (.int (nI 0)), u6))) else none)) else none) else none)) else none) else none) else none)) else none)) else none) else none := q_M_asked_24 C n u a0 v1 v2
/-- position, terms, pile, counts, whether one is whole -/
abbrev S5 : Type := Nat × List (Nat × Nat) × List Nat × List Nat × Bool
def M5 (u0 : sm_M) (b : Nat → Nat) (n t : Nat) (u : sm_M) (τ : S5) : Prop := MS u0 b n t u (τ.1, τ.2.1, τ.2.2.1, nop τ.2.2.1, τ.2.2.2.1, τ.2.2.2.2)
/-- 9: nothing -/
def ffI (f : Nat) : Int32 := if f = 9 then Int32.ofInt (-1) else nI f
def opnd (b : Nat → Nat) (n o : Nat) (τ : S5) : Nat × S5 :=
  if nop τ.2.2.1 = 8 then (3, τ)
  else if o = 41 then (if kdp b n (nx1 b n τ.1) = 40 then (0, (nx1 b n (nx1 b n τ.1), τ.2.1, o :: τ.2.2.1, 1 :: τ.2.2.2.1, τ.2.2.2.2)) else (1, (nx1 b n τ.1, τ.2.1, o :: τ.2.2.1, τ.2.2.2)))
  else (0, (nx1 b n τ.1, τ.2.1, o :: τ.2.2.1, τ.2.2.2))
def askd (b : Nat → Nat) (n ev o top : Nat) (τ : S5) : Nat × S5 :=
  if ¬ kdp b n (nx1 b n τ.1) = 2 then (1, (nx1 b n τ.1, τ.2))
  else if top < vlp b n (nx1 b n τ.1) then (2, (nx1 b n τ.1, τ.2))
  else if o = 3 ∧ ev ≤ vlp b n (nx1 b n τ.1) then (5, (nx1 b n τ.1, τ.2))
  else (0, (nx1 b n (nx1 b n τ.1), τ.2.1 ++ [(o, vlp b n (nx1 b n τ.1))], 16 :: τ.2.2.1, τ.2.2.2.1, true))
section
variable {u0 : sm_M} {b : Nat → Nat} {n t ev : Nat}
theorem MS.pushN {u : sm_M} {s : Nat} {c : List (Nat × Nat)} {P : List Nat} {p : Nat} {N : List Nat} {w : Bool} (h : MS u0 b n t u (s, c, P, p, N, w)) {x : Nat} (hx : x < 1000) (hl : N.length < 9) : MS u0 b n t (sm_wI (sm_wI u 281 N.length (nI x)) 275 19 (nI (N.length + 1))) (s, c, P, p, x :: N, w) := by
  obtain ⟨⟨hu, hB⟩, hf, hT, hc, hp, hop, hn, hw⟩ := h
  have F1 : FrP (fun a j => a = 281 ∨ a = 275 ∧ j = 19) u (sm_wI (sm_wI u 281 N.length (nI x)) 275 19 (nI (N.length + 1))) := (FrP.rf.wI (Or.inl rfl)).wI (Or.inr ⟨rfl, rfl⟩)
  have R : ∀ a j, a ≠ 281 → (a ≠ 275 ∨ j ≠ 19) → sm_I (sm_wI (sm_wI u 281 N.length (nI x)) 275 19 (nI (N.length + 1))) a j = sm_I u a j := fun a j h1 h2 => F1.2.2 a j (by omega)
  refine ⟨⟨hu.wI.wI, hB.fr F1 (by omega) (fun i => by omega)⟩, (hf.wI (by omega)).wI (by omega), ?_, ?_, ?_, ?_, ?_, ?_⟩
  · exact ⟨hT.1, by rw [R _ _ (by omega) (by omega)]; exact hT.2.1, by rw [R _ _ (by omega) (by omega)]; exact hT.2.2.1, by rw [R _ _ (by omega) (by omega)]; exact hT.2.2.2.1, fun z1 z2 => by rw [R _ _ (by omega) (by omega)]; exact hT.2.2.2.2.1 z1 z2, fun z1 z2 => by rw [wI_L, wI_L]; exact hT.2.2.2.2.2 z1 z2⟩
  · exact ⟨by rw [R _ _ (by omega) (by omega)]; exact hc.1, hc.2.1, fun i hi => by rw [R _ _ (by omega) (by omega), R _ _ (by omega) (by omega)]; exact hc.2.2 i hi⟩
  · exact ⟨by rw [R _ _ (by omega) (by omega)]; exact hp.1, hp.2.1, hp.2.2.cg (fun k _ => R _ _ (by omega) (by omega))⟩
  · exact ⟨by rw [R _ _ (by omega) (by omega)]; exact hop.1, hop.2⟩
  · refine ⟨by rw [wI_at]; rfl, hl, ⟨⟨by rw [wI_na (by decide), wI_at], hx⟩, hn.2.2.cg (fun k (hk : k < N.length) => by rw [wI_na (by decide), wI_nk (by omega)])⟩⟩
  · rw [R _ _ (by omega) (by omega)]
    exact hw
theorem m_opened (H : Mx u0 b n t ev) {D o : Nat} (hD : 3 ≤ D) (ho : o = 5 ∨ o = 20 ∨ o = 40 ∨ o = 41) {τ : S5} {u : sm_M} (h : M5 u0 b n t u τ) (hl : τ.2.2.1.length < 160) (hN : τ.2.2.2.1.length < 9) : Ri (sm_call D 240 [.ref 275, .int (nI o)] u) (fun x v => x = ffI (opnd b n o τ).1 ∧ M5 u0 b n t v (opnd b n o τ).2) := by
  obtain ⟨D, rfl⟩ : ∃ k, D = k + 3 := ⟨D - 3, by omega⟩
  obtain ⟨s, c, P, N, w⟩ := τ
  have h : MS u0 b n t u (s, c, P, nop P, N, w) := h
  have hl : P.length < 160 := hl
  have hN : N.length < 9 := hN
  have hnp := nop_le P
  have e18 : sm_I u 275 18 = nI (nop P) := h.2.2.2.2.2.1.1
  have hi : iso o = true := by
    rcases ho with rfl | rfl | rfl | rfl <;> rfl
  have en : nop (o :: P) = nop P + 1 := by
    show nop P + (if iso o = true then 1 else 0) = _
    rw [if_pos hi]
  unfold opnd
  rw [k_M_opened, z_M_opened_0]
  simp -implicitDefEqProofs only [h.tg, e18, ↓reduceIte]
  by_cases q8 : nop P = 8
  · rw [if_pos (show nI (nop P) = nI 8 by rw [q8]), if_pos (show nop P = 8 from q8)]
    exact Ri.ret ⟨rfl, h⟩
  · rw [if_neg (show ¬ nI (nop P) = nI 8 from fun z => q8 ((nI_eq (by omega) (by omega)).mp z)), if_neg (show ¬ nop P = 8 from q8), z_M_opened_6]
    simp -implicitDefEqProofs only [h.tg, e18, nI_add, ↓reduceIte, lt_s1]
    have h1 := h.w (k := 18) (x := nI (nop P + 1)) (τ' := (s, c, P, nop P + 1, N, w)) (Or.inl rfl) rfl rfl rfl rfl (fun z => absurd rfl z) (fun _ => ⟨rfl, show nop P + 1 ≤ 300 by omega⟩) (fun _ => rfl) (fun z => by cases z)
    generalize sm_wI u 275 18 (nI (nop P + 1)) = w1 at *
    have L1 := h1.ly
    have f17 : sm_I w1 275 17 = nI P.length := h1.2.2.2.2.1.1
    have cP : (nI P.length).toNatClampNeg = P.length := nI_clamp (by omega)
    simp -implicitDefEqProofs only [h1.tg, f17, ↓yk_275_15 L1, in_280 L1 hl, cP, ↓reduceIte, lt_s1]
    have h2 := h1.push (o := o) (by omega) hl
    have L2 : Ly (sm_wI w1 280 P.length (nI o)) := L1.wI
    have g17 : sm_I (sm_wI w1 280 P.length (nI o)) 275 17 = nI P.length := by rw [wI_na (by decide)]; exact f17
    simp -implicitDefEqProofs only [eq_true (yt_275 L2), g17, nI_add, ↓reduceIte, lt_s1]
    rw [← en] at h2
    generalize sm_wI (sm_wI w1 280 P.length (nI o)) 275 17 (nI (P.length + 1)) = w2 at *
    simp -implicitDefEqProofs only [h2.tg, ↓reduceIte]
    refine Ri.rv (m_next H (by omega) h2) (fun v hv => ?_)
    by_cases q41 : o = 41
    · rw [if_pos (show nI o = nI 41 by rw [q41]), if_pos q41, z_M_opened_31]
      have e9 := hv.2.2.1.2.2.2.1
      have htk := tk_kd (b := b) (n := n) (s := nx1 b n s)
      have e9 : sm_I v 275 9 = nI (tkc b n (nx1 b n s)) := e9
      simp -implicitDefEqProofs only [hv.tg, e9, ↓reduceIte]
      by_cases q40 : kdp b n (nx1 b n s) = 40
      · rw [if_pos (show nI (tkc b n (nx1 b n s)) = nI 40 by rw [(htk.2.2.2.2.1 40 (by omega) (by omega)).mpr q40]), if_pos (show kdp b n (nx1 b n s) = 40 from q40), z_M_opened_37]
        have e19 : sm_I v 275 19 = nI N.length := hv.2.2.2.2.2.2.1.1
        have cN : (nI N.length).toNatClampNeg = N.length := nI_clamp (by omega)
        have Lv := hv.ly
        simp -implicitDefEqProofs only [hv.tg, e19, ↓yk_275_16 Lv, in_281 Lv hN, cN, ↓reduceIte, lt_s1]
        have h3 := hv.pushN (x := 1) (by omega) hN
        have L3 : Ly (sm_wI v 281 N.length (nI 1)) := Lv.wI
        have g19 : sm_I (sm_wI v 281 N.length (nI 1)) 275 19 = nI N.length := by rw [wI_na (by decide)]; exact e19
        simp -implicitDefEqProofs only [eq_true (yt_275 L3), g19, nI_add, ↓reduceIte, lt_s1]
        generalize sm_wI (sm_wI v 281 N.length (nI 1)) 275 19 (nI (N.length + 1)) = w3 at *
        simp -implicitDefEqProofs only [h3.tg, ↓reduceIte]
        refine Ri.rv (m_next H (by omega) h3) (fun v2 hv2 => ?_)
        exact Ri.ret ⟨rfl, hv2⟩
      · rw [if_neg (show ¬ nI (tkc b n (nx1 b n s)) = nI 40 from fun z => q40 ((htk.2.2.2.2.1 40 (by omega) (by omega)).mp ((nI_eq (by omega) (by omega)).mp z))), if_neg (show ¬ kdp b n (nx1 b n s) = 40 from q40)]
        exact Ri.ret ⟨rfl, hv⟩
    · rw [if_neg (show ¬ nI o = nI 41 from fun z => q41 ((nI_eq (by omega) (by omega)).mp z)), if_neg q41]
      exact Ri.ret ⟨rfl, hv⟩
theorem nr_top {s top : Nat} (hk : kdp b n s = 2) (ht : top ≤ 9999) : (nrv b n s ≤ top ↔ vlp b n s ≤ top) ∧ (vlp b n s ≤ top → nrv b n s = vlp b n s) := by
  have hd := kd_2.mp hk
  have := nrv_m hd.1 hd.2
  omega
theorem m_asked (H : Mx u0 b n t ev) {D o top : Nat} (hD : 3 ≤ D) (ho : o = 2 ∨ o = 3) (htop : top ≤ 9) {τ : S5} {u : sm_M} (h : M5 u0 b n t u τ) (hB : ∀ i, b i < 256) (hl : τ.2.2.1.length < 160) (hc : τ.2.1.length < 300) : Ri (sm_call D 241 [.ref 275, .int (nI o), .int (nI top)] u) (fun x v => x = ffI (askd b n ev o top τ).1 ∧ M5 u0 b n t v (askd b n ev o top τ).2) := by
  obtain ⟨D, rfl⟩ : ∃ k, D = k + 3 := ⟨D - 3, by omega⟩
  obtain ⟨s, c, P, N, w⟩ := τ
  have h : MS u0 b n t u (s, c, P, nop P, N, w) := h
  have hl : P.length < 160 := hl
  have hc : c.length < 300 := hc
  unfold askd
  rw [k_M_asked, z_M_asked_0]
  simp -implicitDefEqProofs only [h.tg, ↓reduceIte]
  refine Ri.rv (m_next H (by omega) h) (fun v hv => ?_)
  have e9 : sm_I v 275 9 = nI (tkc b n (nx1 b n s)) := hv.2.2.1.2.2.2.1
  have htk := tk_kd (b := b) (n := n) (s := nx1 b n s)
  simp -implicitDefEqProofs only [hv.tg, e9, ↓reduceIte]
  by_cases q2 : kdp b n (nx1 b n s) = 2
  · rw [if_pos (show nI (tkc b n (nx1 b n s)) = nI 1 by rw [htk.2.1.mpr q2]), if_neg (show ¬ ¬ kdp b n (nx1 b n s) = 2 from fun z => z q2), z_M_asked_8]
    have hd := kd_2.mp q2
    have e10 : sm_I v 275 10 = nI (nrv b n (nx1 b n s)) := hv.2.2.1.2.2.2.2.1 hd.1 hd.2
    have hnr := nr_top (b := b) (n := n) (top := top) q2 (by omega)
    have hnl : nrv b n (nx1 b n s) ≤ 1000300 := nrf_le hB _ _ _ (by omega)
    simp -implicitDefEqProofs only [hv.tg, e10, ↓reduceIte]
    by_cases qt : vlp b n (nx1 b n s) ≤ top
    · have en := hnr.2 qt
      rw [if_pos (show nI (nrv b n (nx1 b n s)) ≤ nI top from nI_le (by omega) (by omega)), if_neg (show ¬ top < vlp b n (nx1 b n s) by omega), z_M_asked_14]
      rw [en] at e10
      have e14 : sm_I v 275 14 = nI ev := by rw [hv.2.1.2.2 _ _ (by omega)]; exact H.2.2.2.1
      have hev := H.2.2.2.2
      have f24 : ∀ m, Ri (sm_run (sm_call (D + 2)) c_M_asked (m + 1) 24 [some (.ref 275), some (.int (nI o)), some (.int (nI top))] [] v) (fun x v => x = ffI 0 ∧ M5 u0 b n t v (nx1 b n (nx1 b n s), c ++ [(o, vlp b n (nx1 b n s))], 16 :: P, N, true)) := by
        intro m
        rw [z_M_asked_24]
        simp -implicitDefEqProofs only [hv.tg, e10, ↓reduceIte]
        refine Ri.rv (m_emit H (by omega) hv (o := o) (v := vlp b n (nx1 b n s)) hc) (fun v1 hv1 => ?_)
        have hv1 := hv1.1
        simp -implicitDefEqProofs only [hv1.tg, ↓reduceIte]
        refine Ri.rv (m_next H (by omega) hv1) (fun v2 hv2 => ?_)
        have L2 := hv2.ly
        have f17 : sm_I v2 275 17 = nI P.length := hv2.2.2.2.2.1.1
        have cP : (nI P.length).toNatClampNeg = P.length := nI_clamp (by omega)
        simp -implicitDefEqProofs only [hv2.tg, f17, ↓yk_275_15 L2, in_280 L2 hl, cP, ↓reduceIte, lt_s1]
        have h3 := hv2.push (o := 16) (by omega) hl
        have L3 : Ly (sm_wI v2 280 P.length (nI 16)) := L2.wI
        have g17 : sm_I (sm_wI v2 280 P.length (nI 16)) 275 17 = nI P.length := by rw [wI_na (by decide)]; exact f17
        simp -implicitDefEqProofs only [eq_true (yt_275 L3), g17, nI_add, ↓reduceIte, lt_s1]
        generalize sm_wI (sm_wI v2 280 P.length (nI 16)) 275 17 (nI (P.length + 1)) = w3 at *
        rw [if_pos (show sm_tg w3 275 = 112 ∧ (nI 1 = 0 ∨ nI 1 = 1) from ⟨yt_275 h3.ly, Or.inr rfl⟩)]
        refine Ri.ret ⟨rfl, ?_⟩
        exact h3.w (k := 20) (x := nI 1) (τ' := (nx1 b n (nx1 b n s), c ++ [(o, vlp b n (nx1 b n s))], 16 :: P, nop P, N, true)) (Or.inr rfl) rfl rfl rfl rfl (fun _ => rfl) (fun z => by cases z) (fun z => absurd rfl z) (fun _ => rfl)
      rcases ho with rfl | rfl
      · rw [if_neg (show ¬ nI 2 = nI 3 by decide), if_neg (show ¬ (2 = 3 ∧ ev ≤ vlp b n (nx1 b n s)) from fun z => by omega)]
        exact f24 _
      · rw [if_pos (show nI 3 = nI 3 from rfl)]
        simp -implicitDefEqProofs only [hv.tg, e10, e14, ↓reduceIte]
        by_cases qe : ev ≤ vlp b n (nx1 b n s)
        · rw [if_neg (show ¬ nI (vlp b n (nx1 b n s)) < nI ev from fun z => by have := (nI_ltI (by omega) (by omega)).mp z; omega), if_pos (show True ∧ ev ≤ vlp b n (nx1 b n s) from ⟨trivial, qe⟩)]
          exact Ri.ret ⟨rfl, hv⟩
        · rw [if_pos (show nI (vlp b n (nx1 b n s)) < nI ev from nI_lt (by omega) (by omega)), if_neg (show ¬ (True ∧ ev ≤ vlp b n (nx1 b n s)) from fun z => qe z.2)]
          exact f24 _
    · rw [if_neg (show ¬ nI (nrv b n (nx1 b n s)) ≤ nI top from fun z => by have := (nI_leI (by omega) (by omega)).mp z; omega), if_pos (show top < vlp b n (nx1 b n s) by omega)]
      exact Ri.ret ⟨rfl, hv⟩
  · rw [if_neg (show ¬ nI (tkc b n (nx1 b n s)) = nI 1 from fun z => q2 (htk.2.1.mp ((nI_eq (by omega) (by omega)).mp z))), if_pos (show ¬ kdp b n (nx1 b n s) = 2 from q2)]
    exact Ri.ret ⟨rfl, hv⟩
end
