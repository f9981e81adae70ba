/-! texts: the reference's text (by hand) -/
theorem z_M_readText_0 (C : Nat → List Value → sm_M → sm_R) (n : Nat) (u : sm_M) (a0 : Nat) : sm_run C c_M_readText (n + 1) 0 [some (.ref a0), none] [] u = if sm_tg u a0 = 112 then sm_rr (sm_Rf u a0 0) (fun q1 => if sm_in u 1 q1 (nI 5) then (if sm_tg u a0 = 112 then (sm_lt (sm_wI u a0 12 ((nI 705) * (sm_I u q1 (nI 5).toNatClampNeg))) (fun u2 => if sm_tg u2 a0 = 112 then sm_rr (sm_Rf u2 a0 2) (fun q3 => if sm_tg u2 a0 = 112 then (if sm_in u2 1 q3 (sm_I u2 a0 12) then (sm_lt (sm_wI u2 q3 (sm_I u2 a0 12).toNatClampNeg (nI 0)) (fun u4 => if sm_tg u4 a0 = 112 then (sm_lt (sm_wI u4 a0 13 (nI 0)) (fun u5 => if sm_tg u5 a0 = 112 then (sm_lt (sm_wI u5 a0 14 (nI 0)) (fun u6 => if sm_tg u6 a0 = 112 ∧ ((nI 0) = 0 ∨ (nI 0) = 1) then (sm_lt (sm_wI u6 a0 21 (nI 0)) (fun u7 => if sm_tg u7 a0 = 112 then (sm_lt (sm_wI u7 a0 7 (nI 0)) (fun u8 => if sm_tg u8 a0 = 112 then (sm_rv (C 225 [.ref a0] u8) (fun u9 => sm_run C c_M_readText n 29 [some (.ref a0), none] [] u9)) else none)) else none)) else none)) else none)) else none)) else none) else none) else none)) else none) else none) else none := q_M_readText_0 C n u a0
theorem z_M_text_0 (C : Nat → List Value → sm_M → sm_R) (n : Nat) (u : sm_M) (a0 : Nat) : sm_run C c_M_text (n + 1) 0 [some (.ref a0)] [] u = if sm_tg u a0 = 112 then sm_rr (sm_Rf u a0 0) (fun q1 => if sm_in u 1 q1 (nI 5) then (if (sm_I u q1 (nI 5).toNatClampNeg) = (nI 4) then (some (some (.int (Int32.ofInt (-1))), u)) else (sm_run C c_M_text n 8 [some (.ref a0)] [] u)) else none) else none := q_M_text_0 C n u a0
theorem z_M_text_8 (C : Nat → List Value → sm_M → sm_R) (n : Nat) (u : sm_M) (a0 : Nat) : sm_run C c_M_text (n + 1) 8 [some (.ref a0)] [] u = if sm_tg u a0 = 112 then (sm_ri (C 254 [.ref a0] u) (fun x2 u1 => if sm_tg u1 a0 = 112 then (sm_lt (sm_wI u1 a0 5 x2) (fun u3 => if sm_tg u3 a0 = 112 then (if (sm_I u3 a0 5) = 0 then (sm_run C c_M_text n 21 [some (.ref a0)] [.int (Int32.ofInt (-1)), .ref a0] u3) else (sm_run C c_M_text n 18 [some (.ref a0)] [.ref a0] u3)) else none)) else none)) else none := q_M_text_8 C n u a0
theorem z_M_text_21 (C : Nat → List Value → sm_M → sm_R) (n : Nat) (u : sm_M) (a0 y1 : Nat) (s0 : Int32) : sm_run C c_M_text (n + 1) 21 [some (.ref a0)] [.int s0, .ref y1] u = if sm_tg u y1 = 112 then (sm_lt (sm_wI u y1 6 s0) (fun u1 => if sm_tg u1 a0 = 112 then (sm_lt (sm_wI u1 a0 4 (nI 0)) (fun u2 => if sm_tg u2 a0 = 112 then (if (sm_I u2 a0 5) = 0 then (sm_run C c_M_text n 30 [some (.ref a0)] [] u2) else (some (some (.int (Int32.ofInt (-1))), u2))) else none)) else none)) else none := q_M_text_21 C n u a0 y1 s0
theorem z_M_text_30 (C : Nat → List Value → sm_M → sm_R) (n : Nat) (u : sm_M) (a0 : Nat) : sm_run C c_M_text (n + 1) 30 [some (.ref a0)] [] u = if sm_tg u a0 = 112 then sm_rr (sm_Rf u a0 0) (fun q1 => if sm_in u 1 q1 (nI 5) then (if sm_in u 1 q1 (nI 5) then (sm_lt (sm_wI u q1 (nI 5).toNatClampNeg ((sm_I u q1 (nI 5).toNatClampNeg) + (nI 1))) (fun u2 => if sm_tg u2 a0 = 112 then sm_rr (sm_Rf u2 a0 0) (fun q3 => if sm_in u2 1 q3 (nI 5) then (some (some (.int ((sm_I u2 q3 (nI 5).toNatClampNeg) - (nI 1))), u2)) else none) else none)) else none) else none) else none := q_M_text_30 C n u a0
theorem z_M_text_18 (C : Nat → List Value → sm_M → sm_R) (n : Nat) (u : sm_M) (a0 y0 : Nat) : sm_run C c_M_text (n + 1) 18 [some (.ref a0)] [.ref y0] u = if sm_tg u a0 = 112 then (sm_run C c_M_text n 21 [some (.ref a0)] [.int (sm_I u a0 8), .ref y0] u) else none := q_M_text_18 C n u a0 y0
theorem r_rdT {u : sm_M} (hu : Ly u) {b : Nat → Nat} {n t : Nat} (hR : RB u b n) (hB : ∀ i, b i < 256) (ht : t < 4) (h5 : sm_I u 276 5 = nI t) (d : Nat) : Ri (sm_call (d + 16) 254 [.ref 275] u) (fun x v => RP u b n t (rdT b n).1 (limc (rdT b n).1) (Int32.ofInt (-1)) (rdT b n).2 x v) := by
  have ct : (nI (705 * t)).toNatClampNeg = 705 * t := nI_clamp (by omega)
  have c5 : (nI 5).toNatClampNeg = 5 := nI_clamp (by omega)
  rw [k_M_readText, z_M_readText_0]
  simp -implicitDefEqProofs only [eq_true (yt_275 hu), ↓yk_275_0 hu, in_276 hu (show 5 < 992 by omega), c5, h5, nI_mul, ↓reduceIte, lt_s1]
  have L1 : Ly (sm_wI u 275 12 (nI (705 * t))) := hu.wI
  have F1 : FrP (Prq t) u (sm_wI u 275 12 (nI (705 * t))) := FrP.rf.wI (by omega)
  have e12 : sm_I (sm_wI u 275 12 (nI (705 * t))) 275 12 = nI (705 * t) := wI_at
  generalize sm_wI u 275 12 (nI (705 * t)) = w1 at *
  simp -implicitDefEqProofs only [eq_true (yt_275 L1), ↓yk_275_2 L1, e12, in_278 L1 (show 705 * t < 2820 by omega), ct, ↓reduceIte, lt_s1]
  have L2 : Ly (sm_wI w1 278 (705 * t) (nI 0)) := L1.wI
  have F2 : FrP (Prq t) u (sm_wI w1 278 (705 * t) (nI 0)) := F1.wI (by omega)
  have g12 : sm_I (sm_wI w1 278 (705 * t) (nI 0)) 275 12 = nI (705 * t) := by
    rw [wI_na (by decide)]
    exact e12
  have g0 : sm_I (sm_wI w1 278 (705 * t) (nI 0)) 278 (705 * t) = nI 0 := wI_at
  generalize sm_wI w1 278 (705 * t) (nI 0) = w2 at *
  simp -implicitDefEqProofs only [eq_true (yt_275 L2), ↓reduceIte, lt_s1]
  have L3 : Ly (sm_wI w2 275 13 (nI 0)) := L2.wI
  simp -implicitDefEqProofs only [eq_true (yt_275 L3), ↓reduceIte, lt_s1]
  have L4 : Ly (sm_wI (sm_wI w2 275 13 (nI 0)) 275 14 (nI 0)) := L3.wI
  rw [if_pos (show sm_tg (sm_wI (sm_wI w2 275 13 (nI 0)) 275 14 (nI 0)) 275 = 112 ∧ (nI 0 = 0 ∨ nI 0 = 1) from ⟨yt_275 L4, Or.inl rfl⟩)]
  have L5 : Ly (sm_wI (sm_wI (sm_wI w2 275 13 (nI 0)) 275 14 (nI 0)) 275 21 (nI 0)) := L4.wI
  simp -implicitDefEqProofs only [eq_true (yt_275 L5), ↓reduceIte, lt_s1]
  have L6 : Ly (sm_wI (sm_wI (sm_wI (sm_wI w2 275 13 (nI 0)) 275 14 (nI 0)) 275 21 (nI 0)) 275 7 (nI 0)) := L5.wI
  have F6 : FrP (Prq t) u (sm_wI (sm_wI (sm_wI (sm_wI w2 275 13 (nI 0)) 275 14 (nI 0)) 275 21 (nI 0)) 275 7 (nI 0)) := (((F2.wI (by omega)).wI (by omega)).wI (by omega)).wI (by omega)
  have v7 : sm_I (sm_wI (sm_wI (sm_wI (sm_wI w2 275 13 (nI 0)) 275 14 (nI 0)) 275 21 (nI 0)) 275 7 (nI 0)) 275 7 = nI 0 := wI_at
  have v21 : sm_I (sm_wI (sm_wI (sm_wI (sm_wI w2 275 13 (nI 0)) 275 14 (nI 0)) 275 21 (nI 0)) 275 7 (nI 0)) 275 21 = nI 0 := by rw [wI_nk (by decide), wI_at]
  have v14 : sm_I (sm_wI (sm_wI (sm_wI (sm_wI w2 275 13 (nI 0)) 275 14 (nI 0)) 275 21 (nI 0)) 275 7 (nI 0)) 275 14 = nI 0 := by rw [wI_nk (by decide), wI_nk (by decide), wI_at]
  have v13 : sm_I (sm_wI (sm_wI (sm_wI (sm_wI w2 275 13 (nI 0)) 275 14 (nI 0)) 275 21 (nI 0)) 275 7 (nI 0)) 275 13 = nI 0 := by rw [wI_nk (by decide), wI_nk (by decide), wI_nk (by decide), wI_at]
  have v12 : sm_I (sm_wI (sm_wI (sm_wI (sm_wI w2 275 13 (nI 0)) 275 14 (nI 0)) 275 21 (nI 0)) 275 7 (nI 0)) 275 12 = nI (705 * t) := by
    rw [wI_nk (by decide), wI_nk (by decide), wI_nk (by decide), wI_nk (by decide)]
    exact g12
  have v0 : sm_I (sm_wI (sm_wI (sm_wI (sm_wI w2 275 13 (nI 0)) 275 14 (nI 0)) 275 21 (nI 0)) 275 7 (nI 0)) 278 (705 * t) = nI 0 := by
    rw [wI_na (by decide), wI_na (by decide), wI_na (by decide), wI_na (by decide)]
    exact g0
  generalize sm_wI (sm_wI (sm_wI (sm_wI w2 275 13 (nI 0)) 275 14 (nI 0)) 275 21 (nI 0)) 275 7 (nI 0) = w6 at *
  simp -implicitDefEqProofs only [eq_true (yt_275 L6), ↓reduceIte]
  have R6 : RB w6 b n := hR.fr F6 (by omega) (fun i => by omega)
  refine Ri.rv (r_next (e := 0) (by omega) L6 R6 (Nat.zero_le n) (fun _ => rfl) v7) (fun v hv => ?_)
  obtain ⟨hv1, f1, t1⟩ := hv
  have hP : Pos b n (fst1 b n 0) := t1.1
  have R : ∀ a j, (a ≠ 275 ∨ j < 7 ∨ 10 < j) → sm_I v a j = sm_I w6 a j := fun a j h2 => f1.2.2 a j (by omega)
  have hS : RS u b n t [] (limc []) v (fst1 b n 0) [] := ⟨⟨hv1, R6.fr f1 (by omega) (fun i => by omega)⟩, F6.tr (f1.mono (fun a k q => by omega)), t1, ⟨by rw [R _ _ (by omega)]; exact v13, Nat.zero_le 300, (fun i hi => absurd hi (Nat.not_lt_zero i))⟩, ⟨by rw [R _ _ (by omega)]; exact v12, by rw [R _ _ (by omega)]; exact v14, by rw [R _ _ (by omega)]; exact v21⟩, by rw [R _ _ (by omega)]; exact v0, Nat.zero_le 24, (fun i hi => absurd hi (Nat.not_lt_zero i))⟩
  have hi : Ivt n (Int32.ofInt (-1)) ([], (fst1 b n 0, 0, Int32.ofInt (-1), [])) := ⟨rfl, rfl, Nat.zero_le _, hP.le, Nat.zero_le 10, (fun x hx => by cases hx), (fun e he => by cases he)⟩
  exact r_readL ht hB (by omega) (Int32.ofInt (-1)) 25 [] (fst1 b n 0) [] v _ _ rfl hS hi (by omega)
/-- what the reference's text leaves -/
abbrev Prt (t a k : Nat) : Prop := Prq t a k ∨ a = 275 ∧ (k = 4 ∨ k = 5 ∨ k = 6) ∨ a = 276 ∧ k = 5
theorem r_text {u : sm_M} (hu : Ly u) {b : Nat → Nat} {n t : Nat} (hR : RB u b n) (hB : ∀ i, b i < 256) (ht : t < 4) (h5 : sm_I u 276 5 = nI t) (d : Nat) :
    ∃ r v, sm_call (d + 17) 255 [.ref 275] u = some (some (.int r), v) ∧ Ly v ∧ FrP (Prt t) u v ∧ sm_I v 275 4 = nI 0 ∧ sm_I v 275 5 = nI (rdT b n).2.2.1 ∧ sm_I v 275 6 = (rdT b n).2.2.2.1 ∧
      ((rdT b n).2.2.1 = 0 → r = nI t ∧ sm_I v 276 5 = nI (t + 1) ∧ Hld (rw_ v 278) t (rdT b n).1 (rdT b n).2.2.2.2) ∧ ((rdT b n).2.2.1 ≠ 0 → r = Int32.ofInt (-1) ∧ sm_I v 276 5 = nI t) := by
  have c5 : (nI 5).toNatClampNeg = 5 := nI_clamp (by omega)
  obtain ⟨x, v, e1, p1, p2, ⟨p3, p4⟩, p5, p6⟩ := r_rdT hu hR hB ht h5 d
  have k1 : ∀ g, sm_ri (sm_call (d + 16) 254 [.ref 275] u) g = g x v := fun g => by rw [e1]; rfl
  have h5v : sm_I v 276 5 = nI t := by
    rw [p4.2.2 _ _ (by omega)]
    exact h5
  rw [k_M_text, z_M_text_0]
  simp -implicitDefEqProofs only [eq_true (yt_275 hu), ↓yk_275_0 hu, in_276 hu (show 5 < 992 by omega), c5, h5, ↓reduceIte]
  rw [if_neg (show ¬ nI t = nI 4 from fun z => by have := (nI_eq (by omega) (by omega)).mp z; omega), z_M_text_8]
  simp -implicitDefEqProofs only [eq_true (yt_275 hu), ↓reduceIte]
  rw [k1]
  simp -implicitDefEqProofs only [eq_true (yt_275 p3), ↓reduceIte, lt_s1]
  have L1 : Ly (sm_wI v 275 5 x) := p3.wI
  have e5 : sm_I (sm_wI v 275 5 x) 275 5 = x := wI_at
  have e8 : sm_I (sm_wI v 275 5 x) 275 8 = sm_I v 275 8 := wI_nk (by decide)
  have F1 : FrP (Prt t) u (sm_wI v 275 5 x) := (p4.mono (fun a k q => Or.inl q)).wI (by omega)
  have r78 : rw_ (sm_wI v 275 5 x) 278 = rw_ v 278 := funext (fun k => wI_na (by decide))
  have h5w : sm_I (sm_wI v 275 5 x) 276 5 = nI t := by
    rw [wI_na (by decide)]
    exact h5v
  generalize sm_wI v 275 5 x = w1 at *
  simp -implicitDefEqProofs only [eq_true (yt_275 L1), e5, ↓reduceIte]
  have L2 : Ly (sm_wI w1 275 6 (rdT b n).2.2.2.1) := L1.wI
  have L3 : Ly (sm_wI (sm_wI w1 275 6 (rdT b n).2.2.2.1) 275 4 (nI 0)) := L2.wI
  have F3 : FrP (Prt t) u (sm_wI (sm_wI w1 275 6 (rdT b n).2.2.2.1) 275 4 (nI 0)) := (F1.wI (by omega)).wI (by omega)
  have v4 : sm_I (sm_wI (sm_wI w1 275 6 (rdT b n).2.2.2.1) 275 4 (nI 0)) 275 4 = nI 0 := wI_at
  have v6 : sm_I (sm_wI (sm_wI w1 275 6 (rdT b n).2.2.2.1) 275 4 (nI 0)) 275 6 = (rdT b n).2.2.2.1 := by rw [wI_nk (by decide), wI_at]
  have v5 : sm_I (sm_wI (sm_wI w1 275 6 (rdT b n).2.2.2.1) 275 4 (nI 0)) 275 5 = nI (rdT b n).2.2.1 := by
    rw [wI_nk (by decide), wI_nk (by decide), e5]
    exact p1
  have s78 : rw_ (sm_wI (sm_wI w1 275 6 (rdT b n).2.2.2.1) 275 4 (nI 0)) 278 = rw_ v 278 := by
    rw [← r78]
    exact funext (fun k => by show sm_I _ 278 k = sm_I w1 278 k; rw [wI_na (by decide), wI_na (by decide)])
  have t5 : sm_I (sm_wI (sm_wI w1 275 6 (rdT b n).2.2.2.1) 275 4 (nI 0)) 276 5 = nI t := by
    rw [wI_na (by decide), wI_na (by decide)]
    exact h5w
  have f21 : ∀ (m : Nat) (s0 : Int32), s0 = (rdT b n).2.2.2.1 → ∃ r v', sm_run (sm_call (d + 16)) c_M_text (m + 2) 21 [some (.ref 275)] [.int s0, .ref 275] w1 = some (some (.int r), v') ∧ Ly v' ∧ FrP (Prt t) u v' ∧ sm_I v' 275 4 = nI 0 ∧ sm_I v' 275 5 = nI (rdT b n).2.2.1 ∧ sm_I v' 275 6 = (rdT b n).2.2.2.1 ∧
      ((rdT b n).2.2.1 = 0 → r = nI t ∧ sm_I v' 276 5 = nI (t + 1) ∧ Hld (rw_ v' 278) t (rdT b n).1 (rdT b n).2.2.2.2) ∧ ((rdT b n).2.2.1 ≠ 0 → r = Int32.ofInt (-1) ∧ sm_I v' 276 5 = nI t) := by
    intro m s0 es
    rw [es, z_M_text_21]
    simp -implicitDefEqProofs only [eq_true (yt_275 L1), ↓reduceIte, lt_s1]
    simp -implicitDefEqProofs only [eq_true (yt_275 L2), ↓reduceIte, lt_s1]
    generalize sm_wI (sm_wI w1 275 6 (rdT b n).2.2.2.1) 275 4 (nI 0) = w3 at *
    simp -implicitDefEqProofs only [eq_true (yt_275 L3), v5, ↓reduceIte]
    by_cases q : (rdT b n).2.2.1 = 0
    · obtain ⟨q1, q2⟩ := p5 q
      rw [if_pos (show nI (rdT b n).2.2.1 = 0 by rw [q]; rfl), z_M_text_30]
      simp -implicitDefEqProofs only [eq_true (yt_275 L3), ↓yk_275_0 L3, in_276 L3 (show 5 < 992 by omega), c5, t5, nI_add, ↓reduceIte, lt_s1]
      have L4 : Ly (sm_wI w3 276 5 (nI (t + 1))) := L3.wI
      have F4 : FrP (Prt t) u (sm_wI w3 276 5 (nI (t + 1))) := F3.wI (by omega)
      have y5 : sm_I (sm_wI w3 276 5 (nI (t + 1))) 276 5 = nI (t + 1) := wI_at
      have z4 : sm_I (sm_wI w3 276 5 (nI (t + 1))) 275 4 = nI 0 := (wI_na (by decide)).trans v4
      have z5 : sm_I (sm_wI w3 276 5 (nI (t + 1))) 275 5 = nI (rdT b n).2.2.1 := (wI_na (by decide)).trans v5
      have z6 : sm_I (sm_wI w3 276 5 (nI (t + 1))) 275 6 = (rdT b n).2.2.2.1 := (wI_na (by decide)).trans v6
      have z78 : rw_ (sm_wI w3 276 5 (nI (t + 1))) 278 = rw_ v 278 := (funext (fun k => wI_na (by decide)) : rw_ (sm_wI w3 276 5 (nI (t + 1))) 278 = rw_ w3 278).trans s78
      generalize sm_wI w3 276 5 (nI (t + 1)) = w4 at *
      simp -implicitDefEqProofs only [eq_true (yt_275 L4), ↓yk_275_0 L4, in_276 L4 (show 5 < 992 by omega), c5, y5, ↓reduceIte]
      refine ⟨_, w4, rfl, L4, F4, z4, z5, z6, fun _ => ⟨?_, y5, ?_⟩, fun y => absurd q y⟩
      · rw [nI_sub (by omega)]
        rfl
      · rw [z78]
        exact ⟨q2.2.2.2.2.2.1, q2.2.2.2.2.2.2.2, q2.2.2.2.1.2.2⟩
    · rw [if_neg (nI_n0 p2 q)]
      exact ⟨_, w3, rfl, L3, F3, v4, v5, v6, fun y => absurd y q, fun _ => ⟨rfl, t5⟩⟩
  by_cases q : (rdT b n).2.2.1 = 0
  · rw [if_pos (show x = 0 by rw [p1, q]; rfl)]
    exact f21 _ _ (p5 q).1.symm
  · rw [if_neg (show ¬ x = 0 by rw [p1]; exact nI_n0 p2 q), z_M_text_18]
    simp -implicitDefEqProofs only [eq_true (yt_275 L1), e8, ↓reduceIte]
    exact f21 _ _ (p6 q).symm
