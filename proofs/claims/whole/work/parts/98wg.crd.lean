/-! texts: the class reads a text (by wip/whole/mk_98wg.py) -/
theorem z_X_clear_0 (C : Nat → List Value → sm_M → sm_R) (n : Nat) (u : sm_M) (a0 : Nat) : sm_run C c_X_clear (n + 1) 0 [some (.ref a0)] [] u = if sm_tg u a0 = 102 then (sm_lt (sm_wI u a0 6 (nI 0)) (fun u1 => if sm_tg u1 a0 = 102 then (sm_lt (sm_wI u1 a0 7 (nI 0)) (fun u2 => if sm_tg u2 a0 = 102 then (sm_lt (sm_wI u2 a0 8 (nI 0)) (fun u3 => if sm_tg u3 a0 = 102 then (sm_lt (sm_wI u3 a0 9 (nI 0)) (fun u4 => if sm_tg u4 a0 = 102 ∧ ((nI 0) = 0 ∨ (nI 0) = 1) then (sm_lt (sm_wI u4 a0 10 (nI 0)) (fun u5 => some (none, u5))) else none)) else none)) else none)) else none)) else none := q_X_clear_0 C n u a0
theorem z_R_read_0 (C : Nat → List Value → sm_M → sm_R) (n : Nat) (u : sm_M) (a0 a1 : Nat) : sm_run C c_R_read (n + 1) 0 [some (.ref a0), some (.ref a1), none] [] u = sm_run C c_R_read n 4 [some (.ref a0), some (.ref a1), none] [] u := q_R_read_0 C n u a0 a1
theorem z_R_read_4 (C : Nat → List Value → sm_M → sm_R) (n : Nat) (u : sm_M) (a0 a1 : Nat) : sm_run C c_R_read (n + 1) 4 [some (.ref a0), some (.ref a1), none] [] u = if sm_tg u a0 = 106 ∧ sm_tg u a1 = 102 then (sm_lt (sm_wR u a0 1 (some a1)) (fun u1 => if sm_tg u1 a0 = 106 then sm_rr (sm_Rf u1 a0 1) (fun q2 => if sm_tg u1 q2 = 102 then (sm_rv (C 16 [.ref q2] u1) (fun u3 => if sm_tg u3 a0 = 106 then sm_rr (sm_Rf u3 a0 0) (fun q4 => if sm_tg u3 q4 = 105 then (sm_rv (C 52 [.ref q4] u3) (fun u5 => if sm_tg u5 a0 = 106 then (sm_lt (sm_wI u5 a0 2 (nI 0)) (fun u6 => if sm_tg u6 a0 = 106 then (sm_lt (sm_wI u6 a0 3 (nI 0)) (fun u7 => if sm_tg u7 a0 = 106 then (sm_lt (sm_wI u7 a0 4 (Int32.ofInt (-1))) (fun u8 => sm_run C c_R_read n 25 [some (.ref a0), some (.ref a1), some (.int (nI 0))] [] u8)) else none)) else none)) else none)) else none) else none)) else none) else none)) else none := q_R_read_4 C n u a0 a1
theorem MA_text {A : Nat → Int32} (h : MA A) (hn : nT A < 4) : MA (up A (5) (nI (nT A + 1))) := by
  have b := MAb h
  obtain ⟨w, hH, hT, hY, hS, hF, qc, qp, qr, qh, qf, st⟩ := h
  have e : ∀ k, k ≠ 5 → (up A (5) (nI (nT A + 1))) k = A k := by
    intro k g0
    rw [up_ne g0]
  have v0 : (up A (5) (nI (nT A + 1))) (5) = nI (nT A + 1) := by
    rw [up_at]
  generalize up A (5) (nI (nT A + 1)) = A1 at *
  have nCe : nC A1 = nC A := by unfold nC; rw [e 0 (by omega)]
  have nPe : nP A1 = nP A := by unfold nP; rw [e 1 (by omega)]
  have nRe : nR A1 = nR A := by unfold nR; rw [e 2 (by omega)]
  have nHe : nH A1 = nH A := by unfold nH; rw [e 3 (by omega)]
  have nTe : nT A1 = nT A + 1 := by show (A1 5).toNatClampNeg = _; rw [v0, nI_clamp (by omega)]
  have nSe : nS A1 = nS A := by unfold nS; rw [e 7 (by omega)]
  have nFe : nF A1 = nF A := by unfold nF; rw [e 8 (by omega)]
  refine ⟨WB_cg (lvb_cg (fun k hk => e k (by omega))) w, ⟨by rw [e 3 (by omega), nHe]; exact hH.1, by rw [nHe]; exact hH.2⟩, ?_, ?_, ⟨by rw [e 7 (by omega), nSe]; exact hS.1, by rw [nSe]; exact hS.2⟩, ⟨by rw [e 8 (by omega), nFe]; exact hF.1, by rw [nFe]; exact hF.2⟩, fun c hc => by rw [nCe] at hc; rw [e (13 + 3 * c) (by omega), e (14 + 3 * c) (by omega)]; exact qc c hc, fun p hp => by rw [nPe] at hp; rw [e (36 + 5 * p) (by omega), e (37 + 5 * p) (by omega), e (38 + 5 * p) (by omega), e (39 + 5 * p) (by omega)]; exact qp p hp, fun r hr => by rw [nRe] at hr; rw [e (87 + 3 * r) (by omega), e (88 + 3 * r) (by omega), nCe]; exact qr r hr, fun x hx => by rw [nHe] at hx; rw [e (104 + 3 * x) (by omega), e (105 + 3 * x) (by omega), e (106 + 3 * x) (by omega)]; exact qh x hx, fun x hx => by rw [nFe] at hx; rw [e (128 + 3 * x) (by omega), e (129 + 3 * x) (by omega), e (130 + 3 * x) (by omega), nCe]; exact qf x hx, ms_cg st (e 7 (by omega)) (fun k hk => e k (by omega)) (fun c hc => e _ (by omega)) (fun r hr => e _ (by omega)) (TC_same (lvb_cg (fun k hk => e k (by omega)))) ⟨fun c hc => lvb_cg (fun k hk => e k (by omega)) _ (by omega), fun r hr => lvb_cg (fun k hk => e k (by omega)) _ (by omega), fun p hp => lvb_cg (fun k hk => e k (by omega)) _ (by omega)⟩⟩
  · exact ⟨by rw [v0, nTe], by omega⟩
  · rw [e 6 (by omega), nTe]
    exact Or.imp id (fun z => lt_m z (Nat.le_succ _)) hY
theorem MR_text {C C' : Nat → Nat → Int32} {A : Nat → Int32} (h : MA A) (H : MR C 1 A) (hn : nT A < 4) (E : ∀ a k, ¬ ((a = 1 ∧ k = 11)) → C' a k = C a k) (x0 : C' (1) (11) = nI (nT A + 1)) : MR C' 1 (up A (5) (nI (nT A + 1))) := by
  have b := MAb h
  obtain ⟨s1, s2, s3, s4, s5, s6, s7, s8⟩ := H
  have w := h.1
  have e : ∀ k, k ≠ 5 → (up A (5) (nI (nT A + 1))) k = A k := by
    intro k g0
    rw [up_ne g0]
  have v0 : (up A (5) (nI (nT A + 1))) (5) = nI (nT A + 1) := by
    rw [up_at]
  generalize up A (5) (nI (nT A + 1)) = A1 at *
  have nCe : nC A1 = nC A := by unfold nC; rw [e 0 (by omega)]
  have nPe : nP A1 = nP A := by unfold nP; rw [e 1 (by omega)]
  have nRe : nR A1 = nR A := by unfold nR; rw [e 2 (by omega)]
  have nHe : nH A1 = nH A := by unfold nH; rw [e 3 (by omega)]
  have nTe : nT A1 = nT A + 1 := by show (A1 5).toNatClampNeg = _; rw [v0, nI_clamp (by omega)]
  have nSe : nS A1 = nS A := by unfold nS; rw [e 7 (by omega)]
  have nFe : nF A1 = nF A := by unfold nF; rw [e 8 (by omega)]
  refine ⟨SR_B (lvb_cg (fun k hk => e k (by omega))) w (s1.cg (funext (fun k => E _ k (by omega))) (funext (fun k => E _ k (by omega))) (funext (fun k => E _ k (by omega)))), st_cg (fun a h1 h2 => funext (fun k => E a k (by omega))) (e 7 (by omega)) (fun k hk => e k (by omega)) s2, ⟨(by rw [E 1 9 (by omega), e 3 (by omega)]; exact s3.1), (by rw [E 1 10 (by omega), e 8 (by omega)]; exact s3.2.1), (by rw [x0, v0]), (by rw [E 1 12 (by omega), e 6 (by omega)]; exact s3.2.2.2)⟩, fun c hc => by rw [nCe] at hc; rw [E _ _ (by omega), e (13 + 3 * c) (by omega)]; exact s4 c hc, fun r hr => by rw [nRe] at hr; rw [E _ _ (by omega), e (87 + 3 * r) (by omega)]; exact s5 r hr, fun x hx => by rw [nHe] at hx; rw [E (1 + 99) x (by omega), E (1 + 100) x (by omega), E (1 + 101) x (by omega), e (104 + 3 * x) (by omega), e (105 + 3 * x) (by omega), e (106 + 3 * x) (by omega)]; exact s6 x hx, fun p hp k hk => by rw [nPe] at hp; rw [E _ _ (by omega), e (36 + 5 * p + k) (by omega)]; exact s7 p hp k hk, fun j hj => by rw [E _ _ (by omega), nFe, knw_cg j (nF A) (fun i hi => ⟨e (128 + 3 * i) (by omega), e (129 + 3 * i) (by omega), e (130 + 3 * i) (by omega)⟩)]; exact s8 j hj⟩
theorem Ly.wR1 {u : sm_M} (h : Ly u) (x : Option Nat) : Ly (sm_wR u 232 1 x) := by
  refine ⟨h.1, fun i k a hn e => ?_⟩
  have := h.2 i k a hn e
  show sm_up u.2.1 232 1 x i k = some a
  unfold sm_up
  by_cases q : i = 232
  · rw [if_pos q, if_neg (hn q)]
    exact this
  · rw [if_neg q]
    exact this
theorem c_clear {u : sm_M} (hu : Ly u) {t : Nat} (ht : t < 4) (d : Nat) : ∃ v, sm_call (d + 1) 16 [.ref (236 + 7 * t)] u = some (none, v) ∧ FrP (fun a k => a = 236 + 7 * t ∧ 6 ≤ k ∧ k ≤ 10) u v ∧ ∀ k, 6 ≤ k → k ≤ 10 → sm_I v (236 + 7 * t) k = 0 := by
  have tg1 := fun w (hw : Ly w) => eq_true (tx_tg hw ht)
  refine ⟨sm_wI (sm_wI (sm_wI (sm_wI (sm_wI u (236 + 7 * t) 6 (nI 0)) (236 + 7 * t) 7 (nI 0)) (236 + 7 * t) 8 (nI 0)) (236 + 7 * t) 9 (nI 0)) (236 + 7 * t) 10 (nI 0), ?_, ?_, ?_⟩
  · rw [k_X_clear, z_X_clear_0]
    simp -implicitDefEqProofs only [tg1 u hu, tg1 _ (hu.wI (a := 236 + 7 * t) (k := 6) (v := nI 0)), ↓reduceIte, lt_s1]
    simp -implicitDefEqProofs only [tg1 _ ((hu.wI (a := 236 + 7 * t) (k := 6) (v := nI 0)).wI (a := 236 + 7 * t) (k := 7) (v := nI 0)), ↓reduceIte, lt_s1]
    simp -implicitDefEqProofs only [tg1 _ (((hu.wI (a := 236 + 7 * t) (k := 6) (v := nI 0)).wI (a := 236 + 7 * t) (k := 7) (v := nI 0)).wI (a := 236 + 7 * t) (k := 8) (v := nI 0)), ↓reduceIte, lt_s1]
    rw [if_pos ⟨tx_tg hu.wI.wI.wI.wI ht, Or.inl rfl⟩]
  · exact ((((FrP.rf.wI ⟨rfl, by omega, by omega⟩).wI ⟨rfl, by omega, by omega⟩).wI ⟨rfl, by omega, by omega⟩).wI ⟨rfl, by omega, by omega⟩).wI ⟨rfl, by omega, by omega⟩
  · intro k h1 h2
    rcases (show k = 6 ∨ k = 7 ∨ k = 8 ∨ k = 9 ∨ k = 10 by omega) with rfl | rfl | rfl | rfl | rfl
    · rw [wI_nk (by decide), wI_nk (by decide), wI_nk (by decide), wI_nk (by decide), wI_at]
      rfl
    · rw [wI_nk (by decide), wI_nk (by decide), wI_nk (by decide), wI_at]
      rfl
    · rw [wI_nk (by decide), wI_nk (by decide), wI_at]
      rfl
    · rw [wI_nk (by decide), wI_at]
      rfl
    · rw [wI_at]
      rfl
theorem fst_0 {b : Nat → Nat} {n : Nat} : Pos b n (fst1 b n 0) ∧ cw (sta b) (fst1 b n 0) = 0 := by
  unfold fst1
  obtain ⟨h1, h2, h3, h4⟩ := nf_sp (sta b) (n - 0) 0
  refine ⟨?_, ?_⟩
  · by_cases z : nf (sta b) (n - 0) 0 = n
    · exact Or.inl z
    · exact Or.inr ⟨by omega, h3 (by omega)⟩
  · have := cw_skip (p := sta b) (a := 0) (nf (sta b) (n - 0) 0) (fun j _ q => eq_false_of_ne_true (h4 j (Nat.zero_le j) (by omega)))
    rw [Nat.zero_add] at this
    rw [this]
    rfl
/-- what the class reads -/
abbrev rdT (b : Nat → Nat) (n : Nat) : Cls × Rst := rdL b n 25 ([], (fst1 b n 0, 0, Int32.ofInt (-1), []))
abbrev Prc (t a k : Nat) : Prop := Ptk a k ∨ a = 232 ∧ (k = 2 ∨ k = 3 ∨ k = 4) ∨ 236 + 7 * t ≤ a ∧ a ≤ 241 + 7 * t
theorem c_rd {u : sm_M} (hu : Ly u) {b : Nat → Nat} {n t : Nat} (hT : TB u b n) (ht : t < 4) (d : Nat) : ∃ x v, sm_call (d + 180) 62 [.ref 232, .ref (236 + 7 * t)] u = some (some (.int x), v) ∧ x = (if (rdT b n).2.2.1 = 0 then 1 else 0) ∧ Ly v ∧ (∀ a k, ¬ Prc t a k → sm_I v a k = sm_I u a k) ∧ ∃ u0, CS u0 b n t (rdT b n).1 v (rdT b n).2 := by
  rw [k_R_read, z_R_read_0, z_R_read_4, if_pos ⟨yt_232 hu, tx_tg hu ht⟩]
  have L1 := hu.wR1 (some (236 + 7 * t))
  have r1 : sm_Rf (sm_wR u 232 1 (some (236 + 7 * t))) 232 1 = some (236 + 7 * t) := by
    show sm_up u.2.1 232 1 (some (236 + 7 * t)) 232 1 = _
    unfold sm_up
    rw [if_pos rfl, if_pos rfl]
  have I1 : ∀ a k, sm_I (sm_wR u 232 1 (some (236 + 7 * t))) a k = sm_I u a k := fun _ _ => rfl
  generalize sm_wR u 232 1 (some (236 + 7 * t)) = w1 at *
  simp -implicitDefEqProofs only [eq_true (yt_232 L1), r1, rr_s, eq_true (tx_tg L1 ht), ↓reduceIte, lt_s1]
  obtain ⟨w2, e2, F2, V2⟩ := c_clear L1 ht (d + 178)
  have k2 : ∀ g, sm_rv (sm_call (d + 179) 16 [.ref (236 + 7 * t)] w1) g = g w2 := fun g => by rw [e2]; rfl
  rw [k2]
  have L2 := F2.ly L1
  simp -implicitDefEqProofs only [eq_true (yt_232 L2), ↓yk_232_0 L2, eq_true (yt_227 L2), ↓reduceIte]
  have T2 : TB w2 b n := ⟨hT.1, by rw [F2.2.2 _ _ (by omega), I1]; exact hT.2.1, fun i hi => by rw [F2.2.2 _ _ (by omega), I1]; exact hT.2.2 i hi⟩
  obtain ⟨w3, e3, F3, T3⟩ := c_scan L2 (d + 175) T2
  have k3 : ∀ g, sm_rv (sm_call (d + 179) 52 [.ref 227] w2) g = g w3 := fun g => by rw [e3]; rfl
  rw [k3]
  have L3 := F3.ly L2
  simp -implicitDefEqProofs only [eq_true (yt_232 L3), ↓reduceIte, lt_s1]
  have L4 : Ly (sm_wI w3 232 2 (nI 0)) := L3.wI
  have L5 : Ly (sm_wI (sm_wI w3 232 2 (nI 0)) 232 3 (nI 0)) := L4.wI
  have L6 : Ly (sm_wI (sm_wI (sm_wI w3 232 2 (nI 0)) 232 3 (nI 0)) 232 4 (Int32.ofInt (-1))) := L5.wI
  simp -implicitDefEqProofs only [eq_true (yt_232 L4), ↓reduceIte, lt_s1]
  simp -implicitDefEqProofs only [eq_true (yt_232 L5), ↓reduceIte, lt_s1]
  have F6 : FrP (fun a k => a = 232 ∧ (k = 2 ∨ k = 3 ∨ k = 4)) w3 (sm_wI (sm_wI (sm_wI w3 232 2 (nI 0)) 232 3 (nI 0)) 232 4 (Int32.ofInt (-1))) := ((FrP.rf.wI ⟨rfl, by omega⟩).wI ⟨rfl, by omega⟩).wI ⟨rfl, by omega⟩
  have v62 : sm_I (sm_wI (sm_wI (sm_wI w3 232 2 (nI 0)) 232 3 (nI 0)) 232 4 (Int32.ofInt (-1))) 232 2 = nI 0 := by rw [wI_nk (by decide), wI_nk (by decide), wI_at]
  have v63 : sm_I (sm_wI (sm_wI (sm_wI w3 232 2 (nI 0)) 232 3 (nI 0)) 232 4 (Int32.ofInt (-1))) 232 3 = nI 0 := by rw [wI_nk (by decide), wI_at]
  have v64 : sm_I (sm_wI (sm_wI (sm_wI w3 232 2 (nI 0)) 232 3 (nI 0)) 232 4 (Int32.ofInt (-1))) 232 4 = Int32.ofInt (-1) := wI_at
  generalize sm_wI (sm_wI (sm_wI w3 232 2 (nI 0)) 232 3 (nI 0)) 232 4 (Int32.ofInt (-1)) = w6 at *
  have r6 : sm_Rf w6 232 1 = some (236 + 7 * t) := by
    have q : w6.2.1 = w1.2.1 := F6.2.1.trans (F3.2.1.trans F2.2.1)
    show w6.2.1 232 1 = _
    rw [q]
    exact r1
  have T6 : TK w6 b n := by
    refine ⟨⟨by rw [F6.2.2 _ _ (by omega)]; exact T3.1.1, fun s h1 h2 => ?_⟩, by rw [F6.2.2 _ _ (by omega)]; exact T3.2.1, by rw [F6.2.2 _ _ (by omega)]; exact T3.2.2⟩
    obtain ⟨g1, g2, g3⟩ := T3.1.2 s h1 h2
    exact ⟨by rw [F6.2.2 _ _ (by omega)]; exact g1, by rw [F6.2.2 _ _ (by omega)]; exact g2, fun z => by rw [F6.2.2 _ _ (by omega)]; exact g3 z⟩
  have Z6 : ∀ k, 6 ≤ k → k ≤ 10 → sm_I w6 (236 + 7 * t) k = 0 := fun k h1 h2 => by
    rw [F6.2.2 _ _ (by omega), F3.2.2 _ _ (by omega)]
    exact V2 k h1 h2
  have f0 := fst_0 (b := b) (n := n)
  have C6 : CS w6 b n t [] w6 (fst1 b n 0, 0, Int32.ofInt (-1), []) := ⟨⟨L6, r6⟩, FrP.rf, ⟨f0.1, by rw [v62, f0.2]⟩, ⟨v63, Nat.succ_pos 7⟩, v64, ⟨Z6 8 (by omega) (by omega), Nat.zero_le 300, (fun i hi => absurd hi (Nat.not_lt_zero i))⟩, Z6 6 (by omega) (by omega), Nat.zero_le 24, Z6 7 (by omega) (by omega), Z6 10 (by omega) (by omega), Z6 9 (by omega) (by omega), (fun i hi => absurd hi (Nat.not_lt_zero i))⟩
  obtain ⟨x, v, g1, g2, g3⟩ := l_read (D := d + 178) ⟨hT.1, ht, T6⟩ (by omega) 25 0 2999998 [] w6 _ rfl C6 (by omega)
  refine ⟨x, v, g1, g3, g2.1.1, fun a k q => ?_, w6, g2⟩
  rw [g2.2.1.2.2 a k (by omega), F6.2.2 a k (by omega), F3.2.2 a k (by omega), F2.2.2 a k (by omega), I1]
