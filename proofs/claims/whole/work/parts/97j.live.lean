/-! what is now changes, behind a step -/
def Top (A : Nat → Int32) : Prop := 0 < nS A ∧ nC (blk A (nS A - 1)) = nC A ∧ nP (blk A (nS A - 1)) = nP A ∧ nR (blk A (nS A - 1)) = nR A
theorem Top_keep {A : Nat → Int32} (h : MA A) : Top (Fkeep A) := by
  have hA : nS A ≤ 30 := (MAb h).2.2.2.2.2.1
  have hS := K_S hA
  refine ⟨by omega, ?_, ?_, ?_⟩
  · rw [hS, Nat.add_sub_cancel]
    unfold nC
    rw [K_bn hA (by omega), K_lo hA (by omega) (by omega)]
    rfl
  · rw [hS, Nat.add_sub_cancel]
    unfold nP
    rw [K_bn hA (by omega), K_lo hA (by omega) (by omega)]
    rfl
  · rw [hS, Nat.add_sub_cancel]
    unfold nR
    rw [K_bn hA (by omega), K_lo hA (by omega) (by omega)]
    rfl
/-- entries of what is now -/
abbrev lvx (k : Nat) : Prop := k = 4 ∨ (12 ≤ k ∧ k < 36 ∧ k % 3 = 0) ∨ (86 ≤ k ∧ k < 104 ∧ k % 3 = 2) ∨ (36 ≤ k ∧ k < 86 ∧ k % 5 = 0 ∧ 40 ≤ k)
theorem MA_live {A A' : Nat → Int32} (h : MA A) (ht : Top A) (e : ∀ k, ¬ lvx k → A' k = A k) (hw : WB (lvb A')) : MA A' ∧ Top A' := by
  have b := MAb h
  obtain ⟨w, hH, hT, hY, hS, hF, qc, qp, qr, qh, qf, st⟩ := h
  have nCe : nC A' = nC A := by unfold nC; rw [e 0 (by omega)]
  have nPe : nP A' = nP A := by unfold nP; rw [e 1 (by omega)]
  have nRe : nR A' = nR A := by unfold nR; rw [e 2 (by omega)]
  have nHe : nH A' = nH A := by unfold nH; rw [e 3 (by omega)]
  have nTe : nT A' = nT A := by unfold nT; rw [e 5 (by omega)]
  have nSe : nS A' = nS A := by unfold nS; rw [e 7 (by omega)]
  have nFe : nF A' = nF A := by unfold nF; rw [e 8 (by omega)]
  have eb : ∀ i, blk A' i = blk A i := fun i => funext (fun k => e _ (by omega))
  refine ⟨⟨hw, ⟨by rw [e 3 (by omega), nHe]; exact hH.1, by rw [nHe]; exact hH.2⟩, ⟨by rw [e 5 (by omega), nTe]; exact hT.1, by rw [nTe]; exact hT.2⟩, by rw [e 6 (by omega), nTe]; exact hY, ⟨by rw [e 7 (by omega), nSe]; exact hS.1, by rw [nSe]; exact hS.2⟩, ⟨by rw [e 8 (by omega), nFe]; exact hF.1, by rw [nFe]; exact hF.2⟩, ?_, ?_, ?_, ?_, ?_, ?_⟩, ?_⟩
  · intro c hc
    rw [nCe] at hc
    rw [e (13 + 3 * c) (by omega), e (14 + 3 * c) (by omega)]
    exact qc c hc
  · intro p hp
    rw [nPe] at hp
    rw [e (36 + 5 * p) (by omega), e (37 + 5 * p) (by omega), e (38 + 5 * p) (by omega), e (39 + 5 * p) (by omega)]
    exact qp p hp
  · intro r hr
    rw [nRe] at hr
    rw [e (87 + 3 * r) (by omega), e (88 + 3 * r) (by omega), nCe]
    exact qr r hr
  · intro x hx
    rw [nHe] at hx
    rw [e (104 + 3 * x) (by omega), e (105 + 3 * x) (by omega), e (106 + 3 * x) (by omega)]
    exact qh x hx
  · intro x hx
    rw [nFe] at hx
    rw [e (128 + 3 * x) (by omega), e (129 + 3 * x) (by omega), e (130 + 3 * x) (by omega), nCe]
    exact qf x hx
  · intro i hi
    rw [nSe] at hi
    obtain ⟨h1, h2⟩ := st i hi
    have h14 : ∀ c, c < 8 → A' (14 + 3 * c) = A (14 + 3 * c) := fun c hc => e _ (by omega)
    have h88 : ∀ r, r < 6 → A' (88 + 3 * r) = A (88 + 3 * r) := fun r hr => e _ (by omega)
    rw [eb]
    refine ⟨h1, ?_⟩
    by_cases hl : i + 1 < nS A
    · have e1 : bk A' (i + 1) = bk A (i + 1) := by
        unfold bk
        rw [nSe, if_pos hl, if_pos hl, eb]
      have e2 : bk A (i + 1) = blk A (i + 1) := if_pos hl
      have hwb := (st (i + 1) hl).1
      rw [e1]
      exact TC_cg (by rw [e2]; exact ⟨hwb.1.2, hwb.2.1.2, hwb.2.2.1.2⟩) (fun _ _ => rfl) (fun _ _ => rfl) h14 h88 h2
    · have e1 : bk A' (i + 1) = lvb A' := if_neg (by omega)
      have ei : i = nS A - 1 := by omega
      obtain ⟨-, t1, t2, t3⟩ := ht
      rw [e1, ei]
      refine ⟨by rw [t1]; show nC A ≤ nC A'; omega, by rw [t2]; show nP A ≤ nP A'; omega, by rw [t3]; show nR A ≤ nR A'; omega, fun c a q => ?_, fun r a q => ?_, fun p a q => ?_⟩
      · rw [t1] at a
        have q : c < nC A' := q
        omega
      · rw [t3] at a
        have q : r < nR A' := q
        omega
      · rw [t2] at a
        have q : p < nP A' := q
        omega
  · unfold Top
    rw [nSe, nCe, nPe, nRe, eb]
    exact ht
theorem MR_live {C C' : Nat → Nat → Int32} {A A' : Nat → Int32} (h : MA A) (H : MR C 1 A) (e : ∀ k, ¬ lvx k → A' k = A k) (E : ∀ a k, ¬ ((a = 2 ∧ 3 ≤ k) ∨ a = 3 ∨ a = 4) → C' a k = C a k) (hs : SR C' (1 + 1) (lvb A')) : MR C' 1 A' := by
  have b := MAb h
  obtain ⟨s1, s2, s3, s4, s5, s6, s7, s8⟩ := H
  have nCe : nC A' = nC A := by unfold nC; rw [e 0 (by omega)]
  have nPe : nP A' = nP A := by unfold nP; rw [e 1 (by omega)]
  have nRe : nR A' = nR A := by unfold nR; rw [e 2 (by omega)]
  have nHe : nH A' = nH A := by unfold nH; rw [e 3 (by omega)]
  have nFe : nF A' = nF A := by unfold nF; rw [e 8 (by omega)]
  refine ⟨hs, st_cg (fun a h1 h2 => funext (fun k => E a k (by omega))) (e 7 (by omega)) (fun k hk => e k (by omega)) s2, ?_, ?_, ?_, ?_, ?_, ?_⟩
  · rw [E 1 9 (by omega), E 1 10 (by omega), E 1 11 (by omega), E 1 12 (by omega), e 3 (by omega), e 8 (by omega), e 5 (by omega), e 6 (by omega)]
    exact s3
  · intro c hc
    rw [nCe] at hc
    rw [E _ _ (by omega), e (13 + 3 * c) (by omega)]
    exact s4 c hc
  · intro r hr
    rw [nRe] at hr
    rw [E _ _ (by omega), e (87 + 3 * r) (by omega)]
    exact s5 r hr
  · intro x hx
    rw [nHe] at hx
    rw [E (1 + 99) x (by omega), E (1 + 100) x (by omega), E (1 + 101) x (by omega), e (104 + 3 * x) (by omega), e (105 + 3 * x) (by omega), e (106 + 3 * x) (by omega)]
    exact s6 x hx
  · intro p hp k hk
    rw [nPe] at hp
    rw [E _ _ (by omega), e (36 + 5 * p + k) (by omega)]
    exact s7 p hp k hk
  · intro j hj
    rw [E _ _ (by omega), nFe, knw_cg j (nF A) (fun i hi => ⟨e _ (by omega), e _ (by omega), e _ (by omega)⟩)]
    exact s8 j hj
/-- one entry of what is now -/
theorem WB_up {K : Nat → Int32} {x : Nat} {v : Int32} (hb : nC K ≤ 8 ∧ nP K ≤ 10 ∧ nR K ≤ 6) (w : WB (lvb K)) (hx : lvx x) (h4 : x = 4 → lt_ v 30319) (hc : ∀ c, c < nC K → x = 12 + 3 * c → lt_ v 2) (hr : ∀ r, r < nR K → x = 86 + 3 * r → lt_ v (2 ^ nC K)) (hp : ∀ p, p < nP K → x = 40 + 5 * p → opt v (nR K)) : WB (lvb (up K x v)) := by
  have e := fun {k : Nat} (q : k ≠ x) => up_ne (A := K) (v := v) q
  have nCe : nC (up K x v) = nC K := by unfold nC; rw [e (by omega)]
  have nPe : nP (up K x v) = nP K := by unfold nP; rw [e (by omega)]
  have nRe : nR (up K x v) = nR K := by unfold nR; rw [e (by omega)]
  refine ⟨⟨?_, ?_⟩, ⟨?_, ?_⟩, ⟨?_, ?_⟩, ?_, fun c q => ?_, fun r q => ?_, fun p q => ?_⟩
  · show up K x v 0 = nI (nC (up K x v))
    rw [nCe, e (by omega)]
    exact w.1.1
  · show nC (up K x v) ≤ 8
    omega
  · show up K x v 1 = nI (nP (up K x v))
    rw [nPe, e (by omega)]
    exact w.2.1.1
  · show nP (up K x v) ≤ 10
    omega
  · show up K x v 2 = nI (nR (up K x v))
    rw [nRe, e (by omega)]
    exact w.2.2.1.1
  · show nR (up K x v) ≤ 6
    omega
  · show lt_ (up K x v 4) 30319
    by_cases q : x = 4
    · rw [q, up_at]
      exact h4 q
    · rw [e (by omega)]
      exact w.2.2.2.1
  · have q : c < nC (up K x v) := q
    rw [nCe] at q
    rw [lv_c _ (by omega)]
    by_cases z : x = 12 + 3 * c
    · rw [← z, up_at]
      exact hc c q z
    · rw [e (by omega)]
      have := w.2.2.2.2.1 c q
      rw [lv_c _ (by omega)] at this
      exact this
  · have q : r < nR (up K x v) := q
    show lt_ (lvb (up K x v) (12 + r)) (2 ^ nC (up K x v))
    rw [nRe] at q
    rw [lv_r _ (by omega), nCe]
    by_cases z : x = 86 + 3 * r
    · rw [← z, up_at]
      exact hr r q z
    · rw [e (by omega)]
      have := w.2.2.2.2.2.1 r q
      rw [lv_r _ (by omega)] at this
      exact this
  · have q : p < nP (up K x v) := q
    show opt (lvb (up K x v) (18 + p)) (nR (up K x v))
    rw [nPe] at q
    rw [lv_p, nRe]
    by_cases z : x = 40 + 5 * p
    · rw [← z, up_at]
      exact hp p q z
    · rw [e (by omega)]
      have := w.2.2.2.2.2.2 p q
      rw [lv_p] at this
      exact this
/-! the ways of rooms and the places of pieces -/
theorem CR_way {u : sm_M} {K : Nat → Int32} (h : CR u K) (ht : Top K) {r w : Nat} (hr : r < nR K) (hw : w < 2 ^ nC K) : CR (sm_wI u 3 r (nI w)) (up K (86 + 3 * r) (nI w)) ∧ Top (up K (86 + 3 * r) (nI w)) := by
  have hb := nr_b h
  have e : ∀ k, ¬ lvx k → up K (86 + 3 * r) (nI w) k = K k := fun k q => up_ne (by omega)
  obtain ⟨m1, m2⟩ := MA_live h.2.1 ht e (WB_up ⟨hb.1, hb.2.1, hb.2.2.1⟩ h.2.1.1 (by omega) (fun q => by omega) (fun c _ q => by omega) (fun r' _ q => ⟨w, hw, rfl⟩) (fun p _ q => by omega))
  refine ⟨⟨h.1, m1, trivial, MR_live h.2.1 h.2.2.2.1 e (fun a k q => wI_ne (by omega)) ?_, trivial⟩, m2⟩
  obtain ⟨t0, t1, t2, t3, t4, t5, t6⟩ := h.2.2.2.1.1
  have nPe : nP (up K (86 + 3 * r) (nI w)) = nP K := by unfold nP; rw [up_ne (by omega)]
  have nRe : nR (up K (86 + 3 * r) (nI w)) = nR K := by unfold nR; rw [up_ne (by omega)]
  have nCe : nC (up K (86 + 3 * r) (nI w)) = nC K := by unfold nC; rw [up_ne (by omega)]
  refine ⟨(by show sm_I (sm_wI u 3 r (nI w)) 2 0 = up K (86 + 3 * r) (nI w) 0; rw [wI_na (by omega), up_ne (by omega)]; exact t0), (by show sm_I (sm_wI u 3 r (nI w)) 2 1 = up K (86 + 3 * r) (nI w) 1; rw [wI_na (by omega), up_ne (by omega)]; exact t1), (by show sm_I (sm_wI u 3 r (nI w)) 2 2 = up K (86 + 3 * r) (nI w) 2; rw [wI_na (by omega), up_ne (by omega)]; exact t2), ?_, (by show sm_I (sm_wI u 3 r (nI w)) 2 4 = up K (86 + 3 * r) (nI w) 4; rw [wI_na (by omega), up_ne (by omega)]; exact t4), fun x q => ?_, fun p q => ?_⟩
  · rw [show pkb (lvb (up K (86 + 3 * r) (nI w))) (nC (lvb (up K (86 + 3 * r) (nI w)))) = pkb (lvb K) (nC (lvb K)) from by
      show pkb (lvb (up K (86 + 3 * r) (nI w))) (nC (up K (86 + 3 * r) (nI w))) = pkb (lvb K) (nC K)
      rw [nCe]
      exact pkb_cg2 _ (fun c hc => by rw [lv_c _ (by omega), lv_c _ (by omega), up_ne (by omega)])]
    exact t3
  · have q : x < nR (up K (86 + 3 * r) (nI w)) := q
    rw [nRe] at q
    rw [lv_r _ (by omega)]
    by_cases z : x = r
    · subst z
      rw [up_at]
      exact wI_at
    · rw [up_ne (by omega)]
      have := t5 x q
      rw [lv_r _ (by omega)] at this
      exact (wI_nk (u := u) (a := 3) (k := r) (b := 3) z).trans this
  · have q : p < nP (up K (86 + 3 * r) (nI w)) := q
    rw [nPe] at q
    rw [lv_p, up_ne (by omega)]
    have := t6 p q
    rw [lv_p] at this
    exact (wI_na (u := u) (a := 3) (b := 4) (by omega)).trans this
theorem CR_plc {u : sm_M} {K : Nat → Int32} (h : CR u K) (ht : Top K) {p : Nat} {v : Int32} (hp : p < nP K) (hv : opt v (nR K)) : CR (sm_wI u 4 p v) (up K (40 + 5 * p) v) ∧ Top (up K (40 + 5 * p) v) := by
  have hb := nr_b h
  have e : ∀ k, ¬ lvx k → up K (40 + 5 * p) v k = K k := fun k q => up_ne (by omega)
  obtain ⟨m1, m2⟩ := MA_live h.2.1 ht e (WB_up ⟨hb.1, hb.2.1, hb.2.2.1⟩ h.2.1.1 (by omega) (fun q => by omega) (fun c _ q => by omega) (fun r' _ q => by omega) (fun p _ q => hv))
  refine ⟨⟨h.1, m1, trivial, MR_live h.2.1 h.2.2.2.1 e (fun a k q => wI_ne (by omega)) ?_, trivial⟩, m2⟩
  obtain ⟨t0, t1, t2, t3, t4, t5, t6⟩ := h.2.2.2.1.1
  have nPe : nP (up K (40 + 5 * p) v) = nP K := by unfold nP; rw [up_ne (by omega)]
  have nRe : nR (up K (40 + 5 * p) v) = nR K := by unfold nR; rw [up_ne (by omega)]
  have nCe : nC (up K (40 + 5 * p) v) = nC K := by unfold nC; rw [up_ne (by omega)]
  refine ⟨(by show sm_I (sm_wI u 4 p v) 2 0 = up K (40 + 5 * p) v 0; rw [wI_na (by omega), up_ne (by omega)]; exact t0), (by show sm_I (sm_wI u 4 p v) 2 1 = up K (40 + 5 * p) v 1; rw [wI_na (by omega), up_ne (by omega)]; exact t1), (by show sm_I (sm_wI u 4 p v) 2 2 = up K (40 + 5 * p) v 2; rw [wI_na (by omega), up_ne (by omega)]; exact t2), ?_, (by show sm_I (sm_wI u 4 p v) 2 4 = up K (40 + 5 * p) v 4; rw [wI_na (by omega), up_ne (by omega)]; exact t4), fun x q => ?_, fun x q => ?_⟩
  · rw [show pkb (lvb (up K (40 + 5 * p) v)) (nC (lvb (up K (40 + 5 * p) v))) = pkb (lvb K) (nC (lvb K)) from by
      show pkb (lvb (up K (40 + 5 * p) v)) (nC (up K (40 + 5 * p) v)) = pkb (lvb K) (nC K)
      rw [nCe]
      exact pkb_cg2 _ (fun c hc => by rw [lv_c _ (by omega), lv_c _ (by omega), up_ne (by omega)])]
    exact t3
  · have q : x < nR (up K (40 + 5 * p) v) := q
    rw [nRe] at q
    rw [lv_r _ (by omega), up_ne (by omega)]
    have := t5 x q
    rw [lv_r _ (by omega)] at this
    exact (wI_na (u := u) (a := 4) (b := 3) (by omega)).trans this
  · have q : x < nP (up K (40 + 5 * p) v) := q
    rw [nPe] at q
    rw [lv_p]
    by_cases z : x = p
    · subst z
      rw [up_at]
      exact wI_at
    · rw [up_ne (by omega)]
      have := t6 x q
      rw [lv_p] at this
      exact (wI_nk (u := u) (a := 4) (k := p) (b := 4) z).trans this
