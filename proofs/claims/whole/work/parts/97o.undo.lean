/-! undo -/
/-- entries f 0 .. f (k - 1) are g -/
def upn (A : Nat → Int32) (f : Nat → Nat) (g : Nat → Int32) : Nat → Nat → Int32
  | 0 => A
  | k + 1 => up (upn A f g k) (f k) (g k)
theorem upn_ne {A : Nat → Int32} {f : Nat → Nat} {g : Nat → Int32} {j : Nat} : ∀ k, (∀ i, i < k → j ≠ f i) → upn A f g k j = A j
  | 0, _ => rfl
  | k + 1, h => by
    show up (upn A f g k) (f k) (g k) j = _
    rw [up_ne (h k (by omega)), upn_ne k (fun i hi => h i (by omega))]
theorem upn_at {A : Nat → Int32} {f : Nat → Nat} {g : Nat → Int32} (hf : ∀ i j, i < j → f i < f j) {i : Nat} : ∀ k, i < k → upn A f g k (f i) = g i
  | 0, h => absurd h (Nat.not_lt_zero i)
  | k + 1, h => by
    show up (upn A f g k) (f k) (g k) (f i) = _
    by_cases e : i = k
    · subst e
      exact up_at
    · have := hf i k (by omega)
      rw [up_ne (by omega), upn_at hf k (by omega)]
def uC (A : Nat → Int32) (B : Nat → Int32) (c : Nat) : Int32 := if c < nC B then B (4 + c) else A (14 + 3 * c)
def uR (A : Nat → Int32) (B : Nat → Int32) (r : Nat) : Int32 := if r < nR B then B (12 + r) else A (88 + 3 * r)
def uP (B : Nat → Int32) (p : Nat) : Int32 := if p < nP B then B (18 + p) else Int32.ofInt (-1)
/-- the array behind undo -/
def Fund (A : Nat → Int32) : Nat → Int32 :=
  upn (upn (upn (up (up A 7 (nI (nS A - 1))) 4 (blk A (nS A - 1) 3)) (fun c => 12 + 3 * c) (uC A (blk A (nS A - 1))) (nC A)) (fun r => 86 + 3 * r) (uR A (blk A (nS A - 1))) (nR A)) (fun p => 40 + 5 * p) (uP (blk A (nS A - 1))) (nP A)
theorem U_o {A : Nat → Int32} (hb : nC A ≤ 8 ∧ nP A ≤ 10 ∧ nR A ≤ 6) {j : Nat} (h7 : j ≠ 7) (h : ¬ lvx j) : Fund A j = A j := by
  unfold Fund
  rw [upn_ne _ (fun i hi => by omega), upn_ne _ (fun i hi => by omega), upn_ne _ (fun i hi => by omega), up_ne (by omega), up_ne h7]
theorem U_7 {A : Nat → Int32} (hb : nC A ≤ 8 ∧ nP A ≤ 10 ∧ nR A ≤ 6) : Fund A 7 = nI (nS A - 1) := by
  unfold Fund
  rw [upn_ne _ (fun i hi => by omega), upn_ne _ (fun i hi => by omega), upn_ne _ (fun i hi => by omega), up_ne (by omega), up_at]
theorem U_4 {A : Nat → Int32} (hb : nC A ≤ 8 ∧ nP A ≤ 10 ∧ nR A ≤ 6) : Fund A 4 = blk A (nS A - 1) 3 := by
  unfold Fund
  rw [upn_ne _ (fun i hi => by omega), upn_ne _ (fun i hi => by omega), upn_ne _ (fun i hi => by omega), up_at]
theorem U_c {A : Nat → Int32} (hb : nC A ≤ 8 ∧ nP A ≤ 10 ∧ nR A ≤ 6) {c : Nat} (hc : c < nC A) : Fund A (12 + 3 * c) = uC A (blk A (nS A - 1)) c := by
  unfold Fund
  rw [upn_ne _ (fun i hi => by omega), upn_ne _ (fun i hi => by omega)]
  exact upn_at (f := fun c => 12 + 3 * c) (fun i j h => by show 12 + 3 * i < 12 + 3 * j; omega) _ hc
theorem U_r {A : Nat → Int32} (hb : nC A ≤ 8 ∧ nP A ≤ 10 ∧ nR A ≤ 6) {r : Nat} (hr : r < nR A) : Fund A (86 + 3 * r) = uR A (blk A (nS A - 1)) r := by
  unfold Fund
  rw [upn_ne _ (fun i hi => by omega)]
  exact upn_at (f := fun c => 86 + 3 * c) (fun i j h => by show 86 + 3 * i < 86 + 3 * j; omega) _ hr
theorem U_p {A : Nat → Int32} {p : Nat} (hp : p < nP A) : Fund A (40 + 5 * p) = uP (blk A (nS A - 1)) p := by
  unfold Fund
  exact upn_at (f := fun c => 40 + 5 * c) (fun i j h => by show 40 + 5 * i < 40 + 5 * j; omega) _ hp
theorem U_n {A : Nat → Int32} (hb : nC A ≤ 8 ∧ nP A ≤ 10 ∧ nR A ≤ 6) : nC (Fund A) = nC A ∧ nP (Fund A) = nP A ∧ nR (Fund A) = nR A ∧ nH (Fund A) = nH A ∧ nT (Fund A) = nT A ∧ nF (Fund A) = nF A := by
  refine ⟨?_, ?_, ?_, ?_, ?_, ?_⟩
  · unfold nC; rw [U_o hb (by omega) (by omega)]
  · unfold nP; rw [U_o hb (by omega) (by omega)]
  · unfold nR; rw [U_o hb (by omega) (by omega)]
  · unfold nH; rw [U_o hb (by omega) (by omega)]
  · unfold nT; rw [U_o hb (by omega) (by omega)]
  · unfold nF; rw [U_o hb (by omega) (by omega)]
theorem MA_undo {A : Nat → Int32} (h : MA A) (h0 : 0 < nS A) : MA (Fund A) := by
  have b := MAb h
  have hb : nC A ≤ 8 ∧ nP A ≤ 10 ∧ nR A ≤ 6 := ⟨b.1, b.2.1, b.2.2.1⟩
  obtain ⟨nCe, nPe, nRe, nHe, nTe, nFe⟩ := U_n hb
  have hA := h
  obtain ⟨w, hH, hT, hY, hS, hF, qc, qp, qr, qh, qf, st⟩ := h
  have nSe : nS (Fund A) = nS A - 1 := by
    show (Fund A 7).toNatClampNeg = _
    rw [U_7 hb, nI_clamp (by omega)]
  obtain ⟨wB, tB⟩ := st (nS A - 1) (by omega)
  have eL : bk A (nS A - 1 + 1) = lvb A := if_neg (by omega)
  rw [eL] at tB
  obtain ⟨g1, g2, g3, g4, g5, g6⟩ := tB
  have g1 : nC (blk A (nS A - 1)) ≤ nC A := g1
  have g2 : nP (blk A (nS A - 1)) ≤ nP A := g2
  have g3 : nR (blk A (nS A - 1)) ≤ nR A := g3
  have e := fun {j : Nat} (h7 : j ≠ 7) (hl : ¬ lvx j) => U_o (A := A) hb h7 hl
  refine ⟨?_, ⟨by rw [e (by omega) (by omega), nHe]; exact hH.1, by rw [nHe]; exact hH.2⟩, ⟨by rw [e (by omega) (by omega), nTe]; exact hT.1, by rw [nTe]; exact hT.2⟩, by rw [e (by omega) (by omega), nTe]; exact hY, ⟨by rw [U_7 hb, nSe], by omega⟩, ⟨by rw [e (by omega) (by omega), nFe]; exact hF.1, by rw [nFe]; exact hF.2⟩, ?_, ?_, ?_, ?_, ?_, ?_⟩
  · refine ⟨⟨?_, ?_⟩, ⟨?_, ?_⟩, ⟨?_, ?_⟩, ?_, fun c q => ?_, fun r q => ?_, fun p q => ?_⟩
    · show Fund A 0 = nI (nC (Fund A))
      rw [nCe, e (by omega) (by omega)]
      exact w.1.1
    · show nC (Fund A) ≤ 8
      omega
    · show Fund A 1 = nI (nP (Fund A))
      rw [nPe, e (by omega) (by omega)]
      exact w.2.1.1
    · show nP (Fund A) ≤ 10
      omega
    · show Fund A 2 = nI (nR (Fund A))
      rw [nRe, e (by omega) (by omega)]
      exact w.2.2.1.1
    · show nR (Fund A) ≤ 6
      omega
    · show lt_ (Fund A 4) 30319
      rw [U_4 hb]
      exact wB.2.2.2.1
    · have q : c < nC (Fund A) := q
      rw [nCe] at q
      rw [lv_c _ (by omega), U_c hb q]
      unfold uC
      split
      · exact wB.2.2.2.2.1 c (by assumption)
      · exact (qc c q).2
    · have q : r < nR (Fund A) := q
      show lt_ (lvb (Fund A) (12 + r)) (2 ^ nC (Fund A))
      rw [nRe] at q
      rw [lv_r _ (by omega), U_r hb q, nCe]
      unfold uR
      split
      · exact lt_m (wB.2.2.2.2.2.1 r (by assumption)) (p2 g1)
      · exact (qr r q).2.2
    · have q : p < nP (Fund A) := q
      show opt (lvb (Fund A) (18 + p)) (nR (Fund A))
      rw [nPe] at q
      rw [lv_p, U_p q, nRe]
      unfold uP
      split
      · exact opt_m (wB.2.2.2.2.2.2 p (by assumption)) g3
      · exact Or.inl rfl
  · intro c hc
    rw [nCe] at hc
    rw [e (by omega) (by omega), e (by omega) (by omega)]
    exact qc c hc
  · intro p hp
    rw [nPe] at hp
    rw [e (by omega) (by omega), e (by omega) (by omega), e (by omega) (by omega), e (by omega) (by omega)]
    exact qp p hp
  · intro r hr
    rw [nRe] at hr
    rw [e (by omega) (by omega), e (by omega) (by omega), nCe]
    exact qr r hr
  · intro x hx
    rw [nHe] at hx
    rw [e (by omega) (by omega), e (by omega) (by omega), e (by omega) (by omega)]
    exact qh x hx
  · intro x hx
    rw [nFe] at hx
    rw [e (j := 130 + 3 * x) (by omega) (by omega), e (j := 129 + 3 * x) (by omega) (by omega), e (j := 128 + 3 * x) (by omega) (by omega), nCe]
    exact qf x hx
  · intro i hi
    rw [nSe] at hi
    have eb : ∀ i, blk (Fund A) i = blk A i := fun i => funext (fun k => e (by omega) (by omega))
    obtain ⟨h1, h2⟩ := st i (by omega)
    have h14 : ∀ c, c < 8 → Fund A (14 + 3 * c) = A (14 + 3 * c) := fun c hc => e (by omega) (by omega)
    have h88 : ∀ r, r < 6 → Fund A (88 + 3 * r) = A (88 + 3 * r) := fun r hr => e (by omega) (by omega)
    have e2 : bk A (i + 1) = blk A (i + 1) := if_pos (by omega)
    have hwb := (st (i + 1) (by omega)).1
    rw [eb]
    refine ⟨h1, ?_⟩
    rw [e2] at h2
    by_cases hl : i + 1 < nS A - 1
    · have e1 : bk (Fund A) (i + 1) = blk A (i + 1) := by
        unfold bk
        rw [nSe, if_pos hl, eb]
      rw [e1]
      exact TC_cg ⟨hwb.1.2, hwb.2.1.2, hwb.2.2.1.2⟩ (fun _ _ => rfl) (fun _ _ => rfl) h14 h88 h2
    · have ei : i + 1 = nS A - 1 := by omega
      have e1 : bk (Fund A) (i + 1) = lvb (Fund A) := if_neg (by omega)
      rw [ei] at h2
      rw [e1]
      obtain ⟨f1, f2, f3, f4, f5, f6⟩ := h2
      refine ⟨by show _ ≤ nC (Fund A); omega, by show _ ≤ nP (Fund A); omega, by show _ ≤ nR (Fund A); omega, fun c a q => ?_, fun r a q => ?_, fun p a q => ?_⟩
      · have q : c < nC (Fund A) := q
        rw [nCe] at q
        rw [lv_c _ (by omega), U_c hb q, h14 c (by omega)]
        unfold uC
        split
        · exact f4 c a (by assumption)
        · rfl
      · have q : r < nR (Fund A) := q
        rw [nRe] at q
        rw [lv_r _ (by omega), U_r hb q, h88 r (by omega)]
        unfold uR
        split
        · exact f5 r a (by assumption)
        · rfl
      · have q : p < nP (Fund A) := q
        rw [nPe] at q
        rw [lv_p, U_p q]
        unfold uP
        split
        · exact f6 p a (by assumption)
        · rfl
