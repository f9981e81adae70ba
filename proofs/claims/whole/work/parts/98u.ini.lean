/-! the two constructors (by wip/whole/mk_98u.py) -/
def it_1 (r : sm_R) (f : sm_M → Bool) : Bool := match r with
  | some (none, u) => f u
  | _ => false
theorem it_1t : ∀ {r : sm_R} {f : sm_M → Bool}, it_1 r f = true → ∃ u, r = some (none, u) ∧ f u = true
  | some (none, u), _, h => ⟨u, rfl, h⟩
  | some (some _, _), _, h => by cases h
  | none, _, h => by cases h
def it_r (u : sm_M) (i : Nat) : List (Option Nat) → Nat → Bool
  | [], _ => true
  | none :: r, k => it_r u i r (k + 1)
  | some a :: r, k => (match sm_Rf u i k with
    | some b => Nat.beq b a
    | none => (Nat.beq i 232 && Nat.beq k 1)) && it_r u i r (k + 1)
def it_rs (u : sm_M) : List (List (Option Nat)) → Nat → Bool
  | [], _ => true
  | l :: r, i => it_r u i l 0 && it_rs u r (i + 1)
theorem it_rt {u : sm_M} {i : Nat} : ∀ (l : List (Option Nat)) (k : Nat), it_r u i l k = true → ∀ j a, l.getD j none = some a → (i = 232 → k + j ≠ 1) → sm_Rf u i (k + j) = some a
  | [], _, _, j, a, h, _ => by cases h
  | none :: r, k, h, 0, a, e, _ => by cases e
  | none :: r, k, h, j + 1, a, e, hn => by
    have := it_rt r (k + 1) h j a e (fun q => by have := hn q; omega)
    rw [show k + (j + 1) = k + 1 + j by omega]
    exact this
  | some b :: r, k, h, 0, a, e, hn => by
    have h := (Bool.and_eq_true_iff.mp h).1
    have e : some b = some a := e
    cases e
    show sm_Rf u i k = some b
    cases hx : sm_Rf u i k with
    | none =>
      rw [hx] at h
      have h := Bool.and_eq_true_iff.mp h
      exact absurd (Nat.eq_of_beq_eq_true h.2) (hn (Nat.eq_of_beq_eq_true h.1))
    | some c =>
      rw [hx] at h
      rw [Nat.eq_of_beq_eq_true h]
  | some b :: r, k, h, j + 1, a, e, hn => by
    have h := (Bool.and_eq_true_iff.mp h).2
    have := it_rt r (k + 1) h j a e (fun q => by have := hn q; omega)
    rw [show k + (j + 1) = k + 1 + j by omega]
    exact this
theorem it_rst {u : sm_M} : ∀ (l : List (List (Option Nat))) (i : Nat), it_rs u l i = true → ∀ j k a, (l.getD j []).getD k none = some a → (i + j = 232 → k ≠ 1) → sm_Rf u (i + j) k = some a
  | [], _, _, j, k, a, e, _ => by cases e
  | l :: r, i, h, 0, k, a, e, hn => by
    have := it_rt l 0 (Bool.and_eq_true_iff.mp h).1 k a e (fun q => by have := hn q; omega)
    rw [Nat.zero_add] at this
    exact this
  | l :: r, i, h, j + 1, k, a, e, hn => by
    have := it_rst r (i + 1) (Bool.and_eq_true_iff.mp h).2 j k a e (fun q => hn (by omega))
    rw [show i + (j + 1) = i + 1 + j by omega]
    exact this
def it_v (u : sm_M) : List (Nat × Nat × Int) → Bool
  | [] => true
  | (a, k, v) :: r => decide (sm_I u a k = Int32.ofInt v) && it_v u r
theorem it_vt {u : sm_M} : ∀ (l : List (Nat × Nat × Int)), it_v u l = true → ∀ a k v, (a, k, v) ∈ l → sm_I u a k = Int32.ofInt v
  | [], _, _, _, _, h => by cases h
  | (a, k, v) :: r, h, a', k', v', hm => by
    have h := Bool.and_eq_true_iff.mp h
    cases hm with
    | head => exact of_decide_eq_true h.1
    | tail _ hm => exact it_vt r h.2 a' k' v' hm
def it_vs : List (Nat × Nat × Int) := [(276, 0, 0), (276, 1, 0), (276, 2, 0), (276, 3, 0), (276, 4, 89), (276, 5, 0), (276, 6, -1), (276, 7, 0), (276, 8, 0), (277, 0, 0), (277, 1, 0), (277, 2, 0), (277, 3, 0), (277, 4, 89), (277, 5, 0), (277, 6, -1), (277, 7, 0), (277, 8, 0), (2, 0, 0), (2, 1, 0), (2, 2, 0), (2, 3, 0), (2, 4, 89), (5, 1, 0), (5, 2, 0), (1, 9, 0), (1, 10, 0), (1, 11, 0), (1, 12, -1), (103, 0, 0), (103, 1, 0), (103, 2, 0), (103, 3, 0), (115, 0, 0), (115, 1, 0), (115, 2, 0), (115, 3, 0), (115, 4, 89), (118, 1, 0), (118, 2, 0), (114, 9, 0), (114, 10, 0), (114, 11, 0), (114, 12, -1), (216, 0, 0), (216, 1, 0), (216, 2, 0), (216, 3, 0), (227, 4, 0), (275, 4, 0), (275, 5, -1), (275, 6, -1), (232, 3, -1), (232, 4, -1)]
def it_ok (u : sm_M) : Bool := decide (u.1 = SH) && (it_rs u RFt 0 && it_v u it_vs)
theorem it_all : it_1 (sm_call 200 140 [.ref 0] (sm_nw u00 111 8)) (fun u1 => Nat.beq u1.1.length 275 && (Nat.ble (sm_tot u1) 16676 && it_1 (sm_call 200 199 [.ref 275] (sm_nw u1 112 34)) it_ok)) = true := by decide +kernel
theorem it_rel {u : sm_M} (h : it_ok u = true) : Rel u := by
  have h0 := Bool.and_eq_true_iff.mp h
  have h1 := Bool.and_eq_true_iff.mp h0.2
  have hv : ∀ a k v, (a, k, v) ∈ it_vs → sm_I u a k = Int32.ofInt v := it_vt _ h1.2
  have ly : Ly u := ⟨of_decide_eq_true h0.1, fun i k a hn e => by
    have := it_rst RFt 0 h1.1 i k a e (fun q => hn (by omega))
    rw [Nat.zero_add] at this
    exact this⟩
  have v_276_0 : u.2.2.1 276 0 = nI 0 := hv 276 0 (0) (by decide)
  have v_276_1 : u.2.2.1 276 1 = nI 0 := hv 276 1 (0) (by decide)
  have v_276_2 : u.2.2.1 276 2 = nI 0 := hv 276 2 (0) (by decide)
  have v_276_3 : u.2.2.1 276 3 = nI 0 := hv 276 3 (0) (by decide)
  have v_276_4 : u.2.2.1 276 4 = nI 89 := hv 276 4 (89) (by decide)
  have v_276_5 : u.2.2.1 276 5 = nI 0 := hv 276 5 (0) (by decide)
  have v_276_6 : u.2.2.1 276 6 = Int32.ofInt (-1) := hv 276 6 (-1) (by decide)
  have v_276_7 : u.2.2.1 276 7 = nI 0 := hv 276 7 (0) (by decide)
  have v_276_8 : u.2.2.1 276 8 = nI 0 := hv 276 8 (0) (by decide)
  have v_277_0 : u.2.2.1 277 0 = nI 0 := hv 277 0 (0) (by decide)
  have v_277_1 : u.2.2.1 277 1 = nI 0 := hv 277 1 (0) (by decide)
  have v_277_2 : u.2.2.1 277 2 = nI 0 := hv 277 2 (0) (by decide)
  have v_277_3 : u.2.2.1 277 3 = nI 0 := hv 277 3 (0) (by decide)
  have v_277_4 : u.2.2.1 277 4 = nI 89 := hv 277 4 (89) (by decide)
  have v_277_5 : u.2.2.1 277 5 = nI 0 := hv 277 5 (0) (by decide)
  have v_277_6 : u.2.2.1 277 6 = Int32.ofInt (-1) := hv 277 6 (-1) (by decide)
  have v_277_7 : u.2.2.1 277 7 = nI 0 := hv 277 7 (0) (by decide)
  have v_277_8 : u.2.2.1 277 8 = nI 0 := hv 277 8 (0) (by decide)
  have v_2_0 : u.2.2.1 2 0 = nI 0 := hv 2 0 (0) (by decide)
  have v_2_1 : u.2.2.1 2 1 = nI 0 := hv 2 1 (0) (by decide)
  have v_2_2 : u.2.2.1 2 2 = nI 0 := hv 2 2 (0) (by decide)
  have v_2_3 : u.2.2.1 2 3 = nI 0 := hv 2 3 (0) (by decide)
  have v_2_4 : u.2.2.1 2 4 = nI 89 := hv 2 4 (89) (by decide)
  have v_5_1 : u.2.2.1 5 1 = nI 0 := hv 5 1 (0) (by decide)
  have v_5_2 : u.2.2.1 5 2 = nI 0 := hv 5 2 (0) (by decide)
  have v_1_9 : u.2.2.1 1 9 = nI 0 := hv 1 9 (0) (by decide)
  have v_1_10 : u.2.2.1 1 10 = nI 0 := hv 1 10 (0) (by decide)
  have v_1_11 : u.2.2.1 1 11 = nI 0 := hv 1 11 (0) (by decide)
  have v_1_12 : u.2.2.1 1 12 = Int32.ofInt (-1) := hv 1 12 (-1) (by decide)
  have v_103_0 : u.2.2.1 103 0 = nI 0 := hv 103 0 (0) (by decide)
  have v_103_1 : u.2.2.1 103 1 = nI 0 := hv 103 1 (0) (by decide)
  have v_103_2 : u.2.2.1 103 2 = nI 0 := hv 103 2 (0) (by decide)
  have v_103_3 : u.2.2.1 103 3 = nI 0 := hv 103 3 (0) (by decide)
  have v_115_0 : u.2.2.1 115 0 = nI 0 := hv 115 0 (0) (by decide)
  have v_115_1 : u.2.2.1 115 1 = nI 0 := hv 115 1 (0) (by decide)
  have v_115_2 : u.2.2.1 115 2 = nI 0 := hv 115 2 (0) (by decide)
  have v_115_3 : u.2.2.1 115 3 = nI 0 := hv 115 3 (0) (by decide)
  have v_115_4 : u.2.2.1 115 4 = nI 89 := hv 115 4 (89) (by decide)
  have v_118_1 : u.2.2.1 118 1 = nI 0 := hv 118 1 (0) (by decide)
  have v_118_2 : u.2.2.1 118 2 = nI 0 := hv 118 2 (0) (by decide)
  have v_114_9 : u.2.2.1 114 9 = nI 0 := hv 114 9 (0) (by decide)
  have v_114_10 : u.2.2.1 114 10 = nI 0 := hv 114 10 (0) (by decide)
  have v_114_11 : u.2.2.1 114 11 = nI 0 := hv 114 11 (0) (by decide)
  have v_114_12 : u.2.2.1 114 12 = Int32.ofInt (-1) := hv 114 12 (-1) (by decide)
  have v_216_0 : u.2.2.1 216 0 = nI 0 := hv 216 0 (0) (by decide)
  have v_216_1 : u.2.2.1 216 1 = nI 0 := hv 216 1 (0) (by decide)
  have v_216_2 : u.2.2.1 216 2 = nI 0 := hv 216 2 (0) (by decide)
  have v_216_3 : u.2.2.1 216 3 = nI 0 := hv 216 3 (0) (by decide)
  have v_227_4 : u.2.2.1 227 4 = nI 0 := hv 227 4 (0) (by decide)
  have v_275_4 : u.2.2.1 275 4 = nI 0 := hv 275 4 (0) (by decide)
  have v_275_5 : u.2.2.1 275 5 = Int32.ofInt (-1) := hv 275 5 (-1) (by decide)
  have v_275_6 : u.2.2.1 275 6 = Int32.ofInt (-1) := hv 275 6 (-1) (by decide)
  have v_232_3 : u.2.2.1 232 3 = Int32.ofInt (-1) := hv 232 3 (-1) (by decide)
  have v_232_4 : u.2.2.1 232 4 = Int32.ofInt (-1) := hv 232 4 (-1) (by decide)
  have nC276 : nC (u.2.2.1 276) = 0 := by unfold nC; rw [v_276_0]; rfl
  have nP276 : nP (u.2.2.1 276) = 0 := by unfold nP; rw [v_276_1]; rfl
  have nR276 : nR (u.2.2.1 276) = 0 := by unfold nR; rw [v_276_2]; rfl
  have nH276 : nH (u.2.2.1 276) = 0 := by unfold nH; rw [v_276_3]; rfl
  have nT276 : nT (u.2.2.1 276) = 0 := by unfold nT; rw [v_276_5]; rfl
  have nS276 : nS (u.2.2.1 276) = 0 := by unfold nS; rw [v_276_7]; rfl
  have nF276 : nF (u.2.2.1 276) = 0 := by unfold nF; rw [v_276_8]; rfl
  have lC276 : nC (lvb (u.2.2.1 276)) = 0 := nC276
  have lP276 : nP (lvb (u.2.2.1 276)) = 0 := nP276
  have lR276 : nR (lvb (u.2.2.1 276)) = 0 := nR276
  have ma276 : MA (u.2.2.1 276) := by
    refine ⟨⟨⟨?_, ?_⟩, ⟨?_, ?_⟩, ⟨?_, ?_⟩, ?_, ?_, ?_, ?_⟩, ⟨?_, ?_⟩, ⟨?_, ?_⟩, ?_, ⟨?_, ?_⟩, ⟨?_, ?_⟩, ?_, ?_, ?_, ?_, ?_, ?_⟩
    · rw [lC276]; exact v_276_0
    · rw [lC276]; exact Nat.zero_le _
    · rw [lP276]; exact v_276_1
    · rw [lP276]; exact Nat.zero_le _
    · rw [lR276]; exact v_276_2
    · rw [lR276]; exact Nat.zero_le _
    · exact ⟨89, by decide, v_276_4⟩
    · intro c hc; rw [lC276] at hc; exact absurd hc (Nat.not_lt_zero c)
    · intro c hc; rw [lR276] at hc; exact absurd hc (Nat.not_lt_zero c)
    · intro c hc; rw [lP276] at hc; exact absurd hc (Nat.not_lt_zero c)
    · rw [nH276]; exact v_276_3
    · rw [nH276]; exact Nat.zero_le _
    · rw [nT276]; exact v_276_5
    · rw [nT276]; exact Nat.zero_le _
    · exact Or.inl v_276_6
    · rw [nS276]; exact v_276_7
    · rw [nS276]; exact Nat.zero_le _
    · rw [nF276]; exact v_276_8
    · rw [nF276]; exact Nat.zero_le _
    · intro c hc; rw [nC276] at hc; exact absurd hc (Nat.not_lt_zero c)
    · intro c hc; rw [nP276] at hc; exact absurd hc (Nat.not_lt_zero c)
    · intro c hc; rw [nR276] at hc; exact absurd hc (Nat.not_lt_zero c)
    · intro c hc; rw [nH276] at hc; exact absurd hc (Nat.not_lt_zero c)
    · intro c hc; rw [nF276] at hc; exact absurd hc (Nat.not_lt_zero c)
    · intro c hc; rw [nS276] at hc; exact absurd hc (Nat.not_lt_zero c)
  have nC277 : nC (u.2.2.1 277) = 0 := by unfold nC; rw [v_277_0]; rfl
  have nP277 : nP (u.2.2.1 277) = 0 := by unfold nP; rw [v_277_1]; rfl
  have nR277 : nR (u.2.2.1 277) = 0 := by unfold nR; rw [v_277_2]; rfl
  have nH277 : nH (u.2.2.1 277) = 0 := by unfold nH; rw [v_277_3]; rfl
  have nT277 : nT (u.2.2.1 277) = 0 := by unfold nT; rw [v_277_5]; rfl
  have nS277 : nS (u.2.2.1 277) = 0 := by unfold nS; rw [v_277_7]; rfl
  have nF277 : nF (u.2.2.1 277) = 0 := by unfold nF; rw [v_277_8]; rfl
  have lC277 : nC (lvb (u.2.2.1 277)) = 0 := nC277
  have lP277 : nP (lvb (u.2.2.1 277)) = 0 := nP277
  have lR277 : nR (lvb (u.2.2.1 277)) = 0 := nR277
  have ma277 : MA (u.2.2.1 277) := by
    refine ⟨⟨⟨?_, ?_⟩, ⟨?_, ?_⟩, ⟨?_, ?_⟩, ?_, ?_, ?_, ?_⟩, ⟨?_, ?_⟩, ⟨?_, ?_⟩, ?_, ⟨?_, ?_⟩, ⟨?_, ?_⟩, ?_, ?_, ?_, ?_, ?_, ?_⟩
    · rw [lC277]; exact v_277_0
    · rw [lC277]; exact Nat.zero_le _
    · rw [lP277]; exact v_277_1
    · rw [lP277]; exact Nat.zero_le _
    · rw [lR277]; exact v_277_2
    · rw [lR277]; exact Nat.zero_le _
    · exact ⟨89, by decide, v_277_4⟩
    · intro c hc; rw [lC277] at hc; exact absurd hc (Nat.not_lt_zero c)
    · intro c hc; rw [lR277] at hc; exact absurd hc (Nat.not_lt_zero c)
    · intro c hc; rw [lP277] at hc; exact absurd hc (Nat.not_lt_zero c)
    · rw [nH277]; exact v_277_3
    · rw [nH277]; exact Nat.zero_le _
    · rw [nT277]; exact v_277_5
    · rw [nT277]; exact Nat.zero_le _
    · exact Or.inl v_277_6
    · rw [nS277]; exact v_277_7
    · rw [nS277]; exact Nat.zero_le _
    · rw [nF277]; exact v_277_8
    · rw [nF277]; exact Nat.zero_le _
    · intro c hc; rw [nC277] at hc; exact absurd hc (Nat.not_lt_zero c)
    · intro c hc; rw [nP277] at hc; exact absurd hc (Nat.not_lt_zero c)
    · intro c hc; rw [nR277] at hc; exact absurd hc (Nat.not_lt_zero c)
    · intro c hc; rw [nH277] at hc; exact absurd hc (Nat.not_lt_zero c)
    · intro c hc; rw [nF277] at hc; exact absurd hc (Nat.not_lt_zero c)
    · intro c hc; rw [nS277] at hc; exact absurd hc (Nat.not_lt_zero c)
  have mr1 : MR u.2.2.1 1 (u.2.2.1 276) := by
    refine ⟨⟨?_, ?_, ?_, ?_, ?_, ?_, ?_⟩, ⟨0, by decide, v_5_1, ?_, ?_⟩, ⟨?_, ?_, ?_, ?_⟩, ?_, ?_, ?_, ?_, ?_⟩
    · exact v_2_0.trans v_276_0.symm
    · exact v_2_1.trans v_276_1.symm
    · exact v_2_2.trans v_276_2.symm
    · rw [lC276]; exact v_2_3
    · exact v_2_4.trans v_276_4.symm
    · intro c hc; rw [lR276] at hc; exact absurd hc (Nat.not_lt_zero c)
    · intro c hc; rw [lP276] at hc; exact absurd hc (Nat.not_lt_zero c)
    · exact v_5_2.trans v_276_7.symm
    · intro c hc; rw [nS276] at hc; exact absurd hc (Nat.not_lt_zero c)
    · exact v_1_9.trans v_276_3.symm
    · exact v_1_10.trans v_276_8.symm
    · exact v_1_11.trans v_276_5.symm
    · exact v_1_12.trans v_276_6.symm
    · intro c hc; rw [nC276] at hc; exact absurd hc (Nat.not_lt_zero c)
    · intro c hc; rw [nR276] at hc; exact absurd hc (Nat.not_lt_zero c)
    · intro c hc; rw [nH276] at hc; exact absurd hc (Nat.not_lt_zero c)
    · intro c hc; rw [nP276] at hc; exact absurd hc (Nat.not_lt_zero c)
    · intro j hj
      rw [nF276]
      match j, hj with
      | 0, _ => exact v_103_0
      | 1, _ => exact v_103_1
      | 2, _ => exact v_103_2
      | 3, _ => exact v_103_3
  have mr114 : MR u.2.2.1 114 (u.2.2.1 277) := by
    refine ⟨⟨?_, ?_, ?_, ?_, ?_, ?_, ?_⟩, ⟨0, by decide, v_118_1, ?_, ?_⟩, ⟨?_, ?_, ?_, ?_⟩, ?_, ?_, ?_, ?_, ?_⟩
    · exact v_115_0.trans v_277_0.symm
    · exact v_115_1.trans v_277_1.symm
    · exact v_115_2.trans v_277_2.symm
    · rw [lC277]; exact v_115_3
    · exact v_115_4.trans v_277_4.symm
    · intro c hc; rw [lR277] at hc; exact absurd hc (Nat.not_lt_zero c)
    · intro c hc; rw [lP277] at hc; exact absurd hc (Nat.not_lt_zero c)
    · exact v_118_2.trans v_277_7.symm
    · intro c hc; rw [nS277] at hc; exact absurd hc (Nat.not_lt_zero c)
    · exact v_114_9.trans v_277_3.symm
    · exact v_114_10.trans v_277_8.symm
    · exact v_114_11.trans v_277_5.symm
    · exact v_114_12.trans v_277_6.symm
    · intro c hc; rw [nC277] at hc; exact absurd hc (Nat.not_lt_zero c)
    · intro c hc; rw [nR277] at hc; exact absurd hc (Nat.not_lt_zero c)
    · intro c hc; rw [nH277] at hc; exact absurd hc (Nat.not_lt_zero c)
    · intro c hc; rw [nP277] at hc; exact absurd hc (Nat.not_lt_zero c)
    · intro j hj
      rw [nF277]
      match j, hj with
      | 0, _ => exact v_216_0
      | 1, _ => exact v_216_1
      | 2, _ => exact v_216_2
      | 3, _ => exact v_216_3
  refine ⟨ly, ma276, ma277, mr1, mr114, ?_, ?_, ?_, ⟨0, by decide, v_227_4, v_275_4, fun i hi => absurd hi (Nat.not_lt_zero i)⟩, v_232_3.trans v_275_5.symm, v_232_4.trans v_275_6.symm⟩
  · rw [nC277]; exact Nat.zero_le _
  · rw [nT277]; exact Nat.zero_le _
  · intro t ht; rw [nT276] at ht; exact absurd ht (Nat.not_lt_zero t)
theorem it_ini : ini Rel := by
  obtain ⟨u1, e1, h1⟩ := it_1t it_all
  have h1 := Bool.and_eq_true_iff.mp h1
  have h2 := Bool.and_eq_true_iff.mp h1.2
  obtain ⟨u2, e2, h3⟩ := it_1t h2.2
  exact ⟨u1, u2, e1, Nat.eq_of_beq_eq_true h1.1, Nat.le_of_ble_eq_true h2.1, e2, it_rel h3⟩
