/-! the texts of Tape.word: where they lie (by wip/whole/mk_str.py) -/
def st_ix : List Nat := [69, 75, 77, 79, 81, 83, 85, 87, 89, 91, 93, 95, 97, 99, 101, 103, 105, 107, 109, 111, 113, 115]
def st_tm (i : Nat) : Term := .string R_P (st_ix.getD i 0)
def st_len (i : Nat) : Nat := (sm_tx i).length
def st_byt (i j : Nat) : Int32 := Int32.ofNat ((sm_tx i).getD j 0)
def st_one (base : Nat) (U : State) (i aK aV : Nat) : Prop := (va_O "java/lang/String" aK (fun q => base ≤ q) U U.heap ∧ va_OF "java/lang/String" "coder" "B" (.int 0) aK (fun q => base ≤ q) U U.heap ∧ va_OF "java/lang/String" "value" "[B" (.ref aV) aK (fun q => base ≤ q) U U.heap ∧ va_T .byte aV (st_len i) (fun j => .int (st_byt i j)) (fun q => base ≤ q) U U.heap) ∧ vk_R R_P (st_ix.getD i 0) (sm_str.getD i "") aK U
def st_SP (base : Nat) (aK aV : Nat → Nat) (U : State) : Prop := ∀ i, i < 22 → st_one base U i (aK i) (aV i)
theorem st_st (base : Nat) (aK aV : Nat → Nat) : sm_st base (st_SP base aK aV) := by
  intro s U h hW hq i hi
  obtain ⟨⟨h1, h2, h3, h4⟩, h5⟩ := h i hi
  have hk : ∀ a : Nat, a < s.heap.size → ¬ base ≤ a → U.heap[a]? = s.heap[a]? := fun a _ ha => hq a (by omega)
  exact ⟨⟨(va_O.moved hW.alike h1).kept hk, (va_OF.moved hW.alike h2).kept hk, (va_OF.moved hW.alike h3).kept hk, (va_T.moved hW.alike h4).kept hk⟩, h5.warm hW⟩
theorem st_inj : (List.range 22).all (fun i => (List.range 22).all (fun j => decide (sm_str.getD i "" = sm_str.getD j "" → i = j))) = true := by decide +kernel
theorem st_chk : lw_tbl.all (fun w => match w with
    | .stringRef _ x t => (List.range 22).any (fun i => decide (st_ix.getD i 0 = x) && decide (sm_str.getD i "" = t))
    | _ => true) = true := by decide +kernel
theorem st_sg (base : Nat) (aK aV : Nat → Nat) : sm_sg aK (st_SP base aK aV) := by
  intro U j x h t hS hj hw
  have hj22 : j < 22 := (List.getElem?_eq_some_iff.mp hj).1
  have hjt : sm_str.getD j "" = t := by rw [List.getD_eq_getElem?_getD, hj]; rfl
  have h1 := List.all_eq_true.mp st_chk _ (sm_w_in hw)
  obtain ⟨i, hi, h2⟩ := List.any_eq_true.mp h1
  simp only [Bool.and_eq_true, decide_eq_true_eq] at h2
  have hi := List.mem_range.mp hi
  have h3 := List.all_eq_true.mp (List.all_eq_true.mp st_inj i (List.mem_range.mpr hi)) j (List.mem_range.mpr hj22)
  simp only [decide_eq_true_eq] at h3
  have hij := h3 (by rw [h2.2, hjt])
  subst hij
  have h4 := (hS i hi).2
  rw [h2.1, h2.2] at h4
  exact h4
theorem st_a1 : ∀ i, i < 22 → Cond.exactly (st_tm i) "java/lang/String" ∈ flatC (Jvm.Cond.and given_1 narrow_1) := by decide +kernel
theorem st_a2 : ∀ i, i < 22 → Cond.eq (.field (st_tm i) "java/lang/String" "coder" "B") (.int 0) ∈ flatC (Jvm.Cond.and given_1 narrow_1) := by decide +kernel
theorem st_a3 : ∀ i, i < 22 → Cond.arrayOf (.field (st_tm i) "java/lang/String" "value" "[B") .byte ∈ flatC (Jvm.Cond.and given_1 narrow_1) := by decide +kernel
theorem st_a4 : ∀ i, i < 22 → Cond.eq (.length (.field (st_tm i) "java/lang/String" "value" "[B")) (.int (Int32.ofNat (st_len i))) ∈ flatC (Jvm.Cond.and given_1 narrow_1) := by decide +kernel
theorem st_a5 : ∀ i, i < 22 → ∀ j, j < st_len i → Cond.eq (.elem (.field (st_tm i) "java/lang/String" "value" "[B") (.int (Int32.ofNat j))) (.int (st_byt i j)) ∈ flatC (Jvm.Cond.and given_1 narrow_1) := by decide +kernel
theorem st_a6 : ∀ i, i < 22 → Cond.stringRef R_P (st_ix.getD i 0) (sm_str.getD i "") ∈ lw_tbl := by decide +kernel
theorem st_l : ∀ i, i < 22 → st_len i < 2 ^ 31 := by decide
theorem st_of {args : Array Value} {s : State} (hgv : (Jvm.Cond.and given_1 narrow_1).before args s = true) (hts : ∀ w ∈ lw_tbl, w.before args s = true) : ∃ aK aV : Nat → Nat, st_SP s.heap.size aK aV s := by
  have hs := flat_of_before _ hgv
  have hA : ∀ a : Nat, a < s.heap.size → ¬ (fun q : Nat => s.heap.size ≤ q) a := fun a h => Nat.not_le.mpr h
  have h0 : ∀ i : Nat, ∃ q : Nat × Nat, i < 22 → st_one s.heap.size s i q.1 q.2 := by
    intro i
    by_cases hi : i < 22
    · obtain ⟨a, c, cA, kA, q1, q2, q3, q4, q5, q6, -⟩ := Cond.exactly_spec (args := args) (first := s) (o := none) (s := s) (idx := []) (t := st_tm i) (cls := "java/lang/String") (hs _ (st_a1 i hi))
      obtain ⟨t, ht, hT⟩ := va_Tof (f := fun j => .int (st_byt i j)) (A := fun q : Nat => s.heap.size ≤ q) (st_l i hi) (hs _ (st_a3 i hi)) (va_eqt (hs _ (st_a4 i hi))) (fun j hj => va_eqt (hs _ (st_a5 i hi j hj))) hA
      exact ⟨(a, t), fun _ => ⟨⟨⟨cA, q3, q5, by rw [q6]; exact q2, hA a (Array.getElem?_eq_some_iff.mp q3).1⟩, vk_OFof q1 (va_eqt (hs _ (st_a2 i hi))) hA, vk_OFof q1 ht hA, hT⟩, vk_R.of (hts _ (st_a6 i hi)) q1⟩⟩
    · exact ⟨(0, 0), fun h => absurd h hi⟩
  obtain ⟨ad, had⟩ := Classical.axiomOfChoice h0
  exact ⟨fun i => (ad i).1, fun i => (ad i).2, fun i hi => had i hi⟩
