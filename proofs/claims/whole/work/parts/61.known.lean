/-! the classes and array classes of the start -/
theorem kn_arr {args : Array Value} {s : State} {ty : FieldType} (h : (Cond.arrayClass ty).before args s = true) (ho : ∀ C, ty ≠ .object C) : ∃ cA : ClassId, ArrOfT s cA ty ∧ va_RA s cA ty := by
  obtain ⟨cA, kA, comp, h1, h2, h3⟩ := Cond.arrayClass_spec h
  refine ⟨cA, fun n z => ⟨(fun k h => by cases h), kA, h2, comp, h3⟩, ?_⟩
  cases ty with
  | object C => exact absurd rfl (ho C)
  | _ => exact h1
theorem kn_over {args : Array Value} {s : State} {C : String} (h : (Cond.arrayOver (.object C)).before args s = true) : ∃ cA : ClassId, ArrOfT s cA (.object C) ∧ va_RA s cA (.object C) := by
  obtain ⟨comp, c, k, h1, h2, h3, h4, h5⟩ := Cond.arrayOver_spec h
  exact ⟨c, fun n z => ⟨(fun k h => by cases h), k, h3, comp, h4⟩, k, comp, h3, h4, h1, h5⟩
theorem kn_all {args : Array Value} {s : State} (hts : ∀ w ∈ lw_tbl, w.before args s = true) : ∃ (D : va_G) (dA : Nat → ClassId), va_K D sm_classes (sm_tys dA) s := by
  have hg : ∀ a, 100 ≤ a ∧ a < 113 → ∃ (cC : ClassId) (iS : Nat → Nat), u_Kn s (sm_C a) (sm_T a) (sm_nf a) cC iS := fun a ha => u_known (n := sm_nf a) hts (sm_cls_of ha).2.1 (hts _ (sm_inst ha).1)
  have hc : ∀ k, ∃ (cC : ClassId) (iS : Nat → Nat), k < 13 → u_Kn s (sm_C (100 + k)) (sm_T (100 + k)) (sm_nf (100 + k)) cC iS := by
    intro k
    by_cases hk : k < 13
    · obtain ⟨cC, iS, h⟩ := hg (100 + k) ⟨by omega, by omega⟩
      exact ⟨cC, iS, fun _ => h⟩
    · exact ⟨0, fun _ => 0, fun h => absurd h hk⟩
  obtain ⟨a1, p1⟩ := kn_arr (hts _ gw_ac_int) (fun C h => by cases h)
  obtain ⟨a2, p2⟩ := kn_arr (hts _ gw_ac_boolean) (fun C h => by cases h)
  obtain ⟨a3, p3⟩ := kn_arr (hts _ gw_ac_long) (fun C h => by cases h)
  obtain ⟨a4, p4⟩ := kn_over (hts _ gw_ao_S)
  obtain ⟨a5, p5⟩ := kn_over (hts _ gw_ao_N)
  obtain ⟨a6, p6⟩ := kn_over (hts _ gw_ao_X)
  refine ⟨(fun k => Classical.choose (hc k), fun k => Classical.choose (Classical.choose_spec (hc k))), fun t => if t = 1 then a1 else if t = 2 then a2 else if t = 3 then a3 else if t = 4 then a4 else if t = 5 then a5 else a6, ?_, ?_⟩
  · intro k q hq
    have hk : k < 13 := (List.getElem?_eq_some_iff.mp hq).1
    have h1 := Classical.choose_spec (Classical.choose_spec (hc k)) hk
    have h2 := (sm_cls_of (a := 100 + k) ⟨by omega, by omega⟩).1
    rw [show 100 + k - 100 = k by omega, hq] at h2
    cases h2
    exact h1
  · intro k q hq
    match k, hq with
    | 0, hq => cases hq; exact p1
    | 1, hq => cases hq; exact p2
    | 2, hq => cases hq; exact p3
    | 3, hq => cases hq; exact p4
    | 4, hq => cases hq; exact p5
    | 5, hq => cases hq; exact p6
    | k + 6, hq => simp [sm_tys] at hq
theorem kn_NW {args : Array Value} {s : State} (hts : ∀ w ∈ lw_tbl, w.before args s = true) : sm_NW s := by
  intro w hw hx
  have h := hts w hw
  unfold sm_nx at hx
  split at hx
  · exact va_Nw.of rfl h
  · exact va_Nw.of rfl h
  · exact va_AO.of h
  · cases hx
