/-! String.length and charAt called by Tape (by wip/whole/mk_sp.py) -/
theorem sp_len {p : Program} {l : Launch} {e : Env} {R : Room} {s : State} {m : MethodId} {args : Array Value} {below : List Frame} {meth : Method} {c0 : Code} {Q : State → Prop} {cc : ByteArray} {nL : Nat} {D : va_G} {dA : Nat → ClassId} {base : Nat} {aK aV : Nat → Nat} {len0 tot0 : Nat}
    (X : sm_cx p R s m args c0 "WhatWasNearly$Tape" cc nL D dA base (jd_SP base aK aV) len0) (hR : 2 + 1 ≤ R.frames ∧ 40 * (2 + 1) ≤ R.locals) {pc i : Nat} (hi : i < 22)  {rest : List Value} (hrest : (rest.map fun v => v.category).sum ≤ 8) (hdg : decode cc pc = .ok (.invokevirtual 60, 3))
    {u : sm_M} {H : Heap} {locs : List Loc} {cells slots : Nat} {la : Array Slot} (hla : la.size = nL) (hZ : sm_Z D dA base s len0 tot0 u H locs cells slots) (hf : cells ≤ R.cells ∧ slots ≤ R.slots)
    (kk : W p l e R s m args below meth c0 H locs cells slots Q (F0 m (pc + 3) la (.int (Int32.ofNat (st_len i)) :: rest))) : W p l e R s m args below meth c0 H locs cells slots Q (F0 m pc la (.ref (aK i) :: rest)) := by
  obtain ⟨hx, hb, hml, hown, hts, hNW, hK, hS, hsz, -, -⟩ := X
  have hH : ∀ q, q < base → H[q]? = s.heap[q]? := fun q hq => hZ.2.1.2.1 q (by omega) (fun z => absurd z (Nat.not_le.mpr hq))
  obtain ⟨cell, g1, g2, g3, g4⟩ := (hS.1 i hi).1.1
  have g4 : aK i < base := Nat.not_le.mp g4
  refine vp_callSi (W.runV (As := []) (rest := rest) (bytes := prog_17_method_54_code) (maxL := 1) (ret := (some .int)) (C := "java/lang/String") ⟨hx, hb, hml, hown, hts⟩ (jc_len l base aK aV i hi) ⟨callB_of 0 hts (jd_gi (sm_w_in (h := 3093) rfl)) rfl rfl rfl (hts _ (List.mem_filter.mpr ⟨(sm_w_in (h := 1016) rfl), rfl⟩)) (hts _ (List.mem_filter.mpr ⟨(sm_w_in (h := 3090) rfl), rfl⟩)) (by decide +kernel) ⟨hR.1, Nat.le_trans (by decide) hR.2⟩, (hts _ (List.mem_filter.mpr ⟨(sm_w_in (h := 3091) rfl), rfl⟩)), (hts _ (List.mem_filter.mpr ⟨(sm_w_in (h := 3092) rfl), rfl⟩))⟩ ⟨jd_bl0, ⟨cell, (hH _ g4).trans g1, g2, g3⟩, fun U hU hW => ⟨rfl, jd_st base aK aV s U hS hW (fun q hq => by rw [hU]; exact hH q hq)⟩⟩ rfl rfl hla rfl (lv_room hrest) hdg hf) (fun r hr0 => ?_)
  have hr0 : r = Int32.ofNat (st_len i) := hr0
  subst hr0
  exact kk
theorem sp_cha {p : Program} {l : Launch} {e : Env} {R : Room} {s : State} {m : MethodId} {args : Array Value} {below : List Frame} {meth : Method} {c0 : Code} {Q : State → Prop} {cc : ByteArray} {nL : Nat} {D : va_G} {dA : Nat → ClassId} {base : Nat} {aK aV : Nat → Nat} {len0 tot0 : Nat}
    (X : sm_cx p R s m args c0 "WhatWasNearly$Tape" cc nL D dA base (jd_SP base aK aV) len0) (hR : 4 + 1 ≤ R.frames ∧ 40 * (4 + 1) ≤ R.locals) {pc i : Nat} (hi : i < 22) {j : Nat} (hj : j < st_len i) {x : Int32} (hjx : Int32.ofNat j = x) {rest : List Value} (hrest : (rest.map fun v => v.category).sum ≤ 8) (hdg : decode cc pc = .ok (.invokevirtual 65, 3))
    {u : sm_M} {H : Heap} {locs : List Loc} {cells slots : Nat} {la : Array Slot} (hla : la.size = nL) (hZ : sm_Z D dA base s len0 tot0 u H locs cells slots) (hf : cells ≤ R.cells ∧ slots ≤ R.slots)
    (kk : W p l e R s m args below meth c0 H locs cells slots Q (F0 m (pc + 3) la (.int (st_byt i j) :: rest))) : W p l e R s m args below meth c0 H locs cells slots Q (F0 m pc la (.int x :: .ref (aK i) :: rest)) := by
  subst hjx
  obtain ⟨hx, hb, hml, hown, hts, hNW, hK, hS, hsz, -, -⟩ := X
  have hH : ∀ q, q < base → H[q]? = s.heap[q]? := fun q hq => hZ.2.1.2.1 q (by omega) (fun z => absurd z (Nat.not_le.mpr hq))
  obtain ⟨cell, g1, g2, g3, g4⟩ := (hS.1 i hi).1.1
  have g4 : aK i < base := Nat.not_le.mp g4
  refine vp_callSi (W.runV (As := [.int (Int32.ofNat j)]) (rest := rest) (bytes := prog_17_method_56_code) (maxL := 2) (ret := (some .char)) (C := "java/lang/String") ⟨hx, hb, hml, hown, hts⟩ (jc_cha l base aK aV i hi j hj) ⟨callB_of 1 hts (jd_gi (sm_w_in (h := 3103) rfl)) rfl rfl rfl (hts _ (List.mem_filter.mpr ⟨(sm_w_in (h := 1016) rfl), rfl⟩)) (hts _ (List.mem_filter.mpr ⟨(sm_w_in (h := 3100) rfl), rfl⟩)) (by decide +kernel) ⟨hR.1, Nat.le_trans (by decide) hR.2⟩, (hts _ (List.mem_filter.mpr ⟨(sm_w_in (h := 3101) rfl), rfl⟩)), (hts _ (List.mem_filter.mpr ⟨(sm_w_in (h := 3102) rfl), rfl⟩))⟩ ⟨jd_bl0, ⟨cell, (hH _ g4).trans g1, g2, g3⟩, fun U hU hW => ⟨rfl, jd_st base aK aV s U hS hW (fun q hq => by rw [hU]; exact hH q hq)⟩⟩ rfl rfl hla rfl (lv_room hrest) hdg hf) (fun r hr0 => ?_)
  have hr0 : r = st_byt i j := hr0
  subst hr0
  exact kk
