/-! P_spells: its loop (by wip/whole/mk_sp2.py) -/
theorem jz_0 : decode prog_11_method_12_code 0 = .ok (.iload_n 2, 1) := by decide +kernel
theorem jz_1 : decode prog_11_method_12_code 1 = .ok (.iload_n 1, 1) := by decide +kernel
theorem jz_2 : decode prog_11_method_12_code 2 = .ok (.isub, 1) := by decide +kernel
theorem jz_3 : decode prog_11_method_12_code 3 = .ok (.aload_n 3, 1) := by decide +kernel
theorem jz_4 : decode prog_11_method_12_code 4 = .ok (.invokevirtual 60, 3) := by decide +kernel
theorem jz_7 : decode prog_11_method_12_code 7 = .ok (.if_icmp .eq 5, 3) := by decide +kernel
theorem jz_10 : decode prog_11_method_12_code 10 = .ok (.iconst 0, 1) := by decide +kernel
theorem jz_11 : decode prog_11_method_12_code 11 = .ok (.ireturn, 1) := by decide +kernel
theorem jz_12 : decode prog_11_method_12_code 12 = .ok (.iconst 0, 1) := by decide +kernel
theorem jz_13 : decode prog_11_method_12_code 13 = .ok (.istore 4, 2) := by decide +kernel
theorem jz_15 : decode prog_11_method_12_code 15 = .ok (.iload 4, 2) := by decide +kernel
theorem jz_17 : decode prog_11_method_12_code 17 = .ok (.aload_n 3, 1) := by decide +kernel
theorem jz_18 : decode prog_11_method_12_code 18 = .ok (.invokevirtual 60, 3) := by decide +kernel
theorem jz_21 : decode prog_11_method_12_code 21 = .ok (.if_icmp .ge 29, 3) := by decide +kernel
theorem jz_24 : decode prog_11_method_12_code 24 = .ok (.aload_n 0, 1) := by decide +kernel
theorem jz_25 : decode prog_11_method_12_code 25 = .ok (.getfield 9, 3) := by decide +kernel
theorem jz_28 : decode prog_11_method_12_code 28 = .ok (.iload_n 1, 1) := by decide +kernel
theorem jz_29 : decode prog_11_method_12_code 29 = .ok (.iload 4, 2) := by decide +kernel
theorem jz_31 : decode prog_11_method_12_code 31 = .ok (.iadd, 1) := by decide +kernel
theorem jz_32 : decode prog_11_method_12_code 32 = .ok (.iaload, 1) := by decide +kernel
theorem jz_33 : decode prog_11_method_12_code 33 = .ok (.aload_n 3, 1) := by decide +kernel
theorem jz_34 : decode prog_11_method_12_code 34 = .ok (.iload 4, 2) := by decide +kernel
theorem jz_36 : decode prog_11_method_12_code 36 = .ok (.invokevirtual 65, 3) := by decide +kernel
theorem jz_39 : decode prog_11_method_12_code 39 = .ok (.if_icmp .eq 5, 3) := by decide +kernel
theorem jz_42 : decode prog_11_method_12_code 42 = .ok (.iconst 0, 1) := by decide +kernel
theorem jz_43 : decode prog_11_method_12_code 43 = .ok (.ireturn, 1) := by decide +kernel
theorem jz_44 : decode prog_11_method_12_code 44 = .ok (.iinc 4 1, 3) := by decide +kernel
theorem jz_47 : decode prog_11_method_12_code 47 = .ok (.goto (-32), 3) := by decide +kernel
theorem jz_50 : decode prog_11_method_12_code 50 = .ok (.iconst 1, 1) := by decide +kernel
theorem jz_51 : decode prog_11_method_12_code 51 = .ok (.ireturn, 1) := by decide +kernel
theorem sp_nn {x : Int32} (h : ¬ x < 0) : Int32.ofNat x.toNatClampNeg = x := by
  have h0 : 0 ≤ x.toInt := by
    rw [Int32.lt_iff_toInt_lt] at h
    simpa using h
  apply Int32.toInt_inj.mp
  have hb := x.toInt_lt
  have e : x.toNatClampNeg = x.toInt.toNat := rfl
  rw [e, Int32.toInt_ofNat_of_lt (by omega)]
  omega
theorem sp_loop {p : Program} {l : Launch} {e : Env} {R : Room} {s : State} {m : MethodId} {args : Array Value} {below : List Frame} {meth : Method} {c0 : Code} {D : va_G} {dA : Nat → ClassId} {base : Nat} {aK aV : Nat → Nat} {len0 tot0 : Nat} {C : Nat → List Value → sm_M → sm_R} (X : sm_cx p R s m args c0 "WhatWasNearly$Tape" prog_11_method_12_code 5 D dA base (jd_SP base aK aV) len0) (hlk : meth.locks = false) (hr : meth.sig.returnType = some .boolean) (hR : 5 ≤ R.frames ∧ 200 ≤ R.locals)
    (a0 : Nat) (v1 v2 : Int32) (w3 : Nat) (u : sm_M) (o : Option Value × sm_M) (hroom : u.1.length ≤ len0 + R.cells ∧ sm_tot u ≤ tot0 + R.slots) :
    ∀ (n : Nat) (v4 : Int32) (la : Array Slot) (H : Heap) (locs : List Loc) (cells slots : Nat), sm_run C c_P_spells n 11 [some (.ref a0), some (.int v1), some (.int v2), some (.retAddr w3), some (.int v4)] [] u = some o → lv_has la 5 [(4, .int v4), (0, .ref (base + a0)), (1, .int v1), (2, .int v2), (3, .ref (aK w3))] → sm_Z D dA base s len0 tot0 u H locs cells slots →
      W p l e R s m args below meth c0 H locs cells slots (MQ below (sm_Qc D dA base o.1 o.2) args s (o.2.1.length - len0) (sm_tot o.2 - tot0) (fun q => base ≤ q)) (F0 m 15 la []) := by
  intro n
  induction n using Nat.strongRecOn with
  | ind n ih =>
  intro v4 la H locs cells slots h hl hZ
  cases n with
  | zero => cases h
  | succ n =>
  have X0 := X
  obtain ⟨hx, hb, hml, hown, hts, hNW, hK, hS, hsz, -, -⟩ := X0
  have hf : cells ≤ R.cells ∧ slots ≤ R.slots := by
    have h1 := hZ.2.2.1
    have h2 := hZ.2.2.2
    omega
  rw [q_P_spells_11] at h
  obtain ⟨hw, h⟩ := sv_if h
  refine lv_iload hx hb jz_15 (lv_at hl 0 rfl) ?_
  refine lv_aload_n hx hb jz_17 rfl (lv_at hl 4 rfl) ?_
  refine sp_len X ⟨by omega, by omega⟩ hw (Nat.le_of_ble_eq_true rfl) jz_18 hl.1 hZ hf ?_
  refine lv_icmp_ge (tgt := 50) hx hb jz_21 (by decide) (fun hc => ?_) (fun hc => ?_)
  · rw [if_pos (show Int32.ofNat (sm_tx w3).length ≤ v4 from hc)] at h
    cases n with
    | zero => cases h
    | succ n =>
    rw [q_P_spells_29] at h
    obtain ⟨-, h⟩ := sv_if h
    refine lv_iconst (v := 1) hx hb jz_50 rfl ?_
    exact sm_end (sA := aK) (rv := some (.int 1)) X hlk hr jz_51 (Option.some.inj h) (Or.inr (Or.inl ⟨rfl, rfl, 1, rfl, Or.inr rfl⟩)) hZ
  · rw [if_neg (show ¬ Int32.ofNat (sm_tx w3).length ≤ v4 from hc)] at h
    obtain ⟨ht, h⟩ := sv_if h
    obtain ⟨q, hq, h⟩ := sv_rr h
    obtain ⟨hin, h⟩ := sv_if h
    obtain ⟨⟨-, hin2⟩, h⟩ := sv_if h
    refine lv_aload_n hx hb jz_24 rfl (lv_at hl 1 rfl) ?_
    refine sm_ok_get (h0 := 1195) (a := 105) (b := 0) (v := .ref (base + q)) X jz_25 (by decide) (by decide +kernel) (Or.inl rfl) ht (by unfold sm_fv; rw [hq]; rfl) hZ ?_
    refine lv_iload_n hx hb jz_28 rfl (lv_at hl 2 rfl) ?_
    refine lv_iload hx hb jz_29 (lv_at hl 0 rfl) ?_
    refine lv_iadd hx hb jz_31 ?_
    have ha := sm_wl_at (dA := dA) (base := base) (sm_tg_lt hin.1 (by decide))
    rw [sm_cell_i hin.1 (Or.inl rfl)] at ha
    refine va_iald hx hb hK hZ.1 q 0 ha rfl hin.2 jz_32 ?_
    refine lv_aload_n hx hb jz_33 rfl (lv_at hl 4 rfl) ?_
    refine lv_iload hx hb jz_34 (lv_at hl 0 rfl) ?_
    have h0 : ¬ v4 < 0 := fun z => hin2 (Or.inl z)
    have hj : v4.toNatClampNeg < st_len w3 := Nat.not_le.mp fun z => hin2 (Or.inr z)
    refine sp_cha X ⟨by omega, by omega⟩ hw hj (sp_nn h0) (Nat.le_of_ble_eq_true rfl) jz_36 hl.1 hZ hf ?_
    refine lv_icmp_eq (tgt := 44) hx hb jz_39 (by decide) (fun hc => ?_) (fun hc => ?_)
    · rw [if_pos (show sm_I u q (v1 + v4).toNatClampNeg = Int32.ofNat ((sm_tx w3).getD v4.toNatClampNeg 0) from hc)] at h
      cases n with
      | zero => cases h
      | succ n =>
      rw [q_P_spells_27] at h
      refine lv_iinc (k := 0) hx hb jz_44 hl rfl rfl (by decide) rfl (fun la' hl' => ?_)
      refine lv_goto (tgt := 15) hx hb jz_47 (by decide) ?_
      exact ih n (by omega) _ la' H locs cells slots h hl' hZ
    · rw [if_neg (show ¬ sm_I u q (v1 + v4).toNatClampNeg = Int32.ofNat ((sm_tx w3).getD v4.toNatClampNeg 0) from hc)] at h
      obtain ⟨-, h⟩ := sv_if h
      refine lv_iconst (v := 0) hx hb jz_42 rfl ?_
      exact sm_end (sA := aK) (rv := some (.int 0)) X hlk hr jz_43 (Option.some.inj h) (Or.inr (Or.inl ⟨rfl, rfl, 0, rfl, Or.inl rfl⟩)) hZ

