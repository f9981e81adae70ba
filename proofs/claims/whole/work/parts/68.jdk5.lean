/-! StringLatin1.charAt, String.charAt: contracts (by wip/whole/mk_jdk.py) -/
theorem jf_ch : ∀ i, i < 22 → ∀ j, j < st_len i → (¬ Int32.ofNat j < 0 ∧ Int32.ofNat j < Int32.ofNat (st_len i) ∧ (Int32.ofNat j).toNatClampNeg = j) ∧ ((st_byt i j &&& 255).toUInt32 % 65536).toInt32 = st_byt i j ∧ (st_byt i j).toUInt32.toUInt16.toUInt32.toInt32 = st_byt i j := by decide +kernel
def y_lch : MethodName := ⟨"java/lang/StringLatin1", "charAt", "([BI)C"⟩
theorem je_lch_0 : decode prog_18_method_2_code 0 = .ok (.iload_n 1, 1) := by decide +kernel
theorem je_lch_1 : decode prog_18_method_2_code 1 = .ok (.aload_n 0, 1) := by decide +kernel
theorem je_lch_2 : decode prog_18_method_2_code 2 = .ok (.arraylength, 1) := by decide +kernel
theorem je_lch_3 : decode prog_18_method_2_code 3 = .ok (.invokestatic 9, 3) := by decide +kernel
theorem je_lch_6 : decode prog_18_method_2_code 6 = .ok (.aload_n 0, 1) := by decide +kernel
theorem je_lch_7 : decode prog_18_method_2_code 7 = .ok (.iload_n 1, 1) := by decide +kernel
theorem je_lch_8 : decode prog_18_method_2_code 8 = .ok (.baload, 1) := by decide +kernel
theorem je_lch_9 : decode prog_18_method_2_code 9 = .ok (.sipush 255, 3) := by decide +kernel
theorem je_lch_12 : decode prog_18_method_2_code 12 = .ok (.iand, 1) := by decide +kernel
theorem je_lch_13 : decode prog_18_method_2_code 13 = .ok (.i2c, 1) := by decide +kernel
theorem je_lch_14 : decode prog_18_method_2_code 14 = .ok (.ireturn, 1) := by decide +kernel
theorem jc_lch (l : Launch) (base : Nat) (aK aV : Nat → Nat) (i : Nat) (hi : i < 22) (j : Nat) (hj : j < st_len i) : Met l y_lch (jw y_lch prog_18_method_2_code 2 (some .char)) (sm_rm 3 0 0) (va_Pc [.ref (aV i), .int (Int32.ofNat j)] (fun U => jd_SP base aK aV U)) (vp_Si (fun r => r = st_byt i j)) 0 0 (fun _ => False) := by
  refine Met.ofW (cc := prog_18_method_2_code) (maxL := 2) (ret := (some .char)) (by decide +kernel) rfl ?_
  intro p e s m args below meth c s₁ B hml hv
  obtain ⟨rfl, hJ⟩ := hv
  have hx := B.exec
  have hb := B.bytes
  have hr := B.returns
  have hts0 := atoms_spec (ws := jw y_lch prog_18_method_2_code 2 (some .char)) B.pre
  have hts : ∀ w ∈ sm_gt, w.before _ s = true := fun w hw => hts0 w (List.mem_cons_of_mem _ hw)
  have hown : s.vm.findClass "java/lang/StringLatin1" = some m.cls := findClass_of_methodNamed B.named
  have hlocks := B.notSynchronized
  have hS : va_S (fun q => base ≤ q) s.heap s.heap [] := va_S.rf
  have hl := lv_entry ([.ref (aV i), .int (Int32.ofNat j)]) (n := 2) (Nat.le_of_ble_eq_true rfl)
  rw [lg_entry_eq]
  generalize (lg_sl ([.ref (aV i), .int (Int32.ofNat j)]) ++ List.replicate (2 - (lg_sl ([.ref (aV i), .int (Int32.ofNat j)])).length) Slot.unset).toArray = ls at hl ⊢
  have hl : lv_has ls 2 [(0, .ref (aV i)), (1, .int (Int32.ofNat j))] := hl
  obtain ⟨hS1, hZ1, hZ2⟩ := hJ
  obtain ⟨⟨h0, h1, h2⟩, h3, h4⟩ := jf_ch i hi j hj
  refine lv_iload_n hx hb je_lch_0 rfl (lv_at hl 1 rfl) ?_
  refine lv_aload_n hx hb je_lch_1 rfl (lv_at hl 0 rfl) ?_
  refine va_tlen hx hb (hS1 i hi).1.2.2.2 hS rfl je_lch_2 ?_
  refine va_csv (W.runS (As := [.int (Int32.ofNat j), .int (Int32.ofNat (st_len i))]) (rest := []) (bytes := prog_17_method_155_code) (maxL := 2) (ret := none) ⟨hx, hb, hml, hown, hts⟩ (jc_sci l base aK aV (Int32.ofNat j) (Int32.ofNat (st_len i)) h0 h1) ⟨callB_of 2 hts (jd_gi (sm_w_in (h := 3113) rfl)) rfl rfl rfl (hts _ (List.mem_filter.mpr ⟨(sm_w_in (h := 1016) rfl), rfl⟩)) (hts _ (List.mem_filter.mpr ⟨(sm_w_in (h := 3111) rfl), rfl⟩)) (by decide +kernel) ⟨by decide, by decide⟩, (hts _ (List.mem_filter.mpr ⟨(sm_w_in (h := 3112) rfl), rfl⟩))⟩ ⟨jd_bl0, fun U hU hW => ⟨rfl, jd_st base aK aV s U ⟨hS1, hZ1, hZ2⟩ hW (fun q _ => by rw [hU])⟩⟩ rfl rfl hl.1 rfl (lv_room (Nat.le_of_ble_eq_true rfl)) je_lch_3 ⟨by decide, by decide⟩) (fun _ => ?_)
  refine lv_aload_n hx hb je_lch_6 rfl (lv_at hl 0 rfl) ?_
  refine lv_iload_n hx hb je_lch_7 rfl (lv_at hl 1 rfl) ?_
  refine va_tb (v := .int (st_byt i j)) hx hb (hS1 i hi).1.2.2.2 hS (by intro z; rcases z with z | z; exact h0 z; rw [h2] at z; omega) (by rw [h2]) je_lch_8 ?_
  refine lv_sipush (v := 255) hx hb je_lch_9 rfl ?_
  refine lv_iand hx hb je_lch_12 ?_
  refine lv_i2c (v := st_byt i j) hx hb je_lch_13 h3 ?_
  exact W.zret hx hb hr (by show Value.int _ = _; rw [h4]) (fun t ht hW => ⟨_, rfl, rfl, ht⟩) (fun q hq => by cases hq) je_lch_14 hlocks
def y_cha : MethodName := ⟨"java/lang/String", "charAt", "(I)C"⟩
theorem je_cha_0 : decode prog_17_method_56_code 0 = .ok (.aload_n 0, 1) := by decide +kernel
theorem je_cha_1 : decode prog_17_method_56_code 1 = .ok (.invokevirtual 492, 3) := by decide +kernel
theorem je_cha_4 : decode prog_17_method_56_code 4 = .ok (.ifCond .eq 12, 3) := by decide +kernel
theorem je_cha_7 : decode prog_17_method_56_code 7 = .ok (.aload_n 0, 1) := by decide +kernel
theorem je_cha_8 : decode prog_17_method_56_code 8 = .ok (.getfield 9, 3) := by decide +kernel
theorem je_cha_11 : decode prog_17_method_56_code 11 = .ok (.iload_n 1, 1) := by decide +kernel
theorem je_cha_12 : decode prog_17_method_56_code 12 = .ok (.invokestatic 495, 3) := by decide +kernel
theorem je_cha_15 : decode prog_17_method_56_code 15 = .ok (.ireturn, 1) := by decide +kernel
theorem jc_cha (l : Launch) (base : Nat) (aK aV : Nat → Nat) (i : Nat) (hi : i < 22) (j : Nat) (hj : j < st_len i) : Met l y_cha (jw y_cha prog_17_method_56_code 2 (some .char)) (sm_rm 4 0 0) (va_Pc [.ref (aK i), .int (Int32.ofNat j)] (fun U => jd_SP base aK aV U)) (vp_Si (fun r => r = st_byt i j)) 0 0 (fun _ => False) := by
  refine Met.ofW (cc := prog_17_method_56_code) (maxL := 2) (ret := (some .char)) (by decide +kernel) rfl ?_
  intro p e s m args below meth c s₁ B hml hv
  obtain ⟨rfl, hJ⟩ := hv
  have hx := B.exec
  have hb := B.bytes
  have hr := B.returns
  have hts0 := atoms_spec (ws := jw y_cha prog_17_method_56_code 2 (some .char)) B.pre
  have hts : ∀ w ∈ sm_gt, w.before _ s = true := fun w hw => hts0 w (List.mem_cons_of_mem _ hw)
  have hown : s.vm.findClass "java/lang/String" = some m.cls := findClass_of_methodNamed B.named
  have hlocks := B.notSynchronized
  have hS : va_S (fun q => base ≤ q) s.heap s.heap [] := va_S.rf
  have hl := lv_entry ([.ref (aK i), .int (Int32.ofNat j)]) (n := 2) (Nat.le_of_ble_eq_true rfl)
  rw [lg_entry_eq]
  generalize (lg_sl ([.ref (aK i), .int (Int32.ofNat j)]) ++ List.replicate (2 - (lg_sl ([.ref (aK i), .int (Int32.ofNat j)])).length) Slot.unset).toArray = ls at hl ⊢
  have hl : lv_has ls 2 [(0, .ref (aK i)), (1, .int (Int32.ofNat j))] := hl
  obtain ⟨hS1, hZ1, hZ2⟩ := hJ
  obtain ⟨⟨h0, h1, h2⟩, h3, h4⟩ := jf_ch i hi j hj
  refine lv_aload_n hx hb je_cha_0 rfl (lv_at hl 0 rfl) ?_
  refine vp_callSi (W.runV (As := []) (rest := []) (bytes := prog_17_method_154_code) (maxL := 1) (ret := (some .boolean)) (C := "java/lang/String") ⟨hx, hb, hml, hown, hts⟩ (jc_lat l base aK aV i hi) ⟨callB_of 0 hts (jd_gi (sm_w_in (h := 3107) rfl)) rfl rfl rfl (hts _ (List.mem_filter.mpr ⟨(sm_w_in (h := 1016) rfl), rfl⟩)) (hts _ (List.mem_filter.mpr ⟨(sm_w_in (h := 3104) rfl), rfl⟩)) (by decide +kernel) ⟨by decide, by decide⟩, (hts _ (List.mem_filter.mpr ⟨(sm_w_in (h := 3105) rfl), rfl⟩)), (hts _ (List.mem_filter.mpr ⟨(sm_w_in (h := 3106) rfl), rfl⟩))⟩ ⟨jd_bl0, (hS1 i hi).1.1.elim (fun cell hc => ⟨cell, hc.1, hc.2.1, hc.2.2.1⟩), fun U hU hW => ⟨rfl, jd_st base aK aV s U ⟨hS1, hZ1, hZ2⟩ hW (fun q _ => by rw [hU])⟩⟩ rfl rfl hl.1 rfl (lv_room (Nat.le_of_ble_eq_true rfl)) je_cha_1 ⟨by decide, by decide⟩) (fun r hr0 => ?_)
  have hr0 : r = 1 := hr0
  subst hr0
  refine lv_if_eq (tgt := 16) hx hb je_cha_4 (by decide) (fun z => absurd z (by decide)) (fun _ => ?_)
  refine lv_aload_n hx hb je_cha_7 rfl (lv_at hl 0 rfl) ?_
  refine vk_getf hx hb (hS1 i hi).1.2.2.1 hS hown (hts _ (List.mem_filter.mpr ⟨(sm_w_in (h := 8237) rfl), rfl⟩)) (fun _ h => h) je_cha_8 ?_
  refine lv_iload_n hx hb je_cha_11 rfl (lv_at hl 1 rfl) ?_
  refine vp_callSi (W.runS (As := [.ref (aV i), .int (Int32.ofNat j)]) (rest := []) (bytes := prog_18_method_2_code) (maxL := 2) (ret := (some .char)) ⟨hx, hb, hml, hown, hts⟩ (jc_lch l base aK aV i hi j hj) ⟨callB_of 2 hts (jd_gi (sm_w_in (h := 3110) rfl)) rfl rfl rfl (hts _ (List.mem_filter.mpr ⟨(sm_w_in (h := 1017) rfl), rfl⟩)) (hts _ (List.mem_filter.mpr ⟨(sm_w_in (h := 3108) rfl), rfl⟩)) (by decide +kernel) ⟨by decide, by decide⟩, (hts _ (List.mem_filter.mpr ⟨(sm_w_in (h := 3109) rfl), rfl⟩))⟩ ⟨jd_bl0, fun U hU hW => ⟨rfl, jd_st base aK aV s U ⟨hS1, hZ1, hZ2⟩ hW (fun q _ => by rw [hU])⟩⟩ rfl rfl hl.1 rfl (lv_room (Nat.le_of_ble_eq_true rfl)) je_cha_12 ⟨by decide, by decide⟩) (fun r hr0 => ?_)
  have hr0 : r = st_byt i j := hr0
  subst hr0
  exact W.zret hx hb hr (by show Value.int _ = _; rw [h4]) (fun t ht hW => ⟨_, rfl, rfl, ht⟩) (fun q hq => by cases hq) je_cha_15 hlocks
