/-! String.isLatin1, length, checkIndex, charAt: contracts (by wip/whole/mk_jdk.py) -/
theorem jd_st (base : Nat) (aK aV : Nat → Nat) : sm_st base (jd_SP base aK aV) := by
  intro s U h hW hq
  obtain ⟨h1, h2, h3⟩ := h
  have hk : ∀ a : Nat, a < s.heap.size → ¬ base ≤ a → U.heap[a]? = s.heap[a]? := fun a _ ha => hq a (by omega)
  exact ⟨st_st base aK aV s U h1 hW hq, (va_Z.moved hW.alike h2).kept hk, (va_Zq.moved hW.alike h3).kept hk⟩
theorem jd_bl {base : Nat} {aK aV : Nat → Nat} {av : List Value} {E : Prop} : FrameBlind (va_Pc av (fun U => jd_SP base aK aV U ∧ E)) := by
  intro a U g mk h
  exact ⟨h.1, jd_st base aK aV U _ h.2.1 (State.WarmedH.refl U) (fun _ _ => rfl), h.2.2⟩
theorem jd_bl0 {base : Nat} {aK aV : Nat → Nat} {av : List Value} : FrameBlind (va_Pc av (fun U => jd_SP base aK aV U)) := by
  intro a U g mk h
  exact ⟨h.1, jd_st base aK aV U _ h.2 (State.WarmedH.refl U) (fun _ _ => rfl)⟩
theorem jd_gi {y : MethodName} {b : ByteArray} {n : Nat} {r : Option FieldType} (h : Cond.code y b n r ∈ lw_tbl) : GoodIn sm_gt (jw y b n r) := by
  intro w hw
  rcases List.mem_cons.mp hw with rfl | hw
  · exact ⟨List.mem_filter.mpr ⟨h, rfl⟩, Or.inl rfl⟩
  · exact ⟨hw, (sm_gt_good w hw).2⟩
def y_lat : MethodName := ⟨"java/lang/String", "isLatin1", "()Z"⟩
theorem je_lat_0 : decode prog_17_method_154_code 0 = .ok (.getstatic 38, 3) := by decide +kernel
theorem je_lat_3 : decode prog_17_method_154_code 3 = .ok (.ifCond .eq 14, 3) := by decide +kernel
theorem je_lat_6 : decode prog_17_method_154_code 6 = .ok (.aload_n 0, 1) := by decide +kernel
theorem je_lat_7 : decode prog_17_method_154_code 7 = .ok (.getfield 15, 3) := by decide +kernel
theorem je_lat_10 : decode prog_17_method_154_code 10 = .ok (.ifCond .ne 7, 3) := by decide +kernel
theorem je_lat_13 : decode prog_17_method_154_code 13 = .ok (.iconst 1, 1) := by decide +kernel
theorem je_lat_14 : decode prog_17_method_154_code 14 = .ok (.goto 4, 3) := by decide +kernel
theorem je_lat_18 : decode prog_17_method_154_code 18 = .ok (.ireturn, 1) := by decide +kernel
theorem jc_lat (l : Launch) (base : Nat) (aK aV : Nat → Nat) (i : Nat) (hi : i < 22) : Met l y_lat (jw y_lat prog_17_method_154_code 1 (some .boolean)) (sm_rm 1 0 0) (va_Pc [.ref (aK i)] (fun U => jd_SP base aK aV U)) (vp_Si (fun r => r = 1)) 0 0 (fun _ => False) := by
  refine Met.ofW (cc := prog_17_method_154_code) (maxL := 1) (ret := (some .boolean)) (by decide +kernel) rfl ?_
  intro p e s m args below meth c s₁ B hml hv
  obtain ⟨rfl, hJ⟩ := hv
  have hx := B.exec
  have hb := B.bytes
  have hr := B.returns
  have hts0 := atoms_spec (ws := jw y_lat prog_17_method_154_code 1 (some .boolean)) B.pre
  have hts : ∀ w ∈ sm_gt, w.before _ s = true := fun w hw => hts0 w (List.mem_cons_of_mem _ hw)
  have hown : s.vm.findClass "java/lang/String" = some m.cls := findClass_of_methodNamed B.named
  have hlocks := B.notSynchronized
  have hS : va_S (fun q => base ≤ q) s.heap s.heap [] := va_S.rf
  have hl := lv_entry ([.ref (aK i)]) (n := 1) (Nat.le_of_ble_eq_true rfl)
  rw [lg_entry_eq]
  generalize (lg_sl ([.ref (aK i)]) ++ List.replicate (1 - (lg_sl ([.ref (aK i)])).length) Slot.unset).toArray = ls at hl ⊢
  have hl : lv_has ls 1 [(0, .ref (aK i))] := hl
  obtain ⟨hS1, hZ1, hZ2⟩ := hJ
  refine va_gets hx hb hZ1 hS hown (hts _ (List.mem_filter.mpr ⟨(sm_w_in (h := 3098) rfl), rfl⟩)) (fun _ h => h) je_lat_0 ?_
  refine lv_if_eq (tgt := 17) hx hb je_lat_3 (by decide) (fun z => absurd z (by decide)) (fun _ => ?_)
  refine lv_aload_n hx hb je_lat_6 rfl (lv_at hl 0 rfl) ?_
  refine vk_getf hx hb (hS1 i hi).1.2.1 hS hown (hts _ (List.mem_filter.mpr ⟨(sm_w_in (h := 8238) rfl), rfl⟩)) (fun _ h => h) je_lat_7 ?_
  refine lv_if_ne (tgt := 17) hx hb je_lat_10 (by decide) (fun z => absurd rfl z) (fun _ => ?_)
  refine lv_iconst (v := 1) hx hb je_lat_13 rfl ?_
  refine lv_goto (tgt := 18) hx hb je_lat_14 (by decide) ?_
  exact W.zret hx hb hr (by rfl) (fun t ht hW => ⟨1, rfl, rfl, ht⟩) (fun q hq => by cases hq) je_lat_18 hlocks
def y_len : MethodName := ⟨"java/lang/String", "length", "()I"⟩
theorem je_len_0 : decode prog_17_method_54_code 0 = .ok (.aload_n 0, 1) := by decide +kernel
theorem je_len_1 : decode prog_17_method_54_code 1 = .ok (.getfield 9, 3) := by decide +kernel
theorem je_len_4 : decode prog_17_method_54_code 4 = .ok (.arraylength, 1) := by decide +kernel
theorem je_len_5 : decode prog_17_method_54_code 5 = .ok (.aload_n 0, 1) := by decide +kernel
theorem je_len_6 : decode prog_17_method_54_code 6 = .ok (.invokevirtual 335, 3) := by decide +kernel
theorem je_len_9 : decode prog_17_method_54_code 9 = .ok (.ishr, 1) := by decide +kernel
theorem je_len_10 : decode prog_17_method_54_code 10 = .ok (.ireturn, 1) := by decide +kernel
theorem jc_len (l : Launch) (base : Nat) (aK aV : Nat → Nat) (i : Nat) (hi : i < 22) : Met l y_len (jw y_len prog_17_method_54_code 1 (some .int)) (sm_rm 2 0 0) (va_Pc [.ref (aK i)] (fun U => jd_SP base aK aV U)) (vp_Si (fun r => r = Int32.ofNat (st_len i))) 0 0 (fun _ => False) := by
  refine Met.ofW (cc := prog_17_method_54_code) (maxL := 1) (ret := (some .int)) (by decide +kernel) rfl ?_
  intro p e s m args below meth c s₁ B hml hv
  obtain ⟨rfl, hJ⟩ := hv
  have hx := B.exec
  have hb := B.bytes
  have hr := B.returns
  have hts0 := atoms_spec (ws := jw y_len prog_17_method_54_code 1 (some .int)) B.pre
  have hts : ∀ w ∈ sm_gt, w.before _ s = true := fun w hw => hts0 w (List.mem_cons_of_mem _ hw)
  have hown : s.vm.findClass "java/lang/String" = some m.cls := findClass_of_methodNamed B.named
  have hlocks := B.notSynchronized
  have hS : va_S (fun q => base ≤ q) s.heap s.heap [] := va_S.rf
  have hl := lv_entry ([.ref (aK i)]) (n := 1) (Nat.le_of_ble_eq_true rfl)
  rw [lg_entry_eq]
  generalize (lg_sl ([.ref (aK i)]) ++ List.replicate (1 - (lg_sl ([.ref (aK i)])).length) Slot.unset).toArray = ls at hl ⊢
  have hl : lv_has ls 1 [(0, .ref (aK i))] := hl
  obtain ⟨hS1, hZ1, hZ2⟩ := hJ
  refine lv_aload_n hx hb je_len_0 rfl (lv_at hl 0 rfl) ?_
  refine vk_getf hx hb (hS1 i hi).1.2.2.1 hS hown (hts _ (List.mem_filter.mpr ⟨(sm_w_in (h := 8237) rfl), rfl⟩)) (fun _ h => h) je_len_1 ?_
  refine va_tlen hx hb (hS1 i hi).1.2.2.2 hS rfl je_len_4 ?_
  refine lv_aload_n hx hb je_len_5 rfl (lv_at hl 0 rfl) ?_
  refine vp_callSi (W.runV (As := []) (rest := [.int (Int32.ofNat (st_len i))]) (bytes := prog_17_method_152_code) (maxL := 1) (ret := (some .byte)) (C := "java/lang/String") ⟨hx, hb, hml, hown, hts⟩ (jc_coder l base aK aV i hi) ⟨callB_of 0 hts (jd_gi (sm_w_in (h := 3097) rfl)) rfl rfl rfl (hts _ (List.mem_filter.mpr ⟨(sm_w_in (h := 1016) rfl), rfl⟩)) (hts _ (List.mem_filter.mpr ⟨(sm_w_in (h := 3094) rfl), rfl⟩)) (by decide +kernel) ⟨by decide, by decide⟩, (hts _ (List.mem_filter.mpr ⟨(sm_w_in (h := 3095) rfl), rfl⟩)), (hts _ (List.mem_filter.mpr ⟨(sm_w_in (h := 3096) rfl), rfl⟩))⟩ ⟨jd_bl0, (hS1 i hi).1.1.elim (fun cell hc => ⟨cell, hc.1, hc.2.1, hc.2.2.1⟩), fun U hU hW => ⟨rfl, jd_st base aK aV s U ⟨hS1, hZ1, hZ2⟩ hW (fun q _ => by rw [hU])⟩⟩ rfl rfl hl.1 rfl (lv_room (Nat.le_of_ble_eq_true rfl)) je_len_6 ⟨by decide, by decide⟩) (fun r hr0 => ?_)
  have hr0 : r = 0 := hr0
  subst hr0
  refine lv_ishr hx hb je_len_9 ?_
  have e1 : Int32.ofNat (st_len i) >>> ((0 : Int32) &&& 31) = Int32.ofNat (st_len i) := by
    have := nx_shr (a := st_len i) (k := 0) (st_l i hi) (by decide)
    simpa using this
  rw [e1]
  exact W.iret hx hb hr (fun t ht hW => ⟨_, rfl, rfl, ht⟩) (fun q hq => by cases hq) je_len_10 hlocks
