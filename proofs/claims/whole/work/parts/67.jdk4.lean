/-! String.checkIndex: contract (by wip/whole/mk_jdk.py) -/
def y_sci : MethodName := ⟨"java/lang/String", "checkIndex", "(II)V"⟩
theorem je_sci_0 : decode prog_17_method_155_code 0 = .ok (.iload_n 0, 1) := by decide +kernel
theorem je_sci_1 : decode prog_17_method_155_code 1 = .ok (.iload_n 1, 1) := by decide +kernel
theorem je_sci_2 : decode prog_17_method_155_code 2 = .ok (.getstatic 1053, 3) := by decide +kernel
theorem je_sci_5 : decode prog_17_method_155_code 5 = .ok (.invokestatic 1059, 3) := by decide +kernel
theorem je_sci_8 : decode prog_17_method_155_code 8 = .ok (.pop, 1) := by decide +kernel
theorem je_sci_9 : decode prog_17_method_155_code 9 = .ok (.return_, 1) := by decide +kernel
theorem jc_sci (l : Launch) (base : Nat) (aK aV : Nat → Nat) (x y : Int32) (h0 : ¬ x < 0) (h1 : x < y) : Met l y_sci (jw y_sci prog_17_method_155_code 2 none) (sm_rm 2 0 0) (va_Pc [.int x, .int y] (fun U => jd_SP base aK aV U)) (va_Sv (fun _ => True)) 0 0 (fun _ => False) := by
  refine Met.ofW (cc := prog_17_method_155_code) (maxL := 2) (ret := none) (by decide +kernel) rfl ?_
  intro p e s m args below meth c s₁ B hml hv
  obtain ⟨rfl, hJ⟩ := hv
  have hx := B.exec
  have hb := B.bytes
  have hr := B.returns
  have hts0 := atoms_spec (ws := jw y_sci prog_17_method_155_code 2 none) B.pre
  have hts : ∀ w ∈ sm_gt, w.before _ s = true := fun w hw => hts0 w (List.mem_cons_of_mem _ hw)
  have hown : s.vm.findClass "java/lang/String" = some m.cls := findClass_of_methodNamed B.named
  have hlocks := B.notSynchronized
  have hS : va_S (fun q => base ≤ q) s.heap s.heap [] := va_S.rf
  have hl := lv_entry ([.int x, .int y]) (n := 2) (Nat.le_of_ble_eq_true rfl)
  rw [lg_entry_eq]
  generalize (lg_sl ([.int x, .int y]) ++ List.replicate (2 - (lg_sl ([.int x, .int y])).length) Slot.unset).toArray = ls at hl ⊢
  have hl : lv_has ls 2 [(0, .int x), (1, .int y)] := hl
  obtain ⟨hS1, hZ1, hZ2⟩ := hJ
  refine lv_iload_n hx hb je_sci_0 rfl (lv_at hl 0 rfl) ?_
  refine lv_iload_n hx hb je_sci_1 rfl (lv_at hl 1 rfl) ?_
  rcases id hZ2 with hZ | ⟨q, hZ⟩
  · refine va_gets hx hb hZ hS hown (hts _ (List.mem_filter.mpr ⟨(sm_w_in (h := 3114) rfl), rfl⟩)) (fun _ h => h) je_sci_2 ?_
    refine vp_callSi (W.runS (As := [.int x, .int y, .null]) (rest := []) (bytes := prog_22_method_11_code) (maxL := 3) (ret := (some .int)) ⟨hx, hb, hml, hown, hts⟩ (jc_pcn l base aK aV x y h0 h1) ⟨callB_of 3 hts (jd_gi (sm_w_in (h := 3118) rfl)) rfl rfl rfl (hts _ (List.mem_filter.mpr ⟨(sm_w_in (h := 1018) rfl), rfl⟩)) (hts _ (List.mem_filter.mpr ⟨(sm_w_in (h := 3116) rfl), rfl⟩)) (by decide +kernel) ⟨by decide, by decide⟩, (hts _ (List.mem_filter.mpr ⟨(sm_w_in (h := 3117) rfl), rfl⟩))⟩ ⟨jd_bl0, fun U hU hW => ⟨rfl, jd_st base aK aV s U ⟨hS1, hZ1, hZ2⟩ hW (fun q _ => by rw [hU])⟩⟩ rfl rfl hl.1 rfl (lv_room (Nat.le_of_ble_eq_true rfl)) je_sci_5 ⟨by decide, by decide⟩) (fun r _ => ?_)
    refine lv_pop hx hb je_sci_8 rfl ?_
    exact W.vret hx hb hr (fun t ht hW => ⟨rfl, trivial, ht⟩) (fun q hq => by cases hq) je_sci_9 hlocks
  · refine va_gets hx hb hZ hS hown (hts _ (List.mem_filter.mpr ⟨(sm_w_in (h := 3114) rfl), rfl⟩)) (fun _ h => h) je_sci_2 ?_
    refine vp_callSi (W.runS (As := [.int x, .int y, .ref q]) (rest := []) (bytes := prog_22_method_11_code) (maxL := 3) (ret := (some .int)) ⟨hx, hb, hml, hown, hts⟩ (jc_pcr l base aK aV q x y h0 h1) ⟨callB_of 3 hts (jd_gi (sm_w_in (h := 3118) rfl)) rfl rfl rfl (hts _ (List.mem_filter.mpr ⟨(sm_w_in (h := 1018) rfl), rfl⟩)) (hts _ (List.mem_filter.mpr ⟨(sm_w_in (h := 3116) rfl), rfl⟩)) (by decide +kernel) ⟨by decide, by decide⟩, (hts _ (List.mem_filter.mpr ⟨(sm_w_in (h := 3117) rfl), rfl⟩))⟩ ⟨jd_bl0, fun U hU hW => ⟨rfl, jd_st base aK aV s U ⟨hS1, hZ1, hZ2⟩ hW (fun q _ => by rw [hU])⟩⟩ rfl rfl hl.1 rfl (lv_room (Nat.le_of_ble_eq_true rfl)) je_sci_5 ⟨by decide, by decide⟩) (fun r _ => ?_)
    refine lv_pop hx hb je_sci_8 rfl ?_
    exact W.vret hx hb hr (fun t ht hW => ⟨rfl, trivial, ht⟩) (fun q hq => by cases hq) je_sci_9 hlocks
