/-! Preconditions.checkIndex: contract (by wip/whole/mk_jdk.py) -/
def y_pcn : MethodName := ⟨"jdk/internal/util/Preconditions", "checkIndex", "(IILjava/util/function/BiFunction;)I"⟩
theorem je_pcn_0 : decode prog_22_method_11_code 0 = .ok (.iload_n 0, 1) := by decide +kernel
theorem je_pcn_1 : decode prog_22_method_11_code 1 = .ok (.ifCond .lt 8, 3) := by decide +kernel
theorem je_pcn_4 : decode prog_22_method_11_code 4 = .ok (.iload_n 0, 1) := by decide +kernel
theorem je_pcn_5 : decode prog_22_method_11_code 5 = .ok (.iload_n 1, 1) := by decide +kernel
theorem je_pcn_6 : decode prog_22_method_11_code 6 = .ok (.if_icmp .lt 10, 3) := by decide +kernel
theorem je_pcn_16 : decode prog_22_method_11_code 16 = .ok (.iload_n 0, 1) := by decide +kernel
theorem je_pcn_17 : decode prog_22_method_11_code 17 = .ok (.ireturn, 1) := by decide +kernel
theorem jc_pcn (l : Launch) (base : Nat) (aK aV : Nat → Nat) (x y : Int32) (h0 : ¬ x < 0) (h1 : x < y) : Met l y_pcn (jw y_pcn prog_22_method_11_code 3 (some .int)) (sm_rm 1 0 0) (va_Pc [.int x, .int y, .null] (fun U => jd_SP base aK aV U)) (vp_Si (fun r => r = x)) 0 0 (fun _ => False) := by
  refine Met.ofW (cc := prog_22_method_11_code) (maxL := 3) (ret := (some .int)) (by decide +kernel) rfl ?_
  intro p e s m args below meth c s₁ B hml hv
  obtain ⟨rfl, hJ⟩ := hv
  have hx := B.exec
  have hb := B.bytes
  have hr := B.returns
  have hts0 := atoms_spec (ws := jw y_pcn prog_22_method_11_code 3 (some .int)) B.pre
  have hts : ∀ w ∈ sm_gt, w.before _ s = true := fun w hw => hts0 w (List.mem_cons_of_mem _ hw)
  have hown : s.vm.findClass "jdk/internal/util/Preconditions" = some m.cls := findClass_of_methodNamed B.named
  have hlocks := B.notSynchronized
  have hS : va_S (fun q => base ≤ q) s.heap s.heap [] := va_S.rf
  have hl := lv_entry ([.int x, .int y, .null]) (n := 3) (Nat.le_of_ble_eq_true rfl)
  rw [lg_entry_eq]
  generalize (lg_sl ([.int x, .int y, .null]) ++ List.replicate (3 - (lg_sl ([.int x, .int y, .null])).length) Slot.unset).toArray = ls at hl ⊢
  have hl : lv_has ls 3 [(0, .int x), (1, .int y), (2, .null)] := hl
  refine lv_iload_n hx hb je_pcn_0 rfl (lv_at hl 0 rfl) ?_
  refine lv_if_lt (tgt := 9) hx hb je_pcn_1 (by decide) (fun z => absurd z h0) (fun _ => ?_)
  refine lv_iload_n hx hb je_pcn_4 rfl (lv_at hl 0 rfl) ?_
  refine lv_iload_n hx hb je_pcn_5 rfl (lv_at hl 1 rfl) ?_
  refine lv_icmp_lt (tgt := 16) hx hb je_pcn_6 (by decide) (fun _ => ?_) (fun z => absurd h1 z)
  refine lv_iload_n hx hb je_pcn_16 rfl (lv_at hl 0 rfl) ?_
  exact W.iret hx hb hr (fun t ht hW => ⟨_, rfl, rfl, ht⟩) (fun q hq => by cases hq) je_pcn_17 hlocks
def y_pcr : MethodName := ⟨"jdk/internal/util/Preconditions", "checkIndex", "(IILjava/util/function/BiFunction;)I"⟩
theorem je_pcr_0 : decode prog_22_method_11_code 0 = .ok (.iload_n 0, 1) := by decide +kernel
theorem je_pcr_1 : decode prog_22_method_11_code 1 = .ok (.ifCond .lt 8, 3) := by decide +kernel
theorem je_pcr_4 : decode prog_22_method_11_code 4 = .ok (.iload_n 0, 1) := by decide +kernel
theorem je_pcr_5 : decode prog_22_method_11_code 5 = .ok (.iload_n 1, 1) := by decide +kernel
theorem je_pcr_6 : decode prog_22_method_11_code 6 = .ok (.if_icmp .lt 10, 3) := by decide +kernel
theorem je_pcr_16 : decode prog_22_method_11_code 16 = .ok (.iload_n 0, 1) := by decide +kernel
theorem je_pcr_17 : decode prog_22_method_11_code 17 = .ok (.ireturn, 1) := by decide +kernel
theorem jc_pcr (l : Launch) (base : Nat) (aK aV : Nat → Nat) (q : Nat) (x y : Int32) (h0 : ¬ x < 0) (h1 : x < y) : Met l y_pcr (jw y_pcr prog_22_method_11_code 3 (some .int)) (sm_rm 1 0 0) (va_Pc [.int x, .int y, .ref q] (fun U => jd_SP base aK aV U)) (vp_Si (fun r => r = x)) 0 0 (fun _ => False) := by
  refine Met.ofW (cc := prog_22_method_11_code) (maxL := 3) (ret := (some .int)) (by decide +kernel) rfl ?_
  intro p e s m args below meth c s₁ B hml hv
  obtain ⟨rfl, hJ⟩ := hv
  have hx := B.exec
  have hb := B.bytes
  have hr := B.returns
  have hts0 := atoms_spec (ws := jw y_pcr prog_22_method_11_code 3 (some .int)) B.pre
  have hts : ∀ w ∈ sm_gt, w.before _ s = true := fun w hw => hts0 w (List.mem_cons_of_mem _ hw)
  have hown : s.vm.findClass "jdk/internal/util/Preconditions" = some m.cls := findClass_of_methodNamed B.named
  have hlocks := B.notSynchronized
  have hS : va_S (fun q => base ≤ q) s.heap s.heap [] := va_S.rf
  have hl := lv_entry ([.int x, .int y, .ref q]) (n := 3) (Nat.le_of_ble_eq_true rfl)
  rw [lg_entry_eq]
  generalize (lg_sl ([.int x, .int y, .ref q]) ++ List.replicate (3 - (lg_sl ([.int x, .int y, .ref q])).length) Slot.unset).toArray = ls at hl ⊢
  have hl : lv_has ls 3 [(0, .int x), (1, .int y), (2, .ref q)] := hl
  refine lv_iload_n hx hb je_pcr_0 rfl (lv_at hl 0 rfl) ?_
  refine lv_if_lt (tgt := 9) hx hb je_pcr_1 (by decide) (fun z => absurd z h0) (fun _ => ?_)
  refine lv_iload_n hx hb je_pcr_4 rfl (lv_at hl 0 rfl) ?_
  refine lv_iload_n hx hb je_pcr_5 rfl (lv_at hl 1 rfl) ?_
  refine lv_icmp_lt (tgt := 16) hx hb je_pcr_6 (by decide) (fun _ => ?_) (fun z => absurd h1 z)
  refine lv_iload_n hx hb je_pcr_16 rfl (lv_at hl 0 rfl) ?_
  exact W.iret hx hb hr (fun t ht hW => ⟨_, rfl, rfl, ht⟩) (fun q hq => by cases hq) je_pcr_17 hlocks
