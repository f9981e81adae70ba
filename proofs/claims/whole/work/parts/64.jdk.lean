/-! String.coder, isLatin1: contracts (by wip/whole/mk_jdk.py) -/
/-- what the texts need of a state -/
def jd_SP (base : Nat) (aK aV : Nat → Nat) (U : State) : Prop := st_SP base aK aV U ∧ va_Z "java/lang/String" "COMPACT_STRINGS" "Z" (.int 1) (fun q => base ≤ q) U U.heap ∧ va_Zq "jdk/internal/util/Preconditions" "SIOOBE_FORMATTER" "Ljava/util/function/BiFunction;" (fun q => base ≤ q) U U.heap
abbrev jw (y : MethodName) (b : ByteArray) (n : Nat) (r : Option FieldType) : List Cond := Cond.code y b n r :: sm_gt
def y_coder : MethodName := ⟨"java/lang/String", "coder", "()B"⟩
theorem jd_0 : decode prog_17_method_152_code 0 = .ok (.getstatic 38, 3) := by decide +kernel
theorem jd_3 : decode prog_17_method_152_code 3 = .ok (.ifCond .eq 10, 3) := by decide +kernel
theorem jd_6 : decode prog_17_method_152_code 6 = .ok (.aload_n 0, 1) := by decide +kernel
theorem jd_7 : decode prog_17_method_152_code 7 = .ok (.getfield 15, 3) := by decide +kernel
theorem jd_10 : decode prog_17_method_152_code 10 = .ok (.goto 4, 3) := by decide +kernel
theorem jd_14 : decode prog_17_method_152_code 14 = .ok (.ireturn, 1) := by decide +kernel
theorem jc_coder (l : Launch) (base : Nat) (aK aV : Nat → Nat) (i : Nat) (hi : i < 22) : Met l y_coder (jw y_coder prog_17_method_152_code 1 (some .byte)) (sm_rm 1 0 0) (va_Pc [.ref (aK i)] (fun U => jd_SP base aK aV U)) (vp_Si (fun r => r = 0)) 0 0 (fun _ => False) := by
  refine Met.ofW (cc := prog_17_method_152_code) (maxL := 1) (ret := some .byte) (by decide +kernel) rfl ?_
  intro p e s m args below meth c s₁ B hml hv
  obtain ⟨rfl, hS1, hZ1, hZ2⟩ := hv
  have hx := B.exec
  have hb := B.bytes
  have hr := B.returns
  have hts := atoms_spec (ws := jw y_coder prog_17_method_152_code 1 (some .byte)) B.pre
  have hown : s.vm.findClass "java/lang/String" = some m.cls := findClass_of_methodNamed B.named
  have hlocks := B.notSynchronized
  have hS : va_S (fun q => base ≤ q) s.heap s.heap [] := va_S.rf
  have hl := lv_entry ([.ref (aK i)]) (n := 1) (Nat.le_of_ble_eq_true rfl)
  rw [show ([Value.ref (aK i)] : List Value).toArray = ([.ref (aK i)] : List Value).toArray from rfl, lg_entry_eq]
  generalize (lg_sl ([.ref (aK i)]) ++ List.replicate (1 - (lg_sl ([.ref (aK i)])).length) Slot.unset).toArray = ls at hl ⊢
  have hl : lv_has ls 1 [(0, .ref (aK i))] := hl
  refine va_gets hx hb hZ1 hS hown (hts _ (List.mem_cons_of_mem _ (List.mem_filter.mpr ⟨(sm_w_in (h := 3098) rfl), rfl⟩))) (fun _ h => h) jd_0 ?_
  refine lv_if_eq (tgt := 13) hx hb jd_3 (by decide) (fun z => absurd z (by decide)) (fun _ => ?_)
  refine lv_aload_n hx hb jd_6 rfl (lv_at hl 0 rfl) ?_
  refine vk_getf hx hb (hS1 i hi).1.2.1 hS hown (hts _ (List.mem_cons_of_mem _ (List.mem_filter.mpr ⟨(sm_w_in (h := 8238) rfl), rfl⟩))) (fun _ h => h) jd_7 ?_
  refine lv_goto (tgt := 14) hx hb jd_10 (by decide) ?_
  exact W.zret hx hb hr (by rfl) (fun t ht hW => ⟨0, rfl, rfl, ht⟩) (fun q hq => by cases hq) jd_14 hlocks
