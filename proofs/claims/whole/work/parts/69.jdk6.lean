/-! jd_SP where the program starts (by wip/whole/mk_jdk.py) -/
theorem jd_a1 : Cond.eq (.static "java/lang/String" "COMPACT_STRINGS" "Z") (.int 1) ∈ flatC (Jvm.Cond.and given_1 narrow_1) := by decide +kernel
theorem jd_a2 : Cond.isRef (.static "jdk/internal/util/Preconditions" "SIOOBE_FORMATTER" "Ljava/util/function/BiFunction;") ∈ flatC (Jvm.Cond.and given_1 narrow_1) := by decide +kernel
theorem jd_of {args : Array Value} {s : State} (hgv : (Jvm.Cond.and given_1 narrow_1).before args s = true) (hts : ∀ w ∈ lw_tbl, w.before args s = true) : ∃ aK aV : Nat → Nat, jd_SP s.heap.size aK aV s := by
  have hs := flat_of_before _ hgv
  have hA : ∀ a : Nat, a < s.heap.size → ¬ (fun q : Nat => s.heap.size ≤ q) a := fun a h => Nat.not_le.mpr h
  obtain ⟨aK, aV, h⟩ := st_of hgv hts
  exact ⟨aK, aV, h, va_Zof (hts _ (sm_w_in (h := 3099) rfl)) (hts _ (sm_w_in (h := 1016) rfl)) (va_eqt (hs _ jd_a1)) hA, va_Zqof (hts _ (sm_w_in (h := 3115) rfl)) (hts _ (sm_w_in (h := 1018) rfl)) (hs _ jd_a2) hA⟩
theorem jd_sg (base : Nat) (aK aV : Nat → Nat) : sm_sg aK (jd_SP base aK aV) := by
  intro U j x h t hS hj hw
  exact st_sg base aK aV U j x h t hS.1 hj hw
