/-! contracts: what a call of the machine says of the method -/
def sm_ws (y : Nat) : List Cond := Cond.code (sm_yn y) (sm_yb y) (sm_yl y) (sm_yr y) :: sm_gt
def sm_rm (d mc ms : Nat) : Room := { frames := d, cells := mc, slots := ms, locals := 40 * d }
def sm_Pc (D : va_G) (dA : Nat → ClassId) (base : Nat) (sA : Nat → Nat) (SP : State → Prop) (as : List Value) (u : sm_M) : Array Value → State → Prop :=
  va_Pc (as.map (sm_tr base sA)) (fun U => va_P D sm_classes (sm_wl dA base u) U.heap ∧ va_K D sm_classes (sm_tys dA) U ∧ U.heap.size = base + u.1.length ∧ sm_NW U ∧ SP U)
def sm_Qc (D : va_G) (dA : Nat → ClassId) (base : Nat) (r : Option Value) (v : sm_M) : Array Value → State → Outcome → State → Prop := match r with
  | none => va_Qv (fun _ : Unit => True) (fun _ t => va_P D sm_classes (sm_wl dA base v) t.heap) (fun q => base ≤ q)
  | some (.int x) => va_Qi (fun z (_ : Unit) => z = x) (fun _ t => va_P D sm_classes (sm_wl dA base v) t.heap) (fun q => base ≤ q)
  | some (.long x) => va_Ql (fun z (_ : Unit) => z = x) (fun _ t => va_P D sm_classes (sm_wl dA base v) t.heap) (fun q => base ≤ q)
  | _ => fun _ _ _ _ => False
def sm_Met (l : Launch) (D : va_G) (dA : Nat → ClassId) (base : Nat) (sA : Nat → Nat) (SP : State → Prop) (d y : Nat) (as : List Value) (u : sm_M) (r : Option Value) (v : sm_M) : Prop :=
  Met l (sm_yn y) (sm_ws y) (sm_rm d (v.1.length - u.1.length) (sm_tot v - sm_tot u)) (sm_Pc D dA base sA SP as u) (sm_Qc D dA base r v) (v.1.length - u.1.length) (sm_tot v - sm_tot u) (fun q => base ≤ q)
def sm_st (base : Nat) (SP : State → Prop) : Prop := ∀ s U : State, SP s → s.WarmedH U.vm → (∀ q, q < base → U.heap[q]? = s.heap[q]?) → SP U
theorem sm_gi {y : Nat} {h : Nat × Nat × Nat × Nat} (hy : sm_mP (sm_ym y) h) : GoodIn sm_gt (sm_ws y) := by
  intro w hw
  rcases List.mem_cons.mp hw with rfl | hw
  · have h1 := sm_w_in hy.1
    exact ⟨List.mem_filter.mpr ⟨h1, rfl⟩, Or.inl rfl⟩
  · exact ⟨hw, (sm_gt_good w hw).2⟩
theorem sm_blind {D : va_G} {dA : Nat → ClassId} {base : Nat} {sA : Nat → Nat} {SP : State → Prop} (hSP : sm_st base SP) (as : List Value) (u : sm_M) : FrameBlind (sm_Pc D dA base sA SP as u) := by
  intro a U g mk h
  obtain ⟨h1, h2, h3, h4, h5, h6⟩ := h
  exact ⟨h1, h2, va_K.moved (u := U) (U := U.calling g mk a) (Vm.Alike.refl U.vm) h3, h4, sm_NW.moved (s := U) (U := U.calling g mk a) (State.WarmedH.refl U) h5, hSP U _ h6 (State.WarmedH.refl U) (fun _ _ => rfl)⟩
section
variable {p : Program} {l : Launch} {e : Env} {R : Room} {s : State} {m : MethodId} {args : Array Value} {below : List Frame} {meth : Method} {c : Code} {Q : State → Prop}
variable {own : String} {cc : ByteArray} {nL : Nat} {D : va_G} {dA : Nat → ClassId} {base : Nat} {sA : Nat → Nat} {SP : State → Prop} {len0 tot0 : Nat}
variable {k : sm_Ls → List Value → sm_M → sm_R} {o : Option Value × sm_M}
theorem sm_at_call {H : Heap} {locs : List Loc} {cells slots : Nat} {u : sm_M} {as : List Value} (X : sm_cx p R s m args c own cc nL D dA base SP len0) (hSP : sm_st base SP) (hZ : sm_Z D dA base s len0 tot0 u H locs cells slots) (hsz : H.size = base + u.1.length) : ∀ U : State, U.heap = H → s.WarmedH U.vm → sm_Pc D dA base sA SP as u (as.map (sm_tr base sA)).toArray U := by
  obtain ⟨hx, hb, hml, hown, hts, hNW, hK, hS, hsz0, hfr, hlo⟩ := X
  intro U hU hW
  refine ⟨rfl, by rw [hU]; exact hZ.1, va_K.moved hW.alike hK, by rw [hU]; exact hsz, hNW.moved hW, hSP s U hS hW (fun q hq => ?_)⟩
  rw [hU]
  exact hZ.2.1.2.1 q (by omega) (by show ¬ base ≤ q; omega)
theorem sm_rest {st : List Value} {b : Nat} (h : Nat.ble (st.drop b).length 4 = true) : (((st.drop b).map (sm_tr base sA)).map fun v => v.category).sum ≤ 8 := by
  have key : ∀ l : List Value, ((l.map (sm_tr base sA)).map fun v => v.category).sum ≤ 2 * l.length := by
    intro l
    induction l with
    | nil => simp
    | cons v l ih =>
      simp only [List.map_cons, List.sum_cons, List.length_cons]
      have : (sm_tr base sA v).category ≤ 2 := by rw [sm_tr_cat]; rcases lv_cat v with h | h <;> omega
      omega
  have h1 := key (st.drop b)
  have h2 := Nat.le_of_ble_eq_true h
  omega
/-- a call's run, of any of the kinds -/
theorem sm_call_run {pc y x b h0 d : Nat} {h4 : Nat × Nat × Nat × Nat} {ri : Instr} {r : Option Value} {u v : sm_M} {st : List Value} (X : sm_cx p R s m args c own cc nL D dA base SP len0) (hSP : sm_st base SP) (hy : sm_mP (sm_ym y) h4) (hdg : decode cc pc = .ok (ri, 3)) (hl : sm_cal own x y h0)
    (hkind : (ri = .invokestatic x ∧ sm_ys y = true ∧ b = sm_yp y) ∨ (ri = .invokevirtual x ∧ sm_ys y = false ∧ b = sm_yp y + 1 ∧ (sm_yn y).name ≠ "<init>" ∧ ∃ i as' a, (st.take b).reverse = .ref i :: as' ∧ sm_tg u i = a ∧ (100 ≤ a ∧ a < 113) ∧ sm_C a = (sm_yn y).cls) ∨ (ri = .invokespecial x ∧ sm_ys y = false ∧ b = sm_yp y + 1 ∧ (sm_yn y).name = "<init>" ∧ sm_yr y = none ∧ ∃ i as', (st.take b).reverse = .ref i :: as'))
    (hM : sm_Met l D dA base sA SP d y (st.take b).reverse u r v) (hR : d + 1 ≤ R.frames ∧ 40 * (d + 1) ≤ R.locals) (h1 : Nat.ble (st.drop b).length 4 = true) (h2 : Nat.beq (st.take b).length b = true)
    {H : Heap} {locs : List Loc} {cells slots : Nat} {la : Array Slot} {ls : sm_Ls} (hL : sm_lo base sA nL ls la) (hZ : sm_Z D dA base s len0 tot0 u H locs cells slots) (hsz : H.size = base + u.1.length)
    (hf : cells + (v.1.length - u.1.length) ≤ R.cells ∧ slots + (sm_tot v - sm_tot u) ≤ R.slots) :
    va_Run p l e R s m args below meth c H locs cells slots (v.1.length - u.1.length) (sm_tot v - sm_tot u) (F0 m pc la (st.map (sm_tr base sA))) ((st.drop b).map (sm_tr base sA)) (sm_Qc D dA base r v (((st.take b).reverse).map (sm_tr base sA)).toArray) (fun q => base ≤ q) := by
  have hpre := sm_at_call (as := (st.take b).reverse) (sA := sA) X hSP hZ hsz
  obtain ⟨hx, hb, hml, hown, hts, hNW, hK, hS, hsz0, hfr, hlo⟩ := X
  have hG := sm_gi hy
  obtain ⟨y1, y2, y3, y4, y5, y6, y7, y8⟩ := hy
  have hini : (Cond.initialized (sm_yn y).cls).before args s = true := hts _ (List.mem_filter.mpr ⟨sm_w_in y4, rfl⟩)
  have hlen : (st.take b).length = b := Nat.eq_of_beq_eq_true h2
  have hroom : (sm_rm d (v.1.length - u.1.length) (sm_tot v - sm_tot u)).frames + 1 ≤ R.frames ∧ 8 + (sm_yl y + 11) + (sm_rm d (v.1.length - u.1.length) (sm_tot v - sm_tot u)).locals ≤ R.locals := by
    refine ⟨hR.1, ?_⟩
    have : sm_yl y ≤ 15 := y8
    show 8 + (sm_yl y + 11) + 40 * d ≤ R.locals
    omega
  have hdsc : (sm_yn y).cls ≠ "java/lang/invoke/MethodHandle" ∧ (sm_yn y).cls ≠ "java/lang/invoke/VarHandle" ∧ (parseMethodDescriptor (sm_yn y).desc).map (fun d => d.parameters.length) = some (sm_yp y) := ⟨y6.1, y6.2, y7⟩
  have hrest := sm_rest (base := base) (sA := sA) h1
  have hfix : CallFix p m c cc nL s args sm_gt own := ⟨hx, hb, hml, hown, hts⟩
  have hstk : ∀ (as : List Value), (st.take b).reverse = as → st.map (sm_tr base sA) = (as.map (sm_tr base sA)).reverse ++ (st.drop b).map (sm_tr base sA) := by
    intro as has
    rw [← has, ← List.map_reverse, List.reverse_reverse, ← List.map_append, List.take_append_drop]
  rcases hkind with ⟨rfl, hs, hbn⟩ | ⟨rfl, hs, hbn, hni, i, as', a, hst, hti, ha, hC⟩ | ⟨rfl, hs, hbn, hni, hret, i, as', hst⟩
  · have hstat : (Cond.static (sm_yn y)).before args s = true := by
      have y2' : sm_w h4.2.1 = some (.static (sm_yn y)) := by rw [y2]; show some (match sm_ys y with | true => Cond.static (sm_yn y) | false => _) = _; rw [hs]
      exact hts _ (List.mem_filter.mpr ⟨sm_w_in y2', rfl⟩)
    have hp : PreS s H (sm_Pc D dA base sA SP (st.take b).reverse u) (((st.take b).reverse).map (sm_tr base sA)) := ⟨sm_blind hSP _ _, hpre⟩
    have hn : (((st.take b).reverse).map (sm_tr base sA)).length = sm_yp y := by rw [List.length_map, List.length_reverse, hlen, hbn]
    rcases hl with hl | hl
    · exact va_runS (bytes := sm_yb y) (maxL := sm_yl y) (ret := sm_yr y) hfix hM ⟨callB_of (sm_yp y) hts hG rfl rfl rfl hini (hts _ (List.mem_filter.mpr ⟨sm_w_in hl, rfl⟩)) hdsc hroom, hstat⟩ hp rfl hn hL.2.1 (hstk _ rfl) (lv_room hrest) hdg hf
    · exact va_runSN (bytes := sm_yb y) (maxL := sm_yl y) (ret := sm_yr y) (host := "WhatWasNearly") hfix hM ⟨va_cnB (sm_yp y) hts hG rfl rfl rfl (hNW _ (sm_w_in hl) rfl) hini hdsc hroom, hstat, trivial⟩ hp rfl hn hL.2.1 (hstk _ rfl) (lv_room hrest) hdg hf
  · have hinst : (Cond.instanceMethod (sm_yn y)).before args s = true := by
      have y2' : sm_w h4.2.1 = some (.instanceMethod (sm_yn y)) := by rw [y2]; show some (match sm_ys y with | true => _ | false => Cond.instanceMethod (sm_yn y)) = _; rw [hs]
      exact hts _ (List.mem_filter.mpr ⟨sm_w_in y2', rfl⟩)
    have hsel : (Cond.selects (sm_yn y).cls (sm_yn y) (sm_yn y)).before args s = true := by
      rcases y3 with q | q | q
      · exact absurd (show sm_ys y = true from q) (by rw [hs]; decide)
      · exact absurd q hni
      · exact hts _ (List.mem_filter.mpr ⟨sm_w_in q, rfl⟩)
    have hc := (sm_cls_of ha).1
    have hi := sm_wl_at (dA := dA) (base := base) (sm_tg_lt hti (by omega))
    rw [sm_cell_o hti ha.1] at hi
    have hrec := va_recv hK hZ.1 hc hi
    rw [show (sm_C a, sm_T a, sm_nf a).1 = (sm_yn y).cls from hC] at hrec
    have hn : (as'.map (sm_tr base sA)).length = sm_yp y := by
      have := congrArg List.length hst
      rw [List.length_reverse, hlen, List.length_cons] at this
      rw [List.length_map]
      omega
    have hq : ((st.take b).reverse).map (sm_tr base sA) = .ref (base + i) :: as'.map (sm_tr base sA) := by rw [hst]; rfl
    rw [hq]
    have hp : PreV s H (sm_yn y).cls (base + i) (sm_Pc D dA base sA SP (st.take b).reverse u) (as'.map (sm_tr base sA)) := ⟨sm_blind hSP _ _, hrec, by rw [← hq]; exact hpre⟩
    have hst2 : st.map (sm_tr base sA) = (as'.map (sm_tr base sA)).reverse ++ .ref (base + i) :: (st.drop b).map (sm_tr base sA) := by
      rw [hstk _ hst]; simp [sm_tr]
    rcases hl with hl | hl
    · exact va_runV (bytes := sm_yb y) (maxL := sm_yl y) (ret := sm_yr y) hfix hM ⟨callB_of (sm_yp y) hts hG rfl rfl rfl hini (hts _ (List.mem_filter.mpr ⟨sm_w_in hl, rfl⟩)) hdsc hroom, hinst, hsel⟩ hp rfl hn hL.2.1 hst2 (lv_room hrest) hdg hf
    · exact va_runVN (bytes := sm_yb y) (maxL := sm_yl y) (ret := sm_yr y) (host := "WhatWasNearly") hfix hM ⟨va_cnB (sm_yp y) hts hG rfl rfl rfl (hNW _ (sm_w_in hl) rfl) hini hdsc hroom, hinst, hsel⟩ hp rfl hn hL.2.1 hst2 (lv_room hrest) hdg hf
  · have hinst : (Cond.instanceMethod (sm_yn y)).before args s = true := by
      have y2' : sm_w h4.2.1 = some (.instanceMethod (sm_yn y)) := by rw [y2]; show some (match sm_ys y with | true => _ | false => Cond.instanceMethod (sm_yn y)) = _; rw [hs]
      exact hts _ (List.mem_filter.mpr ⟨sm_w_in y2', rfl⟩)
    have hn : (as'.map (sm_tr base sA)).length = sm_yp y := by
      have := congrArg List.length hst
      rw [List.length_reverse, hlen, List.length_cons] at this
      rw [List.length_map]
      omega
    have hq : ((st.take b).reverse).map (sm_tr base sA) = .ref (base + i) :: as'.map (sm_tr base sA) := by rw [hst]; rfl
    rw [hq]
    have hp : PreS s H (sm_Pc D dA base sA SP (st.take b).reverse u) (.ref (base + i) :: as'.map (sm_tr base sA)) := ⟨sm_blind hSP _ _, by rw [← hq]; exact hpre⟩
    have hst2 : st.map (sm_tr base sA) = (as'.map (sm_tr base sA)).reverse ++ .ref (base + i) :: (st.drop b).map (sm_tr base sA) := by
      rw [hstk _ hst]; simp [sm_tr]
    have hwr : sm_ws y = Cond.code (sm_yn y) (sm_yb y) (sm_yl y) none :: sm_gt := by unfold sm_ws; rw [hret]
    rcases hl with hl | hl
    · exact va_runI (bytes := sm_yb y) (maxL := sm_yl y) hfix hM ⟨callB_of (sm_yp y) hts hG hwr rfl rfl hini (hts _ (List.mem_filter.mpr ⟨sm_w_in hl, rfl⟩)) hdsc hroom, hni, hinst⟩ hp rfl hn hL.2.1 hst2 (lv_room hrest) hdg hf
    · exact va_runIN (bytes := sm_yb y) (maxL := sm_yl y) (host := "WhatWasNearly") hfix hM ⟨va_cnB (sm_yp y) hts hG hwr rfl rfl (hNW _ (sm_w_in hl) rfl) hini hdsc hroom, hni, hinst⟩ hp rfl hn hL.2.1 hst2 (lv_room hrest) hdg hf
end
