section
variable {p : Program} {l : Launch} {e : Env} {R : Room} {s : State} {m : MethodId} {args : Array Value} {below : List Frame} {meth : Method} {c0 : Code} {Q : State → Prop}
variable {own : String} {cc : ByteArray} {nL : Nat} {D : va_G} {dA : Nat → ClassId} {base : Nat} {sA : Nat → Nat} {SP : State → Prop} {len0 tot0 : Nat}
variable {call : Nat → List Value → sm_M → sm_R} {jmp : Nat → sm_Ls → List Value → sm_M → sm_R} {k : sm_Ls → List Value → sm_M → sm_R} {o : Option Value × sm_M} {pcs : List Nat}
def sm_sg (sA : Nat → Nat) (SP : State → Prop) : Prop := ∀ (U : State) (j x h : Nat) (t : String), SP U → sm_str[j]? = some t → sm_w h = some (.stringRef R_P x t) → vk_R R_P x t (sA j) U
theorem sm_in2_of {a b : Nat} (h : sm_in2 a b = true) : (100 ≤ a ∧ a < 113) ∧ b < sm_nf a := by
  unfold sm_in2 at h
  simp only [Bool.and_eq_true] at h
  exact ⟨⟨Nat.le_of_ble_eq_true h.1.1, Nat.le_of_ble_eq_true h.1.2⟩, Nat.le_of_ble_eq_true h.2⟩
theorem sm_isG_of {ri : Instr} (h : sm_isG ri = true) : ∃ x, ri = .getfield x := by
  cases ri <;> first | exact ⟨_, rfl⟩ | cases h
theorem sm_isP_of {ri : Instr} (h : sm_isP ri = true) : ∃ x, ri = .putfield x := by
  cases ri <;> first | exact ⟨_, rfl⟩ | cases h
theorem sm_isIS_of {ri : Instr} (h : sm_isIS ri = true) : ∃ x, ri = .invokestatic x := by
  cases ri <;> first | exact ⟨_, rfl⟩ | cases h
/-- behind a call -/
theorem sm_after {y b c pc : Nat} {u : sm_M} {st : List Value} {ls : sm_Ls} {la : Array Slot} {H : Heap} {locs : List Loc} {cells slots : Nat}
    (hk : ∀ ls st u, k ls st u = some o → sm_G p l e R s m args below meth c0 Q nL D dA base sA len0 tot0 (pc + 3) ls st u) (hL : sm_lo base sA nL ls la) (hZ : sm_Z D dA base s len0 tot0 u H locs cells slots)
    (hkm : sm_mk k) (hCm : sm_mc call) (hroom : o.2.1.length ≤ len0 + R.cells ∧ sm_tot o.2 ≤ tot0 + R.slots)
    (hrun : ∀ r v, call y (st.take b).reverse u = some (r, v) → (cells + (v.1.length - u.1.length) ≤ R.cells ∧ slots + (sm_tot v - sm_tot u) ≤ R.slots) → va_Run p l e R s m args below meth c0 H locs cells slots (v.1.length - u.1.length) (sm_tot v - sm_tot u) (F0 m pc la (st.map (sm_tr base sA))) ((st.drop b).map (sm_tr base sA)) (sm_Qc D dA base r v (((st.take b).reverse).map (sm_tr base sA)).toArray) (fun q => base ≤ q))
    (h : (match c with
      | 0 => sm_rv (call y (st.take b).reverse u) fun u' => k ls (st.drop b) u'
      | 1 => sm_ri (call y (st.take b).reverse u) fun x u' => k ls (.int x :: st.drop b) u'
      | _ => sm_rl (call y (st.take b).reverse u) fun x u' => k ls (.long x :: st.drop b) u') = some o) :
    W p l e R s m args below meth c0 H locs cells slots Q (F0 m pc la (st.map (sm_tr base sA))) := by
  have zz : ∀ v : sm_M, sm_le u v → ∀ (H1 : Heap) (locs1 : List Loc), va_P D sm_classes (sm_wl dA base v) H1 → va_S (fun q => base ≤ q) s.heap H1 locs1 → sm_Z D dA base s len0 tot0 v H1 locs1 (cells + (v.1.length - u.1.length)) (slots + (sm_tot v - sm_tot u)) := by
    intro v hle H1 locs1 hP hS
    have h1 := hZ.2.2.1
    have h2 := hZ.2.2.2
    have h3 := hle.1
    have h4 := hle.2
    exact ⟨hP, hS, by omega, by omega⟩
  have rr : ∀ v : sm_M, sm_le u v → sm_le v o.2 → (cells + (v.1.length - u.1.length) ≤ R.cells ∧ slots + (sm_tot v - sm_tot u) ≤ R.slots) := by
    intro v h3 h4
    have h1 := hZ.2.2.1
    have h2 := hZ.2.2.2
    have h5 := h3.1
    have h6 := h3.2
    have h7 := h4.1
    have h8 := h4.2
    omega
  obtain ⟨o1, o2⟩ := o
  split at h
  · obtain ⟨v, h1, h⟩ := sv_rv h
    have hle := hCm _ _ _ _ _ h1
    exact va_callv (a := (((st.take b).reverse).map (sm_tr base sA)).toArray) (hrun _ _ h1 (rr v hle (hkm _ _ _ _ _ h))) hZ.2.1 (fun q _ h => h) (fun q h => h) (fun _ t H1 locs1 ht hvm _ hB hz1 hk1 hS1 => hk _ _ _ h _ _ _ _ _ hL (zz v hle H1 locs1 (by rw [← ht]; exact hB) hS1))
  · obtain ⟨x, v, h1, h⟩ := sv_ri h
    have hle := hCm _ _ _ _ _ h1
    refine va_calli (a := (((st.take b).reverse).map (sm_tr base sA)).toArray) (hrun _ _ h1 (rr v hle (hkm _ _ _ _ _ h))) hZ.2.1 (fun q _ h => h) (fun q h => h) (fun r _ t H1 locs1 ht hvm hr hB hz1 hk1 hS1 => ?_)
    subst hr
    exact hk _ _ _ h _ _ _ _ _ hL (zz v hle H1 locs1 (by rw [← ht]; exact hB) hS1)
  · obtain ⟨x, v, h1, h⟩ := sv_rl h
    have hle := hCm _ _ _ _ _ h1
    refine va_calll (a := (((st.take b).reverse).map (sm_tr base sA)).toArray) (hrun _ _ h1 (rr v hle (hkm _ _ _ _ _ h))) hZ.2.1 (fun q _ h => h) (fun q h => h) (fun r _ t H1 locs1 ht hvm hr hB hz1 hk1 hS1 => ?_)
    subst hr
    exact hk _ _ _ h _ _ _ _ _ hL (zz v hle H1 locs1 (by rw [← ht]; exact hB) hS1)
theorem sm_pl_fl {own : String} {x a b h : Nat} (hp : sm_pl own x a b h) : sm_fl own x a b h := by
  unfold sm_pl at hp
  split at hp
  · exact Or.inl hp.1
  · exact hp
theorem sm_pl_fin {own : String} {x a b h : Nat} {init : Bool} (hi : init = true → meth.name = "<init>") (hb : (!(sm_T a b).2.2.2 || init) = true) (hp : sm_pl own x a b h) : (sm_T a b).2.2.2 = false ∨ ((sm_T a b).2.2.2 = true ∧ meth.name = "<init>" ∧ (sm_T a b).1 = own ∧ sm_w h = some (.fieldLink own x (sm_T a b).1 (sm_T a b).2.1 (sm_T a b).2.2.1)) := by
  cases hf : (sm_T a b).2.2.2 with
  | false => exact Or.inl rfl
  | true =>
    right
    unfold sm_pl at hp
    rw [hf] at hp
    rw [hf] at hb
    exact ⟨rfl, hi (by simpa using hb), hp.2, hp.1⟩
theorem sm_ok2 {op a b c d h0 pc len dd : Nat} {ri : Instr} {init : Bool} (X : sm_cx p R s m args c0 own cc nL D dA base SP len0) (hSP : sm_st base SP) (hSS : sm_sg sA SP) (hdg : op ≠ 18 → decode cc pc = .ok (ri, len)) (hm : sm_mb init pcs op a b c d ri pc len = true) (hl : sm_lk own op a b d ri h0) (hinit : init = true → meth.name = "<init>")
    (hk : ∀ ls st u, k ls st u = some o → sm_G p l e R s m args below meth c0 Q nL D dA base sA len0 tot0 (pc + len) ls st u)
    (hj : ∀ t ls st u, jmp t ls st u = some o → sm_G p l e R s m args below meth c0 Q nL D dA base sA len0 tot0 (pcs.getD t 0) ls st u)
    (hkm : sm_mk k) (hCm : sm_mc call) (hroom : o.2.1.length ≤ len0 + R.cells ∧ sm_tot o.2 ≤ tot0 + R.slots) (hR : dd + 1 ≤ R.frames ∧ 40 * (dd + 1) ≤ R.locals)
    (hretz : ∀ (x : Int32) (u : sm_M) (H : Heap) (locs : List Loc) (cells slots : Nat) (la : Array Slot), (x = 0 ∨ x = 1) → op = 22 → decode cc pc = .ok (.ireturn, 1) → some (some (.int x), u) = some o → sm_Z D dA base s len0 tot0 u H locs cells slots → W p l e R s m args below meth c0 H locs cells slots Q (F0 m pc la [.int x]))
    (hC : ∀ y as u r v, y < sm_ml.length → call y as u = some (r, v) → sm_Met l D dA base sA SP dd y as u r v)
    {ls : sm_Ls} {st : List Value} {u : sm_M} (h : sm_x2 call jmp op a b c d ls st u k = some o) : sm_G p l e R s m args below meth c0 Q nL D dA base sA len0 tot0 pc ls st u := by
  intro H locs cells slots la hL hZ
  have X0 := X
  obtain ⟨hx, hb, hml, hown, hts, hNW, hK, hS, hsz0, hfr, hlo⟩ := X
  have mall : ∀ y, y < sm_ml.length → ∃ h4, sm_mP (sm_ym y) h4 := by
    intro y hy
    have e1 : sm_ml[y]? = some (sm_ym y) := by
      unfold sm_ym
      rw [List.getD_eq_getElem?_getD, List.getElem?_eq_getElem hy]
      rfl
    exact sm_all_at sm_mall e1
  unfold sm_x2 at h
  split at h
  -- 0 get int
  · obtain ⟨i, r, rfl, hh⟩ := sv_a1 h
    obtain ⟨ht, hh⟩ := sv_if hh
    simp only [sm_mb, Bool.and_eq_true, beq_iff_eq] at hm
    obtain ⟨⟨⟨g1, rfl⟩, g3⟩, g4⟩ := hm
    obtain ⟨x, rfl⟩ := sm_isG_of g1
    obtain ⟨ha, hb2⟩ := sm_in2_of g3
    have g4 := Nat.eq_of_beq_eq_true g4
    exact sm_ok_get X0 (hdg (by decide)) ha hb2 hl ht (by unfold sm_fv; rw [g4]; rfl) hZ (hk _ _ _ hh _ _ _ _ _ hL hZ)
  -- 1 get ref
  · obtain ⟨i, r, rfl, hh⟩ := sv_a1 h
    obtain ⟨ht, hh⟩ := sv_if hh
    obtain ⟨q, hq, hh⟩ := sv_rr hh
    simp only [sm_mb, Bool.and_eq_true, beq_iff_eq] at hm
    obtain ⟨⟨⟨g1, rfl⟩, g3⟩, g4⟩ := hm
    obtain ⟨x, rfl⟩ := sm_isG_of g1
    obtain ⟨ha, hb2⟩ := sm_in2_of g3
    have g4 := Nat.eq_of_beq_eq_true g4
    exact sm_ok_get X0 (hdg (by decide)) ha hb2 hl ht (v := .ref (base + q)) (by unfold sm_fv; rw [g4, hq]; rfl) hZ (hk _ _ _ hh _ _ _ _ _ hL hZ)
  -- 2 put int
  · split at h
    · rename_i v i r
      obtain ⟨ht, hh⟩ := sv_if h
      simp only [sm_mb, Bool.and_eq_true, beq_iff_eq, decide_eq_true_eq] at hm
      obtain ⟨⟨⟨⟨⟨g1, rfl⟩, g3⟩, g4⟩, g5⟩, g6⟩ := hm
      obtain ⟨x, rfl⟩ := sm_isP_of g1
      obtain ⟨ha, hb2⟩ := sm_in2_of g3
      have g4 := Nat.eq_of_beq_eq_true g4
      exact sm_ok_put (u' := sm_wI u i b v) (v := .int v) X0 (hdg (by decide)) ha hb2 (sm_pl_fl hl) ht (sm_pl_fin hinit g6 hl) (by rw [g5]; rfl) (by rw [g5]; rfl) rfl (sm_set_oi ht ha.1 hb2 g4) hZ (fun H1 locs1 hZ1 => hk _ _ _ hh _ _ _ _ _ hL hZ1)
    · cases h
  -- 3 put boolean
  · split at h
    · rename_i v i r
      obtain ⟨⟨ht, hv⟩, hh⟩ := sv_if h
      simp only [sm_mb, Bool.and_eq_true, beq_iff_eq, decide_eq_true_eq] at hm
      obtain ⟨⟨⟨⟨⟨g1, rfl⟩, g3⟩, g4⟩, g5⟩, g6⟩ := hm
      obtain ⟨x, rfl⟩ := sm_isP_of g1
      obtain ⟨ha, hb2⟩ := sm_in2_of g3
      have g4 := Nat.eq_of_beq_eq_true g4
      exact sm_ok_put (u' := sm_wI u i b v) (v := .int v) X0 (hdg (by decide)) ha hb2 (sm_pl_fl hl) ht (sm_pl_fin hinit g6 hl) (by rw [g5]; rcases hv with rfl | rfl <;> rfl) (by rw [g5]; rcases hv with rfl | rfl <;> rfl) rfl (sm_set_oi ht ha.1 hb2 g4) hZ (fun H1 locs1 hZ1 => hk _ _ _ hh _ _ _ _ _ hL hZ1)
    · cases h
  -- 4 put ref
  · split at h
    · rename_i v i r
      obtain ⟨⟨ht, hv⟩, hh⟩ := sv_if h
      simp only [sm_mb, Bool.and_eq_true, beq_iff_eq, decide_eq_true_eq] at hm
      obtain ⟨⟨⟨⟨⟨g1, rfl⟩, g3⟩, g4⟩, g5⟩, g6⟩ := hm
      obtain ⟨x, rfl⟩ := sm_isP_of g1
      obtain ⟨ha, hb2⟩ := sm_in2_of g3
      have g4 := Nat.eq_of_beq_eq_true g4
      exact sm_ok_put (u' := sm_wR u i b (some v)) (v := .ref (base + v)) X0 (hdg (by decide)) ha hb2 (sm_pl_fl hl) ht (sm_pl_fin hinit g6 hl) (by cases hft : sm_ft a b <;> rw [hft] at g5 <;> first | rfl | cases g5) (by cases hft : sm_ft a b <;> rw [hft] at g5 <;> first | rfl | cases g5) rfl (sm_set_or ht ha.1 hb2 g4) hZ (fun H1 locs1 hZ1 => hk _ _ _ hh _ _ _ _ _ hL hZ1)
    · cases h
  -- 5 static call
  · obtain ⟨h1, hh⟩ := sv_bp h
    rw [Bool.and_eq_true] at h1
    simp only [sm_mb, Bool.and_eq_true, beq_iff_eq] at hm
    obtain ⟨⟨⟨⟨⟨g1, rfl⟩, g3⟩, g4⟩, g5⟩, g6⟩ := hm
    obtain ⟨x, rfl⟩ := sm_isIS_of g1
    have hlt : a < sm_ml.length := Nat.le_of_ble_eq_true g3
    obtain ⟨h4, hy⟩ := mall a hlt
    refine sm_sized X0 hZ (fun hsz => ?_)
    exact sm_after (c := c) (b := b) hk hL hZ hkm hCm hroom (fun r v hcv hf => sm_call_run X0 hSP hy (hdg (by decide)) hl (Or.inl ⟨rfl, g4, Nat.eq_of_beq_eq_true g5⟩) (hC _ _ _ _ _ hlt hcv) hR h1.1 h1.2 hL hZ hsz hf) hh
  -- 6 virtual or special call
  · obtain ⟨v0, hv0, hh⟩ := sv_gl h
    obtain ⟨i, _, hvi, hh⟩ := sv_a1 hh
    cases hvi
    obtain ⟨ht, hh⟩ := sv_if hh
    obtain ⟨h1, hh⟩ := sv_bp hh
    rw [Bool.and_eq_true] at h1
    obtain ⟨as', has⟩ : ∃ as', (st.take b).reverse = .ref i :: as' := by
      cases hq : (st.take b).reverse with
      | nil => rw [hq] at hv0; cases hv0
      | cons w as' =>
        rw [hq] at hv0
        simp only [List.map_cons, List.getElem?_cons_zero, Option.some.injEq] at hv0
        exact ⟨as', by rw [hv0]⟩
    simp only [sm_mb, Bool.and_eq_true, beq_iff_eq, Bool.not_eq_true'] at hm
    obtain ⟨⟨⟨⟨⟨⟨⟨rfl, g3⟩, g4⟩, g5⟩, g6⟩, g7⟩, g8⟩, g9⟩ := hm
    have hlt : a < sm_ml.length := Nat.le_of_ble_eq_true g3
    obtain ⟨h4, hy⟩ := mall a hlt
    refine sm_sized X0 hZ (fun hsz => ?_)
    refine sm_after (c := c) (b := b) hk hL hZ hkm hCm hroom (fun r v hcv hf => ?_) hh
    split at g9
    · exact sm_call_run X0 hSP hy (hdg (by decide)) hl.1 (Or.inr (Or.inl ⟨rfl, g4, Nat.eq_of_beq_eq_true g5, by simpa using g9, i, as', d, has, ht, ⟨Nat.le_of_ble_eq_true g7, Nat.le_of_ble_eq_true g8⟩, hl.2⟩)) (hC _ _ _ _ _ hlt hcv) hR h1.1 h1.2 hL hZ hsz hf
    · simp only [Bool.and_eq_true, decide_eq_true_eq] at g9
      have hr0 : sm_yr a = none := by
        have e1 := Nat.eq_of_beq_eq_true g6
        have e2 := Nat.eq_of_beq_eq_true g9.2
        rw [e2] at e1
        unfold sm_rk at e1
        split at e1
        · assumption
        · cases e1
        · cases e1
      exact sm_call_run X0 hSP hy (hdg (by decide)) hl.1 (Or.inr (Or.inr ⟨rfl, g4, Nat.eq_of_beq_eq_true g5, g9.1, hr0, i, as', has⟩)) (hC _ _ _ _ _ hlt hcv) hR h1.1 h1.2 hL hZ hsz hf
    · cases g9
  -- 7 get long
  · obtain ⟨i, r, rfl, hh⟩ := sv_a1 h
    obtain ⟨ht, hh⟩ := sv_if hh
    simp only [sm_mb, Bool.and_eq_true, beq_iff_eq] at hm
    obtain ⟨⟨⟨g1, rfl⟩, g3⟩, g4⟩ := hm
    obtain ⟨x, rfl⟩ := sm_isG_of g1
    obtain ⟨ha, hb2⟩ := sm_in2_of g3
    have g4 := Nat.eq_of_beq_eq_true g4
    exact sm_ok_get X0 (hdg (by decide)) ha hb2 hl ht (by unfold sm_fv; rw [g4]; rfl) hZ (hk _ _ _ hh _ _ _ _ _ hL hZ)
  -- 8 put long
  · split at h
    · rename_i v i r
      obtain ⟨ht, hh⟩ := sv_if h
      simp only [sm_mb, Bool.and_eq_true, beq_iff_eq, decide_eq_true_eq] at hm
      obtain ⟨⟨⟨⟨⟨g1, rfl⟩, g3⟩, g4⟩, g5⟩, g6⟩ := hm
      obtain ⟨x, rfl⟩ := sm_isP_of g1
      obtain ⟨ha, hb2⟩ := sm_in2_of g3
      have g4 := Nat.eq_of_beq_eq_true g4
      exact sm_ok_put (u' := sm_wL u i b v) (v := .long v) X0 (hdg (by decide)) ha hb2 (sm_pl_fl hl) ht (sm_pl_fin hinit g6 hl) (by rw [g5]; rfl) (by rw [g5]; rfl) rfl (sm_set_ol ht ha.1 hb2 g4) hZ (fun H1 locs1 hZ1 => hk _ _ _ hh _ _ _ _ _ hL hZ1)
    · cases h
  -- 9, 10 long constants
  · simp only [sm_mb] at hm
    split at hm
    · simp only [Bool.and_eq_true, beq_iff_eq, decide_eq_true_eq] at hm
      obtain ⟨g1, rfl⟩ := hm
      exact lv_lconst hx hb (hdg (by decide)) g1 (hk _ _ _ h _ _ _ _ _ hL hZ)
    · simp only [beq_iff_eq] at hm
      subst hm
      exact lv_ldc2 hx hb hown (hts _ (List.mem_filter.mpr ⟨sm_w_in hl, rfl⟩)) (hdg (by decide)) (hk _ _ _ h _ _ _ _ _ hL hZ)
    · cases hm
  · simp only [sm_mb] at hm
    split at hm
    · simp only [beq_iff_eq] at hm
      subst hm
      exact lv_ldc2 hx hb hown (hts _ (List.mem_filter.mpr ⟨sm_w_in hl, rfl⟩)) (hdg (by decide)) (hk _ _ _ h _ _ _ _ _ hL hZ)
    · cases hm
  -- 11 a text
  · simp only [sm_mb, Bool.and_eq_true, beq_iff_eq] at hm
    obtain ⟨g1, rfl⟩ := hm
    split at g1
    · obtain ⟨ho, t, ht, hw⟩ := hl
      subst ho
      exact va_ldcS hx hb hown (hSS s a _ h0 t hS ht hw) (hdg (by decide)) (hk _ _ _ h _ _ _ _ _ hL hZ)
    · cases g1
  -- 12 Object.<init>
  · obtain ⟨i, r, rfl, hh⟩ := sv_a1 h
    obtain ⟨h1, hh⟩ := sv_bp hh
    simp only [sm_mb, Bool.and_eq_true, beq_iff_eq] at hm
    obtain ⟨g1, rfl⟩ := hm
    split at g1
    · have hrs := sm_rest (base := base) (sA := sA) (st := r) (b := 0) h1
      refine W.objInit hx hb hown (hts _ (List.mem_filter.mpr ⟨sm_w_in hl, rfl⟩)) (hts _ (List.mem_filter.mpr ⟨gw_oi, rfl⟩)) (hts _ (List.mem_filter.mpr ⟨gw_oc, rfl⟩)) rfl (by rw [hml]; exact hL.2.1) rfl (hdg (by decide)) hfr ?_ (hk _ _ _ hh _ _ _ _ _ hL hZ)
      show 2 * 0 + ((r.map (sm_tr base sA)).map fun v => v.category).sum + 12 ≤ R.locals
      have hrs : ((r.map (sm_tr base sA)).map fun v => v.category).sum ≤ 8 := hrs
      omega
    · cases g1
  -- 13 arraycopy
  · split at h
    · rename_i n dp q sp i r
      obtain ⟨⟨ht1, ht2, h3, h4, h5, h6, h7⟩, hh⟩ := sv_if h
      obtain ⟨h1, hh⟩ := sv_bp hh
      simp only [sm_mb, Bool.and_eq_true, beq_iff_eq] at hm
      obtain ⟨g1, rfl⟩ := hm
      obtain ⟨x, rfl⟩ := sm_isIS_of g1
      have hi := sm_wl_at (dA := dA) (base := base) (sm_tg_lt ht1 (by decide))
      rw [sm_cell_i ht1 (Or.inl rfl)] at hi
      have hq := sm_wl_at (dA := dA) (base := base) (sm_tg_lt ht2 (by decide))
      rw [sm_cell_i ht2 (Or.inl rfl)] at hq
      have hrs := sm_rest (base := base) (sA := sA) (st := r) (b := 0) h1
      have hrs : ((r.map (sm_tr base sA)).map fun v => v.category).sum ≤ 8 := hrs
      refine va_copyi (ty := .int) hx hb (by rw [hml]; exact hL.2.1.symm) hown (hts _ (List.mem_filter.mpr ⟨sm_w_in hl, rfl⟩)) (hts _ (List.mem_filter.mpr ⟨gw_an, rfl⟩)) (hts _ (List.mem_filter.mpr ⟨gw_as, rfl⟩)) (hts _ (List.mem_filter.mpr ⟨gw_ai, rfl⟩)) hK hZ.1 (sm_wl_D u) hZ.2.1 i q 0 0 hi hq rfl rfl rfl (Int32.not_lt.mpr h3) (Int32.not_lt.mpr h4) (Int32.not_lt.mpr h5) h6 h7 (fun j _ => rfl) hfr ?_ (hdg (by decide)) (fun H1 locs1 hP1 hD1 hS1 => ?_)
      · have e1 : nativeFrameWords "java/lang/System" "arraycopy" 5 + 11 ≤ 32 := by decide +kernel
        omega
      · rw [sm_set_c ht2] at hP1
        exact hk _ _ _ hh _ _ _ _ _ hL (hZ.wr rfl hP1 hS1)
    · cases h
  -- 14, 15: no row
  · simp [sm_mb] at hm
  · simp [sm_mb] at hm
  -- 16 new
  · simp only [sm_mb, Bool.and_eq_true, beq_iff_eq] at hm
    obtain ⟨⟨⟨⟨g1, rfl⟩, g3⟩, g4⟩, g5⟩ := hm
    have ha : 100 ≤ a ∧ a < 113 := ⟨Nat.le_of_ble_eq_true g3, Nat.le_of_ble_eq_true g4⟩
    have hbn := Nat.eq_of_beq_eq_true g5
    split at g1
    · rename_i x
      have hle := hkm _ _ _ o.1 o.2 h
      have e1 := hle.1
      have e2 := hle.2
      rw [sm_nw_tot] at e2
      have e1 : u.1.length + 1 ≤ o.2.1.length := by simpa [sm_nw] using e1
      have z1 := hZ.2.2.1
      have z2 := hZ.2.2.2
      have z3 := hroom.1
      have z4 := hroom.2
      subst hbn
      exact sm_ok_new X0 (hdg (by decide)) ha hl hZ (by omega) (by omega) (fun H1 hZ1 => hk _ _ _ h _ _ _ _ _ hL hZ1)
    · cases g1
  -- 17 new arrays
  · obtain ⟨n, r, rfl, hh⟩ := sv_p1 h
    obtain ⟨⟨hn0, hn1⟩, hh⟩ := sv_if hh
    have hle := hkm _ _ _ o.1 o.2 hh
    have e1 := hle.1
    have e2 := hle.2
    rw [sm_nw_tot] at e2
    have e1 : u.1.length + 1 ≤ o.2.1.length := by simpa [sm_nw] using e1
    have z1 := hZ.2.2.1
    have z2 := hZ.2.2.2
    have z3 := hroom.1
    have z4 := hroom.2
    refine sm_ok_newa (ri := ri) (len := len) (h0 := h0) X0 (hdg (by decide)) ?_ hn0 hn1 hZ (by omega) (by omega) (fun H1 hZ1 => hk _ _ _ hh _ _ _ _ _ hL hZ1)
    simp only [sm_mb] at hm
    split at hm
    · simp only [Bool.and_eq_true, beq_iff_eq, decide_eq_true_eq] at hm
      obtain ⟨⟨⟨rfl, rfl⟩, g3⟩, g4⟩ := hm
      exact Or.inl ⟨rfl, rfl, Nat.le_of_ble_eq_true g3, Nat.le_of_ble_eq_true g4⟩
    · simp only [Bool.and_eq_true, beq_iff_eq] at hm
      obtain ⟨⟨rfl, g3⟩, g4⟩ := hm
      exact Or.inr ⟨_, rfl, rfl, Nat.le_of_ble_eq_true g3, Nat.le_of_ble_eq_true g4, hl⟩
    · cases hm
  -- 18 label
  · simp only [sm_mb, Bool.and_eq_true, beq_iff_eq] at hm
    obtain ⟨rfl, g2⟩ := hm
    have g2 := Nat.eq_of_beq_eq_true g2
    have := hj _ _ _ _ h _ _ _ _ _ hL hZ
    rw [g2] at this
    exact this
  -- 19: no row
  · simp [sm_mb] at hm
  -- 20 min
  · obtain ⟨x, y, r, rfl, hh⟩ := sv_p2 h
    obtain ⟨h1, hh⟩ := sv_bp hh
    simp only [sm_mb, Bool.and_eq_true, beq_iff_eq] at hm
    obtain ⟨g1, rfl⟩ := hm
    obtain ⟨xi, rfl⟩ := sm_isIS_of g1
    have hrs := sm_rest (base := base) (sA := sA) (st := r) (b := 0) h1
    have hrs : ((r.map (sm_tr base sA)).map fun v => v.category).sum ≤ 8 := hrs
    have hle := hkm _ _ _ o.1 o.2 hh
    have z1 := hZ.2.2.1
    have z2 := hZ.2.2.2
    have z5 := hle.1
    have z6 := hle.2
    exact va_mmin hx hb (by rw [hml]; exact hL.2.1.symm) hown (hts _ (List.mem_filter.mpr ⟨sm_w_in hl, rfl⟩)) (hts _ (List.mem_filter.mpr ⟨gw_mins, rfl⟩)) (hts _ (List.mem_filter.mpr ⟨gw_mi, rfl⟩)) (hts _ (List.mem_filter.mpr ⟨gw_minc, rfl⟩)) hfr (by omega) (by omega) (by omega) (hdg (by decide)) (hk _ _ _ hh _ _ _ _ _ hL hZ)
  -- 21 abs
  · obtain ⟨x, r, rfl, hh⟩ := sv_p1 h
    obtain ⟨h1, hh⟩ := sv_bp hh
    simp only [sm_mb, Bool.and_eq_true, beq_iff_eq] at hm
    obtain ⟨g1, rfl⟩ := hm
    obtain ⟨xi, rfl⟩ := sm_isIS_of g1
    have hrs := sm_rest (base := base) (sA := sA) (st := r) (b := 0) h1
    have hrs : ((r.map (sm_tr base sA)).map fun v => v.category).sum ≤ 8 := hrs
    have hle := hkm _ _ _ o.1 o.2 hh
    have z1 := hZ.2.2.1
    have z2 := hZ.2.2.2
    have z5 := hle.1
    have z6 := hle.2
    exact va_mabs hx hb (by rw [hml]; exact hL.2.1.symm) hown (hts _ (List.mem_filter.mpr ⟨sm_w_in hl, rfl⟩)) (hts _ (List.mem_filter.mpr ⟨gw_abss, rfl⟩)) (hts _ (List.mem_filter.mpr ⟨gw_mi, rfl⟩)) (hts _ (List.mem_filter.mpr ⟨gw_absc, rfl⟩)) hfr (by omega) (by omega) (by omega) (hdg (by decide)) (hk _ _ _ hh _ _ _ _ _ hL hZ)
  -- 22 a boolean's return; others have no row
  · have hop : op = 22 := by
      unfold sm_mb at hm
      split at hm <;> first | rfl | (exfalso; first | exact absurd rfl (by assumption) | cases hm | simp_all)
    subst hop
    split at h
    · obtain ⟨hv, hh⟩ := sv_if h
      simp only [sm_mb, Bool.and_eq_true, beq_iff_eq, decide_eq_true_eq] at hm
      obtain ⟨rfl, rfl⟩ := hm
      exact hretz _ _ _ _ _ _ la hv rfl (hdg (by decide)) hh hZ
    · cases h
end
