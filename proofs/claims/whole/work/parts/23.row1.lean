def sm_same : Instr → Bool
  | .iadd => true
  | .isub => true
  | .imul => true
  | .iand => true
  | .ior => true
  | .ixor => true
  | .ishl => true
  | .ishr => true
  | .iushr => true
  | .idiv => true
  | .irem => true
  | .ineg => true
  | .ladd => true
  | .lsub => true
  | .lmul => true
  | .lor => true
  | .ldiv => true
  | .lrem => true
  | .lneg => true
  | .lshl => true
  | .lshr => true
  | .lcmp => true
  | .i2l => true
  | .l2i => true
  | .dup => true
  | .dup2 => true
  | .pop => true
  | .iaload => true
  | .baload => true
  | .laload => true
  | .aaload => true
  | .iastore => true
  | .bastore => true
  | .lastore => true
  | .aastore => true
  | .arraylength => true
  | .ireturn => true
  | .lreturn => true
  | .return_ => true
  | _ => false
section
variable {p : Program} {l : Launch} {e : Env} {R : Room} {s : State} {m : MethodId} {args : Array Value} {below : List Frame} {meth : Method} {c : Code} {Q : State → Prop}
variable {own : String} {cc : ByteArray} {nL : Nat} {D : va_G} {dA : Nat → ClassId} {base : Nat} {sA : Nat → Nat} {SP : State → Prop} {len0 tot0 : Nat}
variable {jmp : Nat → sm_Ls → List Value → sm_M → sm_R} {k : sm_Ls → List Value → sm_M → sm_R} {o : Option Value × sm_M} {pcs : List Nat}
/-- instructions that stand for themselves -/
theorem sm_ok_same {i : Instr} {pc : Nat} (X : sm_cx p R s m args c own cc nL D dA base SP len0) (hdg : decode cc pc = .ok (i, 1))
    (hk : ∀ ls st u, k ls st u = some o → sm_G p l e R s m args below meth c Q nL D dA base sA len0 tot0 (pc + 1) ls st u)
    (hret : ∀ (rv : Option Value) (u : sm_M) (H : Heap) (locs : List Loc) (cells slots : Nat) (la : Array Slot), (i = .ireturn ∧ ∃ x, rv = some (.int x)) ∨ (i = .lreturn ∧ ∃ x, rv = some (.long x)) ∨ (i = .return_ ∧ rv = none) → some (rv, u) = some o → sm_Z D dA base s len0 tot0 u H locs cells slots → W p l e R s m args below meth c H locs cells slots Q (F0 m pc la (rv.toList.map (sm_tr base sA))))
    (hs : sm_same i = true) {ls : sm_Ls} {st : List Value} {u : sm_M}
    (h : sm_x1 jmp i ls st u k = some o) : sm_G p l e R s m args below meth c Q nL D dA base sA len0 tot0 pc ls st u := by
  obtain ⟨hx, hb, hml, hown, hts, hNW, hK, hSP, hsz, hfr, hlo⟩ := X
  intro H locs cells slots la hL hZ
  have hD := sm_wl_D (dA := dA) (base := base) u
  cases i with
  | iadd => obtain ⟨x, y, r, rfl, h⟩ := sv_p2 h; exact lv_iadd hx hb hdg (hk _ _ _ h _ _ _ _ _ hL hZ)
  | isub => obtain ⟨x, y, r, rfl, h⟩ := sv_p2 h; exact lv_isub hx hb hdg (hk _ _ _ h _ _ _ _ _ hL hZ)
  | imul => obtain ⟨x, y, r, rfl, h⟩ := sv_p2 h; exact lv_imul hx hb hdg (hk _ _ _ h _ _ _ _ _ hL hZ)
  | iand => obtain ⟨x, y, r, rfl, h⟩ := sv_p2 h; exact lv_iand hx hb hdg (hk _ _ _ h _ _ _ _ _ hL hZ)
  | ior => obtain ⟨x, y, r, rfl, h⟩ := sv_p2 h; exact lv_ior hx hb hdg (hk _ _ _ h _ _ _ _ _ hL hZ)
  | ixor => obtain ⟨x, y, r, rfl, h⟩ := sv_p2 h; exact lv_ixor hx hb hdg (hk _ _ _ h _ _ _ _ _ hL hZ)
  | ishl => obtain ⟨x, y, r, rfl, h⟩ := sv_p2 h; exact lv_ishl hx hb hdg (hk _ _ _ h _ _ _ _ _ hL hZ)
  | ishr => obtain ⟨x, y, r, rfl, h⟩ := sv_p2 h; exact lv_ishr hx hb hdg (hk _ _ _ h _ _ _ _ _ hL hZ)
  | iushr => obtain ⟨x, y, r, rfl, h⟩ := sv_p2 h; exact lv_iushr hx hb hdg rfl (hk _ _ _ h _ _ _ _ _ hL hZ)
  | idiv => obtain ⟨x, y, r, rfl, h⟩ := sv_p2 h; obtain ⟨hn, h⟩ := sv_ifn h; exact lv_idiv hx hb hdg hn (hk _ _ _ h _ _ _ _ _ hL hZ)
  | irem => obtain ⟨x, y, r, rfl, h⟩ := sv_p2 h; obtain ⟨hn, h⟩ := sv_ifn h; exact lv_irem hx hb hdg hn (hk _ _ _ h _ _ _ _ _ hL hZ)
  | ineg => obtain ⟨x, r, rfl, h⟩ := sv_p1 h; exact lv_ineg hx hb hdg (hk _ _ _ h _ _ _ _ _ hL hZ)
  | ladd => obtain ⟨x, y, r, rfl, h⟩ := sv_q2 h; exact lv_ladd hx hb hdg (hk _ _ _ h _ _ _ _ _ hL hZ)
  | lsub => obtain ⟨x, y, r, rfl, h⟩ := sv_q2 h; exact lv_lsub hx hb hdg (hk _ _ _ h _ _ _ _ _ hL hZ)
  | lmul => obtain ⟨x, y, r, rfl, h⟩ := sv_q2 h; exact lv_lmul hx hb hdg (hk _ _ _ h _ _ _ _ _ hL hZ)
  | lor => obtain ⟨x, y, r, rfl, h⟩ := sv_q2 h; exact lv_lor hx hb hdg (hk _ _ _ h _ _ _ _ _ hL hZ)
  | ldiv => obtain ⟨x, y, r, rfl, h⟩ := sv_q2 h; obtain ⟨hn, h⟩ := sv_ifn h; exact lv_ldiv hx hb hdg hn (hk _ _ _ h _ _ _ _ _ hL hZ)
  | lrem => obtain ⟨x, y, r, rfl, h⟩ := sv_q2 h; obtain ⟨hn, h⟩ := sv_ifn h; exact lv_lrem hx hb hdg hn (hk _ _ _ h _ _ _ _ _ hL hZ)
  | lneg => obtain ⟨x, r, rfl, h⟩ := sv_q1 h; exact lv_lneg hx hb hdg (hk _ _ _ h _ _ _ _ _ hL hZ)
  | lshl => obtain ⟨x, y, r, rfl, h⟩ := sv_qs h; exact lv_lshl hx hb hdg rfl (hk _ _ _ h _ _ _ _ _ hL hZ)
  | lshr => obtain ⟨x, y, r, rfl, h⟩ := sv_qs h; exact lv_lshr hx hb hdg rfl (hk _ _ _ h _ _ _ _ _ hL hZ)
  | lcmp => obtain ⟨x, y, r, rfl, h⟩ := sv_q2 h; exact W.lcmp hx hb hdg (hk _ _ _ h _ _ _ _ _ hL hZ)
  | i2l => obtain ⟨x, r, rfl, h⟩ := sv_p1 h; exact lv_i2l hx hb hdg rfl (hk _ _ _ h _ _ _ _ _ hL hZ)
  | l2i => obtain ⟨x, r, rfl, h⟩ := sv_q1 h; exact lv_l2i hx hb hdg rfl (hk _ _ _ h _ _ _ _ _ hL hZ)
  | dup =>
    cases st with
    | nil => cases h
    | cons v r =>
      obtain ⟨hv, h⟩ := sv_bp h
      exact lv_dup hx hb hdg (by rw [sm_tr_cat]; cases v <;> first | rfl | cases hv) (hk _ _ _ h _ _ _ _ _ hL hZ)
  | dup2 =>
    match st, h with
    | v :: w :: r, h =>
      obtain ⟨hv, h⟩ := sv_bp h
      rw [Bool.and_eq_true] at hv
      exact lv_dup2_11 hx hb hdg (by rw [sm_tr_cat]; cases v <;> first | rfl | cases hv.1) (by rw [sm_tr_cat]; cases w <;> first | rfl | cases hv.2) (hk _ _ _ h _ _ _ _ _ hL hZ)
  | pop =>
    cases st with
    | nil => cases h
    | cons v r =>
      obtain ⟨hv, h⟩ := sv_bp h
      exact lv_pop hx hb hdg (by rw [sm_tr_cat]; cases v <;> first | rfl | cases hv) (hk _ _ _ h _ _ _ _ _ hL hZ)
  | iaload =>
    obtain ⟨a, i, r, rfl, h⟩ := sv_ai h
    obtain ⟨⟨ht, hi⟩, h⟩ := sv_if h
    have ha := sm_wl_at (dA := dA) (base := base) (sm_tg_lt ht (by decide))
    rw [sm_cell_i ht (Or.inl rfl)] at ha
    exact va_iald hx hb hK hZ.1 a 0 ha rfl hi hdg (hk _ _ _ h _ _ _ _ _ hL hZ)
  | baload =>
    obtain ⟨a, i, r, rfl, h⟩ := sv_ai h
    obtain ⟨⟨ht, hi⟩, h⟩ := sv_if h
    have ha := sm_wl_at (dA := dA) (base := base) (sm_tg_lt ht (by decide))
    rw [sm_cell_i ht (Or.inr rfl)] at ha
    exact va_zald hx hb hK hZ.1 a 1 ha rfl hi hdg (hk _ _ _ h _ _ _ _ _ hL hZ)
  | laload =>
    obtain ⟨a, i, r, rfl, h⟩ := sv_ai h
    obtain ⟨⟨ht, hi⟩, h⟩ := sv_if h
    have ha := sm_wl_at (dA := dA) (base := base) (sm_tg_lt ht (by decide))
    rw [sm_cell_l ht] at ha
    exact va_lald hx hb hK hZ.1 a 2 ha rfl hi hdg (hk _ _ _ h _ _ _ _ _ hL hZ)
  | aaload =>
    obtain ⟨a, i, r, rfl, h⟩ := sv_ai h
    obtain ⟨⟨h4, h6, hi⟩, h⟩ := sv_if h
    obtain ⟨q, hq, h⟩ := sv_rr h
    have ha := sm_wl_at (dA := dA) (base := base) (sm_tg_lt (u := u) (id := a) rfl (by omega))
    rw [sm_cell_r rfl h4 h6] at ha
    have key : ∀ (t0 : Nat) (C : String), (sm_tys dA)[t0]? = some (dA (sm_tg u a), .object C) → W p l e R s m args below meth c H locs cells slots Q (F0 m pc la ((Value.int i :: Value.ref a :: r).map (sm_tr base sA))) := by
      intro t0 C ht0
      refine va_aldq hx hb hK hZ.1 a t0 ha ht0 hi hdg ?_
      rw [hq]
      exact hk _ _ _ h _ _ _ _ _ hL hZ
    rcases (show sm_tg u a = 4 ∨ sm_tg u a = 5 ∨ sm_tg u a = 6 by omega) with e | e | e
    · exact key 3 R_S (by rw [e]; rfl)
    · exact key 4 R_N (by rw [e]; rfl)
    · exact key 5 R_X (by rw [e]; rfl)
  | iastore =>
    match st, h with
    | .int v :: .int i :: .ref a :: r, h =>
      obtain ⟨⟨ht, hi⟩, h⟩ := sv_if h
      have ha := sm_wl_at (dA := dA) (base := base) (sm_tg_lt ht (by decide))
      rw [sm_cell_i ht (Or.inl rfl)] at ha
      refine va_iast hx hb hK hZ.1 hD hZ.2.1 a 0 ha rfl hi hdg (fun H1 locs1 hP1 hD1 hS1 => ?_)
      rw [sm_set_i ht (Or.inl rfl)] at hP1
      exact hk _ _ _ h _ _ _ _ _ hL (hZ.wr rfl hP1 hS1)
  | bastore =>
    match st, h with
    | .int v :: .int i :: .ref a :: r, h =>
      obtain ⟨⟨⟨ht, hi⟩, hv⟩, h⟩ := sv_if h
      have ha := sm_wl_at (dA := dA) (base := base) (sm_tg_lt ht (by decide))
      rw [sm_cell_i ht (Or.inr rfl)] at ha
      have hnar : vp_nar .boolean v = v := by rcases hv with rfl | rfl <;> decide
      refine va_zast hx hb hK hZ.1 hD hZ.2.1 a 1 ha rfl hi hdg (fun H1 locs1 hP1 hD1 hS1 => ?_)
      rw [hnar, sm_set_i ht (Or.inr rfl)] at hP1
      exact hk _ _ _ h _ _ _ _ _ hL (hZ.wr rfl hP1 hS1)
  | lastore =>
    match st, h with
    | .long v :: .int i :: .ref a :: r, h =>
      obtain ⟨⟨ht, hi⟩, h⟩ := sv_if h
      have ha := sm_wl_at (dA := dA) (base := base) (sm_tg_lt ht (by decide))
      rw [sm_cell_l ht] at ha
      refine va_last hx hb hK hZ.1 hD hZ.2.1 a 2 ha rfl hi hdg (fun H1 locs1 hP1 hD1 hS1 => ?_)
      rw [sm_set_l ht] at hP1
      exact hk _ _ _ h _ _ _ _ _ hL (hZ.wr rfl hP1 hS1)
  | aastore =>
    match st, h with
    | .ref v :: .int i :: .ref a :: r, h =>
      obtain ⟨⟨⟨h4, h6⟩, hv, hi⟩, h⟩ := sv_if h
      have ha := sm_wl_at (dA := dA) (base := base) (sm_tg_lt (u := u) (id := a) rfl (by omega))
      rw [sm_cell_r rfl h4 h6] at ha
      have hvv := sm_wl_at (dA := dA) (base := base) (sm_tg_lt (u := u) (id := v) rfl (by omega))
      rw [sm_cell_o rfl (by omega)] at hvv
      have key : ∀ (t0 ci : Nat) (rc : vw_C), (sm_tys dA)[t0]? = some (dA (sm_tg u a), .object rc.1) → sm_tg u v - 100 = ci → sm_classes[ci]? = some rc → W p l e R s m args below meth c H locs cells slots Q (F0 m pc la ((Value.ref v :: Value.int i :: Value.ref a :: r).map (sm_tr base sA))) := by
        intro t0 ci rc ht0 hci hrc
        rw [hci] at hvv
        refine va_astq hx hb hK hZ.1 hD hZ.2.1 a t0 v ci ha ht0 hvv hrc hi hdg (fun H1 locs1 hP1 hD1 hS1 => ?_)
        rw [sm_set_r rfl h4 h6] at hP1
        exact hk _ _ _ h _ _ _ _ _ hL (hZ.wr rfl hP1 hS1)
      rcases (show sm_tg u a = 4 ∨ sm_tg u a = 5 ∨ sm_tg u a = 6 by omega) with q | q | q
      · exact key 3 0 (R_S, F_S, 7) (by rw [q]; rfl) (by omega) rfl
      · exact key 4 1 (R_N, F_N, 4) (by rw [q]; rfl) (by omega) rfl
      · exact key 5 2 (R_X, F_X, 11) (by rw [q]; rfl) (by omega) rfl
  | arraylength =>
    obtain ⟨a, r, rfl, h⟩ := sv_a1 h
    obtain ⟨⟨h1, h6⟩, h⟩ := sv_if h
    have ha := sm_wl_at (dA := dA) (base := base) (sm_tg_lt (u := u) (id := a) rfl (by omega))
    rcases (show sm_tg u a = 1 ∨ sm_tg u a = 2 ∨ sm_tg u a = 3 ∨ 4 ≤ sm_tg u a by omega) with q | q | q | q
    · rw [sm_cell_i q (Or.inl rfl)] at ha
      exact va_alen hx hb hK hZ.1 a 0 ha (ty := .int) rfl rfl hdg (hk _ _ _ h _ _ _ _ _ hL hZ)
    · rw [sm_cell_i q (Or.inr rfl)] at ha
      exact va_alen hx hb hK hZ.1 a 1 ha (ty := .boolean) rfl rfl hdg (hk _ _ _ h _ _ _ _ _ hL hZ)
    · rw [sm_cell_l q] at ha
      exact va_alen hx hb hK hZ.1 a 2 ha (ty := .long) rfl rfl hdg (hk _ _ _ h _ _ _ _ _ hL hZ)
    · rw [sm_cell_r rfl q h6] at ha
      rcases (show sm_tg u a = 4 ∨ sm_tg u a = 5 ∨ sm_tg u a = 6 by omega) with z | z | z
      · exact va_alen hx hb hK hZ.1 a 3 ha (ty := .object R_S) (by rw [z]; rfl) rfl hdg (hk _ _ _ h _ _ _ _ _ hL hZ)
      · exact va_alen hx hb hK hZ.1 a 4 ha (ty := .object R_N) (by rw [z]; rfl) rfl hdg (hk _ _ _ h _ _ _ _ _ hL hZ)
      · exact va_alen hx hb hK hZ.1 a 5 ha (ty := .object R_X) (by rw [z]; rfl) rfl hdg (hk _ _ _ h _ _ _ _ _ hL hZ)
  | ireturn =>
    match st, h with
    | [.int x], h => exact hret (some (.int x)) u H locs cells slots la (Or.inl ⟨rfl, x, rfl⟩) h hZ
  | lreturn =>
    match st, h with
    | [.long x], h => exact hret (some (.long x)) u H locs cells slots la (Or.inr (Or.inl ⟨rfl, x, rfl⟩)) h hZ
  | return_ =>
    match st, h with
    | [], h => exact hret none u H locs cells slots la (Or.inr (Or.inr ⟨rfl, rfl⟩)) h hZ
  | _ => simp [sm_same] at hs
end
