/-! P_spells: its entry, and its contract -/
theorem sq_11 {C : Nat → List Value → sm_M → sm_R} {n : Nat} {u : sm_M} {x0 : Option Value} {v1 v2 v4 : Int32} {w3 : Nat} {o : Option Value × sm_M} (h : sm_run C c_P_spells (n + 1) 11 [x0, some (.int v1), some (.int v2), some (.retAddr w3), some (.int v4)] [] u = some o) (hc : ¬ Int32.ofNat (sm_tx w3).length ≤ v4) : ∃ a0, x0 = some (.ref a0) := by
  have h : (if w3 < 22 then (if Int32.ofNat (sm_tx w3).length ≤ v4 then _ else sm_gl [x0, some (.int v1), some (.int v2), some (.retAddr w3), some (.int v4)] 0 _) else none) = some o := h
  obtain ⟨hw, h⟩ := sv_if h
  rw [if_neg hc] at h
  obtain ⟨a, e, h⟩ := sv_gl h
  have e : x0 = some a := by simpa using e
  match a, h, e with
  | .ref a0, _, e => exact ⟨a0, e⟩
theorem sp_pos : ∀ w3, w3 < 22 → ¬ Int32.ofNat (sm_tx w3).length ≤ Int32.ofInt 0 := by decide
theorem sp_metN {l : Launch} {D : va_G} {dA : Nat → ClassId} {base : Nat} {aK aV : Nat → Nat} (N : Nat) (cds : Nat → List sm_E) (hcd : cds 59 = c_P_spells) :
    ∀ d as u r v, sm_cl1 N cds sm_yl d 59 as u = some (r, v) → sm_Met l D dA base aK (jd_SP base aK aV) (d + 5) 59 as u r v
  | 0, as, u, r, v, h => by cases h
  | d + 1, as, u, r, v, h => by
      obtain ⟨hsz, h⟩ := sv_bp (show sm_bp _ _ = some (r, v) from h)
      have hsz := Nat.le_of_ble_eq_true hsz
      have hle := sm_run_mono (sm_cl1_mono N cds sm_yl d) (cds 59) N 0 _ _ _ _ _ h
      rw [hcd] at h
      have hym : ∃ h4, sm_mP (sm_ym 59) h4 := by
        have hy : 59 < sm_ml.length := by rw [sm_ml_n]; decide
        have e1 : sm_ml[59]? = some (sm_ym 59) := by
          unfold sm_ym
          rw [List.getD_eq_getElem?_getD, List.getElem?_eq_getElem hy]
          rfl
        exact sm_all_at sm_mall e1
      obtain ⟨h4, hym⟩ := hym
      unfold sm_Met
      refine Met.ofW (cc := sm_yb 59) (maxL := sm_yl 59) (ret := sm_yr 59) hym.2.2.2.2.1 rfl ?_
      intro p e s m args below meth c s₁ B hml hv
      obtain ⟨rfl, hP, hK, hsz2, hNW, hS⟩ := hv
      have hts := atoms_spec (ws := sm_ws 59) B.pre
      have X : sm_cx p (headSpec (sm_ws 59) (sm_rm (d + 1 + 5) (v.1.length - u.1.length) (sm_tot v - sm_tot u))).room s m _ c "WhatWasNearly$Tape" prog_11_method_12_code 5 D dA base (jd_SP base aK aV) u.1.length :=
        ⟨B.exec, B.bytes, hml, findClass_of_methodNamed B.named, fun w hw => hts w (List.mem_cons_of_mem _ hw), hNW, hK, hS, hsz2, by show 1 ≤ d + 1 + 5; omega, by show 40 ≤ 40 * (d + 1 + 5); omega⟩
      have hret : meth.sig.returnType = some .boolean := B.returns
      rw [lg_entry_eq]
      have hL : sm_lo base aK 5 (sm_ent 5 as) _ := sm_lo_ent (base := base) (sA := aK) (as := as) (n := 5) hsz
      have hZ : sm_Z D dA base s u.1.length (sm_tot u) u s.heap [] 0 0 := ⟨hP, va_S.rf, by omega, by omega⟩
      have hlen := sm_ent_len 5 as hsz
      have h : sm_run (sm_cl1 N cds sm_yl d) c_P_spells N 0 (sm_ent 5 as) [] u = some (r, v) := h
      generalize sm_ent 5 as = ls at hL hlen h
      show W p l e (sm_rm (d + 1 + 5) (v.1.length - u.1.length) (sm_tot v - sm_tot u)) s m _ below meth c s.heap [] 0 0 _ (F0 m 0 ((lg_sl (as.map (sm_tr base aK)) ++ List.replicate (5 - (lg_sl (as.map (sm_tr base aK))).length) Slot.unset).toArray) [])
      generalize ((lg_sl (as.map (sm_tr base aK)) ++ List.replicate (5 - (lg_sl (as.map (sm_tr base aK))).length) Slot.unset).toArray) = la at hL ⊢
      cases N with
      | zero => cases h
      | succ N =>
      obtain ⟨x0, v1, v2, w3, x4, rfl⟩ := sp_inv hlen h
      rw [sq_0] at h
      obtain ⟨hw, h⟩ := sv_if h
      have l1 : la[1]? = some (.val (.int v1)) := hL.2.2.2 1 (.int v1) rfl
      have l2 : la[2]? = some (.val (.int v2)) := hL.2.2.2 2 (.int v2) rfl
      have l3 : la[3]? = some (.val (.ref (aK w3))) := hL.2.2.2 3 (.retAddr w3) rfl
      have X0 := X
      obtain ⟨hx, hb, -, -, -, -, -, -, -, -, -⟩ := X0
      refine lv_iload_n hx hb jz_0 rfl l2 ?_
      refine lv_iload_n hx hb jz_1 rfl l1 ?_
      refine lv_isub hx hb jz_2 ?_
      refine lv_aload_n hx hb jz_3 rfl l3 ?_
      refine sp_len X ⟨by show 2 + 1 ≤ d + 1 + 5; omega, by show 40 * (2 + 1) ≤ 40 * (d + 1 + 5); omega⟩ hw (Nat.le_of_ble_eq_true rfl) jz_4 hL.2.1 hZ ⟨Nat.zero_le _, Nat.zero_le _⟩ ?_
      refine lv_icmp_eq (tgt := 12) hx hb jz_7 (by decide) (fun hc => ?_) (fun hc => ?_)
      · rw [if_pos (show v2 - v1 = Int32.ofNat (sm_tx w3).length from hc)] at h
        cases N with
        | zero => cases h
        | succ N =>
        rw [sq_8] at h
        cases N with
        | zero => cases h
        | succ N =>
        obtain ⟨a0, rfl⟩ := sq_11 h (sp_pos w3 hw)
        have l0 : la[0]? = some (.val (.ref (base + a0))) := hL.2.2.2 0 (.ref a0) rfl
        have hl : lv_has la 5 [(0, .ref (base + a0)), (1, .int v1), (2, .int v2), (3, .ref (aK w3))] := by
          refine ⟨hL.2.1, hL.2.2.1, ?_⟩
          intro q hq
          simp only [List.mem_cons, List.not_mem_nil, or_false] at hq
          rcases hq with rfl | rfl | rfl | rfl
          · exact l0
          · exact l1
          · exact l2
          · exact l3
        refine lv_iconst (v := 0) hx hb jz_12 rfl ?_
        refine lv_istore hx hb jz_13 hl (by decide) rfl (fun la' hl' => ?_)
        exact sp_loop X B.notSynchronized hret ⟨by show 5 ≤ d + 1 + 5; omega, by show 200 ≤ 40 * (d + 1 + 5); omega⟩ a0 v1 v2 w3 u (r, v) ⟨Nat.le_add_right _ _, Nat.le_add_right _ _⟩ _ _ la' _ _ _ _ h hl' hZ
      · rw [if_neg (show ¬ v2 - v1 = Int32.ofNat (sm_tx w3).length from hc)] at h
        obtain ⟨-, h⟩ := sv_if h
        refine lv_iconst (v := 0) hx hb jz_10 rfl ?_
        exact sm_end (sA := aK) (rv := some (.int 0)) X B.notSynchronized hret jz_11 (Option.some.inj h) (Or.inr (Or.inl ⟨rfl, rfl, 0, rfl, Or.inl rfl⟩)) hZ
