/-! the start of the law out of the operations; open: the texts (P_spells), the operations, the constructors -/
/-- the same with five frames to spare, for the texts -/
theorem sm_sound5 {l : Launch} {D : va_G} {dA : Nat → ClassId} {base : Nat} {sA : Nat → Nat} {SP : State → Prop} (hSP : sm_st base SP) (hSS : sm_sg sA SP) (N : Nat) (cds : Nat → List sm_E) (skip : Nat → Prop)
    (hrows : ∀ y, y < sm_ml.length → ¬ skip y → ∃ rs, rs.map (·.1) = cds y ∧ sm_fit (sm_yn y).cls (sm_yb y) (sm_yl y) (sm_yr y) (decide ((sm_yn y).name = "<init>")) rs)
    (hskip : ∀ d y as u r v, y < sm_ml.length → skip y → sm_cl1 N cds sm_yl d y as u = some (r, v) → sm_Met l D dA base sA SP (d + 5) y as u r v) :
    ∀ d y as u r v, y < sm_ml.length → sm_cl1 N cds sm_yl d y as u = some (r, v) → sm_Met l D dA base sA SP (d + 5) y as u r v
  | 0, y, as, u, r, v, hy, h => by cases h
  | d + 1, y, as, u, r, v, hy, h => by
    by_cases hs : skip y
    · exact hskip (d + 1) y as u r v hy hs h
    · obtain ⟨rs, hrs, hfit⟩ := hrows y hy hs
      have ih := sm_sound5 hSP hSS N cds skip hrows hskip d
      obtain ⟨hsz, h⟩ := sv_bp (show sm_bp _ _ = some (r, v) from h)
      have hsz := Nat.le_of_ble_eq_true hsz
      have hle := sm_run_mono (sm_cl1_mono N cds sm_yl d) (cds y) N 0 _ _ _ _ _ h
      have hym : ∃ h4, sm_mP (sm_ym y) h4 := by
        have e1 : sm_ml[y]? = some (sm_ym y) := by
          unfold sm_ym
          rw [List.getD_eq_getElem?_getD, List.getElem?_eq_getElem hy]
          rfl
        exact sm_all_at sm_mall e1
      obtain ⟨h4, hym⟩ := hym
      unfold sm_Met
      refine Met.ofW (cc := sm_yb y) (maxL := sm_yl y) (ret := sm_yr y) hym.2.2.2.2.1 rfl ?_
      intro p e s m args below meth c s₁ B hml hv
      obtain ⟨rfl, hP, hK, hsz2, hNW, hS⟩ := hv
      have hts := atoms_spec (ws := sm_ws y) B.pre
      have X : sm_cx p (headSpec (sm_ws y) (sm_rm (d + 1 + 5) (v.1.length - u.1.length) (sm_tot v - sm_tot u))).room s m _ c (sm_yn y).cls (sm_yb y) (sm_yl y) D dA base SP u.1.length :=
        ⟨B.exec, B.bytes, hml, findClass_of_methodNamed B.named, fun w hw => hts w (List.mem_cons_of_mem _ hw), hNW, hK, hS, hsz2, by show 1 ≤ d + 1 + 5; omega, by show 40 ≤ 40 * (d + 1 + 5); omega⟩
      rw [lg_entry_eq]
      rw [← hrs] at h
      have fin := sm_run_ok (rs := rs) (o := (r, v)) (tot0 := sm_tot u) (dd := d + 5) (p := p) (e := e) (below := below) (meth := meth) X hSP hSS (fun hi => by rw [(name_of_methodNamed B.named B.method).1]; simpa using hi) B.notSynchronized B.returns hfit (sm_cl1_mono N cds sm_yl d) ⟨by have := hle.1; show v.1.length ≤ u.1.length + (v.1.length - u.1.length); omega, by have := hle.2; show sm_tot v ≤ sm_tot u + (sm_tot v - sm_tot u); omega⟩ ⟨by show d + 5 + 1 ≤ d + 1 + 5; omega, by show 40 * (d + 5 + 1) ≤ 40 * (d + 1 + 5); omega⟩ ih N 0 _ _ _ h
      rw [hfit.2.2.2] at fin
      exact fin s.heap [] 0 0 _ (sm_lo_ent hsz) ⟨hP, va_S.rf, by omega, by omega⟩
theorem start_open {p : Program} {e : Env} {s : State} {m : MethodId} {below : List Frame} {meth : Method} {c : Code} (l : Launch) {b L : Nat} {xs : Nat → Int32} (hL : L ≤ 3072) (C0 : lw_At p s m meth c b L xs)
    (Rel : sm_M → Prop) (hRel : ∀ u, Rel u → u.1 = SH) (O : ops Rel) (I0 : ini Rel) (sA : Nat → Nat) (SP : State → Prop) (h1 : sm_st s.heap.size SP) (h2 : sm_sg sA SP) (h3 : SP s)
    (hsp : ∀ (D : va_G) (dA : Nat → ClassId) d as u r v, sm_cl1 3000000 sm_cd sm_yl d 59 as u = some (r, v) → sm_Met l D dA s.heap.size sA SP (d + 5) 59 as u r v) :
    W p l e room_1 s m #[Value.ref b] below meth c s.heap [] 0 0 (lw_Z below #[Value.ref b] s) (entryFrame m ([Value.ref b] : List Value).toArray 4) := by
  obtain ⟨hx, hb, hr, hml, hown, hts, hX, hbl, hlocks, hgv⟩ := id C0
  obtain ⟨D, dA, hK⟩ := kn_all hts
  have hNW := kn_NW hts
  have hl := lv_entry ([.ref b]) (n := 4) (Nat.le_of_ble_eq_true rfl)
  rw [lg_entry_eq]
  generalize (lg_sl ([.ref b]) ++ List.replicate (4 - (lg_sl ([.ref b])).length) Slot.unset).toArray = la at hl ⊢
  have hl : lv_has la 4 [(0, .ref b)] := hl
  have X : sm_cx p room_1 s m #[Value.ref b] c R_law code 4 D dA s.heap.size SP 0 :=
    ⟨hx, hb, hml, hown, fun w hw => hts w (List.mem_filter.mp hw).1, hNW, hK, h3, rfl, by decide, by decide⟩
  have hsound := sm_sound5 (l := l) (D := D) (dA := dA) (sA := sA) h1 h2 3000000 sm_cd (fun y => y = 59)
    (fun y hy hn => fy_all y (by rw [sm_ml_n] at hy; exact hy) hn)
    (fun d y as u r v _ hs h => by
      have hs : y = 59 := hs
      subst hs
      exact hsp D dA d as u r v h)
  exact lw_begin ⟨X, h1, ⟨hX, hbl, hL⟩, ⟨hr, hlocks⟩, fun y as u r v hy h => hsound 200 y as u r v hy h⟩ Rel hRel O I0 la hl
