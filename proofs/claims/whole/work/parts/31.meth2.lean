/-! from rows to methods -/
abbrev sm_row : Type := sm_E × Instr × Nat × Nat × Nat
def sm_retk (ret : Option FieldType) : sm_E → Bool
  | .inl .ireturn => decide (ret = some .int)
  | .inl .lreturn => decide (ret = some .long)
  | .inl .return_ => decide (ret = none)
  | .inr (22, _, _, _, _) => decide (ret = some .boolean)
  | _ => true
def sm_isLb : sm_E → Bool
  | .inr (18, _, _, _, _) => true
  | _ => false
def sm_rb (own : String) (cc : ByteArray) (nL : Nat) (ret : Option FieldType) (init : Bool) (pcs : List Nat) (q : sm_row) : Bool :=
  (sm_isLb q.1 || decide (decode cc q.2.2.1 = .ok (q.2.1, q.2.2.2.1))) && sm_retk ret q.1 && (match q.1 with
    | .inl i => sm_mt1 own nL pcs i q.2.1 q.2.2.1 q.2.2.2.1 q.2.2.2.2
    | .inr (op, a, b, c, d) => sm_mb init pcs op a b c d q.2.1 q.2.2.1 q.2.2.2.1)
def sm_ch : List sm_row → Bool
  | [] => true
  | [_] => true
  | q :: q' :: r => Nat.beq q'.2.2.1 (q.2.2.1 + q.2.2.2.1) && sm_ch (q' :: r)
def sm_rl2 (own : String) (q : sm_row) : Prop := match q.1 with
  | .inl _ => True
  | .inr (op, a, b, _, d) => sm_lk own op a b d q.2.1 q.2.2.2.2
/-- the rows of a method fit its bytes -/
def sm_fit (own : String) (cc : ByteArray) (nL : Nat) (ret : Option FieldType) (init : Bool) (rs : List sm_row) : Prop :=
  rs.all (sm_rb own cc nL ret init (rs.map (·.2.2.1))) = true ∧ sm_ch rs = true ∧ sm_all (sm_rl2 own) rs ∧ (rs.map (·.2.2.1)).getD 0 0 = 0
section
variable {p : Program} {l : Launch} {e : Env} {R : Room} {s : State} {m : MethodId} {args : Array Value} {below : List Frame} {meth : Method} {c0 : Code}
variable {own : String} {cc : ByteArray} {nL : Nat} {D : va_G} {dA : Nat → ClassId} {base : Nat} {sA : Nat → Nat} {SP : State → Prop} {len0 tot0 : Nat}
variable {call : Nat → List Value → sm_M → sm_R} {jmp : Nat → sm_Ls → List Value → sm_M → sm_R} {o : Option Value × sm_M} {pcs : List Nat} {ret : Option FieldType} {init : Bool}
theorem sm_mt1_ret {own : String} {nl : Nat} {pcs : List Nat} {i ri : Instr} {pc len h : Nat} (hm : sm_mt1 own nl pcs i ri pc len h = true) (hr : ri = .ireturn ∨ ri = .lreturn ∨ ri = .return_) : i = ri := by
  unfold sm_mt1 at hm
  rcases hr with rfl | rfl | rfl <;> (split at hm <;> first | cases hm | (simp only [Bool.and_eq_true, decide_eq_true_eq] at hm; exact hm.1.1.symm))
/-- the method's end: the world as the machine has it -/
theorem sm_end {pc : Nat} {u : sm_M} {rv : Option Value} {ri : Instr} (X : sm_cx p R s m args c0 own cc nL D dA base SP len0) (hlk : meth.locks = false) (hr : meth.sig.returnType = ret) (hdg : decode cc pc = .ok (ri, 1)) (ho : (rv, u) = o)
    (hk : (ri = .ireturn ∧ ret = some .int ∧ ∃ x, rv = some (.int x)) ∨ (ri = .ireturn ∧ ret = some .boolean ∧ ∃ x, rv = some (.int x) ∧ (x = 0 ∨ x = 1)) ∨ (ri = .lreturn ∧ ret = some .long ∧ ∃ x, rv = some (.long x)) ∨ (ri = .return_ ∧ ret = none ∧ rv = none))
    {H : Heap} {locs : List Loc} {cells slots : Nat} {la : Array Slot} (hZ : sm_Z D dA base s len0 tot0 u H locs cells slots) :
    W p l e R s m args below meth c0 H locs cells slots (MQ below (sm_Qc D dA base o.1 o.2) args s (o.2.1.length - len0) (sm_tot o.2 - tot0) (fun q => base ≤ q)) (F0 m pc la (rv.toList.map (sm_tr base sA))) := by
  obtain ⟨hx, hb, hml, hown, hts, hNW, hK, hS, hsz0, hfr, hlo⟩ := X
  subst ho
  have e1 : (rv, u).2.1.length - len0 = cells := by have := hZ.2.2.1; show u.1.length - len0 = cells; omega
  have e2 : sm_tot (rv, u).2 - tot0 = slots := by have := hZ.2.2.2; show sm_tot u - tot0 = slots; omega
  rw [e1, e2]
  have hP := hZ.1
  have hSS := hZ.2.1
  rcases hk with ⟨rfl, rfl, x, rfl⟩ | ⟨rfl, rfl, x, rfl, hv⟩ | ⟨rfl, rfl, x, rfl⟩ | ⟨rfl, rfl, rfl⟩
  · exact W.iret hx hb hr (fun t ht hW => ⟨⟨x, (), rfl, rfl, by show va_P _ _ _ t.heap; rw [ht]; exact hP⟩, hSS.F ht⟩) hSS.2.2 hdg hlk
  · exact W.zret hx hb hr (by rcases hv with rfl | rfl <;> rfl) (fun t ht hW => ⟨⟨x, (), rfl, rfl, by show va_P _ _ _ t.heap; rw [ht]; exact hP⟩, hSS.F ht⟩) hSS.2.2 hdg hlk
  · exact W.lret hx hb hr (fun t ht hW => ⟨⟨x, (), rfl, rfl, by show va_P _ _ _ t.heap; rw [ht]; exact hP⟩, hSS.F ht⟩) hSS.2.2 hdg hlk
  · exact W.vret hx hb hr (fun t ht hW => ⟨⟨(), rfl, trivial, by show va_P _ _ _ t.heap; rw [ht]; exact hP⟩, hSS.F ht⟩) hSS.2.2 hdg hlk
theorem sm_blk_ok {dd : Nat} (X : sm_cx p R s m args c0 own cc nL D dA base SP len0) (hSP : sm_st base SP) (hSS : sm_sg sA SP) (hinit : init = true → meth.name = "<init>") (hlk : meth.locks = false) (hr : meth.sig.returnType = ret)
    (hj : ∀ t ls st u, jmp t ls st u = some o → sm_G p l e R s m args below meth c0 (MQ below (sm_Qc D dA base o.1 o.2) args s (o.2.1.length - len0) (sm_tot o.2 - tot0) (fun q => base ≤ q)) nL D dA base sA len0 tot0 (pcs.getD t 0) ls st u)
    (hjm : ∀ t, sm_mk (jmp t)) (hCm : sm_mc call) (hroom : o.2.1.length ≤ len0 + R.cells ∧ sm_tot o.2 ≤ tot0 + R.slots) (hR : dd + 1 ≤ R.frames ∧ 40 * (dd + 1) ≤ R.locals)
    (hC : ∀ y as u r v, y < sm_ml.length → call y as u = some (r, v) → sm_Met l D dA base sA SP dd y as u r v) :
    ∀ (rs : List sm_row), rs.all (sm_rb own cc nL ret init pcs) = true → sm_ch rs = true → sm_all (sm_rl2 own) rs → ∀ ls st u, sm_blk call jmp (rs.map (·.1)) ls st u = some o → sm_G p l e R s m args below meth c0 (MQ below (sm_Qc D dA base o.1 o.2) args s (o.2.1.length - len0) (sm_tot o.2 - tot0) (fun q => base ≤ q)) nL D dA base sA len0 tot0 ((rs.map (·.2.2.1)).getD 0 0) ls st u
  | [], _, _, _, ls, st, u, h => by cases h
  | (en, ri, pc, len, h0) :: rs, hb, hc, hl, ls, st, u, h => by
    simp only [List.all_cons, Bool.and_eq_true] at hb
    obtain ⟨hb1, hb2⟩ := hb
    have hc2 : sm_ch rs = true := by
      cases rs with
      | nil => rfl
      | cons q' r => simp only [sm_ch, Bool.and_eq_true] at hc; exact hc.2
    have hk : ∀ ls st u, sm_blk call jmp (rs.map (·.1)) ls st u = some o → sm_G p l e R s m args below meth c0 (MQ below (sm_Qc D dA base o.1 o.2) args s (o.2.1.length - len0) (sm_tot o.2 - tot0) (fun q => base ≤ q)) nL D dA base sA len0 tot0 (pc + len) ls st u := by
      intro ls st u hh
      have ih := sm_blk_ok X hSP hSS hinit hlk hr hj hjm hCm hroom hR hC rs hb2 hc2 hl.2 ls st u hh
      cases rs with
      | nil => cases hh
      | cons q' r =>
        simp only [sm_ch, Bool.and_eq_true] at hc
        have e1 : q'.2.2.1 = pc + len := Nat.eq_of_beq_eq_true hc.1
        have e2 : (((q' :: r).map (·.2.2.1)).getD 0 0) = pc + len := e1
        rw [e2] at ih
        exact ih
    unfold sm_rb at hb1
    simp only [Bool.and_eq_true] at hb1
    obtain ⟨⟨hd, hrk⟩, hm⟩ := hb1
    show sm_G p l e R s m args below meth c0 _ nL D dA base sA len0 tot0 pc ls st u
    have h : sm_x call jmp en ls st u (fun ls st u => sm_blk call jmp (rs.map (·.1)) ls st u) = some o := h
    unfold sm_x at h
    cases en with
    | inl i =>
      have hd : decode cc pc = .ok (ri, len) := by simpa [sm_isLb] using hd
      refine sm_ok1 X hd hm hk hj ?_ h
      intro rv u H locs cells slots la hi hlen ho hZ
      subst hlen
      refine sm_end X hlk hr hd (Option.some.inj ho) ?_ hZ
      rcases hi with ⟨rfl, x, rfl⟩ | ⟨rfl, x, rfl⟩ | ⟨rfl, rfl⟩
      · left
        refine ⟨rfl, ?_, x, rfl⟩
        have hi : i = .ireturn := sm_mt1_ret (show sm_mt1 own nL pcs i _ pc _ h0 = true from hm) (by simp)
        subst hi
        simpa [sm_retk] using hrk
      · right; right; left
        refine ⟨rfl, ?_, x, rfl⟩
        have hi : i = .lreturn := sm_mt1_ret (show sm_mt1 own nL pcs i _ pc _ h0 = true from hm) (by simp)
        subst hi
        simpa [sm_retk] using hrk
      · right; right; right
        refine ⟨rfl, ?_, rfl⟩
        have hi : i = .return_ := sm_mt1_ret (show sm_mt1 own nL pcs i _ pc _ h0 = true from hm) (by simp)
        subst hi
        simpa [sm_retk] using hrk
    | inr z =>
      obtain ⟨op, a, b, c, d⟩ := z
      have hdd : op ≠ 18 → decode cc pc = .ok (ri, len) := by
        intro hne
        rw [Bool.or_eq_true] at hd
        rcases hd with hd | hd
        · exfalso
          unfold sm_isLb at hd
          split at hd
          · rename_i q; cases q; exact hne rfl
          · cases hd
        · simpa using hd
      refine sm_ok2 X hSP hSS hdd hm hl.1 hinit hk hj (sm_mono hCm hjm) hCm hroom hR ?_ hC h
      intro x u H locs cells slots la hv hop hdg ho hZ
      subst hop
      refine sm_end (sA := sA) X hlk hr hdg (Option.some.inj ho) ?_ hZ
      right; left
      exact ⟨rfl, by simpa [sm_retk] using hrk, x, rfl, hv⟩
end
/-! a method's entry -/
def sm_sz (as : List Value) : Nat := (as.map fun v => v.category).sum
theorem sm_sz_lg (as : List Value) (base : Nat) (sA : Nat → Nat) : (lg_sl (as.map (sm_tr base sA))).length = sm_sz as := by
  induction as with
  | nil => rfl
  | cons v as ih =>
    unfold lg_sl sm_sz at *
    simp only [List.map_cons, List.flatMap_cons, List.length_append, List.sum_cons, sm_tr_cat]
    rw [ih]
    rcases lv_cat v with h | h
    · rw [h]; simp
    · rw [h]; simp
theorem sm_ent_len : ∀ (n : Nat) (as : List Value), sm_sz as ≤ n → (sm_ent n as).length = n
  | 0, as, _ => rfl
  | n + 1, [], h => by
    show (sm_ent n []).length + 1 = n + 1
    rw [sm_ent_len n [] (by simp [sm_sz])]
  | n + 1, .long x :: vs, h => by
    have h : 2 + sm_sz vs ≤ n + 1 := by simpa [sm_sz, Value.category] using h
    match n, h with
    | 0, h => omega
    | k + 1, h =>
      show (sm_ent k vs).length + 1 + 1 = k + 1 + 1
      rw [sm_ent_len k vs (by omega)]
  | n + 1, .double x :: vs, h => by
    have h : 2 + sm_sz vs ≤ n + 1 := by simpa [sm_sz, Value.category] using h
    match n, h with
    | 0, h => omega
    | k + 1, h =>
      show (sm_ent k vs).length + 1 + 1 = k + 1 + 1
      rw [sm_ent_len k vs (by omega)]
  | n + 1, .int x :: vs, h => by
    have h : 1 + sm_sz vs ≤ n + 1 := by simpa [sm_sz, Value.category] using h
    show (sm_ent n vs).length + 1 = n + 1
    rw [sm_ent_len n vs (by omega)]
  | n + 1, .float x :: vs, h => by
    have h : 1 + sm_sz vs ≤ n + 1 := by simpa [sm_sz, Value.category] using h
    show (sm_ent n vs).length + 1 = n + 1
    rw [sm_ent_len n vs (by omega)]
  | n + 1, .null :: vs, h => by
    have h : 1 + sm_sz vs ≤ n + 1 := by simpa [sm_sz, Value.category] using h
    show (sm_ent n vs).length + 1 = n + 1
    rw [sm_ent_len n vs (by omega)]
  | n + 1, .ref x :: vs, h => by
    have h : 1 + sm_sz vs ≤ n + 1 := by simpa [sm_sz, Value.category] using h
    show (sm_ent n vs).length + 1 = n + 1
    rw [sm_ent_len n vs (by omega)]
  | n + 1, .retAddr x :: vs, h => by
    have h : 1 + sm_sz vs ≤ n + 1 := by simpa [sm_sz, Value.category] using h
    show (sm_ent n vs).length + 1 = n + 1
    rw [sm_ent_len n vs (by omega)]
theorem sm_ent_cons {n : Nat} {v : Value} {vs : List Value} (h : v.category = 1) : sm_ent (n + 1) (v :: vs) = some v :: sm_ent n vs := by
  cases v <;> first | rfl | cases h
theorem sm_ent_cons2 {n : Nat} {v : Value} {vs : List Value} (h : v.category = 2) : sm_ent (n + 2) (v :: vs) = some v :: none :: sm_ent n vs := by
  cases v <;> first | rfl | cases h
theorem sm_ent_nil : ∀ (n i : Nat) (v : Value), (sm_ent n [])[i]? ≠ some (some v)
  | 0, i, v => by simp [sm_ent]
  | n + 1, 0, v => by simp [sm_ent]
  | n + 1, i + 1, v => by
    show ((none :: sm_ent n []) : sm_Ls)[i + 1]? ≠ _
    rw [List.getElem?_cons_succ]
    exact sm_ent_nil n i v
theorem sm_ent_at (base : Nat) (sA : Nat → Nat) : ∀ (as : List Value) (n j : Nat), sm_sz as ≤ n → ∀ (i : Nat) (v : Value), (sm_ent n as)[i]? = some (some v) → (j + i, sm_tr base sA v) ∈ lv_args j (as.map (sm_tr base sA))
  | [], n, j, _, i, v, h => absurd h (sm_ent_nil n i v)
  | w :: as, n, j, hn, i, v, h => by
    have hn : w.category + sm_sz as ≤ n := hn
    show _ ∈ (j, sm_tr base sA w) :: lv_args (if (sm_tr base sA w).category = 2 then j + 2 else j + 1) (as.map (sm_tr base sA))
    rw [sm_tr_cat]
    rcases lv_cat w with hc | hc
    · obtain ⟨n', rfl⟩ : ∃ n', n = n' + 1 := ⟨n - 1, by omega⟩
      rw [sm_ent_cons hc] at h
      rw [hc, if_neg (by decide)]
      cases i with
      | zero =>
        rw [List.getElem?_cons_zero] at h
        cases h
        exact List.mem_cons_self
      | succ i =>
        rw [List.getElem?_cons_succ] at h
        have := sm_ent_at base sA as n' (j + 1) (by omega) i v h
        rw [show j + (i + 1) = j + 1 + i by omega]
        exact List.mem_cons_of_mem _ this
    · obtain ⟨n', rfl⟩ : ∃ n', n = n' + 2 := ⟨n - 2, by omega⟩
      rw [sm_ent_cons2 hc] at h
      rw [hc, if_pos rfl]
      match i, h with
      | 0, h =>
        rw [List.getElem?_cons_zero] at h
        cases h
        exact List.mem_cons_self
      | 1, h => cases h
      | i + 2, h =>
        rw [List.getElem?_cons_succ, List.getElem?_cons_succ] at h
        have := sm_ent_at base sA as n' (j + 2) (by omega) i v h
        rw [show j + (i + 2) = j + 2 + i by omega]
        exact List.mem_cons_of_mem _ this
theorem sm_lo_ent {base : Nat} {sA : Nat → Nat} {as : List Value} {n : Nat} (h : sm_sz as ≤ n) : sm_lo base sA n (sm_ent n as) ((lg_sl (as.map (sm_tr base sA)) ++ List.replicate (n - (lg_sl (as.map (sm_tr base sA))).length) Slot.unset).toArray) := by
  have hl := lv_entry (as.map (sm_tr base sA)) (n := n) (by rw [sm_sz_lg]; exact h)
  refine ⟨sm_ent_len n as h, hl.1, hl.2.1, fun i v hv => ?_⟩
  have := sm_ent_at base sA as n 0 h i v hv
  rw [Nat.zero_add] at this
  exact hl.2.2 _ this
def sm_cl1 (N : Nat) (cds : Nat → List sm_E) (nls : Nat → Nat) : Nat → Nat → List Value → sm_M → sm_R
  | 0, _, _, _ => none
  | d + 1, y, as, u => sm_bp (Nat.ble (sm_sz as) (nls y)) (sm_run (sm_cl1 N cds nls d) (cds y) N 0 (sm_ent (nls y) as) [] u)
theorem sm_cl1_mono (N : Nat) (cds : Nat → List sm_E) (nls : Nat → Nat) : ∀ d, sm_mc (sm_cl1 N cds nls d)
  | 0 => by intro y as u r v h; cases h
  | d + 1 => by
    intro y as u r v h
    have h := (sv_bp (show sm_bp _ _ = some (r, v) from h)).2
    exact sm_run_mono (sm_cl1_mono N cds nls d) (cds y) N 0 _ _ _ _ _ h
theorem sm_run_ok {p : Program} {l : Launch} {e : Env} {R : Room} {s : State} {m : MethodId} {args : Array Value} {below : List Frame} {meth : Method} {c0 : Code}
    {own : String} {cc : ByteArray} {nL : Nat} {D : va_G} {dA : Nat → ClassId} {base : Nat} {sA : Nat → Nat} {SP : State → Prop} {len0 tot0 dd : Nat} {call : Nat → List Value → sm_M → sm_R} {o : Option Value × sm_M} {ret : Option FieldType} {init : Bool} {rs : List sm_row}
    (X : sm_cx p R s m args c0 own cc nL D dA base SP len0) (hSP : sm_st base SP) (hSS : sm_sg sA SP) (hinit : init = true → meth.name = "<init>") (hlk : meth.locks = false) (hr : meth.sig.returnType = ret)
    (hfit : sm_fit own cc nL ret init rs) (hCm : sm_mc call) (hroom : o.2.1.length ≤ len0 + R.cells ∧ sm_tot o.2 ≤ tot0 + R.slots) (hR : dd + 1 ≤ R.frames ∧ 40 * (dd + 1) ≤ R.locals)
    (hC : ∀ y as u r v, y < sm_ml.length → call y as u = some (r, v) → sm_Met l D dA base sA SP dd y as u r v) :
    ∀ n i ls st u, sm_run call (rs.map (·.1)) n i ls st u = some o → sm_G p l e R s m args below meth c0 (MQ below (sm_Qc D dA base o.1 o.2) args s (o.2.1.length - len0) (sm_tot o.2 - tot0) (fun q => base ≤ q)) nL D dA base sA len0 tot0 ((rs.map (·.2.2.1)).getD i 0) ls st u
  | 0, i, ls, st, u, h => by cases h
  | n + 1, i, ls, st, u, h => by
    have h : sm_blk call (sm_run call (rs.map (·.1)) n) ((rs.map (·.1)).drop i) ls st u = some o := h
    rw [← List.map_drop] at h
    have ih := sm_run_ok (e := e) (below := below) X hSP hSS hinit hlk hr hfit hCm hroom hR hC n
    have dropAll : (rs.drop i).all (sm_rb own cc nL ret init (rs.map (·.2.2.1))) = true := by
      rw [List.all_eq_true]
      intro q hq
      exact List.all_eq_true.mp hfit.1 q (List.mem_of_mem_drop hq)
    have dropCh : ∀ (l : List sm_row) (i : Nat), sm_ch l = true → sm_ch (l.drop i) = true := by
      intro l i
      induction i generalizing l with
      | zero => intro h; exact h
      | succ i ih2 =>
        intro h
        cases l with
        | nil => exact h
        | cons q l =>
          rw [List.drop_succ_cons]
          apply ih2
          cases l with
          | nil => rfl
          | cons q' r => simp only [sm_ch, Bool.and_eq_true] at h; exact h.2
    have dropL : ∀ (l : List sm_row) (i : Nat), sm_all (sm_rl2 own) l → sm_all (sm_rl2 own) (l.drop i) := by
      intro l i
      induction i generalizing l with
      | zero => intro h; exact h
      | succ i ih2 =>
        intro h
        cases l with
        | nil => exact h
        | cons q l => rw [List.drop_succ_cons]; exact ih2 l h.2
    have fin := sm_blk_ok X hSP hSS hinit hlk hr ih (sm_run_mono hCm _ n) hCm hroom hR hC (rs.drop i) dropAll (dropCh rs i hfit.2.1) (dropL rs i hfit.2.2.1) ls st u h
    have e : ((rs.drop i).map (·.2.2.1)).getD 0 0 = (rs.map (·.2.2.1)).getD i 0 := by
      simp [List.getD, List.getElem?_drop]
    rw [e] at fin
    exact fin
/-- THE SOUNDNESS OF THE MACHINE, for methods whose rows fit -/
theorem sm_sound {l : Launch} {D : va_G} {dA : Nat → ClassId} {base : Nat} {sA : Nat → Nat} {SP : State → Prop} (hSP : sm_st base SP) (hSS : sm_sg sA SP) (N : Nat) (cds : Nat → List sm_E) (skip : Nat → Prop)
    (hrows : ∀ y, y < sm_ml.length → ¬ skip y → ∃ rs, rs.map (·.1) = cds y ∧ sm_fit (sm_yn y).cls (sm_yb y) (sm_yl y) (sm_yr y) (decide ((sm_yn y).name = "<init>")) rs)
    (hskip : ∀ d y as u r v, y < sm_ml.length → skip y → sm_cl1 N cds sm_yl d y as u = some (r, v) → sm_Met l D dA base sA SP d y as u r v) :
    ∀ d y as u r v, y < sm_ml.length → sm_cl1 N cds sm_yl d y as u = some (r, v) → sm_Met l D dA base sA SP d y as u r v
  | 0, y, as, u, r, v, hy, h => by cases h
  | d + 1, y, as, u, r, v, hy, h => by
    by_cases hs : skip y
    · exact hskip (d + 1) y as u r v hy hs h
    · obtain ⟨rs, hrs, hfit⟩ := hrows y hy hs
      have ih := sm_sound hSP hSS N cds skip hrows hskip d
      obtain ⟨hsz, h⟩ := sv_bp (show sm_bp _ _ = some (r, v) from h)
      have hsz := Nat.le_of_ble_eq_true hsz
      have hle := sm_run_mono (sm_cl1_mono N cds sm_yl d) (cds y) N 0 _ _ _ _ _ h
      have hym : ∃ h4, sm_mP (sm_ym y) h4 := by
        have e1 : sm_ml[y]? = some (sm_ym y) := by
          unfold sm_ym
          rw [List.getD_eq_getElem?_getD, List.getElem?_eq_getElem hy]
          rfl
        exact sm_all_at sm_mall e1
      obtain ⟨h4, hym⟩ := hym
      unfold sm_Met
      refine Met.ofW (cc := sm_yb y) (maxL := sm_yl y) (ret := sm_yr y) hym.2.2.2.2.1 rfl ?_
      intro p e s m args below meth c s₁ B hml hv
      obtain ⟨rfl, hP, hK, hsz2, hNW, hS⟩ := hv
      have hts := atoms_spec (ws := sm_ws y) B.pre
      have X : sm_cx p (headSpec (sm_ws y) (sm_rm (d + 1) (v.1.length - u.1.length) (sm_tot v - sm_tot u))).room s m _ c (sm_yn y).cls (sm_yb y) (sm_yl y) D dA base SP u.1.length :=
        ⟨B.exec, B.bytes, hml, findClass_of_methodNamed B.named, fun w hw => hts w (List.mem_cons_of_mem _ hw), hNW, hK, hS, hsz2, by show 1 ≤ d + 1; omega, by show 40 ≤ 40 * (d + 1); omega⟩
      rw [lg_entry_eq]
      rw [← hrs] at h
      have fin := sm_run_ok (rs := rs) (o := (r, v)) (tot0 := sm_tot u) (dd := d) (p := p) (e := e) (below := below) (meth := meth) X hSP hSS (fun hi => by rw [(name_of_methodNamed B.named B.method).1]; simpa using hi) B.notSynchronized B.returns hfit (sm_cl1_mono N cds sm_yl d) ⟨by have := hle.1; show v.1.length ≤ u.1.length + (v.1.length - u.1.length); omega, by have := hle.2; show sm_tot v ≤ sm_tot u + (sm_tot v - sm_tot u); omega⟩ ⟨by show d + 1 ≤ d + 1; omega, by show 40 * (d + 1) ≤ 40 * (d + 1); omega⟩ ih N 0 _ _ _ h
      rw [hfit.2.2.2] at fin
      exact fin s.heap [] 0 0 _ (sm_lo_ent hsz) ⟨hP, va_S.rf, by omega, by omega⟩
