/-! words of the tables by place: 1000 * (the table) + (the place); 0: what 'selects' says of private methods -/
def sm_w (h : Nat) : Option Cond := match h / 1000 with
  | 0 => (k2_sels lw_privs)[h % 1000]?
  | 1 => tables_1_1[h % 1000]?
  | 2 => tables_1_2[h % 1000]?
  | 3 => tables_1_3[h % 1000]?
  | 4 => tables_1_4[h % 1000]?
  | 5 => tables_1_5[h % 1000]?
  | 6 => tables_1_6[h % 1000]?
  | 7 => tables_1_7[h % 1000]?
  | 8 => tables_1_8[h % 1000]?
  | _ => none
theorem sm_w_in {h : Nat} {w : Cond} (e : sm_w h = some w) : w ∈ lw_tbl := by
  unfold sm_w at e
  unfold lw_tbl tables_1
  simp only [List.mem_append]
  split at e
  · exact Or.inl (List.mem_of_getElem? e)
  · exact Or.inr (Or.inl (List.mem_of_getElem? e))
  · exact Or.inr (Or.inr (Or.inl (List.mem_of_getElem? e)))
  · exact Or.inr (Or.inr (Or.inr (Or.inl (List.mem_of_getElem? e))))
  · exact Or.inr (Or.inr (Or.inr (Or.inr (Or.inl (List.mem_of_getElem? e)))))
  · exact Or.inr (Or.inr (Or.inr (Or.inr (Or.inr (Or.inl (List.mem_of_getElem? e))))))
  · exact Or.inr (Or.inr (Or.inr (Or.inr (Or.inr (Or.inr (Or.inl (List.mem_of_getElem? e)))))))
  · exact Or.inr (Or.inr (Or.inr (Or.inr (Or.inr (Or.inr (Or.inr (Or.inl (List.mem_of_getElem? e))))))))
  · exact Or.inr (Or.inr (Or.inr (Or.inr (Or.inr (Or.inr (Or.inr (Or.inr (List.mem_of_getElem? e))))))))
  · cases e
def sm_tgt (pcs : List Nat) (pc : Nat) (off : Int) (t : Int) : Bool := decide ((pc : Int) + off = ((pcs.getD t.toNat 0 : Nat) : Int))
/-- the pairs of a switch: what the machine's own switch says, the class file's says -/
def sm_swT (pcs : List Nat) (pc : Nat) (d : Int) (ps : List (Int × Int)) (dflt lo hi : Int) (offs : List Int) : Bool :=
  sm_tgt pcs pc dflt d && ps.all (fun q => decide ((Int32.ofInt q.1).toInt = q.1 ∧ lo ≤ q.1 ∧ q.1 ≤ hi ∧ ∃ o, offs[(q.1 - lo).toNat]? = some o ∧ (pc : Int) + o = ((pcs.getD q.2.toNat 0 : Nat) : Int))) && decide (hi - lo + 1 = offs.length) && (List.range offs.length).all (fun j => match offs[j]? with
    | some o => decide ((pc : Int) + o = ((pcs.getD d.toNat 0 : Nat) : Int)) || ps.any (fun q => decide (q.1 = lo + j))
    | none => false)
def sm_mt1 (own : String) (nl : Nat) (pcs : List Nat) (i ri : Instr) (pc len h : Nat) : Bool := match i with
  | .iconst n => match ri with
    | .iconst x => decide (Int32.ofInt x = Int32.ofInt n) && len == 1
    | .bipush x => decide ((Int8.ofInt x).toInt32 = Int32.ofInt n) && len == 2
    | .sipush x => decide ((Int16.ofInt x).toInt32 = Int32.ofInt n) && len == 3
    | .ldc x => len == 2 && decide (sm_w h = some (.constant own x (Int32.ofInt n)))
    | .ldc_w x => len == 3 && decide (sm_w h = some (.constant own x (Int32.ofInt n)))
    | _ => false
  | .iload j => match ri with
    | .iload_n x => x.val == j && len == 1
    | .iload x => x == j && len == 2
    | _ => false
  | .lload j => match ri with
    | .lload_n x => x.val == j && len == 1
    | .lload x => x == j && len == 2
    | _ => false
  | .aload j => match ri with
    | .aload_n x => x.val == j && len == 1
    | .aload x => x == j && len == 2
    | _ => false
  | .istore j => match ri with
    | .istore_n x => x.val == j && len == 1 && Nat.blt j nl
    | .istore x => x == j && len == 2 && Nat.blt j nl
    | _ => false
  | .lstore j => match ri with
    | .lstore_n x => x.val == j && len == 1 && Nat.blt (j + 1) nl
    | .lstore x => x == j && len == 2 && Nat.blt (j + 1) nl
    | _ => false
  | .astore j => match ri with
    | .astore_n x => x.val == j && len == 1 && Nat.blt j nl
    | .astore x => x == j && len == 2 && Nat.blt j nl
    | _ => false
  | .iinc j n => match ri with
    | .iinc x y => x == j && decide (y = n) && len == 3 && Nat.blt j nl
    | _ => false
  | .if_icmp q t => match ri with
    | .if_icmp q' off => decide (q' = q) && len == 3 && sm_tgt pcs pc off t
    | _ => false
  | .ifCond q t => match ri with
    | .ifCond q' off => decide (q' = q) && len == 3 && sm_tgt pcs pc off t
    | _ => false
  | .ifnonnull t => match ri with
    | .ifnonnull off => len == 3 && sm_tgt pcs pc off t
    | _ => false
  | .goto t => match ri with
    | .goto off => len == 3 && sm_tgt pcs pc off t
    | _ => false
  | .lookupswitch d ps => match ri with
    | .lookupswitch d' ps' => sm_tgt pcs pc d' d && decide (ps'.toList.map (·.1) = ps.toList.map (·.1)) && ps.toList.all (fun q => decide ((Int32.ofInt q.1).toInt = q.1)) && (ps'.toList.zip ps.toList).all (fun q => sm_tgt pcs pc q.1.2 q.2.2) && (ps'.toList.zip (ps'.toList.drop 1)).all (fun (a, next) => a.1 < next.1)
    | .tableswitch dflt lo hi offs => sm_swT pcs pc d ps.toList dflt lo hi offs.toList
    | _ => false
  | i => decide (ri = i) && len == 1 && sm_same i
section
variable {p : Program} {l : Launch} {e : Env} {R : Room} {s : State} {m : MethodId} {args : Array Value} {below : List Frame} {meth : Method} {c : Code} {Q : State → Prop}
variable {own : String} {cc : ByteArray} {nL : Nat} {D : va_G} {dA : Nat → ClassId} {base : Nat} {sA : Nat → Nat} {SP : State → Prop} {len0 tot0 : Nat}
variable {jmp : Nat → sm_Ls → List Value → sm_M → sm_R} {k : sm_Ls → List Value → sm_M → sm_R} {o : Option Value × sm_M} {pcs : List Nat}
theorem sm_tgt_of {pc : Nat} {off t : Int} (h : sm_tgt pcs pc off t = true) : (pc : Int) + off = ((pcs.getD t.toNat 0 : Nat) : Int) := by
  simpa [sm_tgt] using h
theorem sm_lo_at {ls : sm_Ls} {la : Array Slot} (h : sm_lo base sA nL ls la) {i : Nat} {v : Value} (hv : ls[i]? = some (some v)) : la[i]? = some (.val (sm_tr base sA v)) := h.2.2.2 i v hv
theorem sm_as_at {ls : sm_Ls} {i : Nat} {v : Value} (hv : ls[i]? = some (some v)) : ∃ k : Nat, (sm_as base sA ls)[k]? = some (i, sm_tr base sA v) :=
  List.getElem?_of_mem (sm_as_mem.mpr ⟨v, hv, rfl⟩)
/-- a switch by pairs -/
theorem sm_sel_of {x : Int32} {f : Nat → sm_R} : ∀ {ps : List (Int × Int)} {d : Int}, sm_sel x ps f d = some o → (∃ q ∈ ps, x = Int32.ofInt q.1 ∧ f q.2.toNat = some o) ∨ ((∀ q ∈ ps, x ≠ Int32.ofInt q.1) ∧ f d.toNat = some o)
  | [], _, h => Or.inr ⟨fun q hq => absurd hq List.not_mem_nil, h⟩
  | (v, t) :: r, d, h => by
    unfold sm_sel at h
    split at h
    · rename_i hx
      exact Or.inl ⟨(v, t), List.mem_cons_self, hx, h⟩
    · rename_i hx
      rcases sm_sel_of h with ⟨q, hq, h1, h2⟩ | ⟨h1, h2⟩
      · exact Or.inl ⟨q, List.mem_cons_of_mem _ hq, h1, h2⟩
      · refine Or.inr ⟨fun q hq => ?_, h2⟩
        rcases List.mem_cons.mp hq with rfl | hq
        · exact hx
        · exact h1 q hq
theorem sm_oi_inj {x : Int32} {v : Int} (h : (Int32.ofInt v).toInt = v) : x = Int32.ofInt v ↔ x.toInt = v := by
  constructor
  · intro q; rw [q]; exact h
  · intro q; rw [← q, Int32.ofInt_toInt]
theorem sm_lsw {x : Int32} {f : Nat → sm_R} {pc : Nat} {d d' : Int} (hd : sm_tgt pcs pc d' d = true) : ∀ {ps' ps : List (Int × Int)}, ps'.map (·.1) = ps.map (·.1) → (∀ q ∈ ps, (Int32.ofInt q.1).toInt = q.1) → (∀ q ∈ ps'.zip ps, sm_tgt pcs pc q.1.2 q.2.2 = true) → sm_sel x ps f d = some o → ∃ t : Int, f t.toNat = some o ∧ (pc : Int) + Op.lookupswitch.offset ps' d' x.toInt = ((pcs.getD t.toNat 0 : Nat) : Int)
  | [], [], _, _, _, h => ⟨d, h, sm_tgt_of hd⟩
  | [], (v, t) :: r, h1, _, _, _ => by cases h1
  | (a, b) :: r', [], h1, _, _, _ => by cases h1
  | (a, b) :: r', (v, t) :: r, h1, h2, h3, h => by
    simp only [List.map_cons, List.cons.injEq] at h1
    obtain ⟨rfl, h1⟩ := h1
    have e := sm_oi_inj (x := x) (h2 (a, t) List.mem_cons_self)
    unfold sm_sel at h
    rw [Op.lookupswitch.offset_cons]
    split at h
    · rename_i hx
      rw [if_pos (e.mp hx).symm]
      exact ⟨t, h, sm_tgt_of (h3 ((a, b), (a, t)) List.mem_cons_self)⟩
    · rename_i hx
      rw [if_neg (fun z => hx (e.mpr z.symm))]
      exact sm_lsw hd h1 (fun q hq => h2 q (List.mem_cons_of_mem _ hq)) (fun q hq => h3 q (List.mem_cons_of_mem _ hq)) h
theorem sm_ok1 {i ri : Instr} {pc len h0 : Nat} (X : sm_cx p R s m args c own cc nL D dA base SP len0) (hdg : decode cc pc = .ok (ri, len)) (hm : sm_mt1 own nL pcs i ri pc len h0 = true)
    (hk : ∀ ls st u, k ls st u = some o → sm_G p l e R s m args below meth c Q nL D dA base sA len0 tot0 (pc + len) ls st u)
    (hj : ∀ t ls st u, jmp t ls st u = some o → sm_G p l e R s m args below meth c Q nL D dA base sA len0 tot0 (pcs.getD t 0) ls st u)
    (hret : ∀ (rv : Option Value) (u : sm_M) (H : Heap) (locs : List Loc) (cells slots : Nat) (la : Array Slot), (ri = .ireturn ∧ ∃ x, rv = some (.int x)) ∨ (ri = .lreturn ∧ ∃ x, rv = some (.long x)) ∨ (ri = .return_ ∧ rv = none) → len = 1 → some (rv, u) = some o → sm_Z D dA base s len0 tot0 u H locs cells slots → W p l e R s m args below meth c H locs cells slots Q (F0 m pc la (rv.toList.map (sm_tr base sA))))
    {ls : sm_Ls} {st : List Value} {u : sm_M}
    (h : sm_x1 jmp i ls st u k = some o) : sm_G p l e R s m args below meth c Q nL D dA base sA len0 tot0 pc ls st u := by
  have X0 := X
  obtain ⟨hx, hb, hml, hown, hts, hNW, hK, hSP, hsz, hfr, hlo⟩ := X
  unfold sm_mt1 at hm
  split at hm
  -- iconst
  · intro H locs cells slots la hL hZ
    split at hm <;> simp only [Bool.and_eq_true, decide_eq_true_eq, beq_iff_eq, Bool.false_eq_true] at hm
    · obtain ⟨h1, rfl⟩ := hm
      exact lv_iconst hx hb hdg h1 (hk _ _ _ h _ _ _ _ _ hL hZ)
    · obtain ⟨h1, rfl⟩ := hm
      exact lv_bipush hx hb hdg h1 (hk _ _ _ h _ _ _ _ _ hL hZ)
    · obtain ⟨h1, rfl⟩ := hm
      exact lv_sipush hx hb hdg h1 (hk _ _ _ h _ _ _ _ _ hL hZ)
    · obtain ⟨rfl, h1⟩ := hm
      exact lv_ldc hx hb hown (hts _ (List.mem_filter.mpr ⟨sm_w_in h1, rfl⟩)) hdg (hk _ _ _ h _ _ _ _ _ hL hZ)
    · obtain ⟨rfl, h1⟩ := hm
      exact lv_ldcw hx hb hown (hts _ (List.mem_filter.mpr ⟨sm_w_in h1, rfl⟩)) hdg (hk _ _ _ h _ _ _ _ _ hL hZ)
  -- iload
  · intro H locs cells slots la hL hZ
    obtain ⟨v, hv, hh⟩ := sv_gl h
    obtain ⟨x, _, hvx, hh⟩ := sv_p1 hh
    cases hvx
    split at hm <;> simp only [Bool.and_eq_true, decide_eq_true_eq, beq_iff_eq, Bool.false_eq_true] at hm
    · obtain ⟨h1, rfl⟩ := hm
      exact lv_iload_n hx hb hdg h1 (sm_lo_at hL hv) (hk _ _ _ hh _ _ _ _ _ hL hZ)
    · obtain ⟨rfl, rfl⟩ := hm
      exact lv_iload hx hb hdg (sm_lo_at hL hv) (hk _ _ _ hh _ _ _ _ _ hL hZ)
  -- lload
  · intro H locs cells slots la hL hZ
    obtain ⟨v, hv, hh⟩ := sv_gl h
    obtain ⟨x, _, hvx, hh⟩ := sv_q1 hh
    cases hvx
    split at hm <;> simp only [Bool.and_eq_true, decide_eq_true_eq, beq_iff_eq, Bool.false_eq_true] at hm
    · obtain ⟨h1, rfl⟩ := hm
      exact lv_lload_n hx hb hdg h1 (sm_lo_at hL hv) (hk _ _ _ hh _ _ _ _ _ hL hZ)
    · obtain ⟨rfl, rfl⟩ := hm
      exact lv_lload hx hb hdg (sm_lo_at hL hv) (hk _ _ _ hh _ _ _ _ _ hL hZ)
  -- aload
  · intro H locs cells slots la hL hZ
    obtain ⟨v, hv, hh⟩ := sv_gl h
    obtain ⟨x, _, hvx, hh⟩ := sv_a1 hh
    cases hvx
    split at hm <;> simp only [Bool.and_eq_true, decide_eq_true_eq, beq_iff_eq, Bool.false_eq_true] at hm
    · obtain ⟨h1, rfl⟩ := hm
      exact lv_aload_n hx hb hdg h1 (sm_lo_at hL hv) (hk _ _ _ hh _ _ _ _ _ hL hZ)
    · obtain ⟨rfl, rfl⟩ := hm
      exact lv_aload hx hb hdg (sm_lo_at hL hv) (hk _ _ _ hh _ _ _ _ _ hL hZ)
  -- istore
  · intro H locs cells slots la hL hZ
    obtain ⟨x, r, rfl, hh⟩ := sv_p1 h
    split at hm <;> simp only [Bool.and_eq_true, decide_eq_true_eq, beq_iff_eq, Bool.false_eq_true] at hm
    · obtain ⟨⟨h1, rfl⟩, h3⟩ := hm
      exact lv_istore_n hx hb hdg h1 (sm_lo_has hL) (Nat.le_of_ble_eq_true h3) rfl (fun la' hl' => hk _ _ _ hh _ _ _ _ _ (sm_lo_s1 (v := .int x) hL rfl hl') hZ)
    · obtain ⟨⟨rfl, rfl⟩, h3⟩ := hm
      exact lv_istore hx hb hdg (sm_lo_has hL) (Nat.le_of_ble_eq_true h3) rfl (fun la' hl' => hk _ _ _ hh _ _ _ _ _ (sm_lo_s1 (v := .int x) hL rfl hl') hZ)
  -- lstore
  · intro H locs cells slots la hL hZ
    obtain ⟨x, r, rfl, hh⟩ := sv_q1 h
    split at hm <;> simp only [Bool.and_eq_true, decide_eq_true_eq, beq_iff_eq, Bool.false_eq_true] at hm
    · obtain ⟨⟨h1, rfl⟩, h3⟩ := hm
      exact lv_lstore_n hx hb hdg h1 (sm_lo_has hL) (Nat.le_of_ble_eq_true h3) rfl (fun la' hl' => hk _ _ _ hh _ _ _ _ _ (sm_lo_s2 (v := .long x) hL rfl hl') hZ)
    · obtain ⟨⟨rfl, rfl⟩, h3⟩ := hm
      exact lv_lstore hx hb hdg (sm_lo_has hL) (Nat.le_of_ble_eq_true h3) rfl (fun la' hl' => hk _ _ _ hh _ _ _ _ _ (sm_lo_s2 (v := .long x) hL rfl hl') hZ)
  -- astore
  · intro H locs cells slots la hL hZ
    obtain ⟨x, r, rfl, hh⟩ := sv_a1 h
    split at hm <;> simp only [Bool.and_eq_true, decide_eq_true_eq, beq_iff_eq, Bool.false_eq_true] at hm
    · obtain ⟨⟨h1, rfl⟩, h3⟩ := hm
      exact lv_astore_n hx hb hdg h1 (sm_lo_has hL) (Nat.le_of_ble_eq_true h3) rfl (fun la' hl' => hk _ _ _ hh _ _ _ _ _ (sm_lo_s1 (v := .ref x) hL rfl hl') hZ)
    · obtain ⟨⟨rfl, rfl⟩, h3⟩ := hm
      exact lv_astore hx hb hdg (sm_lo_has hL) (Nat.le_of_ble_eq_true h3) rfl (fun la' hl' => hk _ _ _ hh _ _ _ _ _ (sm_lo_s1 (v := .ref x) hL rfl hl') hZ)
  -- iinc
  · intro H locs cells slots la hL hZ
    obtain ⟨v, hv, hh⟩ := sv_gl h
    obtain ⟨x, _, hvx, hh⟩ := sv_p1 hh
    cases hvx
    obtain ⟨kx, hkx⟩ := sm_as_at (base := base) (sA := sA) hv
    split at hm <;> simp only [Bool.and_eq_true, decide_eq_true_eq, beq_iff_eq, Bool.false_eq_true] at hm
    obtain ⟨⟨⟨rfl, rfl⟩, rfl⟩, h3⟩ := hm
    exact lv_iinc hx hb hdg (sm_lo_has hL) hkx rfl (Nat.le_of_ble_eq_true h3) rfl (fun la' hl' => hk _ _ _ hh _ _ _ _ _ (sm_lo_s1 (v := .int _) hL rfl hl') hZ)
  -- if_icmp
  · intro H locs cells slots la hL hZ
    split at hm <;> simp only [Bool.and_eq_true, decide_eq_true_eq, beq_iff_eq, Bool.false_eq_true] at hm
    obtain ⟨⟨rfl, rfl⟩, h3⟩ := hm
    have h3 := sm_tgt_of h3
    rename_i q' _ _
    cases q'
    · obtain ⟨x, y, r, rfl, hh⟩ := sv_p2 h
      exact lv_icmp_eq hx hb hdg h3 (fun z => hj _ _ _ _ (by rwa [if_pos z] at hh) _ _ _ _ _ hL hZ) (fun z => hk _ _ _ (by rwa [if_neg z] at hh) _ _ _ _ _ hL hZ)
    · obtain ⟨x, y, r, rfl, hh⟩ := sv_p2 h
      exact lv_icmp_ne hx hb hdg h3 (fun z => hj _ _ _ _ (by rwa [if_neg z] at hh) _ _ _ _ _ hL hZ) (fun z => hk _ _ _ (by rwa [if_pos z] at hh) _ _ _ _ _ hL hZ)
    · obtain ⟨x, y, r, rfl, hh⟩ := sv_p2 h
      exact lv_icmp_lt hx hb hdg h3 (fun z => hj _ _ _ _ (by rwa [if_pos z] at hh) _ _ _ _ _ hL hZ) (fun z => hk _ _ _ (by rwa [if_neg z] at hh) _ _ _ _ _ hL hZ)
    · obtain ⟨x, y, r, rfl, hh⟩ := sv_p2 h
      exact lv_icmp_ge hx hb hdg h3 (fun z => hj _ _ _ _ (by rwa [if_pos z] at hh) _ _ _ _ _ hL hZ) (fun z => hk _ _ _ (by rwa [if_neg z] at hh) _ _ _ _ _ hL hZ)
    · obtain ⟨x, y, r, rfl, hh⟩ := sv_p2 h
      exact lv_icmp_gt hx hb hdg h3 (fun z => hj _ _ _ _ (by rwa [if_pos z] at hh) _ _ _ _ _ hL hZ) (fun z => hk _ _ _ (by rwa [if_neg z] at hh) _ _ _ _ _ hL hZ)
    · obtain ⟨x, y, r, rfl, hh⟩ := sv_p2 h
      exact lv_icmp_le hx hb hdg h3 (fun z => hj _ _ _ _ (by rwa [if_pos z] at hh) _ _ _ _ _ hL hZ) (fun z => hk _ _ _ (by rwa [if_neg z] at hh) _ _ _ _ _ hL hZ)
  -- ifCond
  · intro H locs cells slots la hL hZ
    split at hm <;> simp only [Bool.and_eq_true, decide_eq_true_eq, beq_iff_eq, Bool.false_eq_true] at hm
    obtain ⟨⟨rfl, rfl⟩, h3⟩ := hm
    have h3 := sm_tgt_of h3
    rename_i q' _ _
    cases q'
    · obtain ⟨x, r, rfl, hh⟩ := sv_p1 h
      exact lv_if_eq hx hb hdg h3 (fun z => hj _ _ _ _ (by rwa [if_pos z] at hh) _ _ _ _ _ hL hZ) (fun z => hk _ _ _ (by rwa [if_neg z] at hh) _ _ _ _ _ hL hZ)
    · obtain ⟨x, r, rfl, hh⟩ := sv_p1 h
      exact lv_if_ne hx hb hdg h3 (fun z => hj _ _ _ _ (by rwa [if_neg z] at hh) _ _ _ _ _ hL hZ) (fun z => hk _ _ _ (by rwa [if_pos z] at hh) _ _ _ _ _ hL hZ)
    · obtain ⟨x, r, rfl, hh⟩ := sv_p1 h
      exact lv_if_lt hx hb hdg h3 (fun z => hj _ _ _ _ (by rwa [if_pos z] at hh) _ _ _ _ _ hL hZ) (fun z => hk _ _ _ (by rwa [if_neg z] at hh) _ _ _ _ _ hL hZ)
    · obtain ⟨x, r, rfl, hh⟩ := sv_p1 h
      exact lv_if_ge hx hb hdg h3 (fun z => hj _ _ _ _ (by rwa [if_pos z] at hh) _ _ _ _ _ hL hZ) (fun z => hk _ _ _ (by rwa [if_neg z] at hh) _ _ _ _ _ hL hZ)
    · obtain ⟨x, r, rfl, hh⟩ := sv_p1 h
      exact lv_if_gt hx hb hdg h3 (fun z => hj _ _ _ _ (by rwa [if_pos z] at hh) _ _ _ _ _ hL hZ) (fun z => hk _ _ _ (by rwa [if_neg z] at hh) _ _ _ _ _ hL hZ)
    · obtain ⟨x, r, rfl, hh⟩ := sv_p1 h
      exact lv_if_le hx hb hdg h3 (fun z => hj _ _ _ _ (by rwa [if_pos z] at hh) _ _ _ _ _ hL hZ) (fun z => hk _ _ _ (by rwa [if_neg z] at hh) _ _ _ _ _ hL hZ)
  -- ifnonnull
  · intro H locs cells slots la hL hZ
    split at hm <;> simp only [Bool.and_eq_true, decide_eq_true_eq, beq_iff_eq, Bool.false_eq_true] at hm
    obtain ⟨rfl, h3⟩ := hm
    obtain ⟨x, r, rfl, hh⟩ := sv_a1 h
    exact lv_ifnonnull hx hb hdg (sm_tgt_of h3) (hj _ _ _ _ hh _ _ _ _ _ hL hZ)
  -- goto
  · intro H locs cells slots la hL hZ
    split at hm <;> simp only [Bool.and_eq_true, decide_eq_true_eq, beq_iff_eq, Bool.false_eq_true] at hm
    obtain ⟨rfl, h3⟩ := hm
    exact lv_goto hx hb hdg (sm_tgt_of h3) (hj _ _ _ _ h _ _ _ _ _ hL hZ)
  -- switches
  · intro H locs cells slots la hL hZ
    obtain ⟨x, r, rfl, hh⟩ := sv_p1 h
    split at hm
    · simp only [Bool.and_eq_true, decide_eq_true_eq, List.all_eq_true] at hm
      obtain ⟨⟨⟨⟨h1, h2⟩, h3⟩, h4⟩, h5⟩ := hm
      obtain ⟨t, hf, ht⟩ := sm_lsw h1 h2 h3 h4 hh
      exact lv_lookup hx hb hdg (by rw [List.all_eq_true]; intro q hq; exact decide_eq_true (h5 q hq)) rfl ht (hj _ _ _ _ hf _ _ _ _ _ hL hZ)
    · unfold sm_swT at hm
      simp only [Bool.and_eq_true, decide_eq_true_eq, List.all_eq_true] at hm
      obtain ⟨⟨⟨h1, h2⟩, h3⟩, h4⟩ := hm
      rename_i dflt lo hi offs
      rcases sm_sel_of hh with ⟨q, hq, hxq, hf⟩ | ⟨hnone, hf⟩
      · obtain ⟨e1, e2, e3, off, e4, e5⟩ := h2 q hq
        have hxi : x.toInt = q.1 := by rw [hxq]; exact e1
        exact lv_tableIn hx hb hdg (by rw [hxi]; omega) (by rw [hxi]; omega) (by rw [hxi]; simpa using e4) e5 (hj _ _ _ _ hf _ _ _ _ _ hL hZ)
      · by_cases hr : x.toInt < lo ∨ hi < x.toInt
        · exact lv_tableOut hx hb hdg hr (sm_tgt_of h1) (hj _ _ _ _ hf _ _ _ _ _ hL hZ)
        · have hjl : (x.toInt - lo).toNat < offs.toList.length := by omega
          have h4 := h4 _ (List.mem_range.mpr hjl)
          split at h4
          · rename_i off hoff
            rw [Bool.or_eq_true, decide_eq_true_eq] at h4
            rcases h4 with h4 | h4
            · exact lv_tableIn hx hb hdg (by omega) (by omega) (by simpa using hoff) h4 (hj _ _ _ _ hf _ _ _ _ _ hL hZ)
            · rw [List.any_eq_true] at h4
              obtain ⟨q, hq, e⟩ := h4
              simp only [decide_eq_true_eq] at e
              exfalso
              refine hnone q hq ((sm_oi_inj (h2 q hq).1).mpr ?_)
              omega
          · cases h4
    · cases hm
  -- the rest
  · simp only [Bool.and_eq_true, decide_eq_true_eq, beq_iff_eq] at hm
    obtain ⟨⟨rfl, rfl⟩, hs⟩ := hm
    exact sm_ok_same X0 hdg hk (fun rv u H locs cells slots la hi ho hZ => hret rv u H locs cells slots la hi rfl ho hZ) hs h
end
