/-! one step of the machine is one step of the kit's -/
def sm_tys (dA : Nat → ClassId) : List (ClassId × FieldType) := [(dA 1, .int), (dA 2, .boolean), (dA 3, .long), (dA 4, .object R_S), (dA 5, .object R_N), (dA 6, .object R_X)]
/-- the locals: what the list names lies in the frame -/
def sm_lo (base : Nat) (sA : Nat → Nat) (nL : Nat) (ls : sm_Ls) (la : Array Slot) : Prop := ls.length = nL ∧ la.size = nL ∧ lv_wf la ∧ ∀ (i : Nat) (v : Value), ls[i]? = some (some v) → la[i]? = some (.val (sm_tr base sA v))
def sm_as (base : Nat) (sA : Nat → Nat) (ls : sm_Ls) : List (Nat × Value) := (List.range ls.length).filterMap fun i => match ls[i]? with
  | some (some v) => some (i, sm_tr base sA v)
  | _ => none
theorem sm_as_mem {base : Nat} {sA : Nat → Nat} {ls : sm_Ls} {q : Nat × Value} : q ∈ sm_as base sA ls ↔ ∃ v, ls[q.1]? = some (some v) ∧ q.2 = sm_tr base sA v := by
  unfold sm_as
  rw [List.mem_filterMap]
  constructor
  · rintro ⟨i, -, h⟩
    split at h
    · rename_i v hv
      cases h
      exact ⟨v, hv, rfl⟩
    · cases h
  · rintro ⟨v, h1, h2⟩
    refine ⟨q.1, ?_, ?_⟩
    · rw [List.mem_range]
      exact (List.getElem?_eq_some_iff.mp h1).1
    · rw [h1]
      show some (q.1, _) = some q
      rw [← h2]
theorem sm_lo_has {base : Nat} {sA : Nat → Nat} {nL : Nat} {ls : sm_Ls} {la : Array Slot} (h : sm_lo base sA nL ls la) : lv_has la nL (sm_as base sA ls) := by
  refine ⟨h.2.1, h.2.2.1, fun q hq => ?_⟩
  obtain ⟨v, h1, h2⟩ := sm_as_mem.mp hq
  rw [h2]
  exact h.2.2.2 _ _ h1
theorem sm_tr_cat (base : Nat) (sA : Nat → Nat) (v : Value) : (sm_tr base sA v).category = v.category := by cases v <;> rfl
theorem sm_cl_len (ls : sm_Ls) (i : Nat) : (sm_cl ls i).length = ls.length := by
  unfold sm_cl
  split
  · rfl
  · split <;> simp
theorem sm_cl_at {ls : sm_Ls} {i j : Nat} {v : Value} (h : (sm_cl ls i)[j]? = some (some v)) : ls[j]? = some (some v) ∧ ¬ (j + 1 = i ∧ v.category = 2) := by
  unfold sm_cl at h
  split at h
  · exact ⟨h, fun q => by omega⟩
  · rename_i j0
    split at h
    · rename_i hl
      rw [List.getElem?_set] at h
      split at h
      · split at h <;> cases h
      · rename_i hne
        exact ⟨h, fun q => hne (by omega)⟩
    · rename_i hl
      refine ⟨h, fun q => ?_⟩
      obtain ⟨q1, q2⟩ := q
      have : j = j0 := by omega
      subst this
      rw [h] at hl
      cases v with
      | long x => cases hl
      | double x => cases hl
      | _ => cases q2
theorem sm_lo_s1 {base : Nat} {sA : Nat → Nat} {nL : Nat} {ls : sm_Ls} {la la' : Array Slot} (h : sm_lo base sA nL ls la) {i : Nat} {v : Value} {lv' : List (Nat × Value)} (hl : (i, sm_tr base sA v) :: (sm_as base sA ls).filter (fun q => !(q.1 == i) && !(q.1 + 1 == i && q.2.category == 2)) = lv') (h' : lv_has la' nL lv') : sm_lo base sA nL (sm_s1 ls i v) la' := by
  subst hl
  refine ⟨by unfold sm_s1; rw [List.length_set, sm_cl_len]; exact h.1, h'.1, h'.2.1, fun j w hj => ?_⟩
  unfold sm_s1 at hj
  rw [List.getElem?_set] at hj
  split at hj
  · rename_i e
    subst e
    split at hj
    · cases hj
      exact h'.2.2 (i, _) List.mem_cons_self
    · cases hj
  · rename_i e
    obtain ⟨h1, h2⟩ := sm_cl_at hj
    refine h'.2.2 (j, sm_tr base sA w) (List.mem_cons_of_mem _ (List.mem_filter.mpr ⟨sm_as_mem.mpr ⟨w, h1, rfl⟩, ?_⟩))
    simp only [sm_tr_cat, Bool.and_eq_true, Bool.not_eq_true', beq_eq_false_iff_ne, Bool.and_eq_false_iff]
    refine ⟨fun z => e z.symm, ?_⟩
    by_cases q : j + 1 = i
    · right
      intro hc
      exact h2 ⟨q, hc⟩
    · left; exact q
theorem sm_lo_s2 {base : Nat} {sA : Nat → Nat} {nL : Nat} {ls : sm_Ls} {la la' : Array Slot} (h : sm_lo base sA nL ls la) {i : Nat} {v : Value} {lv' : List (Nat × Value)} (hl : (i, sm_tr base sA v) :: (sm_as base sA ls).filter (fun q => !(q.1 == i) && (!(q.1 == i + 1) && !(q.1 + 1 == i && q.2.category == 2))) = lv') (h' : lv_has la' nL lv') : sm_lo base sA nL (sm_s2 ls i v) la' := by
  subst hl
  refine ⟨by unfold sm_s2; rw [List.length_set, List.length_set, sm_cl_len]; exact h.1, h'.1, h'.2.1, fun j w hj => ?_⟩
  unfold sm_s2 at hj
  rw [List.getElem?_set] at hj
  split at hj
  · split at hj <;> cases hj
  · rename_i e2
    rw [List.getElem?_set] at hj
    split at hj
    · rename_i e
      subst e
      split at hj
      · cases hj
        exact h'.2.2 (i, _) List.mem_cons_self
      · cases hj
    · rename_i e
      obtain ⟨h1, h2⟩ := sm_cl_at hj
      refine h'.2.2 (j, sm_tr base sA w) (List.mem_cons_of_mem _ (List.mem_filter.mpr ⟨sm_as_mem.mpr ⟨w, h1, rfl⟩, ?_⟩))
      simp only [sm_tr_cat, Bool.and_eq_true, Bool.not_eq_true', beq_eq_false_iff_ne, Bool.and_eq_false_iff]
      refine ⟨fun z => e z.symm, fun z => e2 z.symm, ?_⟩
      by_cases q : j + 1 = i
      · right
        intro hc
        exact h2 ⟨q, hc⟩
      · left; exact q
/-- words that a callee may be handed; words that are kept in the world -/
def sm_gd (w : Cond) : Bool := (w.onTables && w.keeps) || (match w with
  | .arrayClass _ => true
  | _ => false)
def sm_nx (w : Cond) : Bool := match w with
  | .fieldLinkNest _ _ _ _ _ _ => true
  | .methodLinkNest _ _ _ _ => true
  | .arrayOver (.object _) => true
  | _ => false
def sm_gt : List Cond := lw_tbl.filter sm_gd
def sm_NW (U : State) : Prop := ∀ w ∈ lw_tbl, sm_nx w = true → w.before #[] U = true
theorem sm_gt_good : ∀ w ∈ sm_gt, w ∈ lw_tbl ∧ ((w.onTables && w.keeps) = true ∨ ∃ ty, w = .arrayClass ty) := by
  intro w hw
  obtain ⟨h1, h2⟩ := List.mem_filter.mp hw
  refine ⟨h1, ?_⟩
  unfold sm_gd at h2
  rw [Bool.or_eq_true] at h2
  rcases h2 with q | q
  · exact Or.inl q
  · right
    split at q
    · exact ⟨_, rfl⟩
    · cases q
theorem sm_lay_gd {C : String} {T : u_T} {N : Nat} : ∀ w ∈ u_ws C T N, sm_gd w = true := by
  intro w hw
  obtain ⟨k, -, rfl⟩ := List.mem_map.mp hw
  unfold u_lay
  split <;> rfl
theorem sm_NW.moved {s U : State} (hW : s.WarmedH U.vm) (h : sm_NW s) : sm_NW U := by
  intro w hw hx
  have h := h w hw hx
  unfold sm_nx at hx
  split at hx
  · exact va_Nw.warmF hW h
  · exact va_Nw.warmM hW h
  · exact va_AO.moved hW.alike h
  · cases hx
section
variable {p : Program} {l : Launch} {e : Env} {R : Room} {s : State} {m : MethodId} {args : Array Value} {below : List Frame} {meth : Method} {c : Code} {Q : State → Prop}
variable {own : String} {cc : ByteArray} {nL : Nat} {D : va_G} {dA : Nat → ClassId} {base : Nat} {sA : Nat → Nat} {SP : State → Prop} {len0 tot0 : Nat}
/-- what holds of a method's frame throughout -/
def sm_cx (p : Program) (R : Room) (s : State) (m : MethodId) (args : Array Value) (c : Code) (own : String) (cc : ByteArray) (nL : Nat) (D : va_G) (dA : Nat → ClassId) (base : Nat) (SP : State → Prop) (len0 : Nat) : Prop :=
  p.tables.exec = Jvm.exec ∧ c.code = cc ∧ c.maxLocals = nL ∧ s.vm.findClass own = some m.cls ∧ (∀ w ∈ sm_gt, w.before args s = true) ∧ sm_NW s ∧ va_K D sm_classes (sm_tys dA) s ∧ SP s ∧ s.heap.size = base + len0 ∧ 1 ≤ R.frames ∧ 40 ≤ R.locals
def sm_Z (D : va_G) (dA : Nat → ClassId) (base : Nat) (s : State) (len0 tot0 : Nat) (u : sm_M) (H : Heap) (locs : List Loc) (cells slots : Nat) : Prop :=
  va_P D sm_classes (sm_wl dA base u) H ∧ va_S (fun q => base ≤ q) s.heap H locs ∧ cells + len0 = u.1.length ∧ slots + tot0 = sm_tot u
def sm_G (p : Program) (l : Launch) (e : Env) (R : Room) (s : State) (m : MethodId) (args : Array Value) (below : List Frame) (meth : Method) (c : Code) (Q : State → Prop) (nL : Nat) (D : va_G) (dA : Nat → ClassId) (base : Nat) (sA : Nat → Nat) (len0 tot0 : Nat) (pc : Nat) (ls : sm_Ls) (st : List Value) (u : sm_M) : Prop :=
  ∀ (H : Heap) (locs : List Loc) (cells slots : Nat) (la : Array Slot), sm_lo base sA nL ls la → sm_Z D dA base s len0 tot0 u H locs cells slots → W p l e R s m args below meth c H locs cells slots Q (F0 m pc la (st.map (sm_tr base sA)))
theorem sm_Z.wr {u v : sm_M} {H H1 : Heap} {locs locs1 : List Loc} {cells slots : Nat} (hZ : sm_Z D dA base s len0 tot0 u H locs cells slots) (h1 : v.1 = u.1) (hP : va_P D sm_classes (sm_wl dA base v) H1) (hS : va_S (fun q => base ≤ q) s.heap H1 locs1) : sm_Z D dA base s len0 tot0 v H1 locs1 cells slots := by
  refine ⟨hP, hS, ?_, ?_⟩
  · rw [h1]; exact hZ.2.2.1
  · unfold sm_tot; rw [h1]; exact hZ.2.2.2
end
