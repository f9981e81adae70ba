theorem sm_dv : ∀ a, a < 113 → 100 ≤ a → ∀ j, j < sm_nf a → defaultValue (sm_ft a j) = (match sm_fk a j with
    | 0 => .int 0
    | 1 => .long 0
    | _ => .null) := by decide +kernel
theorem sm_inst {a : Nat} (h : 100 ≤ a ∧ a < 113) : Cond.instantiable (sm_C a) (sm_nf a) ∈ lw_tbl ∧ Cond.initialized (sm_C a) ∈ lw_tbl := by
  obtain ⟨h1, h2⟩ := h
  rcases (show a = 100 ∨ a = 101 ∨ a = 102 ∨ a = 103 ∨ a = 104 ∨ a = 105 ∨ a = 106 ∨ a = 107 ∨ a = 108 ∨ a = 109 ∨ a = 110 ∨ a = 111 ∨ a = 112 by omega) with rfl | rfl | rfl | rfl | rfl | rfl | rfl | rfl | rfl | rfl | rfl | rfl | rfl
  · exact ⟨gw_in_S, gw_iz_S⟩
  · exact ⟨gw_in_N, gw_iz_N⟩
  · exact ⟨gw_in_X, gw_iz_X⟩
  · exact ⟨gw_in_T, gw_iz_T⟩
  · exact ⟨gw_in_U, gw_iz_U⟩
  · exact ⟨gw_in_P, gw_iz_P⟩
  · exact ⟨gw_in_R, gw_iz_R⟩
  · exact ⟨gw_in_L, gw_iz_L⟩
  · exact ⟨gw_in_G, gw_iz_G⟩
  · exact ⟨gw_in_H, gw_iz_H⟩
  · exact ⟨gw_in_K, gw_iz_K⟩
  · exact ⟨gw_in_W, gw_iz_W⟩
  · exact ⟨gw_in_M, gw_iz_M⟩
section
variable {p : Program} {l : Launch} {e : Env} {R : Room} {s : State} {m : MethodId} {args : Array Value} {below : List Frame} {meth : Method} {c : Code} {Q : State → Prop}
variable {own : String} {cc : ByteArray} {nL : Nat} {D : va_G} {dA : Nat → ClassId} {base : Nat} {sA : Nat → Nat} {SP : State → Prop} {len0 tot0 : Nat}
/-- a new cell lies behind the others -/
theorem sm_fresh {u : sm_M} {H1 : Heap} {locs : List Loc} {cells slots q : Nat} {x : va_E} {g : JFrame} (hsz : s.heap.size = base + len0) (hc : cells + len0 = u.1.length)
    (hP : va_P D sm_classes (sm_wl dA base u ++ [(q, x)]) H1) (hD : va_D (fun q => base ≤ q) (sm_wl dA base u ++ [(q, x)]))
    (kk : q = base + u.1.length → W p l e R s m args below meth c H1 locs (cells + 1) slots Q g) : W p l e R s m args below meth c H1 locs (cells + 1) slots Q g := by
  intro T hT Y
  refine kk ?_ T hT Y
  have h1 := Y.heapSize
  rw [hT] at h1
  have hlen : (sm_wl dA base u).length = u.1.length := by simp [sm_wl]
  have hq : (sm_wl dA base u ++ [(q, x)])[u.1.length]? = some (q, x) := by
    rw [List.getElem?_append_right (by omega), hlen, Nat.sub_self]; rfl
  have h2 : q < H1.size := (hP _ _ hq).lt
  have h3 : base ≤ q := hD.2 _ _ hq
  rcases Nat.lt_or_ge q (base + u.1.length) with h | h
  · exfalso
    have h4 : (sm_wl dA base u ++ [(q, x)])[q - base]? = some (base + (q - base), sm_cell dA base u (q - base)) := by
      rw [List.getElem?_append_left (by omega), sm_wl_at (by omega)]
    have h5 := hD.1 _ _ _ _ h4 hq (by show base + (q - base) = q; omega)
    omega
  · omega
theorem sm_nw_tot (u : sm_M) (t n : Nat) : sm_tot (sm_nw u t n) = sm_tot u + n := by
  simp [sm_nw, sm_tot]
theorem sm_ok_new {pc a x h0 : Nat} {u : sm_M} (X : sm_cx p R s m args c own cc nL D dA base SP len0) (hdg : decode cc pc = .ok (.new x, 3)) (ha : 100 ≤ a ∧ a < 113) (hl : sm_w h0 = some (.classLink own x (sm_C a)))
    {H : Heap} {locs : List Loc} {cells slots : Nat} {la : Array Slot} {rest : List Value} (hZ : sm_Z D dA base s len0 tot0 u H locs cells slots) (hcell : cells + 1 ≤ R.cells) (hslot : slots + sm_nf a ≤ R.slots)
    (kk : ∀ H1, sm_Z D dA base s len0 tot0 (sm_nw u a (sm_nf a)) H1 locs (cells + 1) (slots + sm_nf a) → W p l e R s m args below meth c H1 locs (cells + 1) (slots + sm_nf a) Q (F0 m (pc + 3) la (.ref (base + u.1.length) :: rest))) : W p l e R s m args below meth c H locs cells slots Q (F0 m pc la rest) := by
  obtain ⟨hx, hb, hml, hown, hts, hNW, hK, hSP, hsz, hfr, hlo⟩ := X
  obtain ⟨hc, -, hty, hnm⟩ := sm_cls_of ha
  obtain ⟨i1, i2⟩ := sm_inst ha
  refine va_new (fs := (List.range (sm_nf a)).map (sm_fv base (sm_nw u a (sm_nf a)) u.1.length a)) hx hb hts (sm_u_gt ha) (sm_ft a) hty hown (hts _ (List.mem_filter.mpr ⟨sm_w_in hl, rfl⟩)) (hts _ (List.mem_filter.mpr ⟨i1, rfl⟩)) (hts _ (List.mem_filter.mpr ⟨i2, rfl⟩)) hK hZ.1 (sm_wl_D u) hZ.2.1 (fun q hq => by show base ≤ q; omega) hc ?_ hcell hslot hdg (fun q H1 hP1 hD1 hS1 => ?_)
  · intro j hj
    rw [sm_dv a ha.2 ha.1 j hj]
    unfold vp_V
    rw [List.getD_eq_getElem?_getD, sm_fs_at hj]
    unfold sm_fv
    have q1 : sm_I (sm_nw u a (sm_nf a)) u.1.length j = 0 := by simp [sm_I, sm_nw, sm_zr]
    have q2 : sm_L (sm_nw u a (sm_nf a)) u.1.length j = 0 := by simp [sm_L, sm_nw, sm_zr]
    have q3 : sm_Rf (sm_nw u a (sm_nf a)) u.1.length j = none := by simp [sm_Rf, sm_nw, sm_zr]
    rw [q1, q2, q3]
    rfl
  · refine sm_fresh hsz hZ.2.2.1 hP1 hD1 (fun hq => ?_)
    subst hq
    have e : sm_wl dA base u ++ [(base + u.1.length, Sum.inr (a - 100, (List.range (sm_nf a)).map (sm_fv base (sm_nw u a (sm_nf a)) u.1.length a)))] = sm_wl dA base (sm_nw u a (sm_nf a)) := by
      rw [sm_wl_nw]
      unfold sm_ce
      rw [if_neg (by omega), if_neg (by omega), if_neg (by omega)]
    rw [e] at hP1
    exact kk H1 ⟨hP1, hS1, by have := hZ.2.2.1; simp [sm_nw]; omega, by rw [sm_nw_tot]; have := hZ.2.2.2; omega⟩
theorem sm_ok_newa {pc a h0 : Nat} {u : sm_M} {n : Int32} {ri : Instr} {len : Nat} (X : sm_cx p R s m args c own cc nL D dA base SP len0) (hdg : decode cc pc = .ok (ri, len))
    (hr : (ri = .newarray (sm_at a) ∧ len = 2 ∧ 1 ≤ a ∧ a ≤ 3) ∨ ∃ x, ri = .anewarray x ∧ len = 3 ∧ 4 ≤ a ∧ a ≤ 6 ∧ sm_w h0 = some (.classLink own x (sm_C (96 + a)))) (hn0 : 0 ≤ n) (hn1 : n ≤ 100000)
    {H : Heap} {locs : List Loc} {cells slots : Nat} {la : Array Slot} {rest : List Value} (hZ : sm_Z D dA base s len0 tot0 u H locs cells slots) (hcell : cells + 1 ≤ R.cells) (hslot : slots + n.toNatClampNeg ≤ R.slots)
    (kk : ∀ H1, sm_Z D dA base s len0 tot0 (sm_nw u a n.toNatClampNeg) H1 locs (cells + 1) (slots + n.toNatClampNeg) → W p l e R s m args below meth c H1 locs (cells + 1) (slots + n.toNatClampNeg) Q (F0 m (pc + len) la (.ref (base + u.1.length) :: rest))) : W p l e R s m args below meth c H locs cells slots Q (F0 m pc la (.int n :: rest)) := by
  obtain ⟨hx, hb, hml, hown, hts, hNW, hK, hSP, hsz, hfr, hlo⟩ := X
  have hnn : ¬ n < 0 := Int32.not_lt.mpr hn0
  have hle : n.toNatClampNeg ≤ 100000 := by
    have h1 : n.toInt ≤ (100000 : Int32).toInt := Int32.le_iff_toInt_le.mp hn1
    have h2 : (100000 : Int32).toInt = 100000 := by decide
    show n.toInt.toNat ≤ 100000
    omega
  have fin : ∀ (cA : ClassId) (x : va_E) (q : Nat) (H1 : Heap), x = sm_ce dA base (sm_nw u a n.toNatClampNeg) u.1.length a n.toNatClampNeg → va_P D sm_classes (sm_wl dA base u ++ [(q, x)]) H1 → va_D (fun q => base ≤ q) (sm_wl dA base u ++ [(q, x)]) → va_S (fun q => base ≤ q) s.heap H1 locs → W p l e R s m args below meth c H1 locs (cells + 1) (slots + n.toNatClampNeg) Q (F0 m (pc + len) la (.ref q :: rest)) := by
    intro cA x q H1 hxe hP1 hD1 hS1
    subst hxe
    refine sm_fresh hsz hZ.2.2.1 hP1 hD1 (fun hq => ?_)
    subst hq
    rw [← sm_wl_nw] at hP1
    exact kk H1 ⟨hP1, hS1, by have := hZ.2.2.1; simp [sm_nw]; omega, by rw [sm_nw_tot]; have := hZ.2.2.2; omega⟩
  rcases hr with ⟨rfl, rfl, h1, h3⟩ | ⟨x, rfl, rfl, h4, h6, hl⟩
  · rcases (show a = 1 ∨ a = 2 ∨ a = 3 by omega) with rfl | rfl | rfl
    · refine va_newa (atype := .int) (ty := .int) (a0 := (n.toNatClampNeg, .inl (fun _ => 0))) hx hb (hts _ (List.mem_filter.mpr ⟨gw_ac_int, rfl⟩)) rfl hK hZ.1 (sm_wl_D u) hZ.2.1 (fun q hq => by show base ≤ q; omega) (fun cA => rfl) hnn rfl (by show n.toNatClampNeg * 4 ≤ _; omega) hcell hslot hdg (fun q cA H1 hK1 hP1 hD1 hS1 => fin cA _ q H1 ?_ hP1 hD1 hS1)
      have r1 := (hK1.2 6 (cA, .int) rfl).2
      have r2 := (hK.2 0 (dA 1, .int) rfl).2
      have e : cA = dA 1 := Option.some.inj ((show s.vm.findClass _ = some cA from r1).symm.trans r2)
      subst e
      unfold sm_ce
      rw [if_pos (Or.inl rfl)]
      have : (fun j => sm_I (sm_nw u 1 n.toNatClampNeg) u.1.length j) = fun _ => (0 : Int32) := funext fun j => by simp [sm_I, sm_nw, sm_zr]
      rw [this]
    · refine va_newa (atype := .boolean) (ty := .boolean) (a0 := (n.toNatClampNeg, .inl (fun _ => 0))) hx hb (hts _ (List.mem_filter.mpr ⟨gw_ac_boolean, rfl⟩)) rfl hK hZ.1 (sm_wl_D u) hZ.2.1 (fun q hq => by show base ≤ q; omega) (fun cA => rfl) hnn rfl (by show n.toNatClampNeg * 1 ≤ _; omega) hcell hslot hdg (fun q cA H1 hK1 hP1 hD1 hS1 => fin cA _ q H1 ?_ hP1 hD1 hS1)
      have r1 := (hK1.2 6 (cA, .boolean) rfl).2
      have r2 := (hK.2 1 (dA 2, .boolean) rfl).2
      have e : cA = dA 2 := Option.some.inj ((show s.vm.findClass _ = some cA from r1).symm.trans r2)
      subst e
      unfold sm_ce
      rw [if_pos (Or.inr rfl)]
      have : (fun j => sm_I (sm_nw u 2 n.toNatClampNeg) u.1.length j) = fun _ => (0 : Int32) := funext fun j => by simp [sm_I, sm_nw, sm_zr]
      rw [this]
    · refine va_newa (atype := .long) (ty := .long) (a0 := (n.toNatClampNeg, .inr (.inl (fun _ => 0)))) hx hb (hts _ (List.mem_filter.mpr ⟨gw_ac_long, rfl⟩)) rfl hK hZ.1 (sm_wl_D u) hZ.2.1 (fun q hq => by show base ≤ q; omega) (fun cA => rfl) hnn rfl (by show n.toNatClampNeg * 8 ≤ _; omega) hcell hslot hdg (fun q cA H1 hK1 hP1 hD1 hS1 => fin cA _ q H1 ?_ hP1 hD1 hS1)
      have r1 := (hK1.2 6 (cA, .long) rfl).2
      have r2 := (hK.2 2 (dA 3, .long) rfl).2
      have e : cA = dA 3 := Option.some.inj ((show s.vm.findClass _ = some cA from r1).symm.trans r2)
      subst e
      unfold sm_ce
      rw [if_neg (by decide), if_pos rfl]
      have : (fun j => sm_L (sm_nw u 3 n.toNatClampNeg) u.1.length j) = fun _ => (0 : Int64) := funext fun j => by simp [sm_L, sm_nw, sm_zr]
      rw [this]
  · have key : ∀ (C : String) (t0 : Nat), sm_C (96 + a) = C → Cond.arrayOver (.object C) ∈ lw_tbl → (sm_tys dA)[t0]? = some (dA a, .object C) → W p l e R s m args below meth c H locs cells slots Q (F0 m pc la (.int n :: rest)) := by
      intro C t0 hC hao ht0
      subst hC
      refine va_newq hx hb hown (hts _ (List.mem_filter.mpr ⟨sm_w_in hl, rfl⟩)) (hNW _ hao rfl) hK hZ.1 (sm_wl_D u) hZ.2.1 (fun q hq => by show base ≤ q; omega) hnn rfl (by omega) hcell hslot hdg (fun q cA H1 hK1 hP1 hD1 hS1 => fin cA _ q H1 ?_ hP1 hD1 hS1)
      have r1 := (hK1.2 6 (cA, .object (sm_C (96 + a))) rfl).2
      have r2 := (hK.2 t0 _ ht0).2
      obtain ⟨_, _, _, _, _, e1⟩ := r1
      obtain ⟨_, _, _, _, _, e2⟩ := r2
      have e : cA = dA a := Option.some.inj (e1.symm.trans e2)
      subst e
      unfold sm_ce
      rw [if_neg (by omega), if_neg (by omega), if_pos h6]
      have : (fun j => (sm_Rf (sm_nw u a n.toNatClampNeg) u.1.length j).map (base + ·)) = fun _ => (none : Option Nat) := funext fun j => by simp [sm_Rf, sm_nw, sm_zr]
      rw [this]
    rcases (show a = 4 ∨ a = 5 ∨ a = 6 by omega) with rfl | rfl | rfl
    · exact key R_S 3 rfl gw_ao_S rfl
    · exact key R_N 4 rfl gw_ao_N rfl
    · exact key R_X 5 rfl gw_ao_X rfl
end
