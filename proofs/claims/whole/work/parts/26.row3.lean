def sm_T (a : Nat) : u_T := ((sm_classes[a - 100]?).map (·.2.1)).getD F_S
def sm_C (a : Nat) : String := ((sm_classes[a - 100]?).map (·.1)).getD ""
def sm_ft (a : Nat) : Nat → FieldType := ([ft_S, ft_N, ft_X, ft_T, ft_U, ft_P, ft_R, ft_L, ft_G, ft_H, ft_K, ft_W, ft_M] : List (Nat → FieldType)).getD (a - 100) ft_S
theorem sm_cls_of {a : Nat} (h : 100 ≤ a ∧ a < 113) : sm_classes[a - 100]? = some (sm_C a, sm_T a, sm_nf a) ∧ (∀ w ∈ u_ws (sm_C a) (sm_T a) (sm_nf a), w ∈ lw_tbl) ∧ (∀ k, k < sm_nf a → parseFieldDescriptor (sm_T a k).2.2.1 = some (sm_ft a k)) ∧ (∀ x, x < sm_nf a → ∀ y, y < sm_nf a → x ≠ y → (sm_T a x).2.1 ≠ (sm_T a y).2.1) := by
  obtain ⟨h1, h2⟩ := h
  rcases (show a = 100 ∨ a = 101 ∨ a = 102 ∨ a = 103 ∨ a = 104 ∨ a = 105 ∨ a = 106 ∨ a = 107 ∨ a = 108 ∨ a = 109 ∨ a = 110 ∨ a = 111 ∨ a = 112 by omega) with rfl | rfl | rfl | rfl | rfl | rfl | rfl | rfl | rfl | rfl | rfl | rfl | rfl
  · exact ⟨rfl, fi_S, ft_S_ok, fn_S⟩
  · exact ⟨rfl, fi_N, ft_N_ok, fn_N⟩
  · exact ⟨rfl, fi_X, ft_X_ok, fn_X⟩
  · exact ⟨rfl, fi_T, ft_T_ok, fn_T⟩
  · exact ⟨rfl, fi_U, ft_U_ok, fn_U⟩
  · exact ⟨rfl, fi_P, ft_P_ok, fn_P⟩
  · exact ⟨rfl, fi_R, ft_R_ok, fn_R⟩
  · exact ⟨rfl, fi_L, ft_L_ok, fn_L⟩
  · exact ⟨rfl, fi_G, ft_G_ok, fn_G⟩
  · exact ⟨rfl, fi_H, ft_H_ok, fn_H⟩
  · exact ⟨rfl, fi_K, ft_K_ok, fn_K⟩
  · exact ⟨rfl, fi_W, ft_W_ok, fn_W⟩
  · exact ⟨rfl, fi_M, ft_M_ok, fn_M⟩
theorem sm_u_gt {a : Nat} (h : 100 ≤ a ∧ a < 113) : ∀ w ∈ u_ws (sm_C a) (sm_T a) (sm_nf a), w ∈ sm_gt := fun w hw => List.mem_filter.mpr ⟨(sm_cls_of h).2.1 w hw, sm_lay_gd w hw⟩
/-- a field's link: plain, or to a nest mate -/
def sm_fl (own : String) (x a k h : Nat) : Prop := sm_w h = some (.fieldLink own x (sm_T a k).1 (sm_T a k).2.1 (sm_T a k).2.2.1) ∨ sm_w h = some (.fieldLinkNest own x (sm_T a k).1 (sm_T a k).2.1 (sm_T a k).2.2.1 "WhatWasNearly")
def sm_cal (own : String) (x y h : Nat) : Prop := sm_w h = some (.methodLink own x (sm_yn y)) ∨ sm_w h = some (.methodLinkNest own x (sm_yn y) "WhatWasNearly")
section
variable {p : Program} {l : Launch} {e : Env} {R : Room} {s : State} {m : MethodId} {args : Array Value} {below : List Frame} {meth : Method} {c : Code} {Q : State → Prop}
variable {own : String} {cc : ByteArray} {nL : Nat} {D : va_G} {dA : Nat → ClassId} {base : Nat} {sA : Nat → Nat} {SP : State → Prop} {len0 tot0 : Nat}
variable {k : sm_Ls → List Value → sm_M → sm_R} {o : Option Value × sm_M}
/-- a field is read -/
theorem sm_ok_get {pc a b x h0 i : Nat} {v : Value} (X : sm_cx p R s m args c own cc nL D dA base SP len0) (hdg : decode cc pc = .ok (.getfield x, 3)) (ha : 100 ≤ a ∧ a < 113) (hb2 : b < sm_nf a) (hl : sm_fl own x a b h0) {u : sm_M} (ht : sm_tg u i = a) (hv : sm_fv base u i a b = v)
    {H : Heap} {locs : List Loc} {cells slots : Nat} {la : Array Slot} {rest : List Value} (hZ : sm_Z D dA base s len0 tot0 u H locs cells slots)
    (kk : W p l e R s m args below meth c H locs cells slots Q (F0 m (pc + 3) la (v :: rest))) : W p l e R s m args below meth c H locs cells slots Q (F0 m pc la (.ref (base + i) :: rest)) := by
  obtain ⟨hx, hb, hml, hown, hts, hNW, hK, hSP, hsz, hfr, hlo⟩ := X
  obtain ⟨hc, -, hty, hnm⟩ := sm_cls_of ha
  have hi := sm_wl_at (dA := dA) (base := base) (sm_tg_lt ht (by omega))
  rw [sm_cell_o ht ha.1] at hi
  have hfs := sm_fs_at (base := base) (u := u) (id := i) hb2
  rw [hv] at hfs
  rcases hl with hl | hl
  · exact va_get hx hb hts (sm_u_gt ha) hown hK hZ.1 i hi hc b hb2 (hts _ (List.mem_filter.mpr ⟨sm_w_in hl, rfl⟩)) (fun _ h9 => h9) hfs hdg kk
  · exact va_getN hx hb hts (sm_u_gt ha) hown hK hZ.1 i hi hc b hb2 (va_Nw.use rfl (hNW _ (sm_w_in hl) rfl)) (fun _ h9 => h9) hfs hdg kk
/-- a field is written -/
theorem sm_ok_put {pc a b x h0 i : Nat} {v : Value} {u u' : sm_M} (X : sm_cx p R s m args c own cc nL D dA base SP len0) (hdg : decode cc pc = .ok (.putfield x, 3)) (ha : 100 ≤ a ∧ a < 113) (hb2 : b < sm_nf a) (hl : sm_fl own x a b h0) (ht : sm_tg u i = a)
    (hfin : (sm_T a b).2.2.2 = false ∨ ((sm_T a b).2.2.2 = true ∧ meth.name = "<init>" ∧ (sm_T a b).1 = own ∧ sm_w h0 = some (.fieldLink own x (sm_T a b).1 (sm_T a b).2.1 (sm_T a b).2.2.1)))
    (hn : narrow (sm_ft a b) v = v) (hfit : fits (sm_ft a b) v = true) (h1 : u'.1 = u.1)
    (hset : (sm_wl dA base u).set i (base + i, .inr (a - 100, ((List.range (sm_nf a)).map (sm_fv base u i a)).set b v)) = sm_wl dA base u')
    {H : Heap} {locs : List Loc} {cells slots : Nat} {la : Array Slot} {rest : List Value} (hZ : sm_Z D dA base s len0 tot0 u H locs cells slots)
    (kk : ∀ H1 locs1, sm_Z D dA base s len0 tot0 u' H1 locs1 cells slots → W p l e R s m args below meth c H1 locs1 cells slots Q (F0 m (pc + 3) la rest)) : W p l e R s m args below meth c H locs cells slots Q (F0 m pc la (v :: .ref (base + i) :: rest)) := by
  obtain ⟨hx, hb, hml, hown, hts, hNW, hK, hSP, hsz, hfr, hlo⟩ := X
  obtain ⟨hc, -, hty, hnm⟩ := sm_cls_of ha
  have hi := sm_wl_at (dA := dA) (base := base) (sm_tg_lt ht (by omega))
  rw [sm_cell_o ht ha.1] at hi
  have hlen : b < ((List.range (sm_nf a)).map (sm_fv base u i a)).length := by simpa using hb2
  have fin : ∀ (H1 : Heap) (locs1 : List Loc), va_P D sm_classes ((sm_wl dA base u).set i (base + i, .inr (a - 100, ((List.range (sm_nf a)).map (sm_fv base u i a)).set b v))) H1 → va_D (fun q => base ≤ q) ((sm_wl dA base u).set i (base + i, .inr (a - 100, ((List.range (sm_nf a)).map (sm_fv base u i a)).set b v))) → va_S (fun q => base ≤ q) s.heap H1 locs1 → W p l e R s m args below meth c H1 locs1 cells slots Q (F0 m (pc + 3) la rest) := by
    intro H1 locs1 hP1 _ hS1
    rw [hset] at hP1
    exact kk H1 locs1 (hZ.wr h1 hP1 hS1)
  rcases hfin with hf | ⟨hf, hin, hdecl, hpl⟩
  · rcases hl with hl | hl
    · exact va_put hx hb hts (sm_u_gt ha) (sm_ft a) hty hnm hown hK hZ.1 (sm_wl_D u) hZ.2.1 i hi hc b hb2 (hts _ (List.mem_filter.mpr ⟨sm_w_in hl, rfl⟩)) (fun _ h9 => h9) hf (hty b hb2) hn hfit hlen hdg fin
    · exact va_putN hx hb hts (sm_u_gt ha) (sm_ft a) hty hnm hown hK hZ.1 (sm_wl_D u) hZ.2.1 i hi hc b hb2 (va_Nw.use rfl (hNW _ (sm_w_in hl) rfl)) (fun _ h9 => h9) hf (hty b hb2) hn hfit hlen hdg fin
  · exact va_putF hx hb hts (sm_u_gt ha) (sm_ft a) hty hnm hown hK hZ.1 (sm_wl_D u) hZ.2.1 i hi hc b hb2 (hts _ (List.mem_filter.mpr ⟨sm_w_in hpl, rfl⟩)) (fun _ h9 => h9) hf hin hdecl (hty b hb2) hn hfit hlen hdg fin
/-- how many cells the heap has -/
theorem sm_sized {u : sm_M} {H : Heap} {locs : List Loc} {cells slots : Nat} {g : JFrame} (X : sm_cx p R s m args c own cc nL D dA base SP len0) (hZ : sm_Z D dA base s len0 tot0 u H locs cells slots) (kk : H.size = base + u.1.length → W p l e R s m args below meth c H locs cells slots Q g) : W p l e R s m args below meth c H locs cells slots Q g := by
  intro T hT Y
  refine kk ?_ T hT Y
  have h1 := Y.heapSize
  rw [hT] at h1
  obtain ⟨-, -, -, -, -, -, -, -, hsz, -, -⟩ := X
  obtain ⟨hP, hS, hc, -⟩ := hZ
  have h2 := hS.1
  rcases Nat.eq_zero_or_pos u.1.length with h | h
  · omega
  · have h3 := (hP (u.1.length - 1) _ (sm_wl_at (by omega))).lt
    have h3 : base + (u.1.length - 1) < H.size := h3
    omega
end
