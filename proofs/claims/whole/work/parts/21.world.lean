/-! the machine's memory as a world of the kit: cell number k lies at base + k -/
def sm_tr (base : Nat) (sA : Nat → Nat) : Value → Value
  | .ref a => .ref (base + a)
  | .retAddr j => .ref (sA j)
  | v => v
def sm_nf (t : Nat) : Nat := ((sm_classes[t - 100]?).map (·.2.2)).getD 0
def sm_fv (base : Nat) (u : sm_M) (id t k : Nat) : Value := match sm_fk t k with
  | 0 => .int (sm_I u id k)
  | 1 => .long (sm_L u id k)
  | _ => va_rf ((sm_Rf u id k).map (base + ·))
def sm_ce (dA : Nat → ClassId) (base : Nat) (u : sm_M) (id t n : Nat) : va_E :=
  if t = 1 ∨ t = 2 then .inl (dA t, n, .inl (fun j => sm_I u id j))
  else if t = 3 then .inl (dA t, n, .inr (.inl (fun j => sm_L u id j)))
  else if t ≤ 6 then .inl (dA t, n, .inr (.inr (.inr (.inr (fun j => (sm_Rf u id j).map (base + ·))))))
  else .inr (t - 100, (List.range (sm_nf t)).map (sm_fv base u id t))
def sm_cell (dA : Nat → ClassId) (base : Nat) (u : sm_M) (id : Nat) : va_E := sm_ce dA base u id (sm_tg u id) (sm_ln u id)
def sm_wl (dA : Nat → ClassId) (base : Nat) (u : sm_M) : va_W := (List.range u.1.length).map (fun id => (base + id, sm_cell dA base u id))
theorem sm_wl_at {dA : Nat → ClassId} {base : Nat} {u : sm_M} {id : Nat} (h : id < u.1.length) : (sm_wl dA base u)[id]? = some (base + id, sm_cell dA base u id) := by
  simp [sm_wl, h]
theorem sm_wl_of {dA : Nat → ClassId} {base : Nat} {u : sm_M} {id : Nat} {q : Nat × va_E} (h : (sm_wl dA base u)[id]? = some q) : id < u.1.length ∧ q = (base + id, sm_cell dA base u id) := by
  simp only [sm_wl, List.getElem?_map, Option.map_eq_some_iff] at h
  obtain ⟨x, hx, rfl⟩ := h
  obtain ⟨h1, h2⟩ := List.getElem?_eq_some_iff.mp hx
  rw [List.getElem_range] at h2
  subst h2
  exact ⟨by simpa using h1, rfl⟩
theorem sm_tg_lt {u : sm_M} {id t : Nat} (h : sm_tg u id = t) (ht : t ≠ 0) : id < u.1.length := by
  rcases Nat.lt_or_ge id u.1.length with q | q
  · exact q
  · exfalso
    apply ht
    rw [← h]
    simp [sm_tg, List.getD, List.getElem?_eq_none q]
theorem sm_wl_D {dA : Nat → ClassId} {base : Nat} (u : sm_M) : va_D (fun q => base ≤ q) (sm_wl dA base u) := by
  refine ⟨fun i j p q hi hj h => ?_, fun k q hk => ?_⟩
  · obtain ⟨-, rfl⟩ := sm_wl_of hi
    obtain ⟨-, rfl⟩ := sm_wl_of hj
    have h : base + i = base + j := h
    omega
  · obtain ⟨-, rfl⟩ := sm_wl_of hk
    exact Nat.le_add_right _ _
theorem sm_wl_set {dA : Nat → ClassId} {base : Nat} {u v : sm_M} {o : Nat} {x : va_E} (h1 : v.1 = u.1) (h2 : ∀ id, id ≠ o → sm_cell dA base v id = sm_cell dA base u id) (h3 : sm_cell dA base v o = x) : (sm_wl dA base u).set o (base + o, x) = sm_wl dA base v := by
  apply List.ext_getElem?
  intro i
  rw [List.getElem?_set]
  by_cases hi : i < u.1.length
  · rw [sm_wl_at (u := v) (by rw [h1]; exact hi)]
    split
    · rename_i q; subst q
      rw [if_pos (by simpa [sm_wl] using hi), h3]
    · rename_i q
      rw [sm_wl_at hi, h2 i (fun z => q z.symm)]
  · rw [List.getElem?_eq_none (l := sm_wl dA base v) (by simp [sm_wl, h1]; omega)]
    split
    · rw [if_neg (by simp [sm_wl]; omega)]
    · exact List.getElem?_eq_none (by simp [sm_wl]; omega)
theorem sm_tg_nw {u : sm_M} {t n id : Nat} (h : id < u.1.length) : (sm_nw u t n).1.getD id (0, 0) = u.1.getD id (0, 0) := by
  simp [sm_nw, List.getD, List.getElem?_append_left h]
theorem sm_tg_nw' {u : sm_M} {t n : Nat} : (sm_nw u t n).1.getD u.1.length (0, 0) = (t, n) := by
  simp [sm_nw, List.getD]
theorem sm_ce_congr {dA : Nat → ClassId} {base : Nat} {u v : sm_M} {id t n : Nat} (hI : ∀ j, sm_I v id j = sm_I u id j) (hL : ∀ j, sm_L v id j = sm_L u id j) (hR : ∀ j, sm_Rf v id j = sm_Rf u id j) : sm_ce dA base v id t n = sm_ce dA base u id t n := by
  have e1 : (fun j => sm_I v id j) = (fun j => sm_I u id j) := funext hI
  have e2 : (fun j => sm_L v id j) = (fun j => sm_L u id j) := funext hL
  have e3 : (fun j => (sm_Rf v id j).map (base + ·)) = (fun j => (sm_Rf u id j).map (base + ·)) := funext fun j => by rw [hR]
  have e4 : sm_fv base v id t = sm_fv base u id t := funext fun k => by
    unfold sm_fv
    generalize sm_fk t k = z
    rw [hI, hL, hR]
  unfold sm_ce
  rw [e1, e2, e3, e4]
theorem sm_wl_nw {dA : Nat → ClassId} {base : Nat} {u : sm_M} {t n : Nat} : sm_wl dA base (sm_nw u t n) = sm_wl dA base u ++ [(base + u.1.length, sm_ce dA base (sm_nw u t n) u.1.length t n)] := by
  apply List.ext_getElem?
  intro i
  have hl : (sm_nw u t n).1.length = u.1.length + 1 := by simp [sm_nw]
  have hlu : (sm_wl dA base u).length = u.1.length := by simp [sm_wl]
  rcases Nat.lt_trichotomy i u.1.length with h | h | h
  · rw [sm_wl_at (by omega), List.getElem?_append_left (by rw [hlu]; exact h), sm_wl_at h]
    unfold sm_cell sm_tg sm_ln
    rw [sm_tg_nw h]
    rw [sm_ce_congr]
    · intro j; simp [sm_I, sm_L, sm_Rf, sm_nw, sm_zr, Nat.ne_of_lt h]
    · intro j; simp [sm_I, sm_L, sm_Rf, sm_nw, sm_zr, Nat.ne_of_lt h]
    · intro j; simp [sm_I, sm_L, sm_Rf, sm_nw, sm_zr, Nat.ne_of_lt h]
  · subst h
    rw [sm_wl_at (by omega), List.getElem?_append_right (by omega), hlu, Nat.sub_self]
    unfold sm_cell sm_tg sm_ln
    rw [sm_tg_nw']
    rfl
  · rw [List.getElem?_eq_none (by simp [sm_wl, hl]; omega), List.getElem?_eq_none (by simp [hlu]; omega)]
section
variable {dA : Nat → ClassId} {base : Nat} {u : sm_M} {id : Nat}
theorem sm_cell_i {t : Nat} (h : sm_tg u id = t) (ht : t = 1 ∨ t = 2) : sm_cell dA base u id = .inl (dA t, sm_ln u id, .inl (fun j => sm_I u id j)) := by
  unfold sm_cell sm_ce; rw [h, if_pos ht]
theorem sm_cell_l (h : sm_tg u id = 3) : sm_cell dA base u id = .inl (dA 3, sm_ln u id, .inr (.inl (fun j => sm_L u id j))) := by
  unfold sm_cell sm_ce; rw [h, if_neg (by decide), if_pos rfl]
theorem sm_cell_r {t : Nat} (h : sm_tg u id = t) (h4 : 4 ≤ t) (h6 : t ≤ 6) : sm_cell dA base u id = .inl (dA t, sm_ln u id, .inr (.inr (.inr (.inr (fun j => (sm_Rf u id j).map (base + ·)))))) := by
  unfold sm_cell sm_ce; rw [h, if_neg (by omega), if_neg (by omega), if_pos h6]
theorem sm_cell_o {t : Nat} (h : sm_tg u id = t) (ht : 100 ≤ t) : sm_cell dA base u id = .inr (t - 100, (List.range (sm_nf t)).map (sm_fv base u id t)) := by
  unfold sm_cell sm_ce; rw [h, if_neg (by omega), if_neg (by omega), if_neg (by omega)]
theorem sm_cell_wI_ne {o k : Nat} {v : Int32} (h : id ≠ o) : sm_cell dA base (sm_wI u o k v) id = sm_cell dA base u id :=
  sm_ce_congr (fun j => by simp [sm_I, sm_wI, sm_up, h]) (fun j => rfl) (fun j => rfl)
theorem sm_cell_wL_ne {o k : Nat} {v : Int64} (h : id ≠ o) : sm_cell dA base (sm_wL u o k v) id = sm_cell dA base u id :=
  sm_ce_congr (fun j => rfl) (fun j => by simp [sm_L, sm_wL, sm_up, h]) (fun j => rfl)
theorem sm_cell_wR_ne {o k : Nat} {v : Option Nat} (h : id ≠ o) : sm_cell dA base (sm_wR u o k v) id = sm_cell dA base u id :=
  sm_ce_congr (fun j => rfl) (fun j => rfl) (fun j => by simp [sm_Rf, sm_wR, sm_up, h])
theorem sm_cell_wC_ne {a o sp dp n : Nat} (h : id ≠ o) : sm_cell dA base (sm_wC u a o sp dp n) id = sm_cell dA base u id :=
  sm_ce_congr (fun j => by simp [sm_I, sm_wC, sm_cp, h]) (fun j => rfl) (fun j => rfl)
theorem sm_fs_at {t k : Nat} (hk : k < sm_nf t) : ((List.range (sm_nf t)).map (sm_fv base u id t))[k]? = some (sm_fv base u id t k) := by
  simp [hk]
theorem sm_fs_set {t k : Nat} {v : sm_M} {x : Value} (hk : k < sm_nf t) (h1 : ∀ j, j ≠ k → sm_fv base v id t j = sm_fv base u id t j) (h2 : sm_fv base v id t k = x) : ((List.range (sm_nf t)).map (sm_fv base u id t)).set k x = (List.range (sm_nf t)).map (sm_fv base v id t) := by
  apply List.ext_getElem?
  intro i
  rw [List.getElem?_set]
  by_cases hi : i < sm_nf t
  · rw [sm_fs_at (u := v) hi]
    split
    · rename_i q; subst q
      rw [if_pos (by simpa using hi), h2]
    · rename_i q
      rw [sm_fs_at hi, h1 i (fun z => q z.symm)]
  · have e1 : ∀ w : sm_M, ((List.range (sm_nf t)).map (sm_fv base w id t))[i]? = none := fun w => by simp; omega
    rw [e1, e1]
    split
    · rw [if_neg (by simp; omega)]
    · rfl
end
section
variable {dA : Nat → ClassId} {base : Nat} {u : sm_M} {a k : Nat}
theorem sm_set_i {t : Nat} {v : Int32} (ht : sm_tg u a = t) (h12 : t = 1 ∨ t = 2) : (sm_wl dA base u).set a (base + a, .inl (dA t, sm_ln u a, .inl (upd (fun j => sm_I u a j) k v))) = sm_wl dA base (sm_wI u a k v) := by
  refine sm_wl_set (u := u) rfl (fun id hne => sm_cell_wI_ne hne) ?_
  rw [sm_cell_i (u := sm_wI u a k v) (t := t) ht h12]
  have : (fun j => sm_I (sm_wI u a k v) a j) = upd (fun j => sm_I u a j) k v := funext fun j => by simp [sm_I, sm_wI, sm_up, upd]
  rw [this]
  rfl
theorem sm_set_l {v : Int64} (ht : sm_tg u a = 3) : (sm_wl dA base u).set a (base + a, .inl (dA 3, sm_ln u a, .inr (.inl (vp_updL (fun j => sm_L u a j) k v)))) = sm_wl dA base (sm_wL u a k v) := by
  refine sm_wl_set (u := u) rfl (fun id hne => sm_cell_wL_ne hne) ?_
  rw [sm_cell_l (u := sm_wL u a k v) ht]
  have : (fun j => sm_L (sm_wL u a k v) a j) = vp_updL (fun j => sm_L u a j) k v := funext fun j => by simp [sm_L, sm_wL, sm_up, vp_updL]
  rw [this]
  rfl
theorem sm_set_r {t v : Nat} (ht : sm_tg u a = t) (h4 : 4 ≤ t) (h6 : t ≤ 6) : (sm_wl dA base u).set a (base + a, .inl (dA t, sm_ln u a, .inr (.inr (.inr (.inr (va_up (fun j => (sm_Rf u a j).map (base + ·)) k (some (base + v)))))))) = sm_wl dA base (sm_wR u a k (some v)) := by
  refine sm_wl_set (u := u) rfl (fun id hne => sm_cell_wR_ne hne) ?_
  rw [sm_cell_r (u := sm_wR u a k (some v)) (t := t) ht h4 h6]
  have : (fun j => (sm_Rf (sm_wR u a k (some v)) a j).map (base + ·)) = va_up (fun j => (sm_Rf u a j).map (base + ·)) k (some (base + v)) := funext fun j => by
    simp only [sm_Rf, sm_wR, sm_up, va_up, if_true]
    split <;> rfl
  rw [this]
  rfl
theorem sm_set_c {b sp dp n : Nat} (ht : sm_tg u a = 1) : (sm_wl dA base u).set a (base + a, .inl (dA 1, sm_ln u a, .inl (va_cpy (fun j => sm_I u b j) (fun j => sm_I u a j) sp dp n))) = sm_wl dA base (sm_wC u b a sp dp n) := by
  refine sm_wl_set (u := u) rfl (fun id hne => sm_cell_wC_ne hne) ?_
  rw [sm_cell_i (u := sm_wC u b a sp dp n) (t := 1) ht (Or.inl rfl)]
  have : (fun j => sm_I (sm_wC u b a sp dp n) a j) = va_cpy (fun j => sm_I u b j) (fun j => sm_I u a j) sp dp n := funext fun j => by simp [sm_I, sm_wC, sm_cp, va_cpy]
  rw [this]
  rfl
theorem sm_set_oi {t : Nat} {v : Int32} (ht : sm_tg u a = t) (h : 100 ≤ t) (hk : k < sm_nf t) (hf : sm_fk t k = 0) : (sm_wl dA base u).set a (base + a, .inr (t - 100, ((List.range (sm_nf t)).map (sm_fv base u a t)).set k (.int v))) = sm_wl dA base (sm_wI u a k v) := by
  refine sm_wl_set (u := u) rfl (fun id hne => sm_cell_wI_ne hne) ?_
  rw [sm_cell_o (u := sm_wI u a k v) (t := t) ht h]
  rw [sm_fs_set (v := sm_wI u a k v) hk]
  · intro j hj
    unfold sm_fv
    generalize sm_fk t j = z
    simp [sm_I, sm_L, sm_Rf, sm_wI, sm_up, hj]
  · unfold sm_fv
    rw [hf]
    simp [sm_I, sm_wI, sm_up]
theorem sm_set_ol {t : Nat} {v : Int64} (ht : sm_tg u a = t) (h : 100 ≤ t) (hk : k < sm_nf t) (hf : sm_fk t k = 1) : (sm_wl dA base u).set a (base + a, .inr (t - 100, ((List.range (sm_nf t)).map (sm_fv base u a t)).set k (.long v))) = sm_wl dA base (sm_wL u a k v) := by
  refine sm_wl_set (u := u) rfl (fun id hne => sm_cell_wL_ne hne) ?_
  rw [sm_cell_o (u := sm_wL u a k v) (t := t) ht h]
  rw [sm_fs_set (v := sm_wL u a k v) hk]
  · intro j hj
    unfold sm_fv
    generalize sm_fk t j = z
    simp [sm_I, sm_L, sm_Rf, sm_wL, sm_up, hj]
  · unfold sm_fv
    rw [hf]
    simp [sm_L, sm_wL, sm_up]
theorem sm_set_or {t v : Nat} (ht : sm_tg u a = t) (h : 100 ≤ t) (hk : k < sm_nf t) (hf : sm_fk t k = 2) : (sm_wl dA base u).set a (base + a, .inr (t - 100, ((List.range (sm_nf t)).map (sm_fv base u a t)).set k (.ref (base + v)))) = sm_wl dA base (sm_wR u a k (some v)) := by
  refine sm_wl_set (u := u) rfl (fun id hne => sm_cell_wR_ne hne) ?_
  rw [sm_cell_o (u := sm_wR u a k (some v)) (t := t) ht h]
  rw [sm_fs_set (v := sm_wR u a k (some v)) hk]
  · intro j hj
    unfold sm_fv
    generalize sm_fk t j = z
    simp [sm_I, sm_L, sm_Rf, sm_wR, sm_up, hj]
  · unfold sm_fv
    rw [hf]
    simp [sm_Rf, sm_wR, sm_up, va_rf]
end
