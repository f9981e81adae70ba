/-! P_spells: its equations for any local 0 and 4 -/
theorem sq_0 (C : Nat → List Value → sm_M → sm_R) (n : Nat) (u : sm_M) (x0 x4 : Option Value) (v1 v2 : Int32) (w3 : Nat) : sm_run C c_P_spells (n + 1) 0 [x0, some (.int v1), some (.int v2), some (.retAddr w3), x4] [] u = if w3 < 22 then (if (v2 - v1) = (Int32.ofNat (sm_tx w3).length) then (sm_run C c_P_spells n 8 [x0, some (.int v1), some (.int v2), some (.retAddr w3), x4] [] u) else (if (Int32.ofInt 0) = 0 ∨ (Int32.ofInt 0) = 1 then some (some (.int (Int32.ofInt 0)), u) else none)) else none := rfl
theorem sq_8 (C : Nat → List Value → sm_M → sm_R) (n : Nat) (u : sm_M) (x0 x4 : Option Value) (v1 v2 : Int32) (w3 : Nat) : sm_run C c_P_spells (n + 1) 8 [x0, some (.int v1), some (.int v2), some (.retAddr w3), x4] [] u = sm_run C c_P_spells n 11 [x0, some (.int v1), some (.int v2), some (.retAddr w3), some (.int (Int32.ofInt 0))] [] u := rfl
theorem sp_inv {C : Nat → List Value → sm_M → sm_R} {n : Nat} {u : sm_M} {ls : sm_Ls} {o : Option Value × sm_M} (hn : ls.length = 5) (h : sm_run C c_P_spells (n + 1) 0 ls [] u = some o) : ∃ x0 v1 v2 w3 x4, ls = [x0, some (.int v1), some (.int v2), some (.retAddr w3), x4] := by
  match ls, hn with
  | [x0, x1, x2, x3, x4], _ =>
    obtain ⟨a2, e2, h⟩ := sv_gl (show sm_gl _ 2 _ = some o from h)
    obtain ⟨v2, r2, f2, h⟩ := sv_p1 h
    obtain ⟨a1, e1, h⟩ := sv_gl (show sm_gl _ 1 _ = some o from h)
    obtain ⟨v1, r1, f1, h⟩ := sv_p1 h
    obtain ⟨a3, e3, h⟩ := sv_gl (show sm_gl _ 3 _ = some o from h)
    obtain ⟨w3, r3, f3, h⟩ := sv_tp h
    cases f1; cases f2; cases f3
    simp at e1 e2 e3
    subst e1; subst e2; subst e3
    exact ⟨x0, v1, v2, w3, x4, rfl⟩
