/-! texts: the reference behind one (by wip/whole/mk_98vn.py) -/
theorem z_M_compareOf_0 (C : Nat → List Value → sm_M → sm_R) (n : Nat) (u : sm_M) (a0 : Nat) : sm_run C c_M_compareOf (n + 1) 0 [some (.ref a0)] [] u = if sm_tg u a0 = 112 then (if (sm_I u a0 9) = (nI 60) then (sm_run C c_M_compareOf n 38 [some (.ref a0)] [.int (nI 10)] u) else (sm_run C c_M_compareOf n 6 [some (.ref a0)] [] u)) else none := q_M_compareOf_0 C n u a0
theorem z_M_compareOf_38 (C : Nat → List Value → sm_M → sm_R) (n : Nat) (u : sm_M) (a0 : Nat) (s0 : Int32) : sm_run C c_M_compareOf (n + 1) 38 [some (.ref a0)] [.int s0] u = some (some (.int s0), u) := q_M_compareOf_38 C n u a0 s0
theorem z_M_compareOf_6 (C : Nat → List Value → sm_M → sm_R) (n : Nat) (u : sm_M) (a0 : Nat) : sm_run C c_M_compareOf (n + 1) 6 [some (.ref a0)] [] u = if sm_tg u a0 = 112 then (if (sm_I u a0 9) = (nI 4) then (sm_run C c_M_compareOf n 38 [some (.ref a0)] [.int (nI 11)] u) else (sm_run C c_M_compareOf n 12 [some (.ref a0)] [] u)) else none := q_M_compareOf_6 C n u a0
theorem z_M_compareOf_12 (C : Nat → List Value → sm_M → sm_R) (n : Nat) (u : sm_M) (a0 : Nat) : sm_run C c_M_compareOf (n + 1) 12 [some (.ref a0)] [] u = if sm_tg u a0 = 112 then (if (sm_I u a0 9) = (nI 62) then (sm_run C c_M_compareOf n 38 [some (.ref a0)] [.int (nI 12)] u) else (sm_run C c_M_compareOf n 18 [some (.ref a0)] [] u)) else none := q_M_compareOf_12 C n u a0
theorem z_M_compareOf_18 (C : Nat → List Value → sm_M → sm_R) (n : Nat) (u : sm_M) (a0 : Nat) : sm_run C c_M_compareOf (n + 1) 18 [some (.ref a0)] [] u = if sm_tg u a0 = 112 then (if (sm_I u a0 9) = (nI 5) then (sm_run C c_M_compareOf n 38 [some (.ref a0)] [.int (nI 13)] u) else (sm_run C c_M_compareOf n 24 [some (.ref a0)] [] u)) else none := q_M_compareOf_18 C n u a0
theorem z_M_compareOf_24 (C : Nat → List Value → sm_M → sm_R) (n : Nat) (u : sm_M) (a0 : Nat) : sm_run C c_M_compareOf (n + 1) 24 [some (.ref a0)] [] u = if sm_tg u a0 = 112 then (if (sm_I u a0 9) = (nI 61) then (sm_run C c_M_compareOf n 38 [some (.ref a0)] [.int (nI 14)] u) else (sm_run C c_M_compareOf n 30 [some (.ref a0)] [] u)) else none := q_M_compareOf_24 C n u a0
theorem z_M_compareOf_30 (C : Nat → List Value → sm_M → sm_R) (n : Nat) (u : sm_M) (a0 : Nat) : sm_run C c_M_compareOf (n + 1) 30 [some (.ref a0)] [] u = if sm_tg u a0 = 112 then (if (sm_I u a0 9) = (nI 35) then (sm_run C c_M_compareOf n 38 [some (.ref a0)] [.int (nI 15)] u) else (sm_run C c_M_compareOf n 36 [some (.ref a0)] [] u)) else none := q_M_compareOf_30 C n u a0
theorem z_M_compareOf_36 (C : Nat → List Value → sm_M → sm_R) (n : Nat) (u : sm_M) (a0 : Nat) : sm_run C c_M_compareOf (n + 1) 36 [some (.ref a0)] [] u = sm_run C c_M_compareOf n 38 [some (.ref a0)] [.int (Int32.ofInt (-1))] u := q_M_compareOf_36 C n u a0
theorem z_M_betweenOf_0 (C : Nat → List Value → sm_M → sm_R) (n : Nat) (u : sm_M) (a0 : Nat) : sm_run C c_M_betweenOf (n + 1) 0 [some (.ref a0), none] [] u = if sm_tg u a0 = 112 then (if (sm_I u a0 17) ≤ 0 then (sm_run C c_M_betweenOf n 14 [some (.ref a0), none] [] u) else (if sm_tg u a0 = 112 then sm_rr (sm_Rf u a0 15) (fun q1 => if sm_tg u a0 = 112 then (if sm_in u 1 q1 ((sm_I u a0 17) - (nI 1)) then (if (sm_I u q1 ((sm_I u a0 17) - (nI 1)).toNatClampNeg) = (nI 16) then (sm_run C c_M_betweenOf n 16 [some (.ref a0), none] [.int (nI 1)] u) else (sm_run C c_M_betweenOf n 14 [some (.ref a0), none] [] u)) else none) else none) else none)) else none := q_M_betweenOf_0 C n u a0
theorem z_M_betweenOf_14 (C : Nat → List Value → sm_M → sm_R) (n : Nat) (u : sm_M) (a0 : Nat) : sm_run C c_M_betweenOf (n + 1) 14 [some (.ref a0), none] [] u = sm_run C c_M_betweenOf n 16 [some (.ref a0), none] [.int (nI 0)] u := q_M_betweenOf_14 C n u a0
theorem z_M_betweenOf_49 (C : Nat → List Value → sm_M → sm_R) (n : Nat) (u : sm_M) (a0 : Nat) (v1 : Int32) : sm_run C c_M_betweenOf (n + 1) 49 [some (.ref a0), some (.int v1)] [] u = if sm_tg u a0 = 112 then (sm_ri (C 238 [.ref a0] u) (fun x2 u1 => if x2 = 0 then (some (some (.int (Int32.ofInt (-1))), u1)) else (sm_run C c_M_betweenOf n 54 [some (.ref a0), some (.int v1)] [] u1))) else none := q_M_betweenOf_49 C n u a0 v1
theorem z_M_betweenOf_54 (C : Nat → List Value → sm_M → sm_R) (n : Nat) (u : sm_M) (a0 : Nat) (v1 : Int32) : sm_run C c_M_betweenOf (n + 1) 54 [some (.ref a0), some (.int v1)] [] u = if sm_tg u a0 = 112 then (sm_ri (C 237 [.ref a0] u) (fun x2 u1 => if x2 = 0 then (if sm_tg u1 a0 = 112 then (sm_ri (C 243 [.ref a0] u1) (fun x4 u3 => some (some (.int x4), u3))) else none) else (sm_run C c_M_betweenOf n 60 [some (.ref a0), some (.int v1)] [] u1))) else none := q_M_betweenOf_54 C n u a0 v1
theorem z_M_betweenOf_60 (C : Nat → List Value → sm_M → sm_R) (n : Nat) (u : sm_M) (a0 : Nat) (v1 : Int32) : sm_run C c_M_betweenOf (n + 1) 60 [some (.ref a0), some (.int v1)] [] u = sm_rl (C 227 [.int (nI 97), .int (nI 110), .int (nI 100)] u) (fun x2 u1 => if sm_tg u1 a0 = 112 then (sm_ri (C 231 [.ref a0, .long x2] u1) (fun x4 u3 => if x4 = 0 then (sm_run C c_M_betweenOf n 69 [some (.ref a0), some (.int v1)] [] u3) else (some (some (.int (nI 21)), u3)))) else none) := q_M_betweenOf_60 C n u a0 v1
theorem z_M_betweenOf_69 (C : Nat → List Value → sm_M → sm_R) (n : Nat) (u : sm_M) (a0 : Nat) (v1 : Int32) : sm_run C c_M_betweenOf (n + 1) 69 [some (.ref a0), some (.int v1)] [] u = sm_rl (C 226 [.int (nI 111), .int (nI 114)] u) (fun x2 u1 => if sm_tg u1 a0 = 112 then (sm_ri (C 231 [.ref a0, .long x2] u1) (fun x4 u3 => if x4 = 0 then (sm_run C c_M_betweenOf n 77 [some (.ref a0), some (.int v1)] [] u3) else (some (some (.int (nI 22)), u3)))) else none) := q_M_betweenOf_69 C n u a0 v1
theorem z_M_betweenOf_77 (C : Nat → List Value → sm_M → sm_R) (n : Nat) (u : sm_M) (a0 : Nat) (v1 : Int32) : sm_run C c_M_betweenOf (n + 1) 77 [some (.ref a0), some (.int v1)] [] u = sm_rl (C 226 [.int (nI 115), .int (nI 111)] u) (fun x2 u1 => if sm_tg u1 a0 = 112 then (sm_ri (C 231 [.ref a0, .long x2] u1) (fun x4 u3 => if x4 = 0 then (sm_run C c_M_betweenOf n 89 [some (.ref a0), some (.int v1)] [] u3) else (if sm_tg u3 a0 = 112 then (sm_ri (C 236 [.ref a0] u3) (fun x6 u5 => if x6 = (Int32.ofInt (-1)) then (sm_run C c_M_betweenOf n 91 [some (.ref a0), some (.int v1)] [.int (nI 23)] u5) else (sm_run C c_M_betweenOf n 89 [some (.ref a0), some (.int v1)] [] u5))) else none))) else none) := q_M_betweenOf_77 C n u a0 v1
theorem z_M_betweenOf_91 (C : Nat → List Value → sm_M → sm_R) (n : Nat) (u : sm_M) (a0 : Nat) (v1 s0 : Int32) : sm_run C c_M_betweenOf (n + 1) 91 [some (.ref a0), some (.int v1)] [.int s0] u = some (some (.int s0), u) := q_M_betweenOf_91 C n u a0 v1 s0
theorem z_M_betweenOf_89 (C : Nat → List Value → sm_M → sm_R) (n : Nat) (u : sm_M) (a0 : Nat) (v1 : Int32) : sm_run C c_M_betweenOf (n + 1) 89 [some (.ref a0), some (.int v1)] [] u = sm_run C c_M_betweenOf n 91 [some (.ref a0), some (.int v1)] [.int (Int32.ofInt (-1))] u := q_M_betweenOf_89 C n u a0 v1
theorem z_M_betweenOf_16 (C : Nat → List Value → sm_M → sm_R) (n : Nat) (u : sm_M) (a0 : Nat) (s0 : Int32) : sm_run C c_M_betweenOf (n + 1) 16 [some (.ref a0), none] [.int s0] u = if s0 = 0 then (if sm_tg u a0 = 112 then (if (sm_I u a0 9) = (nI 43) then (some (some (.int (nI 6)), u)) else (sm_run C c_M_betweenOf n 25 [some (.ref a0), some (.int s0)] [] u)) else none) else (sm_run C c_M_betweenOf n 25 [some (.ref a0), some (.int s0)] [] u) := q_M_betweenOf_16 C n u a0 s0
theorem z_M_betweenOf_25 (C : Nat → List Value → sm_M → sm_R) (n : Nat) (u : sm_M) (a0 : Nat) (v1 : Int32) : sm_run C c_M_betweenOf (n + 1) 25 [some (.ref a0), some (.int v1)] [] u = if v1 = 0 then (if sm_tg u a0 = 112 then (if (sm_I u a0 9) = (nI 45) then (some (some (.int (nI 7)), u)) else (sm_run C c_M_betweenOf n 33 [some (.ref a0), some (.int v1)] [] u)) else none) else (sm_run C c_M_betweenOf n 33 [some (.ref a0), some (.int v1)] [] u) := q_M_betweenOf_25 C n u a0 v1
theorem z_M_betweenOf_33 (C : Nat → List Value → sm_M → sm_R) (n : Nat) (u : sm_M) (a0 : Nat) (v1 : Int32) : sm_run C c_M_betweenOf (n + 1) 33 [some (.ref a0), some (.int v1)] [] u = if v1 = 0 then (if sm_tg u a0 = 112 then (if (sm_I u a0 9) = (nI 42) then (some (some (.int (nI 8)), u)) else (sm_run C c_M_betweenOf n 41 [some (.ref a0), some (.int v1)] [] u)) else none) else (sm_run C c_M_betweenOf n 41 [some (.ref a0), some (.int v1)] [] u) := q_M_betweenOf_33 C n u a0 v1
theorem z_M_betweenOf_41 (C : Nat → List Value → sm_M → sm_R) (n : Nat) (u : sm_M) (a0 : Nat) (v1 : Int32) : sm_run C c_M_betweenOf (n + 1) 41 [some (.ref a0), some (.int v1)] [] u = if v1 = 0 then (if sm_tg u a0 = 112 then (if (sm_I u a0 9) = (nI 47) then (some (some (.int (nI 9)), u)) else (sm_run C c_M_betweenOf n 49 [some (.ref a0), some (.int v1)] [] u)) else none) else (sm_run C c_M_betweenOf n 49 [some (.ref a0), some (.int v1)] [] u) := q_M_betweenOf_41 C n u a0 v1
def cmO (k : Nat) : Nat := if k = 60 then 10 else if k = 3 then 11 else if k = 62 then 12 else if k = 4 then 13 else if k = 61 then 14 else if k = 35 then 15 else 99
def ovr : List Nat → Bool
  | [] => false
  | o :: _ => decide (o = 16)
/-- 99: nothing -/
def betF (P : List Nat) (k : Nat) : Nat :=
  if ¬ ovr P = true ∧ k = 43 then 6 else if ¬ ovr P = true ∧ k = 45 then 7 else if ¬ ovr P = true ∧ k = 42 then 8 else if ¬ ovr P = true ∧ k = 47 then 9
  else if opw P = 40 then 99
  else if ¬ icm P = true then cmO k
  else if k = 214 then 21 else if k = 213 then 22 else if k = 212 ∧ opw P = 0 then 23 else 99
def btI (o : Nat) : Int32 := if o = 99 then Int32.ofInt (-1) else nI o
def cntn : List Nat → Nat
  | [] => 0
  | x :: _ => x
def behF (b : Nat → Nat) (n : Nat) (τ : S5) : Nat × S5 :=
  if ¬ betF τ.2.2.1 (kdp b n τ.1) = 99 then (0, (nx1 b n τ.1, (stl (if betF τ.2.2.1 (kdp b n τ.1) = 23 then 2 else rnk (betF τ.2.2.1 (kdp b n τ.1))) τ.2.2.1 τ.2.1).2, betF τ.2.2.1 (kdp b n τ.1) :: (stl (if betF τ.2.2.1 (kdp b n τ.1) = 23 then 2 else rnk (betF τ.2.2.1 (kdp b n τ.1))) τ.2.2.1 τ.2.1).1, τ.2.2.2.1, false))
  else if opw τ.2.2.1 = 41 ∧ ¬ icm τ.2.2.1 = true then (9, τ)
  else if opw τ.2.2.1 = 41 ∧ kdp b n τ.1 = 44 then (if cntn τ.2.2.2.1 = 6 then (7, τ) else (0, (nx1 b n τ.1, (stl 1 τ.2.2.1 τ.2.1).2, (stl 1 τ.2.2.1 τ.2.1).1, (cntn τ.2.2.2.1 + 1) :: τ.2.2.2.1.tail, false)))
  else if opw τ.2.2.1 = 0 ∨ ¬ kdp b n τ.1 = 41 then (9, τ)
  else if opw τ.2.2.1 = 41 then (0, (nx1 b n τ.1, (stl 8 (stl 1 τ.2.2.1 τ.2.1).1.tail ((stl 1 τ.2.2.1 τ.2.1).2 ++ [(4, cntn τ.2.2.2.1)])).2, (stl 8 (stl 1 τ.2.2.1 τ.2.1).1.tail ((stl 1 τ.2.2.1 τ.2.1).2 ++ [(4, cntn τ.2.2.2.1)])).1, τ.2.2.2.1.tail, τ.2.2.2.2))
  else (0, (nx1 b n τ.1, (stl 8 (stl 1 τ.2.2.1 τ.2.1).1.tail (stl 1 τ.2.2.1 τ.2.1).2).2, (stl 8 (stl 1 τ.2.2.1 τ.2.1).1.tail (stl 1 τ.2.2.1 τ.2.1).2).1, τ.2.2.2.1, τ.2.2.2.2))
/-- what settling leaves -/
theorem stl_sub (r : Nat) : ∀ (P : List Nat) (c : List (Nat × Nat)), (∀ o, o ∈ (stl r P c).1 → o ∈ P) ∧ (stl r P c).1.length ≤ P.length ∧ (stl r P c).2.length + (stl r P c).1.length ≤ c.length + P.length
  | [], c => ⟨fun _ h => h, Nat.le_refl _, Nat.le_refl _⟩
  | o :: P, c => by
    show (∀ x, x ∈ (if r ≤ rnk o then stl r P (if o = 16 then c else c ++ [(o, 0)]) else (o :: P, c)).1 → _) ∧ (if r ≤ rnk o then stl r P (if o = 16 then c else c ++ [(o, 0)]) else (o :: P, c)).1.length ≤ _ ∧ (if r ≤ rnk o then stl r P (if o = 16 then c else c ++ [(o, 0)]) else (o :: P, c)).2.length + (if r ≤ rnk o then stl r P (if o = 16 then c else c ++ [(o, 0)]) else (o :: P, c)).1.length ≤ _
    by_cases q : r ≤ rnk o
    · rw [if_pos q]
      obtain ⟨h1, h2, h3⟩ := stl_sub r P (if o = 16 then c else c ++ [(o, 0)])
      have hl : (if o = 16 then c else c ++ [(o, 0)]).length ≤ c.length + 1 := by
        split
        · omega
        · rw [List.length_append]; exact Nat.le_refl _
      rw [List.length_cons]
      exact ⟨fun x hx => List.mem_cons_of_mem _ (h1 x hx), by omega, by omega⟩
    · rw [if_neg q]
      exact ⟨fun _ h => h, Nat.le_refl _, Nat.le_refl _⟩
/-- settled to the bottom of what is open, the opener lies on top -/
theorem stl_1 : ∀ (P : List Nat) (c : List (Nat × Nat)), opl P → opw P ≠ 0 → ∃ R, (stl 1 P c).1 = opw P :: R
  | [], _, _, h => absurd rfl h
  | o :: P, c, hP, h => by
    show ∃ R, (if 1 ≤ rnk o then stl 1 P (if o = 16 then c else c ++ [(o, 0)]) else (o :: P, c)).1 = _
    unfold opw at h ⊢
    by_cases q : 40 ≤ o
    · have hr : rnk o = 0 := if_pos q
      rw [if_pos q, hr, if_neg (show ¬ 1 ≤ 0 by omega)]
      exact ⟨P, rfl⟩
    · rw [if_neg q] at h ⊢
      have hr : 1 ≤ rnk o := by
        have := hP o List.mem_cons_self
        unfold opo at this
        unfold rnk
        rw [if_neg q]
        split
        · omega
        · split
          · omega
          · split
            · omega
            · split <;> omega
      rw [if_pos hr]
      exact stl_1 P _ (fun x hx => hP x (List.mem_cons_of_mem _ hx)) h
section
variable {u0 : sm_M} {b : Nat → Nat} {n t ev : Nat}
theorem m_compareOf {D : Nat} {u : sm_M} {τ : Sr} (h : MS u0 b n t u τ) (f : Int32 → sm_M → sm_R) : sm_ri (sm_call (D + 1) 243 [.ref 275] u) f = f (btI (cmO (kdp b n τ.1))) u := by
  have e9 : sm_I u 275 9 = nI (tkc b n τ.1) := h.2.2.1.2.2.2.1
  have htk := tk_kd (b := b) (n := n) (s := τ.1)
  have e2 : sm_call (D + 1) 243 [.ref 275] u = some (some (.int (btI (cmO (kdp b n τ.1)))), u) := by
    unfold cmO
    rw [k_M_compareOf, z_M_compareOf_0]
    simp -implicitDefEqProofs only [h.tg, e9, ↓reduceIte]
    by_cases q60 : kdp b n τ.1 = 60
    · rw [if_pos (show nI (tkc b n τ.1) = nI 60 by rw [(htk.2.2.2.2.1 60 (by omega) (by omega)).mpr q60]), if_pos q60, z_M_compareOf_38]
      rfl
    rw [if_neg (show ¬ nI (tkc b n τ.1) = nI 60 from fun z => q60 ((htk.2.2.2.2.1 60 (by omega) (by omega)).mp ((nI_eq (by omega) (by omega)).mp z))), if_neg q60, z_M_compareOf_6]
    simp -implicitDefEqProofs only [h.tg, e9, ↓reduceIte]
    by_cases q3 : kdp b n τ.1 = 3
    · rw [if_pos (show nI (tkc b n τ.1) = nI 4 by rw [htk.2.2.1.mpr q3]), if_pos q3, z_M_compareOf_38]
      rfl
    rw [if_neg (show ¬ nI (tkc b n τ.1) = nI 4 from fun z => q3 (htk.2.2.1.mp ((nI_eq (by omega) (by omega)).mp z))), if_neg q3, z_M_compareOf_12]
    simp -implicitDefEqProofs only [h.tg, e9, ↓reduceIte]
    by_cases q62 : kdp b n τ.1 = 62
    · rw [if_pos (show nI (tkc b n τ.1) = nI 62 by rw [(htk.2.2.2.2.1 62 (by omega) (by omega)).mpr q62]), if_pos q62, z_M_compareOf_38]
      rfl
    rw [if_neg (show ¬ nI (tkc b n τ.1) = nI 62 from fun z => q62 ((htk.2.2.2.2.1 62 (by omega) (by omega)).mp ((nI_eq (by omega) (by omega)).mp z))), if_neg q62, z_M_compareOf_18]
    simp -implicitDefEqProofs only [h.tg, e9, ↓reduceIte]
    by_cases q4 : kdp b n τ.1 = 4
    · rw [if_pos (show nI (tkc b n τ.1) = nI 5 by rw [htk.2.2.2.1.mpr q4]), if_pos q4, z_M_compareOf_38]
      rfl
    rw [if_neg (show ¬ nI (tkc b n τ.1) = nI 5 from fun z => q4 (htk.2.2.2.1.mp ((nI_eq (by omega) (by omega)).mp z))), if_neg q4, z_M_compareOf_24]
    simp -implicitDefEqProofs only [h.tg, e9, ↓reduceIte]
    by_cases q61 : kdp b n τ.1 = 61
    · rw [if_pos (show nI (tkc b n τ.1) = nI 61 by rw [(htk.2.2.2.2.1 61 (by omega) (by omega)).mpr q61]), if_pos q61, z_M_compareOf_38]
      rfl
    rw [if_neg (show ¬ nI (tkc b n τ.1) = nI 61 from fun z => q61 ((htk.2.2.2.2.1 61 (by omega) (by omega)).mp ((nI_eq (by omega) (by omega)).mp z))), if_neg q61, z_M_compareOf_30]
    simp -implicitDefEqProofs only [h.tg, e9, ↓reduceIte]
    by_cases q35 : kdp b n τ.1 = 35
    · rw [if_pos (show nI (tkc b n τ.1) = nI 35 by rw [(htk.2.2.2.2.1 35 (by omega) (by omega)).mpr q35]), if_pos q35, z_M_compareOf_38]
      rfl
    rw [if_neg (show ¬ nI (tkc b n τ.1) = nI 35 from fun z => q35 ((htk.2.2.2.2.1 35 (by omega) (by omega)).mp ((nI_eq (by omega) (by omega)).mp z))), if_neg q35, z_M_compareOf_36]
    rw [z_M_compareOf_38]
    rfl
  rw [e2]
  rfl
theorem m_betweenOf {D : Nat} {u : sm_M} {τ : Sr} (h : MS u0 b n t u τ) (hP : opl τ.2.2.1) (f : Int32 → sm_M → sm_R) : sm_ri (sm_call (D + 6) 244 [.ref 275] u) f = f (btI (betF τ.2.2.1 (kdp b n τ.1))) u := by
  have e9 : sm_I u 275 9 = nI (tkc b n τ.1) := h.2.2.1.2.2.2.1
  have htk := tk_kd (b := b) (n := n) (s := τ.1)
  have e17 := h.2.2.2.2.1.1
  have l17 := h.2.2.2.2.1.2.1
  have hpm := h.2.2.2.2.1.2.2
  have hu := h.ly
  have s16 : ∃ m, sm_run (sm_call (D + 5)) c_M_betweenOf 3000000 0 [some (.ref 275), none] [] u = sm_run (sm_call (D + 5)) c_M_betweenOf (m + 20) 16 [some (.ref 275), none] [.int (if ovr τ.2.2.1 = true then 1 else 0)] u := by
    rw [z_M_betweenOf_0]
    generalize τ.2.2.1 = P at *
    cases P with
    | nil =>
      refine ⟨2999978, ?_⟩
      simp -implicitDefEqProofs only [h.tg, e17, ↓reduceIte]
      rw [if_pos (show nI ([] : List Nat).length ≤ 0 by decide), z_M_betweenOf_14]
      rfl
    | cons o P =>
      rw [List.length_cons] at e17 l17
      have hob := opo_b (hP o List.mem_cons_self)
      have x1 : nI (P.length + 1) - nI 1 = nI P.length := by rw [nI_sub (by omega)]; rfl
      have cP : (nI P.length).toNatClampNeg = P.length := nI_clamp (by omega)
      have e280 := hpm.1.1
      simp -implicitDefEqProofs only [h.tg, e17, ↓yk_275_15 hu, x1, in_280 hu (show P.length < 160 by omega), cP, e280, ↓reduceIte]
      rw [if_neg (show ¬ nI (P.length + 1) ≤ 0 from fun z => by have := (nI_leI (b := 0) (by omega) (by omega)).mp z; omega)]
      show ∃ m, _ = sm_run (sm_call (D + 5)) c_M_betweenOf (m + 20) 16 [some (Value.ref 275), none] [Value.int (if decide (o = 16) = true then 1 else 0)] u
      by_cases q : o = 16
      · rw [if_pos (show nI o = nI 16 by rw [q]), decide_eq_true q]
        exact ⟨2999979, rfl⟩
      · rw [if_neg (show ¬ nI o = nI 16 from fun z => q ((nI_eq (by omega) (by omega)).mp z)), decide_eq_false q, z_M_betweenOf_14]
        exact ⟨2999978, rfl⟩
  obtain ⟨m, s16⟩ := s16
  have e2 : sm_call (D + 6) 244 [.ref 275] u = some (some (.int (btI (betF τ.2.2.1 (kdp b n τ.1)))), u) := by
    rw [k_M_betweenOf, s16]
    clear s16
    -- from 49 on
    have f49 : ∀ (m : Nat) (x : Int32), sm_run (sm_call (D + 5)) c_M_betweenOf (m + 10) 49 [some (.ref 275), some (.int x)] [] u = some (some (.int (btI (if opw τ.2.2.1 = 40 then 99 else if ¬ icm τ.2.2.1 = true then cmO (kdp b n τ.1) else if kdp b n τ.1 = 214 then 21 else if kdp b n τ.1 = 213 then 22 else if kdp b n τ.1 = 212 ∧ opw τ.2.2.1 = 0 then 23 else 99))), u) := by
      intro m x
      rw [z_M_betweenOf_49]
      simp -implicitDefEqProofs only [h.tg, m_askHere (D := D + 3) h hP, ↓reduceIte]
      by_cases qo : opw τ.2.2.1 = 40
      · rw [if_pos (show opw τ.2.2.1 = 40 from qo), if_pos (show (0 : Int32) = 0 from rfl), if_pos (show opw τ.2.2.1 = 40 from qo)]
        rfl
      · rw [if_neg (show ¬ opw τ.2.2.1 = 40 from qo), if_neg (show ¬ (1 : Int32) = 0 by decide), if_neg (show ¬ opw τ.2.2.1 = 40 from qo), z_M_betweenOf_54]
        simp -implicitDefEqProofs only [h.tg, m_isCmp (D := D + 3) h hP, m_compareOf (D := D + 4) h, ↓reduceIte]
        by_cases qi : icm τ.2.2.1 = true
        · rw [if_pos (show icm τ.2.2.1 = true from qi), if_neg (show ¬ (1 : Int32) = 0 by decide), if_neg (show ¬ ¬ icm τ.2.2.1 = true from fun z => z qi), z_M_betweenOf_60]
          simp -implicitDefEqProofs only [kw_14 D, h.tg, m_isWord (D := D + 4) (w := 14) (by decide) h, ↓reduceIte]
          by_cases q1 : kdp b n τ.1 = 214
          · rw [if_pos (show kdp b n τ.1 = 200 + 14 from q1), if_neg (show ¬ (1 : Int32) = 0 by decide), if_pos q1]
            rfl
          · rw [if_neg (show ¬ kdp b n τ.1 = 200 + 14 from q1), if_pos (show (0 : Int32) = 0 from rfl), if_neg q1, z_M_betweenOf_69]
            simp -implicitDefEqProofs only [kw_13 D, h.tg, m_isWord (D := D + 4) (w := 13) (by decide) h, ↓reduceIte]
            by_cases q2 : kdp b n τ.1 = 213
            · rw [if_pos (show kdp b n τ.1 = 200 + 13 from q2), if_neg (show ¬ (1 : Int32) = 0 by decide), if_pos q2]
              rfl
            · rw [if_neg (show ¬ kdp b n τ.1 = 200 + 13 from q2), if_pos (show (0 : Int32) = 0 from rfl), if_neg q2, z_M_betweenOf_77]
              simp -implicitDefEqProofs only [kw_12 D, h.tg, m_isWord (D := D + 4) (w := 12) (by decide) h, m_openNow (D := D + 4) h, ↓reduceIte]
              by_cases q3 : kdp b n τ.1 = 212
              · rw [if_pos (show kdp b n τ.1 = 200 + 12 from q3), if_neg (show ¬ (1 : Int32) = 0 by decide)]
                unfold opI
                by_cases qz : opw τ.2.2.1 = 0
                · rw [if_pos (show opw τ.2.2.1 = 0 from qz), if_pos (show Int32.ofInt (-1) = Int32.ofInt (-1) from rfl), if_pos (show kdp b n τ.1 = 212 ∧ opw τ.2.2.1 = 0 from ⟨q3, qz⟩), z_M_betweenOf_91]
                  rfl
                · have := opw_v τ.2.2.1 hP
                  rw [if_neg (show ¬ opw τ.2.2.1 = 0 from qz), if_neg (show ¬ nI (opw τ.2.2.1) = Int32.ofInt (-1) from m1_n (by omega)), if_neg (show ¬ (kdp b n τ.1 = 212 ∧ opw τ.2.2.1 = 0) from fun z => qz z.2), z_M_betweenOf_89, z_M_betweenOf_91]
                  rfl
              · rw [if_neg (show ¬ kdp b n τ.1 = 200 + 12 from q3), if_pos (show (0 : Int32) = 0 from rfl), if_neg (show ¬ (kdp b n τ.1 = 212 ∧ opw τ.2.2.1 = 0) from fun z => q3 z.1), z_M_betweenOf_89, z_M_betweenOf_91]
                rfl
        · rw [if_neg (show ¬ icm τ.2.2.1 = true from qi), if_pos (show (0 : Int32) = 0 from rfl), if_pos (show ¬ icm τ.2.2.1 = true from qi)]
    unfold betF
    cases hv : ovr τ.2.2.1 with
    | true =>
      rw [if_pos (show true = true from rfl), z_M_betweenOf_16, if_neg (show ¬ (1 : Int32) = 0 by decide), z_M_betweenOf_25, if_neg (show ¬ (1 : Int32) = 0 by decide), z_M_betweenOf_33, if_neg (show ¬ (1 : Int32) = 0 by decide), z_M_betweenOf_41, if_neg (show ¬ (1 : Int32) = 0 by decide)]
      rw [if_neg (show ¬ (¬ true = true ∧ kdp b n τ.1 = 43) from fun z => z.1 rfl), if_neg (show ¬ (¬ true = true ∧ kdp b n τ.1 = 45) from fun z => z.1 rfl), if_neg (show ¬ (¬ true = true ∧ kdp b n τ.1 = 42) from fun z => z.1 rfl), if_neg (show ¬ (¬ true = true ∧ kdp b n τ.1 = 47) from fun z => z.1 rfl)]
      exact f49 (m + 6) _
    | false =>
      have nt : ¬ false = true := by simp
      rw [if_neg nt, z_M_betweenOf_16, if_pos (show (0 : Int32) = 0 from rfl)]
      simp -implicitDefEqProofs only [h.tg, e9, ↓reduceIte]
      by_cases q43 : kdp b n τ.1 = 43
      · rw [if_pos (show nI (tkc b n τ.1) = nI 43 by rw [(htk.2.2.2.2.1 43 (by omega) (by omega)).mpr q43]), if_pos (show ¬ false = true ∧ kdp b n τ.1 = 43 from ⟨nt, q43⟩)]
        rfl
      rw [if_neg (show ¬ nI (tkc b n τ.1) = nI 43 from fun z => q43 ((htk.2.2.2.2.1 43 (by omega) (by omega)).mp ((nI_eq (by omega) (by omega)).mp z))), if_neg (show ¬ (¬ false = true ∧ kdp b n τ.1 = 43) from fun z => q43 z.2), z_M_betweenOf_25, if_pos (show (0 : Int32) = 0 from rfl)]
      simp -implicitDefEqProofs only [h.tg, e9, ↓reduceIte]
      by_cases q45 : kdp b n τ.1 = 45
      · rw [if_pos (show nI (tkc b n τ.1) = nI 45 by rw [(htk.2.2.2.2.1 45 (by omega) (by omega)).mpr q45]), if_pos (show ¬ false = true ∧ kdp b n τ.1 = 45 from ⟨nt, q45⟩)]
        rfl
      rw [if_neg (show ¬ nI (tkc b n τ.1) = nI 45 from fun z => q45 ((htk.2.2.2.2.1 45 (by omega) (by omega)).mp ((nI_eq (by omega) (by omega)).mp z))), if_neg (show ¬ (¬ false = true ∧ kdp b n τ.1 = 45) from fun z => q45 z.2), z_M_betweenOf_33, if_pos (show (0 : Int32) = 0 from rfl)]
      simp -implicitDefEqProofs only [h.tg, e9, ↓reduceIte]
      by_cases q42 : kdp b n τ.1 = 42
      · rw [if_pos (show nI (tkc b n τ.1) = nI 42 by rw [(htk.2.2.2.2.1 42 (by omega) (by omega)).mpr q42]), if_pos (show ¬ false = true ∧ kdp b n τ.1 = 42 from ⟨nt, q42⟩)]
        rfl
      rw [if_neg (show ¬ nI (tkc b n τ.1) = nI 42 from fun z => q42 ((htk.2.2.2.2.1 42 (by omega) (by omega)).mp ((nI_eq (by omega) (by omega)).mp z))), if_neg (show ¬ (¬ false = true ∧ kdp b n τ.1 = 42) from fun z => q42 z.2), z_M_betweenOf_41, if_pos (show (0 : Int32) = 0 from rfl)]
      simp -implicitDefEqProofs only [h.tg, e9, ↓reduceIte]
      by_cases q47 : kdp b n τ.1 = 47
      · rw [if_pos (show nI (tkc b n τ.1) = nI 47 by rw [(htk.2.2.2.2.1 47 (by omega) (by omega)).mpr q47]), if_pos (show ¬ false = true ∧ kdp b n τ.1 = 47 from ⟨nt, q47⟩)]
        rfl
      rw [if_neg (show ¬ nI (tkc b n τ.1) = nI 47 from fun z => q47 ((htk.2.2.2.2.1 47 (by omega) (by omega)).mp ((nI_eq (by omega) (by omega)).mp z))), if_neg (show ¬ (¬ false = true ∧ kdp b n τ.1 = 47) from fun z => q47 z.2)]
      exact f49 (m + 6) _
  rw [e2]
  rfl
end
