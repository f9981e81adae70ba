/-! texts: the reference reads a clause (by hand) -/
theorem z_M_clause_0 (C : Nat → List Value → sm_M → sm_R) (n : Nat) (u : sm_M) (a0 : Nat) : sm_run C c_M_clause (n + 1) 0 [some (.ref a0), none, none, none, none] [] u = if sm_tg u a0 = 112 then (sm_ri (C 252 [.ref a0] u) (fun x2 u1 => if 0 ≤ x2 then (sm_run C c_M_clause n 7 [some (.ref a0), some (.int x2), none, none, none] [] u1) else (some (some (.int (nI 1)), u1)))) else none := q_M_clause_0 C n u a0
theorem z_M_clause_21 (C : Nat → List Value → sm_M → sm_R) (n : Nat) (u : sm_M) (a0 : Nat) (v1 : Int32) : sm_run C c_M_clause (n + 1) 21 [some (.ref a0), some (.int v1), none, none, none] [] u = some (some (.int (nI 4)), u) := q_M_clause_21 C n u a0 v1
theorem z_M_clause_23 (C : Nat → List Value → sm_M → sm_R) (n : Nat) (u : sm_M) (a0 : Nat) (v1 : Int32) : sm_run C c_M_clause (n + 1) 23 [some (.ref a0), some (.int v1), none, none, none] [] u = if sm_tg u a0 = 112 then sm_rr (sm_Rf u a0 2) (fun q1 => if sm_tg u a0 = 112 then (if sm_in u 1 q1 (sm_I u a0 12) then (if (sm_I u q1 (sm_I u a0 12).toNatClampNeg) = (nI 24) then (some (some (.int (nI 6)), u)) else (sm_run C c_M_clause n 34 [some (.ref a0), some (.int v1), some (.int (sm_I u q1 (sm_I u a0 12).toNatClampNeg)), none, none] [] u)) else none) else none) else none := q_M_clause_23 C n u a0 v1
theorem z_M_clause_34 (C : Nat → List Value → sm_M → sm_R) (n : Nat) (u : sm_M) (a0 : Nat) (v1 v2 : Int32) : sm_run C c_M_clause (n + 1) 34 [some (.ref a0), some (.int v1), some (.int v2), none, none] [] u = if sm_tg u a0 = 112 then (if v1 = 0 then (sm_run C c_M_clause n 43 [some (.ref a0), some (.int v1), some (.int v2), none, none] [.int (nI 1), .int (sm_I u a0 21), .ref a0] u) else (sm_run C c_M_clause n 41 [some (.ref a0), some (.int v1), some (.int v2), none, none] [.int (sm_I u a0 21), .ref a0] u)) else none := q_M_clause_34 C n u a0 v1 v2
theorem z_M_clause_70 (C : Nat → List Value → sm_M → sm_R) (n : Nat) (u : sm_M) (a0 : Nat) (v1 v2 v3 v4 : Int32) : sm_run C c_M_clause (n + 1) 70 [some (.ref a0), some (.int v1), some (.int v2), some (.int v3), some (.int v4)] [] u = if sm_tg u a0 = 112 then sm_rr (sm_Rf u a0 2) (fun q1 => if sm_tg u a0 = 112 then (if sm_in u 1 q1 (sm_I u a0 12) then (if sm_in u 1 q1 (sm_I u a0 12) then (sm_lt (sm_wI u q1 (sm_I u a0 12).toNatClampNeg ((sm_I u q1 (sm_I u a0 12).toNatClampNeg) + (nI 1))) (fun u2 => if sm_tg u2 a0 = 112 then (if v1 = (nI 1) then (sm_run C c_M_clause n 89 [some (.ref a0), some (.int v1), some (.int v2), some (.int v3), some (.int v4)] [.int (nI 1), .int (sm_I u2 a0 14), .ref a0] u2) else (sm_run C c_M_clause n 87 [some (.ref a0), some (.int v1), some (.int v2), some (.int v3), some (.int v4)] [.int (sm_I u2 a0 14), .ref a0] u2)) else none)) else none) else none) else none) else none := q_M_clause_70 C n u a0 v1 v2 v3 v4
theorem z_M_clause_89 (C : Nat → List Value → sm_M → sm_R) (n : Nat) (u : sm_M) (a0 y2 : Nat) (v1 v2 v3 v4 s0 s1 : Int32) : sm_run C c_M_clause (n + 1) 89 [some (.ref a0), some (.int v1), some (.int v2), some (.int v3), some (.int v4)] [.int s0, .int s1, .ref y2] u = if sm_tg u y2 = 112 then (sm_lt (sm_wI u y2 14 (s1 + s0)) (fun u1 => if sm_tg u1 a0 = 112 then (if (sm_I u1 a0 9) = (nI 59) then (sm_run C c_M_clause n 97 [some (.ref a0), some (.int v1), some (.int v2), some (.int v3), some (.int v4)] [] u1) else (some (some (.int (nI 1)), u1))) else none)) else none := q_M_clause_89 C n u a0 y2 v1 v2 v3 v4 s0 s1
theorem z_M_clause_97 (C : Nat → List Value → sm_M → sm_R) (n : Nat) (u : sm_M) (a0 : Nat) (v1 v2 v3 v4 : Int32) : sm_run C c_M_clause (n + 1) 97 [some (.ref a0), some (.int v1), some (.int v2), some (.int v3), some (.int v4)] [] u = if sm_tg u a0 = 112 then (sm_rv (C 225 [.ref a0] u) (fun u1 => some (some (.int (nI 0)), u1))) else none := q_M_clause_97 C n u a0 v1 v2 v3 v4
theorem z_M_clause_87 (C : Nat → List Value → sm_M → sm_R) (n : Nat) (u : sm_M) (a0 y1 : Nat) (v1 v2 v3 v4 s0 : Int32) : sm_run C c_M_clause (n + 1) 87 [some (.ref a0), some (.int v1), some (.int v2), some (.int v3), some (.int v4)] [.int s0, .ref y1] u = sm_run C c_M_clause n 89 [some (.ref a0), some (.int v1), some (.int v2), some (.int v3), some (.int v4)] [.int (nI 0), .int s0, .ref y1] u := q_M_clause_87 C n u a0 y1 v1 v2 v3 v4 s0
theorem z_M_clause_43 (C : Nat → List Value → sm_M → sm_R) (n : Nat) (u : sm_M) (a0 y2 : Nat) (v1 v2 s0 s1 : Int32) : sm_run C c_M_clause (n + 1) 43 [some (.ref a0), some (.int v1), some (.int v2), none, none] [.int s0, .int s1, .ref y2] u = if sm_tg u y2 = 112 ∧ ((s1 ||| s0) = 0 ∨ (s1 ||| s0) = 1) then (sm_lt (sm_wI u y2 21 (s1 ||| s0)) (fun u1 => if sm_tg u1 a0 = 112 then (sm_rv (C 225 [.ref a0] u1) (fun u2 => if sm_tg u2 a0 = 112 then (if sm_tg u2 a0 = 112 then sm_rr (sm_Rf u2 a0 2) (fun q3 => if sm_in u2 1 q3 (((sm_I u2 a0 12) + (nI 1)) + ((nI 4) * v2)) then (sm_lt (sm_wI u2 q3 (((sm_I u2 a0 12) + (nI 1)) + ((nI 4) * v2)).toNatClampNeg v1) (fun u4 => if sm_tg u4 a0 = 112 then (sm_ri (C 251 [.ref a0, .int v1, .int (((sm_I u2 a0 12) + (nI 1)) + ((nI 4) * v2))] u4) (fun x6 u5 => if x6 = 0 then (sm_run C c_M_clause n 70 [some (.ref a0), some (.int v1), some (.int v2), some (.int (((sm_I u2 a0 12) + (nI 1)) + ((nI 4) * v2))), some (.int x6)] [] u5) else (some (some (.int x6), u5)))) else none)) else none) else none) else none)) else none)) else none := q_M_clause_43 C n u a0 y2 v1 v2 s0 s1
theorem z_M_clause_41 (C : Nat → List Value → sm_M → sm_R) (n : Nat) (u : sm_M) (a0 y1 : Nat) (v1 v2 s0 : Int32) : sm_run C c_M_clause (n + 1) 41 [some (.ref a0), some (.int v1), some (.int v2), none, none] [.int s0, .ref y1] u = sm_run C c_M_clause n 43 [some (.ref a0), some (.int v1), some (.int v2), none, none] [.int (nI 0), .int s0, .ref y1] u := q_M_clause_41 C n u a0 y1 v1 v2 s0
theorem z_M_clause_13 (C : Nat → List Value → sm_M → sm_R) (n : Nat) (u : sm_M) (a0 : Nat) (v1 : Int32) : sm_run C c_M_clause (n + 1) 13 [some (.ref a0), some (.int v1), none, none, none] [] u = if v1 = (nI 1) then (if sm_tg u a0 = 112 then (if (sm_I u a0 14) = (nI 10) then (sm_run C c_M_clause n 21 [some (.ref a0), some (.int v1), none, none, none] [] u) else (sm_run C c_M_clause n 23 [some (.ref a0), some (.int v1), none, none, none] [] u)) else none) else (sm_run C c_M_clause n 23 [some (.ref a0), some (.int v1), none, none, none] [] u) := q_M_clause_13 C n u a0 v1
theorem z_M_clause_7 (C : Nat → List Value → sm_M → sm_R) (n : Nat) (u : sm_M) (a0 : Nat) (v1 : Int32) : sm_run C c_M_clause (n + 1) 7 [some (.ref a0), some (.int v1), none, none, none] [] u = if v1 = 0 then (if sm_tg u a0 = 112 then (if (sm_I u a0 21) = 0 then (sm_run C c_M_clause n 13 [some (.ref a0), some (.int v1), none, none, none] [] u) else (sm_run C c_M_clause n 21 [some (.ref a0), some (.int v1), none, none, none] [] u)) else none) else (sm_run C c_M_clause n 13 [some (.ref a0), some (.int v1), none, none, none] [] u) := q_M_clause_7 C n u a0 v1
section
variable {u0 : sm_M} {b : Nat → Nat} {n t : Nat} {cl : Cls} {lim : Bool}
theorem RS.w21 {u : sm_M} {s : Nat} {c : List (Nat × Nat)} (h : RS u0 b n t cl lim u s c) (l' : Bool) : RS u0 b n t cl l' (sm_wI u 275 21 (if l' = true then 1 else 0)) s c ∧ ∀ k, sm_I (sm_wI u 275 21 (if l' = true then 1 else 0)) 278 k = sm_I u 278 k := by
  obtain ⟨⟨hu, hR⟩, hf, hT, hc, hm, hk, hl⟩ := h
  have F1 : FrP (fun a j => a = 275 ∧ j = 21) u (sm_wI u 275 21 (if l' = true then 1 else 0)) := FrP.rf.wI ⟨rfl, rfl⟩
  refine ⟨⟨⟨hu.wI, hR.fr F1 (by omega) (fun i => by omega)⟩, hf.wI (by omega), ?_, ?_, ?_, ?_, ?_⟩, fun k => wI_na (by decide)⟩
  · exact ⟨hT.1, by rw [wI_nk (by omega)]; exact hT.2.1, by rw [wI_nk (by omega)]; exact hT.2.2.1, by rw [wI_nk (by omega)]; exact hT.2.2.2.1, fun z1 z2 => by rw [wI_nk (by omega)]; exact hT.2.2.2.2.1 z1 z2, fun z1 z2 => by rw [wI_L]; exact hT.2.2.2.2.2 z1 z2⟩
  · exact ⟨by rw [wI_nk (by omega)]; exact hc.1, hc.2.1, fun i hi => by rw [wI_na (by omega), wI_na (by omega)]; exact hc.2.2 i hi⟩
  · exact ⟨by rw [wI_nk (by omega)]; exact hm.1, by rw [wI_nk (by omega)]; exact hm.2.1, wI_at⟩
  · rw [wI_na (by omega)]
    exact hk
  · exact ⟨hl.1, fun i hi => by rw [wI_na (by omega), wI_na (by omega), wI_na (by omega)]; exact hl.2 i hi⟩
/-- a clause is whole -/
theorem RS.app {v : sm_M} {s : Nat} {c : List (Nat × Nat)} (h : RS u0 b n t cl lim v s c) {k a e : Nat} (hlen : cl.length < 24) (v0 : sm_I v 278 (705 * t + 1 + 4 * cl.length) = nI (srt k)) (v1 : sm_I v 278 (705 * t + 1 + 4 * cl.length + 1) = nI a) (v2 : k ≠ 206 → k ≠ 211 → sm_I v 278 (705 * t + 1 + 4 * cl.length + 2) = nI e) :
    RS u0 b n t (cl ++ [(k, a, e)]) lim (sm_wI (sm_wI v 278 (705 * t) (nI (cl.length + 1))) 275 14 (nI (evc (cl ++ [(k, a, e)])))) s c := by
  obtain ⟨⟨hu, hR⟩, hf, hT, hc, hm, hk, hl⟩ := h
  have F1 : FrP (fun a j => a = 278 ∧ j = 705 * t ∨ a = 275 ∧ j = 14) v (sm_wI (sm_wI v 278 (705 * t) (nI (cl.length + 1))) 275 14 (nI (evc (cl ++ [(k, a, e)])))) := (FrP.rf.wI (Or.inl ⟨rfl, rfl⟩)).wI (Or.inr ⟨rfl, rfl⟩)
  have R : ∀ a' j, ¬ (a' = 278 ∧ j = 705 * t ∨ a' = 275 ∧ j = 14) → sm_I (sm_wI (sm_wI v 278 (705 * t) (nI (cl.length + 1))) 275 14 (nI (evc (cl ++ [(k, a, e)])))) a' j = sm_I v a' j := F1.2.2
  refine ⟨⟨hu.wI.wI, hR.fr F1 (by omega) (fun i => by omega)⟩, (hf.wI (by omega)).wI (by omega), ?_, ?_, ?_, ?_, ?_⟩
  · exact ⟨hT.1, by rw [R _ _ (by omega)]; exact hT.2.1, by rw [R _ _ (by omega)]; exact hT.2.2.1, by rw [R _ _ (by omega)]; exact hT.2.2.2.1, fun z1 z2 => by rw [R _ _ (by omega)]; exact hT.2.2.2.2.1 z1 z2, fun z1 z2 => by rw [wI_L, wI_L]; exact hT.2.2.2.2.2 z1 z2⟩
  · exact ⟨by rw [R _ _ (by omega)]; exact hc.1, hc.2.1, fun i hi => by rw [R _ _ (by omega), R _ _ (by omega)]; exact hc.2.2 i hi⟩
  · exact ⟨by rw [R _ _ (by omega)]; exact hm.1, wI_at, by rw [R _ _ (by omega)]; exact hm.2.2⟩
  · rw [wI_na (by omega), wI_at, len_sn]
  · refine ⟨by rw [len_sn]; exact hlen, fun i hi => ?_⟩
    rw [len_sn] at hi
    by_cases z : i = cl.length
    · subst z
      rw [gD_l, R _ _ (by omega), R _ _ (by omega), R _ _ (by omega)]
      refine ⟨v0, ?_, fun y1 y2 => ?_⟩
      · rw [show 705 * t + 2 + 4 * cl.length = 705 * t + 1 + 4 * cl.length + 1 by omega]
        exact v1
      · rw [show 705 * t + 3 + 4 * cl.length = 705 * t + 1 + 4 * cl.length + 2 by omega]
        exact v2 y1 y2
    · rw [gD_a (by omega), R _ _ (by omega), R _ _ (by omega), R _ _ (by omega)]
      exact hl.2 i (by omega)
theorem srt_v {k : Nat} (h : kd8 k) : srt k ≤ 7 ∧ (srt k = 0 ↔ k = 201) ∧ (srt k = 1 ↔ k = 200) ∧ ¬ (¬ (k = 200 ∨ k = 201) ∧ ¬ isB k = true) ∧ k ≠ 1 := by
  rcases h with rfl | rfl | rfl | rfl | rfl | rfl | rfl | rfl <;> decide
theorem kd8_n {k : Nat} (h : ¬ kd8 k) : ¬ (k = 200 ∨ k = 201) ∧ ¬ isB k = true := by
  unfold kd8 at h
  refine ⟨by omega, fun z => ?_⟩
  have z : k = 202 ∨ k = 204 ∨ k = 206 ∨ k = 207 ∨ k = 209 ∨ k = 211 := by simpa [isB] using z
  omega
theorem r_clause (ht : t < 4) (hB : ∀ i, b i < 256) {D : Nat} (hD : 14 ≤ D) {u : sm_M} {s : Nat} {c : List (Nat × Nat)} (h : RS u0 b n t cl (limc cl) u s c) (hs : c.length ≤ s) (hev : evc cl ≤ 10) (pl : Int32) :
    Ri (sm_call D 253 [.ref 275] u) (fun x v => RP u0 b n t (claF b n (kdp b n s) (cl, (s, 0, pl, c))).1 (limc (claF b n (kdp b n s) (cl, (s, 0, pl, c))).1) pl (claF b n (kdp b n s) (cl, (s, 0, pl, c))).2 x v) := by
  obtain ⟨D, rfl⟩ : ∃ j, D = j + 14 := ⟨D - 14, by omega⟩
  have hu := h.1.1
  have hlen : cl.length ≤ 24 := h.2.2.2.2.2.2.1
  have e12 : sm_I u 275 12 = nI (705 * t) := h.2.2.2.2.1.1
  have e14 : sm_I u 275 14 = nI (evc cl) := h.2.2.2.2.1.2.1
  have e21 : sm_I u 275 21 = (if limc cl = true then 1 else 0) := h.2.2.2.2.1.2.2
  have ek : sm_I u 278 (705 * t) = nI cl.length := h.2.2.2.2.2.1
  have ct : (nI (705 * t)).toNatClampNeg = 705 * t := nI_clamp (by omega)
  have hi278 : ∀ w, Ly w → sm_in w 1 278 (nI (705 * t)) = True := fun w hw => in_278 hw (by omega)
  rw [k_M_clause, z_M_clause_0]
  simp -implicitDefEqProofs only [h.tg, ↓reduceIte]
  rw [r_sort (D := D + 7) h]
  by_cases q8 : kd8 (kdp b n s)
  · obtain ⟨y7, y0, y1, yB, yk⟩ := srt_v q8
    rw [if_pos q8, if_pos (show (0 : Int32) ≤ nI (srt (kdp b n s)) from nI_le (a := 0) (Nat.zero_le _) (by omega))]
    -- faults 4
    have f4 : ∀ m, (kdp b n s = 201 ∧ limc cl = true ∨ kdp b n s = 200 ∧ 10 ≤ evc cl) → Ri (sm_run (sm_call (D + 13)) c_M_clause (m + 1) 21 [some (.ref 275), some (.int (nI (srt (kdp b n s)))), none, none, none] [] u) (fun x v => RP u0 b n t (claF b n (kdp b n s) (cl, (s, 0, pl, c))).1 (limc (claF b n (kdp b n s) (cl, (s, 0, pl, c))).1) pl (claF b n (kdp b n s) (cl, (s, 0, pl, c))).2 x v) := by
      intro m q
      have ec : claF b n (kdp b n s) (cl, (s, 0, pl, c)) = (cl, (s, 4, nI s, c)) := by
        unfold claF
        rw [if_neg yB, if_pos q, rfs_0]
      rw [ec, z_M_clause_21]
      exact Ri.ret (h.ft (by omega) (by omega) pl)
    have f23 : ∀ m, ¬ (kdp b n s = 201 ∧ limc cl = true ∨ kdp b n s = 200 ∧ 10 ≤ evc cl) → Ri (sm_run (sm_call (D + 13)) c_M_clause (m + 9) 23 [some (.ref 275), some (.int (nI (srt (kdp b n s)))), none, none, none] [] u) (fun x v => RP u0 b n t (claF b n (kdp b n s) (cl, (s, 0, pl, c))).1 (limc (claF b n (kdp b n s) (cl, (s, 0, pl, c))).1) pl (claF b n (kdp b n s) (cl, (s, 0, pl, c))).2 x v) := by
      intro m q
      rw [z_M_clause_23]
      simp -implicitDefEqProofs only [h.tg, ↓yk_275_2 hu, e12, hi278 u hu, ct, ek, ↓reduceIte]
      by_cases q24 : cl.length = 24
      · have ec : claF b n (kdp b n s) (cl, (s, 0, pl, c)) = (cl, (s, 6, nI s, c)) := by
          unfold claF
          rw [if_neg yB, if_neg q, if_pos (show 24 ≤ cl.length by omega), rfs_0]
        rw [ec, if_pos (show nI cl.length = nI 24 by rw [q24])]
        exact Ri.ret (h.ft (by omega) (by omega) pl)
      · rw [if_neg (show ¬ nI cl.length = nI 24 from fun z => q24 ((nI_eq (by omega) (by omega)).mp z)), z_M_clause_34]
        have ec : claF b n (kdp b n s) (cl, (s, 0, pl, c)) = (cl ++ [(kdp b n s, (bdF b n (evc cl) (kdp b n s) (nx1 b n s, 0, pl, c)).1)], exq b n 59 (bdF b n (evc cl) (kdp b n s) (nx1 b n s, 0, pl, c)).2) := by
          unfold claF bdF
          rw [if_neg yB, if_neg q, if_neg (show ¬ 24 ≤ cl.length by omega), adv_0]
          by_cases ql : kdp b n s = 200 ∨ kdp b n s = 201
          · rw [if_pos ql, if_pos ql]
            all_goals rfl
          · rw [if_neg ql, if_neg ql]
            all_goals rfl
        rw [ec]
        simp -implicitDefEqProofs only [h.tg, ↓reduceIte]
        -- behind the body
        have f89 : ∀ (m : Nat) (v : sm_M) (x3 x4 : Int32) (s' : Nat) (T : List (Nat × Nat)) (a e : Nat), RS u0 b n t cl (limc (cl ++ [(kdp b n s, a, e)])) v s' T → sm_I v 278 (705 * t + 1 + 4 * cl.length) = nI (srt (kdp b n s)) → sm_I v 278 (705 * t + 1 + 4 * cl.length + 1) = nI a → (kdp b n s ≠ 206 → kdp b n s ≠ 211 → sm_I v 278 (705 * t + 1 + 4 * cl.length + 2) = nI e) → Ri (sm_run (sm_call (D + 13)) c_M_clause (m + 4) 70 [some (.ref 275), some (.int (nI (srt (kdp b n s)))), some (.int (nI cl.length)), some (.int x3), some (.int x4)] [] v) (fun x v => RP u0 b n t (cl ++ [(kdp b n s, a, e)]) (limc (cl ++ [(kdp b n s, a, e)])) pl (exq b n 59 (s', 0, pl, T)) x v) := by
          intro m v x3 x4 s' T a e hv w0 w1 w2
          have hvu := hv.1.1
          have d12 : sm_I v 275 12 = nI (705 * t) := hv.2.2.2.2.1.1
          have d14 : sm_I v 275 14 = nI (evc cl) := hv.2.2.2.2.1.2.1
          have dk : sm_I v 278 (705 * t) = nI cl.length := hv.2.2.2.2.2.1
          rw [z_M_clause_70]
          simp -implicitDefEqProofs only [hv.tg, ↓yk_275_2 hvu, d12, hi278 v hvu, ct, dk, nI_add, ↓reduceIte, lt_s1]
          have ha := hv.app (k := kdp b n s) (a := a) (e := e) (by omega) w0 w1 w2
          have L1 : Ly (sm_wI v 278 (705 * t) (nI (cl.length + 1))) := hvu.wI
          have g14 : sm_I (sm_wI v 278 (705 * t) (nI (cl.length + 1))) 275 14 = nI (evc cl) := by
            rw [wI_na (by decide)]
            exact d14
          generalize sm_wI v 278 (705 * t) (nI (cl.length + 1)) = w at *
          simp -implicitDefEqProofs only [eq_true (yt_275 L1), g14, ↓reduceIte]
          have fin : ∀ m s0, s0 = nI (if kdp b n s = 200 then 1 else 0) → Ri (sm_run (sm_call (D + 13)) c_M_clause (m + 2) 89 [some (.ref 275), some (.int (nI (srt (kdp b n s)))), some (.int (nI cl.length)), some (.int x3), some (.int x4)] [.int s0, .int (nI (evc cl)), .ref 275] w) (fun x v => RP u0 b n t (cl ++ [(kdp b n s, a, e)]) (limc (cl ++ [(kdp b n s, a, e)])) pl (exq b n 59 (s', 0, pl, T)) x v) := by
            intro m s0 es
            have ee : evc (cl ++ [(kdp b n s, a, e)]) = evc cl + (if kdp b n s = 200 then 1 else 0) := evc_a cl (kdp b n s, a, e)
            rw [z_M_clause_89, es]
            simp -implicitDefEqProofs only [eq_true (yt_275 L1), nI_add, ↓reduceIte, lt_s1]
            rw [← ee]
            generalize sm_wI w 275 14 (nI (evc (cl ++ [(kdp b n s, a, e)]))) = w2 at *
            have d9 : sm_I w2 275 9 = nI (tkc b n s') := ha.2.2.1.2.2.2.1
            have htk := tk_kd (b := b) (n := n) (s := s')
            simp -implicitDefEqProofs only [ha.tg, d9, ↓reduceIte]
            have ex : exq b n 59 (s', 0, pl, T) = if kdp b n s' = 59 then (nx1 b n s', 0, pl, T) else (s', 1, nI s', T) := by
              unfold exq
              rw [kn_0, adv_0, rfs_0]
            rw [ex]
            by_cases q59 : kdp b n s' = 59
            · rw [if_pos q59, if_pos (show nI (tkc b n s') = nI 59 by rw [(htk.2.2.2.2.1 59 (by omega) (by omega)).mpr q59]), z_M_clause_97]
              simp -implicitDefEqProofs only [ha.tg, ↓reduceIte]
              refine Ri.rv (r_nx (by omega) ha) (fun v2 hv2 => ?_)
              exact Ri.ret ⟨rfl, Nat.zero_le 9, ⟨hv2.1.1.1, hv2.1.2.1⟩, fun _ => ⟨rfl, hv2.1⟩, fun z => absurd rfl z⟩
            · rw [if_neg q59, if_neg (show ¬ nI (tkc b n s') = nI 59 from fun z => q59 ((htk.2.2.2.2.1 59 (by omega) (by omega)).mp ((nI_eq (by omega) (by omega)).mp z)))]
              exact Ri.ret (ha.ft (by omega) (by omega) pl)
          by_cases q1 : kdp b n s = 200
          · rw [if_pos (show nI (srt (kdp b n s)) = nI 1 by rw [y1.mpr q1])]
            exact fin _ _ (by rw [if_pos q1])
          · rw [if_neg (show ¬ nI (srt (kdp b n s)) = nI 1 from fun z => q1 (y1.mp ((nI_eq (by omega) (by omega)).mp z))), z_M_clause_87]
            exact fin _ _ (by rw [if_neg q1])
        have f43 : ∀ m s0, s0 = (if kdp b n s = 201 then (1 : Int32) else 0) → Ri (sm_run (sm_call (D + 13)) c_M_clause (m + 6) 43 [some (.ref 275), some (.int (nI (srt (kdp b n s)))), some (.int (nI cl.length)), none, none] [.int s0, .int (sm_I u 275 21), .ref 275] u) (fun x v => RP u0 b n t (cl ++ [(kdp b n s, (bdF b n (evc cl) (kdp b n s) (nx1 b n s, 0, pl, c)).1)]) (limc (cl ++ [(kdp b n s, (bdF b n (evc cl) (kdp b n s) (nx1 b n s, 0, pl, c)).1)])) pl (exq b n 59 (bdF b n (evc cl) (kdp b n s) (nx1 b n s, 0, pl, c)).2) x v) := by
          intro m s0 es
          have el : ∀ p : Nat × Nat, limc (cl ++ [(kdp b n s, p)]) = (limc cl || decide (kdp b n s = 201)) := fun p => limc_a cl (kdp b n s, p)
          have eo : sm_I u 275 21 ||| s0 = (if (limc cl || decide (kdp b n s = 201)) = true then 1 else 0) := by
            rw [e21, es]
            by_cases q1 : kdp b n s = 201
            · rw [if_pos q1, decide_eq_true q1]
              cases limc cl <;> decide
            · rw [if_neg q1, decide_eq_false q1]
              cases limc cl <;> decide
          rw [z_M_clause_43, eo]
          have h01 : (if (limc cl || decide (kdp b n s = 201)) = true then (1 : Int32) else 0) = 0 ∨ (if (limc cl || decide (kdp b n s = 201)) = true then (1 : Int32) else 0) = 1 := by
            cases (limc cl || decide (kdp b n s = 201))
            · exact Or.inl rfl
            · exact Or.inr rfl
          rw [if_pos (show sm_tg u 275 = 112 ∧ _ from ⟨yt_275 hu, h01⟩)]
          obtain ⟨h2, K2⟩ := h.w21 (limc cl || decide (kdp b n s = 201))
          generalize sm_wI u 275 21 (if (limc cl || decide (kdp b n s = 201)) = true then 1 else 0) = w at *
          simp -implicitDefEqProofs only [h2.tg, ↓reduceIte, lt_s1]
          refine Ri.rv (r_nx (by omega) h2) (fun v1 hv1 => ?_)
          obtain ⟨h3, K3⟩ := hv1
          have hu3 := h3.1.1
          have d12 : sm_I v1 275 12 = nI (705 * t) := h3.2.2.2.2.1.1
          have ez : (nI (705 * t + 1 + 4 * cl.length)).toNatClampNeg = 705 * t + 1 + 4 * cl.length := nI_clamp (by omega)
          simp -implicitDefEqProofs only [h3.tg, ↓yk_275_2 hu3, d12, nI_mul, nI_add, in_278 hu3 (show 705 * t + 1 + 4 * cl.length < 2820 by omega), ez, ↓reduceIte, lt_s1]
          have h4 := h3.wc (x := nI (srt (kdp b n s))) (Nat.le_refl (705 * t + 1 + 4 * cl.length)) (by omega)
          have V4 : sm_I (sm_wI v1 278 (705 * t + 1 + 4 * cl.length) (nI (srt (kdp b n s)))) 278 (705 * t + 1 + 4 * cl.length) = nI (srt (kdp b n s)) := wI_at
          generalize sm_wI v1 278 (705 * t + 1 + 4 * cl.length) (nI (srt (kdp b n s))) = w4 at *
          simp -implicitDefEqProofs only [h4.tg, ↓reduceIte]
          have hnx := (nx_lt (b := b) (n := n) (s := s) yk).2.1
          refine Ri.ri (r_body ht hB (by omega) q8 h4 (show c.length + 1 ≤ nx1 b n s by omega) hev (Nat.le_refl _) (by omega) pl) (fun x6 v6 hv6 => ?_)
          obtain ⟨⟨p1, p2, p3, p4, p5⟩, p6, p7⟩ := hv6
          generalize bdF b n (evc cl) (kdp b n s) (nx1 b n s, 0, pl, c) = p at *
          obtain ⟨⟨a, e⟩, s', f', p', T⟩ := p
          have p1 : x6 = nI f' := p1
          have p2 : f' ≤ 9 := p2
          by_cases qf : f' = 0
          · obtain ⟨g1, g2⟩ := p4 qf
            obtain ⟨g3, g4⟩ := p7 qf
            have g1 : p' = pl := g1
            subst g1
            rw [qf] at p1
            rw [p1, if_pos (show nI 0 = 0 from rfl), qf]
            have g2 : RS u0 b n t cl (limc cl || decide (kdp b n s = 201)) v6 s' T := g2
            rw [← el (a, e)] at g2
            exact f89 _ v6 _ _ s' T a e g2 ((p6 _ (by omega) (by omega) (by omega)).trans V4) g3 g4
          · rw [p1, if_neg (nI_n0 p2 qf)]
            have hx : ((s', f', p', T) : Rst).2.1 ≠ 0 := qf
            show Ri _ (fun x v => RP u0 b n t (cl ++ [(kdp b n s, a, e)]) (limc (cl ++ [(kdp b n s, a, e)])) pl (exq b n 59 (s', f', p', T)) x v)
            rw [fx_exq hx (by decide)]
            exact Ri.ret ⟨rfl, p2, p3, fun y => absurd y qf, p5⟩
        by_cases q1 : kdp b n s = 201
        · rw [if_pos (show nI (srt (kdp b n s)) = 0 by rw [y0.mpr q1]; rfl)]
          exact f43 _ _ (by rw [if_pos q1]; rfl)
        · rw [if_neg (show ¬ nI (srt (kdp b n s)) = 0 from fun z => q1 (y0.mp ((nI_eq (b := 0) (by omega) (by omega)).mp z))), z_M_clause_41]
          exact f43 _ _ (by rw [if_neg q1]; rfl)
    have f13 : ∀ m, ¬ (kdp b n s = 201 ∧ limc cl = true) → Ri (sm_run (sm_call (D + 13)) c_M_clause (m + 10) 13 [some (.ref 275), some (.int (nI (srt (kdp b n s)))), none, none, none] [] u) (fun x v => RP u0 b n t (claF b n (kdp b n s) (cl, (s, 0, pl, c))).1 (limc (claF b n (kdp b n s) (cl, (s, 0, pl, c))).1) pl (claF b n (kdp b n s) (cl, (s, 0, pl, c))).2 x v) := by
      intro m q
      rw [z_M_clause_13]
      by_cases q1 : kdp b n s = 200
      · rw [if_pos (show nI (srt (kdp b n s)) = nI 1 by rw [y1.mpr q1])]
        simp -implicitDefEqProofs only [h.tg, e14, ↓reduceIte]
        by_cases q10 : evc cl = 10
        · rw [if_pos (show nI (evc cl) = nI 10 by rw [q10])]
          exact f4 _ (Or.inr ⟨q1, by omega⟩)
        · rw [if_neg (show ¬ nI (evc cl) = nI 10 from fun z => q10 ((nI_eq (by omega) (by omega)).mp z))]
          exact f23 _ (fun z => z.elim q (fun z => by omega))
      · rw [if_neg (show ¬ nI (srt (kdp b n s)) = nI 1 from fun z => q1 (y1.mp ((nI_eq (by omega) (by omega)).mp z)))]
        exact f23 _ (fun z => z.elim q (fun z => q1 z.1))
    rw [z_M_clause_7]
    by_cases q1 : kdp b n s = 201
    · rw [if_pos (show nI (srt (kdp b n s)) = 0 by rw [y0.mpr q1]; rfl)]
      simp -implicitDefEqProofs only [h.tg, e21, ↓reduceIte]
      by_cases ql : limc cl = true
      · rw [if_pos ql, if_neg (show ¬ (1 : Int32) = 0 by decide)]
        exact f4 _ (Or.inl ⟨q1, ql⟩)
      · rw [if_neg ql, if_pos (show (0 : Int32) = 0 from rfl)]
        exact f13 _ (fun z => ql z.2)
    · rw [if_neg (show ¬ nI (srt (kdp b n s)) = 0 from fun z => q1 (y0.mp ((nI_eq (b := 0) (by omega) (by omega)).mp z)))]
      exact f13 _ (fun z => q1 z.1)
  · have ec : claF b n (kdp b n s) (cl, (s, 0, pl, c)) = (cl, (s, 1, nI s, c)) := by
      unfold claF
      rw [if_pos (kd8_n q8), rfs_0]
    rw [ec, if_neg q8, if_neg (show ¬ (0 : Int32) ≤ Int32.ofInt (-1) by decide)]
    exact Ri.ret (h.ft (by omega) (by omega) pl)
end
