/-! texts: clauses of the class (by wip/whole/mk_98vf.py) -/
theorem z_X_addClause_0 (C : Nat → List Value → sm_M → sm_R) (n : Nat) (u : sm_M) (a0 : Nat) (v1 v2 v3 : Int32) : sm_run C c_X_addClause (n + 1) 0 [some (.ref a0), some (.int v1), some (.int v2), some (.int v3)] [] u = if sm_tg u a0 = 102 then (if (nI 24) ≤ (sm_I u a0 6) then (sm_run C c_X_addClause n 29 [some (.ref a0), some (.int v1), some (.int v2), some (.int v3)] [] u) else (if sm_tg u a0 = 102 then sm_rr (sm_Rf u a0 0) (fun q1 => if sm_tg u a0 = 102 then (if sm_in u 1 q1 (sm_I u a0 6) then (sm_lt (sm_wI u q1 (sm_I u a0 6).toNatClampNeg v1) (fun u2 => if sm_tg u2 a0 = 102 then sm_rr (sm_Rf u2 a0 1) (fun q3 => if sm_tg u2 a0 = 102 then (if sm_in u2 1 q3 (sm_I u2 a0 6) then (sm_lt (sm_wI u2 q3 (sm_I u2 a0 6).toNatClampNeg v2) (fun u4 => if sm_tg u4 a0 = 102 then sm_rr (sm_Rf u4 a0 2) (fun q5 => if sm_tg u4 a0 = 102 then (if sm_in u4 1 q5 (sm_I u4 a0 6) then (sm_lt (sm_wI u4 q5 (sm_I u4 a0 6).toNatClampNeg v3) (fun u6 => if sm_tg u6 a0 = 102 then (if sm_tg u6 a0 = 102 then (sm_lt (sm_wI u6 a0 6 ((sm_I u6 a0 6) + (nI 1))) (fun u7 => sm_run C c_X_addClause n 29 [some (.ref a0), some (.int v1), some (.int v2), some (.int v3)] [] u7)) else none) else none)) else none) else none) else none)) else none) else none) else none)) else none) else none) else none)) else none := q_X_addClause_0 C n u a0 v1 v2 v3
theorem z_X_addClause_29 (C : Nat → List Value → sm_M → sm_R) (n : Nat) (u : sm_M) (a0 : Nat) (v1 v2 v3 : Int32) : sm_run C c_X_addClause (n + 1) 29 [some (.ref a0), some (.int v1), some (.int v2), some (.int v3)] [] u = if v1 = (nI 200) then (if sm_tg u a0 = 102 then (if sm_tg u a0 = 102 then (sm_lt (sm_wI u a0 7 ((sm_I u a0 7) + (nI 1))) (fun u1 => sm_run C c_X_addClause n 39 [some (.ref a0), some (.int v1), some (.int v2), some (.int v3)] [] u1)) else none) else none) else (sm_run C c_X_addClause n 39 [some (.ref a0), some (.int v1), some (.int v2), some (.int v3)] [] u) := q_X_addClause_29 C n u a0 v1 v2 v3
theorem z_X_addClause_39 (C : Nat → List Value → sm_M → sm_R) (n : Nat) (u : sm_M) (a0 : Nat) (v1 v2 v3 : Int32) : sm_run C c_X_addClause (n + 1) 39 [some (.ref a0), some (.int v1), some (.int v2), some (.int v3)] [] u = if sm_tg u a0 = 102 then (if (sm_I u a0 10) = 0 then (if v1 = (nI 201) then (sm_run C c_X_addClause n 47 [some (.ref a0), some (.int v1), some (.int v2), some (.int v3)] [.ref a0] u) else (sm_run C c_X_addClause n 49 [some (.ref a0), some (.int v1), some (.int v2), some (.int v3)] [.ref a0] u)) else (sm_run C c_X_addClause n 47 [some (.ref a0), some (.int v1), some (.int v2), some (.int v3)] [.ref a0] u)) else none := q_X_addClause_39 C n u a0 v1 v2 v3
theorem z_X_addClause_47 (C : Nat → List Value → sm_M → sm_R) (n : Nat) (u : sm_M) (a0 y0 : Nat) (v1 v2 v3 : Int32) : sm_run C c_X_addClause (n + 1) 47 [some (.ref a0), some (.int v1), some (.int v2), some (.int v3)] [.ref y0] u = sm_run C c_X_addClause n 51 [some (.ref a0), some (.int v1), some (.int v2), some (.int v3)] [.int (nI 1), .ref y0] u := q_X_addClause_47 C n u a0 y0 v1 v2 v3
theorem z_X_addClause_51 (C : Nat → List Value → sm_M → sm_R) (n : Nat) (u : sm_M) (a0 y1 : Nat) (v1 v2 v3 s0 : Int32) : sm_run C c_X_addClause (n + 1) 51 [some (.ref a0), some (.int v1), some (.int v2), some (.int v3)] [.int s0, .ref y1] u = if sm_tg u y1 = 102 ∧ (s0 = 0 ∨ s0 = 1) then (sm_lt (sm_wI u y1 10 s0) (fun u1 => some (none, u1))) else none := q_X_addClause_51 C n u a0 y1 v1 v2 v3 s0
theorem z_X_addClause_49 (C : Nat → List Value → sm_M → sm_R) (n : Nat) (u : sm_M) (a0 y0 : Nat) (v1 v2 v3 : Int32) : sm_run C c_X_addClause (n + 1) 49 [some (.ref a0), some (.int v1), some (.int v2), some (.int v3)] [.ref y0] u = sm_run C c_X_addClause n 51 [some (.ref a0), some (.int v1), some (.int v2), some (.int v3)] [.int (nI 0), .ref y0] u := q_X_addClause_49 C n u a0 y0 v1 v2 v3
theorem z_R_readPair_0 (C : Nat → List Value → sm_M → sm_R) (n : Nat) (u : sm_M) (a0 : Nat) (v1 v2 v3 v4 v5 : Int32) : sm_run C c_R_readPair (n + 1) 0 [some (.ref a0), some (.int v1), some (.int v2), some (.int v3), some (.int v4), some (.int v5)] [] u = if sm_tg u a0 = 106 then (sm_rv (C 66 [.ref a0, .int v3] u) (fun u1 => if sm_tg u1 a0 = 106 then sm_rr (sm_Rf u1 a0 1) (fun q2 => if sm_tg u1 a0 = 106 then (sm_ri (C 67 [.ref a0, .int v4, .int v5] u1) (fun x4 u3 => if sm_tg u3 q2 = 102 then (sm_rv (C 18 [.ref q2, .int v1, .int v2, .int x4] u3) (fun u5 => some (none, u5))) else none)) else none) else none)) else none := q_R_readPair_0 C n u a0 v1 v2 v3 v4 v5
theorem z_R_readDeed_0 (C : Nat → List Value → sm_M → sm_R) (n : Nat) (u : sm_M) (a0 : Nat) (v1 : Int32) : sm_run C c_R_readDeed (n + 1) 0 [some (.ref a0), some (.int v1)] [] u = if v1 = (nI 202) then (sm_run C c_R_readDeed n 2 [some (.ref a0), some (.int v1)] [] u) else if v1 = (nI 204) then (sm_run C c_R_readDeed n 13 [some (.ref a0), some (.int v1)] [] u) else if v1 = (nI 206) then (sm_run C c_R_readDeed n 24 [some (.ref a0), some (.int v1)] [] u) else if v1 = (nI 207) then (sm_run C c_R_readDeed n 34 [some (.ref a0), some (.int v1)] [] u) else if v1 = (nI 209) then (sm_run C c_R_readDeed n 45 [some (.ref a0), some (.int v1)] [] u) else sm_run C c_R_readDeed n 56 [some (.ref a0), some (.int v1)] [] u := q_R_readDeed_0 C n u a0 v1
theorem z_R_readDeed_2 (C : Nat → List Value → sm_M → sm_R) (n : Nat) (u : sm_M) (a0 : Nat) (v1 : Int32) : sm_run C c_R_readDeed (n + 1) 2 [some (.ref a0), some (.int v1)] [] u = if sm_tg u a0 = 106 then (sm_ri (C 67 [.ref a0, .int (nI 0), .int (nI 1)] u) (fun x2 u1 => if sm_tg u1 a0 = 106 then (sm_rv (C 71 [.ref a0, .int v1, .int x2, .int (nI 203), .int (nI 0), .int (nI 10)] u1) (fun u3 => sm_run C c_R_readDeed n 66 [some (.ref a0), some (.int v1)] [] u3)) else none)) else none := q_R_readDeed_2 C n u a0 v1
theorem z_R_readDeed_66 (C : Nat → List Value → sm_M → sm_R) (n : Nat) (u : sm_M) (a0 : Nat) (v1 : Int32) : sm_run C c_R_readDeed (n + 1) 66 [some (.ref a0), some (.int v1)] [] u = some (none, u) := q_R_readDeed_66 C n u a0 v1
theorem z_R_readDeed_13 (C : Nat → List Value → sm_M → sm_R) (n : Nat) (u : sm_M) (a0 : Nat) (v1 : Int32) : sm_run C c_R_readDeed (n + 1) 13 [some (.ref a0), some (.int v1)] [] u = if sm_tg u a0 = 106 then (sm_ri (C 67 [.ref a0, .int (nI 0), .int (nI 255)] u) (fun x2 u1 => if sm_tg u1 a0 = 106 then (sm_rv (C 71 [.ref a0, .int v1, .int x2, .int (nI 205), .int (nI 1), .int (nI 9)] u1) (fun u3 => sm_run C c_R_readDeed n 66 [some (.ref a0), some (.int v1)] [] u3)) else none)) else none := q_R_readDeed_13 C n u a0 v1
theorem z_R_readDeed_24 (C : Nat → List Value → sm_M → sm_R) (n : Nat) (u : sm_M) (a0 : Nat) (v1 : Int32) : sm_run C c_R_readDeed (n + 1) 24 [some (.ref a0), some (.int v1)] [] u = if sm_tg u a0 = 106 then sm_rr (sm_Rf u a0 1) (fun q1 => if sm_tg u a0 = 106 then (sm_ri (C 67 [.ref a0, .int (nI 0), .int (nI 7)] u) (fun x3 u2 => if sm_tg u2 q1 = 102 then (sm_rv (C 18 [.ref q1, .int v1, .int x3, .int (nI 0)] u2) (fun u4 => sm_run C c_R_readDeed n 66 [some (.ref a0), some (.int v1)] [] u4)) else none)) else none) else none := q_R_readDeed_24 C n u a0 v1
theorem z_R_readDeed_34 (C : Nat → List Value → sm_M → sm_R) (n : Nat) (u : sm_M) (a0 : Nat) (v1 : Int32) : sm_run C c_R_readDeed (n + 1) 34 [some (.ref a0), some (.int v1)] [] u = if sm_tg u a0 = 106 then (sm_ri (C 67 [.ref a0, .int (nI 0), .int (nI 5)] u) (fun x2 u1 => if sm_tg u1 a0 = 106 then (sm_rv (C 71 [.ref a0, .int v1, .int x2, .int (nI 208), .int (nI 0), .int (nI 255)] u1) (fun u3 => sm_run C c_R_readDeed n 66 [some (.ref a0), some (.int v1)] [] u3)) else none)) else none := q_R_readDeed_34 C n u a0 v1
theorem z_R_readDeed_45 (C : Nat → List Value → sm_M → sm_R) (n : Nat) (u : sm_M) (a0 : Nat) (v1 : Int32) : sm_run C c_R_readDeed (n + 1) 45 [some (.ref a0), some (.int v1)] [] u = if sm_tg u a0 = 106 then (sm_ri (C 67 [.ref a0, .int (nI 0), .int (nI 9)] u) (fun x2 u1 => if sm_tg u1 a0 = 106 then (sm_rv (C 71 [.ref a0, .int v1, .int x2, .int (nI 210), .int (nI 0), .int (nI 5)] u1) (fun u3 => sm_run C c_R_readDeed n 66 [some (.ref a0), some (.int v1)] [] u3)) else none)) else none := q_R_readDeed_45 C n u a0 v1
theorem z_R_readDeed_56 (C : Nat → List Value → sm_M → sm_R) (n : Nat) (u : sm_M) (a0 : Nat) (v1 : Int32) : sm_run C c_R_readDeed (n + 1) 56 [some (.ref a0), some (.int v1)] [] u = if sm_tg u a0 = 106 then sm_rr (sm_Rf u a0 1) (fun q1 => if sm_tg u a0 = 106 then (sm_ri (C 67 [.ref a0, .int (nI 0), .int (nI 9)] u) (fun x3 u2 => if sm_tg u2 q1 = 102 then (sm_rv (C 18 [.ref q1, .int v1, .int x3, .int (nI 0)] u2) (fun u4 => sm_run C c_R_readDeed n 66 [some (.ref a0), some (.int v1)] [] u4)) else none)) else none) else none := q_R_readDeed_56 C n u a0 v1
theorem z_R_isDeed_0 (C : Nat → List Value → sm_M → sm_R) (n : Nat) (u : sm_M) (v0 : Int32) : sm_run C c_R_isDeed (n + 1) 0 [some (.int v0)] [] u = if v0 = (nI 202) then (sm_run C c_R_isDeed n 2 [some (.int v0)] [] u) else if v0 = (nI 204) then (sm_run C c_R_isDeed n 2 [some (.int v0)] [] u) else if v0 = (nI 206) then (sm_run C c_R_isDeed n 2 [some (.int v0)] [] u) else if v0 = (nI 207) then (sm_run C c_R_isDeed n 2 [some (.int v0)] [] u) else if v0 = (nI 209) then (sm_run C c_R_isDeed n 2 [some (.int v0)] [] u) else if v0 = (nI 211) then (sm_run C c_R_isDeed n 2 [some (.int v0)] [] u) else sm_run C c_R_isDeed n 4 [some (.int v0)] [] u := q_R_isDeed_0 C n u v0
theorem z_R_isDeed_2 (C : Nat → List Value → sm_M → sm_R) (n : Nat) (u : sm_M) (v0 : Int32) : sm_run C c_R_isDeed (n + 1) 2 [some (.int v0)] [] u = if (nI 1) = 0 ∨ (nI 1) = 1 then some (some (.int (nI 1)), u) else none := q_R_isDeed_2 C n u v0
theorem z_R_isDeed_4 (C : Nat → List Value → sm_M → sm_R) (n : Nat) (u : sm_M) (v0 : Int32) : sm_run C c_R_isDeed (n + 1) 4 [some (.int v0)] [] u = if (nI 0) = 0 ∨ (nI 0) = 1 then some (some (.int (nI 0)), u) else none := q_R_isDeed_4 C n u v0
theorem z_R_readClause_78 (C : Nat → List Value → sm_M → sm_R) (n : Nat) (u : sm_M) (a0 : Nat) (v1 v2 : Int32) (o3 : Option Value) : sm_run C c_R_readClause (n + 1) 78 [some (.ref a0), some (.int v1), some (.int v2), o3] [] u = some (none, u) := q_R_readClause_78 C n u a0 v1 v2 o3
theorem z_R_readClause_42 (C : Nat → List Value → sm_M → sm_R) (n : Nat) (u : sm_M) (a0 : Nat) (v1 v2 : Int32) : sm_run C c_R_readClause (n + 1) 42 [some (.ref a0), some (.int v1), some (.int v2), none] [] u = if sm_tg u a0 = 106 then sm_rr (sm_Rf u a0 1) (fun q1 => if sm_tg u q1 = 102 then (if (sm_I u q1 6) < (nI 24) then (sm_run C c_R_readClause n 51 [some (.ref a0), some (.int v1), some (.int v2), none] [] u) else (if sm_tg u a0 = 106 then (sm_rv (C 65 [.ref a0, .int (nI 6)] u) (fun u2 => sm_run C c_R_readClause n 78 [some (.ref a0), some (.int v1), some (.int v2), none] [] u2)) else none)) else none) else none := q_R_readClause_42 C n u a0 v1 v2
theorem z_R_readClause_51 (C : Nat → List Value → sm_M → sm_R) (n : Nat) (u : sm_M) (a0 : Nat) (v1 v2 : Int32) : sm_run C c_R_readClause (n + 1) 51 [some (.ref a0), some (.int v1), some (.int v2), none] [] u = if sm_tg u a0 = 106 then (sm_rv (C 64 [.ref a0] u) (fun u1 => if v2 = 0 then (sm_run C c_R_readClause n 70 [some (.ref a0), some (.int v1), some (.int v2), none] [] u1) else (if sm_tg u1 a0 = 106 then sm_rr (sm_Rf u1 a0 1) (fun q2 => if sm_tg u1 q2 = 102 then (if sm_tg u1 a0 = 106 then (sm_rv (C 72 [.ref a0] u1) (fun u3 => if sm_tg u3 a0 = 106 then sm_rr (sm_Rf u3 a0 1) (fun q4 => if sm_tg u3 a0 = 106 then sm_rr (sm_Rf u3 a0 1) (fun q5 => if sm_tg u3 q5 = 102 then (if sm_tg u3 q4 = 102 then (sm_rv (C 18 [.ref q4, .int v1, .int (sm_I u1 q2 8), .int (sm_I u3 q5 8)] u3) (fun u6 => sm_run C c_R_readClause n 74 [some (.ref a0), some (.int v1), some (.int v2), some (.int (sm_I u1 q2 8))] [] u6)) else none) else none) else none) else none)) else none) else none) else none))) else none := q_R_readClause_51 C n u a0 v1 v2
theorem z_R_readClause_74 (C : Nat → List Value → sm_M → sm_R) (n : Nat) (u : sm_M) (a0 : Nat) (v1 v2 : Int32) (o3 : Option Value) : sm_run C c_R_readClause (n + 1) 74 [some (.ref a0), some (.int v1), some (.int v2), o3] [] u = if sm_tg u a0 = 106 then (sm_rv (C 66 [.ref a0, .int (nI 59)] u) (fun u1 => sm_run C c_R_readClause n 78 [some (.ref a0), some (.int v1), some (.int v2), o3] [] u1)) else none := q_R_readClause_74 C n u a0 v1 v2 o3
theorem z_R_readClause_70 (C : Nat → List Value → sm_M → sm_R) (n : Nat) (u : sm_M) (a0 : Nat) (v1 v2 : Int32) : sm_run C c_R_readClause (n + 1) 70 [some (.ref a0), some (.int v1), some (.int v2), none] [] u = if sm_tg u a0 = 106 then (sm_rv (C 70 [.ref a0, .int v1] u) (fun u1 => sm_run C c_R_readClause n 74 [some (.ref a0), some (.int v1), some (.int v2), none] [] u1)) else none := q_R_readClause_70 C n u a0 v1 v2
theorem z_R_readClause_38 (C : Nat → List Value → sm_M → sm_R) (n : Nat) (u : sm_M) (a0 : Nat) (v1 v2 : Int32) : sm_run C c_R_readClause (n + 1) 38 [some (.ref a0), some (.int v1), some (.int v2), none] [] u = if sm_tg u a0 = 106 then (sm_rv (C 65 [.ref a0, .int (nI 4)] u) (fun u1 => sm_run C c_R_readClause n 78 [some (.ref a0), some (.int v1), some (.int v2), none] [] u1)) else none := q_R_readClause_38 C n u a0 v1 v2
theorem z_R_readClause_29 (C : Nat → List Value → sm_M → sm_R) (n : Nat) (u : sm_M) (a0 : Nat) (v1 v2 : Int32) : sm_run C c_R_readClause (n + 1) 29 [some (.ref a0), some (.int v1), some (.int v2), none] [] u = if v1 = (nI 200) then (if sm_tg u a0 = 106 then sm_rr (sm_Rf u a0 1) (fun q1 => if sm_tg u q1 = 102 then (if (sm_I u q1 7) < (nI 10) then (sm_run C c_R_readClause n 42 [some (.ref a0), some (.int v1), some (.int v2), none] [] u) else (sm_run C c_R_readClause n 38 [some (.ref a0), some (.int v1), some (.int v2), none] [] u)) else none) else none) else (sm_run C c_R_readClause n 42 [some (.ref a0), some (.int v1), some (.int v2), none] [] u) := q_R_readClause_29 C n u a0 v1 v2
theorem z_R_readClause_21 (C : Nat → List Value → sm_M → sm_R) (n : Nat) (u : sm_M) (a0 : Nat) (v1 v2 : Int32) : sm_run C c_R_readClause (n + 1) 21 [some (.ref a0), some (.int v1), some (.int v2), none] [] u = if v1 = (nI 201) then (if sm_tg u a0 = 106 then sm_rr (sm_Rf u a0 1) (fun q1 => if sm_tg u q1 = 102 then (if (sm_I u q1 10) = 0 then (sm_run C c_R_readClause n 29 [some (.ref a0), some (.int v1), some (.int v2), none] [] u) else (sm_run C c_R_readClause n 38 [some (.ref a0), some (.int v1), some (.int v2), none] [] u)) else none) else none) else (sm_run C c_R_readClause n 29 [some (.ref a0), some (.int v1), some (.int v2), none] [] u) := q_R_readClause_21 C n u a0 v1 v2
theorem z_R_readClause_0 (C : Nat → List Value → sm_M → sm_R) (n : Nat) (u : sm_M) (a0 : Nat) (v1 : Int32) : sm_run C c_R_readClause (n + 1) 0 [some (.ref a0), some (.int v1), none, none] [] u = if v1 = (nI 200) then (sm_run C c_R_readClause n 7 [some (.ref a0), some (.int v1), none, none] [] u) else (if v1 = (nI 201) then (sm_run C c_R_readClause n 7 [some (.ref a0), some (.int v1), none, none] [] u) else (sm_run C c_R_readClause n 9 [some (.ref a0), some (.int v1), none, none] [] u)) := q_R_readClause_0 C n u a0 v1
theorem z_R_readClause_7 (C : Nat → List Value → sm_M → sm_R) (n : Nat) (u : sm_M) (a0 : Nat) (v1 : Int32) : sm_run C c_R_readClause (n + 1) 7 [some (.ref a0), some (.int v1), none, none] [] u = sm_run C c_R_readClause n 11 [some (.ref a0), some (.int v1), none, none] [.int (nI 1)] u := q_R_readClause_7 C n u a0 v1
theorem z_R_readClause_11 (C : Nat → List Value → sm_M → sm_R) (n : Nat) (u : sm_M) (a0 : Nat) (v1 s0 : Int32) : sm_run C c_R_readClause (n + 1) 11 [some (.ref a0), some (.int v1), none, none] [.int s0] u = if s0 = 0 then (sm_ri (C 69 [.int v1] u) (fun x2 u1 => if x2 = 0 then (if sm_tg u1 a0 = 106 then (sm_rv (C 65 [.ref a0, .int (nI 1)] u1) (fun u3 => sm_run C c_R_readClause n 78 [some (.ref a0), some (.int v1), some (.int s0), none] [] u3)) else none) else (sm_run C c_R_readClause n 21 [some (.ref a0), some (.int v1), some (.int s0), none] [] u1))) else (sm_run C c_R_readClause n 21 [some (.ref a0), some (.int v1), some (.int s0), none] [] u) := q_R_readClause_11 C n u a0 v1 s0
theorem z_R_readClause_9 (C : Nat → List Value → sm_M → sm_R) (n : Nat) (u : sm_M) (a0 : Nat) (v1 : Int32) : sm_run C c_R_readClause (n + 1) 9 [some (.ref a0), some (.int v1), none, none] [] u = sm_run C c_R_readClause n 11 [some (.ref a0), some (.int v1), none, none] [.int (nI 0)] u := q_R_readClause_9 C n u a0 v1
theorem z_R_read_41 (C : Nat → List Value → sm_M → sm_R) (n : Nat) (u : sm_M) (a0 a1 : Nat) (v2 : Int32) : sm_run C c_R_read (n + 1) 41 [some (.ref a0), some (.ref a1), some (.int v2)] [] u = if sm_tg u a0 = 106 then (if (sm_I u a0 3) = 0 then (sm_run C c_R_read n 48 [some (.ref a0), some (.ref a1), some (.int v2)] [.int (nI 1)] u) else (sm_run C c_R_read n 46 [some (.ref a0), some (.ref a1), some (.int v2)] [] u)) else none := q_R_read_41 C n u a0 a1 v2
theorem z_R_read_48 (C : Nat → List Value → sm_M → sm_R) (n : Nat) (u : sm_M) (a0 a1 : Nat) (v2 s0 : Int32) : sm_run C c_R_read (n + 1) 48 [some (.ref a0), some (.ref a1), some (.int v2)] [.int s0] u = if s0 = 0 ∨ s0 = 1 then some (some (.int s0), u) else none := q_R_read_48 C n u a0 a1 v2 s0
theorem z_R_read_46 (C : Nat → List Value → sm_M → sm_R) (n : Nat) (u : sm_M) (a0 a1 : Nat) (v2 : Int32) : sm_run C c_R_read (n + 1) 46 [some (.ref a0), some (.ref a1), some (.int v2)] [] u = sm_run C c_R_read n 48 [some (.ref a0), some (.ref a1), some (.int v2)] [.int (nI 0)] u := q_R_read_46 C n u a0 a1 v2
theorem z_R_read_25 (C : Nat → List Value → sm_M → sm_R) (n : Nat) (u : sm_M) (a0 a1 : Nat) (v2 : Int32) : sm_run C c_R_read (n + 1) 25 [some (.ref a0), some (.ref a1), some (.int v2)] [] u = if (nI 24) < v2 then (sm_run C c_R_read n 41 [some (.ref a0), some (.ref a1), some (.int v2)] [] u) else (if sm_tg u a0 = 106 then (sm_ri (C 63 [.ref a0] u) (fun x2 u1 => if x2 = (nI 1) then (sm_run C c_R_read n 41 [some (.ref a0), some (.ref a1), some (.int v2)] [] u1) else (if sm_tg u1 a0 = 106 then (if (sm_I u1 a0 3) = 0 then (if sm_tg u1 a0 = 106 then (sm_ri (C 63 [.ref a0] u1) (fun x4 u3 => if sm_tg u3 a0 = 106 then (sm_rv (C 68 [.ref a0, .int x4] u3) (fun u5 => sm_run C c_R_read n 25 [some (.ref a0), some (.ref a1), some (.int (v2 + (nI 1)))] [] u5)) else none)) else none) else (sm_run C c_R_read n 41 [some (.ref a0), some (.ref a1), some (.int v2)] [] u1)) else none))) else none) := q_R_read_25 C n u a0 a1 v2
theorem evc_a (cl : Cls) (c : Nat × Nat × Nat) : evc (cl ++ [c]) = evc cl + (if c.1 = 200 then 1 else 0) := by
  induction cl with
  | nil => show (if c.1 = 200 then 1 else 0) + 0 = 0 + _; omega
  | cons d r ih =>
    show (if d.1 = 200 then 1 else 0) + evc (r ++ [c]) = (if d.1 = 200 then 1 else 0) + evc r + _
    rw [ih]
    omega
theorem limc_a (cl : Cls) (c : Nat × Nat × Nat) : limc (cl ++ [c]) = (limc cl || decide (c.1 = 201)) := by
  induction cl with
  | nil => show (decide (c.1 = 201) || false) = (false || _); simp
  | cons d r ih =>
    show (decide (d.1 = 201) || limc (r ++ [c])) = ((decide (d.1 = 201) || limc r) || _)
    rw [ih, Bool.or_assoc]
theorem evc_le (cl : Cls) : evc cl ≤ cl.length := by
  induction cl with
  | nil => exact Nat.le_refl 0
  | cons c r ih =>
    unfold evc
    rw [List.length_cons]
    split <;> omega
theorem o_addC1 {u0 : sm_M} {t : Nat} {cl : Cls} (ht : t < 4) {k f s : Nat} (hlen : cl.length < 24) {D : Nat} {u : sm_M} (hu : Ly u) (hr : sm_Rf u 232 1 = some (236 + 7 * t)) (hf : FrP (Prd t) u0 u) (c1 : sm_I u (236 + 7 * t) 6 = nI cl.length) : ∃ w4, (∀ m, sm_run (sm_call D) c_X_addClause (m + 1) 0 [some (.ref (236 + 7 * t)), some (.int (nI k)), some (.int (nI f)), some (.int (nI s))] [] u = sm_run (sm_call D) c_X_addClause m 29 [some (.ref (236 + 7 * t)), some (.int (nI k)), some (.int (nI f)), some (.int (nI s))] [] w4) ∧ Ly w4 ∧ FrP (Prd t) u0 w4 ∧ sm_Rf w4 232 1 = some (236 + 7 * t) ∧
    (∀ a j, (a ≠ 236 + 7 * t ∨ j ≠ 6) → ((a ≠ 237 + 7 * t ∧ a ≠ 238 + 7 * t ∧ a ≠ 239 + 7 * t) ∨ j ≠ cl.length) → sm_I w4 a j = sm_I u a j) ∧ sm_I w4 (236 + 7 * t) 6 = nI (cl.length + 1) ∧ sm_I w4 (237 + 7 * t) cl.length = nI k ∧ sm_I w4 (238 + 7 * t) cl.length = nI f ∧ sm_I w4 (239 + 7 * t) cl.length = nI s := by
  have cL : (nI cl.length).toNatClampNeg = cl.length := nI_clamp (by omega)
  have tg1 := fun w (hw : Ly w) => eq_true (tx_tg hw ht)
  have hno : ¬ nI 24 ≤ nI cl.length := fun z => absurd ((nI_leI (by omega) (by omega)).mp z) (Nat.not_le.mpr hlen)
  refine ⟨sm_wI (sm_wI (sm_wI (sm_wI u (237 + 7 * t) cl.length (nI k)) (238 + 7 * t) cl.length (nI f)) (239 + 7 * t) cl.length (nI s)) (236 + 7 * t) 6 (nI (cl.length + 1)), fun m => ?_, hu.wI.wI.wI.wI, (((hf.wI (Or.inr (by omega))).wI (Or.inr (by omega))).wI (Or.inr (by omega))).wI (Or.inr (by omega)), hr, fun a j q1 q2 => ?_, wI_at, ?_, ?_, ?_⟩
  · rw [z_X_addClause_0]
    simp only [tg1 u hu, c1, eq_false hno, tx_r0 hu ht, rr_s, tx_i0 hu ht hlen, ↓reduceIte, lt_s1, cL]
    have L1 : Ly (sm_wI u (237 + 7 * t) cl.length (nI k)) := hu.wI
    have a1 : sm_I (sm_wI u (237 + 7 * t) cl.length (nI k)) (236 + 7 * t) 6 = nI cl.length := by rw [wI_na (by omega)]; exact c1
    generalize sm_wI u (237 + 7 * t) cl.length (nI k) = w1 at *
    simp only [tg1 w1 L1, a1, tx_r1 L1 ht, rr_s, tx_i1 L1 ht hlen, ↓reduceIte, lt_s1, cL]
    have L2 : Ly (sm_wI w1 (238 + 7 * t) cl.length (nI f)) := L1.wI
    have a2 : sm_I (sm_wI w1 (238 + 7 * t) cl.length (nI f)) (236 + 7 * t) 6 = nI cl.length := by rw [wI_na (by omega)]; exact a1
    generalize sm_wI w1 (238 + 7 * t) cl.length (nI f) = w2 at *
    simp only [tg1 w2 L2, a2, tx_r2 L2 ht, rr_s, tx_i2 L2 ht hlen, ↓reduceIte, lt_s1, cL]
    have L3 : Ly (sm_wI w2 (239 + 7 * t) cl.length (nI s)) := L2.wI
    have a3 : sm_I (sm_wI w2 (239 + 7 * t) cl.length (nI s)) (236 + 7 * t) 6 = nI cl.length := by rw [wI_na (by omega)]; exact a2
    generalize sm_wI w2 (239 + 7 * t) cl.length (nI s) = w3 at *
    simp only [tg1 w3 L3, a3, nI_add, ↓reduceIte, lt_s1]
  · rw [wI_ne q1, wI_ne (by omega), wI_ne (by omega), wI_ne (by omega)]
  · rw [wI_na (by omega), wI_na (by omega), wI_na (by omega), wI_at]
  · rw [wI_na (by omega), wI_na (by omega), wI_at]
  · rw [wI_na (by omega), wI_at]
theorem o_addC2 {u0 : sm_M} {t : Nat} {cl : Cls} (ht : t < 4) {k f s : Nat} (hk : k < 222) (hev : evc cl ≤ 24) {D : Nat} {w4 : sm_M} (L4 : Ly w4) (r4 : sm_Rf w4 232 1 = some (236 + 7 * t)) (F4 : FrP (Prd t) u0 w4) (b7 : sm_I w4 (236 + 7 * t) 7 = nI (evc cl)) (c4 : sm_I w4 (236 + 7 * t) 10 = (if limc cl = true then 1 else 0)) : ∃ w6, (∀ m, sm_run (sm_call D) c_X_addClause (m + 4) 29 [some (.ref (236 + 7 * t)), some (.int (nI k)), some (.int (nI f)), some (.int (nI s))] [] w4 = some (none, w6)) ∧ Ly w6 ∧ FrP (Prd t) u0 w6 ∧ sm_Rf w6 232 1 = some (236 + 7 * t) ∧ (∀ a j, (a ≠ 236 + 7 * t ∨ j ≠ 7 ∧ j ≠ 10) → sm_I w6 a j = sm_I w4 a j) ∧ sm_I w6 (236 + 7 * t) 7 = nI (evc (cl ++ [(k, f, s)])) ∧ sm_I w6 (236 + 7 * t) 10 = (if limc (cl ++ [(k, f, s)]) = true then 1 else 0) := by
  have tg1 := fun w (hw : Ly w) => eq_true (tx_tg hw ht)
  have st5 : ∃ w5, (∀ m, sm_run (sm_call D) c_X_addClause (m + 1) 29 [some (.ref (236 + 7 * t)), some (.int (nI k)), some (.int (nI f)), some (.int (nI s))] [] w4 = sm_run (sm_call D) c_X_addClause m 39 [some (.ref (236 + 7 * t)), some (.int (nI k)), some (.int (nI f)), some (.int (nI s))] [] w5) ∧ Ly w5 ∧ FrP (Prd t) u0 w5 ∧ sm_Rf w5 232 1 = some (236 + 7 * t) ∧ (∀ a j, (a ≠ 236 + 7 * t ∨ j ≠ 7) → sm_I w5 a j = sm_I w4 a j) ∧ sm_I w5 (236 + 7 * t) 7 = nI (evc (cl ++ [(k, f, s)])) := by
    rw [evc_a]
    by_cases q : k = 200
    · refine ⟨sm_wI w4 (236 + 7 * t) 7 (nI (evc cl + 1)), fun m => ?_, L4.wI, F4.wI (Or.inr (by omega)), r4, fun a j q => wI_ne q, ?_⟩
      · rw [z_X_addClause_29, q, if_pos rfl]
        simp only [tg1 w4 L4, b7, nI_add, ↓reduceIte, lt_s1]
      · rw [wI_at, if_pos q]
    · refine ⟨w4, fun m => ?_, L4, F4, r4, fun a j _ => rfl, ?_⟩
      · rw [z_X_addClause_29, if_neg (fun z => q ((nI_eq (by omega) (by omega)).mp z))]
      · rw [b7, if_neg q]
        rfl
  obtain ⟨w5, g1, L5, F5, r5, R5, V5⟩ := st5
  have b10 : sm_I w5 (236 + 7 * t) 10 = (if limc cl = true then 1 else 0) := by rw [R5 _ _ (by omega)]; exact c4
  refine ⟨sm_wI w5 (236 + 7 * t) 10 (if limc (cl ++ [(k, f, s)]) = true then 1 else 0), fun m => ?_, L5.wI, F5.wI (Or.inr (by omega)), r5, fun a j q => by rw [wI_ne (by omega)]; exact R5 a j (by omega), by rw [wI_nk (by decide)]; exact V5, wI_at⟩
  rw [g1, limc_a, z_X_addClause_39]
  simp only [tg1 w5 L5, b10, ↓reduceIte]
  cases hc : limc cl with
  | true =>
    simp only [↓reduceIte, Bool.true_or, e10, z_X_addClause_47, z_X_addClause_51, tg1 w5 L5, true_and]
    rfl
  | false =>
    by_cases q : k = 201
    · subst q
      simp only [↓reduceIte, Bool.false_eq_true, z_X_addClause_47, z_X_addClause_51, tg1 w5 L5, true_and]
      rfl
    · have q2 : ¬ nI k = nI 201 := fun z => q ((nI_eq (by omega) (by omega)).mp z)
      simp only [↓reduceIte, Bool.false_eq_true, Bool.false_or, decide_eq_true_eq, if_neg q, if_neg q2, z_X_addClause_49, z_X_addClause_51, tg1 w5 L5, true_and]
      rfl
theorem o_addC {u0 : sm_M} {b : Nat → Nat} {n t : Nat} {cl : Cls} (H : Cx u0 b n t) {k f s : Nat} (hk : k < 222) (hlen : cl.length < 24) {D : Nat} (hD : 1 ≤ D) {u : sm_M} {σ : Rst} (h : CS u0 b n t cl u σ) : Rn (sm_call D 18 [.ref (236 + 7 * t), .int (nI k), .int (nI f), .int (nI s)] u) (fun v => CS u0 b n t (cl ++ [(k, f, s)]) v σ) := by
  obtain ⟨D, rfl⟩ : ∃ k, D = k + 1 := ⟨D - 1, by omega⟩
  have ht := H.2.1
  obtain ⟨⟨hu, hr⟩, hf, ⟨hp, e2⟩, ⟨e3, l3⟩, e4, ⟨e8, l8, hT⟩, ⟨c1, c2, c3, c4, c5, c6⟩⟩ := h
  have hev := evc_le cl
  obtain ⟨w4, g1, L4, F4, r4, R4, V4, X1, X2, X3⟩ := o_addC1 (D := D) (k := k) (f := f) (s := s) ht hlen hu hr hf c1
  obtain ⟨w6, g2, L6, F6, r6, R6, V7, V10⟩ := o_addC2 (D := D) (k := k) (f := f) (s := s) (cl := cl) ht hk (by omega) L4 r4 F4 (by rw [R4 _ _ (by omega) (by omega)]; exact c3) (by rw [R4 _ _ (by omega) (by omega)]; exact c4)
  have RR : ∀ a j, (a ≠ 236 + 7 * t ∨ j ≠ 6 ∧ j ≠ 7 ∧ j ≠ 10) → ((a ≠ 237 + 7 * t ∧ a ≠ 238 + 7 * t ∧ a ≠ 239 + 7 * t) ∨ j ≠ cl.length) → sm_I w6 a j = sm_I u a j := fun a j q1 q2 => by
    rw [R6 _ _ (by omega)]
    exact R4 a j (by omega) q2
  refine ⟨w6, ?_, ⟨L6, r6⟩, F6, ⟨hp, by rw [RR _ _ (by omega) (by omega)]; exact e2⟩, ⟨by rw [RR _ _ (by omega) (by omega)]; exact e3, l3⟩, by rw [RR _ _ (by omega) (by omega)]; exact e4, ⟨by rw [RR _ _ (by omega) (by omega)]; exact e8, l8, fun i hi => ?_⟩, ?_, ?_, V7, V10, ?_, fun i hi => ?_⟩
  · rw [k_X_addClause, g1]
    exact g2 2999995
  · rw [RR _ _ (by omega) (by omega), RR _ _ (by omega) (by omega)]
    exact hT i hi
  · rw [R6 _ _ (by omega), V4, List.length_append]
    rfl
  · rw [List.length_append]
    exact hlen
  · rw [RR _ _ (by omega) (by omega)]
    exact c5
  · rw [List.length_append] at hi
    have hi : i < cl.length + 1 := hi
    by_cases z : i = cl.length
    · subst z
      rw [gD_l, R6 _ _ (by omega), X1, R6 _ _ (by omega), X2, R6 _ _ (by omega), X3]
      exact ⟨rfl, rfl, rfl⟩
    · rw [gD_a (by omega), RR _ _ (by omega) (by omega), RR _ _ (by omega) (by omega), RR _ _ (by omega) (by omega)]
      exact c6 i (by omega)
def parF (b : Nat → Nat) (n h1 w l2 h2 : Nat) (σ : Rst) : (Nat × Nat) × Rst := ((rnv b n 0 h1 σ, rnv b n l2 h2 (exq b n w (rns b n 0 h1 σ))), rns b n l2 h2 (exq b n w (rns b n 0 h1 σ)))
def dedF (b : Nat → Nat) (n k : Nat) (σ : Rst) : (Nat × Nat) × Rst :=
  if k = 202 then parF b n 1 203 0 10 σ else if k = 204 then parF b n 255 205 1 9 σ else if k = 206 then ((rnv b n 0 7 σ, 0), rns b n 0 7 σ) else if k = 207 then parF b n 5 208 0 255 σ else if k = 209 then parF b n 9 210 0 5 σ else ((rnv b n 0 9 σ, 0), rns b n 0 9 σ)
def isB (k : Nat) : Bool := decide (k = 202) || (decide (k = 204) || (decide (k = 206) || (decide (k = 207) || (decide (k = 209) || decide (k = 211)))))
theorem o_par {u0 : sm_M} {b : Nat → Nat} {n t : Nat} {cl : Cls} (H : Cx u0 b n t) {k v w l2 h2 : Nat} (hk : k < 222) (hw : w < 222) (hl : l2 ≤ h2) (hh : h2 ≤ 9999) (hlen : cl.length < 24) {D : Nat} (hD : 3 ≤ D) {u : sm_M} {σ : Rst} (h : CS u0 b n t cl u σ) : Rn (sm_call D 71 [.ref 232, .int (nI k), .int (nI v), .int (nI w), .int (nI l2), .int (nI h2)] u) (fun x => CS u0 b n t (cl ++ [(k, v, rnv b n l2 h2 (exq b n w σ))]) x (rns b n l2 h2 (exq b n w σ))) := by
  obtain ⟨D, rfl⟩ : ∃ k, D = k + 3 := ⟨D - 3, by omega⟩
  rw [k_R_readPair, z_R_readPair_0]
  simp only [h.tg, ↓reduceIte]
  refine (o_expect H hw (D + 2) (by omega) u σ h).rv (fun v1 h1 => ?_)
  simp only [h1.tg, ↓h1.r1, ↓reduceIte]
  refine Rn.ri (o_number H hl hh (by omega) h1) (fun x1 v2 hv => ?_)
  obtain ⟨rfl, h2⟩ := hv
  simp only [h2.tT H.2.1, ↓reduceIte]
  refine (o_addC H hk hlen (by omega) h2).rv (fun v3 h3 => ?_)
  exact Rn.ret h3
theorem o_ded {u0 : sm_M} {b : Nat → Nat} {n t : Nat} {cl : Cls} (H : Cx u0 b n t) {k : Nat} (hk : isB k = true) (hlen : cl.length < 24) {D : Nat} (hD : 4 ≤ D) {u : sm_M} {σ : Rst} (h : CS u0 b n t cl u σ) : Rn (sm_call D 70 [.ref 232, .int (nI k)] u) (fun x => CS u0 b n t (cl ++ [(k, (dedF b n k σ).1)]) x (dedF b n k σ).2) := by
  obtain ⟨D, rfl⟩ : ∃ k, D = k + 4 := ⟨D - 4, by omega⟩
  unfold isB at hk
  simp only [Bool.or_eq_true, decide_eq_true_eq] at hk
  rw [k_R_readDeed, z_R_readDeed_0]
  rcases hk with rfl | rfl | rfl | rfl | rfl | rfl
  · rw [if_pos rfl, z_R_readDeed_2]
    simp only [h.tg, ↓reduceIte]
    refine Rn.ri (o_number H (lo := 0) (hi := 1) (by omega) (by omega) (by omega) h) (fun x1 v1 hv => ?_)
    obtain ⟨rfl, h1⟩ := hv
    simp only [h1.tg, ↓reduceIte]
    refine (o_par H (k := 202) (w := 203) (l2 := 0) (h2 := 10) (by omega) (by omega) (by omega) (by omega) hlen (by omega) h1).rv (fun v2 h2 => ?_)
    rw [z_R_readDeed_66]
    exact Rn.ret h2
  · rw [if_neg (by decide), if_pos rfl, z_R_readDeed_13]
    simp only [h.tg, ↓reduceIte]
    refine Rn.ri (o_number H (lo := 0) (hi := 255) (by omega) (by omega) (by omega) h) (fun x1 v1 hv => ?_)
    obtain ⟨rfl, h1⟩ := hv
    simp only [h1.tg, ↓reduceIte]
    refine (o_par H (k := 204) (w := 205) (l2 := 1) (h2 := 9) (by omega) (by omega) (by omega) (by omega) hlen (by omega) h1).rv (fun v2 h2 => ?_)
    rw [z_R_readDeed_66]
    exact Rn.ret h2
  · rw [if_neg (by decide), if_neg (by decide), if_pos rfl, z_R_readDeed_24]
    simp only [h.tg, ↓h.r1, ↓reduceIte]
    refine Rn.ri (o_number H (lo := 0) (hi := 7) (by omega) (by omega) (by omega) h) (fun x1 v1 hv => ?_)
    obtain ⟨rfl, h1⟩ := hv
    simp only [h1.tT H.2.1, ↓reduceIte]
    refine (o_addC H (k := 206) (s := 0) (by omega) hlen (by omega) h1).rv (fun v2 h2 => ?_)
    rw [z_R_readDeed_66]
    exact Rn.ret h2
  · rw [if_neg (by decide), if_neg (by decide), if_neg (by decide), if_pos rfl, z_R_readDeed_34]
    simp only [h.tg, ↓reduceIte]
    refine Rn.ri (o_number H (lo := 0) (hi := 5) (by omega) (by omega) (by omega) h) (fun x1 v1 hv => ?_)
    obtain ⟨rfl, h1⟩ := hv
    simp only [h1.tg, ↓reduceIte]
    refine (o_par H (k := 207) (w := 208) (l2 := 0) (h2 := 255) (by omega) (by omega) (by omega) (by omega) hlen (by omega) h1).rv (fun v2 h2 => ?_)
    rw [z_R_readDeed_66]
    exact Rn.ret h2
  · rw [if_neg (by decide), if_neg (by decide), if_neg (by decide), if_neg (by decide), if_pos rfl, z_R_readDeed_45]
    simp only [h.tg, ↓reduceIte]
    refine Rn.ri (o_number H (lo := 0) (hi := 9) (by omega) (by omega) (by omega) h) (fun x1 v1 hv => ?_)
    obtain ⟨rfl, h1⟩ := hv
    simp only [h1.tg, ↓reduceIte]
    refine (o_par H (k := 209) (w := 210) (l2 := 0) (h2 := 5) (by omega) (by omega) (by omega) (by omega) hlen (by omega) h1).rv (fun v2 h2 => ?_)
    rw [z_R_readDeed_66]
    exact Rn.ret h2
  · rw [if_neg (by decide), if_neg (by decide), if_neg (by decide), if_neg (by decide), if_neg (by decide), z_R_readDeed_56]
    simp only [h.tg, ↓h.r1, ↓reduceIte]
    refine Rn.ri (o_number H (lo := 0) (hi := 9) (by omega) (by omega) (by omega) h) (fun x1 v1 hv => ?_)
    obtain ⟨rfl, h1⟩ := hv
    simp only [h1.tT H.2.1, ↓reduceIte]
    refine (o_addC H (k := 211) (s := 0) (by omega) hlen (by omega) h1).rv (fun v2 h2 => ?_)
    rw [z_R_readDeed_66]
    exact Rn.ret h2
theorem s_isDeed (d : Nat) (u : sm_M) {k : Nat} (hk : k < 222) : sm_call (d + 1) 69 [.int (nI k)] u = some (some (.int (if isB k = true then 1 else 0)), u) := by
  rw [k_R_isDeed]
  by_cases h : isB k = true
  · rw [if_pos h]
    unfold isB at h
    simp only [Bool.or_eq_true, decide_eq_true_eq] at h
    rcases h with rfl | rfl | rfl | rfl | rfl | rfl
    all_goals simp -implicitDefEqProofs (disch := first | assumption | exact Ly.wI (by assumption) | omega) only [↓reduceIte, rr_s, ri_s, rl_s, rv_s, ↓lt_s1, ↓rr_s, ↓ri_s, ↓rl_s, ↓rv_s, wI_tg, wI_ln, wI_rf, zr0, zr1, emn, bz0, bz1, oi, nI_add, nI_mul, nI_clamp, nI_leI, nI_ltI, nI_eq, nI_lt0, ne_m1, m1_ne, m1_le, m1_lt, le_m1, lt_m1, not_true_eq_false, not_false_eq_true, true_and, and_true, false_and, and_false, or_true, true_or, or_false, false_or, and_self, Nat.zero_le, ite_self, Bool.false_eq_true, e10, e01, nI_eq0, nI_eq1, nI_ge0, m1_ge0, m1_lt0, nne, nle, yle, nlt, ylt, yt_0, yt_1, yt_2, yt_3, yl_3, yt_4, yl_4, yt_5, yt_6, yl_6, yt_97, yl_97, yt_98, yl_98, yt_99, yl_99, yt_100, yl_100, yt_101, yl_101, yt_102, yl_102, yt_103, yt_114, yt_115, yt_116, yl_116, yt_117, yl_117, yt_118, yt_119, yl_119, yt_210, yl_210, yt_211, yl_211, yt_212, yl_212, yt_213, yl_213, yt_214, yl_214, yt_215, yl_215, yt_216, yt_227, yt_228, yl_228, yt_229, yl_229, yt_230, yl_230, yt_231, yl_231, yt_232, yt_233, yt_234, yl_234, yt_235, yl_235, yt_236, yt_237, yl_237, yt_238, yl_238, yt_239, yl_239, yt_240, yl_240, yt_241, yl_241, yt_242, yl_242, yt_243, yt_244, yl_244, yt_245, yl_245, yt_246, yl_246, yt_247, yl_247, yt_248, yl_248, yt_249, yl_249, yt_250, yt_251, yl_251, yt_252, yl_252, yt_253, yl_253, yt_254, yl_254, yt_255, yl_255, yt_256, yl_256, yt_257, yt_258, yl_258, yt_259, yl_259, yt_260, yl_260, yt_261, yl_261, yt_262, yl_262, yt_263, yl_263, yt_264, yt_265, yl_265, yt_266, yl_266, yt_267, yl_267, yt_268, yt_269, yl_269, yt_270, yl_270, yt_271, yt_272, yl_272, yt_273, yl_273, yt_274, yl_274, yt_275, yt_276, yl_276, yt_277, yl_277, yt_278, yl_278, yt_279, yl_279, yt_280, yl_280, yt_281, yl_281, yt_282, yl_282, yt_283, yl_283, yt_284, yl_284, yt_285, yl_285, yt_286, yl_286, yt_287, yl_287, yt_288, yl_288, yt_289, yl_289, yt_290, yl_290, yt_291, yl_291, yt_292, yl_292, yt_293, yl_293, yr_0_0, yr_0_1, yr_0_2, yr_0_3, yr_0_4, yr_0_5, yr_0_6, yr_0_7, yr_1_0, yr_1_1, yr_1_2, yr_1_3, yr_1_4, yr_1_5, yr_1_6, yr_1_7, yr_1_8, yr_2_5, yr_2_6, yr_5_0, yr_114_0, yr_114_1, yr_114_2, yr_114_3, yr_114_4, yr_114_5, yr_114_6, yr_114_7, yr_114_8, yr_115_5, yr_115_6, yr_118_0, yr_227_0, yr_227_1, yr_227_2, yr_227_3, yr_232_0, yr_233_0, yr_233_1, yr_233_2, yr_236_0, yr_236_1, yr_236_2, yr_236_3, yr_236_4, yr_236_5, yr_243_0, yr_243_1, yr_243_2, yr_243_3, yr_243_4, yr_243_5, yr_250_0, yr_250_1, yr_250_2, yr_250_3, yr_250_4, yr_250_5, yr_257_0, yr_257_1, yr_257_2, yr_257_3, yr_257_4, yr_257_5, yr_264_0, yr_264_1, yr_264_2, yr_264_3, yr_264_4, yr_268_0, yr_268_1, yr_268_2, yr_268_3, yr_271_0, yr_271_1, yr_271_2, yr_271_3, yr_271_4, yr_275_0, yr_275_1, yr_275_2, yr_275_3, yr_275_15, yr_275_16, yr_275_22, yr_275_23, yr_275_24, yr_275_25, yr_275_26, yr_275_27, yr_275_28, yr_275_29, yr_275_30, yr_275_31, yr_275_32, yr_275_33, ↓yk_0_0, ↓yk_0_1, ↓yk_0_2, ↓yk_0_3, ↓yk_0_4, ↓yk_0_5, ↓yk_0_6, ↓yk_0_7, ↓yk_1_0, ↓yk_1_1, ↓yk_1_2, ↓yk_1_3, ↓yk_1_4, ↓yk_1_5, ↓yk_1_6, ↓yk_1_7, ↓yk_1_8, ↓yk_2_5, ↓yk_2_6, ↓yk_5_0, ↓yk_114_0, ↓yk_114_1, ↓yk_114_2, ↓yk_114_3, ↓yk_114_4, ↓yk_114_5, ↓yk_114_6, ↓yk_114_7, ↓yk_114_8, ↓yk_115_5, ↓yk_115_6, ↓yk_118_0, ↓yk_227_0, ↓yk_227_1, ↓yk_227_2, ↓yk_227_3, ↓yk_232_0, ↓yk_233_0, ↓yk_233_1, ↓yk_233_2, ↓yk_236_0, ↓yk_236_1, ↓yk_236_2, ↓yk_236_3, ↓yk_236_4, ↓yk_236_5, ↓yk_243_0, ↓yk_243_1, ↓yk_243_2, ↓yk_243_3, ↓yk_243_4, ↓yk_243_5, ↓yk_250_0, ↓yk_250_1, ↓yk_250_2, ↓yk_250_3, ↓yk_250_4, ↓yk_250_5, ↓yk_257_0, ↓yk_257_1, ↓yk_257_2, ↓yk_257_3, ↓yk_257_4, ↓yk_257_5, ↓yk_264_0, ↓yk_264_1, ↓yk_264_2, ↓yk_264_3, ↓yk_264_4, ↓yk_268_0, ↓yk_268_1, ↓yk_268_2, ↓yk_268_3, ↓yk_271_0, ↓yk_271_1, ↓yk_271_2, ↓yk_271_3, ↓yk_271_4, ↓yk_275_0, ↓yk_275_1, ↓yk_275_2, ↓yk_275_3, ↓yk_275_15, ↓yk_275_16, ↓yk_275_22, ↓yk_275_23, ↓yk_275_24, ↓yk_275_25, ↓yk_275_26, ↓yk_275_27, ↓yk_275_28, ↓yk_275_29, ↓yk_275_30, ↓yk_275_31, ↓yk_275_32, ↓yk_275_33, in_3, in_4, in_97, in_99, in_100, in_101, in_102, in_116, in_117, in_210, in_212, in_213, in_214, in_215, in_228, in_229, in_230, in_231, in_235, in_237, in_238, in_239, in_240, in_241, in_242, in_244, in_245, in_246, in_247, in_248, in_249, in_251, in_252, in_253, in_254, in_255, in_256, in_258, in_259, in_260, in_261, in_262, in_263, in_265, in_266, in_267, in_269, in_270, in_272, in_273, in_274, in_276, in_277, in_278, in_279, in_280, in_281, in_282, in_283, in_284, in_285, in_286, in_287, in_288, in_289, in_290, in_291, in_292, in_293, ia_6, ia_98, ia_119, ia_211, ia_234, z_R_isDeed_0, z_R_isDeed_2, z_R_isDeed_4]
    all_goals rfl
  · rw [if_neg h]
    unfold isB at h
    simp only [Bool.or_eq_true, decide_eq_true_eq, not_or] at h
    obtain ⟨g1, g2, g3, g4, g5, g6⟩ := h
    simp -implicitDefEqProofs (disch := first | assumption | exact Ly.wI (by assumption) | omega) only [↓reduceIte, rr_s, ri_s, rl_s, rv_s, ↓lt_s1, ↓rr_s, ↓ri_s, ↓rl_s, ↓rv_s, wI_tg, wI_ln, wI_rf, zr0, zr1, emn, bz0, bz1, oi, nI_add, nI_mul, nI_clamp, nI_leI, nI_ltI, nI_eq, nI_lt0, ne_m1, m1_ne, m1_le, m1_lt, le_m1, lt_m1, not_true_eq_false, not_false_eq_true, true_and, and_true, false_and, and_false, or_true, true_or, or_false, false_or, and_self, Nat.zero_le, ite_self, Bool.false_eq_true, e10, e01, nI_eq0, nI_eq1, nI_ge0, m1_ge0, m1_lt0, nne, nle, yle, nlt, ylt, yt_0, yt_1, yt_2, yt_3, yl_3, yt_4, yl_4, yt_5, yt_6, yl_6, yt_97, yl_97, yt_98, yl_98, yt_99, yl_99, yt_100, yl_100, yt_101, yl_101, yt_102, yl_102, yt_103, yt_114, yt_115, yt_116, yl_116, yt_117, yl_117, yt_118, yt_119, yl_119, yt_210, yl_210, yt_211, yl_211, yt_212, yl_212, yt_213, yl_213, yt_214, yl_214, yt_215, yl_215, yt_216, yt_227, yt_228, yl_228, yt_229, yl_229, yt_230, yl_230, yt_231, yl_231, yt_232, yt_233, yt_234, yl_234, yt_235, yl_235, yt_236, yt_237, yl_237, yt_238, yl_238, yt_239, yl_239, yt_240, yl_240, yt_241, yl_241, yt_242, yl_242, yt_243, yt_244, yl_244, yt_245, yl_245, yt_246, yl_246, yt_247, yl_247, yt_248, yl_248, yt_249, yl_249, yt_250, yt_251, yl_251, yt_252, yl_252, yt_253, yl_253, yt_254, yl_254, yt_255, yl_255, yt_256, yl_256, yt_257, yt_258, yl_258, yt_259, yl_259, yt_260, yl_260, yt_261, yl_261, yt_262, yl_262, yt_263, yl_263, yt_264, yt_265, yl_265, yt_266, yl_266, yt_267, yl_267, yt_268, yt_269, yl_269, yt_270, yl_270, yt_271, yt_272, yl_272, yt_273, yl_273, yt_274, yl_274, yt_275, yt_276, yl_276, yt_277, yl_277, yt_278, yl_278, yt_279, yl_279, yt_280, yl_280, yt_281, yl_281, yt_282, yl_282, yt_283, yl_283, yt_284, yl_284, yt_285, yl_285, yt_286, yl_286, yt_287, yl_287, yt_288, yl_288, yt_289, yl_289, yt_290, yl_290, yt_291, yl_291, yt_292, yl_292, yt_293, yl_293, yr_0_0, yr_0_1, yr_0_2, yr_0_3, yr_0_4, yr_0_5, yr_0_6, yr_0_7, yr_1_0, yr_1_1, yr_1_2, yr_1_3, yr_1_4, yr_1_5, yr_1_6, yr_1_7, yr_1_8, yr_2_5, yr_2_6, yr_5_0, yr_114_0, yr_114_1, yr_114_2, yr_114_3, yr_114_4, yr_114_5, yr_114_6, yr_114_7, yr_114_8, yr_115_5, yr_115_6, yr_118_0, yr_227_0, yr_227_1, yr_227_2, yr_227_3, yr_232_0, yr_233_0, yr_233_1, yr_233_2, yr_236_0, yr_236_1, yr_236_2, yr_236_3, yr_236_4, yr_236_5, yr_243_0, yr_243_1, yr_243_2, yr_243_3, yr_243_4, yr_243_5, yr_250_0, yr_250_1, yr_250_2, yr_250_3, yr_250_4, yr_250_5, yr_257_0, yr_257_1, yr_257_2, yr_257_3, yr_257_4, yr_257_5, yr_264_0, yr_264_1, yr_264_2, yr_264_3, yr_264_4, yr_268_0, yr_268_1, yr_268_2, yr_268_3, yr_271_0, yr_271_1, yr_271_2, yr_271_3, yr_271_4, yr_275_0, yr_275_1, yr_275_2, yr_275_3, yr_275_15, yr_275_16, yr_275_22, yr_275_23, yr_275_24, yr_275_25, yr_275_26, yr_275_27, yr_275_28, yr_275_29, yr_275_30, yr_275_31, yr_275_32, yr_275_33, ↓yk_0_0, ↓yk_0_1, ↓yk_0_2, ↓yk_0_3, ↓yk_0_4, ↓yk_0_5, ↓yk_0_6, ↓yk_0_7, ↓yk_1_0, ↓yk_1_1, ↓yk_1_2, ↓yk_1_3, ↓yk_1_4, ↓yk_1_5, ↓yk_1_6, ↓yk_1_7, ↓yk_1_8, ↓yk_2_5, ↓yk_2_6, ↓yk_5_0, ↓yk_114_0, ↓yk_114_1, ↓yk_114_2, ↓yk_114_3, ↓yk_114_4, ↓yk_114_5, ↓yk_114_6, ↓yk_114_7, ↓yk_114_8, ↓yk_115_5, ↓yk_115_6, ↓yk_118_0, ↓yk_227_0, ↓yk_227_1, ↓yk_227_2, ↓yk_227_3, ↓yk_232_0, ↓yk_233_0, ↓yk_233_1, ↓yk_233_2, ↓yk_236_0, ↓yk_236_1, ↓yk_236_2, ↓yk_236_3, ↓yk_236_4, ↓yk_236_5, ↓yk_243_0, ↓yk_243_1, ↓yk_243_2, ↓yk_243_3, ↓yk_243_4, ↓yk_243_5, ↓yk_250_0, ↓yk_250_1, ↓yk_250_2, ↓yk_250_3, ↓yk_250_4, ↓yk_250_5, ↓yk_257_0, ↓yk_257_1, ↓yk_257_2, ↓yk_257_3, ↓yk_257_4, ↓yk_257_5, ↓yk_264_0, ↓yk_264_1, ↓yk_264_2, ↓yk_264_3, ↓yk_264_4, ↓yk_268_0, ↓yk_268_1, ↓yk_268_2, ↓yk_268_3, ↓yk_271_0, ↓yk_271_1, ↓yk_271_2, ↓yk_271_3, ↓yk_271_4, ↓yk_275_0, ↓yk_275_1, ↓yk_275_2, ↓yk_275_3, ↓yk_275_15, ↓yk_275_16, ↓yk_275_22, ↓yk_275_23, ↓yk_275_24, ↓yk_275_25, ↓yk_275_26, ↓yk_275_27, ↓yk_275_28, ↓yk_275_29, ↓yk_275_30, ↓yk_275_31, ↓yk_275_32, ↓yk_275_33, in_3, in_4, in_97, in_99, in_100, in_101, in_102, in_116, in_117, in_210, in_212, in_213, in_214, in_215, in_228, in_229, in_230, in_231, in_235, in_237, in_238, in_239, in_240, in_241, in_242, in_244, in_245, in_246, in_247, in_248, in_249, in_251, in_252, in_253, in_254, in_255, in_256, in_258, in_259, in_260, in_261, in_262, in_263, in_265, in_266, in_267, in_269, in_270, in_272, in_273, in_274, in_276, in_277, in_278, in_279, in_280, in_281, in_282, in_283, in_284, in_285, in_286, in_287, in_288, in_289, in_290, in_291, in_292, in_293, ia_6, ia_98, ia_119, ia_211, ia_234, z_R_isDeed_0, z_R_isDeed_2, z_R_isDeed_4, g1, g2, g3, g4, g5, g6]
    all_goals rfl
theorem s_isDeed_k (d : Nat) (u : sm_M) {k : Nat} (hk : k < 222) (f : Int32 → sm_M → sm_R) : sm_ri (sm_call (d + 1) 69 [.int (nI k)] u) f = f (if isB k = true then 1 else 0) u := by
  rw [s_isDeed d u hk]
  rfl
/-- a clause -/
def claF (b : Nat → Nat) (n k : Nat) (p : Cls × Rst) : Cls × Rst :=
  if ¬ (k = 200 ∨ k = 201) ∧ ¬ isB k = true then (p.1, rfs 1 p.2)
  else if k = 201 ∧ limc p.1 = true ∨ k = 200 ∧ 10 ≤ evc p.1 then (p.1, rfs 4 p.2)
  else if 24 ≤ p.1.length then (p.1, rfs 6 p.2)
  else if k = 200 ∨ k = 201 then (p.1 ++ [(k, (adv b n p.2).2.2.2.length, (whF b n (lvl b n (evc p.1) 8 3) (adv b n p.2)).2.2.2.length)], exq b n 59 (whF b n (lvl b n (evc p.1) 8 3) (adv b n p.2)))
  else (p.1 ++ [(k, (dedF b n k (adv b n p.2)).1)], exq b n 59 (dedF b n k (adv b n p.2)).2)
theorem o_cla {u0 : sm_M} {b : Nat → Nat} {n t : Nat} {cl : Cls} (H : Cx u0 b n t) {k : Nat} (hk : k < 222) {D : Nat} (hD : 175 ≤ D) {u : sm_M} {σ : Rst} (h : CS u0 b n t cl u σ) : Rn (sm_call D 68 [.ref 232, .int (nI k)] u) (fun x => CS u0 b n t (claF b n k (cl, σ)).1 x (claF b n k (cl, σ)).2) := by
  obtain ⟨D, rfl⟩ : ∃ k, D = k + 1 := ⟨D - 1, by omega⟩
  obtain ⟨⟨hu, hr⟩, hf, ⟨hp, e2⟩, ⟨e3, l3⟩, e4, ⟨e8, l8, hT⟩, ⟨c1, c2, c3, c4, c5, c6⟩⟩ := id h
  have hev := evc_le cl
  have f78 : ∀ (m : Nat) (v : sm_M) (x : Int32) (o3 : Option Value) (cl' : Cls) (σ' : Rst), CS u0 b n t cl' v σ' → Rn (sm_run (sm_call D) c_R_readClause (m + 1) 78 [some (.ref 232), some (.int (nI k)), some (.int x), o3] [] v) (fun v => CS u0 b n t cl' v σ') := by
    intro m v x o3 cl' σ' hv
    rw [z_R_readClause_78]
    exact Rn.ret hv
  -- from 42 on
  have f42 : ∀ (m : Nat) (law : Bool), (law = true ↔ k = 200 ∨ k = 201) → (law = false → isB k = true) → ¬ (k = 201 ∧ limc cl = true ∨ k = 200 ∧ 10 ≤ evc cl) → Rn (sm_run (sm_call D) c_R_readClause (m + 5) 42 [some (.ref 232), some (.int (nI k)), some (.int (if law = true then 1 else 0)), none] [] u) (fun x => CS u0 b n t (claF b n k (cl, σ)).1 x (claF b n k (cl, σ)).2) := by
    intro m law hlaw hB hno
    have hn1 : ¬ (¬ (k = 200 ∨ k = 201) ∧ ¬ isB k = true) := by
      cases hl : law with
      | true => exact fun z => z.1 (hlaw.mp hl)
      | false => exact fun z => z.2 (hB hl)
    unfold claF
    rw [if_neg hn1, if_neg hno, z_R_readClause_42]
    simp only [h.tg, ↓h.r1, h.tT H.2.1, c1, ↓reduceIte]
    by_cases q : 24 ≤ cl.length
    · rw [if_pos q, if_neg (fun z => by have := (nI_ltI (by omega) (by omega)).mp z; omega)]
      refine (o_refuse H (k := 6) (by omega) D (by omega) u σ h).rv (fun v1 h1 => ?_)
      exact f78 _ _ _ _ _ _ h1
    · rw [if_neg q, if_pos (nI_lt (by omega) (by decide)), z_R_readClause_51]
      simp only [h.tg, ↓reduceIte]
      refine (o_goOn H D (by omega) u σ h).rv (fun v1 h1 => ?_)
      have f74 : ∀ (m : Nat) (v : sm_M) (o3 : Option Value) (cl' : Cls) (σ' : Rst), CS u0 b n t cl' v σ' → Rn (sm_run (sm_call D) c_R_readClause (m + 2) 74 [some (.ref 232), some (.int (nI k)), some (.int (if law = true then 1 else 0)), o3] [] v) (fun v => CS u0 b n t cl' v (exq b n 59 σ')) := by
        intro m v o3 cl' σ' hv
        rw [z_R_readClause_74]
        simp only [hv.tg, ↓reduceIte]
        refine (o_expect H (c := 59) (by omega) D (by omega) v σ' hv).rv (fun v1 h1 => ?_)
        exact f78 _ _ _ _ _ _ h1
      cases hl : law with
      | true =>
        rw [hl] at f74
        rw [if_pos (hlaw.mp hl), if_pos rfl, if_neg (by decide)]
        have e81 := h1.2.2.2.2.2.1.1
        simp only [h1.tg, ↓h1.r1, h1.tT H.2.1, e81, ↓reduceIte]
        refine (o_wh H D (by omega) v1 _ h1).rv (fun v2 h2 => ?_)
        have e82 := h2.2.2.2.2.2.1.1
        simp only [h2.tg, ↓h2.r1, h2.tT H.2.1, e82, ↓reduceIte]
        refine (o_addC H hk (by omega) (by omega) h2).rv (fun v3 h3 => ?_)
        exact f74 _ _ _ _ _ h3
      | false =>
        rw [hl] at f74
        have hnl : ¬ (k = 200 ∨ k = 201) := fun z => by rw [hlaw.mpr z] at hl; cases hl
        rw [if_neg hnl, if_neg (show ¬ (false = true) by simp), if_pos (show (0 : Int32) = 0 from rfl), z_R_readClause_70]
        simp only [h1.tg, ↓reduceIte]
        refine (o_ded H (hB hl) (by omega) (by omega) h1).rv (fun v2 h2 => ?_)
        exact f74 _ _ _ _ _ h2
  -- from 21 on
  have f21 : ∀ (m : Nat) (law : Bool), (law = true ↔ k = 200 ∨ k = 201) → (law = false → isB k = true) → Rn (sm_run (sm_call D) c_R_readClause (m + 7) 21 [some (.ref 232), some (.int (nI k)), some (.int (if law = true then 1 else 0)), none] [] u) (fun x => CS u0 b n t (claF b n k (cl, σ)).1 x (claF b n k (cl, σ)).2) := by
    intro m law hlaw hB
    have hn1 : ¬ (¬ (k = 200 ∨ k = 201) ∧ ¬ isB k = true) := by
      cases hl : law with
      | true => exact fun z => z.1 (hlaw.mp hl)
      | false => exact fun z => z.2 (hB hl)
    have f38 : ∀ m, (k = 201 ∧ limc cl = true ∨ k = 200 ∧ 10 ≤ evc cl) → Rn (sm_run (sm_call D) c_R_readClause (m + 2) 38 [some (.ref 232), some (.int (nI k)), some (.int (if law = true then 1 else 0)), none] [] u) (fun x => CS u0 b n t (claF b n k (cl, σ)).1 x (claF b n k (cl, σ)).2) := by
      intro m hyes
      unfold claF
      rw [if_neg hn1, if_pos hyes, z_R_readClause_38]
      simp only [h.tg, ↓reduceIte]
      refine (o_refuse H (k := 4) (by omega) D (by omega) u σ h).rv (fun v1 h1 => ?_)
      exact f78 _ _ _ _ _ _ h1
    have f29 : ∀ m, ¬ (k = 201 ∧ limc cl = true) → Rn (sm_run (sm_call D) c_R_readClause (m + 6) 29 [some (.ref 232), some (.int (nI k)), some (.int (if law = true then 1 else 0)), none] [] u) (fun x => CS u0 b n t (claF b n k (cl, σ)).1 x (claF b n k (cl, σ)).2) := by
      intro m hno
      rw [z_R_readClause_29]
      by_cases q : k = 200
      · rw [if_pos (by rw [q])]
        simp only [h.tg, ↓h.r1, h.tT H.2.1, c3, ↓reduceIte]
        by_cases q2 : 10 ≤ evc cl
        · rw [if_neg (fun z => by have := (nI_ltI (by omega) (by omega)).mp z; omega)]
          exact f38 _ (Or.inr ⟨q, q2⟩)
        · rw [if_pos (nI_lt (by omega) (by decide))]
          exact f42 _ law hlaw hB (fun z => z.elim hno (fun y => q2 y.2))
      · rw [if_neg (fun z => q ((nI_eq (by omega) (by omega)).mp z))]
        exact f42 _ law hlaw hB (fun z => z.elim hno (fun y => q y.1))
    rw [z_R_readClause_21]
    by_cases q : k = 201
    · rw [if_pos (by rw [q])]
      simp only [h.tg, ↓h.r1, h.tT H.2.1, c4, ↓reduceIte]
      cases hm : limc cl with
      | true =>
        rw [if_pos rfl, if_neg (by decide)]
        exact f38 _ (Or.inl ⟨q, hm⟩)
      | false =>
        rw [if_neg (show ¬ (false = true) by simp), if_pos (show (0 : Int32) = 0 from rfl)]
        exact f29 _ (fun z => by rw [hm] at z; cases z.2)
    · rw [if_neg (fun z => q ((nI_eq (by omega) (by omega)).mp z))]
      exact f29 _ (fun z => q z.1)
  rw [k_R_readClause, z_R_readClause_0]
  obtain ⟨D, rfl⟩ : ∃ k, D = k + 1 := ⟨D - 1, by omega⟩
  by_cases q1 : k = 200
  · rw [if_pos (by rw [q1]), z_R_readClause_7, z_R_readClause_11, if_neg (by decide)]
    exact f21 _ true ⟨fun _ => Or.inl q1, fun _ => rfl⟩ (fun z => by cases z)
  · rw [if_neg (fun z => q1 ((nI_eq (by omega) (by omega)).mp z))]
    by_cases q2 : k = 201
    · rw [if_pos (by rw [q2]), z_R_readClause_7, z_R_readClause_11, if_neg (by decide)]
      exact f21 _ true ⟨fun _ => Or.inr q2, fun _ => rfl⟩ (fun z => by cases z)
    · rw [if_neg (fun z => q2 ((nI_eq (by omega) (by omega)).mp z)), z_R_readClause_9, z_R_readClause_11, if_pos (show nI 0 = 0 from rfl)]
      have kd : ∀ g, sm_ri (sm_call (D + 1) 69 [.int (nI k)] u) g = g (if isB k = true then 1 else 0) u := fun g => by rw [s_isDeed D u hk]; rfl
      rw [kd]
      by_cases q3 : isB k = true
      · rw [if_pos q3, if_neg (by decide)]
        exact f21 _ false ⟨fun z => (by cases z), fun z => (by omega)⟩ (fun _ => q3)
      · rw [if_neg q3, if_pos rfl]
        simp only [h.tg, ↓reduceIte]
        unfold claF
        rw [if_pos ⟨fun z => by omega, q3⟩]
        refine (o_refuse H (k := 1) (by omega) (D + 1) (by omega) u σ h).rv (fun v1 h1 => ?_)
        exact f78 _ _ _ _ _ _ h1
/-- all clauses -/
def rdL (b : Nat → Nat) (n : Nat) : Nat → Cls × Rst → Cls × Rst
  | 0, p => p
  | j + 1, p => if kn b n p.2 = 1 ∨ ¬ p.2.2.1 = 0 then p else rdL b n j (claF b n (kn b n p.2) p)
theorem l_read {u0 : sm_M} {b : Nat → Nat} {n t : Nat} (H : Cx u0 b n t) {D : Nat} (hD : 175 ≤ D + 1) : ∀ (j i m : Nat) (cl : Cls) (u : sm_M) (σ : Rst), i + j = 25 → CS u0 b n t cl u σ → j + 4 ≤ m → Ri (sm_run (sm_call (D + 1)) c_R_read m 25 [some (.ref 232), some (.ref (236 + 7 * t)), some (.int (nI i))] [] u) (fun x v => CS u0 b n t (rdL b n j (cl, σ)).1 v (rdL b n j (cl, σ)).2 ∧ x = (if (rdL b n j (cl, σ)).2.2.1 = 0 then 1 else 0)) := by
  have fin : ∀ (m : Nat) (x : Int32) (cl : Cls) (u : sm_M) (σ : Rst), CS u0 b n t cl u σ → Ri (sm_run (sm_call (D + 1)) c_R_read (m + 3) 41 [some (.ref 232), some (.ref (236 + 7 * t)), some (.int x)] [] u) (fun x v => CS u0 b n t cl v σ ∧ x = (if σ.2.1 = 0 then 1 else 0)) := by
    intro m x cl u σ h
    have e3 := h.2.2.2.1.1
    have l3 := h.2.2.2.1.2
    rw [z_R_read_41]
    simp only [h.tg, e3, ↓reduceIte]
    by_cases q : σ.2.1 = 0
    · rw [q, if_pos (show nI 0 = 0 from rfl), z_R_read_48, if_pos (show nI 1 = 0 ∨ nI 1 = 1 from Or.inr rfl)]
      exact Ri.ret ⟨h, (if_pos rfl).symm⟩
    · rw [if_neg (show ¬ nI σ.2.1 = 0 from fun z => q ((nI_eq (b := 0) (by omega) (by omega)).mp z)), z_R_read_46, z_R_read_48, if_pos (show nI 0 = 0 ∨ nI 0 = 1 from Or.inl rfl)]
      exact Ri.ret ⟨h, (if_neg q).symm⟩
  intro j
  induction j with
  | zero =>
    intro i m cl u σ hi h hm
    obtain ⟨m, rfl⟩ : ∃ k, m = k + 4 := ⟨m - 4, by omega⟩
    have hi : i = 25 := hi
    subst hi
    rw [z_R_read_25, if_pos (by decide)]
    exact fin m _ cl u σ h
  | succ j ih =>
    intro i m cl u σ hi h hm
    obtain ⟨m, rfl⟩ : ∃ k, m = k + 4 := ⟨m - 4, by omega⟩
    have hl := kn_lt (b := b) (n := n) (σ := σ)
    have e3 := h.2.2.2.1.1
    have l3 := h.2.2.2.1.2
    have e0 : rdL b n (j + 1) (cl, σ) = if kn b n σ = 1 ∨ ¬ σ.2.1 = 0 then (cl, σ) else rdL b n j (claF b n (kn b n σ) (cl, σ)) := rfl
    rw [z_R_read_25, if_neg (fun z => by have := (nI_ltI (by omega) (by omega)).mp z; omega)]
    simp only [h.tg, ↓reduceIte, c_kind H h D]
    by_cases q1 : kn b n σ = 1
    · rw [e0, if_pos (Or.inl q1), q1, if_pos rfl]
      exact fin (m) _ cl u σ h
    · rw [if_neg (fun z => q1 ((nI_eq (by omega) (by omega)).mp z))]
      simp only [e3]
      by_cases q2 : σ.2.1 = 0
      · rw [e0, if_neg (show ¬ (kn b n σ = 1 ∨ ¬ σ.2.1 = 0) from fun z => z.elim q1 (fun y => y q2)), q2, if_pos (show nI 0 = 0 from rfl)]
        refine Ri.rv (o_cla H hl (D := D + 1) hD h) (fun v1 h1 => ?_)
        rw [nI_add]
        exact ih (i + 1) (m + 3) _ v1 _ (by omega) h1 (by omega)
      · rw [e0, if_pos (show kn b n σ = 1 ∨ ¬ σ.2.1 = 0 from Or.inr q2), if_neg (show ¬ nI σ.2.1 = 0 from fun z => q2 ((nI_eq (b := 0) (by omega) (by omega)).mp z))]
        exact fin (m) _ cl u σ h
