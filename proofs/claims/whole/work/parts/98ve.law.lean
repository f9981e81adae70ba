/-! texts: what the reader of the class makes of a law (by wip/whole/mk_98ve.py) -/
theorem z_R_readProduct_6 (C : Nat → List Value → sm_M → sm_R) (n : Nat) (u : sm_M) (a0 : Nat) (v1 v2 : Int32) (o3 : Option Value) : sm_run C c_R_readProduct (n + 1) 6 [some (.ref a0), some (.int v1), some (.int v2), o3] [] u = if (nI 300) ≤ v2 then (sm_run C c_R_readProduct n 33 [some (.ref a0), some (.int v1), some (.int v2), o3] [] u) else (if sm_tg u a0 = 106 then (sm_ri (C 63 [.ref a0] u) (fun x2 u1 => if x2 = (nI 42) then (sm_run C c_R_readProduct n 18 [some (.ref a0), some (.int v1), some (.int v2), o3] [] u1) else (if sm_tg u1 a0 = 106 then (sm_ri (C 63 [.ref a0] u1) (fun x4 u3 => if x4 = (nI 47) then (sm_run C c_R_readProduct n 18 [some (.ref a0), some (.int v1), some (.int v2), o3] [] u3) else (sm_run C c_R_readProduct n 33 [some (.ref a0), some (.int v1), some (.int v2), o3] [] u3))) else none))) else none) := q_R_readProduct_6 C n u a0 v1 v2 o3
theorem z_R_readProduct_33 (C : Nat → List Value → sm_M → sm_R) (n : Nat) (u : sm_M) (a0 : Nat) (v1 v2 : Int32) (o3 : Option Value) : sm_run C c_R_readProduct (n + 1) 33 [some (.ref a0), some (.int v1), some (.int v2), o3] [] u = some (none, u) := q_R_readProduct_33 C n u a0 v1 v2 o3
theorem z_R_readProduct_18 (C : Nat → List Value → sm_M → sm_R) (n : Nat) (u : sm_M) (a0 : Nat) (v1 v2 : Int32) (o3 : Option Value) : sm_run C c_R_readProduct (n + 1) 18 [some (.ref a0), some (.int v1), some (.int v2), o3] [] u = if sm_tg u a0 = 106 then (sm_ri (C 63 [.ref a0] u) (fun x2 u1 => if sm_tg u1 a0 = 106 then (sm_rv (C 64 [.ref a0] u1) (fun u3 => if sm_tg u3 a0 = 106 then (sm_rv (C 81 [.ref a0, .int v1] u3) (fun u4 => if sm_tg u4 a0 = 106 then sm_rr (sm_Rf u4 a0 1) (fun q5 => if sm_tg u4 q5 = 102 then (sm_rv (C 17 [.ref q5, .int x2, .int (nI 0)] u4) (fun u6 => sm_run C c_R_readProduct n 6 [some (.ref a0), some (.int v1), some (.int (v2 + (nI 1))), some (.int x2)] [] u6)) else none) else none)) else none)) else none)) else none := q_R_readProduct_18 C n u a0 v1 v2 o3
theorem z_R_readProduct_0 (C : Nat → List Value → sm_M → sm_R) (n : Nat) (u : sm_M) (a0 : Nat) (v1 : Int32) : sm_run C c_R_readProduct (n + 1) 0 [some (.ref a0), some (.int v1), none, none] [] u = if sm_tg u a0 = 106 then (sm_rv (C 81 [.ref a0, .int v1] u) (fun u1 => sm_run C c_R_readProduct n 6 [some (.ref a0), some (.int v1), some (.int (nI 0)), none] [] u1)) else none := q_R_readProduct_0 C n u a0 v1
theorem z_R_readSum_6 (C : Nat → List Value → sm_M → sm_R) (n : Nat) (u : sm_M) (a0 : Nat) (v1 v2 : Int32) (o3 : Option Value) : sm_run C c_R_readSum (n + 1) 6 [some (.ref a0), some (.int v1), some (.int v2), o3] [] u = if (nI 300) ≤ v2 then (sm_run C c_R_readSum n 33 [some (.ref a0), some (.int v1), some (.int v2), o3] [] u) else (if sm_tg u a0 = 106 then (sm_ri (C 63 [.ref a0] u) (fun x2 u1 => if x2 = (nI 43) then (sm_run C c_R_readSum n 18 [some (.ref a0), some (.int v1), some (.int v2), o3] [] u1) else (if sm_tg u1 a0 = 106 then (sm_ri (C 63 [.ref a0] u1) (fun x4 u3 => if x4 = (nI 45) then (sm_run C c_R_readSum n 18 [some (.ref a0), some (.int v1), some (.int v2), o3] [] u3) else (sm_run C c_R_readSum n 33 [some (.ref a0), some (.int v1), some (.int v2), o3] [] u3))) else none))) else none) := q_R_readSum_6 C n u a0 v1 v2 o3
theorem z_R_readSum_33 (C : Nat → List Value → sm_M → sm_R) (n : Nat) (u : sm_M) (a0 : Nat) (v1 v2 : Int32) (o3 : Option Value) : sm_run C c_R_readSum (n + 1) 33 [some (.ref a0), some (.int v1), some (.int v2), o3] [] u = some (none, u) := q_R_readSum_33 C n u a0 v1 v2 o3
theorem z_R_readSum_18 (C : Nat → List Value → sm_M → sm_R) (n : Nat) (u : sm_M) (a0 : Nat) (v1 v2 : Int32) (o3 : Option Value) : sm_run C c_R_readSum (n + 1) 18 [some (.ref a0), some (.int v1), some (.int v2), o3] [] u = if sm_tg u a0 = 106 then (sm_ri (C 63 [.ref a0] u) (fun x2 u1 => if sm_tg u1 a0 = 106 then (sm_rv (C 64 [.ref a0] u1) (fun u3 => if sm_tg u3 a0 = 106 then (sm_rv (C 80 [.ref a0, .int v1] u3) (fun u4 => if sm_tg u4 a0 = 106 then sm_rr (sm_Rf u4 a0 1) (fun q5 => if sm_tg u4 q5 = 102 then (sm_rv (C 17 [.ref q5, .int x2, .int (nI 0)] u4) (fun u6 => sm_run C c_R_readSum n 6 [some (.ref a0), some (.int v1), some (.int (v2 + (nI 1))), some (.int x2)] [] u6)) else none) else none)) else none)) else none)) else none := q_R_readSum_18 C n u a0 v1 v2 o3
theorem z_R_readSum_0 (C : Nat → List Value → sm_M → sm_R) (n : Nat) (u : sm_M) (a0 : Nat) (v1 : Int32) : sm_run C c_R_readSum (n + 1) 0 [some (.ref a0), some (.int v1), none, none] [] u = if sm_tg u a0 = 106 then (sm_rv (C 80 [.ref a0, .int v1] u) (fun u1 => sm_run C c_R_readSum n 6 [some (.ref a0), some (.int v1), some (.int (nI 0)), none] [] u1)) else none := q_R_readSum_0 C n u a0 v1
theorem z_R_readBoth_6 (C : Nat → List Value → sm_M → sm_R) (n : Nat) (u : sm_M) (a0 : Nat) (v1 v2 : Int32) : sm_run C c_R_readBoth (n + 1) 6 [some (.ref a0), some (.int v1), some (.int v2)] [] u = if (nI 300) ≤ v2 then (sm_run C c_R_readBoth n 25 [some (.ref a0), some (.int v1), some (.int v2)] [] u) else (if sm_tg u a0 = 106 then (sm_ri (C 63 [.ref a0] u) (fun x2 u1 => if x2 = (nI 214) then (if sm_tg u1 a0 = 106 then (sm_rv (C 64 [.ref a0] u1) (fun u3 => if sm_tg u3 a0 = 106 then (sm_rv (C 75 [.ref a0, .int v1] u3) (fun u4 => if sm_tg u4 a0 = 106 then sm_rr (sm_Rf u4 a0 1) (fun q5 => if sm_tg u4 q5 = 102 then (sm_rv (C 17 [.ref q5, .int (nI 214), .int (nI 0)] u4) (fun u6 => sm_run C c_R_readBoth n 6 [some (.ref a0), some (.int v1), some (.int (v2 + (nI 1)))] [] u6)) else none) else none)) else none)) else none) else (sm_run C c_R_readBoth n 25 [some (.ref a0), some (.int v1), some (.int v2)] [] u1))) else none) := q_R_readBoth_6 C n u a0 v1 v2
theorem z_R_readBoth_25 (C : Nat → List Value → sm_M → sm_R) (n : Nat) (u : sm_M) (a0 : Nat) (v1 v2 : Int32) : sm_run C c_R_readBoth (n + 1) 25 [some (.ref a0), some (.int v1), some (.int v2)] [] u = some (none, u) := q_R_readBoth_25 C n u a0 v1 v2
theorem z_R_readBoth_0 (C : Nat → List Value → sm_M → sm_R) (n : Nat) (u : sm_M) (a0 : Nat) (v1 : Int32) : sm_run C c_R_readBoth (n + 1) 0 [some (.ref a0), some (.int v1), none] [] u = if sm_tg u a0 = 106 then (sm_rv (C 75 [.ref a0, .int v1] u) (fun u1 => sm_run C c_R_readBoth n 6 [some (.ref a0), some (.int v1), some (.int (nI 0))] [] u1)) else none := q_R_readBoth_0 C n u a0 v1
theorem z_R_readEither_6 (C : Nat → List Value → sm_M → sm_R) (n : Nat) (u : sm_M) (a0 : Nat) (v1 v2 : Int32) : sm_run C c_R_readEither (n + 1) 6 [some (.ref a0), some (.int v1), some (.int v2)] [] u = if (nI 300) ≤ v2 then (sm_run C c_R_readEither n 25 [some (.ref a0), some (.int v1), some (.int v2)] [] u) else (if sm_tg u a0 = 106 then (sm_ri (C 63 [.ref a0] u) (fun x2 u1 => if x2 = (nI 213) then (if sm_tg u1 a0 = 106 then (sm_rv (C 64 [.ref a0] u1) (fun u3 => if sm_tg u3 a0 = 106 then (sm_rv (C 74 [.ref a0, .int v1] u3) (fun u4 => if sm_tg u4 a0 = 106 then sm_rr (sm_Rf u4 a0 1) (fun q5 => if sm_tg u4 q5 = 102 then (sm_rv (C 17 [.ref q5, .int (nI 213), .int (nI 0)] u4) (fun u6 => sm_run C c_R_readEither n 6 [some (.ref a0), some (.int v1), some (.int (v2 + (nI 1)))] [] u6)) else none) else none)) else none)) else none) else (sm_run C c_R_readEither n 25 [some (.ref a0), some (.int v1), some (.int v2)] [] u1))) else none) := q_R_readEither_6 C n u a0 v1 v2
theorem z_R_readEither_25 (C : Nat → List Value → sm_M → sm_R) (n : Nat) (u : sm_M) (a0 : Nat) (v1 v2 : Int32) : sm_run C c_R_readEither (n + 1) 25 [some (.ref a0), some (.int v1), some (.int v2)] [] u = some (none, u) := q_R_readEither_25 C n u a0 v1 v2
theorem z_R_readEither_0 (C : Nat → List Value → sm_M → sm_R) (n : Nat) (u : sm_M) (a0 : Nat) (v1 : Int32) : sm_run C c_R_readEither (n + 1) 0 [some (.ref a0), some (.int v1), none] [] u = if sm_tg u a0 = 106 then (sm_rv (C 74 [.ref a0, .int v1] u) (fun u1 => sm_run C c_R_readEither n 6 [some (.ref a0), some (.int v1), some (.int (nI 0))] [] u1)) else none := q_R_readEither_0 C n u a0 v1
theorem z_R_readCompared_0 (C : Nat → List Value → sm_M → sm_R) (n : Nat) (u : sm_M) (a0 : Nat) (v1 : Int32) : sm_run C c_R_readCompared (n + 1) 0 [some (.ref a0), some (.int v1), none] [] u = if sm_tg u a0 = 106 then (sm_rv (C 79 [.ref a0, .int v1] u) (fun u1 => if sm_tg u1 a0 = 106 then (sm_ri (C 63 [.ref a0] u1) (fun x3 u2 => if x3 = (nI 3) then (sm_run C c_R_readCompared n 8 [some (.ref a0), some (.int v1), some (.int x3)] [] u2) else if x3 = (nI 4) then (sm_run C c_R_readCompared n 8 [some (.ref a0), some (.int v1), some (.int x3)] [] u2) else if x3 = (nI 35) then (sm_run C c_R_readCompared n 8 [some (.ref a0), some (.int v1), some (.int x3)] [] u2) else if x3 = (nI 60) then (sm_run C c_R_readCompared n 8 [some (.ref a0), some (.int v1), some (.int x3)] [] u2) else if x3 = (nI 61) then (sm_run C c_R_readCompared n 8 [some (.ref a0), some (.int v1), some (.int x3)] [] u2) else if x3 = (nI 62) then (sm_run C c_R_readCompared n 8 [some (.ref a0), some (.int v1), some (.int x3)] [] u2) else sm_run C c_R_readCompared n 19 [some (.ref a0), some (.int v1), some (.int x3)] [] u2)) else none)) else none := q_R_readCompared_0 C n u a0 v1
theorem z_R_readCompared_8 (C : Nat → List Value → sm_M → sm_R) (n : Nat) (u : sm_M) (a0 : Nat) (v1 v2 : Int32) : sm_run C c_R_readCompared (n + 1) 8 [some (.ref a0), some (.int v1), some (.int v2)] [] u = if sm_tg u a0 = 106 then (sm_rv (C 64 [.ref a0] u) (fun u1 => if sm_tg u1 a0 = 106 then (sm_rv (C 79 [.ref a0, .int v1] u1) (fun u2 => if sm_tg u2 a0 = 106 then sm_rr (sm_Rf u2 a0 1) (fun q3 => if sm_tg u2 q3 = 102 then (sm_rv (C 17 [.ref q3, .int v2, .int (nI 0)] u2) (fun u4 => sm_run C c_R_readCompared n 23 [some (.ref a0), some (.int v1), some (.int v2)] [] u4)) else none) else none)) else none)) else none := q_R_readCompared_8 C n u a0 v1 v2
theorem z_R_readCompared_23 (C : Nat → List Value → sm_M → sm_R) (n : Nat) (u : sm_M) (a0 : Nat) (v1 v2 : Int32) : sm_run C c_R_readCompared (n + 1) 23 [some (.ref a0), some (.int v1), some (.int v2)] [] u = some (none, u) := q_R_readCompared_23 C n u a0 v1 v2
theorem z_R_readCompared_19 (C : Nat → List Value → sm_M → sm_R) (n : Nat) (u : sm_M) (a0 : Nat) (v1 v2 : Int32) : sm_run C c_R_readCompared (n + 1) 19 [some (.ref a0), some (.int v1), some (.int v2)] [] u = if sm_tg u a0 = 106 then (sm_rv (C 65 [.ref a0, .int (nI 1)] u) (fun u1 => sm_run C c_R_readCompared n 23 [some (.ref a0), some (.int v1), some (.int v2)] [] u1)) else none := q_R_readCompared_19 C n u a0 v1 v2
theorem z_R_readCounted_34 (C : Nat → List Value → sm_M → sm_R) (n : Nat) (u : sm_M) (a0 : Nat) (v1 v2 v3 : Int32) : sm_run C c_R_readCounted (n + 1) 34 [some (.ref a0), some (.int v1), some (.int v2), some (.int v3)] [] u = if sm_tg u a0 = 106 then (sm_rv (C 66 [.ref a0, .int (nI 41)] u) (fun u1 => if sm_tg u1 a0 = 106 then sm_rr (sm_Rf u1 a0 1) (fun q2 => if sm_tg u1 q2 = 102 then (sm_rv (C 17 [.ref q2, .int (nI 218), .int v2] u1) (fun u3 => some (none, u3))) else none) else none)) else none := q_R_readCounted_34 C n u a0 v1 v2 v3
theorem z_R_readCounted_11 (C : Nat → List Value → sm_M → sm_R) (n : Nat) (u : sm_M) (a0 : Nat) (v1 v2 v3 : Int32) : sm_run C c_R_readCounted (n + 1) 11 [some (.ref a0), some (.int v1), some (.int v2), some (.int v3)] [] u = if (nI 6) ≤ v3 then (sm_run C c_R_readCounted n 34 [some (.ref a0), some (.int v1), some (.int v2), some (.int v3)] [] u) else (if sm_tg u a0 = 106 then (sm_ri (C 63 [.ref a0] u) (fun x2 u1 => if x2 = (nI 44) then (if v2 < (nI 6) then (sm_run C c_R_readCounted n 25 [some (.ref a0), some (.int v1), some (.int v2), some (.int v3)] [] u1) else (if sm_tg u1 a0 = 106 then (sm_rv (C 65 [.ref a0, .int (nI 7)] u1) (fun u3 => sm_run C c_R_readCounted n 32 [some (.ref a0), some (.int v1), some (.int v2), some (.int v3)] [] u3)) else none)) else (sm_run C c_R_readCounted n 34 [some (.ref a0), some (.int v1), some (.int v2), some (.int v3)] [] u1))) else none) := q_R_readCounted_11 C n u a0 v1 v2 v3
theorem z_R_readCounted_25 (C : Nat → List Value → sm_M → sm_R) (n : Nat) (u : sm_M) (a0 : Nat) (v1 v2 v3 : Int32) : sm_run C c_R_readCounted (n + 1) 25 [some (.ref a0), some (.int v1), some (.int v2), some (.int v3)] [] u = if sm_tg u a0 = 106 then (sm_rv (C 64 [.ref a0] u) (fun u1 => if sm_tg u1 a0 = 106 then (sm_rv (C 73 [.ref a0, .int v1] u1) (fun u2 => sm_run C c_R_readCounted n 32 [some (.ref a0), some (.int v1), some (.int (v2 + (nI 1))), some (.int v3)] [] u2)) else none)) else none := q_R_readCounted_25 C n u a0 v1 v2 v3
theorem z_R_readCounted_32 (C : Nat → List Value → sm_M → sm_R) (n : Nat) (u : sm_M) (a0 : Nat) (v1 v2 v3 : Int32) : sm_run C c_R_readCounted (n + 1) 32 [some (.ref a0), some (.int v1), some (.int v2), some (.int v3)] [] u = sm_run C c_R_readCounted n 11 [some (.ref a0), some (.int v1), some (.int v2), some (.int (v3 + (nI 1)))] [] u := q_R_readCounted_32 C n u a0 v1 v2 v3
theorem z_R_readCounted_0 (C : Nat → List Value → sm_M → sm_R) (n : Nat) (u : sm_M) (a0 : Nat) (v1 : Int32) : sm_run C c_R_readCounted (n + 1) 0 [some (.ref a0), some (.int v1), none, none] [] u = if sm_tg u a0 = 106 then (sm_rv (C 66 [.ref a0, .int (nI 40)] u) (fun u1 => if sm_tg u1 a0 = 106 then (sm_rv (C 73 [.ref a0, .int v1] u1) (fun u2 => sm_run C c_R_readCounted n 11 [some (.ref a0), some (.int v1), some (.int (nI 1)), some (.int (nI 0))] [] u2)) else none)) else none := q_R_readCounted_0 C n u a0 v1
theorem z_R_readCame_27 (C : Nat → List Value → sm_M → sm_R) (n : Nat) (u : sm_M) (a0 : Nat) (v1 : Int32) : sm_run C c_R_readCame (n + 1) 27 [some (.ref a0), some (.int v1)] [] u = if sm_tg u a0 = 106 then sm_rr (sm_Rf u a0 1) (fun q1 => if sm_tg u a0 = 106 then (sm_ri (C 67 [.ref a0, .int (nI 0), .int (nI 9)] u) (fun x3 u2 => if sm_tg u2 q1 = 102 then (sm_rv (C 17 [.ref q1, .int (nI 217), .int x3] u2) (fun u4 => sm_run C c_R_readCame n 36 [some (.ref a0), some (.int v1)] [] u4)) else none)) else none) else none := q_R_readCame_27 C n u a0 v1
theorem z_R_readCame_36 (C : Nat → List Value → sm_M → sm_R) (n : Nat) (u : sm_M) (a0 : Nat) (v1 : Int32) : sm_run C c_R_readCame (n + 1) 36 [some (.ref a0), some (.int v1)] [] u = some (none, u) := q_R_readCame_36 C n u a0 v1
theorem z_R_readCame_0 (C : Nat → List Value → sm_M → sm_R) (n : Nat) (u : sm_M) (a0 : Nat) : sm_run C c_R_readCame (n + 1) 0 [some (.ref a0), none] [] u = if sm_tg u a0 = 106 then (sm_ri (C 63 [.ref a0] u) (fun x2 u1 => if x2 = (nI 2) then (if sm_tg u1 a0 = 106 then sm_rr (sm_Rf u1 a0 0) (fun q3 => if sm_tg u1 q3 = 105 then sm_rr (sm_Rf u1 q3 3) (fun q4 => if sm_tg u1 a0 = 106 then (if sm_in u1 1 q4 (sm_I u1 a0 2) then (sm_run C c_R_readCame n 13 [some (.ref a0), none] [.int (sm_I u1 q4 (sm_I u1 a0 2).toNatClampNeg)] u1) else none) else none) else none) else none) else (sm_run C c_R_readCame n 11 [some (.ref a0), none] [] u1))) else none := q_R_readCame_0 C n u a0
theorem z_R_readCame_13 (C : Nat → List Value → sm_M → sm_R) (n : Nat) (u : sm_M) (a0 : Nat) (s0 : Int32) : sm_run C c_R_readCame (n + 1) 13 [some (.ref a0), none] [.int s0] u = sm_ri (C 195 [.int s0, .int (nI 10)] u) (fun x2 u1 => if x2 = 0 then (sm_run C c_R_readCame n 27 [some (.ref a0), some (.int s0)] [] u1) else (if sm_tg u1 a0 = 106 then sm_rr (sm_Rf u1 a0 1) (fun q3 => if sm_tg u1 q3 = 102 then (if s0 < (sm_I u1 q3 7) then (sm_run C c_R_readCame n 27 [some (.ref a0), some (.int s0)] [] u1) else (if sm_tg u1 a0 = 106 then (sm_rv (C 65 [.ref a0, .int (nI 5)] u1) (fun u4 => sm_run C c_R_readCame n 36 [some (.ref a0), some (.int s0)] [] u4)) else none)) else none) else none)) := q_R_readCame_13 C n u a0 s0
theorem z_R_readCame_11 (C : Nat → List Value → sm_M → sm_R) (n : Nat) (u : sm_M) (a0 : Nat) : sm_run C c_R_readCame (n + 1) 11 [some (.ref a0), none] [] u = sm_run C c_R_readCame n 13 [some (.ref a0), none] [.int (Int32.ofInt (-1))] u := q_R_readCame_11 C n u a0
theorem z_R_readOne_64 (C : Nat → List Value → sm_M → sm_R) (n : Nat) (u : sm_M) (a0 : Nat) (v1 v2 : Int32) : sm_run C c_R_readOne (n + 1) 64 [some (.ref a0), some (.int v1), some (.int v2)] [] u = some (none, u) := q_R_readOne_64 C n u a0 v1 v2
theorem z_R_readOne_0 (C : Nat → List Value → sm_M → sm_R) (n : Nat) (u : sm_M) (a0 : Nat) (v1 : Int32) : sm_run C c_R_readOne (n + 1) 0 [some (.ref a0), some (.int v1), none] [] u = if sm_tg u a0 = 106 then (sm_ri (C 63 [.ref a0] u) (fun x2 u1 => if x2 = (nI 2) then (sm_run C c_R_readOne n 5 [some (.ref a0), some (.int v1), some (.int x2)] [] u1) else if x2 = (nI 40) then (sm_run C c_R_readOne n 22 [some (.ref a0), some (.int v1), some (.int x2)] [] u1) else if x2 = (nI 45) then (sm_run C c_R_readOne n 35 [some (.ref a0), some (.int v1), some (.int x2)] [] u1) else if x2 = (nI 218) then (sm_run C c_R_readOne n 50 [some (.ref a0), some (.int v1), some (.int x2)] [] u1) else if x2 = (nI 219) then (sm_run C c_R_readOne n 14 [some (.ref a0), some (.int v1), some (.int x2)] [] u1) else if x2 = (nI 220) then (sm_run C c_R_readOne n 14 [some (.ref a0), some (.int v1), some (.int x2)] [] u1) else if x2 = (nI 221) then (sm_run C c_R_readOne n 14 [some (.ref a0), some (.int v1), some (.int x2)] [] u1) else sm_run C c_R_readOne n 60 [some (.ref a0), some (.int v1), some (.int x2)] [] u1)) else none := q_R_readOne_0 C n u a0 v1
theorem z_R_readOne_5 (C : Nat → List Value → sm_M → sm_R) (n : Nat) (u : sm_M) (a0 : Nat) (v1 v2 : Int32) : sm_run C c_R_readOne (n + 1) 5 [some (.ref a0), some (.int v1), some (.int v2)] [] u = if sm_tg u a0 = 106 then sm_rr (sm_Rf u a0 1) (fun q1 => if sm_tg u a0 = 106 then (sm_ri (C 67 [.ref a0, .int (nI 0), .int (nI 9999)] u) (fun x3 u2 => if sm_tg u2 q1 = 102 then (sm_rv (C 17 [.ref q1, .int (nI 2), .int x3] u2) (fun u4 => sm_run C c_R_readOne n 64 [some (.ref a0), some (.int v1), some (.int v2)] [] u4)) else none)) else none) else none := q_R_readOne_5 C n u a0 v1 v2
theorem z_R_readOne_22 (C : Nat → List Value → sm_M → sm_R) (n : Nat) (u : sm_M) (a0 : Nat) (v1 v2 : Int32) : sm_run C c_R_readOne (n + 1) 22 [some (.ref a0), some (.int v1), some (.int v2)] [] u = if sm_tg u a0 = 106 then (sm_ri (C 76 [.ref a0, .int v1] u) (fun x2 u1 => if x2 = 0 then (sm_run C c_R_readOne n 64 [some (.ref a0), some (.int v1), some (.int v2)] [] u1) else (if sm_tg u1 a0 = 106 then (sm_rv (C 79 [.ref a0, .int (v1 + (nI 1))] u1) (fun u3 => if sm_tg u3 a0 = 106 then (sm_rv (C 66 [.ref a0, .int (nI 41)] u3) (fun u4 => sm_run C c_R_readOne n 64 [some (.ref a0), some (.int v1), some (.int v2)] [] u4)) else none)) else none))) else none := q_R_readOne_22 C n u a0 v1 v2
theorem z_R_readOne_35 (C : Nat → List Value → sm_M → sm_R) (n : Nat) (u : sm_M) (a0 : Nat) (v1 v2 : Int32) : sm_run C c_R_readOne (n + 1) 35 [some (.ref a0), some (.int v1), some (.int v2)] [] u = if sm_tg u a0 = 106 then (sm_ri (C 76 [.ref a0, .int v1] u) (fun x2 u1 => if x2 = 0 then (sm_run C c_R_readOne n 64 [some (.ref a0), some (.int v1), some (.int v2)] [] u1) else (if sm_tg u1 a0 = 106 then (sm_rv (C 81 [.ref a0, .int (v1 + (nI 1))] u1) (fun u3 => if sm_tg u3 a0 = 106 then sm_rr (sm_Rf u3 a0 1) (fun q4 => if sm_tg u3 q4 = 102 then (sm_rv (C 17 [.ref q4, .int (nI 5), .int (nI 0)] u3) (fun u5 => sm_run C c_R_readOne n 64 [some (.ref a0), some (.int v1), some (.int v2)] [] u5)) else none) else none)) else none))) else none := q_R_readOne_35 C n u a0 v1 v2
theorem z_R_readOne_50 (C : Nat → List Value → sm_M → sm_R) (n : Nat) (u : sm_M) (a0 : Nat) (v1 v2 : Int32) : sm_run C c_R_readOne (n + 1) 50 [some (.ref a0), some (.int v1), some (.int v2)] [] u = if sm_tg u a0 = 106 then (sm_ri (C 76 [.ref a0, .int v1] u) (fun x2 u1 => if x2 = 0 then (sm_run C c_R_readOne n 64 [some (.ref a0), some (.int v1), some (.int v2)] [] u1) else (if sm_tg u1 a0 = 106 then (sm_rv (C 82 [.ref a0, .int (v1 + (nI 1))] u1) (fun u3 => sm_run C c_R_readOne n 64 [some (.ref a0), some (.int v1), some (.int v2)] [] u3)) else none))) else none := q_R_readOne_50 C n u a0 v1 v2
theorem z_R_readOne_14 (C : Nat → List Value → sm_M → sm_R) (n : Nat) (u : sm_M) (a0 : Nat) (v1 v2 : Int32) : sm_run C c_R_readOne (n + 1) 14 [some (.ref a0), some (.int v1), some (.int v2)] [] u = if sm_tg u a0 = 106 then (sm_rv (C 64 [.ref a0] u) (fun u1 => if sm_tg u1 a0 = 106 then sm_rr (sm_Rf u1 a0 1) (fun q2 => if sm_tg u1 q2 = 102 then (sm_rv (C 17 [.ref q2, .int v2, .int (nI 0)] u1) (fun u3 => sm_run C c_R_readOne n 64 [some (.ref a0), some (.int v1), some (.int v2)] [] u3)) else none) else none)) else none := q_R_readOne_14 C n u a0 v1 v2
theorem z_R_readOne_60 (C : Nat → List Value → sm_M → sm_R) (n : Nat) (u : sm_M) (a0 : Nat) (v1 v2 : Int32) : sm_run C c_R_readOne (n + 1) 60 [some (.ref a0), some (.int v1), some (.int v2)] [] u = if sm_tg u a0 = 106 then (sm_rv (C 65 [.ref a0, .int (nI 1)] u) (fun u1 => sm_run C c_R_readOne n 64 [some (.ref a0), some (.int v1), some (.int v2)] [] u1)) else none := q_R_readOne_60 C n u a0 v1 v2
theorem z_R_readAsk_38 (C : Nat → List Value → sm_M → sm_R) (n : Nat) (u : sm_M) (a0 : Nat) (v1 : Int32) : sm_run C c_R_readAsk (n + 1) 38 [some (.ref a0), some (.int v1)] [] u = some (none, u) := q_R_readAsk_38 C n u a0 v1
theorem z_R_readAsk_0 (C : Nat → List Value → sm_M → sm_R) (n : Nat) (u : sm_M) (a0 : Nat) (v1 : Int32) : sm_run C c_R_readAsk (n + 1) 0 [some (.ref a0), some (.int v1)] [] u = if sm_tg u a0 = 106 then (sm_ri (C 63 [.ref a0] u) (fun x2 u1 => if x2 = (nI 215) then (sm_run C c_R_readAsk n 3 [some (.ref a0), some (.int v1)] [] u1) else if x2 = (nI 216) then (sm_run C c_R_readAsk n 18 [some (.ref a0), some (.int v1)] [] u1) else if x2 = (nI 217) then (sm_run C c_R_readAsk n 29 [some (.ref a0), some (.int v1)] [] u1) else sm_run C c_R_readAsk n 34 [some (.ref a0), some (.int v1)] [] u1)) else none := q_R_readAsk_0 C n u a0 v1
theorem z_R_readAsk_3 (C : Nat → List Value → sm_M → sm_R) (n : Nat) (u : sm_M) (a0 : Nat) (v1 : Int32) : sm_run C c_R_readAsk (n + 1) 3 [some (.ref a0), some (.int v1)] [] u = if sm_tg u a0 = 106 then (sm_ri (C 76 [.ref a0, .int v1] u) (fun x2 u1 => if x2 = 0 then (sm_run C c_R_readAsk n 38 [some (.ref a0), some (.int v1)] [] u1) else (if sm_tg u1 a0 = 106 then (sm_rv (C 75 [.ref a0, .int (v1 + (nI 1))] u1) (fun u3 => if sm_tg u3 a0 = 106 then sm_rr (sm_Rf u3 a0 1) (fun q4 => if sm_tg u3 q4 = 102 then (sm_rv (C 17 [.ref q4, .int (nI 215), .int (nI 0)] u3) (fun u5 => sm_run C c_R_readAsk n 38 [some (.ref a0), some (.int v1)] [] u5)) else none) else none)) else none))) else none := q_R_readAsk_3 C n u a0 v1
theorem z_R_readAsk_18 (C : Nat → List Value → sm_M → sm_R) (n : Nat) (u : sm_M) (a0 : Nat) (v1 : Int32) : sm_run C c_R_readAsk (n + 1) 18 [some (.ref a0), some (.int v1)] [] u = if sm_tg u a0 = 106 then (sm_rv (C 64 [.ref a0] u) (fun u1 => if sm_tg u1 a0 = 106 then sm_rr (sm_Rf u1 a0 1) (fun q2 => if sm_tg u1 a0 = 106 then (sm_ri (C 67 [.ref a0, .int (nI 0), .int (nI 7)] u1) (fun x4 u3 => if sm_tg u3 q2 = 102 then (sm_rv (C 17 [.ref q2, .int (nI 216), .int x4] u3) (fun u5 => sm_run C c_R_readAsk n 38 [some (.ref a0), some (.int v1)] [] u5)) else none)) else none) else none)) else none := q_R_readAsk_18 C n u a0 v1
theorem z_R_readAsk_29 (C : Nat → List Value → sm_M → sm_R) (n : Nat) (u : sm_M) (a0 : Nat) (v1 : Int32) : sm_run C c_R_readAsk (n + 1) 29 [some (.ref a0), some (.int v1)] [] u = if sm_tg u a0 = 106 then (sm_rv (C 64 [.ref a0] u) (fun u1 => if sm_tg u1 a0 = 106 then (sm_rv (C 77 [.ref a0] u1) (fun u2 => sm_run C c_R_readAsk n 38 [some (.ref a0), some (.int v1)] [] u2)) else none)) else none := q_R_readAsk_29 C n u a0 v1
theorem z_R_readAsk_34 (C : Nat → List Value → sm_M → sm_R) (n : Nat) (u : sm_M) (a0 : Nat) (v1 : Int32) : sm_run C c_R_readAsk (n + 1) 34 [some (.ref a0), some (.int v1)] [] u = if sm_tg u a0 = 106 then (sm_rv (C 78 [.ref a0, .int v1] u) (fun u1 => sm_run C c_R_readAsk n 38 [some (.ref a0), some (.int v1)] [] u1)) else none := q_R_readAsk_34 C n u a0 v1
theorem z_R_readWhole_26 (C : Nat → List Value → sm_M → sm_R) (n : Nat) (u : sm_M) (a0 : Nat) (v1 v2 : Int32) : sm_run C c_R_readWhole (n + 1) 26 [some (.ref a0), some (.int v1), some (.int v2)] [] u = if v1 ≤ v2 then (sm_run C c_R_readWhole n 36 [some (.ref a0), some (.int v1), some (.int v2)] [] u) else (if sm_tg u a0 = 106 then sm_rr (sm_Rf u a0 1) (fun q1 => if sm_tg u q1 = 102 then (sm_rv (C 17 [.ref q1, .int (nI 212), .int (nI 0)] u) (fun u2 => sm_run C c_R_readWhole n 26 [some (.ref a0), some (.int v1), some (.int (v2 + (nI 1)))] [] u2)) else none) else none) := q_R_readWhole_26 C n u a0 v1 v2
theorem z_R_readWhole_36 (C : Nat → List Value → sm_M → sm_R) (n : Nat) (u : sm_M) (a0 : Nat) (v1 v2 : Int32) : sm_run C c_R_readWhole (n + 1) 36 [some (.ref a0), some (.int v1), some (.int v2)] [] u = some (none, u) := q_R_readWhole_36 C n u a0 v1 v2
theorem z_R_readWhole_8 (C : Nat → List Value → sm_M → sm_R) (n : Nat) (u : sm_M) (a0 : Nat) (v1 v2 : Int32) : sm_run C c_R_readWhole (n + 1) 8 [some (.ref a0), some (.int v1), some (.int v2)] [] u = if (nI 300) ≤ v2 then (sm_run C c_R_readWhole n 23 [some (.ref a0), some (.int v1), some (.int v2)] [] u) else (if sm_tg u a0 = 106 then (sm_ri (C 63 [.ref a0] u) (fun x2 u1 => if x2 = (nI 212) then (if sm_tg u1 a0 = 106 then (sm_rv (C 64 [.ref a0] u1) (fun u3 => if sm_tg u3 a0 = 106 then (sm_rv (C 73 [.ref a0, .int (nI 0)] u3) (fun u4 => sm_run C c_R_readWhole n 8 [some (.ref a0), some (.int (v1 + (nI 1))), some (.int (v2 + (nI 1)))] [] u4)) else none)) else none) else (sm_run C c_R_readWhole n 23 [some (.ref a0), some (.int v1), some (.int v2)] [] u1))) else none) := q_R_readWhole_8 C n u a0 v1 v2
theorem z_R_readWhole_23 (C : Nat → List Value → sm_M → sm_R) (n : Nat) (u : sm_M) (a0 : Nat) (v1 v2 : Int32) : sm_run C c_R_readWhole (n + 1) 23 [some (.ref a0), some (.int v1), some (.int v2)] [] u = sm_run C c_R_readWhole n 26 [some (.ref a0), some (.int v1), some (.int (nI 0))] [] u := q_R_readWhole_23 C n u a0 v1 v2
theorem z_R_readWhole_0 (C : Nat → List Value → sm_M → sm_R) (n : Nat) (u : sm_M) (a0 : Nat) : sm_run C c_R_readWhole (n + 1) 0 [some (.ref a0), none, none] [] u = if sm_tg u a0 = 106 then (sm_rv (C 73 [.ref a0, .int (nI 0)] u) (fun u1 => sm_run C c_R_readWhole n 8 [some (.ref a0), some (.int (nI 0)), some (.int (nI 0))] [] u1)) else none := q_R_readWhole_0 C n u a0
def opk (k : Nat) : Nat := if k = 43 then 6 else if k = 45 then 7 else if k = 42 then 8 else if k = 47 then 9 else if k = 60 then 10 else if k = 3 then 11 else if k = 62 then 12 else if k = 4 then 13 else if k = 61 then 14 else 15
def lpF (b : Nat → Nat) (n : Nat) (c : Nat → Bool) (f : Nat → Rst → Rst) : Nat → Rst → Rst
  | 0, σ => σ
  | j + 1, σ => if c (kn b n σ) = true then lpF b n c f j (f (kn b n σ) σ) else σ
def cntL (b : Nat → Nat) (n : Nat) (pE : Rst → Rst) : Nat → Nat → Rst → Nat × Rst
  | 0, c, σ => (c, σ)
  | j + 1, c, σ => if kn b n σ = 44 then (if c < 6 then cntL b n pE j (c + 1) (pE (adv b n σ)) else cntL b n pE j c (rfs 7 σ)) else (c, σ)
def cntF (b : Nat → Nat) (n : Nat) (pE : Rst → Rst) (σ : Rst) : Rst := add 4 (cntL b n pE 6 1 (pE (exq b n 40 σ))).1 (exq b n 41 (cntL b n pE 6 1 (pE (exq b n 40 σ))).2)
def oneF (b : Nat → Nat) (n : Nat) (op : Bool) (pS pO pE : Rst → Rst) (σ : Rst) : Rst :=
  if kn b n σ = 2 then add 0 (rnv b n 0 9999 σ) (rns b n 0 9999 σ)
  else if kn b n σ = 40 then (if op = true then exq b n 41 (pS (adv b n σ)) else rfs 3 σ)
  else if kn b n σ = 45 then (if op = true then add 5 0 (pO (adv b n σ)) else rfs 3 σ)
  else if kn b n σ = 218 then (if op = true then cntF b n pE (adv b n σ) else rfs 3 σ)
  else if kn b n σ = 219 then add 1 0 (adv b n σ)
  else if kn b n σ = 220 then add 1 1 (adv b n σ)
  else if kn b n σ = 221 then add 1 2 (adv b n σ)
  else rfs 1 σ
def isM (k : Nat) : Bool := decide (k = 42) || decide (k = 47)
def isP (k : Nat) : Bool := decide (k = 43) || decide (k = 45)
def isC (k : Nat) : Bool := decide (k = 3) || (decide (k = 4) || (decide (k = 35) || (decide (k = 60) || (decide (k = 61) || decide (k = 62)))))
def prdF (b : Nat → Nat) (n : Nat) (one : Rst → Rst) (σ : Rst) : Rst := lpF b n isM (fun k σ => add (opk k) 0 (one (adv b n σ))) 300 (one σ)
def sumF (b : Nat → Nat) (n : Nat) (prd : Rst → Rst) (σ : Rst) : Rst := lpF b n isP (fun k σ => add (opk k) 0 (prd (adv b n σ))) 300 (prd σ)
def cmpF (b : Nat → Nat) (n : Nat) (sum : Rst → Rst) (σ : Rst) : Rst := if isC (kn b n (sum σ)) = true then add (opk (kn b n (sum σ))) 0 (sum (adv b n (sum σ))) else rfs 1 (sum σ)
def camF (b : Nat → Nat) (n ev : Nat) (σ : Rst) : Rst := if kn b n σ = 2 ∧ vlp b n σ.1 < 10 ∧ ev ≤ vlp b n σ.1 then rfs 5 σ else add 3 (rnv b n 0 9 σ) (rns b n 0 9 σ)
def askF (b : Nat → Nat) (n ev : Nat) (op : Bool) (pA cmp : Rst → Rst) (σ : Rst) : Rst :=
  if kn b n σ = 215 then (if op = true then add 20 0 (pA (adv b n σ)) else rfs 3 σ)
  else if kn b n σ = 216 then add 2 (rnv b n 0 7 (adv b n σ)) (rns b n 0 7 (adv b n σ))
  else if kn b n σ = 217 then camF b n ev (adv b n σ)
  else cmp σ
def botF (b : Nat → Nat) (n : Nat) (ask : Rst → Rst) (σ : Rst) : Rst := lpF b n (fun k => decide (k = 214)) (fun _ σ => add 21 0 (ask (adv b n σ))) 300 (ask σ)
def eitF (b : Nat → Nat) (n : Nat) (bot : Rst → Rst) (σ : Rst) : Rst := lpF b n (fun k => decide (k = 213)) (fun _ σ => add 22 0 (bot (adv b n σ))) 300 (bot σ)
/-- 0 an ask, 1 a sum, 2 one, 3 an either -/
def lvF (b : Nat → Nat) (n ev : Nat) (op : Bool) (p : Nat → Rst → Rst) : Nat → Rst → Rst
  | 0 => askF b n ev op (p 0) (cmpF b n (sumF b n (prdF b n (oneF b n op (p 1) (p 2) (p 3)))))
  | 1 => sumF b n (prdF b n (oneF b n op (p 1) (p 2) (p 3)))
  | 2 => oneF b n op (p 1) (p 2) (p 3)
  | _ => eitF b n (botF b n (askF b n ev op (p 0) (cmpF b n (sumF b n (prdF b n (oneF b n op (p 1) (p 2) (p 3)))))))
def lvl (b : Nat → Nat) (n ev : Nat) : Nat → Nat → Rst → Rst
  | 0 => lvF b n ev false (fun _ σ => σ)
  | L + 1 => lvF b n ev true (lvl b n ev L)
def whL (b : Nat → Nat) (n : Nat) (eit : Rst → Rst) : Nat → Nat → Rst → Nat × Rst
  | 0, c, σ => (c, σ)
  | j + 1, c, σ => if kn b n σ = 212 then whL b n eit j (c + 1) (eit (adv b n σ)) else (c, σ)
def adN : Nat → Rst → Rst
  | 0, σ => σ
  | k + 1, σ => adN k (add 23 0 σ)
def whF (b : Nat → Nat) (n : Nat) (eit : Rst → Rst) (σ : Rst) : Rst := adN (whL b n eit 300 0 (eit σ)).1 (whL b n eit 300 0 (eit σ)).2
theorem Ok.le {u0 : sm_M} {b : Nat → Nat} {n t : Nat} {cl : Cls} {D0 D1 y : Nat} {as : List Value} {F : Rst → Rst} (h : Ok u0 b n t cl D0 y as F) (hd : D0 ≤ D1) : Ok u0 b n t cl D1 y as F := fun D hD => h D (by omega)
theorem lq_prd {u0 : sm_M} {b : Nat → Nat} {n t : Nat} {cl : Cls} (H : Cx u0 b n t) {D0 op : Nat} {one : Rst → Rst} (ho : Ok u0 b n t cl D0 81 [.ref 232, .int (nI op)] one) {D : Nat} (hD : D0 ≤ D + 1) : ∀ (j i m : Nat) (u : sm_M) (σ : Rst) (o3 : Option Value), i + j = 300 → CS u0 b n t cl u σ → j * 2 + 2 ≤ m → Rn (sm_run (sm_call (D + 1)) c_R_readProduct m 6 [some (.ref 232), some (.int (nI op)), some (.int (nI i)), o3] [] u) (fun v => CS u0 b n t cl v (lpF b n isM (fun k σ => add (opk k) 0 (one (adv b n σ))) j σ)) := by
  intro j
  induction j with
  | zero =>
    intro i m u σ o3 hi h hm
    obtain ⟨m, rfl⟩ : ∃ k, m = k + 2 := ⟨m - 2, by omega⟩
    have hi : i = 300 := hi
    subst hi
    rw [z_R_readProduct_6, if_pos (by decide), z_R_readProduct_33]
    exact Rn.ret h
  | succ j ih =>
    intro i m u σ o3 hi h hm
    obtain ⟨m, rfl⟩ : ∃ k, m = k + 2 := ⟨m - 2, by omega⟩
    have hlt : ¬ nI 300 ≤ nI i := fun z => by have := (nI_leI (by omega) (by omega)).mp z; omega
    have hl := kn_lt (b := b) (n := n) (σ := σ)
    -- the body
    have go : ∀ k, kn b n σ = k → isM k = true → trm (opk k) 0 = (k, 0) → Rn (sm_run (sm_call (D + 1)) c_R_readProduct (m + 1) 18 [some (.ref 232), some (.int (nI op)), some (.int (nI i)), o3] [] u) (fun v => CS u0 b n t cl v (lpF b n isM (fun k σ => add (opk k) 0 (one (adv b n σ))) (j + 1) σ)) := by
      intro k hk hx ht
      rw [z_R_readProduct_18]
      simp only [h.tg, ↓reduceIte, c_kind H h D]
      refine (o_goOn H (D + 1) (by omega) u σ h).rv (fun v1 h1 => ?_)
      simp only [h1.tg, ↓reduceIte]
      refine (ho (D + 1) hD v1 _ h1).rv (fun v2 h2 => ?_)
      simp only [h2.tg, ↓h2.r1, h2.tT H.2.1, ↓reduceIte]
      rw [hk]
      refine (o_add H ht (D + 1) (by omega) v2 _ h2).rv (fun v3 h3 => ?_)
      have e : lpF b n isM (fun k σ => add (opk k) 0 (one (adv b n σ))) (j + 1) σ = lpF b n isM (fun k σ => add (opk k) 0 (one (adv b n σ))) j (add (opk k) 0 (one (adv b n σ))) := by
        show (if isM (kn b n σ) = true then lpF b n isM (fun k σ => add (opk k) 0 (one (adv b n σ))) j (add (opk (kn b n σ)) 0 (one (adv b n σ))) else σ) = _
        rw [hk, if_pos hx]
      rw [e, nI_add]
      exact ih (i + 1) m v3 _ (some (.int (nI k))) (by omega) h3 (by omega)
    rw [z_R_readProduct_6, if_neg hlt]
    simp only [h.tg, ↓reduceIte, c_kind H h D]
    by_cases q1 : kn b n σ = 42
    · rw [q1, if_pos rfl]
      exact go 42 q1 rfl rfl
    · rw [if_neg (fun z => q1 ((nI_eq (by omega) (by omega)).mp z))]
      by_cases q2 : kn b n σ = 47
      · rw [q2, if_pos rfl]
        exact go 47 q2 rfl rfl
      · rw [if_neg (fun z => q2 ((nI_eq (by omega) (by omega)).mp z)), z_R_readProduct_33]
        have e : lpF b n isM (fun k σ => add (opk k) 0 (one (adv b n σ))) (j + 1) σ = σ := by
          show (if isM (kn b n σ) = true then _ else σ) = σ
          rw [if_neg]
          unfold isM
          rw [decide_eq_false q1, decide_eq_false q2]
          simp
        rw [e]
        exact Rn.ret h
theorem o_prd {u0 : sm_M} {b : Nat → Nat} {n t : Nat} {cl : Cls} (H : Cx u0 b n t) {D0 op : Nat} {one : Rst → Rst} (ho : Ok u0 b n t cl D0 81 [.ref 232, .int (nI op)] one) : Ok u0 b n t cl (D0 + 2) 80 [.ref 232, .int (nI op)] (prdF b n one) := by
  intro D hD u σ h
  obtain ⟨D, rfl⟩ : ∃ k, D = k + 2 := ⟨D - 2, by omega⟩
  rw [k_R_readProduct, z_R_readProduct_0]
  simp only [h.tg, ↓reduceIte]
  refine (ho (D + 1) (by omega) u σ h).rv (fun v1 h1 => ?_)
  exact lq_prd H ho (by omega) 300 0 _ v1 _ none (by omega) h1 (by omega)
theorem lq_sum {u0 : sm_M} {b : Nat → Nat} {n t : Nat} {cl : Cls} (H : Cx u0 b n t) {D0 op : Nat} {one : Rst → Rst} (ho : Ok u0 b n t cl D0 80 [.ref 232, .int (nI op)] one) {D : Nat} (hD : D0 ≤ D + 1) : ∀ (j i m : Nat) (u : sm_M) (σ : Rst) (o3 : Option Value), i + j = 300 → CS u0 b n t cl u σ → j * 2 + 2 ≤ m → Rn (sm_run (sm_call (D + 1)) c_R_readSum m 6 [some (.ref 232), some (.int (nI op)), some (.int (nI i)), o3] [] u) (fun v => CS u0 b n t cl v (lpF b n isP (fun k σ => add (opk k) 0 (one (adv b n σ))) j σ)) := by
  intro j
  induction j with
  | zero =>
    intro i m u σ o3 hi h hm
    obtain ⟨m, rfl⟩ : ∃ k, m = k + 2 := ⟨m - 2, by omega⟩
    have hi : i = 300 := hi
    subst hi
    rw [z_R_readSum_6, if_pos (by decide), z_R_readSum_33]
    exact Rn.ret h
  | succ j ih =>
    intro i m u σ o3 hi h hm
    obtain ⟨m, rfl⟩ : ∃ k, m = k + 2 := ⟨m - 2, by omega⟩
    have hlt : ¬ nI 300 ≤ nI i := fun z => by have := (nI_leI (by omega) (by omega)).mp z; omega
    have hl := kn_lt (b := b) (n := n) (σ := σ)
    -- the body
    have go : ∀ k, kn b n σ = k → isP k = true → trm (opk k) 0 = (k, 0) → Rn (sm_run (sm_call (D + 1)) c_R_readSum (m + 1) 18 [some (.ref 232), some (.int (nI op)), some (.int (nI i)), o3] [] u) (fun v => CS u0 b n t cl v (lpF b n isP (fun k σ => add (opk k) 0 (one (adv b n σ))) (j + 1) σ)) := by
      intro k hk hx ht
      rw [z_R_readSum_18]
      simp only [h.tg, ↓reduceIte, c_kind H h D]
      refine (o_goOn H (D + 1) (by omega) u σ h).rv (fun v1 h1 => ?_)
      simp only [h1.tg, ↓reduceIte]
      refine (ho (D + 1) hD v1 _ h1).rv (fun v2 h2 => ?_)
      simp only [h2.tg, ↓h2.r1, h2.tT H.2.1, ↓reduceIte]
      rw [hk]
      refine (o_add H ht (D + 1) (by omega) v2 _ h2).rv (fun v3 h3 => ?_)
      have e : lpF b n isP (fun k σ => add (opk k) 0 (one (adv b n σ))) (j + 1) σ = lpF b n isP (fun k σ => add (opk k) 0 (one (adv b n σ))) j (add (opk k) 0 (one (adv b n σ))) := by
        show (if isP (kn b n σ) = true then lpF b n isP (fun k σ => add (opk k) 0 (one (adv b n σ))) j (add (opk (kn b n σ)) 0 (one (adv b n σ))) else σ) = _
        rw [hk, if_pos hx]
      rw [e, nI_add]
      exact ih (i + 1) m v3 _ (some (.int (nI k))) (by omega) h3 (by omega)
    rw [z_R_readSum_6, if_neg hlt]
    simp only [h.tg, ↓reduceIte, c_kind H h D]
    by_cases q1 : kn b n σ = 43
    · rw [q1, if_pos rfl]
      exact go 43 q1 rfl rfl
    · rw [if_neg (fun z => q1 ((nI_eq (by omega) (by omega)).mp z))]
      by_cases q2 : kn b n σ = 45
      · rw [q2, if_pos rfl]
        exact go 45 q2 rfl rfl
      · rw [if_neg (fun z => q2 ((nI_eq (by omega) (by omega)).mp z)), z_R_readSum_33]
        have e : lpF b n isP (fun k σ => add (opk k) 0 (one (adv b n σ))) (j + 1) σ = σ := by
          show (if isP (kn b n σ) = true then _ else σ) = σ
          rw [if_neg]
          unfold isP
          rw [decide_eq_false q1, decide_eq_false q2]
          simp
        rw [e]
        exact Rn.ret h
theorem o_sum {u0 : sm_M} {b : Nat → Nat} {n t : Nat} {cl : Cls} (H : Cx u0 b n t) {D0 op : Nat} {one : Rst → Rst} (ho : Ok u0 b n t cl D0 80 [.ref 232, .int (nI op)] one) : Ok u0 b n t cl (D0 + 2) 79 [.ref 232, .int (nI op)] (sumF b n one) := by
  intro D hD u σ h
  obtain ⟨D, rfl⟩ : ∃ k, D = k + 2 := ⟨D - 2, by omega⟩
  rw [k_R_readSum, z_R_readSum_0]
  simp only [h.tg, ↓reduceIte]
  refine (ho (D + 1) (by omega) u σ h).rv (fun v1 h1 => ?_)
  exact lq_sum H ho (by omega) 300 0 _ v1 _ none (by omega) h1 (by omega)
theorem lq_bot {u0 : sm_M} {b : Nat → Nat} {n t : Nat} {cl : Cls} (H : Cx u0 b n t) {D0 op : Nat} {one : Rst → Rst} (ho : Ok u0 b n t cl D0 75 [.ref 232, .int (nI op)] one) {D : Nat} (hD : D0 ≤ D + 1) : ∀ (j i m : Nat) (u : sm_M) (σ : Rst), i + j = 300 → CS u0 b n t cl u σ → j + 2 ≤ m → Rn (sm_run (sm_call (D + 1)) c_R_readBoth m 6 [some (.ref 232), some (.int (nI op)), some (.int (nI i))] [] u) (fun v => CS u0 b n t cl v (lpF b n (fun k => decide (k = 214)) (fun _ σ => add 21 0 (one (adv b n σ))) j σ)) := by
  intro j
  induction j with
  | zero =>
    intro i m u σ hi h hm
    obtain ⟨m, rfl⟩ : ∃ k, m = k + 2 := ⟨m - 2, by omega⟩
    have hi : i = 300 := hi
    subst hi
    rw [z_R_readBoth_6, if_pos (by decide), z_R_readBoth_25]
    exact Rn.ret h
  | succ j ih =>
    intro i m u σ hi h hm
    obtain ⟨m, rfl⟩ : ∃ k, m = k + 2 := ⟨m - 2, by omega⟩
    have hlt : ¬ nI 300 ≤ nI i := fun z => by have := (nI_leI (by omega) (by omega)).mp z; omega
    have hl := kn_lt (b := b) (n := n) (σ := σ)
    rw [z_R_readBoth_6, if_neg hlt]
    simp only [h.tg, ↓reduceIte, c_kind H h D]
    have e0 : lpF b n (fun k => decide (k = 214)) (fun _ σ => add 21 0 (one (adv b n σ))) (j + 1) σ = if decide (kn b n σ = 214) = true then lpF b n (fun k => decide (k = 214)) (fun _ σ => add 21 0 (one (adv b n σ))) j (add 21 0 (one (adv b n σ))) else σ := rfl
    by_cases q1 : kn b n σ = 214
    · rw [e0, if_pos (decide_eq_true q1), q1, if_pos rfl]
      refine (o_goOn H (D + 1) (by omega) u σ h).rv (fun v1 h1 => ?_)
      simp only [h1.tg, ↓reduceIte]
      refine (ho (D + 1) hD v1 _ h1).rv (fun v2 h2 => ?_)
      simp only [h2.tg, ↓h2.r1, h2.tT H.2.1, ↓reduceIte]
      refine (o_add H (o := 21) (v := 0) rfl (D + 1) (by omega) v2 _ h2).rv (fun v3 h3 => ?_)
      rw [nI_add]
      exact ih (i + 1) (m + 1) v3 _ (by omega) h3 (by omega)
    · rw [e0, if_neg (show ¬ decide (kn b n σ = 214) = true by rw [decide_eq_false q1]; simp), if_neg (show ¬ nI (kn b n σ) = nI 214 from fun z => q1 ((nI_eq (by omega) (by omega)).mp z)), z_R_readBoth_25]
      exact Rn.ret h
theorem o_bot {u0 : sm_M} {b : Nat → Nat} {n t : Nat} {cl : Cls} (H : Cx u0 b n t) {D0 op : Nat} {one : Rst → Rst} (ho : Ok u0 b n t cl D0 75 [.ref 232, .int (nI op)] one) : Ok u0 b n t cl (D0 + 2) 74 [.ref 232, .int (nI op)] (botF b n one) := by
  intro D hD u σ h
  obtain ⟨D, rfl⟩ : ∃ k, D = k + 2 := ⟨D - 2, by omega⟩
  rw [k_R_readBoth, z_R_readBoth_0]
  simp only [h.tg, ↓reduceIte]
  refine (ho (D + 1) (by omega) u σ h).rv (fun v1 h1 => ?_)
  exact lq_bot H ho (by omega) 300 0 _ v1 _ (by omega) h1 (by omega)
theorem lq_eit {u0 : sm_M} {b : Nat → Nat} {n t : Nat} {cl : Cls} (H : Cx u0 b n t) {D0 op : Nat} {one : Rst → Rst} (ho : Ok u0 b n t cl D0 74 [.ref 232, .int (nI op)] one) {D : Nat} (hD : D0 ≤ D + 1) : ∀ (j i m : Nat) (u : sm_M) (σ : Rst), i + j = 300 → CS u0 b n t cl u σ → j + 2 ≤ m → Rn (sm_run (sm_call (D + 1)) c_R_readEither m 6 [some (.ref 232), some (.int (nI op)), some (.int (nI i))] [] u) (fun v => CS u0 b n t cl v (lpF b n (fun k => decide (k = 213)) (fun _ σ => add 22 0 (one (adv b n σ))) j σ)) := by
  intro j
  induction j with
  | zero =>
    intro i m u σ hi h hm
    obtain ⟨m, rfl⟩ : ∃ k, m = k + 2 := ⟨m - 2, by omega⟩
    have hi : i = 300 := hi
    subst hi
    rw [z_R_readEither_6, if_pos (by decide), z_R_readEither_25]
    exact Rn.ret h
  | succ j ih =>
    intro i m u σ hi h hm
    obtain ⟨m, rfl⟩ : ∃ k, m = k + 2 := ⟨m - 2, by omega⟩
    have hlt : ¬ nI 300 ≤ nI i := fun z => by have := (nI_leI (by omega) (by omega)).mp z; omega
    have hl := kn_lt (b := b) (n := n) (σ := σ)
    rw [z_R_readEither_6, if_neg hlt]
    simp only [h.tg, ↓reduceIte, c_kind H h D]
    have e0 : lpF b n (fun k => decide (k = 213)) (fun _ σ => add 22 0 (one (adv b n σ))) (j + 1) σ = if decide (kn b n σ = 213) = true then lpF b n (fun k => decide (k = 213)) (fun _ σ => add 22 0 (one (adv b n σ))) j (add 22 0 (one (adv b n σ))) else σ := rfl
    by_cases q1 : kn b n σ = 213
    · rw [e0, if_pos (decide_eq_true q1), q1, if_pos rfl]
      refine (o_goOn H (D + 1) (by omega) u σ h).rv (fun v1 h1 => ?_)
      simp only [h1.tg, ↓reduceIte]
      refine (ho (D + 1) hD v1 _ h1).rv (fun v2 h2 => ?_)
      simp only [h2.tg, ↓h2.r1, h2.tT H.2.1, ↓reduceIte]
      refine (o_add H (o := 22) (v := 0) rfl (D + 1) (by omega) v2 _ h2).rv (fun v3 h3 => ?_)
      rw [nI_add]
      exact ih (i + 1) (m + 1) v3 _ (by omega) h3 (by omega)
    · rw [e0, if_neg (show ¬ decide (kn b n σ = 213) = true by rw [decide_eq_false q1]; simp), if_neg (show ¬ nI (kn b n σ) = nI 213 from fun z => q1 ((nI_eq (by omega) (by omega)).mp z)), z_R_readEither_25]
      exact Rn.ret h
theorem o_eit {u0 : sm_M} {b : Nat → Nat} {n t : Nat} {cl : Cls} (H : Cx u0 b n t) {D0 op : Nat} {one : Rst → Rst} (ho : Ok u0 b n t cl D0 74 [.ref 232, .int (nI op)] one) : Ok u0 b n t cl (D0 + 2) 73 [.ref 232, .int (nI op)] (eitF b n one) := by
  intro D hD u σ h
  obtain ⟨D, rfl⟩ : ∃ k, D = k + 2 := ⟨D - 2, by omega⟩
  rw [k_R_readEither, z_R_readEither_0]
  simp only [h.tg, ↓reduceIte]
  refine (ho (D + 1) (by omega) u σ h).rv (fun v1 h1 => ?_)
  exact lq_eit H ho (by omega) 300 0 _ v1 _ (by omega) h1 (by omega)
theorem o_cmp {u0 : sm_M} {b : Nat → Nat} {n t : Nat} {cl : Cls} (H : Cx u0 b n t) {D0 op : Nat} {sum : Rst → Rst} (ho : Ok u0 b n t cl D0 79 [.ref 232, .int (nI op)] sum) : Ok u0 b n t cl (D0 + 2) 78 [.ref 232, .int (nI op)] (cmpF b n sum) := by
  intro D hD u σ h
  obtain ⟨D, rfl⟩ : ∃ k, D = k + 2 := ⟨D - 2, by omega⟩
  rw [k_R_readCompared, z_R_readCompared_0]
  simp only [h.tg, ↓reduceIte]
  refine (ho (D + 1) (by omega) u σ h).rv (fun v1 h1 => ?_)
  simp only [h1.tg, ↓reduceIte, c_kind H h1 D]
  unfold cmpF
  generalize sum σ = σ1 at *
  have hl := kn_lt (b := b) (n := n) (σ := σ1)
  have go : ∀ k m, kn b n σ1 = k → isC k = true → trm (opk k) 0 = (k, 0) → Rn (sm_run (sm_call (D + 1)) c_R_readCompared (m + 2) 8 [some (.ref 232), some (.int (nI op)), some (.int (nI k))] [] v1) (fun v => CS u0 b n t cl v (if isC (kn b n σ1) = true then add (opk (kn b n σ1)) 0 (sum (adv b n σ1)) else rfs 1 σ1)) := by
    intro k m hk hx ht
    rw [z_R_readCompared_8]
    simp only [h1.tg, ↓reduceIte]
    refine (o_goOn H (D + 1) (by omega) v1 σ1 h1).rv (fun v2 h2 => ?_)
    simp only [h2.tg, ↓reduceIte]
    refine (ho (D + 1) (by omega) v2 _ h2).rv (fun v3 h3 => ?_)
    simp only [h3.tg, ↓h3.r1, h3.tT H.2.1, ↓reduceIte]
    refine (o_add H ht (D + 1) (by omega) v3 _ h3).rv (fun v4 h4 => ?_)
    rw [hk, if_pos hx, z_R_readCompared_23]
    exact Rn.ret h4
  by_cases q3 : kn b n σ1 = 3
  · have g := go 3 2999997 q3 rfl rfl
    rw [q3] at g ⊢
    rw [if_pos rfl]
    exact g
  by_cases q4 : kn b n σ1 = 4
  · have g := go 4 2999997 q4 rfl rfl
    rw [q4] at g ⊢
    rw [if_neg (by decide), if_pos rfl]
    exact g
  by_cases q35 : kn b n σ1 = 35
  · have g := go 35 2999997 q35 rfl rfl
    rw [q35] at g ⊢
    rw [if_neg (by decide), if_neg (by decide), if_pos rfl]
    exact g
  by_cases q60 : kn b n σ1 = 60
  · have g := go 60 2999997 q60 rfl rfl
    rw [q60] at g ⊢
    rw [if_neg (by decide), if_neg (by decide), if_neg (by decide), if_pos rfl]
    exact g
  by_cases q61 : kn b n σ1 = 61
  · have g := go 61 2999997 q61 rfl rfl
    rw [q61] at g ⊢
    rw [if_neg (by decide), if_neg (by decide), if_neg (by decide), if_neg (by decide), if_pos rfl]
    exact g
  by_cases q62 : kn b n σ1 = 62
  · have g := go 62 2999997 q62 rfl rfl
    rw [q62] at g ⊢
    rw [if_neg (by decide), if_neg (by decide), if_neg (by decide), if_neg (by decide), if_neg (by decide), if_pos rfl]
    exact g
  rw [if_neg (fun z => q3 ((nI_eq (by omega) (by omega)).mp z)), if_neg (fun z => q4 ((nI_eq (by omega) (by omega)).mp z)), if_neg (fun z => q35 ((nI_eq (by omega) (by omega)).mp z)), if_neg (fun z => q60 ((nI_eq (by omega) (by omega)).mp z)), if_neg (fun z => q61 ((nI_eq (by omega) (by omega)).mp z)), if_neg (fun z => q62 ((nI_eq (by omega) (by omega)).mp z)), z_R_readCompared_19]
  simp only [h1.tg, ↓reduceIte]
  have hx : ¬ isC (kn b n σ1) = true := by
    unfold isC
    rw [decide_eq_false q3, decide_eq_false q4, decide_eq_false q35, decide_eq_false q60, decide_eq_false q61, decide_eq_false q62]
    simp
  rw [if_neg hx]
  refine (o_refuse H (k := 1) (by omega) (D + 1) (by omega) v1 σ1 h1).rv (fun v2 h2 => ?_)
  rw [z_R_readCompared_23]
  exact Rn.ret h2
theorem l_cnt {u0 : sm_M} {b : Nat → Nat} {n t : Nat} {cl : Cls} (H : Cx u0 b n t) {D0 op : Nat} {pE : Rst → Rst} (ho : Ok u0 b n t cl D0 73 [.ref 232, .int (nI op)] pE) {D : Nat} (hD : D0 ≤ D + 2) : ∀ (j i m c : Nat) (u : sm_M) (σ : Rst), i + j = 6 → c ≤ 6 → CS u0 b n t cl u σ → j * 3 + 3 ≤ m → Rn (sm_run (sm_call (D + 2)) c_R_readCounted m 11 [some (.ref 232), some (.int (nI op)), some (.int (nI c)), some (.int (nI i))] [] u) (fun v => CS u0 b n t cl v (add 4 (cntL b n pE j c σ).1 (exq b n 41 (cntL b n pE j c σ).2))) := by
  -- the end
  have fin : ∀ (m c : Nat) (u : sm_M) (σ : Rst) (i : Int32), c ≤ 6 → CS u0 b n t cl u σ → Rn (sm_run (sm_call (D + 2)) c_R_readCounted (m + 1) 34 [some (.ref 232), some (.int (nI op)), some (.int (nI c)), some (.int i)] [] u) (fun v => CS u0 b n t cl v (add 4 c (exq b n 41 σ))) := by
    intro m c u σ i hc h
    rw [z_R_readCounted_34]
    simp only [h.tg, ↓reduceIte]
    refine (o_expect H (c := 41) (by omega) (D + 2) (by omega) u σ h).rv (fun v1 h1 => ?_)
    simp only [h1.tg, ↓h1.r1, h1.tT H.2.1, ↓reduceIte]
    refine (o_add H (o := 4) (v := c) rfl (D + 2) (by omega) v1 _ h1).rv (fun v2 h2 => ?_)
    exact Rn.ret h2
  intro j
  induction j with
  | zero =>
    intro i m c u σ hi hc h hm
    obtain ⟨m, rfl⟩ : ∃ k, m = k + 2 := ⟨m - 2, by omega⟩
    have hi : i = 6 := hi
    subst hi
    rw [z_R_readCounted_11, if_pos (by decide)]
    exact fin m c u σ _ hc h
  | succ j ih =>
    intro i m c u σ hi hc h hm
    obtain ⟨m, rfl⟩ : ∃ k, m = k + 3 := ⟨m - 3, by omega⟩
    have hlt : ¬ nI 6 ≤ nI i := fun z => by have := (nI_leI (by omega) (by omega)).mp z; omega
    have hl := kn_lt (b := b) (n := n) (σ := σ)
    have e0 : cntL b n pE (j + 1) c σ = if kn b n σ = 44 then (if c < 6 then cntL b n pE j (c + 1) (pE (adv b n σ)) else cntL b n pE j c (rfs 7 σ)) else (c, σ) := rfl
    rw [z_R_readCounted_11, if_neg hlt]
    simp only [h.tg, ↓reduceIte, c_kind H h (D + 1)]
    by_cases q : kn b n σ = 44
    · rw [e0, if_pos q, q, if_pos rfl]
      by_cases q2 : c < 6
      · rw [if_pos q2, if_pos (nI_lt q2 (by decide)), z_R_readCounted_25]
        simp only [h.tg, ↓reduceIte]
        refine (o_goOn H (D + 2) (by omega) u σ h).rv (fun v1 h1 => ?_)
        simp only [h1.tg, ↓reduceIte]
        refine (ho (D + 2) hD v1 _ h1).rv (fun v2 h2 => ?_)
        rw [z_R_readCounted_32, nI_add, nI_add]
        exact ih (i + 1) m (c + 1) v2 _ (by omega) (by omega) h2 (by omega)
      · rw [if_neg q2, if_neg (fun z => q2 ((nI_ltI (by omega) (by omega)).mp z))]
        refine (o_refuse H (k := 7) (by omega) (D + 2) (by omega) u σ h).rv (fun v1 h1 => ?_)
        rw [z_R_readCounted_32, nI_add]
        exact ih (i + 1) (m + 1) c v1 _ (by omega) hc h1 (by omega)
    · rw [e0, if_neg q, if_neg (fun z => q ((nI_eq (by omega) (by omega)).mp z))]
      exact fin (m + 1) c u σ _ hc h
theorem o_cnt {u0 : sm_M} {b : Nat → Nat} {n t : Nat} {cl : Cls} (H : Cx u0 b n t) {D0 op : Nat} {pE : Rst → Rst} (ho : Ok u0 b n t cl D0 73 [.ref 232, .int (nI op)] pE) : Ok u0 b n t cl (D0 + 3) 82 [.ref 232, .int (nI op)] (cntF b n pE) := by
  intro D hD u σ h
  obtain ⟨D, rfl⟩ : ∃ k, D = k + 3 := ⟨D - 3, by omega⟩
  rw [k_R_readCounted, z_R_readCounted_0]
  simp only [h.tg, ↓reduceIte]
  refine (o_expect H (c := 40) (by omega) (D + 2) (by omega) u σ h).rv (fun v1 h1 => ?_)
  simp only [h1.tg, ↓reduceIte]
  refine (ho (D + 2) (by omega) v1 _ h1).rv (fun v2 h2 => ?_)
  exact l_cnt H ho (by omega) 6 0 _ 1 v2 _ (by omega) (by omega) h2 (by omega)
theorem o_came {u0 : sm_M} {b : Nat → Nat} {n t : Nat} {cl : Cls} (H : Cx u0 b n t) : Ok u0 b n t cl 3 77 [.ref 232] (camF b n (evc cl)) := by
  intro D hD u σ h
  obtain ⟨D, rfl⟩ : ∃ k, D = k + 3 := ⟨D - 3, by omega⟩
  have hn := H.1
  have hl := kn_lt (b := b) (n := n) (σ := σ)
  obtain ⟨⟨hu, hr⟩, hf, ⟨hp, e2⟩, ⟨e3, l3⟩, e4, -, hC⟩ := id h
  have hc := cwb (b := b) hp.le
  have hev : evc cl ≤ 24 := by
    have : ∀ cl : Cls, evc cl ≤ cl.length := by
      intro cl
      induction cl with
      | nil => exact Nat.le_refl 0
      | cons c r ih =>
        unfold evc
        rw [List.length_cons]
        split <;> omega
    have := this cl
    have := hC.2.1
    omega
  have e7 := hC.2.2.1
  have f27 : ∀ (m : Nat) (x : Int32), Rn (sm_run (sm_call (D + 2)) c_R_readCame (m + 2) 27 [some (.ref 232), some (.int x)] [] u) (fun v => CS u0 b n t cl v (add 3 (rnv b n 0 9 σ) (rns b n 0 9 σ))) := by
    intro m x
    rw [z_R_readCame_27]
    simp only [h.tg, ↓h.r1, ↓reduceIte]
    refine Rn.ri (o_number H (lo := 0) (hi := 9) (by omega) (by omega) (by omega) h) (fun x1 v1 hv => ?_)
    obtain ⟨rfl, h1⟩ := hv
    simp only [h1.tT H.2.1, ↓reduceIte]
    refine (o_add H (o := 3) (v := rnv b n 0 9 σ) rfl (D + 2) (by omega) v1 _ h1).rv (fun v2 h2 => ?_)
    rw [z_R_readCame_36]
    exact Rn.ret h2
  unfold camF
  rw [k_R_readCame, z_R_readCame_0]
  simp only [h.tg, ↓reduceIte, c_kind H h (D + 1)]
  by_cases q : kn b n σ = 2
  · have hk2 : kdp b n σ.1 = 2 := by
      unfold kn at q
      by_cases z : σ.2.1 = 0
      · rw [if_pos z] at q; exact q
      · rw [if_neg z] at q; cases q
    have hd := kd_2.mp hk2
    have hst : sta b σ.1 = true := by
      rcases hp with e | e
      · omega
      · exact e.2
    have hv := ((h.tk H).1.2 σ.1 hd.1 hst).2.2 hd.2
    have hvl := vl_le (b := b) (n := n) (s := σ.1)
    have cc : (nI (cw (sta b) σ.1)).toNatClampNeg = cw (sta b) σ.1 := nI_clamp (by omega)
    rw [q, if_pos rfl]
    simp only [↓yk_232_0 hu, eq_true (yt_227 hu), ↓yk_227_3 hu, e2, in_231 hu (show cw (sta b) σ.1 < 301 by omega), cc, hv, ↓reduceIte]
    rw [z_R_readCame_13, s_isOneOf_k]
    by_cases q1 : vlp b n σ.1 < 10
    · rw [if_pos (⟨nI_pos' (by omega), nI_lt q1 (by omega)⟩ : 0 ≤ nI (vlp b n σ.1) ∧ nI (vlp b n σ.1) < nI 10), if_neg (by decide)]
      simp only [h.tg, ↓h.r1, h.tT H.2.1, e7, ↓reduceIte]
      by_cases q2 : evc cl ≤ vlp b n σ.1
      · rw [if_neg (show ¬ nI (vlp b n σ.1) < nI (evc cl) from fun z => by have := (nI_ltI (by omega) (by omega)).mp z; omega), if_pos (show True ∧ vlp b n σ.1 < 10 ∧ evc cl ≤ vlp b n σ.1 from ⟨trivial, q1, q2⟩)]
        refine (o_refuse H (k := 5) (by omega) (D + 2) (by omega) u σ h).rv (fun v1 h1 => ?_)
        rw [z_R_readCame_36]
        exact Rn.ret h1
      · rw [if_pos (show nI (vlp b n σ.1) < nI (evc cl) from nI_lt (by omega) (by omega)), if_neg (show ¬ (True ∧ vlp b n σ.1 < 10 ∧ evc cl ≤ vlp b n σ.1) from fun z => q2 z.2.2)]
        exact f27 _ _
    · rw [if_neg (fun z => q1 ((nI_ltI (by omega) (by omega)).mp z.2) : ¬ (0 ≤ nI (vlp b n σ.1) ∧ nI (vlp b n σ.1) < nI 10)), if_pos (show (0 : Int32) = 0 from rfl), if_neg (show ¬ (True ∧ vlp b n σ.1 < 10 ∧ evc cl ≤ vlp b n σ.1) from fun z => q1 z.2.1)]
      exact f27 _ _
  · rw [if_neg (fun z => q ((nI_eq (by omega) (by omega)).mp z)), z_R_readCame_11, z_R_readCame_13, s_isOneOf_k, if_neg (show ¬ (0 ≤ Int32.ofInt (-1) ∧ Int32.ofInt (-1) < nI 10) by decide), if_pos (show (0 : Int32) = 0 from rfl), if_neg (show ¬ (kn b n σ = 2 ∧ vlp b n σ.1 < 10 ∧ evc cl ≤ vlp b n σ.1) from fun z => q z.1)]
    exact f27 _ _
theorem o_one {u0 : sm_M} {b : Nat → Nat} {n t : Nat} {cl : Cls} (H : Cx u0 b n t) {D0 L : Nat} {pS pO pE : Rst → Rst} (hL : L ≤ 8) (hS : L ≠ 0 → Ok u0 b n t cl D0 79 [.ref 232, .int (nI (8 - L + 1))] pS) (hO : L ≠ 0 → Ok u0 b n t cl D0 81 [.ref 232, .int (nI (8 - L + 1))] pO) (hE : L ≠ 0 → Ok u0 b n t cl D0 73 [.ref 232, .int (nI (8 - L + 1))] pE) : Ok u0 b n t cl (D0 + 4) 81 [.ref 232, .int (nI (8 - L))] (oneF b n (decide (L ≠ 0)) pS pO pE) := by
  intro D hD u σ h
  obtain ⟨D, rfl⟩ : ∃ k, D = k + 4 := ⟨D - 4, by omega⟩
  have hl := kn_lt (b := b) (n := n) (σ := σ)
  have f64 : ∀ (m : Nat) (v : sm_M) (x : Int32) (σ' : Rst), CS u0 b n t cl v σ' → Rn (sm_run (sm_call (D + 3)) c_R_readOne (m + 1) 64 [some (.ref 232), some (.int (nI (8 - L))), some (.int x)] [] v) (fun v => CS u0 b n t cl v σ') := by
    intro m v x σ' hv
    rw [z_R_readOne_64]
    exact Rn.ret hv
  rw [k_R_readOne, z_R_readOne_0]
  simp only [h.tg, ↓reduceIte, c_kind H h (D + 2)]
  unfold oneF
  by_cases q2 : kn b n σ = 2
  · rw [if_pos q2]
    rw [q2, if_pos rfl]
    rw [z_R_readOne_5]
    simp only [h.tg, ↓h.r1, ↓reduceIte]
    refine Rn.ri (o_number H (lo := 0) (hi := 9999) (by omega) (by omega) (by omega) h) (fun x1 v1 hv => ?_)
    obtain ⟨rfl, h1⟩ := hv
    simp only [h1.tT H.2.1, ↓reduceIte]
    refine (o_add H (o := 0) (v := rnv b n 0 9999 σ) rfl (D + 3) (by omega) v1 _ h1).rv (fun v2 h2 => ?_)
    exact f64 _ _ _ _ h2
  by_cases q40 : kn b n σ = 40
  · rw [if_neg q2, if_pos q40]
    rw [q40, if_neg (by decide), if_pos rfl]
    rw [z_R_readOne_22]
    simp only [h.tg, ↓reduceIte]
    refine Rn.ri (o_opens H hL (by omega) h) (fun x1 v1 hv => ?_)
    obtain ⟨rfl, h1⟩ := hv
    by_cases z : L = 0
    · rw [if_pos z] at h1
      rw [if_pos z, if_pos (show (0 : Int32) = 0 from rfl), if_neg (show ¬ decide (L ≠ 0) = true by simp [z])]
      exact f64 _ _ _ _ h1
    · rw [if_neg z] at h1
      rw [if_neg z, if_neg (show ¬ (1 : Int32) = 0 by decide), if_pos (show decide (L ≠ 0) = true by simp [z]), nI_add]
      simp only [h1.tg, ↓reduceIte]
      refine (hS z (D + 3) (by omega) v1 _ h1).rv (fun v2 h2 => ?_)
      simp only [h2.tg, ↓reduceIte]
      refine (o_expect H (c := 41) (by omega) (D + 3) (by omega) v2 _ h2).rv (fun v3 h3 => ?_)
      exact f64 _ _ _ _ h3
  by_cases q45 : kn b n σ = 45
  · rw [if_neg q2, if_neg q40, if_pos q45]
    rw [q45, if_neg (by decide), if_neg (by decide), if_pos rfl]
    rw [z_R_readOne_35]
    simp only [h.tg, ↓reduceIte]
    refine Rn.ri (o_opens H hL (by omega) h) (fun x1 v1 hv => ?_)
    obtain ⟨rfl, h1⟩ := hv
    by_cases z : L = 0
    · rw [if_pos z] at h1
      rw [if_pos z, if_pos (show (0 : Int32) = 0 from rfl), if_neg (show ¬ decide (L ≠ 0) = true by simp [z])]
      exact f64 _ _ _ _ h1
    · rw [if_neg z] at h1
      rw [if_neg z, if_neg (show ¬ (1 : Int32) = 0 by decide), if_pos (show decide (L ≠ 0) = true by simp [z]), nI_add]
      simp only [h1.tg, ↓reduceIte]
      refine (hO z (D + 3) (by omega) v1 _ h1).rv (fun v2 h2 => ?_)
      simp only [h2.tg, ↓h2.r1, h2.tT H.2.1, ↓reduceIte]
      refine (o_add H (o := 5) (v := 0) rfl (D + 3) (by omega) v2 _ h2).rv (fun v3 h3 => ?_)
      exact f64 _ _ _ _ h3
  by_cases q218 : kn b n σ = 218
  · rw [if_neg q2, if_neg q40, if_neg q45, if_pos q218]
    rw [q218, if_neg (by decide), if_neg (by decide), if_neg (by decide), if_pos rfl]
    rw [z_R_readOne_50]
    simp only [h.tg, ↓reduceIte]
    refine Rn.ri (o_opens H hL (by omega) h) (fun x1 v1 hv => ?_)
    obtain ⟨rfl, h1⟩ := hv
    by_cases z : L = 0
    · rw [if_pos z] at h1
      rw [if_pos z, if_pos (show (0 : Int32) = 0 from rfl), if_neg (show ¬ decide (L ≠ 0) = true by simp [z])]
      exact f64 _ _ _ _ h1
    · rw [if_neg z] at h1
      rw [if_neg z, if_neg (show ¬ (1 : Int32) = 0 by decide), if_pos (show decide (L ≠ 0) = true by simp [z]), nI_add]
      simp only [h1.tg, ↓reduceIte]
      refine (o_cnt H (hE z) (D + 3) (by omega) v1 _ h1).rv (fun v2 h2 => ?_)
      exact f64 _ _ _ _ h2
  by_cases q219 : kn b n σ = 219
  · rw [if_neg q2, if_neg q40, if_neg q45, if_neg q218, if_pos q219]
    rw [q219, if_neg (by decide), if_neg (by decide), if_neg (by decide), if_neg (by decide), if_pos rfl]
    rw [z_R_readOne_14]
    simp only [h.tg, ↓reduceIte]
    refine (o_goOn H (D + 3) (by omega) u σ h).rv (fun v1 h1 => ?_)
    simp only [h1.tg, ↓h1.r1, h1.tT H.2.1, ↓reduceIte]
    refine (o_add H (o := 1) (v := 0) rfl (D + 3) (by omega) v1 _ h1).rv (fun v2 h2 => ?_)
    exact f64 _ _ _ _ h2
  by_cases q220 : kn b n σ = 220
  · rw [if_neg q2, if_neg q40, if_neg q45, if_neg q218, if_neg q219, if_pos q220]
    rw [q220, if_neg (by decide), if_neg (by decide), if_neg (by decide), if_neg (by decide), if_neg (by decide), if_pos rfl]
    rw [z_R_readOne_14]
    simp only [h.tg, ↓reduceIte]
    refine (o_goOn H (D + 3) (by omega) u σ h).rv (fun v1 h1 => ?_)
    simp only [h1.tg, ↓h1.r1, h1.tT H.2.1, ↓reduceIte]
    refine (o_add H (o := 1) (v := 1) rfl (D + 3) (by omega) v1 _ h1).rv (fun v2 h2 => ?_)
    exact f64 _ _ _ _ h2
  by_cases q221 : kn b n σ = 221
  · rw [if_neg q2, if_neg q40, if_neg q45, if_neg q218, if_neg q219, if_neg q220, if_pos q221]
    rw [q221, if_neg (by decide), if_neg (by decide), if_neg (by decide), if_neg (by decide), if_neg (by decide), if_neg (by decide), if_pos rfl]
    rw [z_R_readOne_14]
    simp only [h.tg, ↓reduceIte]
    refine (o_goOn H (D + 3) (by omega) u σ h).rv (fun v1 h1 => ?_)
    simp only [h1.tg, ↓h1.r1, h1.tT H.2.1, ↓reduceIte]
    refine (o_add H (o := 1) (v := 2) rfl (D + 3) (by omega) v1 _ h1).rv (fun v2 h2 => ?_)
    exact f64 _ _ _ _ h2
  rw [if_neg q2, if_neg q40, if_neg q45, if_neg q218, if_neg q219, if_neg q220, if_neg q221]
  rw [if_neg (fun z => q2 ((nI_eq (by omega) (by omega)).mp z)), if_neg (fun z => q40 ((nI_eq (by omega) (by omega)).mp z)), if_neg (fun z => q45 ((nI_eq (by omega) (by omega)).mp z)), if_neg (fun z => q218 ((nI_eq (by omega) (by omega)).mp z)), if_neg (fun z => q219 ((nI_eq (by omega) (by omega)).mp z)), if_neg (fun z => q220 ((nI_eq (by omega) (by omega)).mp z)), if_neg (fun z => q221 ((nI_eq (by omega) (by omega)).mp z)), z_R_readOne_60]
  simp only [h.tg, ↓reduceIte]
  refine (o_refuse H (k := 1) (by omega) (D + 3) (by omega) u σ h).rv (fun v1 h1 => ?_)
  exact f64 _ _ _ _ h1
theorem o_ask {u0 : sm_M} {b : Nat → Nat} {n t : Nat} {cl : Cls} (H : Cx u0 b n t) {D0 L : Nat} {pA cmp : Rst → Rst} (hL : L ≤ 8) (hA : L ≠ 0 → Ok u0 b n t cl D0 75 [.ref 232, .int (nI (8 - L + 1))] pA) (hc : Ok u0 b n t cl D0 78 [.ref 232, .int (nI (8 - L))] cmp) : Ok u0 b n t cl (D0 + 4) 75 [.ref 232, .int (nI (8 - L))] (askF b n (evc cl) (decide (L ≠ 0)) pA cmp) := by
  intro D hD u σ h
  obtain ⟨D, rfl⟩ : ∃ k, D = k + 4 := ⟨D - 4, by omega⟩
  have hl := kn_lt (b := b) (n := n) (σ := σ)
  have f38 : ∀ (m : Nat) (v : sm_M) (σ' : Rst), CS u0 b n t cl v σ' → Rn (sm_run (sm_call (D + 3)) c_R_readAsk (m + 1) 38 [some (.ref 232), some (.int (nI (8 - L)))] [] v) (fun v => CS u0 b n t cl v σ') := by
    intro m v σ' hv
    rw [z_R_readAsk_38]
    exact Rn.ret hv
  rw [k_R_readAsk, z_R_readAsk_0]
  simp only [h.tg, ↓reduceIte, c_kind H h (D + 2)]
  unfold askF
  by_cases q1 : kn b n σ = 215
  · rw [if_pos q1, q1, if_pos rfl, z_R_readAsk_3]
    simp only [h.tg, ↓reduceIte]
    refine Rn.ri (o_opens H hL (by omega) h) (fun x1 v1 hv => ?_)
    obtain ⟨rfl, h1⟩ := hv
    by_cases z : L = 0
    · rw [if_pos z] at h1
      rw [if_pos z, if_pos (show (0 : Int32) = 0 from rfl), if_neg (show ¬ decide (L ≠ 0) = true by simp [z])]
      exact f38 _ _ _ h1
    · rw [if_neg z] at h1
      rw [if_neg z, if_neg (show ¬ (1 : Int32) = 0 by decide), if_pos (show decide (L ≠ 0) = true by simp [z]), nI_add]
      simp only [h1.tg, ↓reduceIte]
      refine (hA z (D + 3) (by omega) v1 _ h1).rv (fun v2 h2 => ?_)
      simp only [h2.tg, ↓h2.r1, h2.tT H.2.1, ↓reduceIte]
      refine (o_add H (o := 20) (v := 0) rfl (D + 3) (by omega) v2 _ h2).rv (fun v3 h3 => ?_)
      exact f38 _ _ _ h3
  · rw [if_neg q1, if_neg (fun z => q1 ((nI_eq (by omega) (by omega)).mp z))]
    by_cases q2 : kn b n σ = 216
    · rw [if_pos q2, q2, if_pos rfl, z_R_readAsk_18]
      simp only [h.tg, ↓reduceIte]
      refine (o_goOn H (D + 3) (by omega) u σ h).rv (fun v0 h0 => ?_)
      simp only [h0.tg, ↓h0.r1, ↓reduceIte]
      refine Rn.ri (o_number H (lo := 0) (hi := 7) (by omega) (by omega) (by omega) h0) (fun x1 v1 hv => ?_)
      obtain ⟨rfl, h1⟩ := hv
      simp only [h1.tT H.2.1, ↓reduceIte]
      refine (o_add H (o := 2) (v := rnv b n 0 7 (adv b n σ)) rfl (D + 3) (by omega) v1 _ h1).rv (fun v2 h2 => ?_)
      exact f38 _ _ _ h2
    · rw [if_neg q2, if_neg (fun z => q2 ((nI_eq (by omega) (by omega)).mp z))]
      by_cases q3 : kn b n σ = 217
      · rw [if_pos q3, q3, if_pos rfl, z_R_readAsk_29]
        simp only [h.tg, ↓reduceIte]
        refine (o_goOn H (D + 3) (by omega) u σ h).rv (fun v0 h0 => ?_)
        simp only [h0.tg, ↓reduceIte]
        refine (o_came H (D + 3) (by omega) v0 _ h0).rv (fun v1 h1 => ?_)
        exact f38 _ _ _ h1
      · rw [if_neg q3, if_neg (fun z => q3 ((nI_eq (by omega) (by omega)).mp z)), z_R_readAsk_34]
        simp only [h.tg, ↓reduceIte]
        refine (hc (D + 3) (by omega) u σ h).rv (fun v1 h1 => ?_)
        exact f38 _ _ _ h1
/-- all levels -/
theorem o_lvF {u0 : sm_M} {b : Nat → Nat} {n t : Nat} {cl : Cls} (H : Cx u0 b n t) {D0 L : Nat} (hL : L ≤ 8) {p : Nat → Rst → Rst} (hA : L ≠ 0 → Ok u0 b n t cl D0 75 [.ref 232, .int (nI (8 - L + 1))] (p 0)) (hS : L ≠ 0 → Ok u0 b n t cl D0 79 [.ref 232, .int (nI (8 - L + 1))] (p 1)) (hO : L ≠ 0 → Ok u0 b n t cl D0 81 [.ref 232, .int (nI (8 - L + 1))] (p 2)) (hE : L ≠ 0 → Ok u0 b n t cl D0 73 [.ref 232, .int (nI (8 - L + 1))] (p 3)) :
    Ok u0 b n t cl (D0 + 18) 75 [.ref 232, .int (nI (8 - L))] (lvF b n (evc cl) (decide (L ≠ 0)) p 0) ∧ Ok u0 b n t cl (D0 + 18) 79 [.ref 232, .int (nI (8 - L))] (lvF b n (evc cl) (decide (L ≠ 0)) p 1) ∧ Ok u0 b n t cl (D0 + 18) 81 [.ref 232, .int (nI (8 - L))] (lvF b n (evc cl) (decide (L ≠ 0)) p 2) ∧ Ok u0 b n t cl (D0 + 18) 73 [.ref 232, .int (nI (8 - L))] (lvF b n (evc cl) (decide (L ≠ 0)) p 3) := by
  have h1 := o_one H hL hS hO hE
  have h2 := o_sum H (o_prd H h1)
  have h3 := o_cmp H h2
  have h4 := o_ask H hL (fun z => (hA z).le (show D0 ≤ D0 + 4 + 2 + 2 + 2 by omega)) h3
  have h5 := o_eit H (o_bot H h4)
  exact ⟨h4.le (by omega), h2.le (by omega), h1.le (by omega), h5.le (by omega)⟩
theorem o_lvl {u0 : sm_M} {b : Nat → Nat} {n t : Nat} {cl : Cls} (H : Cx u0 b n t) : ∀ L, L ≤ 8 → Ok u0 b n t cl (18 * (L + 1)) 75 [.ref 232, .int (nI (8 - L))] (lvl b n (evc cl) L 0) ∧ Ok u0 b n t cl (18 * (L + 1)) 79 [.ref 232, .int (nI (8 - L))] (lvl b n (evc cl) L 1) ∧ Ok u0 b n t cl (18 * (L + 1)) 81 [.ref 232, .int (nI (8 - L))] (lvl b n (evc cl) L 2) ∧ Ok u0 b n t cl (18 * (L + 1)) 73 [.ref 232, .int (nI (8 - L))] (lvl b n (evc cl) L 3)
  | 0, _ => by
    have h := o_lvF (D0 := 0) (L := 0) (cl := cl) H (by omega) (p := fun _ σ => σ) (fun z => absurd rfl z) (fun z => absurd rfl z) (fun z => absurd rfl z) (fun z => absurd rfl z)
    exact h
  | L + 1, hL => by
    have ih := o_lvl (cl := cl) H L (by omega)
    have e : 8 - (L + 1) + 1 = 8 - L := by omega
    have h := o_lvF (D0 := 18 * (L + 1)) (L := L + 1) (cl := cl) H hL (p := lvl b n (evc cl) L) (fun _ => by rw [e]; exact ih.1) (fun _ => by rw [e]; exact ih.2.1) (fun _ => by rw [e]; exact ih.2.2.1) (fun _ => by rw [e]; exact ih.2.2.2)
    rw [show 18 * (L + 1) + 18 = 18 * (L + 1 + 1) by omega] at h
    exact h
theorem l_wh {u0 : sm_M} {b : Nat → Nat} {n t : Nat} {cl : Cls} (H : Cx u0 b n t) {D0 : Nat} {eit : Rst → Rst} (ho : Ok u0 b n t cl D0 73 [.ref 232, .int (nI 0)] eit) {D : Nat} (hD : D0 ≤ D + 1) : ∀ (j i m c : Nat) (u : sm_M) (σ : Rst), i + j = 300 → c ≤ i → CS u0 b n t cl u σ → j + 400 ≤ m → Rn (sm_run (sm_call (D + 1)) c_R_readWhole m 8 [some (.ref 232), some (.int (nI c)), some (.int (nI i))] [] u) (fun v => CS u0 b n t cl v (adN (whL b n eit j c σ).1 (whL b n eit j c σ).2)) := by
  -- the joins
  have jn : ∀ (k i m c : Nat) (u : sm_M) (σ : Rst), i + k = c → c ≤ 300 → CS u0 b n t cl u σ → k + 2 ≤ m → Rn (sm_run (sm_call (D + 1)) c_R_readWhole m 26 [some (.ref 232), some (.int (nI c)), some (.int (nI i))] [] u) (fun v => CS u0 b n t cl v (adN k σ)) := by
    intro k
    induction k with
    | zero =>
      intro i m c u σ hi hc h hm
      obtain ⟨m, rfl⟩ : ∃ q, m = q + 2 := ⟨m - 2, by omega⟩
      have hi : i = c := hi
      subst hi
      rw [z_R_readWhole_26, if_pos (Int32.le_refl _), z_R_readWhole_36]
      exact Rn.ret h
    | succ k ih =>
      intro i m c u σ hi hc h hm
      obtain ⟨m, rfl⟩ : ∃ q, m = q + 1 := ⟨m - 1, by omega⟩
      rw [z_R_readWhole_26, if_neg (fun z => by have := (nI_leI (by omega) (by omega)).mp z; omega)]
      simp only [h.tg, ↓h.r1, h.tT H.2.1, ↓reduceIte]
      refine (o_add H (o := 23) (v := 0) rfl (D + 1) (by omega) u _ h).rv (fun v1 h1 => ?_)
      rw [nI_add]
      exact ih (i + 1) m c v1 _ (by omega) hc h1 (by omega)
  intro j
  induction j with
  | zero =>
    intro i m c u σ hi hc h hm
    obtain ⟨m, rfl⟩ : ∃ k, m = k + 2 := ⟨m - 2, by omega⟩
    have hi : i = 300 := hi
    subst hi
    rw [z_R_readWhole_8, if_pos (by decide), z_R_readWhole_23]
    exact jn c 0 m c u σ (by omega) (by omega) h (by omega)
  | succ j ih =>
    intro i m c u σ hi hc h hm
    obtain ⟨m, rfl⟩ : ∃ k, m = k + 2 := ⟨m - 2, by omega⟩
    have hlt : ¬ nI 300 ≤ nI i := fun z => by have := (nI_leI (by omega) (by omega)).mp z; omega
    have hl := kn_lt (b := b) (n := n) (σ := σ)
    have e0 : whL b n eit (j + 1) c σ = if kn b n σ = 212 then whL b n eit j (c + 1) (eit (adv b n σ)) else (c, σ) := rfl
    rw [z_R_readWhole_8, if_neg hlt]
    simp only [h.tg, ↓reduceIte, c_kind H h D]
    by_cases q1 : kn b n σ = 212
    · rw [e0, if_pos q1, q1, if_pos rfl]
      refine (o_goOn H (D + 1) (by omega) u σ h).rv (fun v1 h1 => ?_)
      simp only [h1.tg, ↓reduceIte]
      refine (ho (D + 1) hD v1 _ h1).rv (fun v2 h2 => ?_)
      rw [nI_add, nI_add]
      exact ih (i + 1) (m + 1) (c + 1) v2 _ (by omega) (by omega) h2 (by omega)
    · rw [e0, if_neg q1, if_neg (fun z => q1 ((nI_eq (by omega) (by omega)).mp z)), z_R_readWhole_23]
      exact jn c 0 m c u σ (by omega) (by omega) h (by omega)
theorem o_wh {u0 : sm_M} {b : Nat → Nat} {n t : Nat} {cl : Cls} (H : Cx u0 b n t) : Ok u0 b n t cl 170 72 [.ref 232] (whF b n (lvl b n (evc cl) 8 3)) := by
  intro D hD u σ h
  obtain ⟨D, rfl⟩ : ∃ k, D = k + 2 := ⟨D - 2, by omega⟩
  have ho := (o_lvl (cl := cl) H 8 (by omega)).2.2.2
  rw [k_R_readWhole, z_R_readWhole_0]
  simp only [h.tg, ↓reduceIte]
  refine (ho (D + 1) (by omega) u σ h).rv (fun v1 h1 => ?_)
  exact l_wh H ho (by omega) 300 0 _ 0 v1 _ (by omega) (by omega) h1 (by omega)
