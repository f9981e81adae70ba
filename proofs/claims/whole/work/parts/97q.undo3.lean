/-! undo: the class -/
theorem z_T_pop_0 (C : Nat → List Value → sm_M → sm_R) (n : Nat) (u : sm_M) (a0 a1 : Nat) : sm_run C c_T_pop (n + 1) 0 [some (.ref a0), some (.ref a1)] [] u = if sm_tg u a0 = 103 then (if (sm_I u a0 2) = 0 then (if (nI 0) = 0 ∨ (nI 0) = 1 then some (some (.int (nI 0)), u) else none) else (sm_run C c_T_pop n 5 [some (.ref a0), some (.ref a1)] [] u)) else none := q_T_pop_0 C n u a0 a1
theorem z_U_takeBack_0 (C : Nat → List Value → sm_M → sm_R) (n : Nat) (u : sm_M) (a0 : Nat) : sm_run C c_U_takeBack (n + 1) 0 [some (.ref a0)] [] u = if sm_tg u a0 = 104 then sm_rr (sm_Rf u a0 1) (fun q1 => if sm_tg u a0 = 104 then sm_rr (sm_Rf u a0 0) (fun q2 => if sm_tg u q1 = 103 then (sm_ri (C 21 [.ref q1, .ref q2] u) (fun x4 u3 => if x4 = 0 then (sm_run C c_U_takeBack n 10 [some (.ref a0)] [] u3) else (if sm_tg u3 a0 = 104 then sm_rr (sm_Rf u3 a0 1) (fun q5 => if sm_tg u3 q5 = 103 then (sm_run C c_U_takeBack n 12 [some (.ref a0)] [.int (sm_I u3 q5 2)] u3) else none) else none))) else none) else none) else none := q_U_takeBack_0 C n u a0
theorem z_U_takeBack_10 (C : Nat → List Value → sm_M → sm_R) (n : Nat) (u : sm_M) (a0 : Nat) : sm_run C c_U_takeBack (n + 1) 10 [some (.ref a0)] [] u = sm_run C c_U_takeBack n 12 [some (.ref a0)] [.int (Int32.ofInt (-1))] u := q_U_takeBack_10 C n u a0
theorem z_U_takeBack_12 (C : Nat → List Value → sm_M → sm_R) (n : Nat) (u : sm_M) (a0 : Nat) (s0 : Int32) : sm_run C c_U_takeBack (n + 1) 12 [some (.ref a0)] [.int s0] u = some (some (.int s0), u) := q_U_takeBack_12 C n u a0 s0
theorem z_S_goBackTo_0 (C : Nat → List Value → sm_M → sm_R) (n : Nat) (u : sm_M) (a0 a1 : Nat) : sm_run C c_S_goBackTo (n + 1) 0 [some (.ref a0), some (.ref a1), none] [] u = if sm_tg u a1 = 100 then (if sm_tg u a0 = 100 then (if sm_tg u a1 = 100 then (if sm_tg u a0 = 100 then (sm_lt (sm_wI u a0 3 (((sm_I u a0 3) &&& ((((nI 1) <<< ((sm_I u a1 0) &&& 31)) - (nI 1)) ^^^ (Int32.ofInt (-1)))) ||| ((sm_I u a1 3) &&& (((nI 1) <<< ((sm_I u a1 0) &&& 31)) - (nI 1))))) (fun u1 => if sm_tg u1 a1 = 100 then (if sm_tg u1 a0 = 100 then (sm_lt (sm_wI u1 a0 4 (sm_I u1 a1 4)) (fun u2 => if sm_tg u2 a1 = 100 then sm_rr (sm_Rf u2 a1 5) (fun q3 => if sm_tg u2 a0 = 100 then sm_rr (sm_Rf u2 a0 5) (fun q4 => if sm_tg u2 a1 = 100 then (if sm_tg u2 q3 = 1 ∧ sm_tg u2 q4 = 1 ∧ 0 ≤ (nI 0) ∧ 0 ≤ (nI 0) ∧ 0 ≤ (sm_I u2 a1 2) ∧ (nI 0).toNatClampNeg + (sm_I u2 a1 2).toNatClampNeg ≤ sm_ln u2 q3 ∧ (nI 0).toNatClampNeg + (sm_I u2 a1 2).toNatClampNeg ≤ sm_ln u2 q4 then (sm_lt (sm_wC u2 q3 q4 (nI 0).toNatClampNeg (nI 0).toNatClampNeg (sm_I u2 a1 2).toNatClampNeg) (fun u5 => if sm_tg u5 a1 = 100 then sm_rr (sm_Rf u5 a1 6) (fun q6 => if sm_tg u5 a0 = 100 then sm_rr (sm_Rf u5 a0 6) (fun q7 => if sm_tg u5 a1 = 100 then (if sm_tg u5 q6 = 1 ∧ sm_tg u5 q7 = 1 ∧ 0 ≤ (nI 0) ∧ 0 ≤ (nI 0) ∧ 0 ≤ (sm_I u5 a1 1) ∧ (nI 0).toNatClampNeg + (sm_I u5 a1 1).toNatClampNeg ≤ sm_ln u5 q6 ∧ (nI 0).toNatClampNeg + (sm_I u5 a1 1).toNatClampNeg ≤ sm_ln u5 q7 then (sm_lt (sm_wC u5 q6 q7 (nI 0).toNatClampNeg (nI 0).toNatClampNeg (sm_I u5 a1 1).toNatClampNeg) (fun u8 => some (none, u8))) else none) else none) else none) else none)) else none) else none) else none) else none)) else none) else none)) else none) else none) else none) else none := q_S_goBackTo_0 C n u a0 a1
theorem z_T_pop_5 (C : Nat → List Value → sm_M → sm_R) (n : Nat) (u : sm_M) (a0 a1 : Nat) : sm_run C c_T_pop (n + 1) 5 [some (.ref a0), some (.ref a1)] [] u = if sm_tg u a0 = 103 then (if sm_tg u a0 = 103 then (sm_lt (sm_wI u a0 2 ((sm_I u a0 2) - (nI 1))) (fun u1 => if sm_tg u1 a0 = 103 then sm_rr (sm_Rf u1 a0 0) (fun q2 => if sm_tg u1 a0 = 103 then (if sm_tg u1 a0 = 103 then (if (nI 30) = 0 then none else (if 4 ≤ sm_tg u1 q2 ∧ sm_tg u1 q2 ≤ 6 ∧ ¬ ((((sm_I u1 a0 1) + (sm_I u1 a0 2)) - ((sm_I u1 a0 1) + (sm_I u1 a0 2)) / (nI 30) * (nI 30)) < 0 ∨ sm_ln u1 q2 ≤ (((sm_I u1 a0 1) + (sm_I u1 a0 2)) - ((sm_I u1 a0 1) + (sm_I u1 a0 2)) / (nI 30) * (nI 30)).toNatClampNeg) then sm_rr (sm_Rf u1 q2 (((sm_I u1 a0 1) + (sm_I u1 a0 2)) - ((sm_I u1 a0 1) + (sm_I u1 a0 2)) / (nI 30) * (nI 30)).toNatClampNeg) (fun q3 => if sm_tg u1 a1 = 100 then (sm_rv (C 5 [.ref a1, .ref q3] u1) (fun u4 => if (nI 1) = 0 ∨ (nI 1) = 1 then some (some (.int (nI 1)), u4) else none)) else none) else none)) else none) else none) else none)) else none) else none := q_T_pop_5 C n u a0 a1
theorem z_W_undo_0 (C : Nat → List Value → sm_M → sm_R) (n : Nat) (u : sm_M) (a0 : Nat) : sm_run C c_W_undo (n + 1) 0 [some (.ref a0)] [] u = if sm_tg u a0 = 111 then sm_rr (sm_Rf u a0 0) (fun q1 => if sm_tg u q1 = 104 then (sm_ri (C 43 [.ref q1] u) (fun x3 u2 => some (some (.int x3), u2))) else none) else none := q_W_undo_0 C n u a0
theorem und_was {A : Nat → Int32} (h : MA A) (h0 : 0 < nS A) : wasN A &&& ((2 ^ nC (blk A (nS A - 1)) - 1) ^^^ (2 ^ 32 - 1)) ||| pkb (blk A (nS A - 1)) (nC (blk A (nS A - 1))) &&& (2 ^ nC (blk A (nS A - 1)) - 1) = wasN (Fund A) := by
  have b := MAb h
  have hb : nC A ≤ 8 ∧ nP A ≤ 10 ∧ nR A ≤ 6 := ⟨b.1, b.2.1, b.2.2.1⟩
  obtain ⟨nCe, nPe, nRe, -⟩ := U_n hb
  obtain ⟨wB, tB⟩ := h.2.2.2.2.2.2.2.2.2.2.2 (nS A - 1) (by omega)
  have eL : bk A (nS A - 1 + 1) = lvb A := if_neg (by omega)
  rw [eL] at tB
  obtain ⟨g1, g2, g3, g4, g5, g6⟩ := tB
  have g1 : nC (blk A (nS A - 1)) ≤ nC A := g1
  have hU := MA_undo h h0
  have hUb : ∀ c, c < nC (Fund A) → lt_ (lvb (Fund A) (4 + c)) 2 := hU.1.2.2.2.2.1
  have hAb : ∀ c, c < nC A → lt_ (lvb A (4 + c)) 2 := h.1.2.2.2.2.1
  have hBb : ∀ c, c < nC (blk A (nS A - 1)) → lt_ (blk A (nS A - 1) (4 + c)) 2 := wB.2.2.2.2.1
  apply Nat.eq_of_testBit_eq
  intro i
  unfold wasN
  rw [Nat.testBit_or, Nat.testBit_and, Nat.testBit_xor, Nat.testBit_and, pkb_tb hAb, pkb_tb hBb, pkb_tb hUb, Nat.testBit_two_pow_sub_one, Nat.testBit_two_pow_sub_one, nCe]
  by_cases hi : i < nC A
  · have h32 : i < 32 := by omega
    rw [lv_c (Fund A) (by omega), U_c hb hi]
    unfold uC
    by_cases hB : i < nC (blk A (nS A - 1))
    · simp [hi, hB, h32]
    · have := g4 i (by omega) hi
      rw [this]
      simp [hi, hB, h32]
  · have hB : ¬ i < nC (blk A (nS A - 1)) := by omega
    simp [hi, hB]
theorem c_undo {u : sm_M} {A : Nat → Int32} (h : CR u A) (d : Nat) : ∃ w, sm_call (d + 3) 43 [.ref 1] u = some (some (.int (Fundo A).2), w) ∧ FrP Pc u w ∧ CR w (Fundo A).1 := by
  have hu := h.ly
  have b := nr_b h
  have hb : nC A ≤ 8 ∧ nP A ≤ 10 ∧ nR A ≤ 6 := ⟨b.1, b.2.1, b.2.2.1⟩
  obtain ⟨s1, ⟨f, hf, t1, t2, t3⟩, s3, s4, s5, s6, s7, s8⟩ := h.2.2.2.1
  have t1 : sm_I u 5 1 = nI f := t1
  have t2 : sm_I u 5 2 = nI (nS A) := (show sm_I u 5 2 = A 7 from t2).trans (nr_S h)
  unfold Fundo
  rw [k_U_takeBack]
  by_cases h0 : nS A = 0
  · rw [if_pos h0]
    have e : sm_call (d + 2) 21 [.ref 5, .ref 2] u = some (some (.int (nI 0)), u) := by
      rw [k_T_pop]
      simp -implicitDefEqProofs (disch := first | assumption | exact Ly.wI (by assumption) | omega | ((repeat (refine Ly.wI ?_)); assumption)) only [↓reduceIte, rr_s, ri_s, rl_s, rv_s, ↓lt_s1, ↓rr_s, ↓ri_s, ↓rl_s, ↓rv_s, wI_tg, wI_ln, wI_rf, zr0, zr1, emn, bz0, bz1, oi, nI_add, nI_mul, nI_clamp, nI_leI, nI_ltI, nI_eq, nI_lt0, ne_m1, m1_ne, m1_le, m1_lt, le_m1, lt_m1, not_true_eq_false, not_false_eq_true, true_and, and_true, false_and, and_false, or_true, true_or, or_false, false_or, and_self, Nat.zero_le, ite_self, Bool.false_eq_true, e10, e01, nI_eq0, nI_eq1, nI_ge0, m1_ge0, m1_lt0, nne, nle, yle, nlt, ylt, yt_0, yt_1, yt_2, yt_3, yl_3, yt_4, yl_4, yt_5, yt_6, yl_6, yt_97, yl_97, yt_98, yl_98, yt_99, yl_99, yt_100, yl_100, yt_101, yl_101, yt_102, yl_102, yt_103, yt_114, yt_115, yt_116, yl_116, yt_117, yl_117, yt_118, yt_119, yl_119, yt_210, yl_210, yt_211, yl_211, yt_212, yl_212, yt_213, yl_213, yt_214, yl_214, yt_215, yl_215, yt_216, yt_227, yt_228, yl_228, yt_229, yl_229, yt_230, yl_230, yt_231, yl_231, yt_232, yt_233, yt_234, yl_234, yt_235, yl_235, yt_236, yt_237, yl_237, yt_238, yl_238, yt_239, yl_239, yt_240, yl_240, yt_241, yl_241, yt_242, yl_242, yt_243, yt_244, yl_244, yt_245, yl_245, yt_246, yl_246, yt_247, yl_247, yt_248, yl_248, yt_249, yl_249, yt_250, yt_251, yl_251, yt_252, yl_252, yt_253, yl_253, yt_254, yl_254, yt_255, yl_255, yt_256, yl_256, yt_257, yt_258, yl_258, yt_259, yl_259, yt_260, yl_260, yt_261, yl_261, yt_262, yl_262, yt_263, yl_263, yt_264, yt_265, yl_265, yt_266, yl_266, yt_267, yl_267, yt_268, yt_269, yl_269, yt_270, yl_270, yt_271, yt_272, yl_272, yt_273, yl_273, yt_274, yl_274, yt_275, yt_276, yl_276, yt_277, yl_277, yt_278, yl_278, yt_279, yl_279, yt_280, yl_280, yt_281, yl_281, yt_282, yl_282, yt_283, yl_283, yt_284, yl_284, yt_285, yl_285, yt_286, yl_286, yt_287, yl_287, yt_288, yl_288, yt_289, yl_289, yt_290, yl_290, yt_291, yl_291, yt_292, yl_292, yt_293, yl_293, yr_0_0, yr_0_1, yr_0_2, yr_0_3, yr_0_4, yr_0_5, yr_0_6, yr_0_7, yr_1_0, yr_1_1, yr_1_2, yr_1_3, yr_1_4, yr_1_5, yr_1_6, yr_1_7, yr_1_8, yr_2_5, yr_2_6, yr_5_0, yr_114_0, yr_114_1, yr_114_2, yr_114_3, yr_114_4, yr_114_5, yr_114_6, yr_114_7, yr_114_8, yr_115_5, yr_115_6, yr_118_0, yr_227_0, yr_227_1, yr_227_2, yr_227_3, yr_232_0, yr_233_0, yr_233_1, yr_233_2, yr_236_0, yr_236_1, yr_236_2, yr_236_3, yr_236_4, yr_236_5, yr_243_0, yr_243_1, yr_243_2, yr_243_3, yr_243_4, yr_243_5, yr_250_0, yr_250_1, yr_250_2, yr_250_3, yr_250_4, yr_250_5, yr_257_0, yr_257_1, yr_257_2, yr_257_3, yr_257_4, yr_257_5, yr_264_0, yr_264_1, yr_264_2, yr_264_3, yr_264_4, yr_268_0, yr_268_1, yr_268_2, yr_268_3, yr_271_0, yr_271_1, yr_271_2, yr_271_3, yr_271_4, yr_275_0, yr_275_1, yr_275_2, yr_275_3, yr_275_15, yr_275_16, yr_275_22, yr_275_23, yr_275_24, yr_275_25, yr_275_26, yr_275_27, yr_275_28, yr_275_29, yr_275_30, yr_275_31, yr_275_32, yr_275_33, ↓yk_0_0, ↓yk_0_1, ↓yk_0_2, ↓yk_0_3, ↓yk_0_4, ↓yk_0_5, ↓yk_0_6, ↓yk_0_7, ↓yk_1_0, ↓yk_1_1, ↓yk_1_2, ↓yk_1_3, ↓yk_1_4, ↓yk_1_5, ↓yk_1_6, ↓yk_1_7, ↓yk_1_8, ↓yk_2_5, ↓yk_2_6, ↓yk_5_0, ↓yk_114_0, ↓yk_114_1, ↓yk_114_2, ↓yk_114_3, ↓yk_114_4, ↓yk_114_5, ↓yk_114_6, ↓yk_114_7, ↓yk_114_8, ↓yk_115_5, ↓yk_115_6, ↓yk_118_0, ↓yk_227_0, ↓yk_227_1, ↓yk_227_2, ↓yk_227_3, ↓yk_232_0, ↓yk_233_0, ↓yk_233_1, ↓yk_233_2, ↓yk_236_0, ↓yk_236_1, ↓yk_236_2, ↓yk_236_3, ↓yk_236_4, ↓yk_236_5, ↓yk_243_0, ↓yk_243_1, ↓yk_243_2, ↓yk_243_3, ↓yk_243_4, ↓yk_243_5, ↓yk_250_0, ↓yk_250_1, ↓yk_250_2, ↓yk_250_3, ↓yk_250_4, ↓yk_250_5, ↓yk_257_0, ↓yk_257_1, ↓yk_257_2, ↓yk_257_3, ↓yk_257_4, ↓yk_257_5, ↓yk_264_0, ↓yk_264_1, ↓yk_264_2, ↓yk_264_3, ↓yk_264_4, ↓yk_268_0, ↓yk_268_1, ↓yk_268_2, ↓yk_268_3, ↓yk_271_0, ↓yk_271_1, ↓yk_271_2, ↓yk_271_3, ↓yk_271_4, ↓yk_275_0, ↓yk_275_1, ↓yk_275_2, ↓yk_275_3, ↓yk_275_15, ↓yk_275_16, ↓yk_275_22, ↓yk_275_23, ↓yk_275_24, ↓yk_275_25, ↓yk_275_26, ↓yk_275_27, ↓yk_275_28, ↓yk_275_29, ↓yk_275_30, ↓yk_275_31, ↓yk_275_32, ↓yk_275_33, in_3, in_4, in_97, in_99, in_100, in_101, in_102, in_116, in_117, in_210, in_212, in_213, in_214, in_215, in_228, in_229, in_230, in_231, in_235, in_237, in_238, in_239, in_240, in_241, in_242, in_244, in_245, in_246, in_247, in_248, in_249, in_251, in_252, in_253, in_254, in_255, in_256, in_258, in_259, in_260, in_261, in_262, in_263, in_265, in_266, in_267, in_269, in_270, in_272, in_273, in_274, in_276, in_277, in_278, in_279, in_280, in_281, in_282, in_283, in_284, in_285, in_286, in_287, in_288, in_289, in_290, in_291, in_292, in_293, ia_6, ia_98, ia_119, ia_211, ia_234, z_T_pop_0, t2, h0]
    refine ⟨u, ?_, FrP.rf, h⟩
    simp -implicitDefEqProofs (disch := first | assumption | exact Ly.wI (by assumption) | omega | ((repeat (refine Ly.wI ?_)); assumption)) only [↓reduceIte, rr_s, ri_s, rl_s, rv_s, ↓lt_s1, ↓rr_s, ↓ri_s, ↓rl_s, ↓rv_s, wI_tg, wI_ln, wI_rf, zr0, zr1, emn, bz0, bz1, oi, nI_add, nI_mul, nI_clamp, nI_leI, nI_ltI, nI_eq, nI_lt0, ne_m1, m1_ne, m1_le, m1_lt, le_m1, lt_m1, not_true_eq_false, not_false_eq_true, true_and, and_true, false_and, and_false, or_true, true_or, or_false, false_or, and_self, Nat.zero_le, ite_self, Bool.false_eq_true, e10, e01, nI_eq0, nI_eq1, nI_ge0, m1_ge0, m1_lt0, nne, nle, yle, nlt, ylt, yt_0, yt_1, yt_2, yt_3, yl_3, yt_4, yl_4, yt_5, yt_6, yl_6, yt_97, yl_97, yt_98, yl_98, yt_99, yl_99, yt_100, yl_100, yt_101, yl_101, yt_102, yl_102, yt_103, yt_114, yt_115, yt_116, yl_116, yt_117, yl_117, yt_118, yt_119, yl_119, yt_210, yl_210, yt_211, yl_211, yt_212, yl_212, yt_213, yl_213, yt_214, yl_214, yt_215, yl_215, yt_216, yt_227, yt_228, yl_228, yt_229, yl_229, yt_230, yl_230, yt_231, yl_231, yt_232, yt_233, yt_234, yl_234, yt_235, yl_235, yt_236, yt_237, yl_237, yt_238, yl_238, yt_239, yl_239, yt_240, yl_240, yt_241, yl_241, yt_242, yl_242, yt_243, yt_244, yl_244, yt_245, yl_245, yt_246, yl_246, yt_247, yl_247, yt_248, yl_248, yt_249, yl_249, yt_250, yt_251, yl_251, yt_252, yl_252, yt_253, yl_253, yt_254, yl_254, yt_255, yl_255, yt_256, yl_256, yt_257, yt_258, yl_258, yt_259, yl_259, yt_260, yl_260, yt_261, yl_261, yt_262, yl_262, yt_263, yl_263, yt_264, yt_265, yl_265, yt_266, yl_266, yt_267, yl_267, yt_268, yt_269, yl_269, yt_270, yl_270, yt_271, yt_272, yl_272, yt_273, yl_273, yt_274, yl_274, yt_275, yt_276, yl_276, yt_277, yl_277, yt_278, yl_278, yt_279, yl_279, yt_280, yl_280, yt_281, yl_281, yt_282, yl_282, yt_283, yl_283, yt_284, yl_284, yt_285, yl_285, yt_286, yl_286, yt_287, yl_287, yt_288, yl_288, yt_289, yl_289, yt_290, yl_290, yt_291, yl_291, yt_292, yl_292, yt_293, yl_293, yr_0_0, yr_0_1, yr_0_2, yr_0_3, yr_0_4, yr_0_5, yr_0_6, yr_0_7, yr_1_0, yr_1_1, yr_1_2, yr_1_3, yr_1_4, yr_1_5, yr_1_6, yr_1_7, yr_1_8, yr_2_5, yr_2_6, yr_5_0, yr_114_0, yr_114_1, yr_114_2, yr_114_3, yr_114_4, yr_114_5, yr_114_6, yr_114_7, yr_114_8, yr_115_5, yr_115_6, yr_118_0, yr_227_0, yr_227_1, yr_227_2, yr_227_3, yr_232_0, yr_233_0, yr_233_1, yr_233_2, yr_236_0, yr_236_1, yr_236_2, yr_236_3, yr_236_4, yr_236_5, yr_243_0, yr_243_1, yr_243_2, yr_243_3, yr_243_4, yr_243_5, yr_250_0, yr_250_1, yr_250_2, yr_250_3, yr_250_4, yr_250_5, yr_257_0, yr_257_1, yr_257_2, yr_257_3, yr_257_4, yr_257_5, yr_264_0, yr_264_1, yr_264_2, yr_264_3, yr_264_4, yr_268_0, yr_268_1, yr_268_2, yr_268_3, yr_271_0, yr_271_1, yr_271_2, yr_271_3, yr_271_4, yr_275_0, yr_275_1, yr_275_2, yr_275_3, yr_275_15, yr_275_16, yr_275_22, yr_275_23, yr_275_24, yr_275_25, yr_275_26, yr_275_27, yr_275_28, yr_275_29, yr_275_30, yr_275_31, yr_275_32, yr_275_33, ↓yk_0_0, ↓yk_0_1, ↓yk_0_2, ↓yk_0_3, ↓yk_0_4, ↓yk_0_5, ↓yk_0_6, ↓yk_0_7, ↓yk_1_0, ↓yk_1_1, ↓yk_1_2, ↓yk_1_3, ↓yk_1_4, ↓yk_1_5, ↓yk_1_6, ↓yk_1_7, ↓yk_1_8, ↓yk_2_5, ↓yk_2_6, ↓yk_5_0, ↓yk_114_0, ↓yk_114_1, ↓yk_114_2, ↓yk_114_3, ↓yk_114_4, ↓yk_114_5, ↓yk_114_6, ↓yk_114_7, ↓yk_114_8, ↓yk_115_5, ↓yk_115_6, ↓yk_118_0, ↓yk_227_0, ↓yk_227_1, ↓yk_227_2, ↓yk_227_3, ↓yk_232_0, ↓yk_233_0, ↓yk_233_1, ↓yk_233_2, ↓yk_236_0, ↓yk_236_1, ↓yk_236_2, ↓yk_236_3, ↓yk_236_4, ↓yk_236_5, ↓yk_243_0, ↓yk_243_1, ↓yk_243_2, ↓yk_243_3, ↓yk_243_4, ↓yk_243_5, ↓yk_250_0, ↓yk_250_1, ↓yk_250_2, ↓yk_250_3, ↓yk_250_4, ↓yk_250_5, ↓yk_257_0, ↓yk_257_1, ↓yk_257_2, ↓yk_257_3, ↓yk_257_4, ↓yk_257_5, ↓yk_264_0, ↓yk_264_1, ↓yk_264_2, ↓yk_264_3, ↓yk_264_4, ↓yk_268_0, ↓yk_268_1, ↓yk_268_2, ↓yk_268_3, ↓yk_271_0, ↓yk_271_1, ↓yk_271_2, ↓yk_271_3, ↓yk_271_4, ↓yk_275_0, ↓yk_275_1, ↓yk_275_2, ↓yk_275_3, ↓yk_275_15, ↓yk_275_16, ↓yk_275_22, ↓yk_275_23, ↓yk_275_24, ↓yk_275_25, ↓yk_275_26, ↓yk_275_27, ↓yk_275_28, ↓yk_275_29, ↓yk_275_30, ↓yk_275_31, ↓yk_275_32, ↓yk_275_33, in_3, in_4, in_97, in_99, in_100, in_101, in_102, in_116, in_117, in_210, in_212, in_213, in_214, in_215, in_228, in_229, in_230, in_231, in_235, in_237, in_238, in_239, in_240, in_241, in_242, in_244, in_245, in_246, in_247, in_248, in_249, in_251, in_252, in_253, in_254, in_255, in_256, in_258, in_259, in_260, in_261, in_262, in_263, in_265, in_266, in_267, in_269, in_270, in_272, in_273, in_274, in_276, in_277, in_278, in_279, in_280, in_281, in_282, in_283, in_284, in_285, in_286, in_287, in_288, in_289, in_290, in_291, in_292, in_293, ia_6, ia_98, ia_119, ia_211, ia_234, z_U_takeBack_0, z_U_takeBack_10, z_U_takeBack_12, e]
  · rw [if_neg h0]
    obtain ⟨n, hn⟩ : ∃ n, nS A = n + 1 := ⟨nS A - 1, by omega⟩
    have hn1 : nS A - 1 = n := by omega
    obtain ⟨wB, tB⟩ := h.2.1.2.2.2.2.2.2.2.2.2.2.2 n (by omega)
    have eL : bk A (n + 1) = lvb A := if_neg (by omega)
    rw [eL] at tB
    obtain ⟨g1, g2, g3, g4, g5, g6⟩ := tB
    have g1 : nC (blk A n) ≤ nC A := g1
    have g2 : nP (blk A n) ≤ nP A := g2
    have g3 : nR (blk A n) ≤ nR A := g3
    have hsl : (f + n) % 30 < 30 := Nat.mod_lt _ (by omega)
    obtain ⟨r0, r1, r2, r3, r4, r5, r6⟩ := t3 n (by omega)
    have q0 : (1 + 6 + 3 * ((f + n) % 30)) = 7 + 3 * ((f + n) % 30) := by omega
    rw [q0] at r0 r1 r2 r3 r4 r5 r6
    have r0 : sm_I u (7 + 3 * ((f + n) % 30)) 0 = nI (nC (blk A n)) := r0.trans wB.1.1
    have r1 : sm_I u (7 + 3 * ((f + n) % 30)) 1 = nI (nP (blk A n)) := r1.trans wB.2.1.1
    have r2 : sm_I u (7 + 3 * ((f + n) % 30)) 2 = nI (nR (blk A n)) := r2.trans wB.2.2.1.1
    have r3 : sm_I u (7 + 3 * ((f + n) % 30)) 3 = nI (pkb (blk A n) (nC (blk A n))) := r3
    have r4 : sm_I u (7 + 3 * ((f + n) % 30)) 4 = blk A n 3 := r4
    obtain ⟨k1, k2, k3, k4, k5, k6, k7⟩ := Sta_r hu hsl
    have hW := nm_W h
    have uw := und_was h.2.1 (by omega)
    rw [hn1] at uw
    have b1 := wB.1.2
    have b2 := wB.2.1.2
    have b3 := wB.2.2.1.2
    have hpw := p2 (show nC (blk A n) ≤ 8 by omega)
    have hpw1 := Nat.one_le_two_pow (n := nC (blk A n))
    have em := nI_mod (a := f + n) (b := 30) (by omega) (by decide)
    generalize hq : (f + n) % 30 = sl at *
    -- the memory
    have e1 : sm_call (d + 1) 5 [.ref 2, .ref (7 + 3 * sl)] (sm_wI u 5 2 (nI n)) = some (none, sm_wC (sm_wC (sm_wI (sm_wI (sm_wI u 5 2 (nI n)) 2 3 (nI (wasN (Fund A)))) 2 4 (blk A n 3)) (7 + 3 * sl + 1) 3 0 0 (nR (blk A n))) (7 + 3 * sl + 2) 4 0 0 (nP (blk A n))) := by
      have ew : nI (wasN A) &&& (nI (2 ^ nC (blk A n) - 1) ^^^ Int32.ofInt (-1)) ||| (nI (pkb (blk A n) (nC (blk A n))) &&& nI (2 ^ nC (blk A n) - 1)) = nI (wasN (Fund A)) := by
        rw [m1_nI, nx_xor, nx_and, nx_and, nx_or, uw]
      rw [k_S_goBackTo]
      simp -implicitDefEqProofs (disch := first | assumption | exact Ly.wI (by assumption) | omega | ((repeat (refine Ly.wI ?_)); assumption)) only [↓reduceIte, rr_s, ri_s, rl_s, rv_s, ↓lt_s1, ↓rr_s, ↓ri_s, ↓rl_s, ↓rv_s, wI_tg, wI_ln, wI_rf, zr0, zr1, emn, bz0, bz1, oi, nI_add, nI_mul, nI_clamp, nI_leI, nI_ltI, nI_eq, nI_lt0, ne_m1, m1_ne, m1_le, m1_lt, le_m1, lt_m1, not_true_eq_false, not_false_eq_true, true_and, and_true, false_and, and_false, or_true, true_or, or_false, false_or, and_self, Nat.zero_le, ite_self, Bool.false_eq_true, e10, e01, nI_eq0, nI_eq1, nI_ge0, m1_ge0, m1_lt0, nne, nle, yle, nlt, ylt, yt_0, yt_1, yt_2, yt_3, yl_3, yt_4, yl_4, yt_5, yt_6, yl_6, yt_97, yl_97, yt_98, yl_98, yt_99, yl_99, yt_100, yl_100, yt_101, yl_101, yt_102, yl_102, yt_103, yt_114, yt_115, yt_116, yl_116, yt_117, yl_117, yt_118, yt_119, yl_119, yt_210, yl_210, yt_211, yl_211, yt_212, yl_212, yt_213, yl_213, yt_214, yl_214, yt_215, yl_215, yt_216, yt_227, yt_228, yl_228, yt_229, yl_229, yt_230, yl_230, yt_231, yl_231, yt_232, yt_233, yt_234, yl_234, yt_235, yl_235, yt_236, yt_237, yl_237, yt_238, yl_238, yt_239, yl_239, yt_240, yl_240, yt_241, yl_241, yt_242, yl_242, yt_243, yt_244, yl_244, yt_245, yl_245, yt_246, yl_246, yt_247, yl_247, yt_248, yl_248, yt_249, yl_249, yt_250, yt_251, yl_251, yt_252, yl_252, yt_253, yl_253, yt_254, yl_254, yt_255, yl_255, yt_256, yl_256, yt_257, yt_258, yl_258, yt_259, yl_259, yt_260, yl_260, yt_261, yl_261, yt_262, yl_262, yt_263, yl_263, yt_264, yt_265, yl_265, yt_266, yl_266, yt_267, yl_267, yt_268, yt_269, yl_269, yt_270, yl_270, yt_271, yt_272, yl_272, yt_273, yl_273, yt_274, yl_274, yt_275, yt_276, yl_276, yt_277, yl_277, yt_278, yl_278, yt_279, yl_279, yt_280, yl_280, yt_281, yl_281, yt_282, yl_282, yt_283, yl_283, yt_284, yl_284, yt_285, yl_285, yt_286, yl_286, yt_287, yl_287, yt_288, yl_288, yt_289, yl_289, yt_290, yl_290, yt_291, yl_291, yt_292, yl_292, yt_293, yl_293, yr_0_0, yr_0_1, yr_0_2, yr_0_3, yr_0_4, yr_0_5, yr_0_6, yr_0_7, yr_1_0, yr_1_1, yr_1_2, yr_1_3, yr_1_4, yr_1_5, yr_1_6, yr_1_7, yr_1_8, yr_2_5, yr_2_6, yr_5_0, yr_114_0, yr_114_1, yr_114_2, yr_114_3, yr_114_4, yr_114_5, yr_114_6, yr_114_7, yr_114_8, yr_115_5, yr_115_6, yr_118_0, yr_227_0, yr_227_1, yr_227_2, yr_227_3, yr_232_0, yr_233_0, yr_233_1, yr_233_2, yr_236_0, yr_236_1, yr_236_2, yr_236_3, yr_236_4, yr_236_5, yr_243_0, yr_243_1, yr_243_2, yr_243_3, yr_243_4, yr_243_5, yr_250_0, yr_250_1, yr_250_2, yr_250_3, yr_250_4, yr_250_5, yr_257_0, yr_257_1, yr_257_2, yr_257_3, yr_257_4, yr_257_5, yr_264_0, yr_264_1, yr_264_2, yr_264_3, yr_264_4, yr_268_0, yr_268_1, yr_268_2, yr_268_3, yr_271_0, yr_271_1, yr_271_2, yr_271_3, yr_271_4, yr_275_0, yr_275_1, yr_275_2, yr_275_3, yr_275_15, yr_275_16, yr_275_22, yr_275_23, yr_275_24, yr_275_25, yr_275_26, yr_275_27, yr_275_28, yr_275_29, yr_275_30, yr_275_31, yr_275_32, yr_275_33, ↓yk_0_0, ↓yk_0_1, ↓yk_0_2, ↓yk_0_3, ↓yk_0_4, ↓yk_0_5, ↓yk_0_6, ↓yk_0_7, ↓yk_1_0, ↓yk_1_1, ↓yk_1_2, ↓yk_1_3, ↓yk_1_4, ↓yk_1_5, ↓yk_1_6, ↓yk_1_7, ↓yk_1_8, ↓yk_2_5, ↓yk_2_6, ↓yk_5_0, ↓yk_114_0, ↓yk_114_1, ↓yk_114_2, ↓yk_114_3, ↓yk_114_4, ↓yk_114_5, ↓yk_114_6, ↓yk_114_7, ↓yk_114_8, ↓yk_115_5, ↓yk_115_6, ↓yk_118_0, ↓yk_227_0, ↓yk_227_1, ↓yk_227_2, ↓yk_227_3, ↓yk_232_0, ↓yk_233_0, ↓yk_233_1, ↓yk_233_2, ↓yk_236_0, ↓yk_236_1, ↓yk_236_2, ↓yk_236_3, ↓yk_236_4, ↓yk_236_5, ↓yk_243_0, ↓yk_243_1, ↓yk_243_2, ↓yk_243_3, ↓yk_243_4, ↓yk_243_5, ↓yk_250_0, ↓yk_250_1, ↓yk_250_2, ↓yk_250_3, ↓yk_250_4, ↓yk_250_5, ↓yk_257_0, ↓yk_257_1, ↓yk_257_2, ↓yk_257_3, ↓yk_257_4, ↓yk_257_5, ↓yk_264_0, ↓yk_264_1, ↓yk_264_2, ↓yk_264_3, ↓yk_264_4, ↓yk_268_0, ↓yk_268_1, ↓yk_268_2, ↓yk_268_3, ↓yk_271_0, ↓yk_271_1, ↓yk_271_2, ↓yk_271_3, ↓yk_271_4, ↓yk_275_0, ↓yk_275_1, ↓yk_275_2, ↓yk_275_3, ↓yk_275_15, ↓yk_275_16, ↓yk_275_22, ↓yk_275_23, ↓yk_275_24, ↓yk_275_25, ↓yk_275_26, ↓yk_275_27, ↓yk_275_28, ↓yk_275_29, ↓yk_275_30, ↓yk_275_31, ↓yk_275_32, ↓yk_275_33, in_3, in_4, in_97, in_99, in_100, in_101, in_102, in_116, in_117, in_210, in_212, in_213, in_214, in_215, in_228, in_229, in_230, in_231, in_235, in_237, in_238, in_239, in_240, in_241, in_242, in_244, in_245, in_246, in_247, in_248, in_249, in_251, in_252, in_253, in_254, in_255, in_256, in_258, in_259, in_260, in_261, in_262, in_263, in_265, in_266, in_267, in_269, in_270, in_272, in_273, in_274, in_276, in_277, in_278, in_279, in_280, in_281, in_282, in_283, in_284, in_285, in_286, in_287, in_288, in_289, in_290, in_291, in_292, in_293, ia_6, ia_98, ia_119, ia_211, ia_234, z_S_goBackTo_0, wI_na, wC_na, r0, r1, r2, r3, r4, hW, nx_shl, Nat.one_mul, nI_sub, ew, wC_tg, wC_ln, wC_rf, k1, k2, k3, k4, k5, k6, k7, Nat.zero_add]
    have e2 : sm_call (d + 2) 21 [.ref 5, .ref 2] u = some (some (.int (nI 1)), sm_wC (sm_wC (sm_wI (sm_wI (sm_wI u 5 2 (nI n)) 2 3 (nI (wasN (Fund A)))) 2 4 (blk A n 3)) (7 + 3 * sl + 1) 3 0 0 (nR (blk A n))) (7 + 3 * sl + 2) 4 0 0 (nP (blk A n))) := by
      rw [k_T_pop]
      simp -implicitDefEqProofs (disch := first | assumption | exact Ly.wI (by assumption) | omega | ((repeat (refine Ly.wI ?_)); assumption)) only [↓reduceIte, rr_s, ri_s, rl_s, rv_s, ↓lt_s1, ↓rr_s, ↓ri_s, ↓rl_s, ↓rv_s, wI_tg, wI_ln, wI_rf, zr0, zr1, emn, bz0, bz1, oi, nI_add, nI_mul, nI_clamp, nI_leI, nI_ltI, nI_eq, nI_lt0, ne_m1, m1_ne, m1_le, m1_lt, le_m1, lt_m1, not_true_eq_false, not_false_eq_true, true_and, and_true, false_and, and_false, or_true, true_or, or_false, false_or, and_self, Nat.zero_le, ite_self, Bool.false_eq_true, e10, e01, nI_eq0, nI_eq1, nI_ge0, m1_ge0, m1_lt0, nne, nle, yle, nlt, ylt, yt_0, yt_1, yt_2, yt_3, yl_3, yt_4, yl_4, yt_5, yt_6, yl_6, yt_97, yl_97, yt_98, yl_98, yt_99, yl_99, yt_100, yl_100, yt_101, yl_101, yt_102, yl_102, yt_103, yt_114, yt_115, yt_116, yl_116, yt_117, yl_117, yt_118, yt_119, yl_119, yt_210, yl_210, yt_211, yl_211, yt_212, yl_212, yt_213, yl_213, yt_214, yl_214, yt_215, yl_215, yt_216, yt_227, yt_228, yl_228, yt_229, yl_229, yt_230, yl_230, yt_231, yl_231, yt_232, yt_233, yt_234, yl_234, yt_235, yl_235, yt_236, yt_237, yl_237, yt_238, yl_238, yt_239, yl_239, yt_240, yl_240, yt_241, yl_241, yt_242, yl_242, yt_243, yt_244, yl_244, yt_245, yl_245, yt_246, yl_246, yt_247, yl_247, yt_248, yl_248, yt_249, yl_249, yt_250, yt_251, yl_251, yt_252, yl_252, yt_253, yl_253, yt_254, yl_254, yt_255, yl_255, yt_256, yl_256, yt_257, yt_258, yl_258, yt_259, yl_259, yt_260, yl_260, yt_261, yl_261, yt_262, yl_262, yt_263, yl_263, yt_264, yt_265, yl_265, yt_266, yl_266, yt_267, yl_267, yt_268, yt_269, yl_269, yt_270, yl_270, yt_271, yt_272, yl_272, yt_273, yl_273, yt_274, yl_274, yt_275, yt_276, yl_276, yt_277, yl_277, yt_278, yl_278, yt_279, yl_279, yt_280, yl_280, yt_281, yl_281, yt_282, yl_282, yt_283, yl_283, yt_284, yl_284, yt_285, yl_285, yt_286, yl_286, yt_287, yl_287, yt_288, yl_288, yt_289, yl_289, yt_290, yl_290, yt_291, yl_291, yt_292, yl_292, yt_293, yl_293, yr_0_0, yr_0_1, yr_0_2, yr_0_3, yr_0_4, yr_0_5, yr_0_6, yr_0_7, yr_1_0, yr_1_1, yr_1_2, yr_1_3, yr_1_4, yr_1_5, yr_1_6, yr_1_7, yr_1_8, yr_2_5, yr_2_6, yr_5_0, yr_114_0, yr_114_1, yr_114_2, yr_114_3, yr_114_4, yr_114_5, yr_114_6, yr_114_7, yr_114_8, yr_115_5, yr_115_6, yr_118_0, yr_227_0, yr_227_1, yr_227_2, yr_227_3, yr_232_0, yr_233_0, yr_233_1, yr_233_2, yr_236_0, yr_236_1, yr_236_2, yr_236_3, yr_236_4, yr_236_5, yr_243_0, yr_243_1, yr_243_2, yr_243_3, yr_243_4, yr_243_5, yr_250_0, yr_250_1, yr_250_2, yr_250_3, yr_250_4, yr_250_5, yr_257_0, yr_257_1, yr_257_2, yr_257_3, yr_257_4, yr_257_5, yr_264_0, yr_264_1, yr_264_2, yr_264_3, yr_264_4, yr_268_0, yr_268_1, yr_268_2, yr_268_3, yr_271_0, yr_271_1, yr_271_2, yr_271_3, yr_271_4, yr_275_0, yr_275_1, yr_275_2, yr_275_3, yr_275_15, yr_275_16, yr_275_22, yr_275_23, yr_275_24, yr_275_25, yr_275_26, yr_275_27, yr_275_28, yr_275_29, yr_275_30, yr_275_31, yr_275_32, yr_275_33, ↓yk_0_0, ↓yk_0_1, ↓yk_0_2, ↓yk_0_3, ↓yk_0_4, ↓yk_0_5, ↓yk_0_6, ↓yk_0_7, ↓yk_1_0, ↓yk_1_1, ↓yk_1_2, ↓yk_1_3, ↓yk_1_4, ↓yk_1_5, ↓yk_1_6, ↓yk_1_7, ↓yk_1_8, ↓yk_2_5, ↓yk_2_6, ↓yk_5_0, ↓yk_114_0, ↓yk_114_1, ↓yk_114_2, ↓yk_114_3, ↓yk_114_4, ↓yk_114_5, ↓yk_114_6, ↓yk_114_7, ↓yk_114_8, ↓yk_115_5, ↓yk_115_6, ↓yk_118_0, ↓yk_227_0, ↓yk_227_1, ↓yk_227_2, ↓yk_227_3, ↓yk_232_0, ↓yk_233_0, ↓yk_233_1, ↓yk_233_2, ↓yk_236_0, ↓yk_236_1, ↓yk_236_2, ↓yk_236_3, ↓yk_236_4, ↓yk_236_5, ↓yk_243_0, ↓yk_243_1, ↓yk_243_2, ↓yk_243_3, ↓yk_243_4, ↓yk_243_5, ↓yk_250_0, ↓yk_250_1, ↓yk_250_2, ↓yk_250_3, ↓yk_250_4, ↓yk_250_5, ↓yk_257_0, ↓yk_257_1, ↓yk_257_2, ↓yk_257_3, ↓yk_257_4, ↓yk_257_5, ↓yk_264_0, ↓yk_264_1, ↓yk_264_2, ↓yk_264_3, ↓yk_264_4, ↓yk_268_0, ↓yk_268_1, ↓yk_268_2, ↓yk_268_3, ↓yk_271_0, ↓yk_271_1, ↓yk_271_2, ↓yk_271_3, ↓yk_271_4, ↓yk_275_0, ↓yk_275_1, ↓yk_275_2, ↓yk_275_3, ↓yk_275_15, ↓yk_275_16, ↓yk_275_22, ↓yk_275_23, ↓yk_275_24, ↓yk_275_25, ↓yk_275_26, ↓yk_275_27, ↓yk_275_28, ↓yk_275_29, ↓yk_275_30, ↓yk_275_31, ↓yk_275_32, ↓yk_275_33, in_3, in_4, in_97, in_99, in_100, in_101, in_102, in_116, in_117, in_210, in_212, in_213, in_214, in_215, in_228, in_229, in_230, in_231, in_235, in_237, in_238, in_239, in_240, in_241, in_242, in_244, in_245, in_246, in_247, in_248, in_249, in_251, in_252, in_253, in_254, in_255, in_256, in_258, in_259, in_260, in_261, in_262, in_263, in_265, in_266, in_267, in_269, in_270, in_272, in_273, in_274, in_276, in_277, in_278, in_279, in_280, in_281, in_282, in_283, in_284, in_285, in_286, in_287, in_288, in_289, in_290, in_291, in_292, in_293, ia_6, ia_98, ia_119, ia_211, ia_234, z_T_pop_0, z_T_pop_5, t1, t2, hn, nI_sub, Nat.add_sub_cancel, wI_nk, wI_at, em, rg_rf, e1]
    have hM : ∀ v, v = sm_wC (sm_wC (sm_wI (sm_wI (sm_wI u 5 2 (nI n)) 2 3 (nI (wasN (Fund A)))) 2 4 (blk A n 3)) (7 + 3 * sl + 1) 3 0 0 (nR (blk A n))) (7 + 3 * sl + 2) 4 0 0 (nP (blk A n)) → sm_I v 5 2 = nI n ∧ FrP Pc u v ∧ CR v (Fund A) := by
      intro v hv
      have E : ∀ a k, ¬ (a = 3 ∨ a = 4 ∨ (a = 2 ∧ (k = 3 ∨ k = 4)) ∨ (a = 5 ∧ k = 2)) → sm_I v a k = sm_I u a k := by
        intro a k q
        rw [hv, wC_na (by omega), wC_na (by omega), wI_ne (by omega), wI_ne (by omega), wI_ne (by omega)]
      have x52 : sm_I v 5 2 = nI n := by rw [hv, wC_na (by omega), wC_na (by omega), wI_na (by omega), wI_na (by omega), wI_at]
      have x23 : sm_I v 2 3 = nI (wasN (Fund A)) := by rw [hv, wC_na (by omega), wC_na (by omega), wI_nk (by omega), wI_at]
      have x24 : sm_I v 2 4 = blk A n 3 := by rw [hv, wC_na (by omega), wC_na (by omega), wI_at]
      have x3 : ∀ r, r < nR A → sm_I v 3 r = uR A (blk A n) r := by
        intro r hr
        have wr := s1.2.2.2.2.2.1 r hr
        rw [lv_r _ (by omega)] at wr
        unfold uR
        by_cases q : r < nR (blk A n)
        · rw [if_pos q, hv, wC_na (by omega), wC_at q, wI_na (by omega), wI_na (by omega), wI_na (by omega)]
          exact r5 r q
        · rw [if_neg q, hv, wC_na (by omega)]
          have z : sm_I (sm_wC (sm_wI (sm_wI (sm_wI u 5 2 (nI n)) 2 3 (nI (wasN (Fund A)))) 2 4 (blk A n 3)) (7 + 3 * sl + 1) 3 0 0 (nR (blk A n))) 3 r = sm_I u 3 r := by
            show sm_cp _ _ 3 0 0 _ 3 r = _
            unfold sm_cp
            rw [if_pos rfl, if_neg (by omega)]
            exact (wI_na (b := 3) (by omega)).trans ((wI_na (b := 3) (by omega)).trans (wI_na (b := 3) (by omega)))
          rw [z]
          have := g5 r (by omega) hr
          rw [lv_r _ (by omega)] at this
          exact wr.trans this
      have x4 : ∀ p, p < nP A → sm_I v 4 p = uP (blk A n) p := by
        intro p hp
        have wr := s1.2.2.2.2.2.2 p hp
        rw [lv_p] at wr
        unfold uP
        by_cases q : p < nP (blk A n)
        · rw [if_pos q, hv, wC_at q, wC_na (by omega), wI_na (by omega), wI_na (by omega), wI_na (by omega)]
          exact r6 p q
        · rw [if_neg q, hv]
          have z : sm_I (sm_wC (sm_wC (sm_wI (sm_wI (sm_wI u 5 2 (nI n)) 2 3 (nI (wasN (Fund A)))) 2 4 (blk A n 3)) (7 + 3 * sl + 1) 3 0 0 (nR (blk A n))) (7 + 3 * sl + 2) 4 0 0 (nP (blk A n))) 4 p = sm_I u 4 p := by
            show sm_cp _ _ 4 0 0 _ 4 p = _
            unfold sm_cp
            rw [if_pos rfl, if_neg (by omega)]
            exact (wC_na (c := 4) (by omega)).trans ((wI_na (b := 4) (by omega)).trans ((wI_na (b := 4) (by omega)).trans (wI_na (b := 4) (by omega))))
          rw [z]
          have := g6 p (by omega) hp
          rw [lv_p] at this
          exact wr.trans this
      obtain ⟨nCe, nPe, nRe, nHe, nTe, nFe⟩ := U_n hb
      have e := fun {j : Nat} (h7 : j ≠ 7) (hl : ¬ lvx j) => U_o (A := A) hb h7 hl
      have nSe : nS (Fund A) = n := by
        show (Fund A 7).toNatClampNeg = _
        rw [U_7 hb, nI_clamp (by omega), hn1]
      have hv1 : v.1 = u.1 := by rw [hv]; rfl
      have hv2 : v.2.1 = u.2.1 := by rw [hv]; rfl
      refine ⟨x52, ⟨hv1, hv2, fun a k q => E a k (by omega)⟩, ?_, MA_undo h.2.1 (by omega), trivial, ⟨?_, ⟨f, hf, ?_, ?_, ?_⟩, ?_, ?_, ?_, ?_, ?_, ?_⟩, trivial⟩
      · unfold Ly sm_Rf
        rw [hv1, hv2]
        exact hu
      · refine ⟨?_, ?_, ?_, x23, ?_, fun r q => ?_, fun p q => ?_⟩
        · show sm_I v 2 0 = Fund A 0
          rw [E 2 0 (by omega), e (by omega) (by omega)]
          exact s1.1
        · show sm_I v 2 1 = Fund A 1
          rw [E 2 1 (by omega), e (by omega) (by omega)]
          exact s1.2.1
        · show sm_I v 2 2 = Fund A 2
          rw [E 2 2 (by omega), e (by omega) (by omega)]
          exact s1.2.2.1
        · show sm_I v 2 4 = Fund A 4
          rw [x24, U_4 hb, hn1]
        · have q : r < nR (Fund A) := q
          rw [nRe] at q
          rw [lv_r _ (by omega), U_r hb q, hn1]
          exact x3 r q
        · have q : p < nP (Fund A) := q
          rw [nPe] at q
          rw [lv_p, U_p q, hn1]
          exact x4 p q
      · exact (E 5 1 (by omega)).trans t1
      · show sm_I v 5 2 = Fund A 7
        rw [x52, U_7 hb, hn1]
      · intro i hi
        rw [nSe] at hi
        have eb : blk (Fund A) i = blk A i := funext (fun k => e (by omega) (by omega))
        rw [eb]
        have row : ∀ a, 6 ≤ a → v.2.2.1 a = u.2.2.1 a := fun a ha => funext (fun k => E a k (by omega))
        exact (t3 i (by omega)).cg (row _ (by omega)) (row _ (by omega)) (row _ (by omega))
      · show sm_I v 1 9 = _ ∧ sm_I v 1 10 = _ ∧ sm_I v 1 11 = _ ∧ sm_I v 1 12 = _
        rw [E 1 9 (by omega), E 1 10 (by omega), E 1 11 (by omega), E 1 12 (by omega), e (by omega) (by omega), e (by omega) (by omega), e (by omega) (by omega), e (by omega) (by omega)]
        exact s3
      · intro c hc
        rw [nCe] at hc
        show sm_I v (1 + 96) c = _
        rw [E _ _ (by omega), e (by omega) (by omega)]
        exact s4 c hc
      · intro r hr
        rw [nRe] at hr
        show sm_I v (1 + 98) r = _
        rw [E _ _ (by omega), e (by omega) (by omega)]
        exact s5 r hr
      · intro x hx
        rw [nHe] at hx
        show sm_I v (1 + 99) x = _ ∧ sm_I v (1 + 100) x = _ ∧ sm_I v (1 + 101) x = _
        rw [E (1 + 99) x (by omega), E (1 + 100) x (by omega), E (1 + 101) x (by omega), e (by omega) (by omega), e (by omega) (by omega), e (by omega) (by omega)]
        exact s6 x hx
      · intro p hp k hk
        rw [nPe] at hp
        show sm_I v (1 + 103 + p) k = _
        rw [E _ _ (by omega), e (by omega) (by omega)]
        exact s7 p hp k hk
      · intro j hj
        show sm_I v (1 + 102) j = _
        rw [E _ _ (by omega), nFe, knw_cg j (nF A) (fun i hi => ⟨e (by omega) (by omega), e (by omega) (by omega), e (by omega) (by omega)⟩)]
        exact s8 j hj
    obtain ⟨x52, fv, cv⟩ := hM _ rfl
    refine ⟨_, ?_, fv, cv⟩
    have hv := cv.ly
    rw [hn1]
    simp -implicitDefEqProofs (disch := first | assumption | exact Ly.wI (by assumption) | omega | ((repeat (refine Ly.wI ?_)); assumption)) only [↓reduceIte, rr_s, ri_s, rl_s, rv_s, ↓lt_s1, ↓rr_s, ↓ri_s, ↓rl_s, ↓rv_s, wI_tg, wI_ln, wI_rf, zr0, zr1, emn, bz0, bz1, oi, nI_add, nI_mul, nI_clamp, nI_leI, nI_ltI, nI_eq, nI_lt0, ne_m1, m1_ne, m1_le, m1_lt, le_m1, lt_m1, not_true_eq_false, not_false_eq_true, true_and, and_true, false_and, and_false, or_true, true_or, or_false, false_or, and_self, Nat.zero_le, ite_self, Bool.false_eq_true, e10, e01, nI_eq0, nI_eq1, nI_ge0, m1_ge0, m1_lt0, nne, nle, yle, nlt, ylt, yt_0, yt_1, yt_2, yt_3, yl_3, yt_4, yl_4, yt_5, yt_6, yl_6, yt_97, yl_97, yt_98, yl_98, yt_99, yl_99, yt_100, yl_100, yt_101, yl_101, yt_102, yl_102, yt_103, yt_114, yt_115, yt_116, yl_116, yt_117, yl_117, yt_118, yt_119, yl_119, yt_210, yl_210, yt_211, yl_211, yt_212, yl_212, yt_213, yl_213, yt_214, yl_214, yt_215, yl_215, yt_216, yt_227, yt_228, yl_228, yt_229, yl_229, yt_230, yl_230, yt_231, yl_231, yt_232, yt_233, yt_234, yl_234, yt_235, yl_235, yt_236, yt_237, yl_237, yt_238, yl_238, yt_239, yl_239, yt_240, yl_240, yt_241, yl_241, yt_242, yl_242, yt_243, yt_244, yl_244, yt_245, yl_245, yt_246, yl_246, yt_247, yl_247, yt_248, yl_248, yt_249, yl_249, yt_250, yt_251, yl_251, yt_252, yl_252, yt_253, yl_253, yt_254, yl_254, yt_255, yl_255, yt_256, yl_256, yt_257, yt_258, yl_258, yt_259, yl_259, yt_260, yl_260, yt_261, yl_261, yt_262, yl_262, yt_263, yl_263, yt_264, yt_265, yl_265, yt_266, yl_266, yt_267, yl_267, yt_268, yt_269, yl_269, yt_270, yl_270, yt_271, yt_272, yl_272, yt_273, yl_273, yt_274, yl_274, yt_275, yt_276, yl_276, yt_277, yl_277, yt_278, yl_278, yt_279, yl_279, yt_280, yl_280, yt_281, yl_281, yt_282, yl_282, yt_283, yl_283, yt_284, yl_284, yt_285, yl_285, yt_286, yl_286, yt_287, yl_287, yt_288, yl_288, yt_289, yl_289, yt_290, yl_290, yt_291, yl_291, yt_292, yl_292, yt_293, yl_293, yr_0_0, yr_0_1, yr_0_2, yr_0_3, yr_0_4, yr_0_5, yr_0_6, yr_0_7, yr_1_0, yr_1_1, yr_1_2, yr_1_3, yr_1_4, yr_1_5, yr_1_6, yr_1_7, yr_1_8, yr_2_5, yr_2_6, yr_5_0, yr_114_0, yr_114_1, yr_114_2, yr_114_3, yr_114_4, yr_114_5, yr_114_6, yr_114_7, yr_114_8, yr_115_5, yr_115_6, yr_118_0, yr_227_0, yr_227_1, yr_227_2, yr_227_3, yr_232_0, yr_233_0, yr_233_1, yr_233_2, yr_236_0, yr_236_1, yr_236_2, yr_236_3, yr_236_4, yr_236_5, yr_243_0, yr_243_1, yr_243_2, yr_243_3, yr_243_4, yr_243_5, yr_250_0, yr_250_1, yr_250_2, yr_250_3, yr_250_4, yr_250_5, yr_257_0, yr_257_1, yr_257_2, yr_257_3, yr_257_4, yr_257_5, yr_264_0, yr_264_1, yr_264_2, yr_264_3, yr_264_4, yr_268_0, yr_268_1, yr_268_2, yr_268_3, yr_271_0, yr_271_1, yr_271_2, yr_271_3, yr_271_4, yr_275_0, yr_275_1, yr_275_2, yr_275_3, yr_275_15, yr_275_16, yr_275_22, yr_275_23, yr_275_24, yr_275_25, yr_275_26, yr_275_27, yr_275_28, yr_275_29, yr_275_30, yr_275_31, yr_275_32, yr_275_33, ↓yk_0_0, ↓yk_0_1, ↓yk_0_2, ↓yk_0_3, ↓yk_0_4, ↓yk_0_5, ↓yk_0_6, ↓yk_0_7, ↓yk_1_0, ↓yk_1_1, ↓yk_1_2, ↓yk_1_3, ↓yk_1_4, ↓yk_1_5, ↓yk_1_6, ↓yk_1_7, ↓yk_1_8, ↓yk_2_5, ↓yk_2_6, ↓yk_5_0, ↓yk_114_0, ↓yk_114_1, ↓yk_114_2, ↓yk_114_3, ↓yk_114_4, ↓yk_114_5, ↓yk_114_6, ↓yk_114_7, ↓yk_114_8, ↓yk_115_5, ↓yk_115_6, ↓yk_118_0, ↓yk_227_0, ↓yk_227_1, ↓yk_227_2, ↓yk_227_3, ↓yk_232_0, ↓yk_233_0, ↓yk_233_1, ↓yk_233_2, ↓yk_236_0, ↓yk_236_1, ↓yk_236_2, ↓yk_236_3, ↓yk_236_4, ↓yk_236_5, ↓yk_243_0, ↓yk_243_1, ↓yk_243_2, ↓yk_243_3, ↓yk_243_4, ↓yk_243_5, ↓yk_250_0, ↓yk_250_1, ↓yk_250_2, ↓yk_250_3, ↓yk_250_4, ↓yk_250_5, ↓yk_257_0, ↓yk_257_1, ↓yk_257_2, ↓yk_257_3, ↓yk_257_4, ↓yk_257_5, ↓yk_264_0, ↓yk_264_1, ↓yk_264_2, ↓yk_264_3, ↓yk_264_4, ↓yk_268_0, ↓yk_268_1, ↓yk_268_2, ↓yk_268_3, ↓yk_271_0, ↓yk_271_1, ↓yk_271_2, ↓yk_271_3, ↓yk_271_4, ↓yk_275_0, ↓yk_275_1, ↓yk_275_2, ↓yk_275_3, ↓yk_275_15, ↓yk_275_16, ↓yk_275_22, ↓yk_275_23, ↓yk_275_24, ↓yk_275_25, ↓yk_275_26, ↓yk_275_27, ↓yk_275_28, ↓yk_275_29, ↓yk_275_30, ↓yk_275_31, ↓yk_275_32, ↓yk_275_33, in_3, in_4, in_97, in_99, in_100, in_101, in_102, in_116, in_117, in_210, in_212, in_213, in_214, in_215, in_228, in_229, in_230, in_231, in_235, in_237, in_238, in_239, in_240, in_241, in_242, in_244, in_245, in_246, in_247, in_248, in_249, in_251, in_252, in_253, in_254, in_255, in_256, in_258, in_259, in_260, in_261, in_262, in_263, in_265, in_266, in_267, in_269, in_270, in_272, in_273, in_274, in_276, in_277, in_278, in_279, in_280, in_281, in_282, in_283, in_284, in_285, in_286, in_287, in_288, in_289, in_290, in_291, in_292, in_293, ia_6, ia_98, ia_119, ia_211, ia_234, z_U_takeBack_0, e2, z_U_takeBack_12, x52, wC_tg, wC_rf]
theorem op15 : op_15 Rel := by
  intro u h
  have hb := r_b h
  have hbb : nC (rw_ u 276) ≤ 8 ∧ nP (rw_ u 276) ≤ 10 ∧ nR (rw_ u 276) ≤ 6 := ⟨hb.1, hb.2.1, hb.2.2.1⟩
  obtain ⟨nCe, -, -, -, nTe, -⟩ := U_n hbb
  refine op_st h Fundo ?_ ?_ ?_ (fun v hv => q_undo hv 199)
  · unfold Fundo
    split
    · rfl
    · exact nCe
  · unfold Fundo
    split
    · rfl
    · exact nTe
  · have hu := h.ly
    obtain ⟨w, e, f, c⟩ := c_undo h.cr 196
    refine ⟨w, ?_, f, c⟩
    rw [k_W_undo]
    simp -implicitDefEqProofs (disch := first | assumption | exact Ly.wI (by assumption) | omega | ((repeat (refine Ly.wI ?_)); assumption)) only [↓reduceIte, rr_s, ri_s, rl_s, rv_s, ↓lt_s1, ↓rr_s, ↓ri_s, ↓rl_s, ↓rv_s, wI_tg, wI_ln, wI_rf, zr0, zr1, emn, bz0, bz1, oi, nI_add, nI_mul, nI_clamp, nI_leI, nI_ltI, nI_eq, nI_lt0, ne_m1, m1_ne, m1_le, m1_lt, le_m1, lt_m1, not_true_eq_false, not_false_eq_true, true_and, and_true, false_and, and_false, or_true, true_or, or_false, false_or, and_self, Nat.zero_le, ite_self, Bool.false_eq_true, e10, e01, nI_eq0, nI_eq1, nI_ge0, m1_ge0, m1_lt0, nne, nle, yle, nlt, ylt, yt_0, yt_1, yt_2, yt_3, yl_3, yt_4, yl_4, yt_5, yt_6, yl_6, yt_97, yl_97, yt_98, yl_98, yt_99, yl_99, yt_100, yl_100, yt_101, yl_101, yt_102, yl_102, yt_103, yt_114, yt_115, yt_116, yl_116, yt_117, yl_117, yt_118, yt_119, yl_119, yt_210, yl_210, yt_211, yl_211, yt_212, yl_212, yt_213, yl_213, yt_214, yl_214, yt_215, yl_215, yt_216, yt_227, yt_228, yl_228, yt_229, yl_229, yt_230, yl_230, yt_231, yl_231, yt_232, yt_233, yt_234, yl_234, yt_235, yl_235, yt_236, yt_237, yl_237, yt_238, yl_238, yt_239, yl_239, yt_240, yl_240, yt_241, yl_241, yt_242, yl_242, yt_243, yt_244, yl_244, yt_245, yl_245, yt_246, yl_246, yt_247, yl_247, yt_248, yl_248, yt_249, yl_249, yt_250, yt_251, yl_251, yt_252, yl_252, yt_253, yl_253, yt_254, yl_254, yt_255, yl_255, yt_256, yl_256, yt_257, yt_258, yl_258, yt_259, yl_259, yt_260, yl_260, yt_261, yl_261, yt_262, yl_262, yt_263, yl_263, yt_264, yt_265, yl_265, yt_266, yl_266, yt_267, yl_267, yt_268, yt_269, yl_269, yt_270, yl_270, yt_271, yt_272, yl_272, yt_273, yl_273, yt_274, yl_274, yt_275, yt_276, yl_276, yt_277, yl_277, yt_278, yl_278, yt_279, yl_279, yt_280, yl_280, yt_281, yl_281, yt_282, yl_282, yt_283, yl_283, yt_284, yl_284, yt_285, yl_285, yt_286, yl_286, yt_287, yl_287, yt_288, yl_288, yt_289, yl_289, yt_290, yl_290, yt_291, yl_291, yt_292, yl_292, yt_293, yl_293, yr_0_0, yr_0_1, yr_0_2, yr_0_3, yr_0_4, yr_0_5, yr_0_6, yr_0_7, yr_1_0, yr_1_1, yr_1_2, yr_1_3, yr_1_4, yr_1_5, yr_1_6, yr_1_7, yr_1_8, yr_2_5, yr_2_6, yr_5_0, yr_114_0, yr_114_1, yr_114_2, yr_114_3, yr_114_4, yr_114_5, yr_114_6, yr_114_7, yr_114_8, yr_115_5, yr_115_6, yr_118_0, yr_227_0, yr_227_1, yr_227_2, yr_227_3, yr_232_0, yr_233_0, yr_233_1, yr_233_2, yr_236_0, yr_236_1, yr_236_2, yr_236_3, yr_236_4, yr_236_5, yr_243_0, yr_243_1, yr_243_2, yr_243_3, yr_243_4, yr_243_5, yr_250_0, yr_250_1, yr_250_2, yr_250_3, yr_250_4, yr_250_5, yr_257_0, yr_257_1, yr_257_2, yr_257_3, yr_257_4, yr_257_5, yr_264_0, yr_264_1, yr_264_2, yr_264_3, yr_264_4, yr_268_0, yr_268_1, yr_268_2, yr_268_3, yr_271_0, yr_271_1, yr_271_2, yr_271_3, yr_271_4, yr_275_0, yr_275_1, yr_275_2, yr_275_3, yr_275_15, yr_275_16, yr_275_22, yr_275_23, yr_275_24, yr_275_25, yr_275_26, yr_275_27, yr_275_28, yr_275_29, yr_275_30, yr_275_31, yr_275_32, yr_275_33, ↓yk_0_0, ↓yk_0_1, ↓yk_0_2, ↓yk_0_3, ↓yk_0_4, ↓yk_0_5, ↓yk_0_6, ↓yk_0_7, ↓yk_1_0, ↓yk_1_1, ↓yk_1_2, ↓yk_1_3, ↓yk_1_4, ↓yk_1_5, ↓yk_1_6, ↓yk_1_7, ↓yk_1_8, ↓yk_2_5, ↓yk_2_6, ↓yk_5_0, ↓yk_114_0, ↓yk_114_1, ↓yk_114_2, ↓yk_114_3, ↓yk_114_4, ↓yk_114_5, ↓yk_114_6, ↓yk_114_7, ↓yk_114_8, ↓yk_115_5, ↓yk_115_6, ↓yk_118_0, ↓yk_227_0, ↓yk_227_1, ↓yk_227_2, ↓yk_227_3, ↓yk_232_0, ↓yk_233_0, ↓yk_233_1, ↓yk_233_2, ↓yk_236_0, ↓yk_236_1, ↓yk_236_2, ↓yk_236_3, ↓yk_236_4, ↓yk_236_5, ↓yk_243_0, ↓yk_243_1, ↓yk_243_2, ↓yk_243_3, ↓yk_243_4, ↓yk_243_5, ↓yk_250_0, ↓yk_250_1, ↓yk_250_2, ↓yk_250_3, ↓yk_250_4, ↓yk_250_5, ↓yk_257_0, ↓yk_257_1, ↓yk_257_2, ↓yk_257_3, ↓yk_257_4, ↓yk_257_5, ↓yk_264_0, ↓yk_264_1, ↓yk_264_2, ↓yk_264_3, ↓yk_264_4, ↓yk_268_0, ↓yk_268_1, ↓yk_268_2, ↓yk_268_3, ↓yk_271_0, ↓yk_271_1, ↓yk_271_2, ↓yk_271_3, ↓yk_271_4, ↓yk_275_0, ↓yk_275_1, ↓yk_275_2, ↓yk_275_3, ↓yk_275_15, ↓yk_275_16, ↓yk_275_22, ↓yk_275_23, ↓yk_275_24, ↓yk_275_25, ↓yk_275_26, ↓yk_275_27, ↓yk_275_28, ↓yk_275_29, ↓yk_275_30, ↓yk_275_31, ↓yk_275_32, ↓yk_275_33, in_3, in_4, in_97, in_99, in_100, in_101, in_102, in_116, in_117, in_210, in_212, in_213, in_214, in_215, in_228, in_229, in_230, in_231, in_235, in_237, in_238, in_239, in_240, in_241, in_242, in_244, in_245, in_246, in_247, in_248, in_249, in_251, in_252, in_253, in_254, in_255, in_256, in_258, in_259, in_260, in_261, in_262, in_263, in_265, in_266, in_267, in_269, in_270, in_272, in_273, in_274, in_276, in_277, in_278, in_279, in_280, in_281, in_282, in_283, in_284, in_285, in_286, in_287, in_288, in_289, in_290, in_291, in_292, in_293, ia_6, ia_98, ia_119, ia_211, ia_234, z_W_undo_0, e]
