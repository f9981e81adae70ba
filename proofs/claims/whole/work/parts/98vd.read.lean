/-! steps -/
theorem z_R_kind_0 (C : Nat → List Value → sm_M → sm_R) (n : Nat) (u : sm_M) (a0 : Nat) : sm_run C c_R_kind (n + 1) 0 [some (.ref a0)] [] u = if sm_tg u a0 = 106 then (if (sm_I u a0 3) = 0 then (if sm_tg u a0 = 106 then sm_rr (sm_Rf u a0 0) (fun q1 => if sm_tg u q1 = 105 then sm_rr (sm_Rf u q1 2) (fun q2 => if sm_tg u a0 = 106 then (if sm_in u 1 q2 (sm_I u a0 2) then (sm_run C c_R_kind n 12 [some (.ref a0)] [.int (sm_I u q2 (sm_I u a0 2).toNatClampNeg)] u) else none) else none) else none) else none) else (sm_run C c_R_kind n 10 [some (.ref a0)] [] u)) else none := q_R_kind_0 C n u a0
theorem z_R_kind_12 (C : Nat → List Value → sm_M → sm_R) (n : Nat) (u : sm_M) (a0 : Nat) (s0 : Int32) : sm_run C c_R_kind (n + 1) 12 [some (.ref a0)] [.int s0] u = some (some (.int s0), u) := q_R_kind_12 C n u a0 s0
theorem z_R_kind_10 (C : Nat → List Value → sm_M → sm_R) (n : Nat) (u : sm_M) (a0 : Nat) : sm_run C c_R_kind (n + 1) 10 [some (.ref a0)] [] u = sm_run C c_R_kind n 12 [some (.ref a0)] [.int (nI 0)] u := q_R_kind_10 C n u a0
theorem z_R_goOn_0 (C : Nat → List Value → sm_M → sm_R) (n : Nat) (u : sm_M) (a0 : Nat) : sm_run C c_R_goOn (n + 1) 0 [some (.ref a0)] [] u = if sm_tg u a0 = 106 then (if sm_tg u a0 = 106 then sm_rr (sm_Rf u a0 0) (fun q1 => if sm_tg u q1 = 105 then (if (sm_I u q1 5) ≤ (sm_I u a0 2) then (sm_run C c_R_goOn n 13 [some (.ref a0)] [] u) else (if sm_tg u a0 = 106 then (if sm_tg u a0 = 106 then (sm_lt (sm_wI u a0 2 ((sm_I u a0 2) + (nI 1))) (fun u2 => sm_run C c_R_goOn n 13 [some (.ref a0)] [] u2)) else none) else none)) else none) else none) else none := q_R_goOn_0 C n u a0
theorem z_R_goOn_13 (C : Nat → List Value → sm_M → sm_R) (n : Nat) (u : sm_M) (a0 : Nat) : sm_run C c_R_goOn (n + 1) 13 [some (.ref a0)] [] u = some (none, u) := q_R_goOn_13 C n u a0
theorem z_R_refuse_0 (C : Nat → List Value → sm_M → sm_R) (n : Nat) (u : sm_M) (a0 : Nat) (v1 : Int32) : sm_run C c_R_refuse (n + 1) 0 [some (.ref a0), some (.int v1)] [] u = if sm_tg u a0 = 106 then (if (sm_I u a0 3) = 0 then (if sm_tg u a0 = 106 then (sm_lt (sm_wI u a0 3 v1) (fun u1 => if sm_tg u1 a0 = 106 then sm_rr (sm_Rf u1 a0 0) (fun q2 => if sm_tg u1 q2 = 105 then sm_rr (sm_Rf u1 q2 1) (fun q3 => if sm_tg u1 a0 = 106 then (if sm_in u1 1 q3 (sm_I u1 a0 2) then (if sm_tg u1 a0 = 106 then (sm_lt (sm_wI u1 a0 4 (sm_I u1 q3 (sm_I u1 a0 2).toNatClampNeg)) (fun u4 => sm_run C c_R_refuse n 15 [some (.ref a0), some (.int v1)] [] u4)) else none) else none) else none) else none) else none)) else none) else (sm_run C c_R_refuse n 15 [some (.ref a0), some (.int v1)] [] u)) else none := q_R_refuse_0 C n u a0 v1
theorem z_R_refuse_15 (C : Nat → List Value → sm_M → sm_R) (n : Nat) (u : sm_M) (a0 : Nat) (v1 : Int32) : sm_run C c_R_refuse (n + 1) 15 [some (.ref a0), some (.int v1)] [] u = some (none, u) := q_R_refuse_15 C n u a0 v1
theorem z_R_expect_0 (C : Nat → List Value → sm_M → sm_R) (n : Nat) (u : sm_M) (a0 : Nat) (v1 : Int32) : sm_run C c_R_expect (n + 1) 0 [some (.ref a0), some (.int v1)] [] u = if sm_tg u a0 = 106 then (sm_ri (C 63 [.ref a0] u) (fun x2 u1 => if x2 = v1 then (if sm_tg u1 a0 = 106 then (sm_rv (C 64 [.ref a0] u1) (fun u3 => sm_run C c_R_expect n 11 [some (.ref a0), some (.int v1)] [] u3)) else none) else (sm_run C c_R_expect n 7 [some (.ref a0), some (.int v1)] [] u1))) else none := q_R_expect_0 C n u a0 v1
theorem z_R_expect_11 (C : Nat → List Value → sm_M → sm_R) (n : Nat) (u : sm_M) (a0 : Nat) (v1 : Int32) : sm_run C c_R_expect (n + 1) 11 [some (.ref a0), some (.int v1)] [] u = some (none, u) := q_R_expect_11 C n u a0 v1
theorem z_R_expect_7 (C : Nat → List Value → sm_M → sm_R) (n : Nat) (u : sm_M) (a0 : Nat) (v1 : Int32) : sm_run C c_R_expect (n + 1) 7 [some (.ref a0), some (.int v1)] [] u = if sm_tg u a0 = 106 then (sm_rv (C 65 [.ref a0, .int (nI 1)] u) (fun u1 => sm_run C c_R_expect n 11 [some (.ref a0), some (.int v1)] [] u1)) else none := q_R_expect_7 C n u a0 v1
theorem z_R_readNumber_0 (C : Nat → List Value → sm_M → sm_R) (n : Nat) (u : sm_M) (a0 : Nat) (v1 v2 : Int32) : sm_run C c_R_readNumber (n + 1) 0 [some (.ref a0), some (.int v1), some (.int v2), none] [] u = if sm_tg u a0 = 106 then (sm_ri (C 63 [.ref a0] u) (fun x2 u1 => if x2 = (nI 2) then (sm_run C c_R_readNumber n 9 [some (.ref a0), some (.int v1), some (.int v2), none] [] u1) else (if sm_tg u1 a0 = 106 then (sm_rv (C 65 [.ref a0, .int (nI 1)] u1) (fun u3 => some (some (.int v1), u3))) else none))) else none := q_R_readNumber_0 C n u a0 v1 v2
theorem z_R_readNumber_9 (C : Nat → List Value → sm_M → sm_R) (n : Nat) (u : sm_M) (a0 : Nat) (v1 v2 : Int32) : sm_run C c_R_readNumber (n + 1) 9 [some (.ref a0), some (.int v1), some (.int v2), none] [] u = if sm_tg u a0 = 106 then sm_rr (sm_Rf u a0 0) (fun q1 => if sm_tg u q1 = 105 then sm_rr (sm_Rf u q1 3) (fun q2 => if sm_tg u a0 = 106 then (if sm_in u 1 q2 (sm_I u a0 2) then (if (sm_I u q2 (sm_I u a0 2).toNatClampNeg) < v1 then (sm_run C c_R_readNumber n 23 [some (.ref a0), some (.int v1), some (.int v2), some (.int (sm_I u q2 (sm_I u a0 2).toNatClampNeg))] [] u) else (if (sm_I u q2 (sm_I u a0 2).toNatClampNeg) ≤ v2 then (sm_run C c_R_readNumber n 28 [some (.ref a0), some (.int v1), some (.int v2), some (.int (sm_I u q2 (sm_I u a0 2).toNatClampNeg))] [] u) else (sm_run C c_R_readNumber n 23 [some (.ref a0), some (.int v1), some (.int v2), some (.int (sm_I u q2 (sm_I u a0 2).toNatClampNeg))] [] u))) else none) else none) else none) else none := q_R_readNumber_9 C n u a0 v1 v2
theorem z_R_readNumber_23 (C : Nat → List Value → sm_M → sm_R) (n : Nat) (u : sm_M) (a0 : Nat) (v1 v2 v3 : Int32) : sm_run C c_R_readNumber (n + 1) 23 [some (.ref a0), some (.int v1), some (.int v2), some (.int v3)] [] u = if sm_tg u a0 = 106 then (sm_rv (C 65 [.ref a0, .int (nI 2)] u) (fun u1 => some (some (.int v1), u1))) else none := q_R_readNumber_23 C n u a0 v1 v2 v3
theorem z_R_readNumber_28 (C : Nat → List Value → sm_M → sm_R) (n : Nat) (u : sm_M) (a0 : Nat) (v1 v2 v3 : Int32) : sm_run C c_R_readNumber (n + 1) 28 [some (.ref a0), some (.int v1), some (.int v2), some (.int v3)] [] u = if sm_tg u a0 = 106 then (sm_rv (C 64 [.ref a0] u) (fun u1 => some (some (.int v3), u1))) else none := q_R_readNumber_28 C n u a0 v1 v2 v3
theorem z_X_addTerm_0 (C : Nat → List Value → sm_M → sm_R) (n : Nat) (u : sm_M) (a0 : Nat) (v1 v2 : Int32) : sm_run C c_X_addTerm (n + 1) 0 [some (.ref a0), some (.int v1), some (.int v2)] [] u = if sm_tg u a0 = 102 then (if (nI 300) ≤ (sm_I u a0 8) then (sm_run C c_X_addTerm n 23 [some (.ref a0), some (.int v1), some (.int v2)] [] u) else (if sm_tg u a0 = 102 then sm_rr (sm_Rf u a0 3) (fun q1 => if sm_tg u a0 = 102 then (if sm_in u 1 q1 (sm_I u a0 8) then (sm_lt (sm_wI u q1 (sm_I u a0 8).toNatClampNeg v1) (fun u2 => if sm_tg u2 a0 = 102 then sm_rr (sm_Rf u2 a0 4) (fun q3 => if sm_tg u2 a0 = 102 then (if sm_in u2 1 q3 (sm_I u2 a0 8) then (sm_lt (sm_wI u2 q3 (sm_I u2 a0 8).toNatClampNeg v2) (fun u4 => if sm_tg u4 a0 = 102 then (if sm_tg u4 a0 = 102 then (sm_lt (sm_wI u4 a0 8 ((sm_I u4 a0 8) + (nI 1))) (fun u5 => sm_run C c_X_addTerm n 23 [some (.ref a0), some (.int v1), some (.int v2)] [] u5)) else none) else none)) else none) else none) else none)) else none) else none) else none)) else none := q_X_addTerm_0 C n u a0 v1 v2
theorem z_X_addTerm_23 (C : Nat → List Value → sm_M → sm_R) (n : Nat) (u : sm_M) (a0 : Nat) (v1 v2 : Int32) : sm_run C c_X_addTerm (n + 1) 23 [some (.ref a0), some (.int v1), some (.int v2)] [] u = some (none, u) := q_X_addTerm_23 C n u a0 v1 v2
theorem z_R_opens_0 (C : Nat → List Value → sm_M → sm_R) (n : Nat) (u : sm_M) (a0 : Nat) (v1 : Int32) : sm_run C c_R_opens (n + 1) 0 [some (.ref a0), some (.int v1)] [] u = if v1 < (nI 8) then (sm_run C c_R_opens n 8 [some (.ref a0), some (.int v1)] [] u) else (if sm_tg u a0 = 106 then (sm_rv (C 65 [.ref a0, .int (nI 3)] u) (fun u1 => if (nI 0) = 0 ∨ (nI 0) = 1 then some (some (.int (nI 0)), u1) else none)) else none) := q_R_opens_0 C n u a0 v1
theorem z_R_opens_8 (C : Nat → List Value → sm_M → sm_R) (n : Nat) (u : sm_M) (a0 : Nat) (v1 : Int32) : sm_run C c_R_opens (n + 1) 8 [some (.ref a0), some (.int v1)] [] u = if sm_tg u a0 = 106 then (sm_rv (C 64 [.ref a0] u) (fun u1 => if (nI 1) = 0 ∨ (nI 1) = 1 then some (some (.int (nI 1)), u1) else none)) else none := q_R_opens_8 C n u a0 v1
theorem CS.ly {u0 : sm_M} {b : Nat → Nat} {n t : Nat} {cl : Cls} {u : sm_M} {σ : Rst} (h : CS u0 b n t cl u σ) : Ly u := h.1.1
theorem CS.tg {u0 : sm_M} {b : Nat → Nat} {n t : Nat} {cl : Cls} {u : sm_M} {σ : Rst} (h : CS u0 b n t cl u σ) : (sm_tg u 232 = 106) = True := eq_true (yt_232 h.ly)
theorem CS.tT {u0 : sm_M} {b : Nat → Nat} {n t : Nat} {cl : Cls} {u : sm_M} {σ : Rst} (h : CS u0 b n t cl u σ) (ht : t < 4) : (sm_tg u (236 + 7 * t) = 102) = True := eq_true (tx_tg h.ly ht)
theorem CS.r1 {u0 : sm_M} {b : Nat → Nat} {n t : Nat} {cl : Cls} {u : sm_M} {σ : Rst} (h : CS u0 b n t cl u σ) (f : Nat → sm_R) : sm_rr (sm_Rf u 232 1) f = f (236 + 7 * t) := by rw [h.1.2]; rfl
theorem CS.tk {u0 : sm_M} {b : Nat → Nat} {n t : Nat} {cl : Cls} {u : sm_M} {σ : Rst} (H : Cx u0 b n t) (h : CS u0 b n t cl u σ) : TK u b n := by
  have e : ∀ a k, a < 232 → sm_I u a k = sm_I u0 a k := fun a k ha => h.2.1.2.2 a k (by omega)
  obtain ⟨⟨h1, h2⟩, h3, h4⟩ := H.2.2
  refine ⟨⟨by rw [e _ _ (by omega)]; exact h1, fun s hs q => ?_⟩, by rw [e _ _ (by omega)]; exact h3, by rw [e _ _ (by omega)]; exact h4⟩
  rw [e _ _ (by omega), e _ _ (by omega), e _ _ (by omega)]
  exact h2 s hs q
theorem cwb {b : Nat → Nat} {n s : Nat} (h : s ≤ n) : cw (sta b) s ≤ n := Nat.le_trans (cw_le _ _) h
theorem c_kind {u0 : sm_M} {b : Nat → Nat} {n t : Nat} {cl : Cls} {u : sm_M} {σ : Rst} (H : Cx u0 b n t) (h : CS u0 b n t cl u σ) (d : Nat) (f : Int32 → sm_M → sm_R) : sm_ri (sm_call (d + 1) 63 [.ref 232] u) f = f (nI (kn b n σ)) u := by
  have hn := H.1
  obtain ⟨⟨hu, hr⟩, hf, ⟨hp, e2⟩, ⟨e3, l3⟩, e4, -⟩ := id h
  have hk := (h.tk H).kind hp
  have hc := cwb (b := b) hp.le
  unfold kn
  rw [k_R_kind, z_R_kind_0]
  by_cases q : σ.2.1 = 0
  · have e30 : sm_I u 232 3 = nI 0 := by rw [e3, q]
    rw [if_pos q]
    simp -implicitDefEqProofs (disch := first | assumption | exact Ly.wI (by assumption) | omega) only [↓reduceIte, rr_s, ri_s, rl_s, rv_s, ↓lt_s1, ↓rr_s, ↓ri_s, ↓rl_s, ↓rv_s, wI_tg, wI_ln, wI_rf, zr0, zr1, emn, bz0, bz1, oi, nI_add, nI_mul, nI_clamp, nI_leI, nI_ltI, nI_eq, nI_lt0, ne_m1, m1_ne, m1_le, m1_lt, le_m1, lt_m1, not_true_eq_false, not_false_eq_true, true_and, and_true, false_and, and_false, or_true, true_or, or_false, false_or, and_self, Nat.zero_le, ite_self, Bool.false_eq_true, e10, e01, nI_eq0, nI_eq1, nI_ge0, m1_ge0, m1_lt0, nne, nle, yle, nlt, ylt, yt_0, yt_1, yt_2, yt_3, yl_3, yt_4, yl_4, yt_5, yt_6, yl_6, yt_97, yl_97, yt_98, yl_98, yt_99, yl_99, yt_100, yl_100, yt_101, yl_101, yt_102, yl_102, yt_103, yt_114, yt_115, yt_116, yl_116, yt_117, yl_117, yt_118, yt_119, yl_119, yt_210, yl_210, yt_211, yl_211, yt_212, yl_212, yt_213, yl_213, yt_214, yl_214, yt_215, yl_215, yt_216, yt_227, yt_228, yl_228, yt_229, yl_229, yt_230, yl_230, yt_231, yl_231, yt_232, yt_233, yt_234, yl_234, yt_235, yl_235, yt_236, yt_237, yl_237, yt_238, yl_238, yt_239, yl_239, yt_240, yl_240, yt_241, yl_241, yt_242, yl_242, yt_243, yt_244, yl_244, yt_245, yl_245, yt_246, yl_246, yt_247, yl_247, yt_248, yl_248, yt_249, yl_249, yt_250, yt_251, yl_251, yt_252, yl_252, yt_253, yl_253, yt_254, yl_254, yt_255, yl_255, yt_256, yl_256, yt_257, yt_258, yl_258, yt_259, yl_259, yt_260, yl_260, yt_261, yl_261, yt_262, yl_262, yt_263, yl_263, yt_264, yt_265, yl_265, yt_266, yl_266, yt_267, yl_267, yt_268, yt_269, yl_269, yt_270, yl_270, yt_271, yt_272, yl_272, yt_273, yl_273, yt_274, yl_274, yt_275, yt_276, yl_276, yt_277, yl_277, yt_278, yl_278, yt_279, yl_279, yt_280, yl_280, yt_281, yl_281, yt_282, yl_282, yt_283, yl_283, yt_284, yl_284, yt_285, yl_285, yt_286, yl_286, yt_287, yl_287, yt_288, yl_288, yt_289, yl_289, yt_290, yl_290, yt_291, yl_291, yt_292, yl_292, yt_293, yl_293, yr_0_0, yr_0_1, yr_0_2, yr_0_3, yr_0_4, yr_0_5, yr_0_6, yr_0_7, yr_1_0, yr_1_1, yr_1_2, yr_1_3, yr_1_4, yr_1_5, yr_1_6, yr_1_7, yr_1_8, yr_2_5, yr_2_6, yr_5_0, yr_114_0, yr_114_1, yr_114_2, yr_114_3, yr_114_4, yr_114_5, yr_114_6, yr_114_7, yr_114_8, yr_115_5, yr_115_6, yr_118_0, yr_227_0, yr_227_1, yr_227_2, yr_227_3, yr_232_0, yr_233_0, yr_233_1, yr_233_2, yr_236_0, yr_236_1, yr_236_2, yr_236_3, yr_236_4, yr_236_5, yr_243_0, yr_243_1, yr_243_2, yr_243_3, yr_243_4, yr_243_5, yr_250_0, yr_250_1, yr_250_2, yr_250_3, yr_250_4, yr_250_5, yr_257_0, yr_257_1, yr_257_2, yr_257_3, yr_257_4, yr_257_5, yr_264_0, yr_264_1, yr_264_2, yr_264_3, yr_264_4, yr_268_0, yr_268_1, yr_268_2, yr_268_3, yr_271_0, yr_271_1, yr_271_2, yr_271_3, yr_271_4, yr_275_0, yr_275_1, yr_275_2, yr_275_3, yr_275_15, yr_275_16, yr_275_22, yr_275_23, yr_275_24, yr_275_25, yr_275_26, yr_275_27, yr_275_28, yr_275_29, yr_275_30, yr_275_31, yr_275_32, yr_275_33, ↓yk_0_0, ↓yk_0_1, ↓yk_0_2, ↓yk_0_3, ↓yk_0_4, ↓yk_0_5, ↓yk_0_6, ↓yk_0_7, ↓yk_1_0, ↓yk_1_1, ↓yk_1_2, ↓yk_1_3, ↓yk_1_4, ↓yk_1_5, ↓yk_1_6, ↓yk_1_7, ↓yk_1_8, ↓yk_2_5, ↓yk_2_6, ↓yk_5_0, ↓yk_114_0, ↓yk_114_1, ↓yk_114_2, ↓yk_114_3, ↓yk_114_4, ↓yk_114_5, ↓yk_114_6, ↓yk_114_7, ↓yk_114_8, ↓yk_115_5, ↓yk_115_6, ↓yk_118_0, ↓yk_227_0, ↓yk_227_1, ↓yk_227_2, ↓yk_227_3, ↓yk_232_0, ↓yk_233_0, ↓yk_233_1, ↓yk_233_2, ↓yk_236_0, ↓yk_236_1, ↓yk_236_2, ↓yk_236_3, ↓yk_236_4, ↓yk_236_5, ↓yk_243_0, ↓yk_243_1, ↓yk_243_2, ↓yk_243_3, ↓yk_243_4, ↓yk_243_5, ↓yk_250_0, ↓yk_250_1, ↓yk_250_2, ↓yk_250_3, ↓yk_250_4, ↓yk_250_5, ↓yk_257_0, ↓yk_257_1, ↓yk_257_2, ↓yk_257_3, ↓yk_257_4, ↓yk_257_5, ↓yk_264_0, ↓yk_264_1, ↓yk_264_2, ↓yk_264_3, ↓yk_264_4, ↓yk_268_0, ↓yk_268_1, ↓yk_268_2, ↓yk_268_3, ↓yk_271_0, ↓yk_271_1, ↓yk_271_2, ↓yk_271_3, ↓yk_271_4, ↓yk_275_0, ↓yk_275_1, ↓yk_275_2, ↓yk_275_3, ↓yk_275_15, ↓yk_275_16, ↓yk_275_22, ↓yk_275_23, ↓yk_275_24, ↓yk_275_25, ↓yk_275_26, ↓yk_275_27, ↓yk_275_28, ↓yk_275_29, ↓yk_275_30, ↓yk_275_31, ↓yk_275_32, ↓yk_275_33, in_3, in_4, in_97, in_99, in_100, in_101, in_102, in_116, in_117, in_210, in_212, in_213, in_214, in_215, in_228, in_229, in_230, in_231, in_235, in_237, in_238, in_239, in_240, in_241, in_242, in_244, in_245, in_246, in_247, in_248, in_249, in_251, in_252, in_253, in_254, in_255, in_256, in_258, in_259, in_260, in_261, in_262, in_263, in_265, in_266, in_267, in_269, in_270, in_272, in_273, in_274, in_276, in_277, in_278, in_279, in_280, in_281, in_282, in_283, in_284, in_285, in_286, in_287, in_288, in_289, in_290, in_291, in_292, in_293, ia_6, ia_98, ia_119, ia_211, ia_234, e30, e2, hk.2, z_R_kind_12]
  · rw [if_neg q]
    simp -implicitDefEqProofs (disch := first | assumption | exact Ly.wI (by assumption) | omega) only [↓reduceIte, rr_s, ri_s, rl_s, rv_s, ↓lt_s1, ↓rr_s, ↓ri_s, ↓rl_s, ↓rv_s, wI_tg, wI_ln, wI_rf, zr0, zr1, emn, bz0, bz1, oi, nI_add, nI_mul, nI_clamp, nI_leI, nI_ltI, nI_eq, nI_lt0, ne_m1, m1_ne, m1_le, m1_lt, le_m1, lt_m1, not_true_eq_false, not_false_eq_true, true_and, and_true, false_and, and_false, or_true, true_or, or_false, false_or, and_self, Nat.zero_le, ite_self, Bool.false_eq_true, e10, e01, nI_eq0, nI_eq1, nI_ge0, m1_ge0, m1_lt0, nne, nle, yle, nlt, ylt, yt_0, yt_1, yt_2, yt_3, yl_3, yt_4, yl_4, yt_5, yt_6, yl_6, yt_97, yl_97, yt_98, yl_98, yt_99, yl_99, yt_100, yl_100, yt_101, yl_101, yt_102, yl_102, yt_103, yt_114, yt_115, yt_116, yl_116, yt_117, yl_117, yt_118, yt_119, yl_119, yt_210, yl_210, yt_211, yl_211, yt_212, yl_212, yt_213, yl_213, yt_214, yl_214, yt_215, yl_215, yt_216, yt_227, yt_228, yl_228, yt_229, yl_229, yt_230, yl_230, yt_231, yl_231, yt_232, yt_233, yt_234, yl_234, yt_235, yl_235, yt_236, yt_237, yl_237, yt_238, yl_238, yt_239, yl_239, yt_240, yl_240, yt_241, yl_241, yt_242, yl_242, yt_243, yt_244, yl_244, yt_245, yl_245, yt_246, yl_246, yt_247, yl_247, yt_248, yl_248, yt_249, yl_249, yt_250, yt_251, yl_251, yt_252, yl_252, yt_253, yl_253, yt_254, yl_254, yt_255, yl_255, yt_256, yl_256, yt_257, yt_258, yl_258, yt_259, yl_259, yt_260, yl_260, yt_261, yl_261, yt_262, yl_262, yt_263, yl_263, yt_264, yt_265, yl_265, yt_266, yl_266, yt_267, yl_267, yt_268, yt_269, yl_269, yt_270, yl_270, yt_271, yt_272, yl_272, yt_273, yl_273, yt_274, yl_274, yt_275, yt_276, yl_276, yt_277, yl_277, yt_278, yl_278, yt_279, yl_279, yt_280, yl_280, yt_281, yl_281, yt_282, yl_282, yt_283, yl_283, yt_284, yl_284, yt_285, yl_285, yt_286, yl_286, yt_287, yl_287, yt_288, yl_288, yt_289, yl_289, yt_290, yl_290, yt_291, yl_291, yt_292, yl_292, yt_293, yl_293, yr_0_0, yr_0_1, yr_0_2, yr_0_3, yr_0_4, yr_0_5, yr_0_6, yr_0_7, yr_1_0, yr_1_1, yr_1_2, yr_1_3, yr_1_4, yr_1_5, yr_1_6, yr_1_7, yr_1_8, yr_2_5, yr_2_6, yr_5_0, yr_114_0, yr_114_1, yr_114_2, yr_114_3, yr_114_4, yr_114_5, yr_114_6, yr_114_7, yr_114_8, yr_115_5, yr_115_6, yr_118_0, yr_227_0, yr_227_1, yr_227_2, yr_227_3, yr_232_0, yr_233_0, yr_233_1, yr_233_2, yr_236_0, yr_236_1, yr_236_2, yr_236_3, yr_236_4, yr_236_5, yr_243_0, yr_243_1, yr_243_2, yr_243_3, yr_243_4, yr_243_5, yr_250_0, yr_250_1, yr_250_2, yr_250_3, yr_250_4, yr_250_5, yr_257_0, yr_257_1, yr_257_2, yr_257_3, yr_257_4, yr_257_5, yr_264_0, yr_264_1, yr_264_2, yr_264_3, yr_264_4, yr_268_0, yr_268_1, yr_268_2, yr_268_3, yr_271_0, yr_271_1, yr_271_2, yr_271_3, yr_271_4, yr_275_0, yr_275_1, yr_275_2, yr_275_3, yr_275_15, yr_275_16, yr_275_22, yr_275_23, yr_275_24, yr_275_25, yr_275_26, yr_275_27, yr_275_28, yr_275_29, yr_275_30, yr_275_31, yr_275_32, yr_275_33, ↓yk_0_0, ↓yk_0_1, ↓yk_0_2, ↓yk_0_3, ↓yk_0_4, ↓yk_0_5, ↓yk_0_6, ↓yk_0_7, ↓yk_1_0, ↓yk_1_1, ↓yk_1_2, ↓yk_1_3, ↓yk_1_4, ↓yk_1_5, ↓yk_1_6, ↓yk_1_7, ↓yk_1_8, ↓yk_2_5, ↓yk_2_6, ↓yk_5_0, ↓yk_114_0, ↓yk_114_1, ↓yk_114_2, ↓yk_114_3, ↓yk_114_4, ↓yk_114_5, ↓yk_114_6, ↓yk_114_7, ↓yk_114_8, ↓yk_115_5, ↓yk_115_6, ↓yk_118_0, ↓yk_227_0, ↓yk_227_1, ↓yk_227_2, ↓yk_227_3, ↓yk_232_0, ↓yk_233_0, ↓yk_233_1, ↓yk_233_2, ↓yk_236_0, ↓yk_236_1, ↓yk_236_2, ↓yk_236_3, ↓yk_236_4, ↓yk_236_5, ↓yk_243_0, ↓yk_243_1, ↓yk_243_2, ↓yk_243_3, ↓yk_243_4, ↓yk_243_5, ↓yk_250_0, ↓yk_250_1, ↓yk_250_2, ↓yk_250_3, ↓yk_250_4, ↓yk_250_5, ↓yk_257_0, ↓yk_257_1, ↓yk_257_2, ↓yk_257_3, ↓yk_257_4, ↓yk_257_5, ↓yk_264_0, ↓yk_264_1, ↓yk_264_2, ↓yk_264_3, ↓yk_264_4, ↓yk_268_0, ↓yk_268_1, ↓yk_268_2, ↓yk_268_3, ↓yk_271_0, ↓yk_271_1, ↓yk_271_2, ↓yk_271_3, ↓yk_271_4, ↓yk_275_0, ↓yk_275_1, ↓yk_275_2, ↓yk_275_3, ↓yk_275_15, ↓yk_275_16, ↓yk_275_22, ↓yk_275_23, ↓yk_275_24, ↓yk_275_25, ↓yk_275_26, ↓yk_275_27, ↓yk_275_28, ↓yk_275_29, ↓yk_275_30, ↓yk_275_31, ↓yk_275_32, ↓yk_275_33, in_3, in_4, in_97, in_99, in_100, in_101, in_102, in_116, in_117, in_210, in_212, in_213, in_214, in_215, in_228, in_229, in_230, in_231, in_235, in_237, in_238, in_239, in_240, in_241, in_242, in_244, in_245, in_246, in_247, in_248, in_249, in_251, in_252, in_253, in_254, in_255, in_256, in_258, in_259, in_260, in_261, in_262, in_263, in_265, in_266, in_267, in_269, in_270, in_272, in_273, in_274, in_276, in_277, in_278, in_279, in_280, in_281, in_282, in_283, in_284, in_285, in_286, in_287, in_288, in_289, in_290, in_291, in_292, in_293, ia_6, ia_98, ia_119, ia_211, ia_234, e3, q, z_R_kind_10, z_R_kind_12]
/-- one int of the reader's, or of the text's, is written -/
theorem CS.w {u0 : sm_M} {b : Nat → Nat} {n t : Nat} {cl : Cls} {u : sm_M} {σ : Rst} (h : CS u0 b n t cl u σ) {k : Nat} {x : Int32} (hk : k = 2 ∨ k = 3 ∨ k = 4) {σ' : Rst} (e0 : σ'.2.2.2 = σ.2.2.2)
    (h1 : Pos b n σ'.1) (h2 : k ≠ 2 → σ'.1 = σ.1) (h2' : k = 2 → x = nI (cw (sta b) σ'.1)) (h3 : k ≠ 3 → σ'.2.1 = σ.2.1) (h3' : k = 3 → x = nI σ'.2.1 ∧ σ'.2.1 < 8) (h4 : k ≠ 4 → σ'.2.2.1 = σ.2.2.1) (h4' : k = 4 → x = σ'.2.2.1) : CS u0 b n t cl (sm_wI u 232 k x) σ' := by
  obtain ⟨⟨hu, hr⟩, hf, ⟨hp, e2⟩, ⟨e3, l3⟩, e4, hT, hC⟩ := h
  refine ⟨⟨hu.wI, hr⟩, hf.wI (Or.inl ⟨rfl, hk⟩), ⟨h1, ?_⟩, ?_, ?_, ?_, ?_⟩
  · by_cases q : k = 2
    · subst q
      rw [wI_at, h2' rfl]
    · rw [wI_nk (by omega), h2 q]
      exact e2
  · by_cases q : k = 3
    · subst q
      rw [wI_at]
      exact h3' rfl
    · rw [wI_nk (by omega), h3 q]
      exact ⟨e3, l3⟩
  · by_cases q : k = 4
    · subst q
      rw [wI_at, h4' rfl]
    · rw [wI_nk (by omega), h4 q]
      exact e4
  · rw [e0]
    refine ⟨by rw [wI_na (by omega)]; exact hT.1, hT.2.1, fun i hi => ?_⟩
    rw [wI_na (by omega), wI_na (by omega)]
    exact hT.2.2 i hi
  · refine ⟨by rw [wI_na (by omega)]; exact hC.1, hC.2.1, by rw [wI_na (by omega)]; exact hC.2.2.1, by rw [wI_na (by omega)]; exact hC.2.2.2.1, by rw [wI_na (by omega)]; exact hC.2.2.2.2.1, fun i hi => ?_⟩
    rw [wI_na (by omega), wI_na (by omega), wI_na (by omega)]
    exact hC.2.2.2.2.2 i hi
/-- what a method makes of the state -/
def Ok (u0 : sm_M) (b : Nat → Nat) (n t : Nat) (cl : Cls) (D0 y : Nat) (as : List Value) (F : Rst → Rst) : Prop := ∀ D, D0 ≤ D → ∀ u σ, CS u0 b n t cl u σ → Rn (sm_call D y as u) (fun v => CS u0 b n t cl v (F σ))
theorem o_goOn {u0 : sm_M} {b : Nat → Nat} {n t : Nat} {cl : Cls} (H : Cx u0 b n t) : Ok u0 b n t cl 1 64 [.ref 232] (adv b n) := by
  intro D hD u σ h
  obtain ⟨D, rfl⟩ : ∃ k, D = k + 1 := ⟨D - 1, by omega⟩
  have hn := H.1
  obtain ⟨⟨hu, hr⟩, hf, ⟨hp, e2⟩, ⟨e3, l3⟩, e4, -⟩ := id h
  have ht := (h.tk H).1.1
  have hc := cwb (b := b) hp.le
  have hcn := cwb (b := b) (Nat.le_refl n)
  unfold adv
  rw [k_R_goOn, z_R_goOn_0]
  by_cases q : σ.1 < n
  · rw [if_pos q]
    have hs : sta b σ.1 = true := by
      rcases hp with e | e
      · omega
      · exact e.2
    have hl := cw_lt hs q
    have hx := cw_nxt q hs
    have hb := nxt_b (b := b) q
    refine ⟨sm_wI u 232 2 (nI (cw (sta b) σ.1 + 1)), ?_, h.w (σ' := (nxt b n σ.1, σ.2)) (Or.inl rfl) rfl hb.2.1 (fun z => absurd rfl z) (fun _ => by rw [hx]) (fun _ => rfl) (fun z => by cases z) (fun _ => rfl) (fun z => by cases z)⟩
    simp -implicitDefEqProofs (disch := first | assumption | exact Ly.wI (by assumption) | omega) only [↓reduceIte, rr_s, ri_s, rl_s, rv_s, ↓lt_s1, ↓rr_s, ↓ri_s, ↓rl_s, ↓rv_s, wI_tg, wI_ln, wI_rf, zr0, zr1, emn, bz0, bz1, oi, nI_add, nI_mul, nI_clamp, nI_leI, nI_ltI, nI_eq, nI_lt0, ne_m1, m1_ne, m1_le, m1_lt, le_m1, lt_m1, not_true_eq_false, not_false_eq_true, true_and, and_true, false_and, and_false, or_true, true_or, or_false, false_or, and_self, Nat.zero_le, ite_self, Bool.false_eq_true, e10, e01, nI_eq0, nI_eq1, nI_ge0, m1_ge0, m1_lt0, nne, nle, yle, nlt, ylt, yt_0, yt_1, yt_2, yt_3, yl_3, yt_4, yl_4, yt_5, yt_6, yl_6, yt_97, yl_97, yt_98, yl_98, yt_99, yl_99, yt_100, yl_100, yt_101, yl_101, yt_102, yl_102, yt_103, yt_114, yt_115, yt_116, yl_116, yt_117, yl_117, yt_118, yt_119, yl_119, yt_210, yl_210, yt_211, yl_211, yt_212, yl_212, yt_213, yl_213, yt_214, yl_214, yt_215, yl_215, yt_216, yt_227, yt_228, yl_228, yt_229, yl_229, yt_230, yl_230, yt_231, yl_231, yt_232, yt_233, yt_234, yl_234, yt_235, yl_235, yt_236, yt_237, yl_237, yt_238, yl_238, yt_239, yl_239, yt_240, yl_240, yt_241, yl_241, yt_242, yl_242, yt_243, yt_244, yl_244, yt_245, yl_245, yt_246, yl_246, yt_247, yl_247, yt_248, yl_248, yt_249, yl_249, yt_250, yt_251, yl_251, yt_252, yl_252, yt_253, yl_253, yt_254, yl_254, yt_255, yl_255, yt_256, yl_256, yt_257, yt_258, yl_258, yt_259, yl_259, yt_260, yl_260, yt_261, yl_261, yt_262, yl_262, yt_263, yl_263, yt_264, yt_265, yl_265, yt_266, yl_266, yt_267, yl_267, yt_268, yt_269, yl_269, yt_270, yl_270, yt_271, yt_272, yl_272, yt_273, yl_273, yt_274, yl_274, yt_275, yt_276, yl_276, yt_277, yl_277, yt_278, yl_278, yt_279, yl_279, yt_280, yl_280, yt_281, yl_281, yt_282, yl_282, yt_283, yl_283, yt_284, yl_284, yt_285, yl_285, yt_286, yl_286, yt_287, yl_287, yt_288, yl_288, yt_289, yl_289, yt_290, yl_290, yt_291, yl_291, yt_292, yl_292, yt_293, yl_293, yr_0_0, yr_0_1, yr_0_2, yr_0_3, yr_0_4, yr_0_5, yr_0_6, yr_0_7, yr_1_0, yr_1_1, yr_1_2, yr_1_3, yr_1_4, yr_1_5, yr_1_6, yr_1_7, yr_1_8, yr_2_5, yr_2_6, yr_5_0, yr_114_0, yr_114_1, yr_114_2, yr_114_3, yr_114_4, yr_114_5, yr_114_6, yr_114_7, yr_114_8, yr_115_5, yr_115_6, yr_118_0, yr_227_0, yr_227_1, yr_227_2, yr_227_3, yr_232_0, yr_233_0, yr_233_1, yr_233_2, yr_236_0, yr_236_1, yr_236_2, yr_236_3, yr_236_4, yr_236_5, yr_243_0, yr_243_1, yr_243_2, yr_243_3, yr_243_4, yr_243_5, yr_250_0, yr_250_1, yr_250_2, yr_250_3, yr_250_4, yr_250_5, yr_257_0, yr_257_1, yr_257_2, yr_257_3, yr_257_4, yr_257_5, yr_264_0, yr_264_1, yr_264_2, yr_264_3, yr_264_4, yr_268_0, yr_268_1, yr_268_2, yr_268_3, yr_271_0, yr_271_1, yr_271_2, yr_271_3, yr_271_4, yr_275_0, yr_275_1, yr_275_2, yr_275_3, yr_275_15, yr_275_16, yr_275_22, yr_275_23, yr_275_24, yr_275_25, yr_275_26, yr_275_27, yr_275_28, yr_275_29, yr_275_30, yr_275_31, yr_275_32, yr_275_33, ↓yk_0_0, ↓yk_0_1, ↓yk_0_2, ↓yk_0_3, ↓yk_0_4, ↓yk_0_5, ↓yk_0_6, ↓yk_0_7, ↓yk_1_0, ↓yk_1_1, ↓yk_1_2, ↓yk_1_3, ↓yk_1_4, ↓yk_1_5, ↓yk_1_6, ↓yk_1_7, ↓yk_1_8, ↓yk_2_5, ↓yk_2_6, ↓yk_5_0, ↓yk_114_0, ↓yk_114_1, ↓yk_114_2, ↓yk_114_3, ↓yk_114_4, ↓yk_114_5, ↓yk_114_6, ↓yk_114_7, ↓yk_114_8, ↓yk_115_5, ↓yk_115_6, ↓yk_118_0, ↓yk_227_0, ↓yk_227_1, ↓yk_227_2, ↓yk_227_3, ↓yk_232_0, ↓yk_233_0, ↓yk_233_1, ↓yk_233_2, ↓yk_236_0, ↓yk_236_1, ↓yk_236_2, ↓yk_236_3, ↓yk_236_4, ↓yk_236_5, ↓yk_243_0, ↓yk_243_1, ↓yk_243_2, ↓yk_243_3, ↓yk_243_4, ↓yk_243_5, ↓yk_250_0, ↓yk_250_1, ↓yk_250_2, ↓yk_250_3, ↓yk_250_4, ↓yk_250_5, ↓yk_257_0, ↓yk_257_1, ↓yk_257_2, ↓yk_257_3, ↓yk_257_4, ↓yk_257_5, ↓yk_264_0, ↓yk_264_1, ↓yk_264_2, ↓yk_264_3, ↓yk_264_4, ↓yk_268_0, ↓yk_268_1, ↓yk_268_2, ↓yk_268_3, ↓yk_271_0, ↓yk_271_1, ↓yk_271_2, ↓yk_271_3, ↓yk_271_4, ↓yk_275_0, ↓yk_275_1, ↓yk_275_2, ↓yk_275_3, ↓yk_275_15, ↓yk_275_16, ↓yk_275_22, ↓yk_275_23, ↓yk_275_24, ↓yk_275_25, ↓yk_275_26, ↓yk_275_27, ↓yk_275_28, ↓yk_275_29, ↓yk_275_30, ↓yk_275_31, ↓yk_275_32, ↓yk_275_33, in_3, in_4, in_97, in_99, in_100, in_101, in_102, in_116, in_117, in_210, in_212, in_213, in_214, in_215, in_228, in_229, in_230, in_231, in_235, in_237, in_238, in_239, in_240, in_241, in_242, in_244, in_245, in_246, in_247, in_248, in_249, in_251, in_252, in_253, in_254, in_255, in_256, in_258, in_259, in_260, in_261, in_262, in_263, in_265, in_266, in_267, in_269, in_270, in_272, in_273, in_274, in_276, in_277, in_278, in_279, in_280, in_281, in_282, in_283, in_284, in_285, in_286, in_287, in_288, in_289, in_290, in_291, in_292, in_293, ia_6, ia_98, ia_119, ia_211, ia_234, e2, ht, z_R_goOn_13]
  · rw [if_neg q]
    have e : σ.1 = n := by have := hp.le; omega
    rw [e] at e2
    refine ⟨u, ?_, h⟩
    simp -implicitDefEqProofs (disch := first | assumption | exact Ly.wI (by assumption) | omega) only [↓reduceIte, rr_s, ri_s, rl_s, rv_s, ↓lt_s1, ↓rr_s, ↓ri_s, ↓rl_s, ↓rv_s, wI_tg, wI_ln, wI_rf, zr0, zr1, emn, bz0, bz1, oi, nI_add, nI_mul, nI_clamp, nI_leI, nI_ltI, nI_eq, nI_lt0, ne_m1, m1_ne, m1_le, m1_lt, le_m1, lt_m1, not_true_eq_false, not_false_eq_true, true_and, and_true, false_and, and_false, or_true, true_or, or_false, false_or, and_self, Nat.zero_le, ite_self, Bool.false_eq_true, e10, e01, nI_eq0, nI_eq1, nI_ge0, m1_ge0, m1_lt0, nne, nle, yle, nlt, ylt, yt_0, yt_1, yt_2, yt_3, yl_3, yt_4, yl_4, yt_5, yt_6, yl_6, yt_97, yl_97, yt_98, yl_98, yt_99, yl_99, yt_100, yl_100, yt_101, yl_101, yt_102, yl_102, yt_103, yt_114, yt_115, yt_116, yl_116, yt_117, yl_117, yt_118, yt_119, yl_119, yt_210, yl_210, yt_211, yl_211, yt_212, yl_212, yt_213, yl_213, yt_214, yl_214, yt_215, yl_215, yt_216, yt_227, yt_228, yl_228, yt_229, yl_229, yt_230, yl_230, yt_231, yl_231, yt_232, yt_233, yt_234, yl_234, yt_235, yl_235, yt_236, yt_237, yl_237, yt_238, yl_238, yt_239, yl_239, yt_240, yl_240, yt_241, yl_241, yt_242, yl_242, yt_243, yt_244, yl_244, yt_245, yl_245, yt_246, yl_246, yt_247, yl_247, yt_248, yl_248, yt_249, yl_249, yt_250, yt_251, yl_251, yt_252, yl_252, yt_253, yl_253, yt_254, yl_254, yt_255, yl_255, yt_256, yl_256, yt_257, yt_258, yl_258, yt_259, yl_259, yt_260, yl_260, yt_261, yl_261, yt_262, yl_262, yt_263, yl_263, yt_264, yt_265, yl_265, yt_266, yl_266, yt_267, yl_267, yt_268, yt_269, yl_269, yt_270, yl_270, yt_271, yt_272, yl_272, yt_273, yl_273, yt_274, yl_274, yt_275, yt_276, yl_276, yt_277, yl_277, yt_278, yl_278, yt_279, yl_279, yt_280, yl_280, yt_281, yl_281, yt_282, yl_282, yt_283, yl_283, yt_284, yl_284, yt_285, yl_285, yt_286, yl_286, yt_287, yl_287, yt_288, yl_288, yt_289, yl_289, yt_290, yl_290, yt_291, yl_291, yt_292, yl_292, yt_293, yl_293, yr_0_0, yr_0_1, yr_0_2, yr_0_3, yr_0_4, yr_0_5, yr_0_6, yr_0_7, yr_1_0, yr_1_1, yr_1_2, yr_1_3, yr_1_4, yr_1_5, yr_1_6, yr_1_7, yr_1_8, yr_2_5, yr_2_6, yr_5_0, yr_114_0, yr_114_1, yr_114_2, yr_114_3, yr_114_4, yr_114_5, yr_114_6, yr_114_7, yr_114_8, yr_115_5, yr_115_6, yr_118_0, yr_227_0, yr_227_1, yr_227_2, yr_227_3, yr_232_0, yr_233_0, yr_233_1, yr_233_2, yr_236_0, yr_236_1, yr_236_2, yr_236_3, yr_236_4, yr_236_5, yr_243_0, yr_243_1, yr_243_2, yr_243_3, yr_243_4, yr_243_5, yr_250_0, yr_250_1, yr_250_2, yr_250_3, yr_250_4, yr_250_5, yr_257_0, yr_257_1, yr_257_2, yr_257_3, yr_257_4, yr_257_5, yr_264_0, yr_264_1, yr_264_2, yr_264_3, yr_264_4, yr_268_0, yr_268_1, yr_268_2, yr_268_3, yr_271_0, yr_271_1, yr_271_2, yr_271_3, yr_271_4, yr_275_0, yr_275_1, yr_275_2, yr_275_3, yr_275_15, yr_275_16, yr_275_22, yr_275_23, yr_275_24, yr_275_25, yr_275_26, yr_275_27, yr_275_28, yr_275_29, yr_275_30, yr_275_31, yr_275_32, yr_275_33, ↓yk_0_0, ↓yk_0_1, ↓yk_0_2, ↓yk_0_3, ↓yk_0_4, ↓yk_0_5, ↓yk_0_6, ↓yk_0_7, ↓yk_1_0, ↓yk_1_1, ↓yk_1_2, ↓yk_1_3, ↓yk_1_4, ↓yk_1_5, ↓yk_1_6, ↓yk_1_7, ↓yk_1_8, ↓yk_2_5, ↓yk_2_6, ↓yk_5_0, ↓yk_114_0, ↓yk_114_1, ↓yk_114_2, ↓yk_114_3, ↓yk_114_4, ↓yk_114_5, ↓yk_114_6, ↓yk_114_7, ↓yk_114_8, ↓yk_115_5, ↓yk_115_6, ↓yk_118_0, ↓yk_227_0, ↓yk_227_1, ↓yk_227_2, ↓yk_227_3, ↓yk_232_0, ↓yk_233_0, ↓yk_233_1, ↓yk_233_2, ↓yk_236_0, ↓yk_236_1, ↓yk_236_2, ↓yk_236_3, ↓yk_236_4, ↓yk_236_5, ↓yk_243_0, ↓yk_243_1, ↓yk_243_2, ↓yk_243_3, ↓yk_243_4, ↓yk_243_5, ↓yk_250_0, ↓yk_250_1, ↓yk_250_2, ↓yk_250_3, ↓yk_250_4, ↓yk_250_5, ↓yk_257_0, ↓yk_257_1, ↓yk_257_2, ↓yk_257_3, ↓yk_257_4, ↓yk_257_5, ↓yk_264_0, ↓yk_264_1, ↓yk_264_2, ↓yk_264_3, ↓yk_264_4, ↓yk_268_0, ↓yk_268_1, ↓yk_268_2, ↓yk_268_3, ↓yk_271_0, ↓yk_271_1, ↓yk_271_2, ↓yk_271_3, ↓yk_271_4, ↓yk_275_0, ↓yk_275_1, ↓yk_275_2, ↓yk_275_3, ↓yk_275_15, ↓yk_275_16, ↓yk_275_22, ↓yk_275_23, ↓yk_275_24, ↓yk_275_25, ↓yk_275_26, ↓yk_275_27, ↓yk_275_28, ↓yk_275_29, ↓yk_275_30, ↓yk_275_31, ↓yk_275_32, ↓yk_275_33, in_3, in_4, in_97, in_99, in_100, in_101, in_102, in_116, in_117, in_210, in_212, in_213, in_214, in_215, in_228, in_229, in_230, in_231, in_235, in_237, in_238, in_239, in_240, in_241, in_242, in_244, in_245, in_246, in_247, in_248, in_249, in_251, in_252, in_253, in_254, in_255, in_256, in_258, in_259, in_260, in_261, in_262, in_263, in_265, in_266, in_267, in_269, in_270, in_272, in_273, in_274, in_276, in_277, in_278, in_279, in_280, in_281, in_282, in_283, in_284, in_285, in_286, in_287, in_288, in_289, in_290, in_291, in_292, in_293, ia_6, ia_98, ia_119, ia_211, ia_234, e2, ht, z_R_goOn_13]
theorem o_refuse {u0 : sm_M} {b : Nat → Nat} {n t : Nat} {cl : Cls} (H : Cx u0 b n t) {k : Nat} (hk : k < 8) : Ok u0 b n t cl 1 65 [.ref 232, .int (nI k)] (rfs k) := by
  intro D hD u σ h
  obtain ⟨D, rfl⟩ : ∃ k, D = k + 1 := ⟨D - 1, by omega⟩
  have hn := H.1
  obtain ⟨⟨hu, hr⟩, hf, ⟨hp, e2⟩, ⟨e3, l3⟩, e4, -⟩ := id h
  have hst := ((h.tk H).kind hp).1
  have hc := cwb (b := b) hp.le
  unfold rfs
  rw [k_R_refuse, z_R_refuse_0]
  by_cases q : σ.2.1 = 0
  · rw [if_pos q]
    have e30 : sm_I u 232 3 = nI 0 := by rw [e3, q]
    have h1 := h.w (k := 3) (x := nI k) (σ' := (σ.1, k, σ.2.2.1, σ.2.2.2)) (Or.inr (Or.inl rfl)) rfl hp (fun _ => rfl) (fun z => by cases z) (fun z => absurd rfl z) (fun _ => ⟨rfl, hk⟩) (fun _ => rfl) (fun z => by cases z)
    have h2 := h1.w (k := 4) (x := nI σ.1) (σ' := (σ.1, k, nI σ.1, σ.2.2.2)) (Or.inr (Or.inr rfl)) rfl hp (fun _ => rfl) (fun z => by cases z) (fun _ => rfl) (fun z => by cases z) (fun z => absurd rfl z) (fun _ => rfl)
    refine ⟨_, ?_, h2⟩
    simp -implicitDefEqProofs (disch := first | assumption | exact Ly.wI (by assumption) | omega | ((repeat (refine Ly.wI ?_)); assumption)) only [↓reduceIte, rr_s, ri_s, rl_s, rv_s, ↓lt_s1, ↓rr_s, ↓ri_s, ↓rl_s, ↓rv_s, wI_tg, wI_ln, wI_rf, zr0, zr1, emn, bz0, bz1, oi, nI_add, nI_mul, nI_clamp, nI_leI, nI_ltI, nI_eq, nI_lt0, ne_m1, m1_ne, m1_le, m1_lt, le_m1, lt_m1, not_true_eq_false, not_false_eq_true, true_and, and_true, false_and, and_false, or_true, true_or, or_false, false_or, and_self, Nat.zero_le, ite_self, Bool.false_eq_true, e10, e01, nI_eq0, nI_eq1, nI_ge0, m1_ge0, m1_lt0, nne, nle, yle, nlt, ylt, yt_0, yt_1, yt_2, yt_3, yl_3, yt_4, yl_4, yt_5, yt_6, yl_6, yt_97, yl_97, yt_98, yl_98, yt_99, yl_99, yt_100, yl_100, yt_101, yl_101, yt_102, yl_102, yt_103, yt_114, yt_115, yt_116, yl_116, yt_117, yl_117, yt_118, yt_119, yl_119, yt_210, yl_210, yt_211, yl_211, yt_212, yl_212, yt_213, yl_213, yt_214, yl_214, yt_215, yl_215, yt_216, yt_227, yt_228, yl_228, yt_229, yl_229, yt_230, yl_230, yt_231, yl_231, yt_232, yt_233, yt_234, yl_234, yt_235, yl_235, yt_236, yt_237, yl_237, yt_238, yl_238, yt_239, yl_239, yt_240, yl_240, yt_241, yl_241, yt_242, yl_242, yt_243, yt_244, yl_244, yt_245, yl_245, yt_246, yl_246, yt_247, yl_247, yt_248, yl_248, yt_249, yl_249, yt_250, yt_251, yl_251, yt_252, yl_252, yt_253, yl_253, yt_254, yl_254, yt_255, yl_255, yt_256, yl_256, yt_257, yt_258, yl_258, yt_259, yl_259, yt_260, yl_260, yt_261, yl_261, yt_262, yl_262, yt_263, yl_263, yt_264, yt_265, yl_265, yt_266, yl_266, yt_267, yl_267, yt_268, yt_269, yl_269, yt_270, yl_270, yt_271, yt_272, yl_272, yt_273, yl_273, yt_274, yl_274, yt_275, yt_276, yl_276, yt_277, yl_277, yt_278, yl_278, yt_279, yl_279, yt_280, yl_280, yt_281, yl_281, yt_282, yl_282, yt_283, yl_283, yt_284, yl_284, yt_285, yl_285, yt_286, yl_286, yt_287, yl_287, yt_288, yl_288, yt_289, yl_289, yt_290, yl_290, yt_291, yl_291, yt_292, yl_292, yt_293, yl_293, yr_0_0, yr_0_1, yr_0_2, yr_0_3, yr_0_4, yr_0_5, yr_0_6, yr_0_7, yr_1_0, yr_1_1, yr_1_2, yr_1_3, yr_1_4, yr_1_5, yr_1_6, yr_1_7, yr_1_8, yr_2_5, yr_2_6, yr_5_0, yr_114_0, yr_114_1, yr_114_2, yr_114_3, yr_114_4, yr_114_5, yr_114_6, yr_114_7, yr_114_8, yr_115_5, yr_115_6, yr_118_0, yr_227_0, yr_227_1, yr_227_2, yr_227_3, yr_232_0, yr_233_0, yr_233_1, yr_233_2, yr_236_0, yr_236_1, yr_236_2, yr_236_3, yr_236_4, yr_236_5, yr_243_0, yr_243_1, yr_243_2, yr_243_3, yr_243_4, yr_243_5, yr_250_0, yr_250_1, yr_250_2, yr_250_3, yr_250_4, yr_250_5, yr_257_0, yr_257_1, yr_257_2, yr_257_3, yr_257_4, yr_257_5, yr_264_0, yr_264_1, yr_264_2, yr_264_3, yr_264_4, yr_268_0, yr_268_1, yr_268_2, yr_268_3, yr_271_0, yr_271_1, yr_271_2, yr_271_3, yr_271_4, yr_275_0, yr_275_1, yr_275_2, yr_275_3, yr_275_15, yr_275_16, yr_275_22, yr_275_23, yr_275_24, yr_275_25, yr_275_26, yr_275_27, yr_275_28, yr_275_29, yr_275_30, yr_275_31, yr_275_32, yr_275_33, ↓yk_0_0, ↓yk_0_1, ↓yk_0_2, ↓yk_0_3, ↓yk_0_4, ↓yk_0_5, ↓yk_0_6, ↓yk_0_7, ↓yk_1_0, ↓yk_1_1, ↓yk_1_2, ↓yk_1_3, ↓yk_1_4, ↓yk_1_5, ↓yk_1_6, ↓yk_1_7, ↓yk_1_8, ↓yk_2_5, ↓yk_2_6, ↓yk_5_0, ↓yk_114_0, ↓yk_114_1, ↓yk_114_2, ↓yk_114_3, ↓yk_114_4, ↓yk_114_5, ↓yk_114_6, ↓yk_114_7, ↓yk_114_8, ↓yk_115_5, ↓yk_115_6, ↓yk_118_0, ↓yk_227_0, ↓yk_227_1, ↓yk_227_2, ↓yk_227_3, ↓yk_232_0, ↓yk_233_0, ↓yk_233_1, ↓yk_233_2, ↓yk_236_0, ↓yk_236_1, ↓yk_236_2, ↓yk_236_3, ↓yk_236_4, ↓yk_236_5, ↓yk_243_0, ↓yk_243_1, ↓yk_243_2, ↓yk_243_3, ↓yk_243_4, ↓yk_243_5, ↓yk_250_0, ↓yk_250_1, ↓yk_250_2, ↓yk_250_3, ↓yk_250_4, ↓yk_250_5, ↓yk_257_0, ↓yk_257_1, ↓yk_257_2, ↓yk_257_3, ↓yk_257_4, ↓yk_257_5, ↓yk_264_0, ↓yk_264_1, ↓yk_264_2, ↓yk_264_3, ↓yk_264_4, ↓yk_268_0, ↓yk_268_1, ↓yk_268_2, ↓yk_268_3, ↓yk_271_0, ↓yk_271_1, ↓yk_271_2, ↓yk_271_3, ↓yk_271_4, ↓yk_275_0, ↓yk_275_1, ↓yk_275_2, ↓yk_275_3, ↓yk_275_15, ↓yk_275_16, ↓yk_275_22, ↓yk_275_23, ↓yk_275_24, ↓yk_275_25, ↓yk_275_26, ↓yk_275_27, ↓yk_275_28, ↓yk_275_29, ↓yk_275_30, ↓yk_275_31, ↓yk_275_32, ↓yk_275_33, in_3, in_4, in_97, in_99, in_100, in_101, in_102, in_116, in_117, in_210, in_212, in_213, in_214, in_215, in_228, in_229, in_230, in_231, in_235, in_237, in_238, in_239, in_240, in_241, in_242, in_244, in_245, in_246, in_247, in_248, in_249, in_251, in_252, in_253, in_254, in_255, in_256, in_258, in_259, in_260, in_261, in_262, in_263, in_265, in_266, in_267, in_269, in_270, in_272, in_273, in_274, in_276, in_277, in_278, in_279, in_280, in_281, in_282, in_283, in_284, in_285, in_286, in_287, in_288, in_289, in_290, in_291, in_292, in_293, ia_6, ia_98, ia_119, ia_211, ia_234, e30, e2, hst, wI_na, wI_nk, z_R_refuse_15]
  · rw [if_neg q]
    refine ⟨u, ?_, h⟩
    simp -implicitDefEqProofs (disch := first | assumption | exact Ly.wI (by assumption) | omega) only [↓reduceIte, rr_s, ri_s, rl_s, rv_s, ↓lt_s1, ↓rr_s, ↓ri_s, ↓rl_s, ↓rv_s, wI_tg, wI_ln, wI_rf, zr0, zr1, emn, bz0, bz1, oi, nI_add, nI_mul, nI_clamp, nI_leI, nI_ltI, nI_eq, nI_lt0, ne_m1, m1_ne, m1_le, m1_lt, le_m1, lt_m1, not_true_eq_false, not_false_eq_true, true_and, and_true, false_and, and_false, or_true, true_or, or_false, false_or, and_self, Nat.zero_le, ite_self, Bool.false_eq_true, e10, e01, nI_eq0, nI_eq1, nI_ge0, m1_ge0, m1_lt0, nne, nle, yle, nlt, ylt, yt_0, yt_1, yt_2, yt_3, yl_3, yt_4, yl_4, yt_5, yt_6, yl_6, yt_97, yl_97, yt_98, yl_98, yt_99, yl_99, yt_100, yl_100, yt_101, yl_101, yt_102, yl_102, yt_103, yt_114, yt_115, yt_116, yl_116, yt_117, yl_117, yt_118, yt_119, yl_119, yt_210, yl_210, yt_211, yl_211, yt_212, yl_212, yt_213, yl_213, yt_214, yl_214, yt_215, yl_215, yt_216, yt_227, yt_228, yl_228, yt_229, yl_229, yt_230, yl_230, yt_231, yl_231, yt_232, yt_233, yt_234, yl_234, yt_235, yl_235, yt_236, yt_237, yl_237, yt_238, yl_238, yt_239, yl_239, yt_240, yl_240, yt_241, yl_241, yt_242, yl_242, yt_243, yt_244, yl_244, yt_245, yl_245, yt_246, yl_246, yt_247, yl_247, yt_248, yl_248, yt_249, yl_249, yt_250, yt_251, yl_251, yt_252, yl_252, yt_253, yl_253, yt_254, yl_254, yt_255, yl_255, yt_256, yl_256, yt_257, yt_258, yl_258, yt_259, yl_259, yt_260, yl_260, yt_261, yl_261, yt_262, yl_262, yt_263, yl_263, yt_264, yt_265, yl_265, yt_266, yl_266, yt_267, yl_267, yt_268, yt_269, yl_269, yt_270, yl_270, yt_271, yt_272, yl_272, yt_273, yl_273, yt_274, yl_274, yt_275, yt_276, yl_276, yt_277, yl_277, yt_278, yl_278, yt_279, yl_279, yt_280, yl_280, yt_281, yl_281, yt_282, yl_282, yt_283, yl_283, yt_284, yl_284, yt_285, yl_285, yt_286, yl_286, yt_287, yl_287, yt_288, yl_288, yt_289, yl_289, yt_290, yl_290, yt_291, yl_291, yt_292, yl_292, yt_293, yl_293, yr_0_0, yr_0_1, yr_0_2, yr_0_3, yr_0_4, yr_0_5, yr_0_6, yr_0_7, yr_1_0, yr_1_1, yr_1_2, yr_1_3, yr_1_4, yr_1_5, yr_1_6, yr_1_7, yr_1_8, yr_2_5, yr_2_6, yr_5_0, yr_114_0, yr_114_1, yr_114_2, yr_114_3, yr_114_4, yr_114_5, yr_114_6, yr_114_7, yr_114_8, yr_115_5, yr_115_6, yr_118_0, yr_227_0, yr_227_1, yr_227_2, yr_227_3, yr_232_0, yr_233_0, yr_233_1, yr_233_2, yr_236_0, yr_236_1, yr_236_2, yr_236_3, yr_236_4, yr_236_5, yr_243_0, yr_243_1, yr_243_2, yr_243_3, yr_243_4, yr_243_5, yr_250_0, yr_250_1, yr_250_2, yr_250_3, yr_250_4, yr_250_5, yr_257_0, yr_257_1, yr_257_2, yr_257_3, yr_257_4, yr_257_5, yr_264_0, yr_264_1, yr_264_2, yr_264_3, yr_264_4, yr_268_0, yr_268_1, yr_268_2, yr_268_3, yr_271_0, yr_271_1, yr_271_2, yr_271_3, yr_271_4, yr_275_0, yr_275_1, yr_275_2, yr_275_3, yr_275_15, yr_275_16, yr_275_22, yr_275_23, yr_275_24, yr_275_25, yr_275_26, yr_275_27, yr_275_28, yr_275_29, yr_275_30, yr_275_31, yr_275_32, yr_275_33, ↓yk_0_0, ↓yk_0_1, ↓yk_0_2, ↓yk_0_3, ↓yk_0_4, ↓yk_0_5, ↓yk_0_6, ↓yk_0_7, ↓yk_1_0, ↓yk_1_1, ↓yk_1_2, ↓yk_1_3, ↓yk_1_4, ↓yk_1_5, ↓yk_1_6, ↓yk_1_7, ↓yk_1_8, ↓yk_2_5, ↓yk_2_6, ↓yk_5_0, ↓yk_114_0, ↓yk_114_1, ↓yk_114_2, ↓yk_114_3, ↓yk_114_4, ↓yk_114_5, ↓yk_114_6, ↓yk_114_7, ↓yk_114_8, ↓yk_115_5, ↓yk_115_6, ↓yk_118_0, ↓yk_227_0, ↓yk_227_1, ↓yk_227_2, ↓yk_227_3, ↓yk_232_0, ↓yk_233_0, ↓yk_233_1, ↓yk_233_2, ↓yk_236_0, ↓yk_236_1, ↓yk_236_2, ↓yk_236_3, ↓yk_236_4, ↓yk_236_5, ↓yk_243_0, ↓yk_243_1, ↓yk_243_2, ↓yk_243_3, ↓yk_243_4, ↓yk_243_5, ↓yk_250_0, ↓yk_250_1, ↓yk_250_2, ↓yk_250_3, ↓yk_250_4, ↓yk_250_5, ↓yk_257_0, ↓yk_257_1, ↓yk_257_2, ↓yk_257_3, ↓yk_257_4, ↓yk_257_5, ↓yk_264_0, ↓yk_264_1, ↓yk_264_2, ↓yk_264_3, ↓yk_264_4, ↓yk_268_0, ↓yk_268_1, ↓yk_268_2, ↓yk_268_3, ↓yk_271_0, ↓yk_271_1, ↓yk_271_2, ↓yk_271_3, ↓yk_271_4, ↓yk_275_0, ↓yk_275_1, ↓yk_275_2, ↓yk_275_3, ↓yk_275_15, ↓yk_275_16, ↓yk_275_22, ↓yk_275_23, ↓yk_275_24, ↓yk_275_25, ↓yk_275_26, ↓yk_275_27, ↓yk_275_28, ↓yk_275_29, ↓yk_275_30, ↓yk_275_31, ↓yk_275_32, ↓yk_275_33, in_3, in_4, in_97, in_99, in_100, in_101, in_102, in_116, in_117, in_210, in_212, in_213, in_214, in_215, in_228, in_229, in_230, in_231, in_235, in_237, in_238, in_239, in_240, in_241, in_242, in_244, in_245, in_246, in_247, in_248, in_249, in_251, in_252, in_253, in_254, in_255, in_256, in_258, in_259, in_260, in_261, in_262, in_263, in_265, in_266, in_267, in_269, in_270, in_272, in_273, in_274, in_276, in_277, in_278, in_279, in_280, in_281, in_282, in_283, in_284, in_285, in_286, in_287, in_288, in_289, in_290, in_291, in_292, in_293, ia_6, ia_98, ia_119, ia_211, ia_234, e3, q, z_R_refuse_15]
theorem o_expect {u0 : sm_M} {b : Nat → Nat} {n t : Nat} {cl : Cls} (H : Cx u0 b n t) {c : Nat} (hc : c < 222) : Ok u0 b n t cl 2 66 [.ref 232, .int (nI c)] (exq b n c) := by
  intro D hD u σ h
  obtain ⟨D, rfl⟩ : ∃ k, D = k + 2 := ⟨D - 2, by omega⟩
  have hl := kn_lt (b := b) (n := n) (σ := σ)
  unfold exq
  rw [k_R_expect, z_R_expect_0]
  simp only [h.tg, ↓reduceIte, c_kind H h D]
  by_cases q : kn b n σ = c
  · rw [if_pos q, if_pos (by rw [q])]
    refine (o_goOn H (D + 1) (by omega) u σ h).rv (fun v hv => ?_)
    rw [z_R_expect_11]
    exact Rn.ret hv
  · rw [if_neg q, if_neg (fun z => q ((nI_eq (by omega) (by omega)).mp z)), z_R_expect_7]
    simp only [h.tg, ↓reduceIte]
    refine (o_refuse H (k := 1) (by omega) (D + 1) (by omega) u σ h).rv (fun v hv => ?_)
    rw [z_R_expect_11]
    exact Rn.ret hv
theorem o_number {u0 : sm_M} {b : Nat → Nat} {n t : Nat} {cl : Cls} (H : Cx u0 b n t) {lo hi : Nat} (hlo : lo ≤ hi) (hhi : hi ≤ 9999) {D : Nat} (hD : 2 ≤ D) {u : sm_M} {σ : Rst} (h : CS u0 b n t cl u σ) : Ri (sm_call D 67 [.ref 232, .int (nI lo), .int (nI hi)] u) (fun x v => x = nI (rnv b n lo hi σ) ∧ CS u0 b n t cl v (rns b n lo hi σ)) := by
  obtain ⟨D, rfl⟩ : ∃ k, D = k + 2 := ⟨D - 2, by omega⟩
  have hn := H.1
  have hl := kn_lt (b := b) (n := n) (σ := σ)
  obtain ⟨⟨hu, hr⟩, hf, ⟨hp, e2⟩, ⟨e3, l3⟩, e4, -⟩ := id h
  have hc := cwb (b := b) hp.le
  unfold rnv rns
  rw [k_R_readNumber, z_R_readNumber_0]
  simp only [h.tg, ↓reduceIte, c_kind H h D]
  by_cases q : kn b n σ = 2
  · rw [if_pos q, if_pos q, if_pos (by rw [q])]
    have hk2 : kdp b n σ.1 = 2 := by
      unfold kn at q
      by_cases z : σ.2.1 = 0
      · rw [if_pos z] at q; exact q
      · rw [if_neg z] at q; cases q
    have hd := kd_2.mp hk2
    have hst : sta b σ.1 = true := by
      rcases hp with e | e
      · omega
      · exact e.2
    have hv := ((h.tk H).1.2 σ.1 hd.1 hst).2.2 hd.2
    have hvl := vl_le (b := b) (n := n) (s := σ.1)
    have cc : (nI (cw (sta b) σ.1)).toNatClampNeg = cw (sta b) σ.1 := nI_clamp (by omega)
    rw [z_R_readNumber_9]
    simp only [h.tg, ↓yk_232_0 hu, eq_true (yt_227 hu), ↓yk_227_3 hu, e2, in_231 hu (show cw (sta b) σ.1 < 301 by omega), cc, hv, ↓reduceIte]
    by_cases r1 : vlp b n σ.1 < lo
    · have hc1 : ¬ (lo ≤ vlp b n σ.1 ∧ vlp b n σ.1 ≤ hi) := fun z => by omega
      rw [if_neg hc1, if_neg hc1, if_pos (nI_lt r1 (by omega)), z_R_readNumber_23]
      simp only [h.tg, ↓reduceIte]
      refine Ri.rv (o_refuse H (k := 2) (by omega) (D + 1) (by omega) u σ h) (fun v hv => ?_)
      exact Ri.ret ⟨rfl, hv⟩
    · rw [if_neg (fun z => r1 ((nI_ltI (by omega) (by omega)).mp z))]
      by_cases r2 : vlp b n σ.1 ≤ hi
      · have hc1 : lo ≤ vlp b n σ.1 ∧ vlp b n σ.1 ≤ hi := ⟨by omega, r2⟩
        rw [if_pos hc1, if_pos hc1, if_pos (nI_le r2 (by omega)), z_R_readNumber_28]
        simp only [h.tg, ↓reduceIte]
        refine Ri.rv (o_goOn H (D + 1) (by omega) u σ h) (fun v hv => ?_)
        exact Ri.ret ⟨rfl, hv⟩
      · have hc1 : ¬ (lo ≤ vlp b n σ.1 ∧ vlp b n σ.1 ≤ hi) := fun z => r2 z.2
        rw [if_neg hc1, if_neg hc1, if_neg (fun z => r2 ((nI_leI (by omega) (by omega)).mp z)), z_R_readNumber_23]
        simp only [h.tg, ↓reduceIte]
        refine Ri.rv (o_refuse H (k := 2) (by omega) (D + 1) (by omega) u σ h) (fun v hv => ?_)
        exact Ri.ret ⟨rfl, hv⟩
  · rw [if_neg q, if_neg q, if_neg (fun z => q ((nI_eq (by omega) (by omega)).mp z))]
    refine Ri.rv (o_refuse H (k := 1) (by omega) (D + 1) (by omega) u σ h) (fun v hv => ?_)
    exact Ri.ret ⟨rfl, hv⟩
theorem gD_a {α : Type} {l : List α} {x d : α} {i : Nat} (h : i < l.length) : (l ++ [x]).getD i d = l.getD i d := by
  rw [List.getD_eq_getElem?_getD, List.getD_eq_getElem?_getD, List.getElem?_append_left h]
theorem gD_l {α : Type} {l : List α} {x d : α} : (l ++ [x]).getD l.length d = x := by
  rw [List.getD_eq_getElem?_getD, List.getElem?_append_right (Nat.le_refl _), Nat.sub_self]
  rfl
theorem o_add {u0 : sm_M} {b : Nat → Nat} {n t : Nat} {cl : Cls} (H : Cx u0 b n t) {o v k x : Nat} (e : trm o v = (k, x)) : Ok u0 b n t cl 1 17 [.ref (236 + 7 * t), .int (nI k), .int (nI x)] (add o v) := by
  intro D hD u σ h
  obtain ⟨D, rfl⟩ : ∃ k, D = k + 1 := ⟨D - 1, by omega⟩
  have hn := H.1
  have ht := H.2.1
  obtain ⟨⟨hu, hr⟩, hf, ⟨hp, e2⟩, ⟨e3, l3⟩, e4, ⟨e8, l8, hT⟩, hC⟩ := id h
  unfold add
  rw [k_X_addTerm, z_X_addTerm_0]
  have cL : (nI σ.2.2.2.length).toNatClampNeg = σ.2.2.2.length := nI_clamp (by omega)
  by_cases q : σ.2.2.2.length < 300
  · rw [if_pos q]
    have tg1 := fun w (hw : Ly w) => eq_true (tx_tg hw ht)
    simp only [tg1 u hu, e8, oi, if_neg (fun z => absurd ((nI_leI (by omega) (by omega)).mp z) (Nat.not_le.mpr q) : ¬ nI 300 ≤ nI σ.2.2.2.length), tx_r3 hu ht, rr_s, tx_i3 hu ht q, ↓reduceIte, lt_s1, cL]
    have L1 : Ly (sm_wI u (240 + 7 * t) σ.2.2.2.length (nI k)) := hu.wI
    have a1 : sm_I (sm_wI u (240 + 7 * t) σ.2.2.2.length (nI k)) (236 + 7 * t) 8 = nI σ.2.2.2.length := by rw [wI_na (by omega)]; exact e8
    have R1 : ∀ a j, a ≠ 240 + 7 * t → sm_I (sm_wI u (240 + 7 * t) σ.2.2.2.length (nI k)) a j = sm_I u a j := fun a j hne => wI_na hne
    have R1' : ∀ j, j ≠ σ.2.2.2.length → sm_I (sm_wI u (240 + 7 * t) σ.2.2.2.length (nI k)) (240 + 7 * t) j = sm_I u (240 + 7 * t) j := fun j hne => wI_nk hne
    have R1'' : sm_I (sm_wI u (240 + 7 * t) σ.2.2.2.length (nI k)) (240 + 7 * t) σ.2.2.2.length = nI k := wI_at
    have F1 : FrP (Prd t) u0 (sm_wI u (240 + 7 * t) σ.2.2.2.length (nI k)) := hf.wI (Or.inr (by omega))
    have r1 : sm_Rf (sm_wI u (240 + 7 * t) σ.2.2.2.length (nI k)) 232 1 = some (236 + 7 * t) := hr
    generalize sm_wI u (240 + 7 * t) σ.2.2.2.length (nI k) = w1 at *
    simp only [tg1 w1 L1, a1, tx_r4 L1 ht, rr_s, tx_i4 L1 ht q, ↓reduceIte, lt_s1, cL]
    have L2 : Ly (sm_wI w1 (241 + 7 * t) σ.2.2.2.length (nI x)) := L1.wI
    have a2 : sm_I (sm_wI w1 (241 + 7 * t) σ.2.2.2.length (nI x)) (236 + 7 * t) 8 = nI σ.2.2.2.length := by rw [wI_na (by omega)]; exact a1
    have R2 : ∀ a j, a ≠ 240 + 7 * t → a ≠ 241 + 7 * t → sm_I (sm_wI w1 (241 + 7 * t) σ.2.2.2.length (nI x)) a j = sm_I u a j := fun a j h1 h2 => by rw [wI_na h2]; exact R1 a j h1
    have R2a : ∀ j, j ≠ σ.2.2.2.length → sm_I (sm_wI w1 (241 + 7 * t) σ.2.2.2.length (nI x)) (240 + 7 * t) j = sm_I u (240 + 7 * t) j := fun j hne => by rw [wI_na (by omega)]; exact R1' j hne
    have R2b : sm_I (sm_wI w1 (241 + 7 * t) σ.2.2.2.length (nI x)) (240 + 7 * t) σ.2.2.2.length = nI k := by rw [wI_na (by omega)]; exact R1''
    have R2c : ∀ j, j ≠ σ.2.2.2.length → sm_I (sm_wI w1 (241 + 7 * t) σ.2.2.2.length (nI x)) (241 + 7 * t) j = sm_I u (241 + 7 * t) j := fun j hne => by rw [wI_nk hne]; exact R1 _ j (by omega)
    have R2d : sm_I (sm_wI w1 (241 + 7 * t) σ.2.2.2.length (nI x)) (241 + 7 * t) σ.2.2.2.length = nI x := wI_at
    have F2 : FrP (Prd t) u0 (sm_wI w1 (241 + 7 * t) σ.2.2.2.length (nI x)) := F1.wI (Or.inr (by omega))
    have r2 : sm_Rf (sm_wI w1 (241 + 7 * t) σ.2.2.2.length (nI x)) 232 1 = some (236 + 7 * t) := r1
    generalize sm_wI w1 (241 + 7 * t) σ.2.2.2.length (nI x) = w2 at *
    simp only [tg1 w2 L2, a2, nI_add, ↓reduceIte, lt_s1, z_X_addTerm_23]
    refine Rn.ret ⟨⟨L2.wI, r2⟩, F2.wI (Or.inr (by omega)), ⟨hp, by rw [wI_na (by omega), R2 _ _ (by omega) (by omega)]; exact e2⟩, ⟨by rw [wI_na (by omega), R2 _ _ (by omega) (by omega)]; exact e3, l3⟩, by rw [wI_na (by omega), R2 _ _ (by omega) (by omega)]; exact e4, ⟨?_, ?_, fun i hi => ?_⟩, ?_⟩
    · rw [wI_at, List.length_append]
      rfl
    · rw [List.length_append]
      exact q
    · rw [List.length_append] at hi
      have hi : i < σ.2.2.2.length + 1 := hi
      rw [wI_na (by omega), wI_na (by omega)]
      by_cases z : i = σ.2.2.2.length
      · subst z
        rw [gD_l, R2b, R2d, e]
        exact ⟨rfl, rfl⟩
      · rw [gD_a (by omega), R2a i z, R2c i z]
        exact hT i (by omega)
    · obtain ⟨c1, c2, c3, c4, c5, c6⟩ := hC
      refine ⟨by rw [wI_nk (by omega), R2 _ _ (by omega) (by omega)]; exact c1, c2, by rw [wI_nk (by omega), R2 _ _ (by omega) (by omega)]; exact c3, by rw [wI_nk (by omega), R2 _ _ (by omega) (by omega)]; exact c4, by rw [wI_nk (by omega), R2 _ _ (by omega) (by omega)]; exact c5, fun i hi => ?_⟩
      rw [wI_na (by omega), R2 _ _ (by omega) (by omega), wI_na (by omega), R2 _ _ (by omega) (by omega), wI_na (by omega), R2 _ _ (by omega) (by omega)]
      exact c6 i hi
  · rw [if_neg q]
    have q2 : nI 300 ≤ nI σ.2.2.2.length := nI_le (by omega) (by omega)
    simp only [tx_tg hu ht, e8, oi, q2, ↓reduceIte, z_X_addTerm_23]
    exact Rn.ret h
theorem o_opens {u0 : sm_M} {b : Nat → Nat} {n t : Nat} {cl : Cls} (H : Cx u0 b n t) {L : Nat} (hL : L ≤ 8) {D : Nat} (hD : 2 ≤ D) {u : sm_M} {σ : Rst} (h : CS u0 b n t cl u σ) : Ri (sm_call D 76 [.ref 232, .int (nI (8 - L))] u) (fun x v => x = (if L = 0 then 0 else 1) ∧ CS u0 b n t cl v (if L = 0 then rfs 3 σ else adv b n σ)) := by
  obtain ⟨D, rfl⟩ : ∃ k, D = k + 2 := ⟨D - 2, by omega⟩
  rw [k_R_opens, z_R_opens_0]
  by_cases q : L = 0
  · subst q
    simp only [h.tg, ↓reduceIte, show ¬ nI (8 - 0) < nI 8 from by decide]
    refine Ri.rv (o_refuse H (k := 3) (by omega) (D + 1) (by omega) u σ h) (fun v hv => ?_)
    exact ⟨0, v, if_pos (Or.inl rfl), rfl, hv⟩
  · rw [if_pos (nI_lt (by omega) (by decide)), z_R_opens_8]
    simp only [h.tg, ↓reduceIte, if_neg q]
    refine Ri.rv (o_goOn H (D + 1) (by omega) u σ h) (fun v hv => ?_)
    exact ⟨1, v, if_pos (Or.inr rfl), rfl, hv⟩
