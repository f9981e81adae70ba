/-! texts: the reference's pile (by wip/whole/mk_98vi.py) -/
theorem z_M_rank_0 (C : Nat → List Value → sm_M → sm_R) (n : Nat) (u : sm_M) (v0 : Int32) : sm_run C c_M_rank (n + 1) 0 [some (.int v0)] [] u = if v0 < (nI 40) then (sm_run C c_M_rank n 5 [some (.int v0)] [] u) else (sm_run C c_M_rank n 31 [some (.int v0)] [.int (nI 0)] u) := q_M_rank_0 C n u v0
theorem z_M_rank_5 (C : Nat → List Value → sm_M → sm_R) (n : Nat) (u : sm_M) (v0 : Int32) : sm_run C c_M_rank (n + 1) 5 [some (.int v0)] [] u = if v0 < (nI 20) then (sm_run C c_M_rank n 14 [some (.int v0)] [] u) else (sm_run C c_M_rank n 31 [some (.int v0)] [.int ((nI 4) - (v0 - (nI 20)))] u) := q_M_rank_5 C n u v0
theorem z_M_rank_14 (C : Nat → List Value → sm_M → sm_R) (n : Nat) (u : sm_M) (v0 : Int32) : sm_run C c_M_rank (n + 1) 14 [some (.int v0)] [] u = if v0 < (nI 10) then (sm_run C c_M_rank n 19 [some (.int v0)] [] u) else (sm_run C c_M_rank n 31 [some (.int v0)] [.int (nI 5)] u) := q_M_rank_14 C n u v0
theorem z_M_rank_19 (C : Nat → List Value → sm_M → sm_R) (n : Nat) (u : sm_M) (v0 : Int32) : sm_run C c_M_rank (n + 1) 19 [some (.int v0)] [] u = if v0 = (nI 5) then (sm_run C c_M_rank n 31 [some (.int v0)] [.int (nI 8)] u) else (sm_run C c_M_rank n 24 [some (.int v0)] [] u) := q_M_rank_19 C n u v0
theorem z_M_rank_24 (C : Nat → List Value → sm_M → sm_R) (n : Nat) (u : sm_M) (v0 : Int32) : sm_run C c_M_rank (n + 1) 24 [some (.int v0)] [] u = if v0 < (nI 8) then (sm_run C c_M_rank n 29 [some (.int v0)] [] u) else (sm_run C c_M_rank n 31 [some (.int v0)] [.int (nI 7)] u) := q_M_rank_24 C n u v0
theorem z_M_rank_29 (C : Nat → List Value → sm_M → sm_R) (n : Nat) (u : sm_M) (v0 : Int32) : sm_run C c_M_rank (n + 1) 29 [some (.int v0)] [] u = sm_run C c_M_rank n 31 [some (.int v0)] [.int (nI 6)] u := q_M_rank_29 C n u v0
theorem z_M_rank_31 (C : Nat → List Value → sm_M → sm_R) (n : Nat) (u : sm_M) (v0 s0 : Int32) : sm_run C c_M_rank (n + 1) 31 [some (.int v0)] [.int s0] u = some (some (.int s0), u) := q_M_rank_31 C n u v0 s0
theorem z_M_emit_0 (C : Nat → List Value → sm_M → sm_R) (n : Nat) (u : sm_M) (a0 : Nat) (v1 v2 : Int32) : sm_run C c_M_emit (n + 1) 0 [some (.ref a0), some (.int v1), some (.int v2)] [] u = if sm_tg u a0 = 112 then sm_rr (sm_Rf u a0 2) (fun q1 => if sm_tg u a0 = 112 then (if sm_tg u a0 = 112 then (if sm_in u 1 q1 (((sm_I u a0 12) + (nI 97)) + ((nI 2) * (sm_I u a0 13))) then (sm_lt (sm_wI u q1 (((sm_I u a0 12) + (nI 97)) + ((nI 2) * (sm_I u a0 13))).toNatClampNeg v1) (fun u2 => if sm_tg u2 a0 = 112 then sm_rr (sm_Rf u2 a0 2) (fun q3 => if sm_tg u2 a0 = 112 then (if sm_tg u2 a0 = 112 then (if sm_in u2 1 q3 ((((sm_I u2 a0 12) + (nI 97)) + ((nI 2) * (sm_I u2 a0 13))) + (nI 1)) then (sm_lt (sm_wI u2 q3 ((((sm_I u2 a0 12) + (nI 97)) + ((nI 2) * (sm_I u2 a0 13))) + (nI 1)).toNatClampNeg v2) (fun u4 => if sm_tg u4 a0 = 112 then (if sm_tg u4 a0 = 112 then (sm_lt (sm_wI u4 a0 13 ((sm_I u4 a0 13) + (nI 1))) (fun u5 => some (none, u5))) else none) else none)) else none) else none) else none) else none)) else none) else none) else none) else none := q_M_emit_0 C n u a0 v1 v2
def rnk (o : Nat) : Nat := if 40 ≤ o then 0 else if 20 ≤ o then 4 - (o - 20) else if 10 ≤ o then 5 else if o = 5 then 8 else if 8 ≤ o then 7 else 6
def stl (r : Nat) : List Nat → List (Nat × Nat) → List Nat × List (Nat × Nat)
  | [], c => ([], c)
  | o :: P, c => if r ≤ rnk o then stl r P (if o = 16 then c else c ++ [(o, 0)]) else (o :: P, c)
def iso (o : Nat) : Bool := decide (o = 5) || (decide (o = 20) || decide (40 ≤ o))
def nop : List Nat → Nat
  | [] => 0
  | o :: P => nop P + (if iso o = true then 1 else 0)
/-- 0: nothing is open -/
def opw : List Nat → Nat
  | [] => 0
  | o :: P => if 40 ≤ o then o else opw P
def icm : List Nat → Bool
  | [] => false
  | o :: P => if 5 < rnk o then icm P else decide (rnk o = 5)
def iaa (P : List Nat) : Bool := !decide (opw P = 40) && (match P with
  | [] => true
  | o :: _ => decide (o = 41) || (decide (1 ≤ rnk o) && decide (rnk o ≤ 4)))
/-- position, terms, pile, how many are open, counts, whether one is whole -/
abbrev Sr : Type := Nat × List (Nat × Nat) × List Nat × Nat × List Nat × Bool
def PM (u : sm_M) (a : Nat) : List Nat → Prop
  | [] => True
  | o :: P => (sm_I u a P.length = nI o ∧ o < 1000) ∧ PM u a P
abbrev Pm (t a k : Nat) : Prop := a = 275 ∧ (7 ≤ k ∧ k ≤ 10 ∨ k = 13 ∨ 17 ≤ k ∧ k ≤ 20) ∨ a = 278 ∧ 705 * t + 97 ≤ k ∧ k < 705 * t + 705 ∨ a = 280 ∨ a = 281
def MS (u0 : sm_M) (b : Nat → Nat) (n t : Nat) (u : sm_M) (τ : Sr) : Prop :=
  (Ly u ∧ RB u b n) ∧ FrP (Pm t) u0 u ∧ Tk u b n τ.1 ∧
  (sm_I u 275 13 = nI τ.2.1.length ∧ τ.2.1.length ≤ 300 ∧ ∀ i, i < τ.2.1.length → sm_I u 278 (705 * t + 97 + 2 * i) = nI (τ.2.1.getD i (0, 0)).1 ∧ sm_I u 278 (705 * t + 98 + 2 * i) = nI (τ.2.1.getD i (0, 0)).2) ∧
  (sm_I u 275 17 = nI τ.2.2.1.length ∧ τ.2.2.1.length ≤ 160 ∧ PM u 280 τ.2.2.1) ∧ (sm_I u 275 18 = nI τ.2.2.2.1 ∧ τ.2.2.2.1 ≤ 300) ∧
  (sm_I u 275 19 = nI τ.2.2.2.2.1.length ∧ τ.2.2.2.2.1.length ≤ 9 ∧ PM u 281 τ.2.2.2.2.1) ∧ sm_I u 275 20 = (if τ.2.2.2.2.2 = true then 1 else 0)
/-- what stays -/
def Mx (u0 : sm_M) (b : Nat → Nat) (n t ev : Nat) : Prop := n ≤ 300 ∧ t < 4 ∧ sm_I u0 275 12 = nI (705 * t) ∧ sm_I u0 275 14 = nI ev ∧ ev ≤ 10
theorem PM.cg {u v : sm_M} {a : Nat} : ∀ {P : List Nat}, PM u a P → (∀ k, k < P.length → sm_I v a k = sm_I u a k) → PM v a P
  | [], _, _ => trivial
  | o :: P, h, e => ⟨⟨by rw [e P.length (by rw [List.length_cons]; omega)]; exact h.1.1, h.1.2⟩, PM.cg h.2 (fun k hk => e k (by rw [List.length_cons]; omega))⟩
theorem rnk_lt (o : Nat) : rnk o ≤ 8 := by
  unfold rnk
  split
  · omega
  · split
    · omega
    · split
      · omega
      · split
        · omega
        · split <;> omega
theorem s_rank (d : Nat) (u : sm_M) {o : Nat} (ho : o < 1000) (h24 : 20 ≤ o → o < 40 → o ≤ 24) (f : Int32 → sm_M → sm_R) : sm_ri (sm_call (d + 1) 234 [.int (nI o)] u) f = f (nI (rnk o)) u := by
  have e : sm_call (d + 1) 234 [.int (nI o)] u = some (some (.int (nI (rnk o))), u) := by
    rw [k_M_rank]
    unfold rnk
    by_cases h1 : 40 ≤ o
    · simp -implicitDefEqProofs (disch := first | assumption | exact Ly.wI (by assumption) | omega) only [↓reduceIte, rr_s, ri_s, rl_s, rv_s, ↓lt_s1, ↓rr_s, ↓ri_s, ↓rl_s, ↓rv_s, wI_tg, wI_ln, wI_rf, zr0, zr1, emn, bz0, bz1, oi, nI_add, nI_mul, nI_clamp, nI_leI, nI_ltI, nI_eq, nI_lt0, ne_m1, m1_ne, m1_le, m1_lt, le_m1, lt_m1, not_true_eq_false, not_false_eq_true, true_and, and_true, false_and, and_false, or_true, true_or, or_false, false_or, and_self, Nat.zero_le, ite_self, Bool.false_eq_true, e10, e01, nI_eq0, nI_eq1, nI_ge0, m1_ge0, m1_lt0, nne, nle, yle, nlt, ylt, yt_0, yt_1, yt_2, yt_3, yl_3, yt_4, yl_4, yt_5, yt_6, yl_6, yt_97, yl_97, yt_98, yl_98, yt_99, yl_99, yt_100, yl_100, yt_101, yl_101, yt_102, yl_102, yt_103, yt_114, yt_115, yt_116, yl_116, yt_117, yl_117, yt_118, yt_119, yl_119, yt_210, yl_210, yt_211, yl_211, yt_212, yl_212, yt_213, yl_213, yt_214, yl_214, yt_215, yl_215, yt_216, yt_227, yt_228, yl_228, yt_229, yl_229, yt_230, yl_230, yt_231, yl_231, yt_232, yt_233, yt_234, yl_234, yt_235, yl_235, yt_236, yt_237, yl_237, yt_238, yl_238, yt_239, yl_239, yt_240, yl_240, yt_241, yl_241, yt_242, yl_242, yt_243, yt_244, yl_244, yt_245, yl_245, yt_246, yl_246, yt_247, yl_247, yt_248, yl_248, yt_249, yl_249, yt_250, yt_251, yl_251, yt_252, yl_252, yt_253, yl_253, yt_254, yl_254, yt_255, yl_255, yt_256, yl_256, yt_257, yt_258, yl_258, yt_259, yl_259, yt_260, yl_260, yt_261, yl_261, yt_262, yl_262, yt_263, yl_263, yt_264, yt_265, yl_265, yt_266, yl_266, yt_267, yl_267, yt_268, yt_269, yl_269, yt_270, yl_270, yt_271, yt_272, yl_272, yt_273, yl_273, yt_274, yl_274, yt_275, yt_276, yl_276, yt_277, yl_277, yt_278, yl_278, yt_279, yl_279, yt_280, yl_280, yt_281, yl_281, yt_282, yl_282, yt_283, yl_283, yt_284, yl_284, yt_285, yl_285, yt_286, yl_286, yt_287, yl_287, yt_288, yl_288, yt_289, yl_289, yt_290, yl_290, yt_291, yl_291, yt_292, yl_292, yt_293, yl_293, yr_0_0, yr_0_1, yr_0_2, yr_0_3, yr_0_4, yr_0_5, yr_0_6, yr_0_7, yr_1_0, yr_1_1, yr_1_2, yr_1_3, yr_1_4, yr_1_5, yr_1_6, yr_1_7, yr_1_8, yr_2_5, yr_2_6, yr_5_0, yr_114_0, yr_114_1, yr_114_2, yr_114_3, yr_114_4, yr_114_5, yr_114_6, yr_114_7, yr_114_8, yr_115_5, yr_115_6, yr_118_0, yr_227_0, yr_227_1, yr_227_2, yr_227_3, yr_232_0, yr_233_0, yr_233_1, yr_233_2, yr_236_0, yr_236_1, yr_236_2, yr_236_3, yr_236_4, yr_236_5, yr_243_0, yr_243_1, yr_243_2, yr_243_3, yr_243_4, yr_243_5, yr_250_0, yr_250_1, yr_250_2, yr_250_3, yr_250_4, yr_250_5, yr_257_0, yr_257_1, yr_257_2, yr_257_3, yr_257_4, yr_257_5, yr_264_0, yr_264_1, yr_264_2, yr_264_3, yr_264_4, yr_268_0, yr_268_1, yr_268_2, yr_268_3, yr_271_0, yr_271_1, yr_271_2, yr_271_3, yr_271_4, yr_275_0, yr_275_1, yr_275_2, yr_275_3, yr_275_15, yr_275_16, yr_275_22, yr_275_23, yr_275_24, yr_275_25, yr_275_26, yr_275_27, yr_275_28, yr_275_29, yr_275_30, yr_275_31, yr_275_32, yr_275_33, ↓yk_0_0, ↓yk_0_1, ↓yk_0_2, ↓yk_0_3, ↓yk_0_4, ↓yk_0_5, ↓yk_0_6, ↓yk_0_7, ↓yk_1_0, ↓yk_1_1, ↓yk_1_2, ↓yk_1_3, ↓yk_1_4, ↓yk_1_5, ↓yk_1_6, ↓yk_1_7, ↓yk_1_8, ↓yk_2_5, ↓yk_2_6, ↓yk_5_0, ↓yk_114_0, ↓yk_114_1, ↓yk_114_2, ↓yk_114_3, ↓yk_114_4, ↓yk_114_5, ↓yk_114_6, ↓yk_114_7, ↓yk_114_8, ↓yk_115_5, ↓yk_115_6, ↓yk_118_0, ↓yk_227_0, ↓yk_227_1, ↓yk_227_2, ↓yk_227_3, ↓yk_232_0, ↓yk_233_0, ↓yk_233_1, ↓yk_233_2, ↓yk_236_0, ↓yk_236_1, ↓yk_236_2, ↓yk_236_3, ↓yk_236_4, ↓yk_236_5, ↓yk_243_0, ↓yk_243_1, ↓yk_243_2, ↓yk_243_3, ↓yk_243_4, ↓yk_243_5, ↓yk_250_0, ↓yk_250_1, ↓yk_250_2, ↓yk_250_3, ↓yk_250_4, ↓yk_250_5, ↓yk_257_0, ↓yk_257_1, ↓yk_257_2, ↓yk_257_3, ↓yk_257_4, ↓yk_257_5, ↓yk_264_0, ↓yk_264_1, ↓yk_264_2, ↓yk_264_3, ↓yk_264_4, ↓yk_268_0, ↓yk_268_1, ↓yk_268_2, ↓yk_268_3, ↓yk_271_0, ↓yk_271_1, ↓yk_271_2, ↓yk_271_3, ↓yk_271_4, ↓yk_275_0, ↓yk_275_1, ↓yk_275_2, ↓yk_275_3, ↓yk_275_15, ↓yk_275_16, ↓yk_275_22, ↓yk_275_23, ↓yk_275_24, ↓yk_275_25, ↓yk_275_26, ↓yk_275_27, ↓yk_275_28, ↓yk_275_29, ↓yk_275_30, ↓yk_275_31, ↓yk_275_32, ↓yk_275_33, in_3, in_4, in_97, in_99, in_100, in_101, in_102, in_116, in_117, in_210, in_212, in_213, in_214, in_215, in_228, in_229, in_230, in_231, in_235, in_237, in_238, in_239, in_240, in_241, in_242, in_244, in_245, in_246, in_247, in_248, in_249, in_251, in_252, in_253, in_254, in_255, in_256, in_258, in_259, in_260, in_261, in_262, in_263, in_265, in_266, in_267, in_269, in_270, in_272, in_273, in_274, in_276, in_277, in_278, in_279, in_280, in_281, in_282, in_283, in_284, in_285, in_286, in_287, in_288, in_289, in_290, in_291, in_292, in_293, ia_6, ia_98, ia_119, ia_211, ia_234, z_M_rank_0, z_M_rank_5, z_M_rank_14, z_M_rank_19, z_M_rank_24, z_M_rank_29, z_M_rank_31, h1]
      all_goals rfl
    · by_cases h2 : 20 ≤ o
      · have h3 := h24 h2 (by omega)
        have h4 : o - 20 ≤ 4 := by omega
        simp -implicitDefEqProofs (disch := first | assumption | exact Ly.wI (by assumption) | omega) only [↓reduceIte, rr_s, ri_s, rl_s, rv_s, ↓lt_s1, ↓rr_s, ↓ri_s, ↓rl_s, ↓rv_s, wI_tg, wI_ln, wI_rf, zr0, zr1, emn, bz0, bz1, oi, nI_add, nI_mul, nI_clamp, nI_leI, nI_ltI, nI_eq, nI_lt0, ne_m1, m1_ne, m1_le, m1_lt, le_m1, lt_m1, not_true_eq_false, not_false_eq_true, true_and, and_true, false_and, and_false, or_true, true_or, or_false, false_or, and_self, Nat.zero_le, ite_self, Bool.false_eq_true, e10, e01, nI_eq0, nI_eq1, nI_ge0, m1_ge0, m1_lt0, nne, nle, yle, nlt, ylt, yt_0, yt_1, yt_2, yt_3, yl_3, yt_4, yl_4, yt_5, yt_6, yl_6, yt_97, yl_97, yt_98, yl_98, yt_99, yl_99, yt_100, yl_100, yt_101, yl_101, yt_102, yl_102, yt_103, yt_114, yt_115, yt_116, yl_116, yt_117, yl_117, yt_118, yt_119, yl_119, yt_210, yl_210, yt_211, yl_211, yt_212, yl_212, yt_213, yl_213, yt_214, yl_214, yt_215, yl_215, yt_216, yt_227, yt_228, yl_228, yt_229, yl_229, yt_230, yl_230, yt_231, yl_231, yt_232, yt_233, yt_234, yl_234, yt_235, yl_235, yt_236, yt_237, yl_237, yt_238, yl_238, yt_239, yl_239, yt_240, yl_240, yt_241, yl_241, yt_242, yl_242, yt_243, yt_244, yl_244, yt_245, yl_245, yt_246, yl_246, yt_247, yl_247, yt_248, yl_248, yt_249, yl_249, yt_250, yt_251, yl_251, yt_252, yl_252, yt_253, yl_253, yt_254, yl_254, yt_255, yl_255, yt_256, yl_256, yt_257, yt_258, yl_258, yt_259, yl_259, yt_260, yl_260, yt_261, yl_261, yt_262, yl_262, yt_263, yl_263, yt_264, yt_265, yl_265, yt_266, yl_266, yt_267, yl_267, yt_268, yt_269, yl_269, yt_270, yl_270, yt_271, yt_272, yl_272, yt_273, yl_273, yt_274, yl_274, yt_275, yt_276, yl_276, yt_277, yl_277, yt_278, yl_278, yt_279, yl_279, yt_280, yl_280, yt_281, yl_281, yt_282, yl_282, yt_283, yl_283, yt_284, yl_284, yt_285, yl_285, yt_286, yl_286, yt_287, yl_287, yt_288, yl_288, yt_289, yl_289, yt_290, yl_290, yt_291, yl_291, yt_292, yl_292, yt_293, yl_293, yr_0_0, yr_0_1, yr_0_2, yr_0_3, yr_0_4, yr_0_5, yr_0_6, yr_0_7, yr_1_0, yr_1_1, yr_1_2, yr_1_3, yr_1_4, yr_1_5, yr_1_6, yr_1_7, yr_1_8, yr_2_5, yr_2_6, yr_5_0, yr_114_0, yr_114_1, yr_114_2, yr_114_3, yr_114_4, yr_114_5, yr_114_6, yr_114_7, yr_114_8, yr_115_5, yr_115_6, yr_118_0, yr_227_0, yr_227_1, yr_227_2, yr_227_3, yr_232_0, yr_233_0, yr_233_1, yr_233_2, yr_236_0, yr_236_1, yr_236_2, yr_236_3, yr_236_4, yr_236_5, yr_243_0, yr_243_1, yr_243_2, yr_243_3, yr_243_4, yr_243_5, yr_250_0, yr_250_1, yr_250_2, yr_250_3, yr_250_4, yr_250_5, yr_257_0, yr_257_1, yr_257_2, yr_257_3, yr_257_4, yr_257_5, yr_264_0, yr_264_1, yr_264_2, yr_264_3, yr_264_4, yr_268_0, yr_268_1, yr_268_2, yr_268_3, yr_271_0, yr_271_1, yr_271_2, yr_271_3, yr_271_4, yr_275_0, yr_275_1, yr_275_2, yr_275_3, yr_275_15, yr_275_16, yr_275_22, yr_275_23, yr_275_24, yr_275_25, yr_275_26, yr_275_27, yr_275_28, yr_275_29, yr_275_30, yr_275_31, yr_275_32, yr_275_33, ↓yk_0_0, ↓yk_0_1, ↓yk_0_2, ↓yk_0_3, ↓yk_0_4, ↓yk_0_5, ↓yk_0_6, ↓yk_0_7, ↓yk_1_0, ↓yk_1_1, ↓yk_1_2, ↓yk_1_3, ↓yk_1_4, ↓yk_1_5, ↓yk_1_6, ↓yk_1_7, ↓yk_1_8, ↓yk_2_5, ↓yk_2_6, ↓yk_5_0, ↓yk_114_0, ↓yk_114_1, ↓yk_114_2, ↓yk_114_3, ↓yk_114_4, ↓yk_114_5, ↓yk_114_6, ↓yk_114_7, ↓yk_114_8, ↓yk_115_5, ↓yk_115_6, ↓yk_118_0, ↓yk_227_0, ↓yk_227_1, ↓yk_227_2, ↓yk_227_3, ↓yk_232_0, ↓yk_233_0, ↓yk_233_1, ↓yk_233_2, ↓yk_236_0, ↓yk_236_1, ↓yk_236_2, ↓yk_236_3, ↓yk_236_4, ↓yk_236_5, ↓yk_243_0, ↓yk_243_1, ↓yk_243_2, ↓yk_243_3, ↓yk_243_4, ↓yk_243_5, ↓yk_250_0, ↓yk_250_1, ↓yk_250_2, ↓yk_250_3, ↓yk_250_4, ↓yk_250_5, ↓yk_257_0, ↓yk_257_1, ↓yk_257_2, ↓yk_257_3, ↓yk_257_4, ↓yk_257_5, ↓yk_264_0, ↓yk_264_1, ↓yk_264_2, ↓yk_264_3, ↓yk_264_4, ↓yk_268_0, ↓yk_268_1, ↓yk_268_2, ↓yk_268_3, ↓yk_271_0, ↓yk_271_1, ↓yk_271_2, ↓yk_271_3, ↓yk_271_4, ↓yk_275_0, ↓yk_275_1, ↓yk_275_2, ↓yk_275_3, ↓yk_275_15, ↓yk_275_16, ↓yk_275_22, ↓yk_275_23, ↓yk_275_24, ↓yk_275_25, ↓yk_275_26, ↓yk_275_27, ↓yk_275_28, ↓yk_275_29, ↓yk_275_30, ↓yk_275_31, ↓yk_275_32, ↓yk_275_33, in_3, in_4, in_97, in_99, in_100, in_101, in_102, in_116, in_117, in_210, in_212, in_213, in_214, in_215, in_228, in_229, in_230, in_231, in_235, in_237, in_238, in_239, in_240, in_241, in_242, in_244, in_245, in_246, in_247, in_248, in_249, in_251, in_252, in_253, in_254, in_255, in_256, in_258, in_259, in_260, in_261, in_262, in_263, in_265, in_266, in_267, in_269, in_270, in_272, in_273, in_274, in_276, in_277, in_278, in_279, in_280, in_281, in_282, in_283, in_284, in_285, in_286, in_287, in_288, in_289, in_290, in_291, in_292, in_293, ia_6, ia_98, ia_119, ia_211, ia_234, z_M_rank_0, z_M_rank_5, z_M_rank_14, z_M_rank_19, z_M_rank_24, z_M_rank_29, z_M_rank_31, h1, h2, nI_sub]
        all_goals rfl
      · by_cases h3 : 10 ≤ o
        · simp -implicitDefEqProofs (disch := first | assumption | exact Ly.wI (by assumption) | omega) only [↓reduceIte, rr_s, ri_s, rl_s, rv_s, ↓lt_s1, ↓rr_s, ↓ri_s, ↓rl_s, ↓rv_s, wI_tg, wI_ln, wI_rf, zr0, zr1, emn, bz0, bz1, oi, nI_add, nI_mul, nI_clamp, nI_leI, nI_ltI, nI_eq, nI_lt0, ne_m1, m1_ne, m1_le, m1_lt, le_m1, lt_m1, not_true_eq_false, not_false_eq_true, true_and, and_true, false_and, and_false, or_true, true_or, or_false, false_or, and_self, Nat.zero_le, ite_self, Bool.false_eq_true, e10, e01, nI_eq0, nI_eq1, nI_ge0, m1_ge0, m1_lt0, nne, nle, yle, nlt, ylt, yt_0, yt_1, yt_2, yt_3, yl_3, yt_4, yl_4, yt_5, yt_6, yl_6, yt_97, yl_97, yt_98, yl_98, yt_99, yl_99, yt_100, yl_100, yt_101, yl_101, yt_102, yl_102, yt_103, yt_114, yt_115, yt_116, yl_116, yt_117, yl_117, yt_118, yt_119, yl_119, yt_210, yl_210, yt_211, yl_211, yt_212, yl_212, yt_213, yl_213, yt_214, yl_214, yt_215, yl_215, yt_216, yt_227, yt_228, yl_228, yt_229, yl_229, yt_230, yl_230, yt_231, yl_231, yt_232, yt_233, yt_234, yl_234, yt_235, yl_235, yt_236, yt_237, yl_237, yt_238, yl_238, yt_239, yl_239, yt_240, yl_240, yt_241, yl_241, yt_242, yl_242, yt_243, yt_244, yl_244, yt_245, yl_245, yt_246, yl_246, yt_247, yl_247, yt_248, yl_248, yt_249, yl_249, yt_250, yt_251, yl_251, yt_252, yl_252, yt_253, yl_253, yt_254, yl_254, yt_255, yl_255, yt_256, yl_256, yt_257, yt_258, yl_258, yt_259, yl_259, yt_260, yl_260, yt_261, yl_261, yt_262, yl_262, yt_263, yl_263, yt_264, yt_265, yl_265, yt_266, yl_266, yt_267, yl_267, yt_268, yt_269, yl_269, yt_270, yl_270, yt_271, yt_272, yl_272, yt_273, yl_273, yt_274, yl_274, yt_275, yt_276, yl_276, yt_277, yl_277, yt_278, yl_278, yt_279, yl_279, yt_280, yl_280, yt_281, yl_281, yt_282, yl_282, yt_283, yl_283, yt_284, yl_284, yt_285, yl_285, yt_286, yl_286, yt_287, yl_287, yt_288, yl_288, yt_289, yl_289, yt_290, yl_290, yt_291, yl_291, yt_292, yl_292, yt_293, yl_293, yr_0_0, yr_0_1, yr_0_2, yr_0_3, yr_0_4, yr_0_5, yr_0_6, yr_0_7, yr_1_0, yr_1_1, yr_1_2, yr_1_3, yr_1_4, yr_1_5, yr_1_6, yr_1_7, yr_1_8, yr_2_5, yr_2_6, yr_5_0, yr_114_0, yr_114_1, yr_114_2, yr_114_3, yr_114_4, yr_114_5, yr_114_6, yr_114_7, yr_114_8, yr_115_5, yr_115_6, yr_118_0, yr_227_0, yr_227_1, yr_227_2, yr_227_3, yr_232_0, yr_233_0, yr_233_1, yr_233_2, yr_236_0, yr_236_1, yr_236_2, yr_236_3, yr_236_4, yr_236_5, yr_243_0, yr_243_1, yr_243_2, yr_243_3, yr_243_4, yr_243_5, yr_250_0, yr_250_1, yr_250_2, yr_250_3, yr_250_4, yr_250_5, yr_257_0, yr_257_1, yr_257_2, yr_257_3, yr_257_4, yr_257_5, yr_264_0, yr_264_1, yr_264_2, yr_264_3, yr_264_4, yr_268_0, yr_268_1, yr_268_2, yr_268_3, yr_271_0, yr_271_1, yr_271_2, yr_271_3, yr_271_4, yr_275_0, yr_275_1, yr_275_2, yr_275_3, yr_275_15, yr_275_16, yr_275_22, yr_275_23, yr_275_24, yr_275_25, yr_275_26, yr_275_27, yr_275_28, yr_275_29, yr_275_30, yr_275_31, yr_275_32, yr_275_33, ↓yk_0_0, ↓yk_0_1, ↓yk_0_2, ↓yk_0_3, ↓yk_0_4, ↓yk_0_5, ↓yk_0_6, ↓yk_0_7, ↓yk_1_0, ↓yk_1_1, ↓yk_1_2, ↓yk_1_3, ↓yk_1_4, ↓yk_1_5, ↓yk_1_6, ↓yk_1_7, ↓yk_1_8, ↓yk_2_5, ↓yk_2_6, ↓yk_5_0, ↓yk_114_0, ↓yk_114_1, ↓yk_114_2, ↓yk_114_3, ↓yk_114_4, ↓yk_114_5, ↓yk_114_6, ↓yk_114_7, ↓yk_114_8, ↓yk_115_5, ↓yk_115_6, ↓yk_118_0, ↓yk_227_0, ↓yk_227_1, ↓yk_227_2, ↓yk_227_3, ↓yk_232_0, ↓yk_233_0, ↓yk_233_1, ↓yk_233_2, ↓yk_236_0, ↓yk_236_1, ↓yk_236_2, ↓yk_236_3, ↓yk_236_4, ↓yk_236_5, ↓yk_243_0, ↓yk_243_1, ↓yk_243_2, ↓yk_243_3, ↓yk_243_4, ↓yk_243_5, ↓yk_250_0, ↓yk_250_1, ↓yk_250_2, ↓yk_250_3, ↓yk_250_4, ↓yk_250_5, ↓yk_257_0, ↓yk_257_1, ↓yk_257_2, ↓yk_257_3, ↓yk_257_4, ↓yk_257_5, ↓yk_264_0, ↓yk_264_1, ↓yk_264_2, ↓yk_264_3, ↓yk_264_4, ↓yk_268_0, ↓yk_268_1, ↓yk_268_2, ↓yk_268_3, ↓yk_271_0, ↓yk_271_1, ↓yk_271_2, ↓yk_271_3, ↓yk_271_4, ↓yk_275_0, ↓yk_275_1, ↓yk_275_2, ↓yk_275_3, ↓yk_275_15, ↓yk_275_16, ↓yk_275_22, ↓yk_275_23, ↓yk_275_24, ↓yk_275_25, ↓yk_275_26, ↓yk_275_27, ↓yk_275_28, ↓yk_275_29, ↓yk_275_30, ↓yk_275_31, ↓yk_275_32, ↓yk_275_33, in_3, in_4, in_97, in_99, in_100, in_101, in_102, in_116, in_117, in_210, in_212, in_213, in_214, in_215, in_228, in_229, in_230, in_231, in_235, in_237, in_238, in_239, in_240, in_241, in_242, in_244, in_245, in_246, in_247, in_248, in_249, in_251, in_252, in_253, in_254, in_255, in_256, in_258, in_259, in_260, in_261, in_262, in_263, in_265, in_266, in_267, in_269, in_270, in_272, in_273, in_274, in_276, in_277, in_278, in_279, in_280, in_281, in_282, in_283, in_284, in_285, in_286, in_287, in_288, in_289, in_290, in_291, in_292, in_293, ia_6, ia_98, ia_119, ia_211, ia_234, z_M_rank_0, z_M_rank_5, z_M_rank_14, z_M_rank_19, z_M_rank_24, z_M_rank_29, z_M_rank_31, h1, h2, h3]
          all_goals rfl
        · by_cases h4 : o = 5
          · subst h4
            simp -implicitDefEqProofs (disch := first | assumption | exact Ly.wI (by assumption) | omega) only [↓reduceIte, rr_s, ri_s, rl_s, rv_s, ↓lt_s1, ↓rr_s, ↓ri_s, ↓rl_s, ↓rv_s, wI_tg, wI_ln, wI_rf, zr0, zr1, emn, bz0, bz1, oi, nI_add, nI_mul, nI_clamp, nI_leI, nI_ltI, nI_eq, nI_lt0, ne_m1, m1_ne, m1_le, m1_lt, le_m1, lt_m1, not_true_eq_false, not_false_eq_true, true_and, and_true, false_and, and_false, or_true, true_or, or_false, false_or, and_self, Nat.zero_le, ite_self, Bool.false_eq_true, e10, e01, nI_eq0, nI_eq1, nI_ge0, m1_ge0, m1_lt0, nne, nle, yle, nlt, ylt, yt_0, yt_1, yt_2, yt_3, yl_3, yt_4, yl_4, yt_5, yt_6, yl_6, yt_97, yl_97, yt_98, yl_98, yt_99, yl_99, yt_100, yl_100, yt_101, yl_101, yt_102, yl_102, yt_103, yt_114, yt_115, yt_116, yl_116, yt_117, yl_117, yt_118, yt_119, yl_119, yt_210, yl_210, yt_211, yl_211, yt_212, yl_212, yt_213, yl_213, yt_214, yl_214, yt_215, yl_215, yt_216, yt_227, yt_228, yl_228, yt_229, yl_229, yt_230, yl_230, yt_231, yl_231, yt_232, yt_233, yt_234, yl_234, yt_235, yl_235, yt_236, yt_237, yl_237, yt_238, yl_238, yt_239, yl_239, yt_240, yl_240, yt_241, yl_241, yt_242, yl_242, yt_243, yt_244, yl_244, yt_245, yl_245, yt_246, yl_246, yt_247, yl_247, yt_248, yl_248, yt_249, yl_249, yt_250, yt_251, yl_251, yt_252, yl_252, yt_253, yl_253, yt_254, yl_254, yt_255, yl_255, yt_256, yl_256, yt_257, yt_258, yl_258, yt_259, yl_259, yt_260, yl_260, yt_261, yl_261, yt_262, yl_262, yt_263, yl_263, yt_264, yt_265, yl_265, yt_266, yl_266, yt_267, yl_267, yt_268, yt_269, yl_269, yt_270, yl_270, yt_271, yt_272, yl_272, yt_273, yl_273, yt_274, yl_274, yt_275, yt_276, yl_276, yt_277, yl_277, yt_278, yl_278, yt_279, yl_279, yt_280, yl_280, yt_281, yl_281, yt_282, yl_282, yt_283, yl_283, yt_284, yl_284, yt_285, yl_285, yt_286, yl_286, yt_287, yl_287, yt_288, yl_288, yt_289, yl_289, yt_290, yl_290, yt_291, yl_291, yt_292, yl_292, yt_293, yl_293, yr_0_0, yr_0_1, yr_0_2, yr_0_3, yr_0_4, yr_0_5, yr_0_6, yr_0_7, yr_1_0, yr_1_1, yr_1_2, yr_1_3, yr_1_4, yr_1_5, yr_1_6, yr_1_7, yr_1_8, yr_2_5, yr_2_6, yr_5_0, yr_114_0, yr_114_1, yr_114_2, yr_114_3, yr_114_4, yr_114_5, yr_114_6, yr_114_7, yr_114_8, yr_115_5, yr_115_6, yr_118_0, yr_227_0, yr_227_1, yr_227_2, yr_227_3, yr_232_0, yr_233_0, yr_233_1, yr_233_2, yr_236_0, yr_236_1, yr_236_2, yr_236_3, yr_236_4, yr_236_5, yr_243_0, yr_243_1, yr_243_2, yr_243_3, yr_243_4, yr_243_5, yr_250_0, yr_250_1, yr_250_2, yr_250_3, yr_250_4, yr_250_5, yr_257_0, yr_257_1, yr_257_2, yr_257_3, yr_257_4, yr_257_5, yr_264_0, yr_264_1, yr_264_2, yr_264_3, yr_264_4, yr_268_0, yr_268_1, yr_268_2, yr_268_3, yr_271_0, yr_271_1, yr_271_2, yr_271_3, yr_271_4, yr_275_0, yr_275_1, yr_275_2, yr_275_3, yr_275_15, yr_275_16, yr_275_22, yr_275_23, yr_275_24, yr_275_25, yr_275_26, yr_275_27, yr_275_28, yr_275_29, yr_275_30, yr_275_31, yr_275_32, yr_275_33, ↓yk_0_0, ↓yk_0_1, ↓yk_0_2, ↓yk_0_3, ↓yk_0_4, ↓yk_0_5, ↓yk_0_6, ↓yk_0_7, ↓yk_1_0, ↓yk_1_1, ↓yk_1_2, ↓yk_1_3, ↓yk_1_4, ↓yk_1_5, ↓yk_1_6, ↓yk_1_7, ↓yk_1_8, ↓yk_2_5, ↓yk_2_6, ↓yk_5_0, ↓yk_114_0, ↓yk_114_1, ↓yk_114_2, ↓yk_114_3, ↓yk_114_4, ↓yk_114_5, ↓yk_114_6, ↓yk_114_7, ↓yk_114_8, ↓yk_115_5, ↓yk_115_6, ↓yk_118_0, ↓yk_227_0, ↓yk_227_1, ↓yk_227_2, ↓yk_227_3, ↓yk_232_0, ↓yk_233_0, ↓yk_233_1, ↓yk_233_2, ↓yk_236_0, ↓yk_236_1, ↓yk_236_2, ↓yk_236_3, ↓yk_236_4, ↓yk_236_5, ↓yk_243_0, ↓yk_243_1, ↓yk_243_2, ↓yk_243_3, ↓yk_243_4, ↓yk_243_5, ↓yk_250_0, ↓yk_250_1, ↓yk_250_2, ↓yk_250_3, ↓yk_250_4, ↓yk_250_5, ↓yk_257_0, ↓yk_257_1, ↓yk_257_2, ↓yk_257_3, ↓yk_257_4, ↓yk_257_5, ↓yk_264_0, ↓yk_264_1, ↓yk_264_2, ↓yk_264_3, ↓yk_264_4, ↓yk_268_0, ↓yk_268_1, ↓yk_268_2, ↓yk_268_3, ↓yk_271_0, ↓yk_271_1, ↓yk_271_2, ↓yk_271_3, ↓yk_271_4, ↓yk_275_0, ↓yk_275_1, ↓yk_275_2, ↓yk_275_3, ↓yk_275_15, ↓yk_275_16, ↓yk_275_22, ↓yk_275_23, ↓yk_275_24, ↓yk_275_25, ↓yk_275_26, ↓yk_275_27, ↓yk_275_28, ↓yk_275_29, ↓yk_275_30, ↓yk_275_31, ↓yk_275_32, ↓yk_275_33, in_3, in_4, in_97, in_99, in_100, in_101, in_102, in_116, in_117, in_210, in_212, in_213, in_214, in_215, in_228, in_229, in_230, in_231, in_235, in_237, in_238, in_239, in_240, in_241, in_242, in_244, in_245, in_246, in_247, in_248, in_249, in_251, in_252, in_253, in_254, in_255, in_256, in_258, in_259, in_260, in_261, in_262, in_263, in_265, in_266, in_267, in_269, in_270, in_272, in_273, in_274, in_276, in_277, in_278, in_279, in_280, in_281, in_282, in_283, in_284, in_285, in_286, in_287, in_288, in_289, in_290, in_291, in_292, in_293, ia_6, ia_98, ia_119, ia_211, ia_234, z_M_rank_0, z_M_rank_5, z_M_rank_14, z_M_rank_19, z_M_rank_24, z_M_rank_29, z_M_rank_31]
            all_goals rfl
          · by_cases h5 : 8 ≤ o
            · simp -implicitDefEqProofs (disch := first | assumption | exact Ly.wI (by assumption) | omega) only [↓reduceIte, rr_s, ri_s, rl_s, rv_s, ↓lt_s1, ↓rr_s, ↓ri_s, ↓rl_s, ↓rv_s, wI_tg, wI_ln, wI_rf, zr0, zr1, emn, bz0, bz1, oi, nI_add, nI_mul, nI_clamp, nI_leI, nI_ltI, nI_eq, nI_lt0, ne_m1, m1_ne, m1_le, m1_lt, le_m1, lt_m1, not_true_eq_false, not_false_eq_true, true_and, and_true, false_and, and_false, or_true, true_or, or_false, false_or, and_self, Nat.zero_le, ite_self, Bool.false_eq_true, e10, e01, nI_eq0, nI_eq1, nI_ge0, m1_ge0, m1_lt0, nne, nle, yle, nlt, ylt, yt_0, yt_1, yt_2, yt_3, yl_3, yt_4, yl_4, yt_5, yt_6, yl_6, yt_97, yl_97, yt_98, yl_98, yt_99, yl_99, yt_100, yl_100, yt_101, yl_101, yt_102, yl_102, yt_103, yt_114, yt_115, yt_116, yl_116, yt_117, yl_117, yt_118, yt_119, yl_119, yt_210, yl_210, yt_211, yl_211, yt_212, yl_212, yt_213, yl_213, yt_214, yl_214, yt_215, yl_215, yt_216, yt_227, yt_228, yl_228, yt_229, yl_229, yt_230, yl_230, yt_231, yl_231, yt_232, yt_233, yt_234, yl_234, yt_235, yl_235, yt_236, yt_237, yl_237, yt_238, yl_238, yt_239, yl_239, yt_240, yl_240, yt_241, yl_241, yt_242, yl_242, yt_243, yt_244, yl_244, yt_245, yl_245, yt_246, yl_246, yt_247, yl_247, yt_248, yl_248, yt_249, yl_249, yt_250, yt_251, yl_251, yt_252, yl_252, yt_253, yl_253, yt_254, yl_254, yt_255, yl_255, yt_256, yl_256, yt_257, yt_258, yl_258, yt_259, yl_259, yt_260, yl_260, yt_261, yl_261, yt_262, yl_262, yt_263, yl_263, yt_264, yt_265, yl_265, yt_266, yl_266, yt_267, yl_267, yt_268, yt_269, yl_269, yt_270, yl_270, yt_271, yt_272, yl_272, yt_273, yl_273, yt_274, yl_274, yt_275, yt_276, yl_276, yt_277, yl_277, yt_278, yl_278, yt_279, yl_279, yt_280, yl_280, yt_281, yl_281, yt_282, yl_282, yt_283, yl_283, yt_284, yl_284, yt_285, yl_285, yt_286, yl_286, yt_287, yl_287, yt_288, yl_288, yt_289, yl_289, yt_290, yl_290, yt_291, yl_291, yt_292, yl_292, yt_293, yl_293, yr_0_0, yr_0_1, yr_0_2, yr_0_3, yr_0_4, yr_0_5, yr_0_6, yr_0_7, yr_1_0, yr_1_1, yr_1_2, yr_1_3, yr_1_4, yr_1_5, yr_1_6, yr_1_7, yr_1_8, yr_2_5, yr_2_6, yr_5_0, yr_114_0, yr_114_1, yr_114_2, yr_114_3, yr_114_4, yr_114_5, yr_114_6, yr_114_7, yr_114_8, yr_115_5, yr_115_6, yr_118_0, yr_227_0, yr_227_1, yr_227_2, yr_227_3, yr_232_0, yr_233_0, yr_233_1, yr_233_2, yr_236_0, yr_236_1, yr_236_2, yr_236_3, yr_236_4, yr_236_5, yr_243_0, yr_243_1, yr_243_2, yr_243_3, yr_243_4, yr_243_5, yr_250_0, yr_250_1, yr_250_2, yr_250_3, yr_250_4, yr_250_5, yr_257_0, yr_257_1, yr_257_2, yr_257_3, yr_257_4, yr_257_5, yr_264_0, yr_264_1, yr_264_2, yr_264_3, yr_264_4, yr_268_0, yr_268_1, yr_268_2, yr_268_3, yr_271_0, yr_271_1, yr_271_2, yr_271_3, yr_271_4, yr_275_0, yr_275_1, yr_275_2, yr_275_3, yr_275_15, yr_275_16, yr_275_22, yr_275_23, yr_275_24, yr_275_25, yr_275_26, yr_275_27, yr_275_28, yr_275_29, yr_275_30, yr_275_31, yr_275_32, yr_275_33, ↓yk_0_0, ↓yk_0_1, ↓yk_0_2, ↓yk_0_3, ↓yk_0_4, ↓yk_0_5, ↓yk_0_6, ↓yk_0_7, ↓yk_1_0, ↓yk_1_1, ↓yk_1_2, ↓yk_1_3, ↓yk_1_4, ↓yk_1_5, ↓yk_1_6, ↓yk_1_7, ↓yk_1_8, ↓yk_2_5, ↓yk_2_6, ↓yk_5_0, ↓yk_114_0, ↓yk_114_1, ↓yk_114_2, ↓yk_114_3, ↓yk_114_4, ↓yk_114_5, ↓yk_114_6, ↓yk_114_7, ↓yk_114_8, ↓yk_115_5, ↓yk_115_6, ↓yk_118_0, ↓yk_227_0, ↓yk_227_1, ↓yk_227_2, ↓yk_227_3, ↓yk_232_0, ↓yk_233_0, ↓yk_233_1, ↓yk_233_2, ↓yk_236_0, ↓yk_236_1, ↓yk_236_2, ↓yk_236_3, ↓yk_236_4, ↓yk_236_5, ↓yk_243_0, ↓yk_243_1, ↓yk_243_2, ↓yk_243_3, ↓yk_243_4, ↓yk_243_5, ↓yk_250_0, ↓yk_250_1, ↓yk_250_2, ↓yk_250_3, ↓yk_250_4, ↓yk_250_5, ↓yk_257_0, ↓yk_257_1, ↓yk_257_2, ↓yk_257_3, ↓yk_257_4, ↓yk_257_5, ↓yk_264_0, ↓yk_264_1, ↓yk_264_2, ↓yk_264_3, ↓yk_264_4, ↓yk_268_0, ↓yk_268_1, ↓yk_268_2, ↓yk_268_3, ↓yk_271_0, ↓yk_271_1, ↓yk_271_2, ↓yk_271_3, ↓yk_271_4, ↓yk_275_0, ↓yk_275_1, ↓yk_275_2, ↓yk_275_3, ↓yk_275_15, ↓yk_275_16, ↓yk_275_22, ↓yk_275_23, ↓yk_275_24, ↓yk_275_25, ↓yk_275_26, ↓yk_275_27, ↓yk_275_28, ↓yk_275_29, ↓yk_275_30, ↓yk_275_31, ↓yk_275_32, ↓yk_275_33, in_3, in_4, in_97, in_99, in_100, in_101, in_102, in_116, in_117, in_210, in_212, in_213, in_214, in_215, in_228, in_229, in_230, in_231, in_235, in_237, in_238, in_239, in_240, in_241, in_242, in_244, in_245, in_246, in_247, in_248, in_249, in_251, in_252, in_253, in_254, in_255, in_256, in_258, in_259, in_260, in_261, in_262, in_263, in_265, in_266, in_267, in_269, in_270, in_272, in_273, in_274, in_276, in_277, in_278, in_279, in_280, in_281, in_282, in_283, in_284, in_285, in_286, in_287, in_288, in_289, in_290, in_291, in_292, in_293, ia_6, ia_98, ia_119, ia_211, ia_234, z_M_rank_0, z_M_rank_5, z_M_rank_14, z_M_rank_19, z_M_rank_24, z_M_rank_29, z_M_rank_31, h1, h2, h3, h4, h5]
              all_goals rfl
            · simp -implicitDefEqProofs (disch := first | assumption | exact Ly.wI (by assumption) | omega) only [↓reduceIte, rr_s, ri_s, rl_s, rv_s, ↓lt_s1, ↓rr_s, ↓ri_s, ↓rl_s, ↓rv_s, wI_tg, wI_ln, wI_rf, zr0, zr1, emn, bz0, bz1, oi, nI_add, nI_mul, nI_clamp, nI_leI, nI_ltI, nI_eq, nI_lt0, ne_m1, m1_ne, m1_le, m1_lt, le_m1, lt_m1, not_true_eq_false, not_false_eq_true, true_and, and_true, false_and, and_false, or_true, true_or, or_false, false_or, and_self, Nat.zero_le, ite_self, Bool.false_eq_true, e10, e01, nI_eq0, nI_eq1, nI_ge0, m1_ge0, m1_lt0, nne, nle, yle, nlt, ylt, yt_0, yt_1, yt_2, yt_3, yl_3, yt_4, yl_4, yt_5, yt_6, yl_6, yt_97, yl_97, yt_98, yl_98, yt_99, yl_99, yt_100, yl_100, yt_101, yl_101, yt_102, yl_102, yt_103, yt_114, yt_115, yt_116, yl_116, yt_117, yl_117, yt_118, yt_119, yl_119, yt_210, yl_210, yt_211, yl_211, yt_212, yl_212, yt_213, yl_213, yt_214, yl_214, yt_215, yl_215, yt_216, yt_227, yt_228, yl_228, yt_229, yl_229, yt_230, yl_230, yt_231, yl_231, yt_232, yt_233, yt_234, yl_234, yt_235, yl_235, yt_236, yt_237, yl_237, yt_238, yl_238, yt_239, yl_239, yt_240, yl_240, yt_241, yl_241, yt_242, yl_242, yt_243, yt_244, yl_244, yt_245, yl_245, yt_246, yl_246, yt_247, yl_247, yt_248, yl_248, yt_249, yl_249, yt_250, yt_251, yl_251, yt_252, yl_252, yt_253, yl_253, yt_254, yl_254, yt_255, yl_255, yt_256, yl_256, yt_257, yt_258, yl_258, yt_259, yl_259, yt_260, yl_260, yt_261, yl_261, yt_262, yl_262, yt_263, yl_263, yt_264, yt_265, yl_265, yt_266, yl_266, yt_267, yl_267, yt_268, yt_269, yl_269, yt_270, yl_270, yt_271, yt_272, yl_272, yt_273, yl_273, yt_274, yl_274, yt_275, yt_276, yl_276, yt_277, yl_277, yt_278, yl_278, yt_279, yl_279, yt_280, yl_280, yt_281, yl_281, yt_282, yl_282, yt_283, yl_283, yt_284, yl_284, yt_285, yl_285, yt_286, yl_286, yt_287, yl_287, yt_288, yl_288, yt_289, yl_289, yt_290, yl_290, yt_291, yl_291, yt_292, yl_292, yt_293, yl_293, yr_0_0, yr_0_1, yr_0_2, yr_0_3, yr_0_4, yr_0_5, yr_0_6, yr_0_7, yr_1_0, yr_1_1, yr_1_2, yr_1_3, yr_1_4, yr_1_5, yr_1_6, yr_1_7, yr_1_8, yr_2_5, yr_2_6, yr_5_0, yr_114_0, yr_114_1, yr_114_2, yr_114_3, yr_114_4, yr_114_5, yr_114_6, yr_114_7, yr_114_8, yr_115_5, yr_115_6, yr_118_0, yr_227_0, yr_227_1, yr_227_2, yr_227_3, yr_232_0, yr_233_0, yr_233_1, yr_233_2, yr_236_0, yr_236_1, yr_236_2, yr_236_3, yr_236_4, yr_236_5, yr_243_0, yr_243_1, yr_243_2, yr_243_3, yr_243_4, yr_243_5, yr_250_0, yr_250_1, yr_250_2, yr_250_3, yr_250_4, yr_250_5, yr_257_0, yr_257_1, yr_257_2, yr_257_3, yr_257_4, yr_257_5, yr_264_0, yr_264_1, yr_264_2, yr_264_3, yr_264_4, yr_268_0, yr_268_1, yr_268_2, yr_268_3, yr_271_0, yr_271_1, yr_271_2, yr_271_3, yr_271_4, yr_275_0, yr_275_1, yr_275_2, yr_275_3, yr_275_15, yr_275_16, yr_275_22, yr_275_23, yr_275_24, yr_275_25, yr_275_26, yr_275_27, yr_275_28, yr_275_29, yr_275_30, yr_275_31, yr_275_32, yr_275_33, ↓yk_0_0, ↓yk_0_1, ↓yk_0_2, ↓yk_0_3, ↓yk_0_4, ↓yk_0_5, ↓yk_0_6, ↓yk_0_7, ↓yk_1_0, ↓yk_1_1, ↓yk_1_2, ↓yk_1_3, ↓yk_1_4, ↓yk_1_5, ↓yk_1_6, ↓yk_1_7, ↓yk_1_8, ↓yk_2_5, ↓yk_2_6, ↓yk_5_0, ↓yk_114_0, ↓yk_114_1, ↓yk_114_2, ↓yk_114_3, ↓yk_114_4, ↓yk_114_5, ↓yk_114_6, ↓yk_114_7, ↓yk_114_8, ↓yk_115_5, ↓yk_115_6, ↓yk_118_0, ↓yk_227_0, ↓yk_227_1, ↓yk_227_2, ↓yk_227_3, ↓yk_232_0, ↓yk_233_0, ↓yk_233_1, ↓yk_233_2, ↓yk_236_0, ↓yk_236_1, ↓yk_236_2, ↓yk_236_3, ↓yk_236_4, ↓yk_236_5, ↓yk_243_0, ↓yk_243_1, ↓yk_243_2, ↓yk_243_3, ↓yk_243_4, ↓yk_243_5, ↓yk_250_0, ↓yk_250_1, ↓yk_250_2, ↓yk_250_3, ↓yk_250_4, ↓yk_250_5, ↓yk_257_0, ↓yk_257_1, ↓yk_257_2, ↓yk_257_3, ↓yk_257_4, ↓yk_257_5, ↓yk_264_0, ↓yk_264_1, ↓yk_264_2, ↓yk_264_3, ↓yk_264_4, ↓yk_268_0, ↓yk_268_1, ↓yk_268_2, ↓yk_268_3, ↓yk_271_0, ↓yk_271_1, ↓yk_271_2, ↓yk_271_3, ↓yk_271_4, ↓yk_275_0, ↓yk_275_1, ↓yk_275_2, ↓yk_275_3, ↓yk_275_15, ↓yk_275_16, ↓yk_275_22, ↓yk_275_23, ↓yk_275_24, ↓yk_275_25, ↓yk_275_26, ↓yk_275_27, ↓yk_275_28, ↓yk_275_29, ↓yk_275_30, ↓yk_275_31, ↓yk_275_32, ↓yk_275_33, in_3, in_4, in_97, in_99, in_100, in_101, in_102, in_116, in_117, in_210, in_212, in_213, in_214, in_215, in_228, in_229, in_230, in_231, in_235, in_237, in_238, in_239, in_240, in_241, in_242, in_244, in_245, in_246, in_247, in_248, in_249, in_251, in_252, in_253, in_254, in_255, in_256, in_258, in_259, in_260, in_261, in_262, in_263, in_265, in_266, in_267, in_269, in_270, in_272, in_273, in_274, in_276, in_277, in_278, in_279, in_280, in_281, in_282, in_283, in_284, in_285, in_286, in_287, in_288, in_289, in_290, in_291, in_292, in_293, ia_6, ia_98, ia_119, ia_211, ia_234, z_M_rank_0, z_M_rank_5, z_M_rank_14, z_M_rank_19, z_M_rank_24, z_M_rank_29, z_M_rank_31, h1, h2, h3, h4, h5]
              all_goals rfl
  rw [e]
  rfl
/-- ops of the pile -/
def opo (o : Nat) : Prop := 5 ≤ o ∧ o ≤ 16 ∨ 20 ≤ o ∧ o ≤ 23 ∨ o = 40 ∨ o = 41
def opl (P : List Nat) : Prop := ∀ o, o ∈ P → opo o
theorem opo_b {o : Nat} (h : opo o) : o < 1000 ∧ (20 ≤ o → o < 40 → o ≤ 24) := by
  unfold opo at h
  omega
/-! steps of the reference -/
section
variable {u0 : sm_M} {b : Nat → Nat} {n t ev : Nat}
theorem MS.ly {u : sm_M} {τ : Sr} (h : MS u0 b n t u τ) : Ly u := h.1.1
theorem MS.tg {u : sm_M} {τ : Sr} (h : MS u0 b n t u τ) : (sm_tg u 275 = 112) = True := eq_true (yt_275 h.ly)
/-- an int of the reference's own is written -/
theorem MS.w {u : sm_M} {τ : Sr} (h : MS u0 b n t u τ) {k : Nat} {x : Int32} (hk : k = 18 ∨ k = 20) {τ' : Sr} (e1 : τ'.1 = τ.1) (e2 : τ'.2.1 = τ.2.1) (e3 : τ'.2.2.1 = τ.2.2.1) (e5 : τ'.2.2.2.2.1 = τ.2.2.2.2.1)
    (h4 : k ≠ 18 → τ'.2.2.2.1 = τ.2.2.2.1) (h4' : k = 18 → x = nI τ'.2.2.2.1 ∧ τ'.2.2.2.1 ≤ 300) (h6 : k ≠ 20 → τ'.2.2.2.2.2 = τ.2.2.2.2.2) (h6' : k = 20 → x = (if τ'.2.2.2.2.2 = true then 1 else 0)) : MS u0 b n t (sm_wI u 275 k x) τ' := by
  obtain ⟨⟨hu, hB⟩, hf, hT, hc, hp, ho, hn, hw⟩ := h
  have F1 : FrP (fun a j => a = 275 ∧ j = k) u (sm_wI u 275 k x) := FrP.rf.wI ⟨rfl, rfl⟩
  refine ⟨⟨hu.wI, hB.fr F1 (by omega) (fun i => by omega)⟩, hf.wI (Or.inl ⟨rfl, by omega⟩), ?_, ?_, ?_, ?_, ?_, ?_⟩
  · rw [e1]
    exact ⟨hT.1, by rw [wI_nk (by omega)]; exact hT.2.1, by rw [wI_nk (by omega)]; exact hT.2.2.1, by rw [wI_nk (by omega)]; exact hT.2.2.2.1, fun z1 z2 => by rw [wI_nk (by omega)]; exact hT.2.2.2.2.1 z1 z2, fun z1 z2 => by rw [wI_L]; exact hT.2.2.2.2.2 z1 z2⟩
  · rw [e2]
    exact ⟨by rw [wI_nk (by omega)]; exact hc.1, hc.2.1, fun i hi => by rw [wI_na (by omega), wI_na (by omega)]; exact hc.2.2 i hi⟩
  · rw [e3]
    exact ⟨by rw [wI_nk (by omega)]; exact hp.1, hp.2.1, hp.2.2.cg (fun k _ => wI_na (by omega))⟩
  · by_cases q : k = 18
    · subst q
      rw [wI_at]
      exact h4' rfl
    · rw [wI_nk (by omega), h4 q]
      exact ho
  · rw [e5]
    exact ⟨by rw [wI_nk (by omega)]; exact hn.1, hn.2.1, hn.2.2.cg (fun k _ => wI_na (by omega))⟩
  · by_cases q : k = 20
    · subst q
      rw [wI_at]
      exact h6' rfl
    · rw [wI_nk (by omega), h6 q]
      exact hw
/-- the pile's own two cells -/
theorem MS.push {u : sm_M} {s : Nat} {c : List (Nat × Nat)} {P : List Nat} {p : Nat} {N : List Nat} {w : Bool} (h : MS u0 b n t u (s, c, P, p, N, w)) {o : Nat} (ho : o < 1000) (hl : P.length < 160) : MS u0 b n t (sm_wI (sm_wI u 280 P.length (nI o)) 275 17 (nI (P.length + 1))) (s, c, o :: P, p, N, w) := by
  obtain ⟨⟨hu, hB⟩, hf, hT, hc, hp, hop, hn, hw⟩ := h
  have F1 : FrP (fun a j => a = 280 ∨ a = 275 ∧ j = 17) u (sm_wI (sm_wI u 280 P.length (nI o)) 275 17 (nI (P.length + 1))) := (FrP.rf.wI (Or.inl rfl)).wI (Or.inr ⟨rfl, rfl⟩)
  have R : ∀ a j, a ≠ 280 → (a ≠ 275 ∨ j ≠ 17) → sm_I (sm_wI (sm_wI u 280 P.length (nI o)) 275 17 (nI (P.length + 1))) a j = sm_I u a j := fun a j h1 h2 => F1.2.2 a j (by omega)
  refine ⟨⟨hu.wI.wI, hB.fr F1 (by omega) (fun i => by omega)⟩, (hf.wI (by omega)).wI (by omega), ?_, ?_, ?_, ?_, ?_, ?_⟩
  · exact ⟨hT.1, by rw [R _ _ (by omega) (by omega)]; exact hT.2.1, by rw [R _ _ (by omega) (by omega)]; exact hT.2.2.1, by rw [R _ _ (by omega) (by omega)]; exact hT.2.2.2.1, fun z1 z2 => by rw [R _ _ (by omega) (by omega)]; exact hT.2.2.2.2.1 z1 z2, fun z1 z2 => by rw [wI_L, wI_L]; exact hT.2.2.2.2.2 z1 z2⟩
  · exact ⟨by rw [R _ _ (by omega) (by omega)]; exact hc.1, hc.2.1, fun i hi => by rw [R _ _ (by omega) (by omega), R _ _ (by omega) (by omega)]; exact hc.2.2 i hi⟩
  · refine ⟨by rw [wI_at]; rfl, hl, ⟨⟨by rw [wI_na (by decide), wI_at], ho⟩, hp.2.2.cg (fun k (hk : k < P.length) => by rw [wI_na (by decide), wI_nk (by omega)])⟩⟩
  · exact ⟨by rw [R _ _ (by omega) (by omega)]; exact hop.1, hop.2⟩
  · exact ⟨by rw [R _ _ (by omega) (by omega)]; exact hn.1, hn.2.1, hn.2.2.cg (fun k _ => R _ _ (by omega) (by omega))⟩
  · rw [R _ _ (by omega) (by omega)]
    exact hw
theorem MS.pop {u : sm_M} {s : Nat} {c : List (Nat × Nat)} {P : List Nat} {p : Nat} {N : List Nat} {w : Bool} {o : Nat} (h : MS u0 b n t u (s, c, o :: P, p, N, w)) : MS u0 b n t (sm_wI u 275 17 (nI P.length)) (s, c, P, p, N, w) ∧ sm_I (sm_wI u 275 17 (nI P.length)) 280 P.length = nI o := by
  obtain ⟨⟨hu, hB⟩, hf, hT, hc, hp, hop, hn, hw⟩ := h
  have F1 : FrP (fun a j => a = 275 ∧ j = 17) u (sm_wI u 275 17 (nI P.length)) := FrP.rf.wI ⟨rfl, rfl⟩
  have R : ∀ a j, (a ≠ 275 ∨ j ≠ 17) → sm_I (sm_wI u 275 17 (nI P.length)) a j = sm_I u a j := fun a j h2 => F1.2.2 a j (by omega)
  have hl : P.length + 1 ≤ 160 := hp.2.1
  refine ⟨⟨⟨hu.wI, hB.fr F1 (by omega) (fun i => by omega)⟩, hf.wI (by omega), ?_, ?_, ?_, ?_, ?_, ?_⟩, ?_⟩
  · exact ⟨hT.1, by rw [R _ _ (by omega)]; exact hT.2.1, by rw [R _ _ (by omega)]; exact hT.2.2.1, by rw [R _ _ (by omega)]; exact hT.2.2.2.1, fun z1 z2 => by rw [R _ _ (by omega)]; exact hT.2.2.2.2.1 z1 z2, fun z1 z2 => by rw [wI_L]; exact hT.2.2.2.2.2 z1 z2⟩
  · exact ⟨by rw [R _ _ (by omega)]; exact hc.1, hc.2.1, fun i hi => by rw [R _ _ (by omega), R _ _ (by omega)]; exact hc.2.2 i hi⟩
  · exact ⟨wI_at, Nat.le_of_succ_le hl, hp.2.2.2.cg (fun k hk => R _ _ (by omega))⟩
  · exact ⟨by rw [R _ _ (by omega)]; exact hop.1, hop.2⟩
  · exact ⟨by rw [R _ _ (by omega)]; exact hn.1, hn.2.1, hn.2.2.cg (fun k _ => R _ _ (by omega))⟩
  · rw [R _ _ (by omega)]
    exact hw
  · rw [R _ _ (by omega)]
    exact hp.2.2.1.1
theorem fst_n {b : Nat → Nat} {n : Nat} : fst1 b n n = n := by
  unfold fst1
  rw [Nat.sub_self]
  rfl
/-- behind a token the next one -/
theorem fst_e {b : Nat → Nat} {n s : Nat} (hs : s < n) : fst1 b n (enp b n s) = nxt b n s := by
  have he := enp_b (b := b) hs
  unfold fst1 nxt
  have : ∀ k a, s + 1 + k = a → a ≤ enp b n s → nf (sta b) (n - (s + 1)) (s + 1) = nf (sta b) (n - a) a := by
    intro k
    induction k with
    | zero => intro a h1 h2; subst h1; rfl
    | succ k ih =>
      intro a h1 h2
      rw [ih (a - 1) (by omega) (by omega)]
      obtain ⟨j, hj⟩ : ∃ j, n - (a - 1) = j + 1 := ⟨n - a, by omega⟩
      have hg := he.2.2 (a - 1) (by omega) (by omega)
      have hst : ¬ sta b (a - 1) = true := by
        unfold sta
        rw [hg]
        simp
      rw [hj, show nf (sta b) (j + 1) (a - 1) = if sta b (a - 1) = true then a - 1 else nf (sta b) j (a - 1 + 1) from rfl, if_neg hst, show a - 1 + 1 = a by omega, show n - a = j by omega]
  exact (this (enp b n s - (s + 1)) (enp b n s) (by omega) (Nat.le_refl _)).symm
def nx1 (b : Nat → Nat) (n s : Nat) : Nat := if s < n then nxt b n s else s
theorem m_next (H : Mx u0 b n t ev) {D : Nat} (hD : 2 ≤ D) {u : sm_M} {s : Nat} {r : List (Nat × Nat) × List Nat × Nat × List Nat × Bool} (h : MS u0 b n t u (s, r)) : Rn (sm_call D 225 [.ref 275] u) (fun v => MS u0 b n t v (nx1 b n s, r)) := by
  obtain ⟨⟨hu, hB⟩, hf, hT, hc, hp, hop, hn, hw⟩ := h
  have hps := hT.1
  have hsn := hps.le
  have he : (if s < n then enp b n s else n) ≤ n := by
    split
    · rename_i z
      exact (enp_b (b := b) z).2.1
    · exact Nat.le_refl n
  have hg : (if s < n then enp b n s else n) < n → gon b (if s < n then enp b n s else n) = false := by
    by_cases z : s < n
    · rw [if_pos z]
      intro q
      have := (nf_sp (fun j => !gon b j) (n - (s + 1)) (s + 1)).2.2.1 (by unfold enp at q; omega)
      unfold enp
      simpa using this
    · rw [if_neg z]
      intro q
      exact absurd q (Nat.lt_irrefl n)
  refine (r_next hD hu hB he hg hT.2.1).mono (fun v hv => ?_)
  obtain ⟨hv1, f1, t1⟩ := hv
  have R : ∀ a j, (a ≠ 275 ∨ j < 7 ∨ 10 < j) → sm_I v a j = sm_I u a j := fun a j h2 => f1.2.2 a j (by omega)
  have es : fst1 b n (if s < n then enp b n s else n) = nx1 b n s := by
    unfold nx1
    by_cases z : s < n
    · rw [if_pos z, if_pos z]
      exact fst_e z
    · rw [if_neg z, if_neg z, fst_n]
      omega
  rw [es] at t1
  refine ⟨⟨hv1, hB.fr f1 (by omega) (fun i => by omega)⟩, hf.tr (f1.mono (fun a k q => by omega)), t1, ?_, ?_, ?_, ?_, ?_⟩
  · exact ⟨by rw [R _ _ (by omega)]; exact hc.1, hc.2.1, fun i hi => by rw [R _ _ (by omega), R _ _ (by omega)]; exact hc.2.2 i hi⟩
  · exact ⟨by rw [R _ _ (by omega)]; exact hp.1, hp.2.1, hp.2.2.cg (fun k _ => R _ _ (by omega))⟩
  · exact ⟨by rw [R _ _ (by omega)]; exact hop.1, hop.2⟩
  · exact ⟨by rw [R _ _ (by omega)]; exact hn.1, hn.2.1, hn.2.2.cg (fun k _ => R _ _ (by omega))⟩
  · rw [R _ _ (by omega)]
    exact hw
theorem m_emit (H : Mx u0 b n t ev) {D : Nat} (hD : 1 ≤ D) {u : sm_M} {s : Nat} {c : List (Nat × Nat)} {r : List Nat × Nat × List Nat × Bool} (h : MS u0 b n t u (s, c, r)) {o v : Nat} (hl : c.length < 300) : Rn (sm_call D 232 [.ref 275, .int (nI o), .int (nI v)] u) (fun x => MS u0 b n t x (s, c ++ [(o, v)], r) ∧ ∀ k, sm_I x 280 k = sm_I u 280 k) := by
  obtain ⟨D, rfl⟩ : ∃ k, D = k + 1 := ⟨D - 1, by omega⟩
  obtain ⟨hn3, ht, h12, h14, hev⟩ := H
  obtain ⟨⟨hu, hB⟩, hf, hT, hc, hp, hop, hn, hw⟩ := h
  have e12 : sm_I u 275 12 = nI (705 * t) := by rw [hf.2.2 _ _ (by omega)]; exact h12
  have e13 : sm_I u 275 13 = nI c.length := hc.1
  have x1 : nI (705 * t) + nI 97 + nI 2 * nI c.length = nI (705 * t + 97 + 2 * c.length) := by rw [nI_mul, nI_add, nI_add]
  have x2 : nI (705 * t + 97 + 2 * c.length) + nI 1 = nI (705 * t + 98 + 2 * c.length) := by rw [nI_add]; congr 1; omega
  have cl1 : (nI (705 * t + 97 + 2 * c.length)).toNatClampNeg = 705 * t + 97 + 2 * c.length := nI_clamp (by omega)
  have cl2 : (nI (705 * t + 98 + 2 * c.length)).toNatClampNeg = 705 * t + 98 + 2 * c.length := nI_clamp (by omega)
  rw [k_M_emit, z_M_emit_0]
  simp -implicitDefEqProofs only [eq_true (yt_275 hu), ↓yk_275_2 hu, e12, e13, x1, in_278 hu (show 705 * t + 97 + 2 * c.length < 2820 by omega), cl1, ↓reduceIte, lt_s1]
  have L1 : Ly (sm_wI u 278 (705 * t + 97 + 2 * c.length) (nI o)) := hu.wI
  have F1 : FrP (fun a j => a = 278 ∧ j = 705 * t + 97 + 2 * c.length) u (sm_wI u 278 (705 * t + 97 + 2 * c.length) (nI o)) := FrP.rf.wI ⟨rfl, rfl⟩
  have V1 : sm_I (sm_wI u 278 (705 * t + 97 + 2 * c.length) (nI o)) 278 (705 * t + 97 + 2 * c.length) = nI o := wI_at
  have G1 : sm_L (sm_wI u 278 (705 * t + 97 + 2 * c.length) (nI o)) 275 11 = sm_L u 275 11 := wI_L
  generalize sm_wI u 278 (705 * t + 97 + 2 * c.length) (nI o) = w1 at *
  have e12' : sm_I w1 275 12 = nI (705 * t) := by rw [F1.2.2 _ _ (by omega)]; exact e12
  have e13' : sm_I w1 275 13 = nI c.length := by rw [F1.2.2 _ _ (by omega)]; exact e13
  simp -implicitDefEqProofs only [eq_true (yt_275 L1), ↓yk_275_2 L1, e12', e13', x1, x2, in_278 L1 (show 705 * t + 98 + 2 * c.length < 2820 by omega), cl2, ↓reduceIte, lt_s1]
  have L2 : Ly (sm_wI w1 278 (705 * t + 98 + 2 * c.length) (nI v)) := L1.wI
  have F2 : FrP (fun a j => a = 278 ∧ (j = 705 * t + 97 + 2 * c.length ∨ j = 705 * t + 98 + 2 * c.length)) u (sm_wI w1 278 (705 * t + 98 + 2 * c.length) (nI v)) := (F1.mono (fun a k q => by omega)).wI ⟨rfl, Or.inr rfl⟩
  have V2 : sm_I (sm_wI w1 278 (705 * t + 98 + 2 * c.length) (nI v)) 278 (705 * t + 98 + 2 * c.length) = nI v := wI_at
  have V1' : sm_I (sm_wI w1 278 (705 * t + 98 + 2 * c.length) (nI v)) 278 (705 * t + 97 + 2 * c.length) = nI o := by rw [wI_nk (by omega)]; exact V1
  have G2 : sm_L (sm_wI w1 278 (705 * t + 98 + 2 * c.length) (nI v)) 275 11 = sm_L u 275 11 := by rw [wI_L]; exact G1
  generalize sm_wI w1 278 (705 * t + 98 + 2 * c.length) (nI v) = w2 at *
  have e13'' : sm_I w2 275 13 = nI c.length := by rw [F2.2.2 _ _ (by omega)]; exact e13
  simp -implicitDefEqProofs only [eq_true (yt_275 L2), e13'', nI_add, ↓reduceIte, lt_s1]
  have F3 : FrP (fun a j => a = 278 ∧ (j = 705 * t + 97 + 2 * c.length ∨ j = 705 * t + 98 + 2 * c.length) ∨ a = 275 ∧ j = 13) u (sm_wI w2 275 13 (nI (c.length + 1))) := (F2.mono (fun a k q => Or.inl q)).wI (Or.inr ⟨rfl, rfl⟩)
  have R : ∀ a j, ¬ (a = 278 ∧ (j = 705 * t + 97 + 2 * c.length ∨ j = 705 * t + 98 + 2 * c.length) ∨ a = 275 ∧ j = 13) → sm_I (sm_wI w2 275 13 (nI (c.length + 1))) a j = sm_I u a j := F3.2.2
  refine Rn.ret ⟨⟨⟨L2.wI, hB.fr F3 (by omega) (fun i => by omega)⟩, hf.tr (F3.mono (fun a k q => by omega)), ?_, ?_, ?_, ?_, ?_, ?_⟩, fun k => R 280 k (by omega)⟩
  · exact ⟨hT.1, by rw [R _ _ (by omega)]; exact hT.2.1, by rw [R _ _ (by omega)]; exact hT.2.2.1, by rw [R _ _ (by omega)]; exact hT.2.2.2.1, fun z1 z2 => by rw [R _ _ (by omega)]; exact hT.2.2.2.2.1 z1 z2, fun z1 z2 => by rw [wI_L, G2]; exact hT.2.2.2.2.2 z1 z2⟩
  · refine ⟨by rw [wI_at, List.length_append]; rfl, by rw [List.length_append]; exact hl, fun i hi => ?_⟩
    rw [List.length_append] at hi
    have hi : i < c.length + 1 := hi
    by_cases z : i = c.length
    · subst z
      rw [gD_l, wI_na (by decide), V1', wI_na (by decide), V2]
      exact ⟨rfl, rfl⟩
    · rw [gD_a (by omega), R _ _ (by omega), R _ _ (by omega)]
      exact hc.2.2 i (show i < c.length by omega)
  · exact ⟨by rw [R _ _ (by omega)]; exact hp.1, hp.2.1, hp.2.2.cg (fun k _ => R _ _ (by omega))⟩
  · exact ⟨by rw [R _ _ (by omega)]; exact hop.1, hop.2⟩
  · exact ⟨by rw [R _ _ (by omega)]; exact hn.1, hn.2.1, hn.2.2.cg (fun k _ => R _ _ (by omega))⟩
  · rw [R _ _ (by omega)]
    exact hw
end
