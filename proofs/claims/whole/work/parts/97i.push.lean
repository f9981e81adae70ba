/-! a step is kept: the class -/
theorem z_S_copyFrom_0 (C : Nat → List Value → sm_M → sm_R) (n : Nat) (u : sm_M) (a0 a1 : Nat) : sm_run C c_S_copyFrom (n + 1) 0 [some (.ref a0), some (.ref a1)] [] u = if sm_tg u a1 = 100 then (if sm_tg u a0 = 100 then (sm_lt (sm_wI u a0 0 (sm_I u a1 0)) (fun u1 => if sm_tg u1 a1 = 100 then (if sm_tg u1 a0 = 100 then (sm_lt (sm_wI u1 a0 1 (sm_I u1 a1 1)) (fun u2 => if sm_tg u2 a1 = 100 then (if sm_tg u2 a0 = 100 then (sm_lt (sm_wI u2 a0 2 (sm_I u2 a1 2)) (fun u3 => if sm_tg u3 a1 = 100 then (if sm_tg u3 a0 = 100 then (sm_lt (sm_wI u3 a0 3 (sm_I u3 a1 3)) (fun u4 => if sm_tg u4 a1 = 100 then (if sm_tg u4 a0 = 100 then (sm_lt (sm_wI u4 a0 4 (sm_I u4 a1 4)) (fun u5 => if sm_tg u5 a1 = 100 then sm_rr (sm_Rf u5 a1 5) (fun q6 => if sm_tg u5 a0 = 100 then sm_rr (sm_Rf u5 a0 5) (fun q7 => if sm_tg u5 q6 = 1 ∧ sm_tg u5 q7 = 1 ∧ 0 ≤ (nI 0) ∧ 0 ≤ (nI 0) ∧ 0 ≤ (nI 6) ∧ (nI 0).toNatClampNeg + (nI 6).toNatClampNeg ≤ sm_ln u5 q6 ∧ (nI 0).toNatClampNeg + (nI 6).toNatClampNeg ≤ sm_ln u5 q7 then (sm_lt (sm_wC u5 q6 q7 (nI 0).toNatClampNeg (nI 0).toNatClampNeg (nI 6).toNatClampNeg) (fun u8 => if sm_tg u8 a1 = 100 then sm_rr (sm_Rf u8 a1 6) (fun q9 => if sm_tg u8 a0 = 100 then sm_rr (sm_Rf u8 a0 6) (fun q10 => if sm_tg u8 q9 = 1 ∧ sm_tg u8 q10 = 1 ∧ 0 ≤ (nI 0) ∧ 0 ≤ (nI 0) ∧ 0 ≤ (nI 10) ∧ (nI 0).toNatClampNeg + (nI 10).toNatClampNeg ≤ sm_ln u8 q9 ∧ (nI 0).toNatClampNeg + (nI 10).toNatClampNeg ≤ sm_ln u8 q10 then (sm_lt (sm_wC u8 q9 q10 (nI 0).toNatClampNeg (nI 0).toNatClampNeg (nI 10).toNatClampNeg) (fun u11 => some (none, u11))) else none) else none) else none)) else none) else none) else none)) else none) else none)) else none) else none)) else none) else none)) else none) else none)) else none) else none := q_S_copyFrom_0 C n u a0 a1
theorem z_T_push_0 (C : Nat → List Value → sm_M → sm_R) (n : Nat) (u : sm_M) (a0 a1 : Nat) : sm_run C c_T_push (n + 1) 0 [some (.ref a0), some (.ref a1), none] [] u = if sm_tg u a0 = 103 then (if sm_tg u a0 = 103 then (if (nI 30) = 0 then none else (if sm_tg u a0 = 103 then sm_rr (sm_Rf u a0 0) (fun q1 => if 4 ≤ sm_tg u q1 ∧ sm_tg u q1 ≤ 6 ∧ ¬ ((((sm_I u a0 1) + (sm_I u a0 2)) - ((sm_I u a0 1) + (sm_I u a0 2)) / (nI 30) * (nI 30)) < 0 ∨ sm_ln u q1 ≤ (((sm_I u a0 1) + (sm_I u a0 2)) - ((sm_I u a0 1) + (sm_I u a0 2)) / (nI 30) * (nI 30)).toNatClampNeg) then sm_rr (sm_Rf u q1 (((sm_I u a0 1) + (sm_I u a0 2)) - ((sm_I u a0 1) + (sm_I u a0 2)) / (nI 30) * (nI 30)).toNatClampNeg) (fun q2 => if sm_tg u q2 = 100 then (sm_rv (C 4 [.ref q2, .ref a1] u) (fun u3 => if sm_tg u3 a0 = 103 then (if (nI 30) ≤ (sm_I u3 a0 2) then (sm_run C c_T_push n 25 [some (.ref a0), some (.ref a1), some (.int (((sm_I u a0 1) + (sm_I u a0 2)) - ((sm_I u a0 1) + (sm_I u a0 2)) / (nI 30) * (nI 30)))] [] u3) else (if sm_tg u3 a0 = 103 then (if sm_tg u3 a0 = 103 then (sm_lt (sm_wI u3 a0 2 ((sm_I u3 a0 2) + (nI 1))) (fun u4 => sm_run C c_T_push n 34 [some (.ref a0), some (.ref a1), some (.int (((sm_I u a0 1) + (sm_I u a0 2)) - ((sm_I u a0 1) + (sm_I u a0 2)) / (nI 30) * (nI 30)))] [] u4)) else none) else none)) else none)) else none) else none) else none)) else none) else none := q_T_push_0 C n u a0 a1
theorem z_T_push_25 (C : Nat → List Value → sm_M → sm_R) (n : Nat) (u : sm_M) (a0 a1 : Nat) (v2 : Int32) : sm_run C c_T_push (n + 1) 25 [some (.ref a0), some (.ref a1), some (.int v2)] [] u = if sm_tg u a0 = 103 then (if (nI 30) = 0 then none else (if sm_tg u a0 = 103 then (sm_lt (sm_wI u a0 1 (((sm_I u a0 1) + (nI 1)) - ((sm_I u a0 1) + (nI 1)) / (nI 30) * (nI 30))) (fun u1 => sm_run C c_T_push n 34 [some (.ref a0), some (.ref a1), some (.int v2)] [] u1)) else none)) else none := q_T_push_25 C n u a0 a1 v2
theorem z_T_push_34 (C : Nat → List Value → sm_M → sm_R) (n : Nat) (u : sm_M) (a0 a1 : Nat) (v2 : Int32) : sm_run C c_T_push (n + 1) 34 [some (.ref a0), some (.ref a1), some (.int v2)] [] u = some (none, u) := q_T_push_34 C n u a0 a1 v2
theorem wC_tg {u : sm_M} {a b s t n c : Nat} : sm_tg (sm_wC u a b s t n) c = sm_tg u c := rfl
theorem wC_ln {u : sm_M} {a b s t n c : Nat} : sm_ln (sm_wC u a b s t n) c = sm_ln u c := rfl
theorem wC_rf {u : sm_M} {a b s t n c j : Nat} : sm_Rf (sm_wC u a b s t n) c j = sm_Rf u c j := rfl
theorem wC_na {u : sm_M} {a b s t n c j : Nat} (h : c ≠ b) : sm_I (sm_wC u a b s t n) c j = sm_I u c j := by
  show sm_cp u.2.2.1 a b s t n c j = _
  unfold sm_cp
  rw [if_neg h]
theorem wC_at {u : sm_M} {a b n j : Nat} (h : j < n) : sm_I (sm_wC u a b 0 0 n) b j = sm_I u a j := by
  show sm_cp u.2.2.1 a b 0 0 n b j = _
  unfold sm_cp
  rw [if_pos rfl, if_pos (by omega), Nat.sub_zero, Nat.zero_add]
/-- a standing lies at q -/
def Sta (u : sm_M) (q : Nat) : Prop := sm_tg u q = 100 ∧ sm_Rf u q 5 = some (q + 1) ∧ sm_Rf u q 6 = some (q + 2) ∧ sm_tg u (q + 1) = 1 ∧ sm_ln u (q + 1) = 6 ∧ sm_tg u (q + 2) = 1 ∧ sm_ln u (q + 2) = 10
theorem Sta_2 {u : sm_M} (hu : Ly u) : Sta u 2 := ⟨yt_2 hu, yr_2_5 hu, yr_2_6 hu, yt_3 hu, yl_3 hu, yt_4 hu, yl_4 hu⟩
theorem Sta_r {u : sm_M} (hu : Ly u) {s : Nat} (hs : s < 30) : Sta u (7 + 3 * s) := by
  refine ⟨rg_tg hu hs, ?_, ?_, ?_, ?_, ?_, ?_⟩
  · rw [rg_ra hu hs]; congr 1; omega
  · rw [rg_rb hu hs]; congr 1; omega
  · rw [show 7 + 3 * s + 1 = 8 + 3 * s by omega]; exact rg_ta hu hs
  · rw [show 7 + 3 * s + 1 = 8 + 3 * s by omega]; exact rg_la hu hs
  · rw [show 7 + 3 * s + 2 = 9 + 3 * s by omega]; exact rg_tb hu hs
  · rw [show 7 + 3 * s + 2 = 9 + 3 * s by omega]; exact rg_lb hu hs
theorem c_copyFrom {u : sm_M} {q p : Nat} (hq : Sta u q) (hp : Sta u p) (hd : q + 2 < p ∨ p + 2 < q) (d : Nat) : ∃ v, sm_call (d + 1) 4 [.ref q, .ref p] u = some (none, v) ∧ v.1 = u.1 ∧ v.2.1 = u.2.1 ∧ (∀ k, k < 5 → sm_I v q k = sm_I u p k) ∧ (∀ k, k < 6 → sm_I v (q + 1) k = sm_I u (p + 1) k) ∧ (∀ k, k < 10 → sm_I v (q + 2) k = sm_I u (p + 2) k) ∧ (∀ a k, a < q ∨ q + 2 < a → sm_I v a k = sm_I u a k) := by
  obtain ⟨q1, q2, q3, q4, q5, q6, q7⟩ := hq
  obtain ⟨p1, p2, p3, p4, p5, p6, p7⟩ := hp
  refine ⟨sm_wC (sm_wC (sm_wI (sm_wI (sm_wI (sm_wI (sm_wI u q 0 (sm_I u p 0)) q 1 (sm_I u p 1)) q 2 (sm_I u p 2)) q 3 (sm_I u p 3)) q 4 (sm_I u p 4)) (p + 1) (q + 1) 0 0 6) (p + 2) (q + 2) 0 0 10, ?_, rfl, rfl, ?_, ?_, ?_, ?_⟩
  · rw [k_S_copyFrom]
    simp -implicitDefEqProofs (disch := first | assumption | exact Ly.wI (by assumption) | omega | ((repeat (refine Ly.wI ?_)); assumption)) only [↓reduceIte, rr_s, ri_s, rl_s, rv_s, ↓lt_s1, ↓rr_s, ↓ri_s, ↓rl_s, ↓rv_s, wI_tg, wI_ln, wI_rf, zr0, zr1, emn, bz0, bz1, oi, nI_add, nI_mul, nI_clamp, nI_leI, nI_ltI, nI_eq, nI_lt0, ne_m1, m1_ne, m1_le, m1_lt, le_m1, lt_m1, not_true_eq_false, not_false_eq_true, true_and, and_true, false_and, and_false, or_true, true_or, or_false, false_or, and_self, Nat.zero_le, ite_self, Bool.false_eq_true, e10, e01, nI_eq0, nI_eq1, nI_ge0, m1_ge0, m1_lt0, nne, nle, yle, nlt, ylt, yt_0, yt_1, yt_2, yt_3, yl_3, yt_4, yl_4, yt_5, yt_6, yl_6, yt_97, yl_97, yt_98, yl_98, yt_99, yl_99, yt_100, yl_100, yt_101, yl_101, yt_102, yl_102, yt_103, yt_114, yt_115, yt_116, yl_116, yt_117, yl_117, yt_118, yt_119, yl_119, yt_210, yl_210, yt_211, yl_211, yt_212, yl_212, yt_213, yl_213, yt_214, yl_214, yt_215, yl_215, yt_216, yt_227, yt_228, yl_228, yt_229, yl_229, yt_230, yl_230, yt_231, yl_231, yt_232, yt_233, yt_234, yl_234, yt_235, yl_235, yt_236, yt_237, yl_237, yt_238, yl_238, yt_239, yl_239, yt_240, yl_240, yt_241, yl_241, yt_242, yl_242, yt_243, yt_244, yl_244, yt_245, yl_245, yt_246, yl_246, yt_247, yl_247, yt_248, yl_248, yt_249, yl_249, yt_250, yt_251, yl_251, yt_252, yl_252, yt_253, yl_253, yt_254, yl_254, yt_255, yl_255, yt_256, yl_256, yt_257, yt_258, yl_258, yt_259, yl_259, yt_260, yl_260, yt_261, yl_261, yt_262, yl_262, yt_263, yl_263, yt_264, yt_265, yl_265, yt_266, yl_266, yt_267, yl_267, yt_268, yt_269, yl_269, yt_270, yl_270, yt_271, yt_272, yl_272, yt_273, yl_273, yt_274, yl_274, yt_275, yt_276, yl_276, yt_277, yl_277, yt_278, yl_278, yt_279, yl_279, yt_280, yl_280, yt_281, yl_281, yt_282, yl_282, yt_283, yl_283, yt_284, yl_284, yt_285, yl_285, yt_286, yl_286, yt_287, yl_287, yt_288, yl_288, yt_289, yl_289, yt_290, yl_290, yt_291, yl_291, yt_292, yl_292, yt_293, yl_293, yr_0_0, yr_0_1, yr_0_2, yr_0_3, yr_0_4, yr_0_5, yr_0_6, yr_0_7, yr_1_0, yr_1_1, yr_1_2, yr_1_3, yr_1_4, yr_1_5, yr_1_6, yr_1_7, yr_1_8, yr_2_5, yr_2_6, yr_5_0, yr_114_0, yr_114_1, yr_114_2, yr_114_3, yr_114_4, yr_114_5, yr_114_6, yr_114_7, yr_114_8, yr_115_5, yr_115_6, yr_118_0, yr_227_0, yr_227_1, yr_227_2, yr_227_3, yr_232_0, yr_233_0, yr_233_1, yr_233_2, yr_236_0, yr_236_1, yr_236_2, yr_236_3, yr_236_4, yr_236_5, yr_243_0, yr_243_1, yr_243_2, yr_243_3, yr_243_4, yr_243_5, yr_250_0, yr_250_1, yr_250_2, yr_250_3, yr_250_4, yr_250_5, yr_257_0, yr_257_1, yr_257_2, yr_257_3, yr_257_4, yr_257_5, yr_264_0, yr_264_1, yr_264_2, yr_264_3, yr_264_4, yr_268_0, yr_268_1, yr_268_2, yr_268_3, yr_271_0, yr_271_1, yr_271_2, yr_271_3, yr_271_4, yr_275_0, yr_275_1, yr_275_2, yr_275_3, yr_275_15, yr_275_16, yr_275_22, yr_275_23, yr_275_24, yr_275_25, yr_275_26, yr_275_27, yr_275_28, yr_275_29, yr_275_30, yr_275_31, yr_275_32, yr_275_33, ↓yk_0_0, ↓yk_0_1, ↓yk_0_2, ↓yk_0_3, ↓yk_0_4, ↓yk_0_5, ↓yk_0_6, ↓yk_0_7, ↓yk_1_0, ↓yk_1_1, ↓yk_1_2, ↓yk_1_3, ↓yk_1_4, ↓yk_1_5, ↓yk_1_6, ↓yk_1_7, ↓yk_1_8, ↓yk_2_5, ↓yk_2_6, ↓yk_5_0, ↓yk_114_0, ↓yk_114_1, ↓yk_114_2, ↓yk_114_3, ↓yk_114_4, ↓yk_114_5, ↓yk_114_6, ↓yk_114_7, ↓yk_114_8, ↓yk_115_5, ↓yk_115_6, ↓yk_118_0, ↓yk_227_0, ↓yk_227_1, ↓yk_227_2, ↓yk_227_3, ↓yk_232_0, ↓yk_233_0, ↓yk_233_1, ↓yk_233_2, ↓yk_236_0, ↓yk_236_1, ↓yk_236_2, ↓yk_236_3, ↓yk_236_4, ↓yk_236_5, ↓yk_243_0, ↓yk_243_1, ↓yk_243_2, ↓yk_243_3, ↓yk_243_4, ↓yk_243_5, ↓yk_250_0, ↓yk_250_1, ↓yk_250_2, ↓yk_250_3, ↓yk_250_4, ↓yk_250_5, ↓yk_257_0, ↓yk_257_1, ↓yk_257_2, ↓yk_257_3, ↓yk_257_4, ↓yk_257_5, ↓yk_264_0, ↓yk_264_1, ↓yk_264_2, ↓yk_264_3, ↓yk_264_4, ↓yk_268_0, ↓yk_268_1, ↓yk_268_2, ↓yk_268_3, ↓yk_271_0, ↓yk_271_1, ↓yk_271_2, ↓yk_271_3, ↓yk_271_4, ↓yk_275_0, ↓yk_275_1, ↓yk_275_2, ↓yk_275_3, ↓yk_275_15, ↓yk_275_16, ↓yk_275_22, ↓yk_275_23, ↓yk_275_24, ↓yk_275_25, ↓yk_275_26, ↓yk_275_27, ↓yk_275_28, ↓yk_275_29, ↓yk_275_30, ↓yk_275_31, ↓yk_275_32, ↓yk_275_33, in_3, in_4, in_97, in_99, in_100, in_101, in_102, in_116, in_117, in_210, in_212, in_213, in_214, in_215, in_228, in_229, in_230, in_231, in_235, in_237, in_238, in_239, in_240, in_241, in_242, in_244, in_245, in_246, in_247, in_248, in_249, in_251, in_252, in_253, in_254, in_255, in_256, in_258, in_259, in_260, in_261, in_262, in_263, in_265, in_266, in_267, in_269, in_270, in_272, in_273, in_274, in_276, in_277, in_278, in_279, in_280, in_281, in_282, in_283, in_284, in_285, in_286, in_287, in_288, in_289, in_290, in_291, in_292, in_293, ia_6, ia_98, ia_119, ia_211, ia_234, z_S_copyFrom_0, q1, q2, q3, q4, q5, q6, q7, p1, p2, p3, p4, p5, p6, p7, wI_na, wC_tg, wC_ln, wC_rf, Nat.zero_add, Nat.le_refl]
  · intro k hk
    rw [wC_na (by omega), wC_na (by omega)]
    have h5 : k = 0 ∨ k = 1 ∨ k = 2 ∨ k = 3 ∨ k = 4 := by omega
    rcases h5 with rfl | rfl | rfl | rfl | rfl
    · rw [wI_nk (by omega), wI_nk (by omega), wI_nk (by omega), wI_nk (by omega), wI_at]
    · rw [wI_nk (by omega), wI_nk (by omega), wI_nk (by omega), wI_at]
    · rw [wI_nk (by omega), wI_nk (by omega), wI_at]
    · rw [wI_nk (by omega), wI_at]
    · rw [wI_at]
  · intro k hk
    rw [wC_na (by omega), wC_at hk, wI_na (by omega), wI_na (by omega), wI_na (by omega), wI_na (by omega), wI_na (by omega)]
  · intro k hk
    rw [wC_at hk, wC_na (by omega), wI_na (by omega), wI_na (by omega), wI_na (by omega), wI_na (by omega), wI_na (by omega)]
  · intro a k ha
    rw [wC_na (by omega), wC_na (by omega), wI_na (by omega), wI_na (by omega), wI_na (by omega), wI_na (by omega), wI_na (by omega)]
/-! the array behind a step -/
theorem K_lo {A : Nat → Int32} (hA : nS A ≤ 30) {j : Nat} (h : j < 152) (h7 : j ≠ 7) : Fkeep A j = A j := by
  unfold Fkeep
  rw [up_ne h7, ins_o (by omega)]
  unfold shf
  split
  · rw [up_ne h7, ins_o (by omega)]
  · rfl
theorem K_7 {A : Nat → Int32} : Fkeep A 7 = nI (kn_ A + 1) := up_at
theorem kn_b {A : Nat → Int32} (hA : nS A ≤ 30) : kn_ A < 30 ∧ kn_ A ≤ nS A ∧ nS A ≤ kn_ A + 1 := by
  unfold kn_
  split <;> omega
theorem K_S {A : Nat → Int32} (hA : nS A ≤ 30) : nS (Fkeep A) = kn_ A + 1 := by
  show (Fkeep A 7).toNatClampNeg = _
  have := kn_b hA
  rw [K_7, nI_clamp (by omega)]
theorem K_lv {A : Nat → Int32} (hA : nS A ≤ 30) : ∀ k, k < 28 → lvb (Fkeep A) k = lvb A k := lvb_cg (fun k hk => K_lo hA (by omega) (by omega))
theorem K_bl {A : Nat → Int32} (hA : nS A ≤ 30) {i k : Nat} (hi : i < kn_ A) (hk : k < 28) : blk (Fkeep A) i k = blk A (i + (nS A - kn_ A)) k := by
  have hb := kn_b hA
  unfold blk Fkeep
  rw [up_ne (by omega), ins_o (by omega)]
  unfold shf
  by_cases h30 : nS A = 30
  · have hkn : kn_ A = 29 := by unfold kn_; rw [if_pos h30]
    rw [if_pos h30, up_ne (by omega)]
    unfold ins
    rw [if_pos (by omega)]
    exact congrArg A (show 180 + (152 + 28 * i + k - 152) = 152 + 28 * (i + (nS A - kn_ A)) + k by omega)
  · have hkn : kn_ A = nS A := by unfold kn_; rw [if_neg h30]
    rw [if_neg h30]
    exact congrArg A (show 152 + 28 * i + k = 152 + 28 * (i + (nS A - kn_ A)) + k by omega)
theorem K_bn {A : Nat → Int32} (hA : nS A ≤ 30) {k : Nat} (hk : k < 28) : blk (Fkeep A) (kn_ A) k = lvb A k := by
  have hb := kn_b hA
  unfold blk Fkeep
  rw [up_ne (by omega)]
  unfold ins
  rw [if_pos (by omega), Nat.add_sub_cancel_left]
/-- what block i is, as long as the steps go, and what is now behind them -/
theorem K_bk {A : Nat → Int32} (hA : nS A ≤ 30) {i k : Nat} (hi : i ≤ kn_ A) (hk : k < 28) : blk (Fkeep A) i k = bk A (i + (nS A - kn_ A)) k := by
  have hb := kn_b hA
  by_cases h : i < kn_ A
  · rw [K_bl hA h hk]
    unfold bk
    rw [if_pos (by omega)]
  · have e : i = kn_ A := by omega
    subst e
    rw [K_bn hA hk]
    unfold bk
    rw [if_neg (by omega)]
theorem TC_cg {A A' B B' D D' : Nat → Int32} (hD : nC D ≤ 8 ∧ nP D ≤ 10 ∧ nR D ≤ 6) (hB : ∀ k, k < 28 → B' k = B k) (hDD : ∀ k, k < 28 → D' k = D k) (h14 : ∀ c, c < 8 → A' (14 + 3 * c) = A (14 + 3 * c)) (h88 : ∀ r, r < 6 → A' (88 + 3 * r) = A (88 + 3 * r)) (H : TC A B D) : TC A' B' D' := by
  have c1 : nC B' = nC B := by unfold nC; rw [hB 0 (by omega)]
  have p1 : nP B' = nP B := by unfold nP; rw [hB 1 (by omega)]
  have r1 : nR B' = nR B := by unfold nR; rw [hB 2 (by omega)]
  have c2 : nC D' = nC D := by unfold nC; rw [hDD 0 (by omega)]
  have p2 : nP D' = nP D := by unfold nP; rw [hDD 1 (by omega)]
  have r2 : nR D' = nR D := by unfold nR; rw [hDD 2 (by omega)]
  obtain ⟨g1, g2, g3, g4, g5, g6⟩ := H
  refine ⟨by omega, by omega, by omega, fun c a b => ?_, fun r a b => ?_, fun p a b => ?_⟩
  · rw [hDD _ (by omega), h14 c (by omega)]
    exact g4 c (by omega) (by omega)
  · rw [hDD _ (by omega), h88 r (by omega)]
    exact g5 r (by omega) (by omega)
  · rw [hDD _ (by omega)]
    exact g6 p (by omega) (by omega)
theorem bk_WB {A : Nat → Int32} (h : MA A) (i : Nat) : WB (bk A i) := by
  unfold bk
  split
  · exact (h.2.2.2.2.2.2.2.2.2.2.2 i (by assumption)).1
  · exact h.1
theorem MA_keep {A : Nat → Int32} (h : MA A) : MA (Fkeep A) := by
  have b := MAb h
  have h0 := h
  have hA : nS A ≤ 30 := b.2.2.2.2.2.1
  have hb := kn_b hA
  obtain ⟨w, hH, hT, hY, hS, hF, qc, qp, qr, qh, qf, st⟩ := h
  have e := fun {j : Nat} (h1 : j < 152) (h2 : j ≠ 7) => K_lo hA h1 h2
  have nCe : nC (Fkeep A) = nC A := by unfold nC; rw [e (by omega) (by omega)]
  have nPe : nP (Fkeep A) = nP A := by unfold nP; rw [e (by omega) (by omega)]
  have nRe : nR (Fkeep A) = nR A := by unfold nR; rw [e (by omega) (by omega)]
  have nHe : nH (Fkeep A) = nH A := by unfold nH; rw [e (by omega) (by omega)]
  have nTe : nT (Fkeep A) = nT A := by unfold nT; rw [e (by omega) (by omega)]
  have nFe : nF (Fkeep A) = nF A := by unfold nF; rw [e (by omega) (by omega)]
  have nSe := K_S hA
  refine ⟨WB_cg (K_lv hA) w, ⟨by rw [e (by omega) (by omega), nHe]; exact hH.1, by rw [nHe]; exact hH.2⟩, ⟨by rw [e (by omega) (by omega), nTe]; exact hT.1, by rw [nTe]; exact hT.2⟩, by rw [e (by omega) (by omega), nTe]; exact hY, ⟨by rw [K_7, nSe], by omega⟩, ⟨by rw [e (by omega) (by omega), nFe]; exact hF.1, by rw [nFe]; exact hF.2⟩, ?_, ?_, ?_, ?_, ?_, ?_⟩
  · intro c hc
    rw [nCe] at hc
    rw [e (by omega) (by omega), e (by omega) (by omega)]
    exact qc c hc
  · intro p hp
    rw [nPe] at hp
    rw [e (by omega) (by omega), e (by omega) (by omega), e (by omega) (by omega), e (by omega) (by omega)]
    exact qp p hp
  · intro r hr
    rw [nRe] at hr
    rw [e (by omega) (by omega), e (by omega) (by omega), nCe]
    exact qr r hr
  · intro x hx
    rw [nHe] at hx
    rw [e (by omega) (by omega), e (by omega) (by omega), e (by omega) (by omega)]
    exact qh x hx
  · intro x hx
    rw [nFe] at hx
    rw [e (j := 130 + 3 * x) (by omega) (by omega), e (j := 129 + 3 * x) (by omega) (by omega), e (j := 128 + 3 * x) (by omega) (by omega), nCe]
    exact qf x hx
  · intro i hi
    rw [nSe] at hi
    refine ⟨WB_cg (fun k hk => K_bk hA (by omega) hk) (bk_WB h0 _), ?_⟩
    by_cases hl : i = kn_ A
    · subst hl
      have e2 : bk (Fkeep A) (kn_ A + 1) = lvb (Fkeep A) := if_neg (by rw [nSe]; omega)
      rw [e2]
      refine TC_cg (A := A) (B := lvb A) (D := lvb A) ⟨w.1.2, w.2.1.2, w.2.2.1.2⟩ (fun k hk => K_bn hA hk) (fun k hk => K_lv hA k hk) (fun c hc => e (by omega) (by omega)) (fun r hr => e (by omega) (by omega)) ⟨Nat.le_refl _, Nat.le_refl _, Nat.le_refl _, fun c a b => ?_, fun r a b => ?_, fun p a b => ?_⟩
      · omega
      · omega
      · omega
    · have e2 : bk (Fkeep A) (i + 1) = blk (Fkeep A) (i + 1) := if_pos (by rw [nSe]; omega)
      rw [e2]
      have hst := (st (i + (nS A - kn_ A)) (by omega)).2
      have hwb := bk_WB h0 (i + (nS A - kn_ A) + 1)
      refine TC_cg ⟨hwb.1.2, hwb.2.1.2, hwb.2.2.1.2⟩ (fun k hk => K_bl hA (by omega) hk) (fun k hk => ?_) (fun c hc => e (by omega) (by omega)) (fun r hr => e (by omega) (by omega)) hst
      rw [K_bk hA (by omega) hk, show i + 1 + (nS A - kn_ A) = i + (nS A - kn_ A) + 1 by omega]
theorem c_push {u : sm_M} {A : Nat → Int32} (h : CR u A) (d : Nat) : ∃ v, sm_call (d + 2) 20 [.ref 5, .ref 2] u = some (none, v) ∧ FrP Pc u v ∧ CR v (Fkeep A) := by
  have hu := h.ly
  have hA : nS A ≤ 30 := (nr_b h).2.2.2.2.2.1
  have hb := kn_b hA
  have hbb := nr_b h
  obtain ⟨s1, ⟨f, hf, t1, t2, t3⟩, s3, s4, s5, s6, s7, s8⟩ := h.2.2.2.1
  have t1 : sm_I u 5 1 = nI f := t1
  have t2 : sm_I u 5 2 = nI (nS A) := (show sm_I u 5 2 = A 7 from t2).trans (nr_S h)
  have hsl : (f + nS A) % 30 < 30 := Nat.mod_lt _ (by omega)
  obtain ⟨w, ew, w1, w2, w3, w4, w5, w6⟩ := c_copyFrom (Sta_r hu hsl) (Sta_2 hu) (by omega) d
  have hw : Ly w := by unfold Ly sm_Rf; rw [w1, w2]; exact hu
  have x1 : sm_I w 5 1 = nI f := (w6 5 1 (by omega)).trans t1
  have x2 : sm_I w 5 2 = nI (nS A) := (w6 5 2 (by omega)).trans t2
  -- the relation, from what is known of the memory
  have key : ∀ (v : sm_M) (f' : Nat), v.1 = u.1 → v.2.1 = u.2.1 → f' < 30 → sm_I v 5 1 = nI f' → sm_I v 5 2 = nI (kn_ A + 1) → (∀ a k, ¬ (a = 5) → sm_I v a k = sm_I w a k) → (∀ i, i ≤ kn_ A → (f' + i) % 30 = (f + (i + (nS A - kn_ A))) % 30) → FrP Pc u v ∧ CR v (Fkeep A) := by
    intro v f' v1 v2 hf' y1 y2 E hm
    have hrow : ∀ a, ¬ (a = 5) → v.2.2.1 a = w.2.2.1 a := fun a ha => funext (fun k => E a k ha)
    have hru : ∀ a, ¬ (a = 5) → (a < 7 + 3 * ((f + nS A) % 30) ∨ 7 + 3 * ((f + nS A) % 30) + 2 < a) → v.2.2.1 a = u.2.2.1 a := fun a h1 h2 => (hrow a h1).trans (funext (fun k => w6 a k h2))
    have hlv : Ly v := by unfold Ly sm_Rf; rw [v1, v2]; exact hu
    have e := fun {j : Nat} (h1 : j < 152) (h2 : j ≠ 7) => K_lo hA h1 h2
    have nCe : nC (Fkeep A) = nC A := by unfold nC; rw [e (by omega) (by omega)]
    have nPe : nP (Fkeep A) = nP A := by unfold nP; rw [e (by omega) (by omega)]
    have nRe : nR (Fkeep A) = nR A := by unfold nR; rw [e (by omega) (by omega)]
    have nHe : nH (Fkeep A) = nH A := by unfold nH; rw [e (by omega) (by omega)]
    have nFe : nF (Fkeep A) = nF A := by unfold nF; rw [e (by omega) (by omega)]
    refine ⟨⟨v1, v2, fun a k q => ?_⟩, hlv, MA_keep h.2.1, trivial, ⟨?_, ⟨f', hf', y1, ?_, ?_⟩, ?_, ?_, ?_, ?_, ?_, ?_⟩, trivial⟩
    · rw [E a k (by omega)]
      exact w6 a k (by omega)
    · exact SR_B (K_lv hA) h.2.1.1 (s1.cg (hru _ (by omega) (by omega)) (hru _ (by omega) (by omega)) (hru _ (by omega) (by omega)))
    · rw [K_7]
      exact y2
    · intro i hi
      rw [K_S hA] at hi
      rw [hm i (by omega)]
      by_cases hl : i = kn_ A
      · -- the new one
        subst hl
        have es : (f + (kn_ A + (nS A - kn_ A))) % 30 = (f + nS A) % 30 := by congr 1; omega
        rw [es]
        obtain ⟨z0, z1, z2, z3, z4, z5, z6⟩ := s1
        have hB : ∀ k, k < 28 → blk (Fkeep A) (kn_ A) k = lvb A k := fun k hk => K_bn hA hk
        refine SR_B hB h.2.1.1 ?_
        have r0 : ∀ k, k < 5 → v.2.2.1 (1 + 6 + 3 * ((f + nS A) % 30)) k = u.2.2.1 2 k := fun k hk => (E _ k (by omega)).trans (w3 k hk)
        refine ⟨(r0 0 (by omega)).trans z0, (r0 1 (by omega)).trans z1, (r0 2 (by omega)).trans z2, (r0 3 (by omega)).trans z3, (r0 4 (by omega)).trans z4, fun r hr => ?_, fun p hp => ?_⟩
        · have hr : r < nR A := hr
          rw [← z5 r hr]
          exact (E _ r (by omega)).trans (w4 r (by omega))
        · have hp : p < nP A := hp
          rw [← z6 p hp]
          exact (E _ p (by omega)).trans (w5 p (by omega))
      · -- an earlier one
        have hi2 : i + (nS A - kn_ A) < nS A := by omega
        have hsr := t3 (i + (nS A - kn_ A)) hi2
        have hne : (f + (i + (nS A - kn_ A))) % 30 ≠ (f + nS A) % 30 := by omega
        have hB : ∀ k, k < 28 → blk (Fkeep A) i k = blk A (i + (nS A - kn_ A)) k := fun k hk => K_bl hA (by omega) hk
        have hwb := (h.2.1.2.2.2.2.2.2.2.2.2.2.2 _ hi2).1
        exact SR_B hB hwb (hsr.cg (hru _ (by omega) (by omega)) (hru _ (by omega) (by omega)) (hru _ (by omega) (by omega)))
    · rw [hru _ (by omega) (by omega), e (by omega) (by omega), e (by omega) (by omega), e (by omega) (by omega), e (by omega) (by omega)]
      exact s3
    · intro c hc
      rw [nCe] at hc
      rw [hru _ (by omega) (by omega), e (by omega) (by omega)]
      exact s4 c hc
    · intro r hr
      rw [nRe] at hr
      rw [hru _ (by omega) (by omega), e (by omega) (by omega)]
      exact s5 r hr
    · intro x hx
      rw [nHe] at hx
      rw [hru (1 + 99) (by omega) (by omega), hru (1 + 100) (by omega) (by omega), hru (1 + 101) (by omega) (by omega), e (by omega) (by omega), e (by omega) (by omega), e (by omega) (by omega)]
      exact s6 x hx
    · intro p hp k hk
      rw [nPe] at hp
      rw [hru _ (by omega) (by omega), e (by omega) (by omega)]
      exact s7 p hp k hk
    · intro j hj
      rw [hru _ (by omega) (by omega), nFe, knw_cg j (nF A) (fun i hi => ⟨e (by omega) (by omega), e (by omega) (by omega), e (by omega) (by omega)⟩)]
      exact s8 j hj
  have hkn : (nS A = 30 ∧ kn_ A = 29) ∨ (nS A < 30 ∧ kn_ A = nS A) := by
    unfold kn_
    by_cases q : nS A = 30
    · left
      rw [if_pos q]
      exact ⟨q, rfl⟩
    · right
      rw [if_neg q]
      exact ⟨by omega, rfl⟩
  have em := nI_mod (a := f + nS A) (b := 30) (by omega) (by decide)
  rcases hkn with ⟨h30, hk⟩ | ⟨h30, hk⟩
  · have em2 := nI_mod (a := f + 1) (b := 30) (by omega) (by decide)
    refine ⟨sm_wI w 5 1 (nI ((f + 1) % 30)), ?_, key _ ((f + 1) % 30) w1 w2 (Nat.mod_lt _ (by omega)) wI_at ?_ (fun a k q => wI_na q) (fun i hi => by omega)⟩
    · rw [k_T_push]
      simp -implicitDefEqProofs (disch := first | assumption | exact Ly.wI (by assumption) | omega | ((repeat (refine Ly.wI ?_)); assumption)) only [↓reduceIte, rr_s, ri_s, rl_s, rv_s, ↓lt_s1, ↓rr_s, ↓ri_s, ↓rl_s, ↓rv_s, wI_tg, wI_ln, wI_rf, zr0, zr1, emn, bz0, bz1, oi, nI_add, nI_mul, nI_clamp, nI_leI, nI_ltI, nI_eq, nI_lt0, ne_m1, m1_ne, m1_le, m1_lt, le_m1, lt_m1, not_true_eq_false, not_false_eq_true, true_and, and_true, false_and, and_false, or_true, true_or, or_false, false_or, and_self, Nat.zero_le, ite_self, Bool.false_eq_true, e10, e01, nI_eq0, nI_eq1, nI_ge0, m1_ge0, m1_lt0, nne, nle, yle, nlt, ylt, yt_0, yt_1, yt_2, yt_3, yl_3, yt_4, yl_4, yt_5, yt_6, yl_6, yt_97, yl_97, yt_98, yl_98, yt_99, yl_99, yt_100, yl_100, yt_101, yl_101, yt_102, yl_102, yt_103, yt_114, yt_115, yt_116, yl_116, yt_117, yl_117, yt_118, yt_119, yl_119, yt_210, yl_210, yt_211, yl_211, yt_212, yl_212, yt_213, yl_213, yt_214, yl_214, yt_215, yl_215, yt_216, yt_227, yt_228, yl_228, yt_229, yl_229, yt_230, yl_230, yt_231, yl_231, yt_232, yt_233, yt_234, yl_234, yt_235, yl_235, yt_236, yt_237, yl_237, yt_238, yl_238, yt_239, yl_239, yt_240, yl_240, yt_241, yl_241, yt_242, yl_242, yt_243, yt_244, yl_244, yt_245, yl_245, yt_246, yl_246, yt_247, yl_247, yt_248, yl_248, yt_249, yl_249, yt_250, yt_251, yl_251, yt_252, yl_252, yt_253, yl_253, yt_254, yl_254, yt_255, yl_255, yt_256, yl_256, yt_257, yt_258, yl_258, yt_259, yl_259, yt_260, yl_260, yt_261, yl_261, yt_262, yl_262, yt_263, yl_263, yt_264, yt_265, yl_265, yt_266, yl_266, yt_267, yl_267, yt_268, yt_269, yl_269, yt_270, yl_270, yt_271, yt_272, yl_272, yt_273, yl_273, yt_274, yl_274, yt_275, yt_276, yl_276, yt_277, yl_277, yt_278, yl_278, yt_279, yl_279, yt_280, yl_280, yt_281, yl_281, yt_282, yl_282, yt_283, yl_283, yt_284, yl_284, yt_285, yl_285, yt_286, yl_286, yt_287, yl_287, yt_288, yl_288, yt_289, yl_289, yt_290, yl_290, yt_291, yl_291, yt_292, yl_292, yt_293, yl_293, yr_0_0, yr_0_1, yr_0_2, yr_0_3, yr_0_4, yr_0_5, yr_0_6, yr_0_7, yr_1_0, yr_1_1, yr_1_2, yr_1_3, yr_1_4, yr_1_5, yr_1_6, yr_1_7, yr_1_8, yr_2_5, yr_2_6, yr_5_0, yr_114_0, yr_114_1, yr_114_2, yr_114_3, yr_114_4, yr_114_5, yr_114_6, yr_114_7, yr_114_8, yr_115_5, yr_115_6, yr_118_0, yr_227_0, yr_227_1, yr_227_2, yr_227_3, yr_232_0, yr_233_0, yr_233_1, yr_233_2, yr_236_0, yr_236_1, yr_236_2, yr_236_3, yr_236_4, yr_236_5, yr_243_0, yr_243_1, yr_243_2, yr_243_3, yr_243_4, yr_243_5, yr_250_0, yr_250_1, yr_250_2, yr_250_3, yr_250_4, yr_250_5, yr_257_0, yr_257_1, yr_257_2, yr_257_3, yr_257_4, yr_257_5, yr_264_0, yr_264_1, yr_264_2, yr_264_3, yr_264_4, yr_268_0, yr_268_1, yr_268_2, yr_268_3, yr_271_0, yr_271_1, yr_271_2, yr_271_3, yr_271_4, yr_275_0, yr_275_1, yr_275_2, yr_275_3, yr_275_15, yr_275_16, yr_275_22, yr_275_23, yr_275_24, yr_275_25, yr_275_26, yr_275_27, yr_275_28, yr_275_29, yr_275_30, yr_275_31, yr_275_32, yr_275_33, ↓yk_0_0, ↓yk_0_1, ↓yk_0_2, ↓yk_0_3, ↓yk_0_4, ↓yk_0_5, ↓yk_0_6, ↓yk_0_7, ↓yk_1_0, ↓yk_1_1, ↓yk_1_2, ↓yk_1_3, ↓yk_1_4, ↓yk_1_5, ↓yk_1_6, ↓yk_1_7, ↓yk_1_8, ↓yk_2_5, ↓yk_2_6, ↓yk_5_0, ↓yk_114_0, ↓yk_114_1, ↓yk_114_2, ↓yk_114_3, ↓yk_114_4, ↓yk_114_5, ↓yk_114_6, ↓yk_114_7, ↓yk_114_8, ↓yk_115_5, ↓yk_115_6, ↓yk_118_0, ↓yk_227_0, ↓yk_227_1, ↓yk_227_2, ↓yk_227_3, ↓yk_232_0, ↓yk_233_0, ↓yk_233_1, ↓yk_233_2, ↓yk_236_0, ↓yk_236_1, ↓yk_236_2, ↓yk_236_3, ↓yk_236_4, ↓yk_236_5, ↓yk_243_0, ↓yk_243_1, ↓yk_243_2, ↓yk_243_3, ↓yk_243_4, ↓yk_243_5, ↓yk_250_0, ↓yk_250_1, ↓yk_250_2, ↓yk_250_3, ↓yk_250_4, ↓yk_250_5, ↓yk_257_0, ↓yk_257_1, ↓yk_257_2, ↓yk_257_3, ↓yk_257_4, ↓yk_257_5, ↓yk_264_0, ↓yk_264_1, ↓yk_264_2, ↓yk_264_3, ↓yk_264_4, ↓yk_268_0, ↓yk_268_1, ↓yk_268_2, ↓yk_268_3, ↓yk_271_0, ↓yk_271_1, ↓yk_271_2, ↓yk_271_3, ↓yk_271_4, ↓yk_275_0, ↓yk_275_1, ↓yk_275_2, ↓yk_275_3, ↓yk_275_15, ↓yk_275_16, ↓yk_275_22, ↓yk_275_23, ↓yk_275_24, ↓yk_275_25, ↓yk_275_26, ↓yk_275_27, ↓yk_275_28, ↓yk_275_29, ↓yk_275_30, ↓yk_275_31, ↓yk_275_32, ↓yk_275_33, in_3, in_4, in_97, in_99, in_100, in_101, in_102, in_116, in_117, in_210, in_212, in_213, in_214, in_215, in_228, in_229, in_230, in_231, in_235, in_237, in_238, in_239, in_240, in_241, in_242, in_244, in_245, in_246, in_247, in_248, in_249, in_251, in_252, in_253, in_254, in_255, in_256, in_258, in_259, in_260, in_261, in_262, in_263, in_265, in_266, in_267, in_269, in_270, in_272, in_273, in_274, in_276, in_277, in_278, in_279, in_280, in_281, in_282, in_283, in_284, in_285, in_286, in_287, in_288, in_289, in_290, in_291, in_292, in_293, ia_6, ia_98, ia_119, ia_211, ia_234, z_T_push_0, z_T_push_25, z_T_push_34, t1, t2, em, rg_rf, rg_tg, ew, x1, x2, em2]
    · rw [wI_nk (by omega), x2]
      congr 1
      omega
  · refine ⟨sm_wI w 5 2 (nI (kn_ A + 1)), ?_, key _ f w1 w2 hf ?_ wI_at (fun a k q => wI_na q) (fun i hi => by congr 1; omega)⟩
    · rw [k_T_push, hk]
      simp -implicitDefEqProofs (disch := first | assumption | exact Ly.wI (by assumption) | omega | ((repeat (refine Ly.wI ?_)); assumption)) only [↓reduceIte, rr_s, ri_s, rl_s, rv_s, ↓lt_s1, ↓rr_s, ↓ri_s, ↓rl_s, ↓rv_s, wI_tg, wI_ln, wI_rf, zr0, zr1, emn, bz0, bz1, oi, nI_add, nI_mul, nI_clamp, nI_leI, nI_ltI, nI_eq, nI_lt0, ne_m1, m1_ne, m1_le, m1_lt, le_m1, lt_m1, not_true_eq_false, not_false_eq_true, true_and, and_true, false_and, and_false, or_true, true_or, or_false, false_or, and_self, Nat.zero_le, ite_self, Bool.false_eq_true, e10, e01, nI_eq0, nI_eq1, nI_ge0, m1_ge0, m1_lt0, nne, nle, yle, nlt, ylt, yt_0, yt_1, yt_2, yt_3, yl_3, yt_4, yl_4, yt_5, yt_6, yl_6, yt_97, yl_97, yt_98, yl_98, yt_99, yl_99, yt_100, yl_100, yt_101, yl_101, yt_102, yl_102, yt_103, yt_114, yt_115, yt_116, yl_116, yt_117, yl_117, yt_118, yt_119, yl_119, yt_210, yl_210, yt_211, yl_211, yt_212, yl_212, yt_213, yl_213, yt_214, yl_214, yt_215, yl_215, yt_216, yt_227, yt_228, yl_228, yt_229, yl_229, yt_230, yl_230, yt_231, yl_231, yt_232, yt_233, yt_234, yl_234, yt_235, yl_235, yt_236, yt_237, yl_237, yt_238, yl_238, yt_239, yl_239, yt_240, yl_240, yt_241, yl_241, yt_242, yl_242, yt_243, yt_244, yl_244, yt_245, yl_245, yt_246, yl_246, yt_247, yl_247, yt_248, yl_248, yt_249, yl_249, yt_250, yt_251, yl_251, yt_252, yl_252, yt_253, yl_253, yt_254, yl_254, yt_255, yl_255, yt_256, yl_256, yt_257, yt_258, yl_258, yt_259, yl_259, yt_260, yl_260, yt_261, yl_261, yt_262, yl_262, yt_263, yl_263, yt_264, yt_265, yl_265, yt_266, yl_266, yt_267, yl_267, yt_268, yt_269, yl_269, yt_270, yl_270, yt_271, yt_272, yl_272, yt_273, yl_273, yt_274, yl_274, yt_275, yt_276, yl_276, yt_277, yl_277, yt_278, yl_278, yt_279, yl_279, yt_280, yl_280, yt_281, yl_281, yt_282, yl_282, yt_283, yl_283, yt_284, yl_284, yt_285, yl_285, yt_286, yl_286, yt_287, yl_287, yt_288, yl_288, yt_289, yl_289, yt_290, yl_290, yt_291, yl_291, yt_292, yl_292, yt_293, yl_293, yr_0_0, yr_0_1, yr_0_2, yr_0_3, yr_0_4, yr_0_5, yr_0_6, yr_0_7, yr_1_0, yr_1_1, yr_1_2, yr_1_3, yr_1_4, yr_1_5, yr_1_6, yr_1_7, yr_1_8, yr_2_5, yr_2_6, yr_5_0, yr_114_0, yr_114_1, yr_114_2, yr_114_3, yr_114_4, yr_114_5, yr_114_6, yr_114_7, yr_114_8, yr_115_5, yr_115_6, yr_118_0, yr_227_0, yr_227_1, yr_227_2, yr_227_3, yr_232_0, yr_233_0, yr_233_1, yr_233_2, yr_236_0, yr_236_1, yr_236_2, yr_236_3, yr_236_4, yr_236_5, yr_243_0, yr_243_1, yr_243_2, yr_243_3, yr_243_4, yr_243_5, yr_250_0, yr_250_1, yr_250_2, yr_250_3, yr_250_4, yr_250_5, yr_257_0, yr_257_1, yr_257_2, yr_257_3, yr_257_4, yr_257_5, yr_264_0, yr_264_1, yr_264_2, yr_264_3, yr_264_4, yr_268_0, yr_268_1, yr_268_2, yr_268_3, yr_271_0, yr_271_1, yr_271_2, yr_271_3, yr_271_4, yr_275_0, yr_275_1, yr_275_2, yr_275_3, yr_275_15, yr_275_16, yr_275_22, yr_275_23, yr_275_24, yr_275_25, yr_275_26, yr_275_27, yr_275_28, yr_275_29, yr_275_30, yr_275_31, yr_275_32, yr_275_33, ↓yk_0_0, ↓yk_0_1, ↓yk_0_2, ↓yk_0_3, ↓yk_0_4, ↓yk_0_5, ↓yk_0_6, ↓yk_0_7, ↓yk_1_0, ↓yk_1_1, ↓yk_1_2, ↓yk_1_3, ↓yk_1_4, ↓yk_1_5, ↓yk_1_6, ↓yk_1_7, ↓yk_1_8, ↓yk_2_5, ↓yk_2_6, ↓yk_5_0, ↓yk_114_0, ↓yk_114_1, ↓yk_114_2, ↓yk_114_3, ↓yk_114_4, ↓yk_114_5, ↓yk_114_6, ↓yk_114_7, ↓yk_114_8, ↓yk_115_5, ↓yk_115_6, ↓yk_118_0, ↓yk_227_0, ↓yk_227_1, ↓yk_227_2, ↓yk_227_3, ↓yk_232_0, ↓yk_233_0, ↓yk_233_1, ↓yk_233_2, ↓yk_236_0, ↓yk_236_1, ↓yk_236_2, ↓yk_236_3, ↓yk_236_4, ↓yk_236_5, ↓yk_243_0, ↓yk_243_1, ↓yk_243_2, ↓yk_243_3, ↓yk_243_4, ↓yk_243_5, ↓yk_250_0, ↓yk_250_1, ↓yk_250_2, ↓yk_250_3, ↓yk_250_4, ↓yk_250_5, ↓yk_257_0, ↓yk_257_1, ↓yk_257_2, ↓yk_257_3, ↓yk_257_4, ↓yk_257_5, ↓yk_264_0, ↓yk_264_1, ↓yk_264_2, ↓yk_264_3, ↓yk_264_4, ↓yk_268_0, ↓yk_268_1, ↓yk_268_2, ↓yk_268_3, ↓yk_271_0, ↓yk_271_1, ↓yk_271_2, ↓yk_271_3, ↓yk_271_4, ↓yk_275_0, ↓yk_275_1, ↓yk_275_2, ↓yk_275_3, ↓yk_275_15, ↓yk_275_16, ↓yk_275_22, ↓yk_275_23, ↓yk_275_24, ↓yk_275_25, ↓yk_275_26, ↓yk_275_27, ↓yk_275_28, ↓yk_275_29, ↓yk_275_30, ↓yk_275_31, ↓yk_275_32, ↓yk_275_33, in_3, in_4, in_97, in_99, in_100, in_101, in_102, in_116, in_117, in_210, in_212, in_213, in_214, in_215, in_228, in_229, in_230, in_231, in_235, in_237, in_238, in_239, in_240, in_241, in_242, in_244, in_245, in_246, in_247, in_248, in_249, in_251, in_252, in_253, in_254, in_255, in_256, in_258, in_259, in_260, in_261, in_262, in_263, in_265, in_266, in_267, in_269, in_270, in_272, in_273, in_274, in_276, in_277, in_278, in_279, in_280, in_281, in_282, in_283, in_284, in_285, in_286, in_287, in_288, in_289, in_290, in_291, in_292, in_293, ia_6, ia_98, ia_119, ia_211, ia_234, z_T_push_0, z_T_push_25, z_T_push_34, t1, t2, em, rg_rf, rg_tg, ew, x1, x2, h30]
    · rw [wI_nk (by omega)]
      exact x1
