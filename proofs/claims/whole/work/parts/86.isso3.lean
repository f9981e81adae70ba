/-! isSo and layWay (by wip/whole/mk_86.py) -/
theorem z_M_isSo_258 (C : Nat → List Value → sm_M → sm_R) (n : Nat) (u : sm_M) (a0 : Nat) (v1 v2 v3 v4 v5 v6 v7 v8 v9 : Int32) (o10 o11 o12 o13 : Option Value) : sm_run C c_M_isSo (n + 1) 258 [some (.ref a0), some (.int v1), some (.int v2), some (.int v3), some (.int v4), some (.int v5), some (.int v6), some (.int v7), some (.int v8), some (.int v9), o10, o11, o12, o13] [] u = if sm_tg u a0 = 112 then sm_rr (sm_Rf u a0 23) (fun q1 => if sm_in u 2 q1 (nI 0) then (if (sm_I u q1 (nI 0).toNatClampNeg) = 0 ∨ (sm_I u q1 (nI 0).toNatClampNeg) = 1 then some (some (.int (sm_I u q1 (nI 0).toNatClampNeg)), u) else none) else none) else none := q_M_isSo_258 C n u a0 v1 v2 v3 v4 v5 v6 v7 v8 v9 o10 o11 o12 o13
theorem z_M_isSo_0 (C : Nat → List Value → sm_M → sm_R) (n : Nat) (u : sm_M) (a0 : Nat) (v1 v2 v3 v4 : Int32) : sm_run C c_M_isSo (n + 1) 0 [some (.ref a0), some (.int v1), some (.int v2), some (.int v3), some (.int v4), none, none, none, none, none, none, none, none, none] [] u = if sm_tg u a0 = 112 then sm_rr (sm_Rf u a0 2) (fun q1 => if sm_in u 1 q1 (((((nI 705) * v1) + (nI 1)) + ((nI 4) * v2)) + (nI 1)) then (sm_run C c_M_isSo n 28 [some (.ref a0), some (.int v1), some (.int v2), some (.int v3), some (.int v4), some (.int ((((nI 705) * v1) + (nI 1)) + ((nI 4) * v2))), some (.int (((nI 705) * v1) + (nI 97))), some (.int (nI 0)), some (.int (nI 0)), some (.int (sm_I u q1 (((((nI 705) * v1) + (nI 1)) + ((nI 4) * v2)) + (nI 1)).toNatClampNeg)), none, none, none, none] [] u) else none) else none := q_M_isSo_0 C n u a0 v1 v2 v3 v4
/-- all but what P names is as it was -/
def FrP (P : Nat → Nat → Prop) (u v : sm_M) : Prop := v.1 = u.1 ∧ v.2.1 = u.2.1 ∧ ∀ a k, ¬ P a k → sm_I v a k = sm_I u a k
theorem FrP.rf {P : Nat → Nat → Prop} {u : sm_M} : FrP P u u := ⟨rfl, rfl, fun _ _ _ => rfl⟩
theorem FrP.tr {P : Nat → Nat → Prop} {u v w : sm_M} (h1 : FrP P u v) (h2 : FrP P v w) : FrP P u w := ⟨h2.1.trans h1.1, h2.2.1.trans h1.2.1, fun a k q => (h2.2.2 a k q).trans (h1.2.2 a k q)⟩
theorem FrP.mono {P Q : Nat → Nat → Prop} {u v : sm_M} (h : FrP P u v) (hq : ∀ a k, P a k → Q a k) : FrP Q u v := ⟨h.1, h.2.1, fun a k q => h.2.2 a k (fun z => q (hq a k z))⟩
theorem FrP.wI {P : Nat → Nat → Prop} {u v : sm_M} {a k : Nat} {x : Int32} (h : FrP P u v) (hp : P a k) : FrP P u (sm_wI v a k x) := by
  refine ⟨h.1, h.2.1, fun b j q => ?_⟩
  rw [← h.2.2 b j q]
  apply wI_ne
  by_cases e : b = a
  · by_cases e2 : j = k
    · subst e; subst e2; exact absurd hp q
    · exact Or.inr e2
  · exact Or.inl e
theorem FrP.wL {P : Nat → Nat → Prop} {u v : sm_M} {a k : Nat} {x : Int64} (h : FrP P u v) : FrP P u (sm_wL v a k x) := h
theorem FrP.ly {P : Nat → Nat → Prop} {u v : sm_M} (h : FrP P u v) (hu : Ly u) : Ly v := by
  unfold Ly sm_Rf
  rw [h.1, h.2.1]
  exact hu
theorem FrP.fr {P : Nat → Nat → Prop} {u v : sm_M} (h : FrP P u v) (hp : ∀ a k, P a k → scr a = true) : Fr u v := by
  refine ⟨h.1, h.2.1, fun a ha => ?_⟩
  funext k
  exact h.2.2 a k (fun z => by have := hp a k z; rw [this] at ha; cases ha)
abbrev P3 (a _k : Nat) : Prop := a = 283
abbrev F3 (u v : sm_M) : Prop := FrP P3 u v
theorem s_isSo_l {d : Nat} {u0 : sm_M} (hu0 : Ly u0) {t k w e g : Nat} (ht : t < 4) (hk : k < 24) (hw : w < 256) (he : e < 1024) (hg : g ≤ 300) (hg2 : sm_I u0 278 (705 * t + 1 + 4 * k + 2) = nI g)
    (hop : ∀ i, i < g → sm_I u0 278 (705 * t + 97 + 2 * i) = nI (opn (rw_ u0 278) t i) ∧ sm_I u0 278 (705 * t + 97 + 2 * i + 1) = nI (opv (rw_ u0 278) t i) ∧ trv (opn (rw_ u0 278) t i) (opv (rw_ u0 278) t i)) :
    ∀ (j i : Nat) (τ : List Bool) (vs : List Int) (ts : List Bool) (u : sm_M) (n : Nat) (o10 o11 o12 o13 : Option Value), i + j = g → F3 u0 u → VS u vs → BS u ts → okT τ vs ts → all6 vs → vs.length ≤ i → ts.length ≤ i → tys (rw_ u0 278) t j i τ = some [true] → 14 * j + 2 ≤ n →
      ∃ v, sm_run (sm_call (d + 2)) c_M_isSo n 28 [some (.ref 275), some (.int (nI t)), some (.int (nI k)), some (.int (nI w)), some (.int (nI e)), some (.int (nI (705 * t + 1 + 4 * k))), some (.int (nI (705 * t + 97))), some (.int (nI vs.length)), some (.int (nI ts.length)), some (.int (nI i)), o10, o11, o12, o13] [] u
        = some (some (.int (if (fd (tms (rw_ u0 278) t w e) j i (vs, ts)).2.headD false then 1 else 0)), v) ∧ F3 u0 v
  | 0, i, τ, vs, ts, u, n, o10, o11, o12, o13, hi, hF, hV, hB, hO, h6, hvl, htl, hty, hn => by
    have hu := hF.ly hu0
    have e278 : ∀ q, sm_I u 278 q = sm_I u0 278 q := fun q => hF.2.2 278 q (by show ¬ 278 = 283; omega)
    have hi : i = g := hi
    subst hi
    obtain ⟨n, rfl⟩ : ∃ j, n = j + 2 := ⟨n - 2, by omega⟩
    have hty : τ = [true] := Option.some.inj hty
    subst hty
    obtain ⟨b, q, rfl, h1, rfl⟩ := hO
    refine ⟨u, ?_, hF⟩
    have e0 : sm_I u 283 0 = (if b then 1 else 0) := hB.1
    have hz : (fd (tms (rw_ u0 278) t w e) 0 i (vs, [b])).2.headD false = b := rfl
    rw [z_M_isSo_28, hz]
    simp -implicitDefEqProofs (disch := first | assumption | exact Ly.wI (by assumption) | omega) only [↓reduceIte, rr_s, ri_s, rl_s, rv_s, ↓lt_s1, ↓rr_s, ↓ri_s, ↓rl_s, ↓rv_s, wI_tg, wI_ln, wI_rf, zr0, zr1, emn, bz0, bz1, oi, nI_add, nI_mul, nI_clamp, nI_leI, nI_ltI, nI_eq, nI_lt0, ne_m1, m1_ne, m1_le, m1_lt, le_m1, lt_m1, not_true_eq_false, not_false_eq_true, true_and, and_true, false_and, and_false, or_true, true_or, or_false, false_or, and_self, Nat.zero_le, ite_self, Bool.false_eq_true, e10, e01, nI_eq0, nI_eq1, nI_ge0, m1_ge0, m1_lt0, nne, nle, yle, nlt, ylt, yt_0, yt_1, yt_2, yt_3, yl_3, yt_4, yl_4, yt_5, yt_6, yl_6, yt_97, yl_97, yt_98, yl_98, yt_99, yl_99, yt_100, yl_100, yt_101, yl_101, yt_102, yl_102, yt_103, yt_114, yt_115, yt_116, yl_116, yt_117, yl_117, yt_118, yt_119, yl_119, yt_210, yl_210, yt_211, yl_211, yt_212, yl_212, yt_213, yl_213, yt_214, yl_214, yt_215, yl_215, yt_216, yt_227, yt_228, yl_228, yt_229, yl_229, yt_230, yl_230, yt_231, yl_231, yt_232, yt_233, yt_234, yl_234, yt_235, yl_235, yt_236, yt_237, yl_237, yt_238, yl_238, yt_239, yl_239, yt_240, yl_240, yt_241, yl_241, yt_242, yl_242, yt_243, yt_244, yl_244, yt_245, yl_245, yt_246, yl_246, yt_247, yl_247, yt_248, yl_248, yt_249, yl_249, yt_250, yt_251, yl_251, yt_252, yl_252, yt_253, yl_253, yt_254, yl_254, yt_255, yl_255, yt_256, yl_256, yt_257, yt_258, yl_258, yt_259, yl_259, yt_260, yl_260, yt_261, yl_261, yt_262, yl_262, yt_263, yl_263, yt_264, yt_265, yl_265, yt_266, yl_266, yt_267, yl_267, yt_268, yt_269, yl_269, yt_270, yl_270, yt_271, yt_272, yl_272, yt_273, yl_273, yt_274, yl_274, yt_275, yt_276, yl_276, yt_277, yl_277, yt_278, yl_278, yt_279, yl_279, yt_280, yl_280, yt_281, yl_281, yt_282, yl_282, yt_283, yl_283, yt_284, yl_284, yt_285, yl_285, yt_286, yl_286, yt_287, yl_287, yt_288, yl_288, yt_289, yl_289, yt_290, yl_290, yt_291, yl_291, yt_292, yl_292, yt_293, yl_293, yr_0_0, yr_0_1, yr_0_2, yr_0_3, yr_0_4, yr_0_5, yr_0_6, yr_0_7, yr_1_0, yr_1_1, yr_1_2, yr_1_3, yr_1_4, yr_1_5, yr_1_6, yr_1_7, yr_1_8, yr_2_5, yr_2_6, yr_5_0, yr_114_0, yr_114_1, yr_114_2, yr_114_3, yr_114_4, yr_114_5, yr_114_6, yr_114_7, yr_114_8, yr_115_5, yr_115_6, yr_118_0, yr_227_0, yr_227_1, yr_227_2, yr_227_3, yr_232_0, yr_233_0, yr_233_1, yr_233_2, yr_236_0, yr_236_1, yr_236_2, yr_236_3, yr_236_4, yr_236_5, yr_243_0, yr_243_1, yr_243_2, yr_243_3, yr_243_4, yr_243_5, yr_250_0, yr_250_1, yr_250_2, yr_250_3, yr_250_4, yr_250_5, yr_257_0, yr_257_1, yr_257_2, yr_257_3, yr_257_4, yr_257_5, yr_264_0, yr_264_1, yr_264_2, yr_264_3, yr_264_4, yr_268_0, yr_268_1, yr_268_2, yr_268_3, yr_271_0, yr_271_1, yr_271_2, yr_271_3, yr_271_4, yr_275_0, yr_275_1, yr_275_2, yr_275_3, yr_275_15, yr_275_16, yr_275_22, yr_275_23, yr_275_24, yr_275_25, yr_275_26, yr_275_27, yr_275_28, yr_275_29, yr_275_30, yr_275_31, yr_275_32, yr_275_33, ↓yk_0_0, ↓yk_0_1, ↓yk_0_2, ↓yk_0_3, ↓yk_0_4, ↓yk_0_5, ↓yk_0_6, ↓yk_0_7, ↓yk_1_0, ↓yk_1_1, ↓yk_1_2, ↓yk_1_3, ↓yk_1_4, ↓yk_1_5, ↓yk_1_6, ↓yk_1_7, ↓yk_1_8, ↓yk_2_5, ↓yk_2_6, ↓yk_5_0, ↓yk_114_0, ↓yk_114_1, ↓yk_114_2, ↓yk_114_3, ↓yk_114_4, ↓yk_114_5, ↓yk_114_6, ↓yk_114_7, ↓yk_114_8, ↓yk_115_5, ↓yk_115_6, ↓yk_118_0, ↓yk_227_0, ↓yk_227_1, ↓yk_227_2, ↓yk_227_3, ↓yk_232_0, ↓yk_233_0, ↓yk_233_1, ↓yk_233_2, ↓yk_236_0, ↓yk_236_1, ↓yk_236_2, ↓yk_236_3, ↓yk_236_4, ↓yk_236_5, ↓yk_243_0, ↓yk_243_1, ↓yk_243_2, ↓yk_243_3, ↓yk_243_4, ↓yk_243_5, ↓yk_250_0, ↓yk_250_1, ↓yk_250_2, ↓yk_250_3, ↓yk_250_4, ↓yk_250_5, ↓yk_257_0, ↓yk_257_1, ↓yk_257_2, ↓yk_257_3, ↓yk_257_4, ↓yk_257_5, ↓yk_264_0, ↓yk_264_1, ↓yk_264_2, ↓yk_264_3, ↓yk_264_4, ↓yk_268_0, ↓yk_268_1, ↓yk_268_2, ↓yk_268_3, ↓yk_271_0, ↓yk_271_1, ↓yk_271_2, ↓yk_271_3, ↓yk_271_4, ↓yk_275_0, ↓yk_275_1, ↓yk_275_2, ↓yk_275_3, ↓yk_275_15, ↓yk_275_16, ↓yk_275_22, ↓yk_275_23, ↓yk_275_24, ↓yk_275_25, ↓yk_275_26, ↓yk_275_27, ↓yk_275_28, ↓yk_275_29, ↓yk_275_30, ↓yk_275_31, ↓yk_275_32, ↓yk_275_33, in_3, in_4, in_97, in_99, in_100, in_101, in_102, in_116, in_117, in_210, in_212, in_213, in_214, in_215, in_228, in_229, in_230, in_231, in_235, in_237, in_238, in_239, in_240, in_241, in_242, in_244, in_245, in_246, in_247, in_248, in_249, in_251, in_252, in_253, in_254, in_255, in_256, in_258, in_259, in_260, in_261, in_262, in_263, in_265, in_266, in_267, in_269, in_270, in_272, in_273, in_274, in_276, in_277, in_278, in_279, in_280, in_281, in_282, in_283, in_284, in_285, in_286, in_287, in_288, in_289, in_290, in_291, in_292, in_293, ia_6, ia_98, ia_119, ia_211, ia_234, z_M_isSo_258, e278, hg2, e0]
  | j + 1, i, τ, vs, ts, u, n, o10, o11, o12, o13, hi, hF, hV, hB, hO, h6, hvl, htl, hty, hn => by
    have hu := hF.ly hu0
    have e278 : ∀ q, sm_I u 278 q = sm_I u0 278 q := fun q => hF.2.2 278 q (by show ¬ 278 = 283; omega)
    obtain ⟨n, rfl⟩ : ∃ j, n = j + 14 := ⟨n - 14, by omega⟩
    obtain ⟨p1, p2, p3⟩ := hop i (by omega)
    have hS : fd (tms (rw_ u0 278) t w e) (j + 1) i (vs, ts) = fd (tms (rw_ u0 278) t w e) j (i + 1) (tm1 w e (opn (rw_ u0 278) t i) (opv (rw_ u0 278) t i) (vs, ts)) := rfl
    have hty : (ty1 (opn (rw_ u0 278) t i) (opv (rw_ u0 278) t i) τ).bind (tys (rw_ u0 278) t j (i + 1)) = some [true] := hty
    have ih := fun τ' vs' ts' u' n' a b c dd => s_isSo_l (d := d) hu0 ht hk hw he hg hg2 hop j (i + 1) τ' vs' ts' u' n' a b c dd (by omega)
    rw [hS]
    generalize opn (rw_ u0 278) t i = o at p1 p2 p3 hty ⊢
    generalize opv (rw_ u0 278) t i = v at p1 p2 p3 hty ⊢
    rw [← e278] at p1 p2
    have hg3 := hg2
    rw [← e278] at hg3
    have hii : i < g := by omega
    have hv1 : vs.length < 320 := by omega
    have ht1 : ts.length < 320 := by omega
    obtain ⟨q0, q1, q2, q3, q4⟩ := p3
    have hz : o = 0 ∨ o = 1 ∨ o = 2 ∨ o = 3 ∨ o = 4 ∨ o = 5 ∨ (6 ≤ o ∧ o < 10) ∨ (10 ≤ o ∧ o < 16) ∨ o = 20 ∨ o = 21 ∨ o = 22 ∨ o = 23 := by omega
    rcases hz with rfl | rfl | rfl | rfl | rfl | rfl | ho | ho | rfl | rfl | rfl | rfl
    · have hv : v ≤ 9999 := q0 rfl
      have hty : tys (rw_ u0 278) t j (i + 1) (false :: τ) = some [true] := hty
      rw [show tm1 w e 0 v (vs, ts) = ((v : Int) :: vs, ts) from rfl]
      rw [so_0 hu ht hk hw he hg hii hv1 ht1 hg3 hv p1 p2]
      exact ih (false :: τ) ((v : Int) :: vs) ts _ _ _ _ _ _ (FrP.wL hF) ⟨wL_at, hV.wL (Nat.le_refl _)⟩ hB.wL ⟨_, _, rfl, hO⟩ (all6.c (by unfold b6; omega) h6) (by show vs.length + 1 ≤ i + 1; omega) (by omega) hty (by omega)
    · have hv : v ≤ 2 := q1 rfl
      have hty : tys (rw_ u0 278) t j (i + 1) (false :: τ) = some [true] := hty
      have c1 := cnt_b w 10
      have c2 := cnt_b e 10
      have hv3 : v = 0 ∨ v = 1 ∨ v = 2 := by omega
      rcases hv3 with rfl | rfl | rfl
      · rw [show tm1 w e 1 0 (vs, ts) = (((w : Nat) : Int) :: vs, ts) from rfl]
        rw [so_1a hu ht hk hw he hg hii hv1 ht1 hg3 p1 p2]
        exact ih (false :: τ) (((w : Nat) : Int) :: vs) ts _ _ _ _ _ _ (FrP.wL hF) ⟨wL_at, hV.wL (Nat.le_refl _)⟩ hB.wL ⟨_, _, rfl, hO⟩ (all6.c (by unfold b6; omega) h6) (by show vs.length + 1 ≤ i + 1; omega) (by omega) hty (by omega)
      · rw [show tm1 w e 1 1 (vs, ts) = (((cnt w 10 : Nat) : Int) :: vs, ts) from rfl]
        rw [so_1b hu ht hk hw he hg hii hv1 ht1 hg3 c1 p1 p2]
        exact ih (false :: τ) (((cnt w 10 : Nat) : Int) :: vs) ts _ _ _ _ _ _ (FrP.wL hF) ⟨wL_at, hV.wL (Nat.le_refl _)⟩ hB.wL ⟨_, _, rfl, hO⟩ (all6.c (by unfold b6; omega) h6) (by show vs.length + 1 ≤ i + 1; omega) (by omega) hty (by omega)
      · rw [show tm1 w e 1 2 (vs, ts) = (((cnt e 10 : Nat) : Int) :: vs, ts) from rfl]
        rw [so_1c hu ht hk hw he hg hii hv1 ht1 hg3 c2 p1 p2]
        exact ih (false :: τ) (((cnt e 10 : Nat) : Int) :: vs) ts _ _ _ _ _ _ (FrP.wL hF) ⟨wL_at, hV.wL (Nat.le_refl _)⟩ hB.wL ⟨_, _, rfl, hO⟩ (all6.c (by unfold b6; omega) h6) (by show vs.length + 1 ≤ i + 1; omega) (by omega) hty (by omega)
    · have hv : v ≤ 7 := q2 rfl
      have hty : tys (rw_ u0 278) t j (i + 1) (true :: τ) = some [true] := hty
      rw [show tm1 w e 2 v (vs, ts) = (vs, w.testBit v :: ts) by
        show (vs, decide (w / 2 ^ v % 2 = 1) :: ts) = _
        rw [Nat.testBit_eq_decide_div_mod_eq]]
      rw [so_2 hu ht hk hw he hg hii hv1 ht1 hg3 hv p1 p2]
      exact ih (true :: τ) vs (w.testBit v :: ts) _ _ _ _ _ _ (FrP.wI hF rfl) hV.wI ⟨wI_at, hB.wI (Nat.le_refl _)⟩ ⟨_, _, rfl, hO⟩ h6 (by omega) (by show ts.length + 1 ≤ i + 1; omega) hty (by omega)
    · have hv : v ≤ 9 := q3 rfl
      have hty : tys (rw_ u0 278) t j (i + 1) (true :: τ) = some [true] := hty
      rw [show tm1 w e 3 v (vs, ts) = (vs, e.testBit v :: ts) by
        show (vs, decide (e / 2 ^ v % 2 = 1) :: ts) = _
        rw [Nat.testBit_eq_decide_div_mod_eq]]
      rw [so_3 hu ht hk hw he hg hii hv1 ht1 hg3 hv p1 p2]
      exact ih (true :: τ) vs (e.testBit v :: ts) _ _ _ _ _ _ (FrP.wI hF rfl) hV.wI ⟨wI_at, hB.wI (Nat.le_refl _)⟩ ⟨_, _, rfl, hO⟩ h6 (by omega) (by show ts.length + 1 ≤ i + 1; omega) hty (by omega)
    · have e4 : ty1 4 v τ = (if τ.take v = List.replicate v true ∧ 1 ≤ v ∧ v ≤ 6 then some (false :: τ.drop v) else none) := rfl
      rw [e4] at hty
      by_cases q : τ.take v = List.replicate v true ∧ 1 ≤ v ∧ v ≤ 6
      · rw [if_pos q] at hty
        have hty : tys (rw_ u0 278) t j (i + 1) (false :: τ.drop v) = some [true] := hty
        obtain ⟨hO2, hvl2⟩ := hO.drop v q.1
        have c1 := ctn_le ts v
        have cc := s_counted (d + 1) hu hB (by omega) hvl2
        have e9 : (ts.drop v).length = ts.length - v := by simp
        rw [show tm1 w e 4 v (vs, ts) = (ctr (ts.take v) :: vs, ts.drop v) from rfl, ctr_n ts v hvl2]
        rw [so_4 hu ht hk hw he hg hii hv1 ht1 hg3 q.2.2 (by omega) hvl2 cc p1 p2, ← e9]
        exact ih (false :: τ.drop v) ((ctn ts v : Int) :: vs) (ts.drop v) _ _ _ _ _ _ (FrP.wL hF) ⟨wL_at, hV.wL (Nat.le_refl _)⟩ (BS.wL (hB.drop v)) ⟨_, _, rfl, hO2⟩ (all6.c (by unfold b6; omega) h6) (by show vs.length + 1 ≤ i + 1; omega) (by omega) hty (by omega)
      · rw [if_neg q] at hty
        cases hty
    · match τ, hO, hty with
      | [], hO, hty => cases hty
      | true :: r, hO, hty => cases hty
      | false :: r, hO, hty =>
        obtain ⟨x, q, rfl, hOx⟩ := hO
        have hty : tys (rw_ u0 278) t j (i + 1) (false :: r) = some [true] := hty
        have ex : sm_L u 282 q.length = lI x := hV.1
        have en : -(lI x) = lI (-x) := (Int64.ofInt_neg x).symm
        have hx := h6.h
        unfold b6 at hx
        have hvl : q.length + 1 ≤ i := hvl
        rw [show tm1 w e 5 v (x :: q, ts) = (-x :: q, ts) from rfl, List.length_cons]
        rw [so_5 hu ht hk hw he hg hii (by omega) (by omega) hg3 ex en p1 p2]
        exact ih (false :: r) (-x :: q) ts _ _ _ _ _ _ (FrP.wL hF) ⟨wL_at, hV.2.wL (Nat.le_refl _)⟩ hB.wL ⟨_, _, rfl, hOx⟩ (all6.c (by unfold b6; omega) h6.t) (by show q.length + 1 ≤ i + 1; omega) (by omega) hty (by omega)
    · have e1 : ∀ s, ty1 o v s = (match s with
        | false :: false :: r => some (false :: r)
        | _ => none) := by
        intro s
        unfold ty1
        rw [if_neg (by omega), if_neg (by omega), if_neg (by omega), if_neg (by omega), if_pos (by omega)]
        rfl
      rw [e1] at hty
      match τ, hO, hty with
      | [], hO, hty => cases hty
      | true :: r, hO, hty => cases hty
      | [false], hO, hty => cases hty
      | false :: true :: r, hO, hty => cases hty
      | false :: false :: r, hO, hty =>
        obtain ⟨y, q1, rfl, x, q, rfl, hOx⟩ := hO
        have hty : tys (rw_ u0 278) t j (i + 1) (false :: r) = some [true] := hty
        have ey : sm_L u 282 (q.length + 1) = lI y := hV.1
        have ex : sm_L u 282 q.length = lI x := hV.2.1
        have hx := h6.t.h
        have hy := h6.h
        have hvl : q.length + 1 + 1 ≤ i := hvl
        have t2 := two_b6 o x y
        have t1 : tm1 w e o v (y :: x :: q, ts) = (two_ o x y :: q, ts) := by
          unfold tm1
          rw [if_neg (by omega), if_neg (by omega), if_neg (by omega), if_neg (by omega), if_neg (by omega), if_neg (by omega), if_pos (by omega)]
          rfl
        have cc := s_two d u ho.1 ho.2 hx hy
        rw [t1, List.length_cons, List.length_cons]
        rw [so_6 hu ht hk hw he hg hii (by omega) (by omega) hg3 ho ex ey cc p1 p2]
        exact ih (false :: r) (two_ o x y :: q) ts _ _ _ _ _ _ (FrP.wL hF) ⟨wL_at, hV.2.2.wL (Nat.le_refl _)⟩ hB.wL ⟨_, _, rfl, hOx⟩ (all6.c t2 h6.t.t) (by show q.length + 1 ≤ i + 1; omega) (by omega) hty (by omega)
    · have e1 : ∀ s, ty1 o v s = (match s with
        | false :: false :: r => some (true :: r)
        | _ => none) := by
        intro s
        unfold ty1
        rw [if_neg (by omega), if_neg (by omega), if_neg (by omega), if_neg (by omega), if_neg (by omega), if_pos (by omega)]
        rfl
      rw [e1] at hty
      match τ, hO, hty with
      | [], hO, hty => cases hty
      | true :: r, hO, hty => cases hty
      | [false], hO, hty => cases hty
      | false :: true :: r, hO, hty => cases hty
      | false :: false :: r, hO, hty =>
        obtain ⟨y, q1, rfl, x, q, rfl, hOx⟩ := hO
        have hty : tys (rw_ u0 278) t j (i + 1) (true :: r) = some [true] := hty
        have ey : sm_L u 282 (q.length + 1) = lI y := hV.1
        have ex : sm_L u 282 q.length = lI x := hV.2.1
        have hx := h6.t.h
        have hy := h6.h
        have hvl : q.length + 1 + 1 ≤ i := hvl
        have t1 : tm1 w e o v (y :: x :: q, ts) = (q, cmp_ o x y :: ts) := by
          unfold tm1
          rw [if_neg (by omega), if_neg (by omega), if_neg (by omega), if_neg (by omega), if_neg (by omega), if_neg (by omega), if_neg (by omega), if_pos (by omega)]
          rfl
        have cc := s_isAsked (d + 1) u ho.1 ho.2 hx hy
        rw [t1, show (y :: x :: q).length = q.length + 2 from rfl]
        rw [so_10 hu ht hk hw he hg hii (by omega) (by omega) hg3 ho ex ey cc p1 p2]
        exact ih (true :: r) q (cmp_ o x y :: ts) _ _ _ _ _ _ (FrP.wI hF rfl) hV.2.2.wI ⟨wI_at, hB.wI (Nat.le_refl _)⟩ ⟨_, _, rfl, hOx⟩ h6.t.t (by omega) (by show ts.length + 1 ≤ i + 1; omega) hty (by omega)
    · match τ, hO, hty with
      | [], hO, hty => cases hty
      | false :: r, hO, hty => cases hty
      | true :: r, hO, hty =>
        obtain ⟨b, q, rfl, hOx⟩ := hO
        have hty : tys (rw_ u0 278) t j (i + 1) (true :: r) = some [true] := hty
        have eb : sm_I u 283 q.length = (if b then 1 else 0) := hB.1
        have htl : q.length + 1 ≤ i := htl
        rw [show tm1 w e 20 v (vs, b :: q) = (vs, (! b) :: q) from rfl, List.length_cons]
        cases b
        · have eb : sm_I u 283 q.length = 0 := eb
          rw [so_20a hu ht hk hw he hg hii (by omega) (by omega) hg3 eb p1 p2]
          exact ih (true :: r) vs ((! false) :: q) _ _ _ _ _ _ (FrP.wI hF rfl) hV.wI ⟨wI_at, hB.2.wI (Nat.le_refl _)⟩ ⟨_, _, rfl, hOx⟩ h6 (by omega) (by show q.length + 1 ≤ i + 1; omega) hty (by omega)
        · have eb : sm_I u 283 q.length = 1 := eb
          rw [so_20b hu ht hk hw he hg hii (by omega) (by omega) hg3 eb p1 p2]
          exact ih (true :: r) vs ((! true) :: q) _ _ _ _ _ _ (FrP.wI hF rfl) hV.wI ⟨wI_at, hB.2.wI (Nat.le_refl _)⟩ ⟨_, _, rfl, hOx⟩ h6 (by omega) (by show q.length + 1 ≤ i + 1; omega) hty (by omega)
    · match τ, hO, hty with
      | [], hO, hty => cases hty
      | false :: r, hO, hty => cases hty
      | [true], hO, hty => cases hty
      | true :: false :: r, hO, hty => cases hty
      | true :: true :: r, hO, hty =>
        obtain ⟨b, q1, rfl, a, q, rfl, hOx⟩ := hO
        have hty : tys (rw_ u0 278) t j (i + 1) (true :: r) = some [true] := hty
        have eb : sm_I u 283 (q.length + 1) = (if b then 1 else 0) := hB.1
        have ea : sm_I u 283 q.length = (if a then 1 else 0) := hB.2.1
        have htl : q.length + 1 + 1 ≤ i := htl
        rw [show tm1 w e 21 v (vs, b :: a :: q) = (vs, so_ 21 a b :: q) from rfl, List.length_cons, List.length_cons]
        cases a <;> cases b
        · have eb : sm_I u 283 (q.length + 1) = 0 := eb
          have ea : sm_I u 283 q.length = 0 := ea
          rw [so_2100 hu ht hk hw he hg hii (by omega) (by omega) hg3 ea eb p1 p2]
          exact ih (true :: r) vs (so_ 21 false false :: q) _ _ _ _ _ _ (FrP.wI hF rfl) hV.wI ⟨wI_at, hB.2.2.wI (Nat.le_refl _)⟩ ⟨_, _, rfl, hOx⟩ h6 (by omega) (by show q.length + 1 ≤ i + 1; omega) hty (by omega)
        · have eb : sm_I u 283 (q.length + 1) = 1 := eb
          have ea : sm_I u 283 q.length = 0 := ea
          rw [so_2101 hu ht hk hw he hg hii (by omega) (by omega) hg3 ea eb p1 p2]
          exact ih (true :: r) vs (so_ 21 false true :: q) _ _ _ _ _ _ (FrP.wI hF rfl) hV.wI ⟨wI_at, hB.2.2.wI (Nat.le_refl _)⟩ ⟨_, _, rfl, hOx⟩ h6 (by omega) (by show q.length + 1 ≤ i + 1; omega) hty (by omega)
        · have eb : sm_I u 283 (q.length + 1) = 0 := eb
          have ea : sm_I u 283 q.length = 1 := ea
          rw [so_2110 hu ht hk hw he hg hii (by omega) (by omega) hg3 ea eb p1 p2]
          exact ih (true :: r) vs (so_ 21 true false :: q) _ _ _ _ _ _ (FrP.wI hF rfl) hV.wI ⟨wI_at, hB.2.2.wI (Nat.le_refl _)⟩ ⟨_, _, rfl, hOx⟩ h6 (by omega) (by show q.length + 1 ≤ i + 1; omega) hty (by omega)
        · have eb : sm_I u 283 (q.length + 1) = 1 := eb
          have ea : sm_I u 283 q.length = 1 := ea
          rw [so_2111 hu ht hk hw he hg hii (by omega) (by omega) hg3 ea eb p1 p2]
          exact ih (true :: r) vs (so_ 21 true true :: q) _ _ _ _ _ _ (FrP.wI hF rfl) hV.wI ⟨wI_at, hB.2.2.wI (Nat.le_refl _)⟩ ⟨_, _, rfl, hOx⟩ h6 (by omega) (by show q.length + 1 ≤ i + 1; omega) hty (by omega)
    · match τ, hO, hty with
      | [], hO, hty => cases hty
      | false :: r, hO, hty => cases hty
      | [true], hO, hty => cases hty
      | true :: false :: r, hO, hty => cases hty
      | true :: true :: r, hO, hty =>
        obtain ⟨b, q1, rfl, a, q, rfl, hOx⟩ := hO
        have hty : tys (rw_ u0 278) t j (i + 1) (true :: r) = some [true] := hty
        have eb : sm_I u 283 (q.length + 1) = (if b then 1 else 0) := hB.1
        have ea : sm_I u 283 q.length = (if a then 1 else 0) := hB.2.1
        have htl : q.length + 1 + 1 ≤ i := htl
        rw [show tm1 w e 22 v (vs, b :: a :: q) = (vs, so_ 22 a b :: q) from rfl, List.length_cons, List.length_cons]
        cases a <;> cases b
        · have eb : sm_I u 283 (q.length + 1) = 0 := eb
          have ea : sm_I u 283 q.length = 0 := ea
          rw [so_2200 hu ht hk hw he hg hii (by omega) (by omega) hg3 ea eb p1 p2]
          exact ih (true :: r) vs (so_ 22 false false :: q) _ _ _ _ _ _ (FrP.wI hF rfl) hV.wI ⟨wI_at, hB.2.2.wI (Nat.le_refl _)⟩ ⟨_, _, rfl, hOx⟩ h6 (by omega) (by show q.length + 1 ≤ i + 1; omega) hty (by omega)
        · have eb : sm_I u 283 (q.length + 1) = 1 := eb
          have ea : sm_I u 283 q.length = 0 := ea
          rw [so_2201 hu ht hk hw he hg hii (by omega) (by omega) hg3 ea eb p1 p2]
          exact ih (true :: r) vs (so_ 22 false true :: q) _ _ _ _ _ _ (FrP.wI hF rfl) hV.wI ⟨wI_at, hB.2.2.wI (Nat.le_refl _)⟩ ⟨_, _, rfl, hOx⟩ h6 (by omega) (by show q.length + 1 ≤ i + 1; omega) hty (by omega)
        · have eb : sm_I u 283 (q.length + 1) = 0 := eb
          have ea : sm_I u 283 q.length = 1 := ea
          rw [so_2210 hu ht hk hw he hg hii (by omega) (by omega) hg3 ea eb p1 p2]
          exact ih (true :: r) vs (so_ 22 true false :: q) _ _ _ _ _ _ (FrP.wI hF rfl) hV.wI ⟨wI_at, hB.2.2.wI (Nat.le_refl _)⟩ ⟨_, _, rfl, hOx⟩ h6 (by omega) (by show q.length + 1 ≤ i + 1; omega) hty (by omega)
        · have eb : sm_I u 283 (q.length + 1) = 1 := eb
          have ea : sm_I u 283 q.length = 1 := ea
          rw [so_2211 hu ht hk hw he hg hii (by omega) (by omega) hg3 ea eb p1 p2]
          exact ih (true :: r) vs (so_ 22 true true :: q) _ _ _ _ _ _ (FrP.wI hF rfl) hV.wI ⟨wI_at, hB.2.2.wI (Nat.le_refl _)⟩ ⟨_, _, rfl, hOx⟩ h6 (by omega) (by show q.length + 1 ≤ i + 1; omega) hty (by omega)
    · match τ, hO, hty with
      | [], hO, hty => cases hty
      | false :: r, hO, hty => cases hty
      | [true], hO, hty => cases hty
      | true :: false :: r, hO, hty => cases hty
      | true :: true :: r, hO, hty =>
        obtain ⟨b, q1, rfl, a, q, rfl, hOx⟩ := hO
        have hty : tys (rw_ u0 278) t j (i + 1) (true :: r) = some [true] := hty
        have eb : sm_I u 283 (q.length + 1) = (if b then 1 else 0) := hB.1
        have ea : sm_I u 283 q.length = (if a then 1 else 0) := hB.2.1
        have htl : q.length + 1 + 1 ≤ i := htl
        rw [show tm1 w e 23 v (vs, b :: a :: q) = (vs, so_ 23 a b :: q) from rfl, List.length_cons, List.length_cons]
        cases a <;> cases b
        · have eb : sm_I u 283 (q.length + 1) = 0 := eb
          have ea : sm_I u 283 q.length = 0 := ea
          rw [so_2300 hu ht hk hw he hg hii (by omega) (by omega) hg3 ea eb p1 p2]
          exact ih (true :: r) vs (so_ 23 false false :: q) _ _ _ _ _ _ (FrP.wI hF rfl) hV.wI ⟨wI_at, hB.2.2.wI (Nat.le_refl _)⟩ ⟨_, _, rfl, hOx⟩ h6 (by omega) (by show q.length + 1 ≤ i + 1; omega) hty (by omega)
        · have eb : sm_I u 283 (q.length + 1) = 1 := eb
          have ea : sm_I u 283 q.length = 0 := ea
          rw [so_2301 hu ht hk hw he hg hii (by omega) (by omega) hg3 ea eb p1 p2]
          exact ih (true :: r) vs (so_ 23 false true :: q) _ _ _ _ _ _ (FrP.wI hF rfl) hV.wI ⟨wI_at, hB.2.2.wI (Nat.le_refl _)⟩ ⟨_, _, rfl, hOx⟩ h6 (by omega) (by show q.length + 1 ≤ i + 1; omega) hty (by omega)
        · have eb : sm_I u 283 (q.length + 1) = 0 := eb
          have ea : sm_I u 283 q.length = 1 := ea
          rw [so_2310 hu ht hk hw he hg hii (by omega) (by omega) hg3 ea eb p1 p2]
          exact ih (true :: r) vs (so_ 23 true false :: q) _ _ _ _ _ _ (FrP.wI hF rfl) hV.wI ⟨wI_at, hB.2.2.wI (Nat.le_refl _)⟩ ⟨_, _, rfl, hOx⟩ h6 (by omega) (by show q.length + 1 ≤ i + 1; omega) hty (by omega)
        · have eb : sm_I u 283 (q.length + 1) = 1 := eb
          have ea : sm_I u 283 q.length = 1 := ea
          rw [so_2311 hu ht hk hw he hg hii (by omega) (by omega) hg3 ea eb p1 p2]
          exact ih (true :: r) vs (so_ 23 true true :: q) _ _ _ _ _ _ (FrP.wI hF rfl) hV.wI ⟨wI_at, hB.2.2.wI (Nat.le_refl _)⟩ ⟨_, _, rfl, hOx⟩ h6 (by omega) (by show q.length + 1 ≤ i + 1; omega) hty (by omega)
theorem r_isSo {u : sm_M} (h : Rel u) (d : Nat) {t k w e : Nat} (ht : t < nT (rw_ u 276)) (hk : k < nK (rw_ u 278) t) (hs : sm_I u 278 (705 * t + 1 + 4 * k) = nI 0 ∨ sm_I u 278 (705 * t + 1 + 4 * k) = nI 1) (hw : w < 256) (he : e < 1024) :
    ∃ v, sm_call (d + 3) 262 [.ref 275, .int (nI t), .int (nI k), .int (nI w), .int (nI e)] u = some (some (.int (if isSo (rw_ u 278) t k w e then 1 else 0)), v) ∧ F3 u v := by
  have hu := h.ly
  have hb := r_b h
  obtain ⟨sz, wo, h1, -, -, -, -, h24, -, -, -, -, hc, hop, -⟩ := r_TT h ht
  have hk24 : k < 24 := Nat.lt_of_lt_of_le hk h24
  obtain ⟨s, s8, hs1, -, -, -, hl⟩ := hc k hk
  have hs2 : s < 2 := by
    have e1 : sm_I u 278 (705 * t + 1 + 4 * k) = nI s := hs1
    rw [e1] at hs
    rcases hs with q | q
    · have := (nI_eq (by omega) (by omega)).mp q; omega
    · have := (nI_eq (by omega) (by omega)).mp q; omega
  obtain ⟨hf, hg, hle, hsz, hty⟩ := hl hs2
  have hf : sm_I u 278 (705 * t + 1 + 4 * k + 1) = nI (cl1 (rw_ u 278) t k) := by rw [show 705 * t + 1 + 4 * k + 1 = 705 * t + 2 + 4 * k by omega]; exact hf
  have hg : sm_I u 278 (705 * t + 1 + 4 * k + 2) = nI (cl2 (rw_ u 278) t k) := by rw [show 705 * t + 1 + 4 * k + 2 = 705 * t + 3 + 4 * k by omega]; exact hg
  have hop2 : ∀ i, i < cl2 (rw_ u 278) t k → sm_I u 278 (705 * t + 97 + 2 * i) = nI (opn (rw_ u 278) t i) ∧ sm_I u 278 (705 * t + 97 + 2 * i + 1) = nI (opv (rw_ u 278) t i) ∧ trv (opn (rw_ u 278) t i) (opv (rw_ u 278) t i) := by
    intro i hi
    have hsz : cl2 (rw_ u 278) t k ≤ sz := hsz
    obtain ⟨a1, a2, a3, -⟩ := hop i (by omega)
    exact ⟨a1, by rw [show 705 * t + 97 + 2 * i + 1 = 705 * t + 98 + 2 * i by omega]; exact a2, a3⟩
  have hle : cl1 (rw_ u 278) t k ≤ cl2 (rw_ u 278) t k := hle
  have hsz : cl2 (rw_ u 278) t k ≤ sz := hsz
  have hrun := s_isSo_l (d := d) hu (t := t) (k := k) (w := w) (e := e) (by omega) hk24 hw he (by omega) hg hop2 (cl2 (rw_ u 278) t k - cl1 (rw_ u 278) t k) (cl1 (rw_ u 278) t k) [] [] [] u 2999999 none none none none (by omega) FrP.rf trivial trivial ⟨rfl, rfl⟩ (fun x hx => by cases hx) (Nat.zero_le _) (Nat.zero_le _) hty (by omega)
  obtain ⟨v, hv, hF⟩ := hrun
  refine ⟨v, ?_, hF⟩
  rw [k_M_isSo, z_M_isSo_0]
  simp -implicitDefEqProofs (disch := first | assumption | exact Ly.wI (by assumption) | omega) only [↓reduceIte, rr_s, ri_s, rl_s, rv_s, ↓lt_s1, ↓rr_s, ↓ri_s, ↓rl_s, ↓rv_s, wI_tg, wI_ln, wI_rf, zr0, zr1, emn, bz0, bz1, oi, nI_add, nI_mul, nI_clamp, nI_leI, nI_ltI, nI_eq, nI_lt0, ne_m1, m1_ne, m1_le, m1_lt, le_m1, lt_m1, not_true_eq_false, not_false_eq_true, true_and, and_true, false_and, and_false, or_true, true_or, or_false, false_or, and_self, Nat.zero_le, ite_self, Bool.false_eq_true, e10, e01, nI_eq0, nI_eq1, nI_ge0, m1_ge0, m1_lt0, nne, nle, yle, nlt, ylt, yt_0, yt_1, yt_2, yt_3, yl_3, yt_4, yl_4, yt_5, yt_6, yl_6, yt_97, yl_97, yt_98, yl_98, yt_99, yl_99, yt_100, yl_100, yt_101, yl_101, yt_102, yl_102, yt_103, yt_114, yt_115, yt_116, yl_116, yt_117, yl_117, yt_118, yt_119, yl_119, yt_210, yl_210, yt_211, yl_211, yt_212, yl_212, yt_213, yl_213, yt_214, yl_214, yt_215, yl_215, yt_216, yt_227, yt_228, yl_228, yt_229, yl_229, yt_230, yl_230, yt_231, yl_231, yt_232, yt_233, yt_234, yl_234, yt_235, yl_235, yt_236, yt_237, yl_237, yt_238, yl_238, yt_239, yl_239, yt_240, yl_240, yt_241, yl_241, yt_242, yl_242, yt_243, yt_244, yl_244, yt_245, yl_245, yt_246, yl_246, yt_247, yl_247, yt_248, yl_248, yt_249, yl_249, yt_250, yt_251, yl_251, yt_252, yl_252, yt_253, yl_253, yt_254, yl_254, yt_255, yl_255, yt_256, yl_256, yt_257, yt_258, yl_258, yt_259, yl_259, yt_260, yl_260, yt_261, yl_261, yt_262, yl_262, yt_263, yl_263, yt_264, yt_265, yl_265, yt_266, yl_266, yt_267, yl_267, yt_268, yt_269, yl_269, yt_270, yl_270, yt_271, yt_272, yl_272, yt_273, yl_273, yt_274, yl_274, yt_275, yt_276, yl_276, yt_277, yl_277, yt_278, yl_278, yt_279, yl_279, yt_280, yl_280, yt_281, yl_281, yt_282, yl_282, yt_283, yl_283, yt_284, yl_284, yt_285, yl_285, yt_286, yl_286, yt_287, yl_287, yt_288, yl_288, yt_289, yl_289, yt_290, yl_290, yt_291, yl_291, yt_292, yl_292, yt_293, yl_293, yr_0_0, yr_0_1, yr_0_2, yr_0_3, yr_0_4, yr_0_5, yr_0_6, yr_0_7, yr_1_0, yr_1_1, yr_1_2, yr_1_3, yr_1_4, yr_1_5, yr_1_6, yr_1_7, yr_1_8, yr_2_5, yr_2_6, yr_5_0, yr_114_0, yr_114_1, yr_114_2, yr_114_3, yr_114_4, yr_114_5, yr_114_6, yr_114_7, yr_114_8, yr_115_5, yr_115_6, yr_118_0, yr_227_0, yr_227_1, yr_227_2, yr_227_3, yr_232_0, yr_233_0, yr_233_1, yr_233_2, yr_236_0, yr_236_1, yr_236_2, yr_236_3, yr_236_4, yr_236_5, yr_243_0, yr_243_1, yr_243_2, yr_243_3, yr_243_4, yr_243_5, yr_250_0, yr_250_1, yr_250_2, yr_250_3, yr_250_4, yr_250_5, yr_257_0, yr_257_1, yr_257_2, yr_257_3, yr_257_4, yr_257_5, yr_264_0, yr_264_1, yr_264_2, yr_264_3, yr_264_4, yr_268_0, yr_268_1, yr_268_2, yr_268_3, yr_271_0, yr_271_1, yr_271_2, yr_271_3, yr_271_4, yr_275_0, yr_275_1, yr_275_2, yr_275_3, yr_275_15, yr_275_16, yr_275_22, yr_275_23, yr_275_24, yr_275_25, yr_275_26, yr_275_27, yr_275_28, yr_275_29, yr_275_30, yr_275_31, yr_275_32, yr_275_33, ↓yk_0_0, ↓yk_0_1, ↓yk_0_2, ↓yk_0_3, ↓yk_0_4, ↓yk_0_5, ↓yk_0_6, ↓yk_0_7, ↓yk_1_0, ↓yk_1_1, ↓yk_1_2, ↓yk_1_3, ↓yk_1_4, ↓yk_1_5, ↓yk_1_6, ↓yk_1_7, ↓yk_1_8, ↓yk_2_5, ↓yk_2_6, ↓yk_5_0, ↓yk_114_0, ↓yk_114_1, ↓yk_114_2, ↓yk_114_3, ↓yk_114_4, ↓yk_114_5, ↓yk_114_6, ↓yk_114_7, ↓yk_114_8, ↓yk_115_5, ↓yk_115_6, ↓yk_118_0, ↓yk_227_0, ↓yk_227_1, ↓yk_227_2, ↓yk_227_3, ↓yk_232_0, ↓yk_233_0, ↓yk_233_1, ↓yk_233_2, ↓yk_236_0, ↓yk_236_1, ↓yk_236_2, ↓yk_236_3, ↓yk_236_4, ↓yk_236_5, ↓yk_243_0, ↓yk_243_1, ↓yk_243_2, ↓yk_243_3, ↓yk_243_4, ↓yk_243_5, ↓yk_250_0, ↓yk_250_1, ↓yk_250_2, ↓yk_250_3, ↓yk_250_4, ↓yk_250_5, ↓yk_257_0, ↓yk_257_1, ↓yk_257_2, ↓yk_257_3, ↓yk_257_4, ↓yk_257_5, ↓yk_264_0, ↓yk_264_1, ↓yk_264_2, ↓yk_264_3, ↓yk_264_4, ↓yk_268_0, ↓yk_268_1, ↓yk_268_2, ↓yk_268_3, ↓yk_271_0, ↓yk_271_1, ↓yk_271_2, ↓yk_271_3, ↓yk_271_4, ↓yk_275_0, ↓yk_275_1, ↓yk_275_2, ↓yk_275_3, ↓yk_275_15, ↓yk_275_16, ↓yk_275_22, ↓yk_275_23, ↓yk_275_24, ↓yk_275_25, ↓yk_275_26, ↓yk_275_27, ↓yk_275_28, ↓yk_275_29, ↓yk_275_30, ↓yk_275_31, ↓yk_275_32, ↓yk_275_33, in_3, in_4, in_97, in_99, in_100, in_101, in_102, in_116, in_117, in_210, in_212, in_213, in_214, in_215, in_228, in_229, in_230, in_231, in_235, in_237, in_238, in_239, in_240, in_241, in_242, in_244, in_245, in_246, in_247, in_248, in_249, in_251, in_252, in_253, in_254, in_255, in_256, in_258, in_259, in_260, in_261, in_262, in_263, in_265, in_266, in_267, in_269, in_270, in_272, in_273, in_274, in_276, in_277, in_278, in_279, in_280, in_281, in_282, in_283, in_284, in_285, in_286, in_287, in_288, in_289, in_290, in_291, in_292, in_293, ia_6, ia_98, ia_119, ia_211, ia_234, hf]
  exact hv

