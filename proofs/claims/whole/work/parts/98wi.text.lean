/-! texts: both tell the same text (by hand) -/
theorem z_W_text_0 (C : Nat → List Value → sm_M → sm_R) (n : Nat) (u : sm_M) (a0 : Nat) : sm_run C c_W_text (n + 1) 0 [some (.ref a0), none, none] [] u = if sm_tg u a0 = 111 then sm_rr (sm_Rf u a0 0) (fun q1 => if sm_tg u q1 = 104 then (sm_ri (C 195 [.int (sm_I u q1 11), .int (nI 4)] u) (fun x3 u2 => if x3 = 0 then (some (some (.int (Int32.ofInt (-1))), u2)) else (sm_run C c_W_text n 10 [some (.ref a0), some (.int (sm_I u q1 11)), none] [] u2))) else none) else none := q_W_text_0 C n u a0
theorem z_W_text_10 (C : Nat → List Value → sm_M → sm_R) (n : Nat) (u : sm_M) (a0 : Nat) (v1 : Int32) : sm_run C c_W_text (n + 1) 10 [some (.ref a0), some (.int v1), none] [] u = if sm_tg u a0 = 111 then sm_rr (sm_Rf u a0 3) (fun q1 => if sm_tg u a0 = 111 then sm_rr (sm_Rf u a0 4) (fun q2 => if sm_tg u q2 = 107 then sm_rr (sm_Rf u q2 1) (fun q3 => if 4 ≤ sm_tg u q3 ∧ sm_tg u q3 ≤ 6 ∧ ¬ (v1 < 0 ∨ sm_ln u q3 ≤ v1.toNatClampNeg) then sm_rr (sm_Rf u q3 v1.toNatClampNeg) (fun q4 => if sm_tg u q1 = 106 then (sm_ri (C 62 [.ref q1, .ref q4] u) (fun x6 u5 => if sm_tg u5 a0 = 111 then sm_rr (sm_Rf u5 a0 2) (fun q7 => if sm_tg u5 q7 = 105 then (sm_ri (C 51 [.ref q7, .int (nI 0)] u5) (fun x9 u8 => if x6 = 0 then (some (some (.int (Int32.ofInt (-1))), u8)) else (sm_run C c_W_text n 28 [some (.ref a0), some (.int v1), some (.int x6)] [] u8))) else none) else none)) else none) else none) else none) else none) else none := q_W_text_10 C n u a0 v1
theorem z_W_text_28 (C : Nat → List Value → sm_M → sm_R) (n : Nat) (u : sm_M) (a0 : Nat) (v1 v2 : Int32) : sm_run C c_W_text (n + 1) 28 [some (.ref a0), some (.int v1), some (.int v2)] [] u = if sm_tg u a0 = 111 then sm_rr (sm_Rf u a0 0) (fun q1 => if sm_tg u q1 = 104 then (sm_lt (sm_wI u q1 11 (v1 + (nI 1))) (fun u2 => if sm_tg u2 a0 = 111 then sm_rr (sm_Rf u2 a0 4) (fun q3 => if sm_tg u2 q3 = 107 then (sm_rv (C 91 [.ref q3] u2) (fun u4 => some (some (.int v1), u4))) else none) else none)) else none) else none := q_W_text_28 C n u a0 v1 v2
theorem c_cut {u : sm_M} (hu : Ly u) {n : Nat} (hn : n ≤ 300) (h4 : sm_I u 227 4 = nI n) (d : Nat) : sm_call (d + 1) 51 [.ref 227, .int (nI 0)] u = some (some (.int 1), sm_wI u 227 4 (nI 0)) := by
  rw [k_P_cut, z_P_cut_0, if_neg (show ¬ nI 0 < 0 by decide)]
  simp -implicitDefEqProofs only [eq_true (yt_227 hu), h4, ↓reduceIte]
  rw [if_pos (show nI 0 ≤ nI n from nI_le (Nat.zero_le n) (by omega)), z_P_cut_9]
  simp -implicitDefEqProofs only [eq_true (yt_227 hu), ↓reduceIte, lt_s1]
  rw [if_pos (show nI 1 = 0 ∨ nI 1 = 1 from Or.inr rfl)]
  rfl
theorem tape_b {u : sm_M} (h : Rel u) : ∃ (b : Nat → Nat) (n : Nat), TB u b n ∧ RB u b n ∧ ∀ i, b i < 256 := by
  obtain ⟨n, h1, h2, h3, h4⟩ := h.2.2.2.2.2.2.2.2.1
  have hb : ∀ i, i < n → ∃ m, m < 256 ∧ sm_I u 279 i = nI m := fun i hi => (h4 i hi).2
  have e : ∀ i, i < n → sm_I u 279 i = nI (if i < n then (sm_I u 279 i).toNatClampNeg else 0) ∧ (if i < n then (sm_I u 279 i).toNatClampNeg else 0) < 256 := by
    intro i hi
    obtain ⟨m, m1, m2⟩ := hb i hi
    rw [if_pos hi, m2, nI_clamp (by omega)]
    exact ⟨rfl, m1⟩
  refine ⟨fun i => if i < n then (sm_I u 279 i).toNatClampNeg else 0, n, ⟨h1, h2, fun i hi => ⟨(h4 i hi).1.trans (e i hi).1, (e i hi).2⟩⟩, ⟨h1, h3, fun i hi => e i hi⟩, fun i => ?_⟩
  by_cases z : i < n
  · exact (e i z).2
  · show (if i < n then (sm_I u 279 i).toNatClampNeg else 0) < 256
    rw [if_neg z]
    decide
/-- the class reads, and empties the tape -/
abbrev Pru (t a k : Nat) : Prop := Prc t a k ∨ a = 227 ∧ k = 4
theorem c_txt {u : sm_M} (h : Rel u) {b : Nat → Nat} {n : Nat} (hT : TB u b n) (ht : nT (rw_ u 276) < 4) :
    ∃ m v, ((rdT b n).2.2.1 = 0 → sm_call 200 147 [.ref 0] u = sm_run (sm_call 199) c_W_text (m + 1) 28 [some (.ref 0), some (.int (nI (nT (rw_ u 276)))), some (.int 1)] [] v) ∧ ((rdT b n).2.2.1 ≠ 0 → sm_call 200 147 [.ref 0] u = some (some (.int (Int32.ofInt (-1))), v)) ∧
      Ly v ∧ (∀ a k, ¬ Pru (nT (rw_ u 276)) a k → sm_I v a k = sm_I u a k) ∧ sm_I v 227 4 = nI 0 ∧ sm_I v 232 3 = nI (rdT b n).2.2.1 ∧ sm_I v 232 4 = (rdT b n).2.2.2.1 ∧ Crw v.2.2.1 (nT (rw_ u 276)) (rdT b n).1 (rdT b n).2.2.2.2 ∧ (rdT b n).1.length ≤ 24 ∧ (rdT b n).2.2.2.2.length ≤ 300 ∧ sm_I v (236 + 7 * nT (rw_ u 276)) 9 = nI 0 := by
  have hu := h.1
  have m11 := nm_T h.cr
  generalize nT (rw_ u 276) = t at *
  obtain ⟨x, w, e1, ex, L1, I1, u0, C1⟩ := c_rd hu hT ht 19
  have e1 : sm_call 199 62 [.ref 232, .ref (236 + 7 * t)] u = some (some (.int x), w) := e1
  have k1 : ∀ g, sm_ri (sm_call 199 62 [.ref 232, .ref (236 + 7 * t)] u) g = g x w := fun g => by rw [e1]; rfl
  have w4 : sm_I w 227 4 = nI n := by
    rw [I1 227 4 (by omega)]
    exact hT.2.1
  have e2 := c_cut L1 hT.1 w4 198
  have k2 : ∀ g, sm_ri (sm_call 199 51 [.ref 227, .int (nI 0)] w) g = g 1 (sm_wI w 227 4 (nI 0)) := fun g => by rw [e2]; rfl
  have kt : (nI t).toNatClampNeg = t := nI_clamp (by omega)
  have ir : 4 ≤ sm_tg u 234 ∧ sm_tg u 234 ≤ 6 ∧ ¬ (nI t < 0 ∨ sm_ln u 234 ≤ (nI t).toNatClampNeg) := by
    rw [yt_234 hu, yl_234 hu, kt]
    refine ⟨by decide, by decide, fun z => ?_⟩
    rcases z with z | z
    · exact nI_pos (by omega) z
    · omega
  obtain ⟨s1, s2, s3, s4, s5, s6, s7, s8, s9, s10, s11, s12⟩ := C1
  have run : sm_call 200 147 [.ref 0] u = if x = 0 then some (some (.int (Int32.ofInt (-1))), sm_wI w 227 4 (nI 0)) else sm_run (sm_call 199) c_W_text 2999998 28 [some (.ref 0), some (.int (nI t)), some (.int x)] [] (sm_wI w 227 4 (nI 0)) := by
    rw [k_W_text, z_W_text_0]
    simp -implicitDefEqProofs only [eq_true (yt_0 hu), ↓yk_0_0 hu, eq_true (yt_1 hu), m11, s_isOneOf_k, ↓reduceIte]
    rw [if_pos (show (0 : Int32) ≤ nI t ∧ nI t < nI 4 from ⟨nI_le (a := 0) (Nat.zero_le t) (by omega), (nI_ltI (by omega) (by omega)).mpr ht⟩), if_neg (show ¬ (1 : Int32) = 0 by decide), z_W_text_10]
    simp -implicitDefEqProofs only [eq_true (yt_0 hu), ↓yk_0_3 hu, ↓yk_0_4 hu, eq_true (yt_233 hu), ↓yk_233_1 hu, kt, tx_rf hu ht, rr_s, eq_true (yt_232 hu), ↓reduceIte]
    rw [k1]
    simp -implicitDefEqProofs only [eq_true (yt_0 L1), ↓yk_0_2 L1, eq_true (yt_227 L1), ↓reduceIte]
    rw [k2, if_pos (by rw [kt] at ir; exact ir)]
  have L2 : Ly (sm_wI w 227 4 (nI 0)) := L1.wI
  have R : ∀ a k, (a ≠ 227 ∨ k ≠ 4) → sm_I (sm_wI w 227 4 (nI 0)) a k = sm_I w a k := fun a k q => wI_ne q
  refine ⟨2999997, sm_wI w 227 4 (nI 0), fun q => ?_, fun q => ?_, L2, fun a k q => ?_, wI_at, ?_, ?_, ⟨?_, ?_, ?_, fun i hi => ?_, fun i hi => ?_⟩, s8, s6.2.1, ?_⟩
  · have ex : x = 1 := by rw [ex, if_pos q]
    rw [run, ex, if_neg (show ¬ (1 : Int32) = 0 by decide)]
  · have ex : x = 0 := by rw [ex, if_neg q]
    rw [run, if_pos ex]
  · rw [R a k (by omega)]
    exact I1 a k (fun z => q (Or.inl z))
  · rw [R _ _ (by omega)]
    exact s4.1
  · rw [R _ _ (by omega)]
    exact s5
  · exact (R _ _ (by omega)).trans s7
  · exact (R _ _ (by omega)).trans s9
  · exact (R _ _ (by omega)).trans s6.1
  · obtain ⟨y1, y2, y3⟩ := s12 i hi
    exact ⟨(R _ _ (by omega)).trans y1, (R _ _ (by omega)).trans y2, (R _ _ (by omega)).trans y3⟩
  · obtain ⟨y1, y2⟩ := s6.2.2 i hi
    exact ⟨(R _ _ (by omega)).trans y1, (R _ _ (by omega)).trans y2⟩
  · rw [R _ _ (by omega)]
    exact s11
/-- a row of texts that has the same block -/
theorem Sam.blk {G G' : Nat → Int32} {t sz : Nat} (hsz : sz ≤ 300) (h24 : nK G t ≤ 24) (h : ∀ k, 705 * t ≤ k → k < 705 * t + 705 → G' k = G k) : Sam G G' t sz := ⟨h _ (by omega) (by omega), fun k hk => ⟨h _ (by omega) (by omega), h _ (by omega) (by omega), fun _ _ => h _ (by omega) (by omega)⟩, fun i hi => ⟨h _ (by omega) (by omega), h _ (by omega) (by omega)⟩⟩
theorem TG_blk {C : Nat → Nat → Int32} {G G' : Nat → Int32} {t n : Nat} (H : TG C G t n) (h : ∀ k, 705 * t ≤ k → k < 705 * t + 705 → G' k = G k) : TG C G' t n := by
  have h24 : nK G t ≤ 24 := by
    obtain ⟨sz, wo, a1, a2, a3, a4, a5, a6, a7⟩ := H
    exact a6
  exact TG_sam H (fun sz h1 _ => Sam.blk h1 h24 h)
theorem r_in {b : Nat → Nat} {n : Nat} (hn : n ≤ 300) (h0 : (rdT b n).2.2.1 = 0) : evc (rdT b n).1 ≤ 10 ∧ Okc (rdT b n).1 (rdT b n).2.2.2.2 := by
  have hi : Ivt n (Int32.ofInt (-1)) ([], (fst1 b n 0, 0, Int32.ofInt (-1), [])) := ⟨rfl, rfl, Nat.zero_le _, (fst_0 (b := b) (n := n)).1.le, Nat.zero_le 10, (fun x hx => by cases hx), (fun e he => by cases he)⟩
  have := rdL_ok (b := b) hn 25 _ hi h0
  exact ⟨this.2.2.2.2.1, this.2.2.2.2.2⟩
/-- a text that is whole -/
theorem op6_s {u : sm_M} (h : Rel u) {b : Nat → Nat} {n : Nat} (hT : TB u b n) (hR : RB u b n) (hB : ∀ i, b i < 256) (ht : nT (rw_ u 276) < 4) (q : (rdT b n).2.2.1 = 0) : ∃ (r : Int32) (u1 u2 : sm_M), sm_call 200 147 (.ref 0 :: []) u = some (some (.int r), u1) ∧ sm_call 200 255 (.ref 275 :: []) u1 = some (some (.int r), u2) ∧ u1.1 = SH ∧ Rel u2 := by
  obtain ⟨m, v, e1, _, Lv, Iv1, v4, v3, vp, hC, h24, h300, v9⟩ := c_txt h hT ht
  have e1 := e1 q
  obtain ⟨hev, hok⟩ := r_in (b := b) hT.1 q
  obtain ⟨g1, g2, g3, g4, g5, g6, g7, g8, g9, g10⟩ := h.2
  have g1 : MA (rw_ u 276) := g1
  have g3 : MR u.2.2.1 1 (rw_ u 276) := g3
  have g7 : ∀ x, x < nT (rw_ u 276) → TT u.2.2.1 x (2 ^ nC (rw_ u 276)) := g7
  have g5 : nC (rw_ u 277) ≤ nC (rw_ u 276) := g5
  have g6 : nT (rw_ u 277) ≤ nT (rw_ u 276) := g6
  have MA1 := MA_text g1 ht
  have nC1 : nC (up (rw_ u 276) 5 (nI (nT (rw_ u 276) + 1))) = nC (rw_ u 276) := by
    unfold nC
    rw [up_ne (by decide)]
  have nT1 : nT (up (rw_ u 276) 5 (nI (nT (rw_ u 276) + 1))) = nT (rw_ u 276) + 1 := by
    have e : up (rw_ u 276) 5 (nI (nT (rw_ u 276) + 1)) 5 = nI (nT (rw_ u 276) + 1) := up_at
    show (up (rw_ u 276) 5 (nI (nT (rw_ u 276) + 1)) 5).toNatClampNeg = _
    rw [e]
    exact nI_clamp (by omega)
  have b1 := MAb g1
  -- the museum has one text more
  have Lw : Ly (sm_wI v 1 11 (nI (nT (rw_ u 276) + 1))) := Lv.wI
  have Iw : ∀ a k, ¬ (Pru (nT (rw_ u 276)) a k ∨ a = 1 ∧ k = 11) → sm_I (sm_wI v 1 11 (nI (nT (rw_ u 276) + 1))) a k = sm_I u a k := fun a k z => by
    rw [wI_ne (by omega)]
    exact Iv1 a k (fun y => z (Or.inl y))
  have c1 : CR (sm_wI v 1 11 (nI (nT (rw_ u 276) + 1))) (up (rw_ u 276) 5 (nI (nT (rw_ u 276) + 1))) := by
    refine ⟨Lw, MA1, trivial, ?_, trivial⟩
    have g3' : MR v.2.2.1 1 (rw_ u 276) := MR_own b1.2.1 (fun a q1 q2 => funext (fun k => Iv1 a k (by omega))) g3
    exact MR_text g1 g3' ht (fun a k z => by show sm_I _ a k = _; rw [wI_ne (by omega)]) wI_at
  have G0 := gho_h (R := rw_ u 278) (t := nT (rw_ u 276)) h24 h300
  have hTG : ∀ x, x < nT (rw_ u 276) + 1 → TG (sm_wI v 1 11 (nI (nT (rw_ u 276) + 1))).2.2.1 (gho (rw_ u 278) (nT (rw_ u 276)) (rdT b n).1 (rdT b n).2.2.2.2) x 0 := by
    intro x hx
    by_cases z : x = nT (rw_ u 276)
    · rw [z]
      refine mkTG (wo := 0) G0 ?_ hok h24 h300 hev (Nat.le_refl 0) (Nat.zero_le 256) ?_ (fun w hw => absurd hw (Nat.not_lt_zero w))
      · have rr : ∀ a, 236 ≤ a → (sm_wI v 1 11 (nI (nT (rw_ u 276) + 1))).2.2.1 a = v.2.2.1 a := fun a ha => funext (fun k => by show sm_I _ a k = sm_I v a k; rw [wI_na (by omega)])
        unfold Crw
        rw [rr _ (by omega), rr _ (by omega), rr _ (by omega), rr _ (by omega), rr _ (by omega), rr _ (by omega)]
        exact hC
      · show sm_I (sm_wI v 1 11 (nI (nT (rw_ u 276) + 1))) (236 + 7 * nT (rw_ u 276)) 9 = nI 0
        rw [wI_na (by omega)]
        exact v9
    · have hx2 : x < nT (rw_ u 276) := by omega
      have H0 : TG u.2.2.1 (rw_ u 278) x 0 := TG_le (Nat.zero_le _) (g7 x hx2)
      have H1 : TG (sm_wI v 1 11 (nI (nT (rw_ u 276) + 1))).2.2.1 (rw_ u 278) x 0 := TG_row (fun a ha => funext (fun k => Iw a k (by omega))) H0
      exact TG_blk H1 (fun k k1 k2 => gho_o (by omega))
  have m11 : sm_I (sm_wI v 1 11 (nI (nT (rw_ u 276) + 1))) 1 11 = nI (nT (rw_ u 276) + 1) := wI_at
  have hw := nr_w c1
  rw [nC1] at hw
  have wc := nc_wayCount c1 197
  rw [nC1] at wc
  obtain ⟨u1, f1, f2, f3⟩ := gc_keepUp (G := gho (rw_ u 278) (nT (rw_ u 276)) (rdT b n).1 (rdT b n).2.2.2.2) Lw 193 (T := nT (rw_ u 276) + 1) (W := 2 ^ nC (rw_ u 276)) (by omega) hw.2 m11 wc hTG
  have hpk : ∀ a k, Pk (nT (rw_ u 276) + 1) a k → 233 ≤ a ∧ a < 265 := fun a k z => by
    rcases z with (z | ⟨z, _⟩) | ⟨t', h1, z⟩ <;> omega
  have run1 : sm_call 200 147 (.ref 0 :: []) u = some (some (.int (nI (nT (rw_ u 276)))), u1) := by
    have e1 : sm_call 200 147 (.ref 0 :: []) u = _ := e1
    have k1 : ∀ g, sm_rv (sm_call 199 91 [.ref 233] (sm_wI v 1 11 (nI (nT (rw_ u 276) + 1)))) g = g u1 := fun g => by rw [f1]; rfl
    rw [e1, z_W_text_28]
    simp -implicitDefEqProofs only [eq_true (yt_0 Lv), ↓yk_0_0 Lv, eq_true (yt_1 Lv), nI_add, ↓reduceIte, lt_s1]
    simp -implicitDefEqProofs only [eq_true (yt_0 Lw), ↓yk_0_4 Lw, eq_true (yt_233 Lw), ↓reduceIte]
    rw [k1]
  have L1 := f2.ly Lw
  have I1 : ∀ a k, (a < 233 ∨ 265 ≤ a) → ¬ (Pru (nT (rw_ u 276)) a k ∨ a = 1 ∧ k = 11) → sm_I u1 a k = sm_I u a k := fun a k ha z => by
    rw [f2.2.2 a k (fun y => by have := hpk a k y; omega)]
    exact Iw a k z
  have R1 : RB u1 b n := ⟨hR.1, by rw [I1 _ _ (by omega) (by omega)]; exact hR.2.1, fun i hi => by rw [I1 _ _ (by omega) (by omega)]; exact hR.2.2 i hi⟩
  have t1 : sm_I u1 276 5 = nI (nT (rw_ u 276)) := by
    rw [I1 _ _ (by omega) (by omega)]
    exact nr_T h.cr
  obtain ⟨r, u2, j1, L2, F2, j4, j5, j6, j7, _⟩ := r_text L1 R1 hB ht t1 183
  obtain ⟨er, j8, j9⟩ := j7 q
  refine ⟨nI (nT (rw_ u 276)), u1, u2, run1, ?_, L1.1, L2, ?_⟩
  · rw [er] at j1
    exact j1
  · have row276 : u2.2.2.1 276 = up (rw_ u 276) 5 (nI (nT (rw_ u 276) + 1)) := by
      funext k
      by_cases z : k = 5
      · rw [z, up_at]
        exact j8
      · rw [up_ne z]
        exact (F2.2.2 276 k (by omega)).trans (I1 276 k (by omega) (by omega))
    have rows : ∀ a, 114 ≤ a → a ≤ 226 ∨ a = 277 → u2.2.2.1 a = u.2.2.1 a := fun a h1 h2 => funext (fun k => (F2.2.2 a k (by omega)).trans (I1 a k (by omega) (by omega)))
    unfold RelI
    rw [row276, nC1, nT1, rows 277 (by omega) (by omega)]
    refine ⟨MA1, g2, ?_, ?_, g5, Nat.le_succ_of_le g6, fun x hx => ?_, ⟨0, Nat.zero_le 300, ?_, j4, fun i hi => absurd hi (Nat.not_lt_zero i)⟩, ?_, ?_⟩
    · exact MR_own (MAb MA1).2.1 (fun a q1 q2 => funext (fun k => (F2.2.2 a k (by omega)).trans (f2.2.2 a k (fun y => by have := hpk a k y; omega)))) c1.2.2.2.1
    · exact MR_own (MAb g2).2.1 (fun a q1 q2 => rows a (by omega) (by omega)) g4
    · rw [← TG_TT]
      have H1 : TG u2.2.2.1 (gho (rw_ u 278) (nT (rw_ u 276)) (rdT b n).1 (rdT b n).2.2.2.2) x (2 ^ nC (rw_ u 276)) := TG_row (fun a ha => funext (fun k => F2.2.2 a k (by omega))) (f3 x hx)
      by_cases z : x = nT (rw_ u 276)
      · rw [z] at H1 ⊢
        refine TG_sam H1 (fun sz h1 h2 => ?_)
        have es : sz = (rdT b n).2.2.2.2.length := by
          have e8 : sm_I u2 (236 + 7 * nT (rw_ u 276)) 8 = nI (rdT b n).2.2.2.2.length := by
            rw [F2.2.2 _ _ (by omega), f2.2.2 _ _ (fun y => by
              rcases y with (y | ⟨y, _⟩) | ⟨t', h1, y⟩ <;> omega), wI_na (by omega)]
            exact hC.2.2.1
          exact (nI_eq (by omega) (by omega)).mp (h2.symm.trans e8)
        rw [es]
        exact G0.sam j9 hok h24
      · refine TG_blk H1 (fun k k1 k2 => ?_)
        rw [gho_o (by omega)]
        exact (F2.2.2 278 k (by omega)).trans (I1 278 k (by omega) (by omega))
    · refine (F2.2.2 227 4 (by omega)).trans ((f2.2.2 227 4 (fun y => by have := hpk _ _ y; omega)).trans ?_)
      rw [wI_na (by omega)]
      exact v4
    · refine ((F2.2.2 232 3 (by omega)).trans ((f2.2.2 232 3 (fun y => by have := hpk _ _ y; omega)).trans ?_)).trans j5.symm
      rw [wI_na (by omega)]
      exact v3
    · refine ((F2.2.2 232 4 (by omega)).trans ((f2.2.2 232 4 (fun y => by have := hpk _ _ y; omega)).trans ?_)).trans j6.symm
      rw [wI_na (by omega)]
      exact vp
/-- a text with a fault -/
theorem op6_f {u : sm_M} (h : Rel u) {b : Nat → Nat} {n : Nat} (hT : TB u b n) (hR : RB u b n) (hB : ∀ i, b i < 256) (ht : nT (rw_ u 276) < 4) (q : (rdT b n).2.2.1 ≠ 0) : ∃ (r : Int32) (u1 u2 : sm_M), sm_call 200 147 (.ref 0 :: []) u = some (some (.int r), u1) ∧ sm_call 200 255 (.ref 275 :: []) u1 = some (some (.int r), u2) ∧ u1.1 = SH ∧ Rel u2 := by
  obtain ⟨m, u1, _, e1, L1, I1, v4, v3, vp, _⟩ := c_txt h hT ht
  have e1 := e1 q
  obtain ⟨g1, g2, g3, g4, g5, g6, g7, g8, g9, g10⟩ := h.2
  have g1 : MA (rw_ u 276) := g1
  have g3 : MR u.2.2.1 1 (rw_ u 276) := g3
  have g7 : ∀ x, x < nT (rw_ u 276) → TT u.2.2.1 x (2 ^ nC (rw_ u 276)) := g7
  have b1 := MAb g1
  have R1 : RB u1 b n := ⟨hR.1, by rw [I1 _ _ (by omega)]; exact hR.2.1, fun i hi => by rw [I1 _ _ (by omega)]; exact hR.2.2 i hi⟩
  have t1 : sm_I u1 276 5 = nI (nT (rw_ u 276)) := by
    rw [I1 _ _ (by omega)]
    exact nr_T h.cr
  obtain ⟨r, u2, j1, L2, F2, j4, j5, j6, _, j7⟩ := r_text L1 R1 hB ht t1 183
  obtain ⟨er, j8⟩ := j7 q
  refine ⟨Int32.ofInt (-1), u1, u2, e1, ?_, L1.1, L2, ?_⟩
  · rw [er] at j1
    exact j1
  · have row276 : u2.2.2.1 276 = rw_ u 276 := by
      funext k
      by_cases z : k = 5
      · rw [z]
        exact j8.trans (nr_T h.cr).symm
      · exact (F2.2.2 276 k (by omega)).trans (I1 276 k (by omega))
    have rows : ∀ a, 1 ≤ a → a ≤ 226 ∨ a = 277 → u2.2.2.1 a = u.2.2.1 a := fun a h1 h2 => funext (fun k => (F2.2.2 a k (by omega)).trans (I1 a k (by omega)))
    unfold RelI
    rw [row276, rows 277 (by omega) (by omega)]
    refine ⟨g1, g2, MR_own b1.2.1 (fun a q1 q2 => rows a (by omega) (by omega)) g3, MR_own (MAb g2).2.1 (fun a q1 q2 => rows a (by omega) (by omega)) g4, g5, g6, fun x hx => ?_, ⟨0, Nat.zero_le 300, (F2.2.2 227 4 (by omega)).trans v4, j4, fun i hi => absurd hi (Nat.not_lt_zero i)⟩, ((F2.2.2 232 3 (by omega)).trans v3).trans j5.symm, ((F2.2.2 232 4 (by omega)).trans vp).trans j6.symm⟩
    rw [← TG_TT]
    have H1 : TG u2.2.2.1 (rw_ u 278) x (2 ^ nC (rw_ u 276)) := TG_row (fun a ha => funext (fun k => (F2.2.2 a k (by omega)).trans (I1 a k (by omega)))) (g7 x hx)
    exact TG_blk H1 (fun k k1 k2 => (F2.2.2 278 k (by omega)).trans (I1 278 k (by omega)))
theorem op6 : op_6 Rel := by
  intro u h
  obtain ⟨b, n, hT, hR, hB⟩ := tape_b h
  have hu := h.1
  by_cases ht : nT (rw_ u 276) < 4
  · by_cases q : (rdT b n).2.2.1 = 0
    · exact op6_s h hT hR hB ht q
    · exact op6_f h hT hR hB ht q
  · have h4 : nT (rw_ u 276) = 4 := by
      have := (r_b h).2.2.2.2.1
      omega
    have m11 : sm_I u 1 11 = nI 4 := by
      rw [nm_T h.cr, h4]
    have t5 : sm_I u 276 5 = nI 4 := by
      have := nr_T h.cr
      rw [h4] at this
      exact this
    have c5 : (nI 5).toNatClampNeg = 5 := nI_clamp (by omega)
    refine ⟨Int32.ofInt (-1), u, u, ?_, ?_, hu.1, h⟩
    · show sm_call 200 147 [.ref 0] u = _
      rw [k_W_text, z_W_text_0]
      simp -implicitDefEqProofs only [eq_true (yt_0 hu), ↓yk_0_0 hu, eq_true (yt_1 hu), m11, s_isOneOf_k, ↓reduceIte]
      rw [if_neg (show ¬ ((0 : Int32) ≤ nI 4 ∧ nI 4 < nI 4) from fun z => absurd z.2 (by decide)), if_pos (show (0 : Int32) = 0 from rfl)]
    · show sm_call 200 255 [.ref 275] u = _
      rw [k_M_text, z_M_text_0]
      simp -implicitDefEqProofs only [eq_true (yt_275 hu), ↓yk_275_0 hu, in_276 hu (show 5 < 992 by omega), c5, t5, ↓reduceIte]
