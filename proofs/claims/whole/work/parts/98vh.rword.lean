/-! texts: words of the reference, its next token (by wip/whole/mk_98vh.py); wl_ rows began as rows of kit/laws/BITS.to-paste -/
theorem z_M_nextToken_89 (C : Nat → List Value → sm_M → sm_R) (n : Nat) (u : sm_M) (a0 : Nat) (v1 : Int32) : sm_run C c_M_nextToken (n + 1) 89 [some (.ref a0), some (.int v1)] [] u = if sm_tg u a0 = 112 then (if sm_tg u a0 = 112 then (sm_ri (C 221 [.ref a0, .int (sm_I u a0 7)] u) (fun x2 u1 => sm_ri (C 222 [.int x2] u1) (fun x4 u3 => if x4 = 0 then (sm_run C c_M_nextToken n 168 [some (.ref a0), some (.int v1)] [] u3) else (if sm_tg u3 a0 = 112 then (if (lg_cmp ((sm_L u3 a0 11) >>> (Int32.toInt64 (nI 48) &&& 63)) (Int64.ofNat 0)) = 0 then (sm_run C c_M_nextToken n 105 [some (.ref a0), some (.int v1)] [.ref a0] u3) else (sm_run C c_M_nextToken n 116 [some (.ref a0), some (.int v1)] [.long (Int64.ofNat 1152921504606846976), .ref a0] u3)) else none)))) else none) else none := q_M_nextToken_89 C n u a0 v1
theorem z_M_nextToken_105 (C : Nat → List Value → sm_M → sm_R) (n : Nat) (u : sm_M) (a0 y0 : Nat) (v1 : Int32) : sm_run C c_M_nextToken (n + 1) 105 [some (.ref a0), some (.int v1)] [.ref y0] u = if sm_tg u a0 = 112 then (if sm_tg u a0 = 112 then (if sm_tg u a0 = 112 then (sm_ri (C 221 [.ref a0, .int (sm_I u a0 7)] u) (fun x2 u1 => sm_run C c_M_nextToken n 116 [some (.ref a0), some (.int v1)] [.long (((sm_L u a0 11) <<< (Int32.toInt64 (nI 8) &&& 63)) ||| (Int32.toInt64 x2)), .ref y0] u1)) else none) else none) else none := q_M_nextToken_105 C n u a0 y0 v1
theorem z_M_nextToken_116 (C : Nat → List Value → sm_M → sm_R) (n : Nat) (u : sm_M) (a0 y1 : Nat) (v1 : Int32) (z0 : Int64) : sm_run C c_M_nextToken (n + 1) 116 [some (.ref a0), some (.int v1)] [.long z0, .ref y1] u = if sm_tg u y1 = 112 then (sm_lt (sm_wL u y1 11 z0) (fun u1 => if sm_tg u1 a0 = 112 then (if sm_tg u1 a0 = 112 then (sm_lt (sm_wI u1 a0 7 ((sm_I u1 a0 7) + (nI 1))) (fun u2 => sm_run C c_M_nextToken n 89 [some (.ref a0), some (.int v1)] [] u2)) else none) else none)) else none := q_M_nextToken_116 C n u a0 y1 v1 z0
theorem wl_tb (n : Nat) : (lN n).toBitVec = BitVec.ofNat 64 n := rfl
theorem wl_inj {a b : Int64} (h : a.toBitVec = b.toBitVec) : a = b := Int64.toBitVec_inj.mp h
theorem wl_c : ∀ k, k < 64 → ((nI k).toInt64 &&& 63) = lN k := by decide +kernel
theorem wl_sm : ∀ k, k < 64 → (BitVec.ofNat 64 k).smod 64 = BitVec.ofNat 64 k := by decide +kernel
theorem wl_shl (n : Nat) {k : Nat} (hk : k < 64) : lN n <<< ((nI k).toInt64 &&& 63) = lN (n * 2 ^ k) := by
  rw [wl_c k hk]
  apply wl_inj
  rw [Int64.toBitVec_shiftLeft, wl_tb, wl_tb, wl_tb, wl_sm k hk]
  apply BitVec.eq_of_toNat_eq
  rw [BitVec.shiftLeft_eq', BitVec.toNat_shiftLeft, BitVec.toNat_ofNat, BitVec.toNat_ofNat, BitVec.toNat_ofNat, Nat.mod_eq_of_lt (show k < 2 ^ 64 by omega), Nat.shiftLeft_eq, Nat.mul_mod, Nat.mod_mod, ← Nat.mul_mod]
theorem wl_or {a b : Nat} (ha : a < 2 ^ 64) (hb : b < 2 ^ 64) : lN a ||| lN b = lN (a ||| b) := by
  apply wl_inj
  rw [Int64.toBitVec_or, wl_tb, wl_tb, wl_tb]
  apply BitVec.eq_of_toNat_eq
  rw [BitVec.toNat_or, BitVec.toNat_ofNat, BitVec.toNat_ofNat, BitVec.toNat_ofNat, Nat.mod_eq_of_lt ha, Nat.mod_eq_of_lt hb, Nat.mod_eq_of_lt (Nat.or_lt_two_pow ha hb)]
theorem wl_lI {a : Nat} (h : a < 2 ^ 61) : (lN a).toInt = a := by
  show (Int64.ofNat a).toInt = a
  rw [lI_n]
  exact lI_t (by unfold bd; omega)
theorem wl_shr {a k : Nat} (h : a < 2 ^ 61) (hk : k < 64) : lN a >>> ((nI k).toInt64 &&& 63) = lN (a / 2 ^ k) := by
  have hd : a / 2 ^ k ≤ a := Nat.div_le_self _ _
  rw [wl_c k hk]
  apply Int64.toInt_inj.mp
  have e0 : ((lN k).toBitVec.smod 64).toNat = k := by
    rw [wl_tb, wl_sm k hk, BitVec.toNat_ofNat, Nat.mod_eq_of_lt (by omega)]
  have e : (lN a >>> lN k).toInt = (lN a).toInt >>> ((lN k).toBitVec.smod 64).toNat := BitVec.toInt_sshiftRight ..
  rw [e, e0, Int.shiftRight_eq_div_pow, wl_lI h, wl_lI (by omega)]
  rfl
theorem wl_eq {a b : Nat} (ha : a < 2 ^ 61) (hb : b < 2 ^ 61) : (lg_cmp (lN a) (lN b) = 0) = (a = b) := by
  have e := lc_eq (x := (a : Int)) (y := (b : Int)) (by unfold bd; omega) (by unfold bd; omega)
  rw [← lI_n, ← lI_n] at e
  have e : (lg_cmp (lN a) (lN b) = 0) = ((a : Int) = (b : Int)) := e
  rw [e]
  exact propext ⟨fun z => by omega, fun z => by omega⟩
theorem wl_sh8 {w c : Nat} (hw : w < 2 ^ 48) (hc : c < 256) : (lN w <<< ((nI 8).toInt64 &&& 63)) ||| (nI c).toInt64 = lN (w * 256 + c) := by
  rw [wl_shl w (by decide), nI_l (by omega), wl_or (by omega) (by omega)]
  congr 1
  have := Nat.two_pow_add_eq_or_of_lt (i := 8) (b := c) (by omega) w
  rw [Nat.mul_comm w, ← this]
def wvf (b : Nat → Nat) : Nat → Nat → Nat → Nat
  | 0, _, w => w
  | k + 1, i, w => wvf b k (i + 1) (if w / 2 ^ 48 = 0 then w * 256 + b i else 2 ^ 60)
def wvv (b : Nat → Nat) (n s : Nat) : Nat := wvf b (enp b n s - s) s 0
theorem l_wrd {D n : Nat} {b : Nat → Nat} {x1 : Int32} : ∀ (j i m w : Nat) (u : sm_M), Ly u → RB u b n → i + j = n → 1 ≤ i → isL (b (i - 1)) = true → sm_I u 275 7 = nI i → sm_L u 275 11 = lN w → w ≤ 2 ^ 60 → j * 3 + 2 ≤ m →
    ∃ v, sm_run (sm_call (D + 1)) c_M_nextToken m 89 [some (.ref 275), some (.int x1)] [] u = some (none, v) ∧ FrP Pn u v ∧ sm_I v 275 7 = nI (nf (fun j => !gon b j) j i) ∧ sm_I v 275 8 = sm_I u 275 8 ∧ sm_I v 275 9 = sm_I u 275 9 ∧ sm_L v 275 11 = lN (wvf b (nf (fun j => !gon b j) j i - i) i w) := by
  intro j
  induction j with
  | zero =>
    intro i m w u hu hB hi h1 hd e7 e11 hw hm
    obtain ⟨m, rfl⟩ : ∃ k, m = k + 2 := ⟨m - 2, by omega⟩
    have hi : i = n := hi
    subst hi
    refine ⟨u, ?_, FrP.rf, e7, rfl, rfl, ?_⟩
    · rw [z_M_nextToken_89]
      simp only [eq_true (yt_275 hu), ↓reduceIte, e7, r_byteAt hu hB (Nat.le_refl i), s_isLB D u (fun z => absurd z (Nat.lt_irrefl i))]
      rw [if_neg (show ¬ (i < i ∧ isL (b i) = true) from fun z => absurd z.1 (Nat.lt_irrefl i)), if_pos (show (0 : Int32) = 0 from rfl), z_M_nextToken_168]
    · show _ = lN (wvf b (i - i) i w)
      rw [Nat.sub_self]
      exact e11
  | succ j ih =>
    intro i m w u hu hB hi h1 hd e7 e11 hw hm
    obtain ⟨m, rfl⟩ : ∃ k, m = k + 3 := ⟨m - 3, by omega⟩
    have hn := hB.1
    have hlt : i < n := by omega
    have l1 := (hB.2.2 i hlt).2
    have hgd := gL_g h1 hd
    rw [show nf (fun j => !gon b j) (j + 1) i = if (!gon b i) = true then i else nf (fun j => !gon b j) j (i + 1) from rfl]
    cases hD : isL (b i) with
    | false =>
      rw [hD] at hgd
      rw [hgd, if_pos (by rfl)]
      refine ⟨u, ?_, FrP.rf, e7, rfl, rfl, ?_⟩
      · rw [z_M_nextToken_89]
        simp only [eq_true (yt_275 hu), ↓reduceIte, e7, r_byteAt hu hB (Nat.le_of_lt hlt), s_isLB D u (fun _ => l1)]
        rw [if_neg (show ¬ (i < n ∧ isL (b i) = true) from fun z => by rw [hD] at z; cases z.2), if_pos (show (0 : Int32) = 0 from rfl), z_M_nextToken_168]
      · rw [Nat.sub_self]
        exact e11
    | true =>
      rw [hD] at hgd
      rw [hgd, if_neg (by simp)]
      have hle := (nf_sp (fun j => !gon b j) j (i + 1)).1
      have hst : ∃ q, m + 1 ≤ q ∧ sm_run (sm_call (D + 1)) c_M_nextToken (m + 3) 89 [some (.ref 275), some (.int x1)] [] u = sm_run (sm_call (D + 1)) c_M_nextToken q 116 [some (.ref 275), some (.int x1)] [.long (lN (if w / 2 ^ 48 = 0 then w * 256 + b i else 2 ^ 60)), .ref 275] u := by
        have hsr := wl_shr (a := w) (k := 48) (by omega) (by decide)
        have hz : (lg_cmp (lN (w / 2 ^ 48)) (Int64.ofNat 0) = 0) = (w / 2 ^ 48 = 0) := wl_eq (by have := Nat.div_le_self w (2 ^ 48); omega) (by omega)
        by_cases q : w / 2 ^ 48 = 0
        · have hw48 : w < 2 ^ 48 := by
            rcases Nat.lt_or_ge w (2 ^ 48) with z | z
            · exact z
            · have := Nat.div_pos z (by decide); omega
          refine ⟨m + 1, by omega, ?_⟩
          rw [if_pos q, z_M_nextToken_89]
          simp only [eq_true (yt_275 hu), ↓reduceIte, e7, r_byteAt hu hB (Nat.le_of_lt hlt), s_isLB D u (fun _ => l1), e11, hsr, hz]
          rw [if_pos (show i < n ∧ isL (b i) = true from ⟨hlt, hD⟩), if_neg (show ¬ (1 : Int32) = 0 by decide), if_pos q, z_M_nextToken_105]
          simp only [eq_true (yt_275 hu), ↓reduceIte, e7, r_byteAt hu hB (Nat.le_of_lt hlt), e11]
          unfold bI
          rw [if_pos hlt, wl_sh8 hw48 l1]
        · refine ⟨m + 2, by omega, ?_⟩
          rw [if_neg q, z_M_nextToken_89]
          simp only [eq_true (yt_275 hu), ↓reduceIte, e7, r_byteAt hu hB (Nat.le_of_lt hlt), s_isLB D u (fun _ => l1), e11, hsr, hz]
          rw [if_pos (show i < n ∧ isL (b i) = true from ⟨hlt, hD⟩), if_neg (show ¬ (1 : Int32) = 0 by decide), if_neg q]
          rfl
      obtain ⟨q, hq, est⟩ := hst
      obtain ⟨q, rfl⟩ : ∃ k, q = k + 1 := ⟨q - 1, by omega⟩
      generalize hy : (if w / 2 ^ 48 = 0 then w * 256 + b i else 2 ^ 60) = y at *
      have hyl : y ≤ 2 ^ 60 := by
        rw [← hy]
        by_cases z : w / 2 ^ 48 = 0
        · rw [if_pos z]
          have hw48 : w < 2 ^ 48 := by
            rcases Nat.lt_or_ge w (2 ^ 48) with z' | z'
            · exact z'
            · have := Nat.div_pos z' (by decide); omega
          omega
        · rw [if_neg z]
          exact Nat.le_refl _
      have F2 : FrP Pn u (sm_wI (sm_wL u 275 11 (lN y)) 275 7 (nI (i + 1))) := (FrP.wL FrP.rf).wI ⟨rfl, by omega⟩
      obtain ⟨v, g1, g2, g3, g4, g5, g6⟩ := ih (i + 1) q y (sm_wI (sm_wL u 275 11 (lN y)) 275 7 (nI (i + 1))) (Ly.wI (show Ly (sm_wL u 275 11 (lN y)) from hu)) (hB.fr F2 (by omega) (fun i => by omega)) (by omega) (by omega) (by rw [Nat.add_sub_cancel]; exact hD) wI_at (by rw [wI_L, wL_at]) hyl (by omega)
      refine ⟨v, ?_, F2.tr g2, g3, ?_, ?_, ?_⟩
      · rw [est, ← g1, z_M_nextToken_116]
        have L1 : Ly (sm_wL u 275 11 (lN y)) := hu
        have a7 : sm_I (sm_wL u 275 11 (lN y)) 275 7 = nI i := e7
        simp only [eq_true (yt_275 hu), ↓reduceIte, lt_s1]
        generalize sm_wL u 275 11 (lN y) = w1 at *
        simp only [eq_true (yt_275 L1), ↓reduceIte, lt_s1, a7, nI_add]
      · rw [g4, wI_nk (by decide)]
        rfl
      · rw [g5, wI_nk (by decide)]
        rfl
      · rw [g6]
        obtain ⟨z, hz⟩ : ∃ z, nf (fun j => !gon b j) j (i + 1) - i = z + 1 := ⟨nf (fun j => !gon b j) j (i + 1) - i - 1, by omega⟩
        rw [hz, show nf (fun j => !gon b j) j (i + 1) - (i + 1) = z by omega]
        show _ = lN (wvf b z (i + 1) (if w / 2 ^ 48 = 0 then w * 256 + b i else 2 ^ 60))
        rw [hy]
def tkc (b : Nat → Nat) (n s : Nat) : Nat := if n ≤ s then 0 else if isD (b s) = true then 1 else if isL (b s) = true then 2 else if sgn (b s) (enp b n s - s) = 0 then 3 else if sgn (b s) (enp b n s - s) = 3 then 4 else if sgn (b s) (enp b n s - s) = 4 then 5 else sgn (b s) (enp b n s - s)
/-- the reference's token -/
def Tk (u : sm_M) (b : Nat → Nat) (n s : Nat) : Prop := Pos b n s ∧ sm_I u 275 7 = nI (if s < n then enp b n s else n) ∧ sm_I u 275 8 = nI s ∧ sm_I u 275 9 = nI (tkc b n s) ∧ (s < n → isD (b s) = true → sm_I u 275 10 = nI (nrv b n s)) ∧ (s < n → isL (b s) = true → sm_L u 275 11 = lN (wvv b n s))
/-- a sign -/
theorem enp_g {b : Nat → Nat} {n s : Nat} (hs : s < n) (hd : isD (b s) = false) (hl : isL (b s) = false) : enp b n s = if s + 1 < n ∧ b (s + 1) = 61 ∧ (b s = 60 ∨ b s = 62) then s + 2 else s + 1 := by
  have g1 : gon b (s + 1) = (decide (b (s + 1) = 61) && (decide (b s = 60) || decide (b s = 62))) := by
    unfold gon
    rw [Nat.add_sub_cancel, hd, hl, decide_eq_true (by omega)]
    simp
  unfold enp
  by_cases q : s + 1 < n
  · obtain ⟨k, hk⟩ : ∃ k, n - (s + 1) = k + 1 := ⟨n - (s + 1) - 1, by omega⟩
    rw [hk]
    show (if (!gon b (s + 1)) = true then s + 1 else nf (fun j => !gon b j) k (s + 1 + 1)) = _
    by_cases h2 : b (s + 1) = 61 ∧ (b s = 60 ∨ b s = 62)
    · rw [if_pos (show s + 1 < n ∧ b (s + 1) = 61 ∧ (b s = 60 ∨ b s = 62) from ⟨q, h2⟩)]
      have e1 : gon b (s + 1) = true := by
        rw [g1, decide_eq_true h2.1]
        rcases h2.2 with z | z
        · rw [decide_eq_true z]; rfl
        · rw [decide_eq_true z]; simp
      rw [e1, if_neg (show ¬ (!true) = true by simp)]
      cases k with
      | zero => rfl
      | succ k =>
        have e2 : gon b (s + 1 + 1) = false := by
          unfold gon
          rw [Nat.add_sub_cancel, h2.1]
          simp [isL, isD]
        show (if (!gon b (s + 1 + 1)) = true then s + 1 + 1 else _) = _
        rw [e2, if_pos (by rfl)]
    · rw [if_neg (show ¬ (s + 1 < n ∧ b (s + 1) = 61 ∧ (b s = 60 ∨ b s = 62)) from fun z => h2 z.2)]
      have e1 : gon b (s + 1) = false := by
        rw [g1]
        cases h3 : decide (b (s + 1) = 61) with
        | false => rfl
        | true =>
          have h4 := of_decide_eq_true h3
          have h5 : ¬ (b s = 60 ∨ b s = 62) := fun z => h2 ⟨h4, z⟩
          rw [decide_eq_false (fun z => h5 (Or.inl z)), decide_eq_false (fun z => h5 (Or.inr z))]
          rfl
      rw [e1, if_pos (by rfl)]
  · rw [show n - (s + 1) = 0 by omega, if_neg (show ¬ (s + 1 < n ∧ b (s + 1) = 61 ∧ (b s = 60 ∨ b s = 62)) from fun z => q z.1)]
    rfl
