/-! texts: a word -/
theorem z_M_nextToken_79 (C : Nat → List Value → sm_M → sm_R) (n : Nat) (u : sm_M) (a0 : Nat) (v1 : Int32) : sm_run C c_M_nextToken (n + 1) 79 [some (.ref a0), some (.int v1)] [] u = sm_ri (C 222 [.int v1] u) (fun x2 u1 => if x2 = 0 then (sm_run C c_M_nextToken n 124 [some (.ref a0), some (.int v1)] [] u1) else (if sm_tg u1 a0 = 112 then (sm_lt (sm_wI u1 a0 9 (nI 2)) (fun u3 => if sm_tg u3 a0 = 112 then (sm_lt (sm_wL u3 a0 11 (Int64.ofNat 0)) (fun u4 => sm_run C c_M_nextToken n 89 [some (.ref a0), some (.int v1)] [] u4)) else none)) else none)) := q_M_nextToken_79 C n u a0 v1
theorem rn_wrd {D n s m : Nat} {b : Nat → Nat} {u w1 : sm_M} (hu : Ly u) (hB : RB u b n) (hlt : s < n) (hpos : Pos b n s) (L1 : Ly w1) (F1 : FrP Pn u w1) (a7 : sm_I w1 275 7 = nI s) (a8 : sm_I w1 275 8 = nI s) (hdg : isD (b s) = false) (hlg : isL (b s) = true) : Rn (sm_run (sm_call (D + 1)) c_M_nextToken (m + 1000) 79 [some (.ref 275), some (.int (nI (b s)))] [] w1) (fun v => Ly v ∧ FrP Pn u v ∧ Tk v b n s) := by
  have hn := hB.1
  have l1 := (hB.2.2 s hlt).2
  have hsn : s ≤ n := Nat.le_of_lt hlt
  have hen := enp_b (b := b) hlt
  have ebI : bI b n s = nI (b s) := if_pos hlt
  rw [z_M_nextToken_79, ← ebI, s_isLB D w1 (fun _ => l1), if_pos (show s < n ∧ isL (b s) = true from ⟨hlt, hlg⟩), if_neg (show ¬ (1 : Int32) = 0 by decide), ebI]
  simp -implicitDefEqProofs only [eq_true (yt_275 L1), ↓reduceIte, lt_s1]
  have L2 : Ly (sm_wI w1 275 9 (nI 2)) := L1.wI
  have F2 : FrP Pn u (sm_wI w1 275 9 (nI 2)) := F1.wI ⟨rfl, by omega⟩
  have b7 : sm_I (sm_wI w1 275 9 (nI 2)) 275 7 = nI s := by rw [wI_nk (by decide)]; exact a7
  have b8 : sm_I (sm_wI w1 275 9 (nI 2)) 275 8 = nI s := by rw [wI_nk (by decide)]; exact a8
  have b9 : sm_I (sm_wI w1 275 9 (nI 2)) 275 9 = nI 2 := wI_at
  generalize sm_wI w1 275 9 (nI 2) = w2 at *
  simp -implicitDefEqProofs only [eq_true (yt_275 L2), ↓reduceIte, lt_s1]
  have L3 : Ly (sm_wL w2 275 11 (Int64.ofNat 0)) := L2
  have F3 : FrP Pn u (sm_wL w2 275 11 (Int64.ofNat 0)) := F2
  have c7 : sm_I (sm_wL w2 275 11 (Int64.ofNat 0)) 275 7 = nI s := b7
  have c8 : sm_I (sm_wL w2 275 11 (Int64.ofNat 0)) 275 8 = nI s := b8
  have c9 : sm_I (sm_wL w2 275 11 (Int64.ofNat 0)) 275 9 = nI 2 := b9
  have c11 : sm_L (sm_wL w2 275 11 (Int64.ofNat 0)) 275 11 = lN 0 := wL_at
  generalize sm_wL w2 275 11 (Int64.ofNat 0) = w3 at *
  have B3 := hB.fr F3 (by omega) (fun i => by omega)
  have hsr : lN 0 >>> ((nI 48).toInt64 &&& 63) = lN 0 := by rw [wl_shr (by decide) (by decide)]
  rw [z_M_nextToken_89]
  simp -implicitDefEqProofs only [eq_true (yt_275 L3), ↓reduceIte, c7, r_byteAt L3 B3 hsn, s_isLB D w3 (fun _ => l1), c11, hsr]
  rw [if_pos (show s < n ∧ isL (b s) = true from ⟨hlt, hlg⟩), if_neg (show ¬ (1 : Int32) = 0 by decide), if_pos (show lg_cmp (lN 0) (Int64.ofNat 0) = 0 from by decide), z_M_nextToken_105]
  simp -implicitDefEqProofs only [eq_true (yt_275 L3), ↓reduceIte, c7, r_byteAt L3 B3 hsn, c11]
  rw [ebI, wl_sh8 (by decide) l1, z_M_nextToken_116]
  simp -implicitDefEqProofs only [eq_true (yt_275 L3), ↓reduceIte, lt_s1]
  have L4 : Ly (sm_wL w3 275 11 (lN (0 * 256 + b s))) := L3
  have F4 : FrP Pn u (sm_wL w3 275 11 (lN (0 * 256 + b s))) := F3
  have d7 : sm_I (sm_wL w3 275 11 (lN (0 * 256 + b s))) 275 7 = nI s := c7
  have d8 : sm_I (sm_wL w3 275 11 (lN (0 * 256 + b s))) 275 8 = nI s := c8
  have d9 : sm_I (sm_wL w3 275 11 (lN (0 * 256 + b s))) 275 9 = nI 2 := c9
  have d11 : sm_L (sm_wL w3 275 11 (lN (0 * 256 + b s))) 275 11 = lN (0 * 256 + b s) := wL_at
  generalize sm_wL w3 275 11 (lN (0 * 256 + b s)) = w4 at *
  simp -implicitDefEqProofs only [eq_true (yt_275 L4), ↓reduceIte, lt_s1, d7, nI_add]
  have F5 : FrP Pn u (sm_wI w4 275 7 (nI (s + 1))) := F4.wI ⟨rfl, by omega⟩
  obtain ⟨v, k1, k2, k3, k4, k5, k6⟩ := l_wrd (D := D) (x1 := nI (b s)) (n - (s + 1)) (s + 1) (m + 996) (0 * 256 + b s) (sm_wI w4 275 7 (nI (s + 1))) L4.wI (hB.fr F5 (by omega) (fun i => by omega)) (by omega) (by omega) (by rw [Nat.add_sub_cancel]; exact hlg) wI_at (by rw [wI_L]; exact d11) (by omega) (by omega)
  refine ⟨v, ?_, (F5.tr k2).ly hu, F5.tr k2, hpos, ?_, ?_, ?_, fun _ z => ?_, fun _ _ => ?_⟩
  · rw [← k1]
  · rw [if_pos hlt]
    exact k3
  · rw [k4, wI_nk (by decide)]
    exact d8
  · rw [k5, wI_nk (by decide), d9]
    unfold tkc
    rw [if_neg (by omega), hdg, hlg]
    rfl
  · rw [hdg] at z
    cases z
  · rw [k6]
    have e0 : nf (fun j => !gon b j) (n - (s + 1)) (s + 1) = enp b n s := rfl
    rw [e0]
    obtain ⟨y, hy⟩ : ∃ y, enp b n s - s = y + 1 := ⟨enp b n s - s - 1, by omega⟩
    unfold wvv
    rw [hy, show enp b n s - (s + 1) = y by omega, wvf_s, if_pos (show 0 / 2 ^ 48 = 0 from Nat.zero_div _)]
