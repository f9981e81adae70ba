/-! texts: a number -/
theorem z_M_nextToken_35 (C : Nat → List Value → sm_M → sm_R) (n : Nat) (u : sm_M) (a0 : Nat) (v1 : Int32) : sm_run C c_M_nextToken (n + 1) 35 [some (.ref a0), some (.int v1)] [] u = sm_ri (C 223 [.int v1] u) (fun x2 u1 => if x2 = 0 then (sm_run C c_M_nextToken n 79 [some (.ref a0), some (.int v1)] [] u1) else (if sm_tg u1 a0 = 112 then (sm_lt (sm_wI u1 a0 9 (nI 1)) (fun u3 => if sm_tg u3 a0 = 112 then (sm_lt (sm_wI u3 a0 10 (nI 0)) (fun u4 => sm_run C c_M_nextToken n 45 [some (.ref a0), some (.int v1)] [] u4)) else none)) else none)) := q_M_nextToken_35 C n u a0 v1
theorem nrf_s {b : Nat → Nat} {k i a : Nat} : nrf b (k + 1) i a = nrf b k (i + 1) (if 99999 < a then a else 10 * a + b i - 48) := rfl
theorem wvf_s {b : Nat → Nat} {k i w : Nat} : wvf b (k + 1) i w = wvf b k (i + 1) (if w / 2 ^ 48 = 0 then w * 256 + b i else 2 ^ 60) := rfl
theorem rn_num {D n s m : Nat} {b : Nat → Nat} {u w1 : sm_M} (hu : Ly u) (hB : RB u b n) (hlt : s < n) (hpos : Pos b n s) (L1 : Ly w1) (F1 : FrP Pn u w1) (a7 : sm_I w1 275 7 = nI s) (a8 : sm_I w1 275 8 = nI s) (hdg : isD (b s) = true) : Rn (sm_run (sm_call (D + 1)) c_M_nextToken (m + 1000) 35 [some (.ref 275), some (.int (nI (b s)))] [] w1) (fun v => Ly v ∧ FrP Pn u v ∧ Tk v b n s) := by
  have hn := hB.1
  have l1 := (hB.2.2 s hlt).2
  have hsn : s ≤ n := Nat.le_of_lt hlt
  have hen := enp_b (b := b) hlt
  have ebI : bI b n s = nI (b s) := if_pos hlt
  rw [z_M_nextToken_35, ← ebI, s_isFB D w1 (fun _ => l1), if_pos (show s < n ∧ isD (b s) = true from ⟨hlt, hdg⟩), if_neg (show ¬ (1 : Int32) = 0 by decide), ebI]
  simp -implicitDefEqProofs only [eq_true (yt_275 L1), ↓reduceIte, lt_s1]
  have L2 : Ly (sm_wI w1 275 9 (nI 1)) := L1.wI
  have F2 : FrP Pn u (sm_wI w1 275 9 (nI 1)) := F1.wI ⟨rfl, by omega⟩
  have b7 : sm_I (sm_wI w1 275 9 (nI 1)) 275 7 = nI s := by rw [wI_nk (by decide)]; exact a7
  have b8 : sm_I (sm_wI w1 275 9 (nI 1)) 275 8 = nI s := by rw [wI_nk (by decide)]; exact a8
  have b9 : sm_I (sm_wI w1 275 9 (nI 1)) 275 9 = nI 1 := wI_at
  generalize sm_wI w1 275 9 (nI 1) = w2 at *
  simp -implicitDefEqProofs only [eq_true (yt_275 L2), ↓reduceIte, lt_s1]
  have L3 : Ly (sm_wI w2 275 10 (nI 0)) := L2.wI
  have F3 : FrP Pn u (sm_wI w2 275 10 (nI 0)) := F2.wI ⟨rfl, by omega⟩
  have c7 : sm_I (sm_wI w2 275 10 (nI 0)) 275 7 = nI s := by rw [wI_nk (by decide)]; exact b7
  have c8 : sm_I (sm_wI w2 275 10 (nI 0)) 275 8 = nI s := by rw [wI_nk (by decide)]; exact b8
  have c9 : sm_I (sm_wI w2 275 10 (nI 0)) 275 9 = nI 1 := by rw [wI_nk (by decide)]; exact b9
  have c10 : sm_I (sm_wI w2 275 10 (nI 0)) 275 10 = nI 0 := wI_at
  generalize sm_wI w2 275 10 (nI 0) = w3 at *
  have B3 := hB.fr F3 (by omega) (fun i => by omega)
  -- the first figure
  have h48 : 48 ≤ b s ∧ b s ≤ 57 := by
    unfold isD at hdg
    simp at hdg
    omega
  rw [z_M_nextToken_45]
  simp -implicitDefEqProofs only [eq_true (yt_275 L3), ↓reduceIte, c7, r_byteAt L3 B3 hsn, s_isFB D w3 (fun _ => l1), c10]
  rw [if_pos (show s < n ∧ isD (b s) = true from ⟨hlt, hdg⟩), if_neg (show ¬ (1 : Int32) = 0 by decide), if_pos (show nI 0 ≤ nI 99999 by decide), z_M_nextToken_59]
  simp -implicitDefEqProofs only [eq_true (yt_275 L3), ↓reduceIte, c7, r_byteAt L3 B3 hsn, c10]
  rw [ebI, nI_mul, nI_add, nI_sub (by omega), z_M_nextToken_71]
  simp -implicitDefEqProofs only [eq_true (yt_275 L3), ↓reduceIte, lt_s1]
  have L4 : Ly (sm_wI w3 275 10 (nI (10 * 0 + b s - 48))) := L3.wI
  have F4 : FrP Pn u (sm_wI w3 275 10 (nI (10 * 0 + b s - 48))) := F3.wI ⟨rfl, by omega⟩
  have d7 : sm_I (sm_wI w3 275 10 (nI (10 * 0 + b s - 48))) 275 7 = nI s := by rw [wI_nk (by decide)]; exact c7
  have d8 : sm_I (sm_wI w3 275 10 (nI (10 * 0 + b s - 48))) 275 8 = nI s := by rw [wI_nk (by decide)]; exact c8
  have d9 : sm_I (sm_wI w3 275 10 (nI (10 * 0 + b s - 48))) 275 9 = nI 1 := by rw [wI_nk (by decide)]; exact c9
  have d10 : sm_I (sm_wI w3 275 10 (nI (10 * 0 + b s - 48))) 275 10 = nI (10 * 0 + b s - 48) := wI_at
  generalize sm_wI w3 275 10 (nI (10 * 0 + b s - 48)) = w4 at *
  simp -implicitDefEqProofs only [eq_true (yt_275 L4), ↓reduceIte, lt_s1, d7, nI_add]
  have F5 : FrP Pn u (sm_wI w4 275 7 (nI (s + 1))) := F4.wI ⟨rfl, by omega⟩
  obtain ⟨v, k1, k2, k3, k4, k5, k6⟩ := l_num (D := D) (x1 := nI (b s)) (n - (s + 1)) (s + 1) (m + 996) (10 * 0 + b s - 48) (sm_wI w4 275 7 (nI (s + 1))) L4.wI (hB.fr F5 (by omega) (fun i => by omega)) (by omega) (by omega) (by rw [Nat.add_sub_cancel]; exact hdg) wI_at (by rw [wI_nk (by decide)]; exact d10) (by omega) (by omega)
  refine ⟨v, ?_, (F5.tr k2).ly hu, F5.tr k2, hpos, ?_, ?_, ?_, fun _ _ => ?_, fun _ z => ?_⟩
  · rw [← k1]
  · rw [if_pos hlt]
    exact k3
  · rw [k4, wI_nk (by decide)]
    exact d8
  · rw [k5, wI_nk (by decide), d9]
    unfold tkc
    rw [if_neg (by omega), hdg]
    rfl
  · rw [k6]
    have e0 : nf (fun j => !gon b j) (n - (s + 1)) (s + 1) = enp b n s := rfl
    rw [e0]
    obtain ⟨y, hy⟩ : ∃ y, enp b n s - s = y + 1 := ⟨enp b n s - s - 1, by omega⟩
    unfold nrv
    rw [hy, show enp b n s - (s + 1) = y by omega, nrf_s, if_neg (show ¬ 99999 < 0 by omega)]
  · rw [show isL (b s) = false by unfold isL; simp; omega] at z
    cases z
