/-! texts: a sign, the next token -/
theorem z_M_nextToken_124 (C : Nat → List Value → sm_M → sm_R) (n : Nat) (u : sm_M) (a0 : Nat) (v1 : Int32) : sm_run C c_M_nextToken (n + 1) 124 [some (.ref a0), some (.int v1)] [] u = sm_ri (C 224 [.int v1] u) (fun x2 u1 => if x2 = 0 then (sm_run C c_M_nextToken n 130 [some (.ref a0), some (.int v1)] [.ref a0] u1) else (sm_run C c_M_nextToken n 132 [some (.ref a0), some (.int v1)] [.int v1, .ref a0] u1)) := q_M_nextToken_124 C n u a0 v1
theorem z_M_nextToken_130 (C : Nat → List Value → sm_M → sm_R) (n : Nat) (u : sm_M) (a0 y0 : Nat) (v1 : Int32) : sm_run C c_M_nextToken (n + 1) 130 [some (.ref a0), some (.int v1)] [.ref y0] u = sm_run C c_M_nextToken n 132 [some (.ref a0), some (.int v1)] [.int (nI 3), .ref y0] u := q_M_nextToken_130 C n u a0 y0 v1
theorem z_M_nextToken_132 (C : Nat → List Value → sm_M → sm_R) (n : Nat) (u : sm_M) (a0 y1 : Nat) (v1 s0 : Int32) : sm_run C c_M_nextToken (n + 1) 132 [some (.ref a0), some (.int v1)] [.int s0, .ref y1] u = if sm_tg u y1 = 112 then (sm_lt (sm_wI u y1 9 s0) (fun u1 => if sm_tg u1 a0 = 112 then (if sm_tg u1 a0 = 112 then (sm_lt (sm_wI u1 a0 7 ((sm_I u1 a0 7) + (nI 1))) (fun u2 => if v1 = (nI 60) then (sm_run C c_M_nextToken n 146 [some (.ref a0), some (.int v1)] [] u2) else (if v1 = (nI 62) then (sm_run C c_M_nextToken n 146 [some (.ref a0), some (.int v1)] [] u2) else (sm_run C c_M_nextToken n 168 [some (.ref a0), some (.int v1)] [] u2)))) else none) else none)) else none := q_M_nextToken_132 C n u a0 y1 v1 s0
theorem z_M_nextToken_160 (C : Nat → List Value → sm_M → sm_R) (n : Nat) (u : sm_M) (a0 y1 : Nat) (v1 s0 : Int32) : sm_run C c_M_nextToken (n + 1) 160 [some (.ref a0), some (.int v1)] [.int s0, .ref y1] u = if sm_tg u y1 = 112 then (sm_lt (sm_wI u y1 9 s0) (fun u1 => if sm_tg u1 a0 = 112 then (if sm_tg u1 a0 = 112 then (sm_lt (sm_wI u1 a0 7 ((sm_I u1 a0 7) + (nI 1))) (fun u2 => sm_run C c_M_nextToken n 168 [some (.ref a0), some (.int v1)] [] u2)) else none) else none)) else none := q_M_nextToken_160 C n u a0 y1 v1 s0
theorem z_M_nextToken_146 (C : Nat → List Value → sm_M → sm_R) (n : Nat) (u : sm_M) (a0 : Nat) (v1 : Int32) : sm_run C c_M_nextToken (n + 1) 146 [some (.ref a0), some (.int v1)] [] u = if sm_tg u a0 = 112 then (if sm_tg u a0 = 112 then (sm_ri (C 221 [.ref a0, .int (sm_I u a0 7)] u) (fun x2 u1 => if x2 = (nI 61) then (if v1 = (nI 60) then (sm_run C c_M_nextToken n 160 [some (.ref a0), some (.int v1)] [.int (nI 4), .ref a0] u1) else (sm_run C c_M_nextToken n 158 [some (.ref a0), some (.int v1)] [.ref a0] u1)) else (sm_run C c_M_nextToken n 168 [some (.ref a0), some (.int v1)] [] u1))) else none) else none := q_M_nextToken_146 C n u a0 v1
theorem z_M_nextToken_158 (C : Nat → List Value → sm_M → sm_R) (n : Nat) (u : sm_M) (a0 y0 : Nat) (v1 : Int32) : sm_run C c_M_nextToken (n + 1) 158 [some (.ref a0), some (.int v1)] [.ref y0] u = sm_run C c_M_nextToken n 160 [some (.ref a0), some (.int v1)] [.int (nI 5), .ref y0] u := q_M_nextToken_158 C n u a0 y0 v1
theorem z_M_nextToken_20 (C : Nat → List Value → sm_M → sm_R) (n : Nat) (u : sm_M) (a0 : Nat) : sm_run C c_M_nextToken (n + 1) 20 [some (.ref a0), none] [] u = if sm_tg u a0 = 112 then (if sm_tg u a0 = 112 then (sm_lt (sm_wI u a0 8 (sm_I u a0 7)) (fun u1 => if sm_tg u1 a0 = 112 then (if sm_tg u1 a0 = 112 then (sm_ri (C 221 [.ref a0, .int (sm_I u1 a0 7)] u1) (fun x3 u2 => if 0 ≤ x3 then (sm_run C c_M_nextToken n 35 [some (.ref a0), some (.int x3)] [] u2) else (if sm_tg u2 a0 = 112 then (sm_lt (sm_wI u2 a0 9 (nI 0)) (fun u4 => sm_run C c_M_nextToken n 168 [some (.ref a0), some (.int x3)] [] u4)) else none))) else none) else none)) else none) else none := q_M_nextToken_20 C n u a0
theorem rn_sgn {D n s m : Nat} {b : Nat → Nat} {u w1 : sm_M} (hu : Ly u) (hB : RB u b n) (hlt : s < n) (hpos : Pos b n s) (L1 : Ly w1) (F1 : FrP Pn u w1) (a7 : sm_I w1 275 7 = nI s) (a8 : sm_I w1 275 8 = nI s) (hdg : isD (b s) = false) (hlg : isL (b s) = false) : Rn (sm_run (sm_call (D + 1)) c_M_nextToken (m + 1000) 79 [some (.ref 275), some (.int (nI (b s)))] [] w1) (fun v => Ly v ∧ FrP Pn u v ∧ Tk v b n s) := by
  have hn := hB.1
  have l1 := (hB.2.2 s hlt).2
  have hsn : s ≤ n := Nat.le_of_lt hlt
  have hen := enp_b (b := b) hlt
  have ebI : bI b n s = nI (b s) := if_pos hlt
  rw [z_M_nextToken_79, ← ebI, s_isLB D w1 (fun _ => l1), if_neg (show ¬ (s < n ∧ isL (b s) = true) from fun z => by rw [hlg] at z; cases z.2), if_pos (show (0 : Int32) = 0 from rfl), z_M_nextToken_124, ebI, s_isSB D w1 l1]
  have heg := enp_g (n := n) hlt hdg hlg
  -- the token that one byte makes
  have st : ∃ q2 x, m + 990 ≤ q2 ∧ x = (if isG (b s) = true then b s else 3) ∧ (if (if isG (b s) = true then (1 : Int32) else 0) = 0 then sm_run (sm_call (D + 1)) c_M_nextToken (m + 998) 130 [some (.ref 275), some (.int (nI (b s)))] [.ref 275] w1 else sm_run (sm_call (D + 1)) c_M_nextToken (m + 998) 132 [some (.ref 275), some (.int (nI (b s)))] [.int (nI (b s)), .ref 275] w1) = sm_run (sm_call (D + 1)) c_M_nextToken q2 132 [some (.ref 275), some (.int (nI (b s)))] [.int (nI x), .ref 275] w1 := by
    by_cases z : isG (b s) = true
    · refine ⟨m + 998, b s, by omega, (if_pos z).symm, ?_⟩
      rw [if_pos z, if_neg (show ¬ (1 : Int32) = 0 by decide)]
    · refine ⟨m + 997, 3, by omega, (if_neg z).symm, ?_⟩
      rw [if_neg z, if_pos (show (0 : Int32) = 0 from rfl), z_M_nextToken_130]
  obtain ⟨q2, x, hq2, hx, est⟩ := st
  obtain ⟨q2, rfl⟩ : ∃ k, q2 = k + 10 := ⟨q2 - 10, by omega⟩
  rw [est, z_M_nextToken_132]
  simp -implicitDefEqProofs only [eq_true (yt_275 L1), ↓reduceIte, lt_s1]
  have L2 : Ly (sm_wI w1 275 9 (nI x)) := L1.wI
  have F2 : FrP Pn u (sm_wI w1 275 9 (nI x)) := F1.wI ⟨rfl, by omega⟩
  have b7 : sm_I (sm_wI w1 275 9 (nI x)) 275 7 = nI s := by rw [wI_nk (by decide)]; exact a7
  have b8 : sm_I (sm_wI w1 275 9 (nI x)) 275 8 = nI s := by rw [wI_nk (by decide)]; exact a8
  have b9 : sm_I (sm_wI w1 275 9 (nI x)) 275 9 = nI x := wI_at
  generalize sm_wI w1 275 9 (nI x) = w2 at *
  simp -implicitDefEqProofs only [eq_true (yt_275 L2), ↓reduceIte, lt_s1, b7, nI_add]
  have L3 : Ly (sm_wI w2 275 7 (nI (s + 1))) := L2.wI
  have F3 : FrP Pn u (sm_wI w2 275 7 (nI (s + 1))) := F2.wI ⟨rfl, by omega⟩
  have c7 : sm_I (sm_wI w2 275 7 (nI (s + 1))) 275 7 = nI (s + 1) := wI_at
  have c8 : sm_I (sm_wI w2 275 7 (nI (s + 1))) 275 8 = nI s := by rw [wI_nk (by decide)]; exact b8
  have c9 : sm_I (sm_wI w2 275 7 (nI (s + 1))) 275 9 = nI x := by rw [wI_nk (by decide)]; exact b9
  generalize sm_wI w2 275 7 (nI (s + 1)) = w3 at *
  have B3 := hB.fr F3 (by omega) (fun i => by omega)
  -- one byte alone
  have one : ∀ f, enp b n s = s + 1 → Rn (sm_run (sm_call (D + 1)) c_M_nextToken (f + 1) 168 [some (.ref 275), some (.int (nI (b s)))] [] w3) (fun v => Ly v ∧ FrP Pn u v ∧ Tk v b n s) := by
    intro f e1
    rw [z_M_nextToken_168]
    refine Rn.ret ⟨L3, F3, hpos, by rw [if_pos hlt, e1]; exact c7, c8, ?_, fun _ z => absurd z (by rw [hdg]; simp), fun _ z => absurd z (by rw [hlg]; simp)⟩
    rw [c9]
    unfold tkc
    rw [if_neg (by omega), hdg, hlg, if_neg (by simp), if_neg (by simp), e1, show s + 1 - s = 1 by omega, hx]
    have eg : sgn (b s) 1 = if isG (b s) = true then b s else 0 := if_neg (by decide)
    rw [eg]
    by_cases z : isG (b s) = true
    · have := isG_v z
      rw [if_pos z, if_pos z, if_neg (show ¬ b s = 0 by omega), if_neg (show ¬ b s = 3 by omega), if_neg (show ¬ b s = 4 by omega)]
    · rw [if_neg z, if_neg z, if_pos (show 0 = 0 from rfl)]
  -- two bytes
  have two : ∀ f y, enp b n s = s + 2 → y = (if b s = 60 then 4 else 5) → Rn (sm_run (sm_call (D + 1)) c_M_nextToken (f + 2) 160 [some (.ref 275), some (.int (nI (b s)))] [.int (nI y), .ref 275] w3) (fun v => Ly v ∧ FrP Pn u v ∧ Tk v b n s) := by
    intro f y e2 hy
    rw [z_M_nextToken_160]
    simp -implicitDefEqProofs only [eq_true (yt_275 L3), ↓reduceIte, lt_s1]
    have L4 : Ly (sm_wI w3 275 9 (nI y)) := L3.wI
    have d7 : sm_I (sm_wI w3 275 9 (nI y)) 275 7 = nI (s + 1) := by rw [wI_nk (by decide)]; exact c7
    have d8 : sm_I (sm_wI w3 275 9 (nI y)) 275 8 = nI s := by rw [wI_nk (by decide)]; exact c8
    have d9 : sm_I (sm_wI w3 275 9 (nI y)) 275 9 = nI y := wI_at
    have F4 : FrP Pn u (sm_wI w3 275 9 (nI y)) := F3.wI ⟨rfl, by omega⟩
    generalize sm_wI w3 275 9 (nI y) = w4 at *
    simp -implicitDefEqProofs only [eq_true (yt_275 L4), ↓reduceIte, lt_s1, d7, nI_add]
    rw [z_M_nextToken_168]
    refine Rn.ret ⟨L4.wI, F4.wI ⟨rfl, by omega⟩, hpos, by rw [if_pos hlt, e2, wI_at], by rw [wI_nk (by decide)]; exact d8, ?_, fun _ z => absurd z (by rw [hdg]; simp), fun _ z => absurd z (by rw [hlg]; simp)⟩
    rw [wI_nk (by decide), d9]
    unfold tkc
    rw [if_neg (by omega), hdg, hlg, if_neg (by simp), if_neg (by simp), e2, show s + 2 - s = 2 by omega, hy]
    unfold sgn
    rw [if_pos rfl]
    by_cases z : b s = 60
    · rw [if_pos z, if_pos z, if_neg (by decide), if_pos rfl]
    · rw [if_neg z, if_neg z, if_neg (by decide), if_neg (by decide), if_pos rfl]
  -- which
  have t146 : (b s = 60 ∨ b s = 62) → Rn (sm_run (sm_call (D + 1)) c_M_nextToken (q2 + 9) 146 [some (.ref 275), some (.int (nI (b s)))] [] w3) (fun v => Ly v ∧ FrP Pn u v ∧ Tk v b n s) := by
    intro h6
    rw [z_M_nextToken_146]
    simp -implicitDefEqProofs only [eq_true (yt_275 L3), ↓reduceIte, c7, r_byteAt L3 B3 (show s + 1 ≤ n by omega)]
    unfold bI
    by_cases z : s + 1 < n
    · rw [if_pos z]
      have l2 := (B3.2.2 (s + 1) z).2
      by_cases z2 : b (s + 1) = 61
      · rw [z2, if_pos rfl]
        rw [if_pos ⟨z, z2, h6⟩] at heg
        by_cases z3 : b s = 60
        · rw [if_pos (by rw [z3])]
          exact two (q2 + 6) 4 heg (if_pos z3).symm
        · rw [if_neg (fun y => z3 ((nI_eq (by omega) (by omega)).mp y)), z_M_nextToken_158]
          exact two (q2 + 5) 5 heg (if_neg z3).symm
      · rw [if_neg (fun y => z2 ((nI_eq (by omega) (by omega)).mp y))]
        rw [if_neg (fun y => z2 y.2.1)] at heg
        exact one (q2 + 7) heg
    · rw [if_neg z, if_neg (by decide)]
      rw [if_neg (fun y => z y.1)] at heg
      exact one (q2 + 7) heg
  by_cases z1 : b s = 60
  · rw [if_pos (by rw [z1])]
    exact t146 (Or.inl z1)
  · rw [if_neg (fun y => z1 ((nI_eq (by omega) (by omega)).mp y))]
    by_cases z2 : b s = 62
    · rw [if_pos (by rw [z2])]
      exact t146 (Or.inr z2)
    · rw [if_neg (fun y => z2 ((nI_eq (by omega) (by omega)).mp y))]
      rw [if_neg (fun y => by rcases y.2.2 with y | y; exact z1 y; exact z2 y)] at heg
      exact one (q2 + 8) heg
theorem r_next {D n e : Nat} {b : Nat → Nat} {u : sm_M} (hD : 2 ≤ D) (hu : Ly u) (hB : RB u b n) (he : e ≤ n) (hg : e < n → gon b e = false) (ea : sm_I u 275 7 = nI e) : Rn (sm_call D 225 [.ref 275] u) (fun v => Ly v ∧ FrP Pn u v ∧ Tk v b n (fst1 b n e)) := by
  obtain ⟨D, rfl⟩ : ∃ k, D = k + 2 := ⟨D - 2, by omega⟩
  have hn := hB.1
  obtain ⟨q, w, g1, g2, g3, g4⟩ := l_skip (D := D) (b := b) (n - e) e 3000000 u hu hB (by omega) ea hg (by omega)
  obtain ⟨q, rfl⟩ : ∃ k, q = k + 1500 := ⟨q - 1500, by omega⟩
  have hw := g3.ly hu
  have hBw := hB.fr g3 (by omega) (fun i => by omega)
  rw [k_M_nextToken, g2]
  clear g1 g2
  have hs0 := nf_sp (sta b) (n - e) e
  have hpos : Pos b n (fst1 b n e) := by
    unfold fst1
    by_cases z : nf (sta b) (n - e) e = n
    · exact Or.inl z
    · exact Or.inr ⟨by omega, hs0.2.2.1 (by omega)⟩
  have hsn : fst1 b n e ≤ n := hpos.le
  have g4 : sm_I w 275 7 = nI (fst1 b n e) := g4
  clear hs0
  generalize fst1 b n e = s at *
  have L1 : Ly (sm_wI w 275 8 (nI s)) := hw.wI
  have F1 : FrP Pn u (sm_wI w 275 8 (nI s)) := g3.wI ⟨rfl, by omega⟩
  have B1 := hB.fr F1 (by omega) (fun i => by omega)
  have a7 : sm_I (sm_wI w 275 8 (nI s)) 275 7 = nI s := by rw [wI_nk (by decide)]; exact g4
  have a8 : sm_I (sm_wI w 275 8 (nI s)) 275 8 = nI s := wI_at
  rw [z_M_nextToken_20]
  simp -implicitDefEqProofs only [eq_true (yt_275 hw), ↓reduceIte, lt_s1, g4]
  generalize sm_wI w 275 8 (nI s) = w1 at *
  simp -implicitDefEqProofs only [eq_true (yt_275 L1), ↓reduceIte, a7, r_byteAt L1 B1 hsn]
  by_cases hlt : s < n
  · have l1 := (B1.2.2 s hlt).2
    have ebI : bI b n s = nI (b s) := if_pos hlt
    rw [ebI, if_pos (show 0 ≤ nI (b s) from nI_pos' (by omega))]
    cases hdg : isD (b s) with
    | true => exact rn_num (m := q + 499) hu hB hlt hpos L1 F1 a7 a8 hdg
    | false =>
      rw [z_M_nextToken_35, ← ebI, s_isFB D w1 (fun _ => l1), if_neg (show ¬ (s < n ∧ isD (b s) = true) from fun z => by rw [hdg] at z; cases z.2), if_pos (show (0 : Int32) = 0 from rfl), ebI]
      cases hlg : isL (b s) with
      | true => exact rn_wrd (m := q + 498) hu hB hlt hpos L1 F1 a7 a8 hdg hlg
      | false => exact rn_sgn (m := q + 498) hu hB hlt hpos L1 F1 a7 a8 hdg hlg
  · have e : s = n := by omega
    have ebI : bI b n s = Int32.ofInt (-1) := if_neg hlt
    rw [ebI, if_neg (show ¬ 0 ≤ Int32.ofInt (-1) by decide)]
    rw [z_M_nextToken_168]
    refine Rn.ret ⟨L1.wI, F1.wI ⟨rfl, by omega⟩, hpos, by rw [wI_nk (by decide), if_neg hlt, ← e]; exact a7, by rw [wI_nk (by decide)]; exact a8, ?_, fun z => absurd z hlt, fun z => absurd z hlt⟩
    rw [wI_at]
    unfold tkc
    rw [if_pos (by omega)]
