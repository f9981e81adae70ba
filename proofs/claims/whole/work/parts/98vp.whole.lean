/-! texts: the reference reads a whole law (by wip/whole/mk_98vp.py) -/
theorem z_M_whole_30 (C : Nat → List Value → sm_M → sm_R) (n : Nat) (u : sm_M) (a0 : Nat) (v1 : Int32) : sm_run C c_M_whole (n + 1) 30 [some (.ref a0), some (.int v1)] [] u = if sm_tg u a0 = 112 then (sm_ri (C 236 [.ref a0] u) (fun x2 u1 => if 0 ≤ x2 then (sm_run C c_M_whole n 37 [some (.ref a0), some (.int v1)] [] u1) else (if sm_tg u1 a0 = 112 then (sm_ri (C 237 [.ref a0] u1) (fun x4 u3 => if x4 = 0 then (sm_run C c_M_whole n 37 [some (.ref a0), some (.int v1)] [] u3) else (sm_run C c_M_whole n 39 [some (.ref a0), some (.int v1)] [] u3))) else none))) else none := q_M_whole_30 C n u a0 v1
theorem z_M_whole_39 (C : Nat → List Value → sm_M → sm_R) (n : Nat) (u : sm_M) (a0 : Nat) (v1 : Int32) : sm_run C c_M_whole (n + 1) 39 [some (.ref a0), some (.int v1)] [] u = if sm_tg u a0 = 112 then (sm_rv (C 235 [.ref a0, .int (nI 1)] u) (fun u1 => some (some (.int (nI 0)), u1))) else none := q_M_whole_39 C n u a0 v1
theorem z_M_whole_37 (C : Nat → List Value → sm_M → sm_R) (n : Nat) (u : sm_M) (a0 : Nat) (v1 : Int32) : sm_run C c_M_whole (n + 1) 37 [some (.ref a0), some (.int v1)] [] u = some (some (.int (nI 1)), u) := q_M_whole_37 C n u a0 v1
theorem z_M_whole_22 (C : Nat → List Value → sm_M → sm_R) (n : Nat) (u : sm_M) (a0 : Nat) (o1 : Option Value) (s0 : Int32) : sm_run C c_M_whole (n + 1) 22 [some (.ref a0), o1] [.int s0] u = if s0 ≤ 0 then (sm_run C c_M_whole n 27 [some (.ref a0), some (.int s0)] [] u) else (some (some (.int s0), u)) := q_M_whole_22 C n u a0 o1 s0
theorem z_M_whole_27 (C : Nat → List Value → sm_M → sm_R) (n : Nat) (u : sm_M) (a0 : Nat) (v1 : Int32) : sm_run C c_M_whole (n + 1) 27 [some (.ref a0), some (.int v1)] [] u = if v1 = 0 then (sm_run C c_M_whole n 13 [some (.ref a0), some (.int v1)] [] u) else (sm_run C c_M_whole n 30 [some (.ref a0), some (.int v1)] [] u) := q_M_whole_27 C n u a0 v1
theorem z_M_whole_13 (C : Nat → List Value → sm_M → sm_R) (n : Nat) (u : sm_M) (a0 : Nat) (o1 : Option Value) : sm_run C c_M_whole (n + 1) 13 [some (.ref a0), o1] [] u = if sm_tg u a0 = 112 then (if (sm_I u a0 20) = 0 then (sm_run C c_M_whole n 19 [some (.ref a0), o1] [] u) else (if sm_tg u a0 = 112 then (sm_ri (C 246 [.ref a0] u) (fun x2 u1 => sm_run C c_M_whole n 22 [some (.ref a0), o1] [.int x2] u1)) else none)) else none := q_M_whole_13 C n u a0 o1
theorem z_M_whole_19 (C : Nat → List Value → sm_M → sm_R) (n : Nat) (u : sm_M) (a0 : Nat) (o1 : Option Value) : sm_run C c_M_whole (n + 1) 19 [some (.ref a0), o1] [] u = if sm_tg u a0 = 112 then (sm_ri (C 242 [.ref a0] u) (fun x2 u1 => sm_run C c_M_whole n 22 [some (.ref a0), o1] [.int x2] u1)) else none := q_M_whole_19 C n u a0 o1
theorem z_M_whole_0 (C : Nat → List Value → sm_M → sm_R) (n : Nat) (u : sm_M) (a0 : Nat) : sm_run C c_M_whole (n + 1) 0 [some (.ref a0), none] [] u = if sm_tg u a0 = 112 then (sm_lt (sm_wI u a0 17 (nI 0)) (fun u1 => if sm_tg u1 a0 = 112 then (sm_lt (sm_wI u1 a0 18 (nI 0)) (fun u2 => if sm_tg u2 a0 = 112 then (sm_lt (sm_wI u2 a0 19 (nI 0)) (fun u3 => if sm_tg u3 a0 = 112 ∧ ((nI 0) = 0 ∨ (nI 0) = 1) then (sm_lt (sm_wI u3 a0 20 (nI 0)) (fun u4 => sm_run C c_M_whole n 13 [some (.ref a0), none] [] u4)) else none)) else none)) else none)) else none := q_M_whole_0 C n u a0
def stq (b : Nat → Nat) (n ev : Nat) (τ : S5) : Nat × S5 := if τ.2.2.2.2 = true then behF b n τ else begF b n ev τ
def ndF (τ : S5) : Nat × S5 := if ¬ opw τ.2.2.1 = 0 ∨ ¬ icm τ.2.2.1 = true then (1, τ) else (0, (τ.1, (stl 1 τ.2.2.1 τ.2.1).2, (stl 1 τ.2.2.1 τ.2.1).1, τ.2.2.2))
def whR (b : Nat → Nat) (n ev : Nat) : Nat → S5 → Nat × S5
  | 0, τ => (1, τ)
  | k + 1, τ => if (stq b n ev τ).1 = 0 then whR b n ev k (stq b n ev τ).2 else if (stq b n ev τ).1 = 9 then ndF (stq b n ev τ).2 else stq b n ev τ
def M0 (u0 : sm_M) (b : Nat → Nat) (n t : Nat) (u : sm_M) (s : Nat) (c : List (Nat × Nat)) : Prop :=
  (Ly u ∧ RB u b n) ∧ FrP (Pm t) u0 u ∧ Tk u b n s ∧
  (sm_I u 275 13 = nI c.length ∧ c.length ≤ 300 ∧ ∀ i, i < c.length → sm_I u 278 (705 * t + 97 + 2 * i) = nI (c.getD i (0, 0)).1 ∧ sm_I u 278 (705 * t + 98 + 2 * i) = nI (c.getD i (0, 0)).2)
section
variable {u0 : sm_M} {b : Nat → Nat} {n t ev : Nat}
theorem MS.m0 {u : sm_M} {τ : Sr} (h : MS u0 b n t u τ) : M0 u0 b n t u τ.1 τ.2.1 := ⟨h.1, h.2.1, h.2.2.1, h.2.2.2.1⟩
theorem m_wend (H : Mx u0 b n t ev) {D m : Nat} (hD : 4 ≤ D) {τ : S5} {u : sm_M} {x : Int32} (h : M5 u0 b n t u τ) (hp : pre5 τ) : Ri (sm_run (sm_call D) c_M_whole (m + 2) 30 [some (.ref 275), some (.int x)] [] u) (fun x v => x = nI (ndF τ).1 ∧ M5 u0 b n t v (ndF τ).2) := by
  obtain ⟨D, rfl⟩ : ∃ k, D = k + 4 := ⟨D - 4, by omega⟩
  obtain ⟨s, c, P, N, w⟩ := τ
  have h : MS u0 b n t u (s, c, P, nop P, N, w) := h
  obtain ⟨hP, hl, hc, hN, h41⟩ := hp
  have hP : opl P := hP
  have hc : c.length + P.length < 300 := hc
  have how := opw_v P hP
  rw [z_M_whole_30]
  simp -implicitDefEqProofs only [h.tg, m_openNow (D := D + 3) h, m_isCmp (D := D + 2) h hP, ↓reduceIte]
  show Ri (if 0 ≤ opI P then _ else if (if icm P = true then (1 : Int32) else 0) = 0 then _ else _) _
  by_cases q : opw P = 0
  · have eo : opI P = Int32.ofInt (-1) := if_pos q
    rw [eo, if_neg (show ¬ (0 : Int32) ≤ Int32.ofInt (-1) by decide)]
    by_cases qi : icm P = true
    · have e : ndF (s, c, P, N, w) = (0, (s, (stl 1 P c).2, (stl 1 P c).1, N, w)) := if_neg (fun z => z.elim (fun y => y q) (fun y => y qi))
      rw [if_pos qi, if_neg (show ¬ (1 : Int32) = 0 by decide), e, z_M_whole_39]
      simp -implicitDefEqProofs only [h.tg, ↓reduceIte]
      refine Ri.rv (m_settle H (r := 1) (by omega) (by omega) (by omega) hP (by omega) h) (fun v hv => ?_)
      exact Ri.ret ⟨rfl, hv⟩
    · have e : ndF (s, c, P, N, w) = (1, (s, c, P, N, w)) := if_pos (Or.inr qi)
      rw [if_neg qi, if_pos (show (0 : Int32) = 0 from rfl), e, z_M_whole_37]
      exact Ri.ret ⟨rfl, h⟩
  · have eo : opI P = nI (opw P) := if_neg q
    have e : ndF (s, c, P, N, w) = (1, (s, c, P, N, w)) := if_pos (Or.inl q)
    rw [eo, if_pos (show (0 : Int32) ≤ nI (opw P) by rcases how with z | z | z <;> rw [z] <;> decide), e, z_M_whole_37]
    exact Ri.ret ⟨rfl, h⟩
theorem l_whl (H : Mx u0 b n t ev) {D : Nat} (hD : 8 ≤ D) (hB : ∀ i, b i < 256) {I : S5 → Prop} (hI : ∀ τ, I τ → pre5 τ ∧ τ.1 ≤ n) (hS : ∀ τ, I τ → (stq b n ev τ).1 ≤ 9 ∧ ((stq b n ev τ).1 = 0 ∨ (stq b n ev τ).1 = 9 → I (stq b n ev τ).2) ∧ ((stq b n ev τ).1 = 0 → τ.1 < (stq b n ev τ).2.1)) : ∀ (k : Nat) (τ : S5) (u : sm_M) (m : Nat) (o1 : Option Value), I τ → M5 u0 b n t u τ → n < τ.1 + k → 4 * k + 6 ≤ m → Ri (sm_run (sm_call D) c_M_whole m 13 [some (.ref 275), o1] [] u) (fun x v => x = nI (whR b n ev k τ).1 ∧ M5 u0 b n t v (whR b n ev k τ).2) := by
  intro k
  induction k with
  | zero =>
    intro τ u m o1 hτ h hn hm
    have := (hI τ hτ).2
    omega
  | succ k ih =>
    intro τ u m o1 hτ h hn hm
    have hp := (hI τ hτ).1
    obtain ⟨s9, s0, sn⟩ := hS τ hτ
    have f22 : ∀ (x : Int32) (v : sm_M) (j : Nat), x = ffI (stq b n ev τ).1 ∧ M5 u0 b n t v (stq b n ev τ).2 → 4 * k + 8 ≤ j → Ri (sm_run (sm_call D) c_M_whole j 22 [some (.ref 275), o1] [.int x] v) (fun x v => x = nI (whR b n ev (k + 1) τ).1 ∧ M5 u0 b n t v (whR b n ev (k + 1) τ).2) := by
      intro x v j hx hj
      obtain ⟨hx, hv⟩ := hx
      obtain ⟨j, rfl⟩ : ∃ i, j = i + 4 := ⟨j - 4, by omega⟩
      rw [z_M_whole_22]
      by_cases q0 : (stq b n ev τ).1 = 0
      · have e : whR b n ev (k + 1) τ = whR b n ev k (stq b n ev τ).2 := if_pos q0
        have ex : x = 0 := by
          rw [hx, q0]
          rfl
        rw [e, ex, if_pos (show (0 : Int32) ≤ 0 by decide), z_M_whole_27, if_pos (show (0 : Int32) = 0 from rfl)]
        have := sn q0
        exact ih _ v _ _ (s0 (Or.inl q0)) hv (by omega) (by omega)
      · by_cases q9 : (stq b n ev τ).1 = 9
        · have e : whR b n ev (k + 1) τ = ndF (stq b n ev τ).2 := by
            show (if _ then _ else _) = _
            rw [if_neg q0, if_pos q9]
          have ex : x = Int32.ofInt (-1) := by
            rw [hx, q9]
            rfl
          rw [e, ex, if_pos (show Int32.ofInt (-1) ≤ 0 by decide), z_M_whole_27, if_neg (show ¬ Int32.ofInt (-1) = 0 by decide)]
          exact m_wend H (by omega) hv (hI _ (s0 (Or.inr q9))).1
        · have e : whR b n ev (k + 1) τ = stq b n ev τ := by
            show (if _ then _ else _) = _
            rw [if_neg q0, if_neg q9]
          have ex : x = nI (stq b n ev τ).1 := by
            rw [hx]
            exact if_neg q9
          have h0 : ¬ nI (stq b n ev τ).1 ≤ 0 := by
            generalize (stq b n ev τ).1 = f at *
            have : f = 1 ∨ f = 2 ∨ f = 3 ∨ f = 4 ∨ f = 5 ∨ f = 6 ∨ f = 7 ∨ f = 8 := by omega
            rcases this with z | z | z | z | z | z | z | z <;> rw [z] <;> decide
          rw [e, ex, if_neg h0]
          exact Ri.ret ⟨rfl, hv⟩
    obtain ⟨m, rfl⟩ : ∃ i, m = i + 2 := ⟨m - 2, by omega⟩
    have e20 : sm_I u 275 20 = (if τ.2.2.2.2 = true then 1 else 0) := h.2.2.2.2.2.2.2
    rw [z_M_whole_13]
    simp -implicitDefEqProofs only [MS.tg h, e20, ↓reduceIte]
    by_cases q : τ.2.2.2.2 = true
    · have es : stq b n ev τ = behF b n τ := if_pos q
      rw [es] at f22
      rw [if_neg (show ¬ (if τ.2.2.2.2 = true then (1 : Int32) else 0) = 0 by rw [if_pos q]; decide)]
      refine Ri.ri (m_behind H hD h hp) (fun x v hx => ?_)
      exact f22 x v _ hx (by omega)
    · have es : stq b n ev τ = begF b n ev τ := if_neg q
      rw [es] at f22
      rw [if_pos (show (if τ.2.2.2.2 = true then (1 : Int32) else 0) = 0 by rw [if_neg q]), z_M_whole_19]
      simp -implicitDefEqProofs only [MS.tg h, ↓reduceIte]
      refine Ri.ri (m_begin H hD h hB hp.1 hp.2.1 hp.2.2.1 hp.2.2.2.1) (fun x v hx => ?_)
      exact f22 x v _ hx (by omega)
theorem M0.ms {u : sm_M} {s : Nat} {c : List (Nat × Nat)} (h : M0 u0 b n t u s c) : MS u0 b n t (sm_wI (sm_wI (sm_wI (sm_wI u 275 17 (nI 0)) 275 18 (nI 0)) 275 19 (nI 0)) 275 20 (nI 0)) (s, c, [], 0, [], false) := by
  obtain ⟨⟨hu, hB⟩, hf, hT, hc⟩ := h
  have F1 : FrP (fun a j => a = 275 ∧ 17 ≤ j ∧ j ≤ 20) u (sm_wI (sm_wI (sm_wI (sm_wI u 275 17 (nI 0)) 275 18 (nI 0)) 275 19 (nI 0)) 275 20 (nI 0)) := (((FrP.rf.wI ⟨rfl, by omega, by omega⟩).wI ⟨rfl, by omega, by omega⟩).wI ⟨rfl, by omega, by omega⟩).wI ⟨rfl, by omega, by omega⟩
  have R : ∀ a j, (a ≠ 275 ∨ j < 17) → sm_I (sm_wI (sm_wI (sm_wI (sm_wI u 275 17 (nI 0)) 275 18 (nI 0)) 275 19 (nI 0)) 275 20 (nI 0)) a j = sm_I u a j := fun a j h1 => F1.2.2 a j (by omega)
  refine ⟨⟨hu.wI.wI.wI.wI, hB.fr F1 (by omega) (fun i => by omega)⟩, (((hf.wI (by omega)).wI (by omega)).wI (by omega)).wI (by omega), ?_, ?_, ?_, ?_, ?_, ?_⟩
  · exact ⟨hT.1, by rw [R _ _ (by omega)]; exact hT.2.1, by rw [R _ _ (by omega)]; exact hT.2.2.1, by rw [R _ _ (by omega)]; exact hT.2.2.2.1, fun z1 z2 => by rw [R _ _ (by omega)]; exact hT.2.2.2.2.1 z1 z2, fun z1 z2 => by rw [wI_L, wI_L, wI_L, wI_L]; exact hT.2.2.2.2.2 z1 z2⟩
  · exact ⟨by rw [R _ _ (by omega)]; exact hc.1, hc.2.1, fun i hi => by rw [R _ _ (by omega), R _ _ (by omega)]; exact hc.2.2 i hi⟩
  · exact ⟨by rw [wI_nk (by decide), wI_nk (by decide), wI_nk (by decide), wI_at]; rfl, Nat.zero_le _, trivial⟩
  · exact ⟨by rw [wI_nk (by decide), wI_nk (by decide), wI_at], Nat.zero_le _⟩
  · exact ⟨by rw [wI_nk (by decide), wI_at]; rfl, Nat.zero_le _, trivial⟩
  · rw [wI_at]
    rfl
theorem m_whl (H : Mx u0 b n t ev) {D : Nat} (hD : 9 ≤ D) (hB : ∀ i, b i < 256) {I : S5 → Prop} (hI : ∀ τ, I τ → pre5 τ ∧ τ.1 ≤ n) (hS : ∀ τ, I τ → (stq b n ev τ).1 ≤ 9 ∧ ((stq b n ev τ).1 = 0 ∨ (stq b n ev τ).1 = 9 → I (stq b n ev τ).2) ∧ ((stq b n ev τ).1 = 0 → τ.1 < (stq b n ev τ).2.1)) {s : Nat} {c : List (Nat × Nat)} {u : sm_M} (h : M0 u0 b n t u s c) (h0 : I (s, c, [], [], false)) : Ri (sm_call D 247 [.ref 275] u) (fun x v => x = nI (whR b n ev 301 (s, c, [], [], false)).1 ∧ M5 u0 b n t v (whR b n ev 301 (s, c, [], [], false)).2) := by
  obtain ⟨D, rfl⟩ : ∃ k, D = k + 9 := ⟨D - 9, by omega⟩
  have hn : n ≤ 300 := H.1
  have L0 := h.1.1
  rw [k_M_whole, z_M_whole_0]
  have h1 := h.ms
  have t1 : (sm_tg (sm_wI u 275 17 (nI 0)) 275 = 112) = True := eq_true (yt_275 L0.wI)
  have t2 : (sm_tg (sm_wI (sm_wI u 275 17 (nI 0)) 275 18 (nI 0)) 275 = 112) = True := eq_true (yt_275 L0.wI.wI)
  have t3 : sm_tg (sm_wI (sm_wI (sm_wI u 275 17 (nI 0)) 275 18 (nI 0)) 275 19 (nI 0)) 275 = 112 := yt_275 L0.wI.wI.wI
  simp -implicitDefEqProofs only [eq_true (yt_275 L0), t1, t2, ↓reduceIte, lt_s1]
  rw [if_pos (show sm_tg (sm_wI (sm_wI (sm_wI u 275 17 (nI 0)) 275 18 (nI 0)) 275 19 (nI 0)) 275 = 112 ∧ (nI 0 = 0 ∨ nI 0 = 1) from ⟨t3, Or.inl rfl⟩)]
  generalize sm_wI (sm_wI (sm_wI (sm_wI u 275 17 (nI 0)) 275 18 (nI 0)) 275 19 (nI 0)) 275 20 (nI 0) = w1 at *
  exact l_whl H (by omega) hB hI hS 301 (s, c, [], [], false) w1 _ none h0 h1 (by show n < s + 301; omega) (by omega)
end
