/-! texts: the reference reads clauses (by hand) -/
theorem z_M_figure_0 (C : Nat → List Value → sm_M → sm_R) (n : Nat) (u : sm_M) (a0 : Nat) (v1 v2 v3 : Int32) : sm_run C c_M_figure (n + 1) 0 [some (.ref a0), some (.int v1), some (.int v2), some (.int v3)] [] u = if sm_tg u a0 = 112 then (if (sm_I u a0 9) = (nI 1) then (sm_run C c_M_figure n 6 [some (.ref a0), some (.int v1), some (.int v2), some (.int v3)] [] u) else (some (some (.int (nI 1)), u))) else none := q_M_figure_0 C n u a0 v1 v2 v3
theorem z_M_figure_6 (C : Nat → List Value → sm_M → sm_R) (n : Nat) (u : sm_M) (a0 : Nat) (v1 v2 v3 : Int32) : sm_run C c_M_figure (n + 1) 6 [some (.ref a0), some (.int v1), some (.int v2), some (.int v3)] [] u = if sm_tg u a0 = 112 then (sm_ri (C 201 [.int (sm_I u a0 10), .int v2, .int v3] u) (fun x2 u1 => if x2 = 0 then (some (some (.int (nI 2)), u1)) else (sm_run C c_M_figure n 14 [some (.ref a0), some (.int v1), some (.int v2), some (.int v3)] [] u1))) else none := q_M_figure_6 C n u a0 v1 v2 v3
theorem z_M_figure_14 (C : Nat → List Value → sm_M → sm_R) (n : Nat) (u : sm_M) (a0 : Nat) (v1 v2 v3 : Int32) : sm_run C c_M_figure (n + 1) 14 [some (.ref a0), some (.int v1), some (.int v2), some (.int v3)] [] u = if sm_tg u a0 = 112 then sm_rr (sm_Rf u a0 2) (fun q1 => if sm_tg u a0 = 112 then (if sm_in u 1 q1 v1 then (sm_lt (sm_wI u q1 v1.toNatClampNeg (sm_I u a0 10)) (fun u2 => if sm_tg u2 a0 = 112 then (sm_rv (C 225 [.ref a0] u2) (fun u3 => some (some (.int (nI 0)), u3))) else none)) else none) else none) else none := q_M_figure_14 C n u a0 v1 v2 v3
theorem z_M_pair_0 (C : Nat → List Value → sm_M → sm_R) (n : Nat) (u : sm_M) (a0 : Nat) (v1 v2 v5 v6 : Int32) (l3 : Int64) : sm_run C c_M_pair (n + 1) 0 [some (.ref a0), some (.int v1), some (.int v2), some (.long l3), none, some (.int v5), some (.int v6), none] [] u = if sm_tg u a0 = 112 then (sm_ri (C 248 [.ref a0, .int (v1 + (nI 1)), .int (nI 0), .int v2] u) (fun x2 u1 => if x2 = 0 then (sm_run C c_M_pair n 12 [some (.ref a0), some (.int v1), some (.int v2), some (.long l3), none, some (.int v5), some (.int v6), some (.int x2)] [] u1) else (some (some (.int x2), u1)))) else none := q_M_pair_0 C n u a0 v1 v2 v5 v6 l3
theorem z_M_pair_12 (C : Nat → List Value → sm_M → sm_R) (n : Nat) (u : sm_M) (a0 : Nat) (v1 v2 v5 v6 v7 : Int32) (l3 : Int64) : sm_run C c_M_pair (n + 1) 12 [some (.ref a0), some (.int v1), some (.int v2), some (.long l3), none, some (.int v5), some (.int v6), some (.int v7)] [] u = if sm_tg u a0 = 112 then (sm_ri (C 231 [.ref a0, .long l3] u) (fun x2 u1 => if x2 = 0 then (some (some (.int (nI 1)), u1)) else (sm_run C c_M_pair n 18 [some (.ref a0), some (.int v1), some (.int v2), some (.long l3), none, some (.int v5), some (.int v6), some (.int v7)] [] u1))) else none := q_M_pair_12 C n u a0 v1 v2 v5 v6 v7 l3
theorem z_M_pair_18 (C : Nat → List Value → sm_M → sm_R) (n : Nat) (u : sm_M) (a0 : Nat) (v1 v2 v5 v6 v7 : Int32) (l3 : Int64) : sm_run C c_M_pair (n + 1) 18 [some (.ref a0), some (.int v1), some (.int v2), some (.long l3), none, some (.int v5), some (.int v6), some (.int v7)] [] u = if sm_tg u a0 = 112 then (sm_rv (C 225 [.ref a0] u) (fun u1 => if sm_tg u1 a0 = 112 then (sm_ri (C 248 [.ref a0, .int (v1 + (nI 2)), .int v5, .int v6] u1) (fun x3 u2 => some (some (.int x3), u2))) else none)) else none := q_M_pair_18 C n u a0 v1 v2 v5 v6 v7 l3
abbrev Prq (t a k : Nat) : Prop := a = 275 ∧ (7 ≤ k ∧ k ≤ 10 ∨ 12 ≤ k ∧ k ≤ 14 ∨ 17 ≤ k ∧ k ≤ 21) ∨ a = 278 ∧ 705 * t ≤ k ∧ k < 705 * t + 705 ∨ a = 280 ∨ a = 281
def srt (k : Nat) : Nat := if k = 201 then 0 else if k = 200 then 1 else if k = 202 then 2 else if k = 204 then 3 else if k = 206 then 4 else if k = 207 then 5 else if k = 209 then 6 else 7
def Rcl (u : sm_M) (t : Nat) (cl : Cls) : Prop := cl.length ≤ 24 ∧ ∀ i, i < cl.length → sm_I u 278 (705 * t + 1 + 4 * i) = nI (srt (cl.getD i (0, 0, 0)).1) ∧ sm_I u 278 (705 * t + 2 + 4 * i) = nI (cl.getD i (0, 0, 0)).2.1 ∧ ((cl.getD i (0, 0, 0)).1 ≠ 206 → (cl.getD i (0, 0, 0)).1 ≠ 211 → sm_I u 278 (705 * t + 3 + 4 * i) = nI (cl.getD i (0, 0, 0)).2.2)
def Rtm (u : sm_M) (t : Nat) (c : List (Nat × Nat)) : Prop := sm_I u 275 13 = nI c.length ∧ c.length ≤ 300 ∧ ∀ i, i < c.length → sm_I u 278 (705 * t + 97 + 2 * i) = nI (c.getD i (0, 0)).1 ∧ sm_I u 278 (705 * t + 98 + 2 * i) = nI (c.getD i (0, 0)).2
def RS (u0 : sm_M) (b : Nat → Nat) (n t : Nat) (cl : Cls) (lim : Bool) (u : sm_M) (s : Nat) (c : List (Nat × Nat)) : Prop :=
  (Ly u ∧ RB u b n) ∧ FrP (Prq t) u0 u ∧ Tk u b n s ∧ Rtm u t c ∧ (sm_I u 275 12 = nI (705 * t) ∧ sm_I u 275 14 = nI (evc cl) ∧ sm_I u 275 21 = (if lim = true then 1 else 0)) ∧ (sm_I u 278 (705 * t) = nI cl.length ∧ Rcl u t cl)
/-- what a piece of the reading comes to -/
def RP (u0 : sm_M) (b : Nat → Nat) (n t : Nat) (cl : Cls) (lim : Bool) (pl : Int32) (σ : Rst) (x : Int32) (v : sm_M) : Prop :=
  x = nI σ.2.1 ∧ σ.2.1 ≤ 9 ∧ (Ly v ∧ FrP (Prq t) u0 v) ∧ (σ.2.1 = 0 → σ.2.2.1 = pl ∧ RS u0 b n t cl lim v σ.1 σ.2.2.2) ∧ (σ.2.1 ≠ 0 → σ.2.2.1 = sm_I v 275 8)
section
variable {u0 : sm_M} {b : Nat → Nat} {n t : Nat} {cl : Cls} {lim : Bool}
theorem RS.ly {u : sm_M} {s : Nat} {c : List (Nat × Nat)} (h : RS u0 b n t cl lim u s c) : Ly u := h.1.1
theorem RS.tg {u : sm_M} {s : Nat} {c : List (Nat × Nat)} (h : RS u0 b n t cl lim u s c) : (sm_tg u 275 = 112) = True := eq_true (yt_275 h.1.1)
theorem RS.wc {u : sm_M} {s : Nat} {c : List (Nat × Nat)} (h : RS u0 b n t cl lim u s c) {z : Nat} {x : Int32} (h1 : 705 * t + 1 + 4 * cl.length ≤ z) (h2 : z < 705 * t + 97) : RS u0 b n t cl lim (sm_wI u 278 z x) s c := by
  obtain ⟨⟨hu, hR⟩, hf, hT, hc, hm, hk, hl⟩ := h
  have F1 : FrP (fun a j => a = 278 ∧ j = z) u (sm_wI u 278 z x) := FrP.rf.wI ⟨rfl, rfl⟩
  refine ⟨⟨hu.wI, hR.fr F1 (by omega) (fun i => by omega)⟩, hf.wI (by omega), ?_, ?_, ?_, ?_, ?_⟩
  · exact ⟨hT.1, by rw [wI_na (by omega)]; exact hT.2.1, by rw [wI_na (by omega)]; exact hT.2.2.1, by rw [wI_na (by omega)]; exact hT.2.2.2.1, fun z1 z2 => by rw [wI_na (by omega)]; exact hT.2.2.2.2.1 z1 z2, fun z1 z2 => by rw [wI_L]; exact hT.2.2.2.2.2 z1 z2⟩
  · exact ⟨by rw [wI_na (by omega)]; exact hc.1, hc.2.1, fun i hi => by rw [wI_nk (by omega), wI_nk (by omega)]; exact hc.2.2 i hi⟩
  · exact ⟨by rw [wI_na (by omega)]; exact hm.1, by rw [wI_na (by omega)]; exact hm.2.1, by rw [wI_na (by omega)]; exact hm.2.2⟩
  · rw [wI_nk (by omega)]
    exact hk
  · exact ⟨hl.1, fun i hi => by rw [wI_nk (by omega), wI_nk (by omega), wI_nk (by omega)]; exact hl.2 i hi⟩
theorem r_nx {D : Nat} (hD : 2 ≤ D) {u : sm_M} {s : Nat} {c : List (Nat × Nat)} (h : RS u0 b n t cl lim u s c) : Rn (sm_call D 225 [.ref 275] u) (fun v => RS u0 b n t cl lim v (nx1 b n s) c ∧ ∀ k, sm_I v 278 k = sm_I u 278 k) := by
  obtain ⟨⟨hu, hB⟩, hf, hT, hc, hm, hk, hl⟩ := h
  have hps := hT.1
  have hsn := hps.le
  have he : (if s < n then enp b n s else n) ≤ n := by
    split
    · rename_i z
      exact (enp_b (b := b) z).2.1
    · exact Nat.le_refl n
  have hg : (if s < n then enp b n s else n) < n → gon b (if s < n then enp b n s else n) = false := by
    by_cases z : s < n
    · rw [if_pos z]
      intro q
      have := (nf_sp (fun j => !gon b j) (n - (s + 1)) (s + 1)).2.2.1 (by unfold enp at q; omega)
      unfold enp
      simpa using this
    · rw [if_neg z]
      intro q
      exact absurd q (Nat.lt_irrefl n)
  refine (r_next hD hu hB he hg hT.2.1).mono (fun v hv => ?_)
  obtain ⟨hv1, f1, t1⟩ := hv
  have R : ∀ a j, (a ≠ 275 ∨ j < 7 ∨ 10 < j) → sm_I v a j = sm_I u a j := fun a j h2 => f1.2.2 a j (by omega)
  have es : fst1 b n (if s < n then enp b n s else n) = nx1 b n s := by
    unfold nx1
    by_cases z : s < n
    · rw [if_pos z, if_pos z]
      exact fst_e z
    · rw [if_neg z, if_neg z, fst_n]
      omega
  rw [es] at t1
  refine ⟨⟨⟨hv1, hB.fr f1 (by omega) (fun i => by omega)⟩, hf.tr (f1.mono (fun a k q => by omega)), t1, ?_, ?_, ?_, ?_⟩, fun k => R _ _ (by omega)⟩
  · exact ⟨by rw [R _ _ (by omega)]; exact hc.1, hc.2.1, fun i hi => by rw [R _ _ (by omega), R _ _ (by omega)]; exact hc.2.2 i hi⟩
  · exact ⟨by rw [R _ _ (by omega)]; exact hm.1, by rw [R _ _ (by omega)]; exact hm.2.1, by rw [R _ _ (by omega)]; exact hm.2.2⟩
  · rw [R _ _ (by omega)]
    exact hk
  · exact ⟨hl.1, fun i hi => by rw [R _ _ (by omega), R _ _ (by omega), R _ _ (by omega)]; exact hl.2 i hi⟩
theorem w_isW {D w : Nat} (hw : w < 22) {u : sm_M} {s : Nat} (hu : Ly u) (hT : Tk u b n s) (f : Int32 → sm_M → sm_R) : sm_ri (sm_call (D + 1) 231 [.ref 275, .long (lN (pk (sm_tx w)))] u) f = f (if kdp b n s = 200 + w then 1 else 0) u := by
  have e9 := hT.2.2.2.1
  have htk := tk_kd (b := b) (n := n) (s := s)
  have hpw := pkw_lt 6 (sm_tx w) (tx_len w hw).2 (tx_lt w hw)
  have e2 : sm_call (D + 1) 231 [.ref 275, .long (lN (pk (sm_tx w)))] u = some (some (.int (if kdp b n s = 200 + w then 1 else 0)), u) := by
    rw [k_M_isWord, z_M_isWord_0]
    simp -implicitDefEqProofs only [eq_true (yt_275 hu), e9, ↓reduceIte]
    by_cases q : s < n ∧ isL (b s) = true
    · have e11 := hT.2.2.2.2.2 q.1 q.2
      have hvl := wvv_lt q.1 q.2
      rw [if_pos (show nI (tkc b n s) = nI 2 by rw [htk.2.2.2.2.2.2.mpr q])]
      simp -implicitDefEqProofs only [e11, wl_eq hvl (show pk (sm_tx w) < 2 ^ 61 by omega)]
      have hq := wvv_eq (w := w) q.1 q.2 hw
      by_cases q2 : wvv b n s = pk (sm_tx w)
      · rw [if_pos q2, z_M_isWord_13, if_pos (show nI 1 = 0 ∨ nI 1 = 1 from Or.inr rfl), if_pos ((kd_w hw).mpr ⟨q.1, q.2, hq.mp q2⟩)]
        rfl
      · rw [if_neg q2, z_M_isWord_11, z_M_isWord_13, if_pos (show nI 0 = 0 ∨ nI 0 = 1 from Or.inl rfl), if_neg (fun z => q2 (hq.mpr ((kd_w hw).mp z).2.2))]
        rfl
    · rw [if_neg (show ¬ nI (tkc b n s) = nI 2 from fun z => q (htk.2.2.2.2.2.2.mp ((nI_eq (by omega) (by omega)).mp z))), z_M_isWord_11, z_M_isWord_13, if_pos (show nI 0 = 0 ∨ nI 0 = 1 from Or.inl rfl), if_neg (fun z => q ⟨((kd_w hw).mp z).1, ((kd_w hw).mp z).2.1⟩)]
      rfl
  rw [e2]
  rfl
theorem rns_0 {lo hi s : Nat} {pl : Int32} {c : List (Nat × Nat)} : rns b n lo hi (s, 0, pl, c) = if kdp b n s = 2 then (if lo ≤ vlp b n s ∧ vlp b n s ≤ hi then (nx1 b n s, 0, pl, c) else (s, 2, nI s, c)) else (s, 1, nI s, c) := by
  unfold rns
  rw [kn_0, adv_0, rfs_0, rfs_0]
theorem rnv_0 {lo hi s : Nat} {pl : Int32} {c : List (Nat × Nat)} : rnv b n lo hi (s, 0, pl, c) = if kdp b n s = 2 then (if lo ≤ vlp b n s ∧ vlp b n s ≤ hi then vlp b n s else lo) else lo := by
  unfold rnv
  rw [kn_0]
theorem fx_rns {lo hi : Nat} {σ : Rst} (h : σ.2.1 ≠ 0) : rns b n lo hi σ = σ := by
  unfold rns
  rw [fx_k h, if_neg (show ¬ 0 = 2 by decide)]
  exact fx_rfs h 1
/-- a fault where the token stands -/
theorem RS.ft {u : sm_M} {s : Nat} {c : List (Nat × Nat)} (h : RS u0 b n t cl lim u s c) {f : Nat} (hf : f ≤ 9) (h0 : f ≠ 0) (pl : Int32) : RP u0 b n t cl lim pl (s, f, nI s, c) (nI f) u := ⟨rfl, hf, ⟨h.1.1, h.2.1⟩, fun z => absurd z h0, fun _ => h.2.2.1.2.2.1.symm⟩
theorem r_fig (ht : t < 4) (hB : ∀ i, b i < 256) {D lo hi z : Nat} (hD : 3 ≤ D) (hlo : lo ≤ 9999) (hh : hi ≤ 9999) {u : sm_M} {s : Nat} {c : List (Nat × Nat)} (h : RS u0 b n t cl lim u s c) (hz1 : 705 * t + 1 + 4 * cl.length ≤ z) (hz2 : z < 705 * t + 97) (pl : Int32) :
    Ri (sm_call D 248 [.ref 275, .int (nI z), .int (nI lo), .int (nI hi)] u) (fun x v => RP u0 b n t cl lim pl (rns b n lo hi (s, 0, pl, c)) x v ∧ (∀ k, k ≠ z → sm_I v 278 k = sm_I u 278 k) ∧ ((rns b n lo hi (s, 0, pl, c)).2.1 = 0 → sm_I v 278 z = nI (rnv b n lo hi (s, 0, pl, c)))) := by
  obtain ⟨D, rfl⟩ : ∃ k, D = k + 3 := ⟨D - 3, by omega⟩
  have hu := h.1.1
  have hT := h.2.2.1
  have e9 : sm_I u 275 9 = nI (tkc b n s) := hT.2.2.2.1
  have htk := tk_kd (b := b) (n := n) (s := s)
  have hn : n ≤ 300 := h.1.2.1
  rw [k_M_figure, z_M_figure_0, rns_0, rnv_0]
  simp -implicitDefEqProofs only [h.tg, e9, ↓reduceIte]
  by_cases q2 : kdp b n s = 2
  · rw [if_pos (show nI (tkc b n s) = nI 1 by rw [htk.2.1.mpr q2]), if_pos q2, if_pos q2, z_M_figure_6]
    have hd := kd_2.mp q2
    have e10 : sm_I u 275 10 = nI (nrv b n s) := hT.2.2.2.2.1 hd.1 hd.2
    have hnr := nr_top (b := b) (n := n) (top := hi) q2 hh
    have hnl : nrv b n s ≤ 1000300 := nrf_le hB _ _ _ (by omega)
    simp -implicitDefEqProofs only [h.tg, e10, s_isIn_k, ↓reduceIte]
    by_cases q : lo ≤ vlp b n s ∧ vlp b n s ≤ hi
    · have en := hnr.2 q.2
      rw [if_pos q, if_pos q, if_pos (show nI lo ≤ nI (nrv b n s) ∧ nI (nrv b n s) ≤ nI hi from ⟨nI_le (by omega) (by omega), nI_le (by omega) (by omega)⟩), if_neg (show ¬ (1 : Int32) = 0 by decide), z_M_figure_14]
      have cz : (nI z).toNatClampNeg = z := nI_clamp (by omega)
      simp -implicitDefEqProofs only [h.tg, ↓yk_275_2 hu, in_278 hu (show z < 2820 by omega), cz, e10, ↓reduceIte, lt_s1]
      rw [en]
      have h2 := h.wc (x := nI (vlp b n s)) hz1 hz2
      have V2 : sm_I (sm_wI u 278 z (nI (vlp b n s))) 278 z = nI (vlp b n s) := wI_at
      have K2 : ∀ k, k ≠ z → sm_I (sm_wI u 278 z (nI (vlp b n s))) 278 k = sm_I u 278 k := fun k hk => wI_nk hk
      generalize sm_wI u 278 z (nI (vlp b n s)) = w at *
      simp -implicitDefEqProofs only [h2.tg, ↓reduceIte]
      refine Ri.rv (r_nx (by omega) h2) (fun v hv => ?_)
      refine Ri.ret ⟨⟨rfl, Nat.zero_le 9, ⟨hv.1.1.1, hv.1.2.1⟩, fun _ => ⟨rfl, hv.1⟩, fun z => absurd rfl z⟩, fun k hk => (hv.2 k).trans (K2 k hk), fun _ => (hv.2 z).trans V2⟩
    · rw [if_neg q, if_neg q, if_neg (show ¬ (nI lo ≤ nI (nrv b n s) ∧ nI (nrv b n s) ≤ nI hi) from fun y => q (by
        have y1 := (nI_leI (by omega) (by omega)).mp y.1
        have y2 := (nI_leI (by omega) (by omega)).mp y.2
        have := hnr.1.mp y2
        have := hnr.2 this
        omega)), if_pos (show (0 : Int32) = 0 from rfl)]
      exact Ri.ret ⟨h.ft (by omega) (by omega) pl, fun _ _ => rfl, fun y => absurd (show (2 : Nat) = 0 from y) (by decide)⟩
  · rw [if_neg (show ¬ nI (tkc b n s) = nI 1 from fun z => q2 (htk.2.1.mp ((nI_eq (by omega) (by omega)).mp z))), if_neg q2, if_neg q2]
    exact Ri.ret ⟨h.ft (by omega) (by omega) pl, fun _ _ => rfl, fun y => absurd (show (1 : Nat) = 0 from y) (by decide)⟩
theorem nI_n0 {f : Nat} (h : f ≤ 9) (h0 : f ≠ 0) : ¬ nI f = 0 := fun z => h0 ((nI_eq (b := 0) (by omega) (by omega)).mp z)
theorem r_par (ht : t < 4) (hB : ∀ i, b i < 256) {D h1 w l2 h2 z : Nat} (hD : 4 ≤ D) (hw : w < 22) (hh1 : h1 ≤ 9999) (hl2 : l2 ≤ 9999) (hh2 : h2 ≤ 9999) {u : sm_M} {s : Nat} {c : List (Nat × Nat)} (h : RS u0 b n t cl lim u s c) (hz1 : 705 * t + 1 + 4 * cl.length ≤ z) (hz2 : z + 2 < 705 * t + 97) (pl : Int32) :
    Ri (sm_call D 250 [.ref 275, .int (nI z), .int (nI h1), .long (lN (pk (sm_tx w))), .int (nI l2), .int (nI h2)] u) (fun x v => RP u0 b n t cl lim pl (parF b n h1 (200 + w) l2 h2 (s, 0, pl, c)).2 x v ∧ (∀ k, k ≠ z + 1 → k ≠ z + 2 → sm_I v 278 k = sm_I u 278 k) ∧ ((parF b n h1 (200 + w) l2 h2 (s, 0, pl, c)).2.2.1 = 0 → sm_I v 278 (z + 1) = nI (parF b n h1 (200 + w) l2 h2 (s, 0, pl, c)).1.1 ∧ sm_I v 278 (z + 2) = nI (parF b n h1 (200 + w) l2 h2 (s, 0, pl, c)).1.2)) := by
  obtain ⟨D, rfl⟩ : ∃ k, D = k + 4 := ⟨D - 4, by omega⟩
  rw [k_M_pair, z_M_pair_0]
  simp -implicitDefEqProofs only [h.tg, nI_add, ↓reduceIte]
  refine Ri.ri (r_fig ht hB (by omega) (by omega) hh1 h (show 705 * t + 1 + 4 * cl.length ≤ z + 1 by omega) (by omega) pl) (fun x v hv => ?_)
  obtain ⟨⟨e1, e2, e3, e4, e5⟩, k1, k2⟩ := hv
  unfold parF
  generalize rnv b n 0 h1 (s, 0, pl, c) = y1 at *
  generalize rns b n 0 h1 (s, 0, pl, c) = σ at *
  show Ri _ (fun x v => RP u0 b n t cl lim pl (rns b n l2 h2 (exq b n (200 + w) σ)) x v ∧ (∀ k, k ≠ z + 1 → k ≠ z + 2 → sm_I v 278 k = sm_I u 278 k) ∧ ((rns b n l2 h2 (exq b n (200 + w) σ)).2.1 = 0 → sm_I v 278 (z + 1) = nI y1 ∧ sm_I v 278 (z + 2) = nI (rnv b n l2 h2 (exq b n (200 + w) σ))))
  by_cases q : σ.2.1 = 0
  · obtain ⟨s1, f1, p1, T1⟩ := σ
    have q : f1 = 0 := q
    have e4 := e4 q
    have ep : p1 = pl := e4.1
    have hv : RS u0 b n t cl lim v s1 T1 := e4.2
    have k2 := k2 q
    have e1 : x = nI f1 := e1
    subst ep
    rw [q] at e1
    rw [e1, if_pos (show nI 0 = 0 from rfl), z_M_pair_12, q]
    simp -implicitDefEqProofs only [hv.tg, w_isW hw hv.1.1 hv.2.2.1, ↓reduceIte]
    have ex : exq b n (200 + w) (s1, 0, p1, T1) = if kdp b n s1 = 200 + w then (nx1 b n s1, 0, p1, T1) else (s1, 1, nI s1, T1) := by
      unfold exq
      rw [kn_0, adv_0, rfs_0]
    rw [ex]
    by_cases qw : kdp b n s1 = 200 + w
    · rw [if_pos qw, if_pos qw, if_neg (show ¬ (1 : Int32) = 0 by decide), z_M_pair_18]
      simp -implicitDefEqProofs only [hv.tg, ↓reduceIte]
      refine Ri.rv (r_nx (by omega) hv) (fun v1 hv1 => ?_)
      simp -implicitDefEqProofs only [hv1.1.tg, nI_add, ↓reduceIte]
      refine Ri.ri (r_fig ht hB (by omega) hl2 hh2 hv1.1 (show 705 * t + 1 + 4 * cl.length ≤ z + 2 by omega) (by omega) p1) (fun x2 v2 hv2 => ?_)
      obtain ⟨g1, g2, g3⟩ := hv2
      exact Ri.ret ⟨g1, fun k j1 j2 => (g2 k j2).trans ((hv1.2 k).trans (k1 k j1)), fun y => ⟨(g2 (z + 1) (by omega)).trans ((hv1.2 (z + 1)).trans k2), g3 y⟩⟩
    · rw [if_neg qw, if_neg qw, if_pos (show (0 : Int32) = 0 from rfl)]
      have hx : ((s1, 1, nI s1, T1) : Rst).2.1 ≠ 0 := (show (1 : Nat) ≠ 0 by decide)
      rw [fx_rns hx]
      exact Ri.ret ⟨hv.ft (by omega) (by omega) p1, fun k j1 _ => k1 k j1, fun y => absurd (show (1 : Nat) = 0 from y) (by decide)⟩
  · have ex : exq b n (200 + w) σ = σ := fx_exq q (by omega)
    rw [ex, fx_rns q, e1, if_neg (nI_n0 e2 q)]
    exact Ri.ret ⟨⟨rfl, e2, e3, e4, e5⟩, fun k j1 _ => k1 k j1, fun y => absurd y q⟩
end
