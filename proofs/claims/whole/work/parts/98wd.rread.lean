/-! texts: all clauses of the reference; what holds of what was read (by hand) -/
theorem z_M_readText_29 (C : Nat → List Value → sm_M → sm_R) (n : Nat) (u : sm_M) (a0 : Nat) (o1 : Option Value) : sm_run C c_M_readText (n + 1) 29 [some (.ref a0), o1] [] u = if sm_tg u a0 = 112 then (if (sm_I u a0 9) = 0 then (sm_run C c_M_readText n 40 [some (.ref a0), o1] [] u) else (if sm_tg u a0 = 112 then (sm_ri (C 253 [.ref a0] u) (fun x2 u1 => if x2 = 0 then (sm_run C c_M_readText n 39 [some (.ref a0), some (.int x2)] [] u1) else (some (some (.int x2), u1)))) else none)) else none := q_M_readText_29 C n u a0 o1
theorem z_M_readText_40 (C : Nat → List Value → sm_M → sm_R) (n : Nat) (u : sm_M) (a0 : Nat) (o1 : Option Value) : sm_run C c_M_readText (n + 1) 40 [some (.ref a0), o1] [] u = some (some (.int (nI 0)), u) := q_M_readText_40 C n u a0 o1
theorem z_M_readText_39 (C : Nat → List Value → sm_M → sm_R) (n : Nat) (u : sm_M) (a0 : Nat) (v1 : Int32) : sm_run C c_M_readText (n + 1) 39 [some (.ref a0), some (.int v1)] [] u = sm_run C c_M_readText n 29 [some (.ref a0), some (.int v1)] [] u := q_M_readText_39 C n u a0 v1
def okc (T : List (Nat × Nat)) (e : Nat × Nat × Nat) : Prop := kd8 e.1 ∧ (e.1 = 200 ∨ e.1 = 201 → e.2.1 ≤ e.2.2 ∧ e.2.2 ≤ T.length ∧ tyl ((T.drop e.2.1).take (e.2.2 - e.2.1)) [] = some [true])
def Okc (cl : Cls) (T : List (Nat × Nat)) : Prop := (∀ x, x ∈ T → tvb x.1 x.2) ∧ ∀ e, e ∈ cl → okc T e
theorem td_app : ∀ (T d : List (Nat × Nat)) (a m : Nat), a + m ≤ T.length → ((T ++ d).drop a).take m = (T.drop a).take m
  | [], d, a, m, h => by
    have h : a + m ≤ 0 := h
    obtain rfl : a = 0 := by omega
    obtain rfl : m = 0 := by omega
    simp
  | x :: T, d, 0, 0, _ => by simp
  | x :: T, d, 0, m + 1, h => by
    have h : 0 + (m + 1) ≤ T.length + 1 := h
    have := td_app T d 0 m (by omega)
    simpa using this
  | x :: T, d, a + 1, m, h => by
    have h : a + 1 + m ≤ T.length + 1 := h
    have := td_app T d a m (by omega)
    simpa using this
theorem td_new (c d : List (Nat × Nat)) : ((c ++ d).drop c.length).take ((c ++ d).length - c.length) = d := by simp
theorem okc.app {T : List (Nat × Nat)} {e : Nat × Nat × Nat} (h : okc T e) (d : List (Nat × Nat)) : okc (T ++ d) e := by
  refine ⟨h.1, fun z => ?_⟩
  obtain ⟨h1, h2, h3⟩ := h.2 z
  refine ⟨h1, by rw [List.length_append]; omega, ?_⟩
  rw [td_app T d e.2.1 (e.2.2 - e.2.1) (by omega)]
  exact h3
section
variable {b : Nat → Nat} {n : Nat}
/-- the reading goes on, or it has a fault -/
def Mv (n : Nat) (σ σ' : Rst) : Prop := σ'.2.2.2 = σ.2.2.2 ∧ σ.1 ≤ σ'.1 ∧ (σ.1 ≤ n → σ'.1 ≤ n) ∧ (σ'.2.1 = 0 → σ.2.1 = 0 ∧ σ'.2.2.1 = σ.2.2.1)
theorem Mv.rf (σ : Rst) : Mv n σ σ := ⟨rfl, Nat.le_refl _, id, fun h => ⟨h, rfl⟩⟩
theorem Mv.tr {σ σ' σ'' : Rst} (h : Mv n σ σ') (h' : Mv n σ' σ'') : Mv n σ σ'' := ⟨h'.1.trans h.1, Nat.le_trans h.2.1 h'.2.1, fun z => h'.2.2.1 (h.2.2.1 z), fun z => ⟨(h.2.2.2 (h'.2.2.2 z).1).1, (h'.2.2.2 z).2.trans (h.2.2.2 (h'.2.2.2 z).1).2⟩⟩
theorem nx_n {s : Nat} (h : s ≤ n) : nx1 b n s ≤ n := by
  unfold nx1
  by_cases z : s < n
  · rw [if_pos z]
    exact (nxt_b (b := b) z).2.1.le
  · rw [if_neg z]
    exact h
theorem mv_av (σ : Rst) : Mv n σ (adv b n σ) := by
  obtain ⟨h1, h2⟩ := av_f (b := b) (n := n) σ
  refine ⟨by rw [h1], by rw [h2]; exact nx_ge, fun z => by rw [h2]; exact nx_n z, fun z => ?_⟩
  rw [h1] at z ⊢
  exact ⟨z, rfl⟩
theorem mv_rs {k : Nat} (hk : k ≠ 0) (σ : Rst) : Mv n σ (rfs k σ) := by
  by_cases z : σ.2.1 = 0
  · have e : rfs k σ = (σ.1, k, nI σ.1, σ.2.2.2) := if_pos z
    rw [e]
    exact ⟨rfl, Nat.le_refl _, id, fun y => absurd y hk⟩
  · rw [fx_rfs z]
    exact Mv.rf σ
theorem Mv.ex {c : Nat} (σ : Rst) : Mv n σ (exq b n c σ) := by
  unfold exq
  split
  · exact mv_av σ
  · exact mv_rs (by decide) σ
theorem Mv.rn {lo hi : Nat} (σ : Rst) : Mv n σ (rns b n lo hi σ) := by
  unfold rns
  split
  · split
    · exact mv_av σ
    · exact mv_rs (by decide) σ
  · exact mv_rs (by decide) σ
theorem Mv.pa {h1 w l2 h2 : Nat} (σ : Rst) : Mv n σ (parF b n h1 w l2 h2 σ).2 := ((Mv.rn σ).tr (Mv.ex _)).tr (Mv.rn _)
theorem Mv.de {k : Nat} (σ : Rst) : Mv n σ (dedF b n k σ).2 := by
  unfold dedF
  split
  · exact Mv.pa σ
  · split
    · exact Mv.pa σ
    · split
      · exact Mv.rn σ
      · split
        · exact Mv.pa σ
        · split
          · exact Mv.pa σ
          · exact Mv.rn σ
theorem bd_ok (hn : n ≤ 300) {ev k s : Nat} {pl : Int32} {c : List (Nat × Nat)} (hs : c.length + 1 ≤ s) (hsn : s ≤ n) (h0 : (bdF b n ev k (s, 0, pl, c)).2.2.1 = 0) :
    (bdF b n ev k (s, 0, pl, c)).2.2.2.1 = pl ∧ (bdF b n ev k (s, 0, pl, c)).2.2.2.2.length ≤ (bdF b n ev k (s, 0, pl, c)).2.1 ∧ (bdF b n ev k (s, 0, pl, c)).2.1 ≤ n ∧ ∃ d, (bdF b n ev k (s, 0, pl, c)).2.2.2.2 = c ++ d ∧ (∀ x, x ∈ d → tvb x.1 x.2) ∧ (k = 200 ∨ k = 201 → (bdF b n ev k (s, 0, pl, c)).1 = (c.length, (c ++ d).length) ∧ tyl d [] = some [true]) := by
  unfold bdF at h0 ⊢
  by_cases q : k = 200 ∨ k = 201
  · rw [if_pos q] at h0 ⊢
    have h0 : (whF b n (lvl b n ev 8 3) (s, 0, pl, c)).2.1 = 0 := h0
    have g := n_whole (b := b) (ev := ev) (pl := pl) hn hs hsn
    generalize whF b n (lvl b n ev 8 3) (s, 0, pl, c) = W at g h0 ⊢
    rcases g with g | g
    · obtain ⟨g1, g2, g3, g4, g5, g6⟩ := g
      obtain ⟨d, d1, d2, d3⟩ := g4
      refine ⟨g2, Nat.le_of_succ_le g5, g6, d, d1, d2, fun _ => ⟨?_, ?_⟩⟩
      · rw [← d1]
      · rw [d3 []]
        rfl
    · exact absurd h0 g.1
  · rw [if_neg q] at h0 ⊢
    obtain ⟨m1, m2, m3, m4⟩ := Mv.de (b := b) (n := n) (k := k) (s, 0, pl, c)
    have m2 : s ≤ (dedF b n k (s, 0, pl, c)).2.1 := m2
    refine ⟨(m4 h0).2, ?_, m3 hsn, [], by rw [m1, List.append_nil], (fun x hx => by cases hx), fun z => absurd z q⟩
    rw [m1]
    show c.length ≤ _
    omega
def Ivt (n : Nat) (pl : Int32) (p : Cls × Rst) : Prop := p.2.2.1 = 0 ∧ p.2.2.2.1 = pl ∧ p.2.2.2.2.length ≤ p.2.1 ∧ p.2.1 ≤ n ∧ evc p.1 ≤ 10 ∧ Okc p.1 p.2.2.2.2
theorem cla_ok (hn : n ≤ 300) {pl : Int32} {cl : Cls} {s : Nat} {c : List (Nat × Nat)} (h : Ivt n pl (cl, (s, 0, pl, c))) (h0 : (claF b n (kdp b n s) (cl, (s, 0, pl, c))).2.2.1 = 0) : Ivt n pl (claF b n (kdp b n s) (cl, (s, 0, pl, c))) ∧ (claF b n (kdp b n s) (cl, (s, 0, pl, c))).1.length = cl.length + 1 := by
  obtain ⟨_, _, h3, h4, h5, h6⟩ := h
  have h3 : c.length ≤ s := h3
  have h4 : s ≤ n := h4
  have h5 : evc cl ≤ 10 := h5
  have h6 : Okc cl c := h6
  by_cases q8 : kd8 (kdp b n s)
  · obtain ⟨y7, y0, y1, yB, yk⟩ := srt_v q8
    by_cases q : kdp b n s = 201 ∧ limc cl = true ∨ kdp b n s = 200 ∧ 10 ≤ evc cl
    · have ec : claF b n (kdp b n s) (cl, (s, 0, pl, c)) = (cl, (s, 4, nI s, c)) := by
        unfold claF
        rw [if_neg yB, if_pos q, rfs_0]
      rw [ec] at h0
      exact absurd (show (4 : Nat) = 0 from h0) (by decide)
    · by_cases q24 : 24 ≤ cl.length
      · have ec : claF b n (kdp b n s) (cl, (s, 0, pl, c)) = (cl, (s, 6, nI s, c)) := by
          unfold claF
          rw [if_neg yB, if_neg q, if_pos q24, rfs_0]
        rw [ec] at h0
        exact absurd (show (6 : Nat) = 0 from h0) (by decide)
      · have ec : claF b n (kdp b n s) (cl, (s, 0, pl, c)) = (cl ++ [(kdp b n s, (bdF b n (evc cl) (kdp b n s) (nx1 b n s, 0, pl, c)).1)], exq b n 59 (bdF b n (evc cl) (kdp b n s) (nx1 b n s, 0, pl, c)).2) := by
          unfold claF bdF
          rw [if_neg yB, if_neg q, if_neg q24, adv_0]
          by_cases ql : kdp b n s = 200 ∨ kdp b n s = 201
          · rw [if_pos ql, if_pos ql]
            all_goals rfl
          · rw [if_neg ql, if_neg ql]
            all_goals rfl
        rw [ec] at h0 ⊢
        have hnx := nx_lt (b := b) (n := n) (s := s) yk
        obtain ⟨m1, m2, m3, m4⟩ := Mv.ex (b := b) (n := n) (c := 59) (bdF b n (evc cl) (kdp b n s) (nx1 b n s, 0, pl, c)).2
        obtain ⟨e1, e2⟩ := m4 h0
        obtain ⟨g1, g2, g3, d, g4, g5, g6⟩ := bd_ok (b := b) hn (show c.length + 1 ≤ nx1 b n s by omega) hnx.2.2 e1
        refine ⟨⟨h0, e2.trans g1, ?_, m3 g3, ?_, ?_⟩, len_sn _ _⟩
        · show (exq b n 59 (bdF b n (evc cl) (kdp b n s) (nx1 b n s, 0, pl, c)).2).2.2.2.length ≤ (exq b n 59 (bdF b n (evc cl) (kdp b n s) (nx1 b n s, 0, pl, c)).2).1
          rw [m1]
          exact Nat.le_trans g2 m2
        · show evc (cl ++ [(kdp b n s, (bdF b n (evc cl) (kdp b n s) (nx1 b n s, 0, pl, c)).1)]) ≤ 10
          rw [evc_a]
          show evc cl + (if kdp b n s = 200 then 1 else 0) ≤ 10
          split
          · omega
          · omega
        · show Okc (cl ++ [(kdp b n s, (bdF b n (evc cl) (kdp b n s) (nx1 b n s, 0, pl, c)).1)]) (exq b n 59 (bdF b n (evc cl) (kdp b n s) (nx1 b n s, 0, pl, c)).2).2.2.2
          rw [m1, g4]
          refine ⟨fun x hx => (List.mem_append.mp hx).elim (h6.1 x) (g5 x), fun e he => ?_⟩
          rcases List.mem_append.mp he with z | z
          · exact (h6.2 e z).app d
          · rw [List.mem_singleton.mp z]
            refine ⟨q8, fun y => ?_⟩
            obtain ⟨y2, y3⟩ := g6 y
            rw [y2]
            refine ⟨?_, Nat.le_refl _, ?_⟩
            · show c.length ≤ (c ++ d).length
              rw [List.length_append]
              omega
            · show tyl (((c ++ d).drop c.length).take ((c ++ d).length - c.length)) [] = some [true]
              rw [td_new]
              exact y3
  · have ec : claF b n (kdp b n s) (cl, (s, 0, pl, c)) = (cl, (s, 1, nI s, c)) := by
      unfold claF
      rw [if_pos (kd8_n q8), rfs_0]
    rw [ec] at h0
    exact absurd (show (1 : Nat) = 0 from h0) (by decide)
theorem rdL_f {p : Cls × Rst} (h : p.2.2.1 ≠ 0) : ∀ j, rdL b n j p = p
  | 0 => rfl
  | j + 1 => if_pos (Or.inr h)
theorem rdL_ok (hn : n ≤ 300) {pl : Int32} : ∀ (j : Nat) (p : Cls × Rst), Ivt n pl p → (rdL b n j p).2.2.1 = 0 → Ivt n pl (rdL b n j p)
  | 0, _, h, _ => h
  | j + 1, (cl, (s, f, p, c)), h, h0 => by
    have hf : f = 0 := h.1
    have hp : p = pl := h.2.1
    subst hf hp
    have e : rdL b n (j + 1) (cl, (s, 0, p, c)) = if kn b n (s, 0, p, c) = 1 ∨ ¬ (0 : Nat) = 0 then (cl, (s, 0, p, c)) else rdL b n j (claF b n (kn b n (s, 0, p, c)) (cl, (s, 0, p, c))) := rfl
    rw [e, kn_0] at h0 ⊢
    by_cases z : kdp b n s = 1 ∨ ¬ (0 : Nat) = 0
    · rw [if_pos z]
      exact h
    · rw [if_neg z] at h0 ⊢
      by_cases q : (claF b n (kdp b n s) (cl, (s, 0, p, c))).2.2.1 = 0
      · exact rdL_ok hn j _ (cla_ok hn h q).1 h0
      · rw [rdL_f q] at h0
        exact absurd h0 q
end
section
variable {u0 : sm_M} {b : Nat → Nat} {n t : Nat}
theorem r_readL (ht : t < 4) (hB : ∀ i, b i < 256) {D : Nat} (hD : 14 ≤ D) (pl : Int32) : ∀ (j : Nat) (cl : Cls) (s : Nat) (c : List (Nat × Nat)) (u : sm_M) (m : Nat) (o1 : Option Value), cl.length + j = 25 → RS u0 b n t cl (limc cl) u s c → Ivt n pl (cl, (s, 0, pl, c)) → 2 * j + 3 ≤ m →
    Ri (sm_run (sm_call D) c_M_readText m 29 [some (.ref 275), o1] [] u) (fun x v => RP u0 b n t (rdL b n j (cl, (s, 0, pl, c))).1 (limc (rdL b n j (cl, (s, 0, pl, c))).1) pl (rdL b n j (cl, (s, 0, pl, c))).2 x v) := by
  intro j
  induction j with
  | zero =>
    intro cl s c u m o1 hj h _ _
    have : cl.length ≤ 24 := h.2.2.2.2.2.2.1
    omega
  | succ j ih =>
    intro cl s c u m o1 hj h hi hm
    obtain ⟨m, rfl⟩ : ∃ k, m = k + 3 := ⟨m - 3, by omega⟩
    have hn : n ≤ 300 := h.1.2.1
    have e9 : sm_I u 275 9 = nI (tkc b n s) := h.2.2.1.2.2.2.1
    have htk := tk_kd (b := b) (n := n) (s := s)
    have e : rdL b n (j + 1) (cl, (s, 0, pl, c)) = if kdp b n s = 1 ∨ ¬ (0 : Nat) = 0 then (cl, (s, 0, pl, c)) else rdL b n j (claF b n (kdp b n s) (cl, (s, 0, pl, c))) := by
      show (if kn b n (s, 0, pl, c) = 1 ∨ ¬ (0 : Nat) = 0 then (cl, (s, 0, pl, c)) else rdL b n j (claF b n (kn b n (s, 0, pl, c)) (cl, (s, 0, pl, c)))) = _
      rw [kn_0]
    rw [z_M_readText_29]
    simp -implicitDefEqProofs only [h.tg, e9, ↓reduceIte]
    rw [e]
    by_cases q : kdp b n s = 1
    · rw [if_pos (Or.inl q), if_pos (show nI (tkc b n s) = 0 by rw [htk.1.mpr q]; rfl), z_M_readText_40]
      exact Ri.ret ⟨rfl, Nat.zero_le 9, ⟨h.1.1, h.2.1⟩, fun _ => ⟨rfl, h⟩, fun z => absurd rfl z⟩
    · rw [if_neg (show ¬ (kdp b n s = 1 ∨ ¬ (0 : Nat) = 0) by omega), if_neg (show ¬ nI (tkc b n s) = 0 from fun z => q (htk.1.mp ((nI_eq (b := 0) (by omega) (by omega)).mp z)))]
      refine Ri.ri (r_clause ht hB hD h hi.2.2.1 hi.2.2.2.2.1 pl) (fun x v hv => ?_)
      obtain ⟨p1, p2, p3, p4, p5⟩ := hv
      by_cases qf : (claF b n (kdp b n s) (cl, (s, 0, pl, c))).2.2.1 = 0
      · obtain ⟨g1, g2⟩ := cla_ok (b := b) hn hi qf
        obtain ⟨g3, g4⟩ := p4 qf
        rw [p1, qf, if_pos (show nI 0 = 0 from rfl), z_M_readText_39]
        generalize claF b n (kdp b n s) (cl, (s, 0, pl, c)) = p at *
        obtain ⟨cl', s', f', p', T⟩ := p
        have qf : f' = 0 := qf
        have g3 : p' = pl := g3
        subst qf g3
        exact ih cl' s' T v _ _ (by have g2 : cl'.length = cl.length + 1 := g2; omega) g4 g1 (by omega)
      · rw [rdL_f qf, p1, if_neg (nI_n0 p2 qf)]
        exact Ri.ret ⟨rfl, p2, p3, p4, p5⟩
end
