/-! texts: a nonterminal of the descent against the pile (by hand) -/
def spk (r : Nat) (v : Bool) (k : Nat) : Prop := (r ≤ 7 → v = true ∨ isM k = false) ∧ (r ≤ 6 → v = true ∨ isP k = false) ∧ (r ≤ 3 → k ≠ 214) ∧ (r ≤ 2 → k ≠ 213)
def tyl : List (Nat × Nat) → List Bool → Option (List Bool)
  | [], st => some st
  | x :: d, st => (ty1 x.1 x.2 st).bind (tyl d)
theorem tyl_app : ∀ (d e : List (Nat × Nat)) (st : List Bool), tyl (d ++ e) st = (tyl d st).bind (tyl e)
  | [], _, _ => rfl
  | x :: d, e, st => by
    show (ty1 x.1 x.2 st).bind (tyl (d ++ e)) = ((ty1 x.1 x.2 st).bind (tyl d)).bind (tyl e)
    cases ty1 x.1 x.2 st with
    | none => rfl
    | some st' => exact tyl_app d e st'
abbrev tvb (o v : Nat) : Prop := trv o v ∧ v ≤ 9999
/-- terms of the kinds a lie behind c -/
def Tn (a : List Bool) (c T : List (Nat × Nat)) : Prop := ∃ d, T = c ++ d ∧ (∀ x, x ∈ d → tvb x.1 x.2) ∧ ∀ st, tyl d st = some (a ++ st)
theorem Tn.rf (c : List (Nat × Nat)) : Tn [] c c := ⟨[], (List.append_nil c).symm, (fun x h => by cases h), fun _ => rfl⟩
theorem Tn.tr {a e : List Bool} {c T T' : List (Nat × Nat)} (h : Tn a c T) (h' : Tn e T T') : Tn (e ++ a) c T' := by
  obtain ⟨d, e1, e2, e3⟩ := h
  obtain ⟨d', f1, f2, f3⟩ := h'
  refine ⟨d ++ d', by rw [f1, e1, List.append_assoc], fun x hx => (List.mem_append.mp hx).elim (e2 x) (f2 x), fun st => ?_⟩
  rw [tyl_app, e3]
  show tyl d' (a ++ st) = _
  rw [f3, List.append_assoc]
theorem Tn.ad {a a' e : List Bool} {c T : List (Nat × Nat)} {o v : Nat} (h : Tn (a ++ e) c T) (ht : ∀ st, ty1 o v (a ++ st) = some (a' ++ st)) (hv : tvb o v) : Tn (a' ++ e) c (T ++ [(o, v)]) := by
  obtain ⟨d, e1, e2, e3⟩ := h
  refine ⟨d ++ [(o, v)], by rw [e1, List.append_assoc], fun x hx => (List.mem_append.mp hx).elim (e2 x) (fun y => by rw [List.mem_singleton.mp y]; exact hv), fun st => ?_⟩
  rw [tyl_app, e3]
  show (ty1 o v (a ++ e ++ st)).bind (tyl []) = _
  rw [List.append_assoc, ht, List.append_assoc]
  rfl
theorem trv_0 {o : Nat} (h : 5 ≤ o ∧ o ≤ 15 ∨ 20 ≤ o ∧ o ≤ 23) : tvb o 0 := by
  unfold tvb trv
  omega
def Fdx (b : Nat → Nat) (n ev : Nat) (τ : S5) (σ : Rst) : Prop := σ.2.1 ≠ 0 ∧ ∃ p, σ.2.2.1 = nI p ∧ Flt b n ev τ σ.2.1 p
def Gd (b : Nat → Nat) (n ev : Nat) (P N : List Nat) (r s : Nat) (c : List (Nat × Nat)) (pl : Int32) (σ : Rst) : Prop :=
  (σ.2.1 = 0 ∧ σ.2.2.1 = pl ∧ ∃ c2 q, Rch b n ev (s, c, P, N, false) (σ.1, c2, q ++ P, N, true) ∧ (∀ o, o ∈ q → r ≤ rnk o) ∧ (r ≤ 4 → icm q = true) ∧ spk r (ovr q) (kdp b n σ.1) ∧ emt q c2 = σ.2.2.2 ∧ Tn [decide (r ≤ 4)] c σ.2.2.2) ∨ Fdx b n ev (s, c, P, N, false) σ
def G1 (b : Nat → Nat) (n ev : Nat) (P N : List Nat) (s : Nat) (c : List (Nat × Nat)) (pl : Int32) (σ : Rst) : Prop :=
  (σ.2.1 = 0 ∧ σ.2.2.1 = pl ∧ Rch b n ev (s, c, P, N, false) (σ.1, (stl 8 P σ.2.2.2).2, (stl 8 P σ.2.2.2).1, N, true) ∧ Tn [false] c σ.2.2.2) ∨ Fdx b n ev (s, c, P, N, false) σ
section
variable {b : Nat → Nat} {n ev : Nat}
theorem Rch.fd {τ τ' : S5} {σ : Rst} (h : Rch b n ev τ τ') (h' : Fdx b n ev τ' σ) : Fdx b n ev τ σ := by
  obtain ⟨f, p, e, q⟩ := h'
  exact ⟨f, p, e, h.fl q⟩
theorem Fdx.ad {τ : S5} {σ : Rst} (h : Fdx b n ev τ σ) (o v : Nat) : Fdx b n ev τ (add o v σ) := by
  obtain ⟨g1, g2, g3⟩ := ad_f o v σ
  unfold Fdx
  rw [g1, g2]
  exact h
theorem stq_f (s : Nat) (c : List (Nat × Nat)) (P N : List Nat) : stq b n ev (s, c, P, N, false) = begF b n ev (s, c, P, N, false) := if_neg (show ¬ false = true by decide)
theorem stq_t (s : Nat) (c : List (Nat × Nat)) (P N : List Nat) : stq b n ev (s, c, P, N, true) = behF b n (s, c, P, N, true) := if_pos rfl
theorem Rch.on {τ τ' : S5} (h : stq b n ev τ = (0, τ')) : Rch b n ev τ τ' := by
  refine Rch.st (congrArg Prod.fst h) ?_
  rw [h]
  exact Rch.rf τ'
theorem Fdx.st {τ τ' : S5} {f : Nat} {σ : Rst} (h : stq b n ev τ = (f, τ')) (h0 : f ≠ 0) (h9 : f ≠ 9) (e1 : σ.2.1 = f) (e2 : σ.2.2.1 = nI τ'.1) : Fdx b n ev τ σ := by
  refine ⟨by omega, τ'.1, e2, τ, Rch.rf τ, Or.inl ⟨?_, by omega, by omega, ?_⟩⟩
  · rw [e1]
    exact congrArg Prod.fst h
  · rw [h]
theorem Fdx.nd {τ : S5} {σ : Rst} (h : stq b n ev τ = (9, τ)) (e : (ndF τ).1 = 1) (e1 : σ.2.1 = 1) (e2 : σ.2.2.1 = nI τ.1) : Fdx b n ev τ σ := by
  have h2 : (stq b n ev τ).2 = τ := congrArg Prod.snd h
  refine ⟨by omega, τ.1, e2, τ, Rch.rf τ, Or.inr ⟨congrArg Prod.fst h, e1, ?_, ?_⟩⟩
  · rw [h2]
    exact e
  · rw [h2]
theorem Rch.lt {s s' : Nat} {c c' : List (Nat × Nat)} {P P' N N' : List Nat} (h : Rch b n ev (s, c, P, N, false) (s', c', P', N', true)) (hI : Iv n (s, c, P, N, false)) : s < s' := by
  obtain ⟨k, h⟩ := h
  cases k with
  | zero =>
    have h : (s, c, P, N, false) = (s', c', P', N', true) := h
    have z : false = true := congrArg (fun τ : S5 => τ.2.2.2.2) h
    cases z
  | succ k =>
    have h1 := hI.sq (b := b) (ev := ev)
    have h2 := h1.2.2 h.1
    have h4 : Rch b n ev (stq b n ev (s, c, P, N, false)).2 (s', c', P', N', true) := ⟨k, h.2⟩
    have h3 := (h4.iv (h1.2.1 (Or.inl h.1))).2
    exact Nat.lt_of_lt_of_le h2 h3
theorem icm_app : ∀ {q : List Nat} (P : List Nat), icm q = true → icm (q ++ P) = true
  | [], _, h => by
    have h : false = true := h
    cases h
  | o :: q, P, h => by
    have h : (if 5 < rnk o then icm q else decide (rnk o = 5)) = true := h
    show (if 5 < rnk o then icm (q ++ P) else decide (rnk o = 5)) = true
    by_cases z : 5 < rnk o
    · rw [if_pos z] at h ⊢
      exact icm_app P h
    · rw [if_neg z] at h ⊢
      exact h
theorem icm_hi : ∀ {q : List Nat} (P : List Nat), (∀ o, o ∈ q → 6 ≤ rnk o) → icm (q ++ P) = icm P
  | [], _, _ => rfl
  | o :: q, P, h => by
    have z : 5 < rnk o := h o List.mem_cons_self
    show (if 5 < rnk o then icm (q ++ P) else decide (rnk o = 5)) = icm P
    rw [if_pos z]
    exact icm_hi P (fun x hx => h x (List.mem_cons_of_mem _ hx))
theorem opw_app : ∀ {q : List Nat} (P : List Nat), (∀ o, o ∈ q → 1 ≤ rnk o) → opw (q ++ P) = opw P
  | [], _, _ => rfl
  | o :: q, P, h => by
    have z : 1 ≤ rnk o := h o List.mem_cons_self
    have z2 : ¬ 40 ≤ o := fun w => by
      unfold rnk at z
      rw [if_pos w] at z
      omega
    show (if 40 ≤ o then o else opw (q ++ P)) = opw P
    rw [if_neg z2]
    exact opw_app P (fun x hx => h x (List.mem_cons_of_mem _ hx))
theorem ovr_app {q : List Nat} (P : List Nat) (h : ovr q = true) : ovr (q ++ P) = true := by
  cases q with
  | nil => exact absurd h (by decide)
  | cons o q => exact h
theorem ovr_hi {q P : List Nat} (hq : ∀ o, o ∈ q → 6 ≤ rnk o) (hP : ∀ o R, P = o :: R → o ≠ 16) : ovr (q ++ P) = false := by
  cases q with
  | nil =>
    cases P with
    | nil => rfl
    | cons o R => exact decide_eq_false (hP o R rfl)
  | cons o q =>
    refine decide_eq_false (fun z => ?_)
    have := hq o List.mem_cons_self
    rw [z] at this
    exact absurd this (by decide)
theorem len_sn {α : Type} (c : List α) (x : α) : (c ++ [x]).length = c.length + 1 := List.length_append.trans rfl
theorem emt_len : ∀ (q : List Nat) (c : List (Nat × Nat)), (emt q c).length ≤ c.length + q.length
  | [], c => Nat.le_refl c.length
  | o :: q, c => by
    have h := emt_len q (if o = 16 then c else c ++ [(o, 0)])
    have h2 : (if o = 16 then c else c ++ [(o, 0)]).length ≤ c.length + 1 := by
      split
      · omega
      · exact Nat.le_of_eq (len_sn c (o, 0))
    show (emt q (if o = 16 then c else c ++ [(o, 0)])).length ≤ c.length + (q.length + 1)
    omega
theorem stl_ge (r : Nat) : ∀ (P : List Nat) (c : List (Nat × Nat)), c.length ≤ (stl r P c).2.length
  | [], c => Nat.le_refl c.length
  | o :: P, c => by
    show c.length ≤ (if r ≤ rnk o then stl r P (if o = 16 then c else c ++ [(o, 0)]) else (o :: P, c)).2.length
    by_cases z : r ≤ rnk o
    · rw [if_pos z]
      have h := stl_ge r P (if o = 16 then c else c ++ [(o, 0)])
      have h2 : c.length ≤ (if o = 16 then c else c ++ [(o, 0)]).length := by
        split
        · omega
        · rw [len_sn]
          omega
      omega
    · rw [if_neg z]
      exact Nat.le_refl c.length
theorem add_ok {o v s f : Nat} {pl : Int32} {T : List (Nat × Nat)} (h : T.length < 300) : add o v (s, f, pl, T) = (s, f, pl, T ++ [(o, v)]) := if_pos h
theorem kn_0 {s : Nat} {pl : Int32} {T : List (Nat × Nat)} : kn b n (s, 0, pl, T) = kdp b n s := if_pos rfl
theorem adv_0 {s : Nat} {r : Nat × Int32 × List (Nat × Nat)} : adv b n (s, r) = (nx1 b n s, r) := by
  unfold adv nx1
  by_cases z : s < n
  · rw [if_pos (show s < n from z), if_pos z]
  · rw [if_neg (show ¬ s < n from z), if_neg z]
theorem rfs_0 {k s : Nat} {pl : Int32} {T : List (Nat × Nat)} : rfs k (s, 0, pl, T) = (s, k, nI s, T) := if_pos rfl
theorem nx_ge {s : Nat} : s ≤ nx1 b n s := by
  unfold nx1
  by_cases z : s < n
  · rw [if_pos z]
    exact Nat.le_of_lt (nxt_b (b := b) z).1
  · rw [if_neg z]
    exact Nat.le_refl s
theorem spk_v {r k : Nat} {v v' : Bool} (h : spk r v k) (e : v = true → v' = true) : spk r v' k := ⟨fun z => (h.1 z).imp e id, fun z => (h.2.1 z).imp e id, h.2.2.1, h.2.2.2⟩
/-- an operator behind one -/
theorem bh_op {s r o : Nat} {c2 : List (Nat × Nat)} {q P N : List Nat} (eb : betF (q ++ P) (kdp b n s) = o) (h99 : o ≠ 99) (h23 : (if o = 23 then 2 else rnk o) = r) (hq : ∀ x, x ∈ q → r ≤ rnk x) (hP : ∀ x R, P = x :: R → rnk x < r) : stq b n ev (s, c2, q ++ P, N, true) = (0, (nx1 b n s, emt q c2, o :: P, N, false)) := by
  rw [stq_t]
  unfold behF
  rw [if_pos (show ¬ betF (q ++ P) (kdp b n s) = 99 by rw [eb]; exact h99)]
  show (0, (nx1 b n s, (stl (if betF (q ++ P) (kdp b n s) = 23 then 2 else rnk (betF (q ++ P) (kdp b n s))) (q ++ P) c2).2, betF (q ++ P) (kdp b n s) :: (stl (if betF (q ++ P) (kdp b n s) = 23 then 2 else rnk (betF (q ++ P) (kdp b n s))) (q ++ P) c2).1, N, false)) = _
  rw [eb, h23, stl_pend q c2 hq, stl_stop _ hP]
/-- a loop of the descent -/
theorem Gd.nt (hn : n ≤ 300) {P N : List Nat} {r : Nat} {cnd : Nat → Bool} {ok : Nat → Nat} {sub : Rst → Rst} (h0 : cnd 0 = false)
    (htop : ∀ o R, P = o :: R → rnk o < r)
    (hbet : ∀ q k, (∀ o, o ∈ q → r ≤ rnk o) → (r ≤ 4 → icm q = true) → cnd k = true → betF (q ++ P) k = ok k)
    (hok : ∀ k, cnd k = true → rnk (ok k) = r ∧ ok k ≠ 99 ∧ ok k ≠ 23 ∧ ok k ≠ 16 ∧ tvb (ok k) 0 ∧ ∀ st, ty1 (ok k) 0 (decide (r ≤ 4) :: decide (r ≤ 4) :: st) = some (decide (r ≤ 4) :: st))
    (hspk : ∀ v k, spk (r + 1) v k → cnd k = false → spk r v k)
    (hr4 : r ≤ 4 → r + 1 ≤ 4)
    (hsub : ∀ k s c pl, cnd k = true → Iv n (s, c, ok k :: P, N, false) → Gd b n ev (ok k :: P) N (r + 1) s c pl (sub (s, 0, pl, c)))
    {s0 : Nat} {c0 : List (Nat × Nat)} (hI : Iv n (s0, c0, P, N, false)) {pl : Int32} (h : Gd b n ev P N (r + 1) s0 c0 pl (sub (s0, 0, pl, c0))) :
    Gd b n ev P N r s0 c0 pl (lpF b n cnd (fun k σ => add (ok k) 0 (sub (adv b n σ))) 300 (sub (s0, 0, pl, c0))) := by
  have hd : decide (r + 1 ≤ 4) = decide (r ≤ 4) := decide_eq_decide.mpr ⟨fun z => by omega, hr4⟩
  have lp : ∀ (j s : Nat) (c2 : List (Nat × Nat)) (q : List Nat), Rch b n ev (s0, c0, P, N, false) (s, c2, q ++ P, N, true) → (∀ o, o ∈ q → r ≤ rnk o) → (r ≤ 4 → icm q = true) → spk (r + 1) (ovr q) (kdp b n s) → n < s + j → Tn [decide (r ≤ 4)] c0 (emt q c2) →
      Gd b n ev P N r s0 c0 pl (lpF b n cnd (fun k σ => add (ok k) 0 (sub (adv b n σ))) j (s, 0, pl, emt q c2)) := by
    intro j
    induction j with
    | zero =>
      intro s c2 q h1 h2 h3 h4 h5 h9
      have h6 : s ≤ n := (h1.iv hI).1.2.2.1
      omega
    | succ j ih =>
      intro s c2 q h1 h2 h3 h4 h5 h9
      have e0 : lpF b n cnd (fun k σ => add (ok k) 0 (sub (adv b n σ))) (j + 1) (s, 0, pl, emt q c2) = if cnd (kdp b n s) = true then lpF b n cnd (fun k σ => add (ok k) 0 (sub (adv b n σ))) j (add (ok (kdp b n s)) 0 (sub (nx1 b n s, 0, pl, emt q c2))) else (s, 0, pl, emt q c2) := by
        show (if cnd (kn b n (s, 0, pl, emt q c2)) = true then lpF b n cnd (fun k σ => add (ok k) 0 (sub (adv b n σ))) j (add (ok (kn b n (s, 0, pl, emt q c2))) 0 (sub (adv b n (s, 0, pl, emt q c2)))) else (s, 0, pl, emt q c2)) = _
        rw [kn_0, adv_0]
      rw [e0]
      by_cases z : cnd (kdp b n s) = true
      · rw [if_pos z]
        obtain ⟨k1, k2, k3, k4, k5, k6⟩ := hok _ z
        have eb := hbet q _ h2 h3 z
        have st : stq b n ev (s, c2, q ++ P, N, true) = (0, (nx1 b n s, emt q c2, ok (kdp b n s) :: P, N, false)) := bh_op eb k2 (by rw [if_neg k3]; exact k1) h2 htop
        have R1 := h1.tr (Rch.on st)
        have I1 := (R1.iv hI).1
        rcases hsub (kdp b n s) _ _ pl z I1 with ⟨f0, fp, c3, q3, R2, g1, g2, g3, g4, g5⟩ | hf
        · generalize sub (nx1 b n s, 0, pl, emt q c2) = σ at *
          obtain ⟨s3, f3, p3, T3⟩ := σ
          have f0 : f3 = 0 := f0
          have fp : p3 = pl := fp
          have g4 : emt q3 c3 = T3 := g4
          have g3 : spk (r + 1) (ovr q3) (kdp b n s3) := g3
          have g5 : Tn [decide (r + 1 ≤ 4)] (emt q c2) T3 := g5
          rw [hd, ← g4] at g5
          have g6 := (h9.tr g5).ad (a := [decide (r ≤ 4), decide (r ≤ 4)]) (a' := [decide (r ≤ 4)]) (e := []) k6 k5
          have R2 : Rch b n ev (nx1 b n s, emt q c2, ok (kdp b n s) :: P, N, false) (s3, c3, q3 ++ ok (kdp b n s) :: P, N, true) := R2
          have R3 := R1.tr R2
          have I3 := (R3.iv hI).1
          have lt := R2.lt I1
          have nx := nx_ge (b := b) (n := n) (s := s)
          rw [f0, fp, ← g4]
          have i1 : c3.length + (q3 ++ ok (kdp b n s) :: P).length + 1 ≤ s3 := I3.2.1
          have i2 : s3 ≤ n := I3.2.2.1
          have i3 := emt_len q3 c3
          rw [List.length_append, List.length_cons] at i1
          rw [add_ok (by omega)]
          have ee : emt q3 c3 ++ [(ok (kdp b n s), 0)] = emt (q3 ++ [ok (kdp b n s)]) c3 := by
            rw [emt_app]
            exact (if_neg k4).symm
          rw [ee]
          rw [ee] at g6
          have ep : q3 ++ ok (kdp b n s) :: P = (q3 ++ [ok (kdp b n s)]) ++ P := by
            rw [List.append_assoc]
            rfl
          rw [ep] at R3
          refine ih s3 c3 _ R3 ?_ ?_ ?_ ?_ g6
          · intro o ho
            rcases List.mem_append.mp ho with y | y
            · have := g1 o y
              omega
            · rw [List.mem_singleton.mp y]
              omega
          · intro y
            exact icm_app _ (g2 (hr4 y))
          · exact spk_v g3 (fun y => ovr_app _ y)
          · omega
        · have hf2 := hf.ad (ok (kdp b n s)) 0
          rw [fx_lp hf2.1 h0]
          exact Or.inr (R1.fd hf2)
      · rw [if_neg z]
        exact Or.inl ⟨rfl, rfl, c2, q, h1, h2, h3, hspk _ _ h4 (eq_false_of_ne_true z), rfl, h9⟩
  rcases h with ⟨f0, fp, c3, q3, R2, g1, g2, g3, g4, g5⟩ | hf
  · generalize sub (s0, 0, pl, c0) = σ at *
    obtain ⟨s3, f3, p3, T3⟩ := σ
    have f0 : f3 = 0 := f0
    have fp : p3 = pl := fp
    have g4 : emt q3 c3 = T3 := g4
    have g5 : Tn [decide (r + 1 ≤ 4)] c0 T3 := g5
    rw [hd, ← g4] at g5
    have R2 : Rch b n ev (s0, c0, P, N, false) (s3, c3, q3 ++ P, N, true) := R2
    have lt := R2.lt hI
    rw [f0, fp, ← g4]
    exact lp 300 s3 c3 q3 R2 (fun o ho => Nat.le_of_succ_le (g1 o ho)) (fun y => g2 (hr4 y)) g3 (by omega) g5
  · rw [fx_lp hf.1 h0]
    exact Or.inr hf
end
