/-! texts: the reader of the class, its small steps (by wip/whole/mk_98vc.py) -/
/-- position, fault, place, terms -/
abbrev Rst : Type := Nat × Nat × Int32 × List (Nat × Nat)
abbrev Cls : Type := List (Nat × Nat × Nat)
def Pos (b : Nat → Nat) (n s : Nat) : Prop := s = n ∨ s < n ∧ sta b s = true
def evc : Cls → Nat
  | [] => 0
  | c :: r => (if c.1 = 200 then 1 else 0) + evc r
def limc : Cls → Bool
  | [] => false
  | c :: r => decide (c.1 = 201) || limc r
abbrev Prd (t a k : Nat) : Prop := a = 232 ∧ (k = 2 ∨ k = 3 ∨ k = 4) ∨ 236 + 7 * t ≤ a ∧ a ≤ 241 + 7 * t
/-- what stays the same while a text is read -/
def Cx (u0 : sm_M) (b : Nat → Nat) (n t : Nat) : Prop := n ≤ 300 ∧ t < 4 ∧ TK u0 b n
def CS (u0 : sm_M) (b : Nat → Nat) (n t : Nat) (cl : Cls) (u : sm_M) (σ : Rst) : Prop :=
  (Ly u ∧ sm_Rf u 232 1 = some (236 + 7 * t)) ∧ FrP (Prd t) u0 u ∧ (Pos b n σ.1 ∧ sm_I u 232 2 = nI (cw (sta b) σ.1)) ∧ (sm_I u 232 3 = nI σ.2.1 ∧ σ.2.1 < 8) ∧ sm_I u 232 4 = σ.2.2.1 ∧
  (sm_I u (236 + 7 * t) 8 = nI σ.2.2.2.length ∧ σ.2.2.2.length ≤ 300 ∧ ∀ i, i < σ.2.2.2.length → sm_I u (240 + 7 * t) i = nI (trm (σ.2.2.2.getD i (0, 0)).1 (σ.2.2.2.getD i (0, 0)).2).1 ∧ sm_I u (241 + 7 * t) i = nI (trm (σ.2.2.2.getD i (0, 0)).1 (σ.2.2.2.getD i (0, 0)).2).2) ∧
  (sm_I u (236 + 7 * t) 6 = nI cl.length ∧ cl.length ≤ 24 ∧ sm_I u (236 + 7 * t) 7 = nI (evc cl) ∧ sm_I u (236 + 7 * t) 10 = (if limc cl = true then 1 else 0) ∧ sm_I u (236 + 7 * t) 9 = nI 0 ∧
    ∀ i, i < cl.length → sm_I u (237 + 7 * t) i = nI (cl.getD i (0, 0, 0)).1 ∧ sm_I u (238 + 7 * t) i = nI (cl.getD i (0, 0, 0)).2.1 ∧ sm_I u (239 + 7 * t) i = nI (cl.getD i (0, 0, 0)).2.2)
def kn (b : Nat → Nat) (n : Nat) (σ : Rst) : Nat := if σ.2.1 = 0 then kdp b n σ.1 else 0
def adv (b : Nat → Nat) (n : Nat) (σ : Rst) : Rst := if σ.1 < n then (nxt b n σ.1, σ.2) else σ
def rfs (k : Nat) (σ : Rst) : Rst := if σ.2.1 = 0 then (σ.1, k, nI σ.1, σ.2.2.2) else σ
def add (o v : Nat) (σ : Rst) : Rst := if σ.2.2.2.length < 300 then (σ.1, σ.2.1, σ.2.2.1, σ.2.2.2 ++ [(o, v)]) else σ
def exq (b : Nat → Nat) (n c : Nat) (σ : Rst) : Rst := if kn b n σ = c then adv b n σ else rfs 1 σ
def rnv (b : Nat → Nat) (n lo hi : Nat) (σ : Rst) : Nat := if kn b n σ = 2 then (if lo ≤ vlp b n σ.1 ∧ vlp b n σ.1 ≤ hi then vlp b n σ.1 else lo) else lo
def rns (b : Nat → Nat) (n lo hi : Nat) (σ : Rst) : Rst := if kn b n σ = 2 then (if lo ≤ vlp b n σ.1 ∧ vlp b n σ.1 ≤ hi then adv b n σ else rfs 2 σ) else rfs 1 σ
/-- a run that ends with no value, with a value -/
def Rn (r : sm_R) (Q : sm_M → Prop) : Prop := ∃ v, r = some (none, v) ∧ Q v
def Ri (r : sm_R) (Q : Int32 → sm_M → Prop) : Prop := ∃ x v, r = some (some (.int x), v) ∧ Q x v
theorem Rn.rv {r : sm_R} {f : sm_M → sm_R} {P Q : sm_M → Prop} (h : Rn r P) (k : ∀ v, P v → Rn (f v) Q) : Rn (sm_rv r f) Q := by
  obtain ⟨v, e, p⟩ := h
  rw [e]
  exact k v p
theorem Rn.ri {r : sm_R} {f : Int32 → sm_M → sm_R} {P : Int32 → sm_M → Prop} {Q : sm_M → Prop} (h : Ri r P) (k : ∀ x v, P x v → Rn (f x v) Q) : Rn (sm_ri r f) Q := by
  obtain ⟨x, v, e, p⟩ := h
  rw [e]
  exact k x v p
theorem Ri.rv {r : sm_R} {f : sm_M → sm_R} {P : sm_M → Prop} {Q : Int32 → sm_M → Prop} (h : Rn r P) (k : ∀ v, P v → Ri (f v) Q) : Ri (sm_rv r f) Q := by
  obtain ⟨v, e, p⟩ := h
  rw [e]
  exact k v p
theorem Ri.ri {r : sm_R} {f : Int32 → sm_M → sm_R} {P Q : Int32 → sm_M → Prop} (h : Ri r P) (k : ∀ x v, P x v → Ri (f x v) Q) : Ri (sm_ri r f) Q := by
  obtain ⟨x, v, e, p⟩ := h
  rw [e]
  exact k x v p
theorem Rn.ret {u : sm_M} {Q : sm_M → Prop} (h : Q u) : Rn (some (none, u)) Q := ⟨u, rfl, h⟩
theorem Ri.ret {u : sm_M} {x : Int32} {Q : Int32 → sm_M → Prop} (h : Q x u) : Ri (some (some (.int x), u)) Q := ⟨x, u, rfl, h⟩
theorem Rn.mono {r : sm_R} {P Q : sm_M → Prop} (h : Rn r P) (k : ∀ v, P v → Q v) : Rn r Q := by
  obtain ⟨v, e, p⟩ := h
  exact ⟨v, e, k v p⟩
/-! positions -/
theorem Pos.le {b : Nat → Nat} {n s : Nat} (h : Pos b n s) : s ≤ n := by rcases h with h | h <;> omega
theorem nxt_b {b : Nat → Nat} {n s : Nat} (h : s < n) : s < nxt b n s ∧ Pos b n (nxt b n s) ∧ ∀ j, s < j → j < nxt b n s → sta b j = false := by
  obtain ⟨h1, h2, h3, h4⟩ := nf_sp (sta b) (n - (s + 1)) (s + 1)
  unfold nxt
  refine ⟨by omega, ?_, fun j q1 q2 => by have := h4 j (by omega) q2; simpa using this⟩
  by_cases e : nf (sta b) (n - (s + 1)) (s + 1) = n
  · exact Or.inl e
  · exact Or.inr ⟨by omega, h3 (by omega)⟩
theorem cw_skip {p : Nat → Bool} {a : Nat} : ∀ k, (∀ j, a ≤ j → j < a + k → p j = false) → cw p (a + k) = cw p a
  | 0, _ => rfl
  | k + 1, h => by
    rw [← Nat.add_assoc, cw_f (by rw [h (a + k) (by omega) (by omega)]; simp)]
    exact cw_skip k (fun j h1 h2 => h j h1 (by omega))
theorem cw_nxt {b : Nat → Nat} {n s : Nat} (h : s < n) (hs : sta b s = true) : cw (sta b) (nxt b n s) = cw (sta b) s + 1 := by
  obtain ⟨h1, h2, h3⟩ := nxt_b (b := b) h
  have := cw_skip (p := sta b) (a := s + 1) (nxt b n s - (s + 1)) (fun j q1 q2 => h3 j (by omega) (by omega))
  rw [show s + 1 + (nxt b n s - (s + 1)) = nxt b n s by omega, cw_t hs] at this
  exact this
theorem kd_1 {b : Nat → Nat} {n : Nat} : kdp b n n = 1 := if_pos (Nat.le_refl n)
theorem TK.kind {u : sm_M} {b : Nat → Nat} {n s : Nat} (h : TK u b n) (hp : Pos b n s) : sm_I u 229 (cw (sta b) s) = nI s ∧ sm_I u 230 (cw (sta b) s) = nI (kdp b n s) := by
  rcases hp with rfl | ⟨h1, h2⟩
  · exact ⟨h.2.1, by rw [kd_1]; exact h.2.2⟩
  · exact ⟨(h.1.2 s h1 h2).1, (h.1.2 s h1 h2).2.1⟩
theorem wkd_v {b : Nat → Nat} {i j : Nat} : ∀ k w, wkd b i j k w = 0 ∨ ∃ x, w ≤ x ∧ x < w + k ∧ wkd b i j k w = 200 + x ∧ spl b i j x = true
  | 0, _ => Or.inl rfl
  | k + 1, w => by
    unfold wkd
    by_cases q : spl b i j w = true
    · rw [if_pos q]
      exact Or.inr ⟨w, Nat.le_refl w, by omega, rfl, q⟩
    · rw [if_neg q]
      rcases wkd_v (b := b) (i := i) (j := j) k (w + 1) with h | ⟨x, h1, h2, h3, h4⟩
      · exact Or.inl h
      · exact Or.inr ⟨x, by omega, by omega, h3, h4⟩
theorem sgn_v (c z : Nat) : sgn c z = 0 ∨ sgn c z = 3 ∨ sgn c z = 4 ∨ sgn c z = c ∧ isG c = true ∧ z ≠ 2 := by
  unfold sgn
  by_cases h : z = 2
  · rw [if_pos h]
    by_cases h2 : c = 60
    · rw [if_pos h2]; exact Or.inr (Or.inl rfl)
    · rw [if_neg h2]; exact Or.inr (Or.inr (Or.inl rfl))
  · rw [if_neg h]
    by_cases h2 : isG c = true
    · rw [if_pos h2]; exact Or.inr (Or.inr (Or.inr ⟨rfl, h2, h⟩))
    · rw [if_neg h2]; exact Or.inl rfl
theorem isG_v {c : Nat} (h : isG c = true) : 35 ≤ c ∧ c ≤ 62 := by
  unfold isG at h
  simp only [Bool.or_eq_true, decide_eq_true_eq] at h
  omega
theorem kd_c {b : Nat → Nat} {n s : Nat} : (n ≤ s ∧ kdp b n s = 1) ∨ (s < n ∧ isD (b s) = true ∧ kdp b n s = 2) ∨ (s < n ∧ isD (b s) = false ∧ isL (b s) = true ∧ kdp b n s = wkd b s (enp b n s) 22 0) ∨ (s < n ∧ isD (b s) = false ∧ isL (b s) = false ∧ kdp b n s = sgn (b s) (enp b n s - s)) := by
  unfold kdp
  generalize wkd b s (enp b n s) 22 0 = W
  generalize sgn (b s) (enp b n s - s) = G
  by_cases h1 : n ≤ s
  · exact Or.inl ⟨h1, if_pos h1⟩
  · rw [if_neg h1]
    cases h2 : isD (b s) with
    | true => exact Or.inr (Or.inl ⟨by omega, rfl, rfl⟩)
    | false =>
      cases h3 : isL (b s) with
      | true => exact Or.inr (Or.inr (Or.inl ⟨by omega, rfl, rfl, rfl⟩))
      | false => exact Or.inr (Or.inr (Or.inr ⟨by omega, rfl, rfl, rfl⟩))
theorem sg_b {c z : Nat} : sgn c z = 0 ∨ sgn c z = 3 ∨ sgn c z = 4 ∨ 35 ≤ sgn c z ∧ sgn c z ≤ 62 := by
  rcases sgn_v c z with h | h | h | ⟨h, h2, -⟩
  · exact Or.inl h
  · exact Or.inr (Or.inl h)
  · exact Or.inr (Or.inr (Or.inl h))
  · rw [h]
    exact Or.inr (Or.inr (Or.inr (isG_v h2)))
theorem wk_b {b : Nat → Nat} {i j : Nat} : wkd b i j 22 0 = 0 ∨ 200 ≤ wkd b i j 22 0 ∧ wkd b i j 22 0 < 222 := by
  rcases wkd_v (b := b) (i := i) (j := j) 22 0 with h | ⟨x, h1, h2, h3, -⟩
  · exact Or.inl h
  · rw [h3]
    exact Or.inr ⟨by omega, by omega⟩
theorem kd_lt {b : Nat → Nat} {n s : Nat} : kdp b n s < 222 := by
  rcases kd_c (b := b) (n := n) (s := s) with ⟨-, h⟩ | ⟨-, -, h⟩ | ⟨-, -, -, h⟩ | ⟨-, -, -, h⟩
  · rw [h]; decide
  · rw [h]; decide
  · rw [h]
    have := wk_b (b := b) (i := s) (j := enp b n s)
    generalize wkd b s (enp b n s) 22 0 = W at *
    omega
  · rw [h]
    have := sg_b (c := b s) (z := enp b n s - s)
    generalize sgn (b s) (enp b n s - s) = G at *
    omega
theorem kd_2 {b : Nat → Nat} {n s : Nat} : kdp b n s = 2 ↔ s < n ∧ isD (b s) = true := by
  rcases kd_c (b := b) (n := n) (s := s) with ⟨g1, h⟩ | ⟨g1, g2, h⟩ | ⟨g1, g2, -, h⟩ | ⟨g1, g2, -, h⟩
  · rw [h]
    exact ⟨fun q => (by cases q), fun q => (by omega)⟩
  · exact ⟨fun _ => ⟨g1, g2⟩, fun _ => h⟩
  · rw [h, g2]
    have := wk_b (b := b) (i := s) (j := enp b n s)
    generalize wkd b s (enp b n s) 22 0 = W at *
    exact ⟨fun q => by omega, fun q => by cases q.2⟩
  · rw [h, g2]
    have := sg_b (c := b s) (z := enp b n s - s)
    generalize sgn (b s) (enp b n s - s) = G at *
    exact ⟨fun q => by omega, fun q => by cases q.2⟩
theorem vl_le {b : Nat → Nat} {n s : Nat} : vlp b n s ≤ 10000 := nmv_le b _ _ _ (by omega)
theorem kn_lt {b : Nat → Nat} {n : Nat} {σ : Rst} : kn b n σ < 222 := by
  unfold kn
  split
  · exact kd_lt
  · decide
