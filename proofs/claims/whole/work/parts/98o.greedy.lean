/-! laying out: the first of the best codes is the greedy one -/
def nf (p : Nat → Bool) : Nat → Nat → Nat
  | 0, i => i
  | k + 1, i => if p i = true then i else nf p k (i + 1)
theorem nf_sp (p : Nat → Bool) : ∀ k i, i ≤ nf p k i ∧ nf p k i ≤ i + k ∧ (nf p k i < i + k → p (nf p k i) = true) ∧ ∀ r, i ≤ r → r < nf p k i → ¬ p r = true
  | 0, i => ⟨Nat.le_refl _, Nat.le_refl _, fun h => absurd h (Nat.lt_irrefl i), fun r h1 h2 => absurd h2 (Nat.not_lt.mpr h1)⟩
  | k + 1, i => by
    unfold nf
    by_cases h : p i = true
    · rw [if_pos h]
      exact ⟨Nat.le_refl _, by omega, fun _ => h, fun r h1 h2 => by omega⟩
    · rw [if_neg h]
      obtain ⟨a, b, c, d⟩ := nf_sp p k (i + 1)
      refine ⟨by omega, by omega, fun q => c (by omega), fun r h1 h2 => ?_⟩
      by_cases e : r = i
      · subst e; exact h
      · exact d r (by omega) h2
def pr (R : Nat) (c : Nat → Nat) (S : Nat) (L : List Nat) (due r : Nat) : Bool := S.testBit r && decide (1 ≤ c r) && decide (mc R (dc c r) L + 1 = due)
theorem pr_t {R : Nat} {c : Nat → Nat} {S : Nat} {L : List Nat} {due r : Nat} : pr R c S L due r = true ↔ S.testBit r = true ∧ 1 ≤ c r ∧ mc R (dc c r) L + 1 = due := by
  unfold pr
  simp only [Bool.and_eq_true, decide_eq_true_eq, and_assoc]
def dcr (R : Nat) (c : Nat → Nat) (r : Nat) : Nat → Nat := if r < R then dc c r else c
def gr1 (R : Nat) (c : Nat → Nat) (S : Nat) (L : List Nat) : Nat := nf (pr R c S L (mc R c (S :: L))) R 0
def gr (R : Nat) : (Nat → Nat) → List Nat → List Nat
  | _, [] => []
  | c, S :: L => gr1 R c S L :: gr R (dcr R c (gr1 R c S L)) L
theorem gr1_le {R : Nat} {c : Nat → Nat} {S : Nat} {L : List Nat} : gr1 R c S L ≤ R := by
  have := (nf_sp (pr R c S L (mc R c (S :: L))) R 0).2.1
  unfold gr1
  omega
theorem gr1_s {R : Nat} {c : Nat → Nat} {S : Nat} {L : List Nat} (h : gr1 R c S L < R) : S.testBit (gr1 R c S L) = true ∧ 1 ≤ c (gr1 R c S L) ∧ mc R (dc c (gr1 R c S L)) L + 1 = mc R c (S :: L) :=
  pr_t.mp ((nf_sp (pr R c S L (mc R c (S :: L))) R 0).2.2.1 (by unfold gr1 at h; omega))
theorem gr1_n {R : Nat} {c : Nat → Nat} {S : Nat} {L : List Nat} {r : Nat} (hr : r < gr1 R c S L) (h1 : S.testBit r = true) (h2 : 1 ≤ c r) : mc R (dc c r) L + 1 ≠ mc R c (S :: L) :=
  fun q => (nf_sp (pr R c S L (mc R c (S :: L))) R 0).2.2.2 r (Nat.zero_le r) hr (pr_t.mpr ⟨h1, h2, q⟩)
theorem gr1_o {R : Nat} {c : Nat → Nat} {S : Nat} {L : List Nat} (hL : L.length < 9) (h : ¬ gr1 R c S L < R) : mc R c (S :: L) = mc R c L := by
  rcases mcq_3 (R := R) (c := c) (S := S) hL with e | ⟨r, h1, h2, h3, h4⟩
  · exact e
  · exact absurd h4 (gr1_n (by omega) h2 h3)
def okk (R : Nat) : List Nat → List Nat → Prop
  | [], [] => True
  | d :: ds, S :: L => (d < R → S.testBit d = true) ∧ d ≤ R ∧ okk R ds L
  | _, _ => False
def fl (r : Nat) : List Nat → Nat
  | [] => 0
  | d :: ds => (if d = r then 1 else 0) + fl r ds
def ct (R : Nat) : List Nat → Nat
  | [] => 0
  | d :: ds => (if d < R then 1 else 0) + ct R ds
def Vd (R : Nat) (c : Nat → Nat) (ds L : List Nat) : Prop := okk R ds L ∧ ∀ r, r < R → fl r ds ≤ c r
theorem vd_c {R : Nat} {c : Nat → Nat} {d : Nat} {ds : List Nat} {S : Nat} {L : List Nat} : Vd R c (d :: ds) (S :: L) ↔ (d = R ∧ Vd R c ds L) ∨ (d < R ∧ S.testBit d = true ∧ 1 ≤ c d ∧ Vd R (dc c d) ds L) := by
  constructor
  · rintro ⟨⟨h1, h2, h3⟩, h4⟩
    by_cases q : d = R
    · refine Or.inl ⟨q, h3, fun r hr => ?_⟩
      have := h4 r hr
      unfold fl at this
      omega
    · have hd : d < R := by omega
      have g := h4 d hd
      unfold fl at g
      rw [if_pos rfl] at g
      refine Or.inr ⟨hd, h1 hd, by omega, h3, fun r hr => ?_⟩
      have g2 := h4 r hr
      unfold fl at g2
      unfold dc
      by_cases e : r = d
      · subst e
        rw [if_pos rfl] at g2 ⊢
        omega
      · rw [if_neg (fun z => e z.symm)] at g2
        rw [if_neg e]
        omega
  · rintro (⟨h1, h2, h3⟩ | ⟨h1, h2, h3, h4, h5⟩)
    · subst h1
      refine ⟨⟨fun q => absurd q (Nat.lt_irrefl d), Nat.le_refl d, h2⟩, fun r hr => ?_⟩
      have := h3 r hr
      unfold fl
      rw [if_neg (by omega)]
      omega
    · refine ⟨⟨fun _ => h2, by omega, h4⟩, fun r hr => ?_⟩
      have g := h5 r hr
      unfold dc at g
      unfold fl
      by_cases e : r = d
      · subst e
        rw [if_pos rfl] at g ⊢
        omega
      · rw [if_neg e] at g
        rw [if_neg (fun z => e z.symm)]
        omega
theorem vd_ub {R : Nat} : ∀ (L ds : List Nat) (c : Nat → Nat), L.length < 10 → Vd R c ds L → ct R ds ≤ mc R c L
  | [], [], c, _, _ => Nat.zero_le _
  | [], d :: ds, c, _, h => h.1.elim
  | S :: L, [], c, _, h => h.1.elim
  | S :: L, d :: ds, c, hL, h => by
    have hL : L.length < 9 := by simp only [List.length_cons] at hL; omega
    unfold ct
    rcases vd_c.mp h with ⟨h1, h2⟩ | ⟨h1, h2, h3, h4⟩
    · have g := vd_ub L ds c (by omega) h2
      have g2 := mcq_1 (R := R) (c := c) (S := S) hL
      rw [if_neg (by omega)]
      omega
    · have g := vd_ub L ds _ (by omega) h4
      have g2 := mcq_2 (R := R) (c := c) hL h1 h2 h3
      rw [if_pos h1]
      omega
theorem gr_len (R : Nat) : ∀ (L : List Nat) (c : Nat → Nat), (gr R c L).length = L.length
  | [], _ => rfl
  | S :: L, c => by
    unfold gr
    simp only [List.length_cons]
    rw [gr_len R L]
theorem gr_best {R : Nat} : ∀ (L : List Nat) (c : Nat → Nat), L.length < 10 → Vd R c (gr R c L) L ∧ ct R (gr R c L) = mc R c L
  | [], c, _ => by
    refine ⟨⟨trivial, fun r _ => Nat.zero_le _⟩, ?_⟩
    have := mc_le (R := R) (c := c) (L := []) (X := 0) (Nat.pow_pos (by omega))
    unfold cut at this
    rw [sx_0] at this
    unfold cv at this
    show 0 = _
    omega
  | S :: L, c, hL => by
    have hL : L.length < 9 := by simp only [List.length_cons] at hL; omega
    unfold gr
    obtain ⟨g1, g2⟩ := gr_best L (dcr R c (gr1 R c S L)) (by omega)
    by_cases h : gr1 R c S L < R
    · obtain ⟨s1, s2, s3⟩ := gr1_s h
      have e : dcr R c (gr1 R c S L) = dc c (gr1 R c S L) := if_pos h
      rw [e] at g1 g2 ⊢
      refine ⟨vd_c.mpr (Or.inr ⟨h, s1, s2, g1⟩), ?_⟩
      unfold ct
      rw [if_pos h, g2]
      omega
    · have s := gr1_o hL h
      have e : dcr R c (gr1 R c S L) = c := if_neg h
      rw [e] at g1 g2 ⊢
      have hle := gr1_le (R := R) (c := c) (S := S) (L := L)
      refine ⟨vd_c.mpr (Or.inl ⟨by omega, g1⟩), ?_⟩
      unfold ct
      rw [if_neg h, g2]
      omega
/-- codes -/
def dgl (B : Nat) : Nat → Nat → List Nat
  | 0, _ => []
  | m + 1, x => (x / B ^ m % B) :: dgl B m x
theorem dgl_len (B : Nat) : ∀ m x, (dgl B m x).length = m
  | 0, _ => rfl
  | m + 1, x => by unfold dgl; rw [List.length_cons, dgl_len B m x]
theorem dgl_mod (B : Nat) : ∀ m x y, x % B ^ m = y % B ^ m → dgl B m x = dgl B m y
  | 0, _, _, _ => rfl
  | m + 1, x, y, h => by
    unfold dgl
    have e1 : x / B ^ m % B = y / B ^ m % B := by
      rw [← Nat.mod_mul_right_div_self, ← Nat.mod_mul_right_div_self, ← Nat.pow_succ, h]
    have e2 : x % B ^ m = y % B ^ m := by
      have d : B ^ m ∣ B ^ (m + 1) := ⟨B, Nat.pow_succ B m⟩
      rw [← Nat.mod_mod_of_dvd x d, ← Nat.mod_mod_of_dvd y d, h]
    rw [e1, dgl_mod B m x y e2]
def cod (B : Nat) : List Nat → Nat
  | [] => 0
  | d :: ds => d * B ^ ds.length + cod B ds
def alt (B : Nat) : List Nat → Prop
  | [] => True
  | d :: ds => d < B ∧ alt B ds
theorem cod_lt {B : Nat} : ∀ ds : List Nat, alt B ds → cod B ds < B ^ ds.length
  | [], _ => Nat.zero_lt_one
  | d :: ds, h => by
    have ih := cod_lt ds h.2
    have h1 := h.1
    unfold cod
    rw [List.length_cons, Nat.pow_succ]
    have : (d + 1) * B ^ ds.length ≤ B * B ^ ds.length := Nat.mul_le_mul_right _ h1
    rw [Nat.succ_mul] at this
    rw [Nat.mul_comm (B ^ ds.length) B]
    omega
theorem dgl_cod {B : Nat} : ∀ ds : List Nat, alt B ds → dgl B ds.length (cod B ds) = ds
  | [], _ => rfl
  | d :: ds, h => by
    have ih := dgl_cod ds h.2
    have hl := cod_lt ds h.2
    have hp : 0 < B ^ ds.length := Nat.pow_pos (Nat.lt_of_le_of_lt (Nat.zero_le d) h.1)
    rw [List.length_cons]
    unfold dgl
    have e1 : cod B (d :: ds) / B ^ ds.length % B = d := by
      unfold cod
      rw [Nat.mul_comm, Nat.mul_add_div hp, Nat.div_eq_of_lt hl, Nat.add_zero, Nat.mod_eq_of_lt h.1]
    have e2 : dgl B ds.length (cod B (d :: ds)) = dgl B ds.length (cod B ds) := by
      apply dgl_mod
      show (d * B ^ ds.length + cod B ds) % B ^ ds.length = _
      rw [Nat.mul_comm, Nat.mul_add_mod]
    rw [e1, e2, ih]
/-- a code ahead of the greedy one lays fewer -/
theorem dgl_lt {R : Nat} : ∀ (L : List Nat) (c : Nat → Nat) (x : Nat), L.length < 10 → x < cod (R + 1) (gr R c L) → Vd R c (dgl (R + 1) L.length x) L → ct R (dgl (R + 1) L.length x) < mc R c L
  | [], c, x, _, hx, _ => absurd hx (Nat.not_lt_zero x)
  | S :: L, c, x, hL, hx, hv => by
    have hL : L.length < 9 := by simp only [List.length_cons] at hL; omega
    unfold gr cod at hx
    rw [gr_len] at hx
    rw [List.length_cons] at hv ⊢
    unfold dgl at hv ⊢
    have hB : 0 < (R + 1) ^ L.length := Nat.pow_pos (by omega)
    have hg := gr1_le (R := R) (c := c) (S := S) (L := L)
    have hal : ∀ (L : List Nat) (c : Nat → Nat), alt (R + 1) (gr R c L) := by
      intro L
      induction L with
      | nil => intro c; exact trivial
      | cons S L ih => intro c; exact ⟨Nat.lt_succ_of_le gr1_le, ih _⟩
    have hcl := cod_lt _ (hal L (dcr R c (gr1 R c S L)))
    rw [gr_len] at hcl
    have hd := Nat.div_add_mod x ((R + 1) ^ L.length)
    have hm := Nat.mod_lt x hB
    generalize hdd : x / (R + 1) ^ L.length = d at *
    have hdl : d ≤ gr1 R c S L := by
      rcases Nat.lt_or_ge (gr1 R c S L) d with q | q
      · exfalso
        have a : (gr1 R c S L + 1) * (R + 1) ^ L.length ≤ d * (R + 1) ^ L.length := Nat.mul_le_mul_right _ q
        rw [Nat.succ_mul] at a
        rw [Nat.mul_comm ((R + 1) ^ L.length) d] at hd
        generalize x % (R + 1) ^ L.length = y at hd hm
        omega
      · exact q
    have hdm : d % (R + 1) = d := Nat.mod_eq_of_lt (by omega)
    rw [hdm] at hv ⊢
    unfold ct
    rcases Nat.lt_or_ge d (gr1 R c S L) with q | q
    · -- a lower room
      rcases vd_c.mp hv with ⟨h1, h2⟩ | ⟨h1, h2, h3, h4⟩
      · omega
      · have g := vd_ub L _ _ (by omega) h4
        have g2 := mcq_2 (R := R) (c := c) hL h1 h2 h3
        have g3 := gr1_n q h2 h3
        rw [if_pos h1]
        omega
    · have hde : d = gr1 R c S L := by omega
      have hx2 : x % (R + 1) ^ L.length < cod (R + 1) (gr R (dcr R c (gr1 R c S L)) L) := by
        rw [Nat.mul_comm ((R + 1) ^ L.length) d, hde] at hd
        generalize x % (R + 1) ^ L.length = y at hd hm ⊢
        omega
      have hmm : dgl (R + 1) L.length (x % (R + 1) ^ L.length) = dgl (R + 1) L.length x := dgl_mod _ _ _ _ (Nat.mod_mod _ _)
      have ih := dgl_lt L (dcr R c (gr1 R c S L)) _ (by omega) hx2
      rw [hmm] at ih
      rcases vd_c.mp hv with ⟨h1, h2⟩ | ⟨h1, h2, h3, h4⟩
      · have hn : ¬ gr1 R c S L < R := by omega
        have e : dcr R c (gr1 R c S L) = c := if_neg hn
        rw [e] at ih
        have := ih h2
        have s := gr1_o hL hn
        rw [if_neg (by omega)]
        omega
      · have hn : gr1 R c S L < R := by omega
        have e : dcr R c (gr1 R c S L) = dc c (gr1 R c S L) := if_pos hn
        rw [e] at ih
        rw [hde] at h4
        have := ih h4
        have s := (gr1_s hn).2.2
        rw [if_pos h1]
        omega
theorem gr_alt {R : Nat} : ∀ (L : List Nat) (c : Nat → Nat), alt (R + 1) (gr R c L)
  | [], _ => trivial
  | S :: L, c => ⟨Nat.lt_succ_of_le gr1_le, gr_alt L _⟩
theorem bm_first {p : Nat → Bool} {g : Nat → Nat} {t : Nat} (h1 : p t = true) : ∀ k, (∀ w, w < k → p w = true → g w ≤ g t) → (∀ w, w < t → p w = true → g w < g t) → (k ≤ t → ∀ b, bm p g k = some b → b < t ∧ p b = true) ∧ (t < k → bm p g k = some t)
  | 0, _, _ => ⟨fun _ b h => (by cases h), fun h => absurd h (Nat.not_lt_zero t)⟩
  | k + 1, h2, h3 => by
    obtain ⟨i1, i2⟩ := bm_first h1 k (fun w hw => h2 w (by omega)) h3
    constructor
    · intro hk b hb
      by_cases hp : p k = true
      · cases hn : bm p g k with
        | none =>
          rw [bm_n hp hn] at hb
          cases hb
          exact ⟨by omega, hp⟩
        | some x =>
          rw [bm_s hp hn] at hb
          obtain ⟨j1, j2⟩ := i1 (by omega) x hn
          split at hb
          · cases hb
            exact ⟨by omega, hp⟩
          · cases hb
            exact ⟨j1, j2⟩
      · rw [bm_f hp] at hb
        exact i1 (by omega) b hb
    · intro hk
      by_cases e : t = k
      · subst e
        cases hn : bm p g t with
        | none => exact bm_n h1 hn
        | some x =>
          obtain ⟨j1, j2⟩ := i1 (by omega) x hn
          rw [bm_s h1 hn, if_pos (h3 x j1 j2)]
      · have j := i2 (by omega)
        by_cases hp : p k = true
        · rw [bm_s hp j, if_neg (by have := h2 k (by omega) hp; omega)]
        · rw [bm_f hp]
          exact j
/-- the members of a set, from i on -/
def ml (f : Nat → Nat) (s : Nat) : Nat → Nat → List Nat
  | 0, _ => []
  | k + 1, i => if s.testBit i = true then f i :: ml f s k (i + 1) else ml f s k (i + 1)
theorem ml_cg {f g : Nat → Nat} {s t : Nat} : ∀ k i, (∀ x, i ≤ x → x < i + k → s.testBit x = t.testBit x) → (∀ x, i ≤ x → x < i + k → s.testBit x = true → f x = g x) → ml f s k i = ml g t k i
  | 0, _, _, _ => rfl
  | k + 1, i, h, h' => by
    unfold ml
    rw [ml_cg k (i + 1) (fun x h1 h2 => h x (by omega) (by omega)) (fun x h1 h2 => h' x (by omega) (by omega)), ← h i (Nat.le_refl i) (by omega)]
    by_cases q : s.testBit i = true
    · rw [if_pos q, if_pos q, h' i (Nat.le_refl i) (by omega) q]
    · rw [if_neg q, if_neg q]
theorem ml_skip {f : Nat → Nat} {s : Nat} : ∀ a k j, (∀ x, j ≤ x → x < j + a → s.testBit x = false) → ml f s (a + k) j = ml f s k (j + a)
  | 0, k, j, _ => by rw [Nat.zero_add, Nat.add_zero]
  | a + 1, k, j, h => by
    have e := h j (Nat.le_refl j) (by omega)
    rw [show a + 1 + k = a + k + 1 by omega]
    rw [show ml f s (a + k + 1) j = ml f s (a + k) (j + 1) from if_neg (by rw [e]; simp), ml_skip a k (j + 1) (fun x h1 h2 => h x (by omega) (by omega)), show j + 1 + a = j + (a + 1) by omega]
theorem ml_rest {f : Nat → Nat} {s t i k : Nat} (h : ∀ x, t.testBit x = (s.testBit x && decide (i ≤ x))) : ml f t (i + k) 0 = ml f s k i := by
  rw [ml_skip i k 0 (fun x _ hx => by rw [h x, decide_eq_false (by omega), Bool.and_false]), Nat.zero_add]
  exact ml_cg k i (fun x hx _ => by rw [h x, decide_eq_true hx, Bool.and_true]) (fun _ _ _ _ => rfl)
theorem ml_map {f : Nat → Nat} {s : Nat} : ∀ k i, ml f s k i = (ml id s k i).map f
  | 0, _ => rfl
  | k + 1, i => by
    unfold ml
    by_cases q : s.testBit i = true
    · rw [if_pos q, if_pos q, List.map_cons, ml_map k (i + 1)]
      rfl
    · rw [if_neg q, if_neg q, ml_map k (i + 1)]
theorem ml_len {f : Nat → Nat} {s : Nat} : ∀ k i, (ml f s k i).length + cw (fun x => s.testBit x) i = cw (fun x => s.testBit x) (i + k)
  | 0, i => Nat.zero_add _
  | k + 1, i => by
    have ih := ml_len (f := f) (s := s) k (i + 1)
    rw [show i + 1 + k = i + (k + 1) by omega] at ih
    unfold ml
    by_cases q : s.testBit i = true
    · rw [if_pos q, List.length_cons]
      rw [cw_t (p := fun x => s.testBit x) q] at ih
      omega
    · rw [if_neg q]
      rw [cw_f (p := fun x => s.testBit x) q] at ih
      omega
theorem ml_cv {R : Nat} {f : Nat → Nat} {s X : Nat} : ∀ k i, cw (fun x => s.testBit x && ns (f x) X R) i + cv R (ml f s k i) X = cw (fun x => s.testBit x && ns (f x) X R) (i + k)
  | 0, i => rfl
  | k + 1, i => by
    have ih := ml_cv (R := R) (f := f) (s := s) (X := X) k (i + 1)
    rw [show i + 1 + k = i + (k + 1) by omega] at ih
    unfold ml
    by_cases q : s.testBit i = true
    · rw [if_pos q]
      unfold cv
      cases hn : ns (f i) X R with
      | true =>
        rw [cw_t (p := fun x => s.testBit x && ns (f x) X R) (by simp only [q, hn, Bool.and_self])] at ih
        rw [if_pos rfl]
        omega
      | false =>
        rw [cw_f (p := fun x => s.testBit x && ns (f x) X R) (by simp only [q, hn, Bool.and_false]; simp)] at ih
        rw [if_neg (by simp)]
        omega
    · rw [if_neg q]
      rw [cw_f (p := fun x => s.testBit x && ns (f x) X R) (by simp only [Bool.and_eq_true]; exact fun z => q z.1)] at ih
      omega
/-- how many of the set lie from i on, below i + j -/
def nb (s : Nat) : Nat → Nat → Nat
  | 0, _ => 0
  | k + 1, i => (if s.testBit i = true then 1 else 0) + nb s k (i + 1)
theorem ml_at {s : Nat} : ∀ j k i, j < k → s.testBit (i + j) = true → nb s j i < (ml id s k i).length ∧ (ml id s k i).getD (nb s j i) 0 = i + j ∧ ∀ x, x < nb s j i → (ml id s k i).getD x 0 < i + j
  | 0, 0, _, h, _ => absurd h (Nat.lt_irrefl 0)
  | 0, k + 1, i, _, hs => by
    have hs : s.testBit i = true := hs
    unfold ml nb
    rw [if_pos hs]
    exact ⟨by simp, rfl, fun x hx => absurd hx (Nat.not_lt_zero x)⟩
  | j + 1, 0, _, h, _ => absurd h (Nat.not_lt_zero _)
  | j + 1, k + 1, i, h, hs => by
    obtain ⟨a, b, c⟩ := ml_at (s := s) j k (i + 1) (by omega) (by rw [show i + 1 + j = i + (j + 1) by omega]; exact hs)
    unfold ml nb
    by_cases q : s.testBit i = true
    · rw [if_pos q, if_pos q]
      refine ⟨by rw [List.length_cons]; omega, ?_, fun x hx => ?_⟩
      · rw [Nat.add_comm 1, List.getD_cons_succ, b]
        omega
      · cases x with
        | zero => show i < _; omega
        | succ x =>
          rw [List.getD_cons_succ]
          have := c x (by omega)
          omega
    · rw [if_neg q, if_neg q, Nat.zero_add]
      exact ⟨a, by rw [b]; omega, fun x hx => by have := c x hx; omega⟩
