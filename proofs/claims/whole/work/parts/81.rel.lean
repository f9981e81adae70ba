/-! the relation between the class and the reference -/
/-- rows of the memory: the ints of a cell -/
abbrev rw_ (u : sm_M) (a : Nat) : Nat → Int32 := u.2.2.1 a
def nC (A : Nat → Int32) : Nat := (A 0).toNatClampNeg
def nP (A : Nat → Int32) : Nat := (A 1).toNatClampNeg
def nR (A : Nat → Int32) : Nat := (A 2).toNatClampNeg
def nH (A : Nat → Int32) : Nat := (A 3).toNatClampNeg
def nT (A : Nat → Int32) : Nat := (A 5).toNatClampNeg
def nS (A : Nat → Int32) : Nat := (A 7).toNatClampNeg
def nF (A : Nat → Int32) : Nat := (A 8).toNatClampNeg
/-- a standing as a block: 0 choices 1 pieces 2 rooms 3 x, 4 .. bits, 12 .. ways, 18 .. places -/
def lvb (A : Nat → Int32) (k : Nat) : Int32 :=
  if k < 3 then A k else if k = 3 then A 4 else if k < 12 then A (12 + 3 * (k - 4)) else if k < 18 then A (86 + 3 * (k - 12)) else A (40 + 5 * (k - 18))
def blk (A : Nat → Int32) (i k : Nat) : Int32 := A (152 + 28 * i + k)
/-- the bits of a block, packed -/
def pkb (B : Nat → Int32) : Nat → Nat
  | 0 => 0
  | c + 1 => pkb B c + (B (4 + c)).toNatClampNeg * 2 ^ c
def wasN (A : Nat → Int32) : Nat := pkb (lvb A) (nC A)
/-- -1, or a number below m -/
def opt (v : Int32) (m : Nat) : Prop := v = Int32.ofInt (-1) ∨ ∃ n, n < m ∧ v = nI n
def lt_ (v : Int32) (m : Nat) : Prop := ∃ n, n < m ∧ v = nI n
/-- a block is well formed -/
def WB (B : Nat → Int32) : Prop :=
  (B 0 = nI (nC B) ∧ nC B ≤ 8) ∧ (B 1 = nI (nP B) ∧ nP B ≤ 10) ∧ (B 2 = nI (nR B) ∧ nR B ≤ 6) ∧ lt_ (B 3) 30319 ∧
  (∀ c, c < nC B → lt_ (B (4 + c)) 2) ∧ (∀ r, r < nR B → lt_ (B (12 + r)) (2 ^ nC B)) ∧ (∀ p, p < nP B → opt (B (18 + p)) (nR B))
/-- what was told between two blocks is as it was told -/
def TC (A B D : Nat → Int32) : Prop :=
  nC B ≤ nC D ∧ nP B ≤ nP D ∧ nR B ≤ nR D ∧ (∀ c, nC B ≤ c → c < nC D → D (4 + c) = A (14 + 3 * c)) ∧ (∀ r, nR B ≤ r → r < nR D → D (12 + r) = A (88 + 3 * r)) ∧ (∀ p, nP B ≤ p → p < nP D → D (18 + p) = Int32.ofInt (-1))
/-- the i-th block; behind the last one what is now -/
def bk (A : Nat → Int32) (i : Nat) : Nat → Int32 := if i < nS A then blk A i else lvb A
/-- the reference's array is well formed -/
def MA (A : Nat → Int32) : Prop :=
  WB (lvb A) ∧ (A 3 = nI (nH A) ∧ nH A ≤ 8) ∧ (A 5 = nI (nT A) ∧ nT A ≤ 4) ∧ opt (A 6) (nT A) ∧ (A 7 = nI (nS A) ∧ nS A ≤ 30) ∧ (A 8 = nI (nF A) ∧ nF A ≤ 8) ∧
  (∀ c, c < nC A → lt_ (A (13 + 3 * c)) 11 ∧ lt_ (A (14 + 3 * c)) 2) ∧
  (∀ p, p < nP A → lt_ (A (36 + 5 * p)) 256 ∧ lt_ (A (37 + 5 * p)) 256 ∧ lt_ (A (38 + 5 * p)) 1024 ∧ lt_ (A (39 + 5 * p)) 1024) ∧
  (∀ r, r < nR A → lt_ (A (87 + 3 * r)) 10 ∧ A (87 + 3 * r) ≠ nI 0 ∧ lt_ (A (88 + 3 * r)) (2 ^ nC A)) ∧
  (∀ h, h < nH A → opt (A (104 + 3 * h)) 10 ∧ opt (A (105 + 3 * h)) 10 ∧ opt (A (106 + 3 * h)) h) ∧
  (∀ f, f < nF A → lt_ (A (130 + 3 * f)) 2 ∧ (A (129 + 3 * f) = nI 1 ∧ lt_ (A (128 + 3 * f)) 10 ∨ A (129 + 3 * f) = nI 0 ∧ lt_ (A (128 + 3 * f)) (nC A))) ∧
  (∀ i, i < nS A → WB (blk A i) ∧ TC A (blk A i) (bk A (i + 1)))
/-- a standing of the class (its cell q, its arrays q + 1, q + 2) and a block -/
def SR (C : Nat → Nat → Int32) (q : Nat) (B : Nat → Int32) : Prop :=
  C q 0 = B 0 ∧ C q 1 = B 1 ∧ C q 2 = B 2 ∧ C q 3 = nI (pkb B (nC B)) ∧ C q 4 = B 3 ∧ (∀ r, r < nR B → C (q + 1) r = B (12 + r)) ∧ (∀ p, p < nP B → C (q + 2) p = B (18 + p))
/-- the sets that the first n facts ask for: 0 one 1 nought 2 comes 3 not -/
def knw (A : Nat → Int32) (j : Nat) : Nat → Nat
  | 0 => 0
  | n + 1 => if A (129 + 3 * n) = nI (j / 2) ∧ A (130 + 3 * n) = nI (1 - j % 2) then knw A j n ||| 2 ^ (A (128 + 3 * n)).toNatClampNeg else knw A j n
/-- a museum of the class, at cell m, and an array of the reference -/
def MR (C : Nat → Nat → Int32) (m : Nat) (A : Nat → Int32) : Prop :=
  SR C (m + 1) (lvb A) ∧ (∃ f, f < 30 ∧ C (m + 4) 1 = nI f ∧ C (m + 4) 2 = A 7 ∧ ∀ i, i < nS A → SR C (m + 6 + 3 * ((f + i) % 30)) (blk A i)) ∧
  (C m 9 = A 3 ∧ C m 10 = A 8 ∧ C m 11 = A 5 ∧ C m 12 = A 6) ∧
  (∀ c, c < nC A → C (m + 96) c = A (13 + 3 * c)) ∧ (∀ r, r < nR A → C (m + 98) r = A (87 + 3 * r)) ∧
  (∀ h, h < nH A → C (m + 99) h = A (104 + 3 * h) ∧ C (m + 100) h = A (105 + 3 * h) ∧ C (m + 101) h = A (106 + 3 * h)) ∧
  (∀ p, p < nP A → ∀ k, k < 4 → C (m + 103 + p) k = A (36 + 5 * p + k)) ∧ (∀ j, j < 4 → C (m + 102) j = nI (knw A j (nF A)))
/-! what a text says of a way -/
def cl6 (x : Int) : Int := if x > 1000000 then 1000000 else if x < -1000000 then -1000000 else x
def cmp_ (o : Nat) (x y : Int) : Bool := if o = 10 then decide (x < y) else if o = 11 then decide (x ≤ y) else if o = 12 then decide (x > y) else if o = 13 then decide (x ≥ y) else if o = 14 then decide (x = y) else decide (x ≠ y)
def two_ (o : Nat) (x y : Int) : Int := if o = 6 then cl6 (x + y) else if o = 7 then cl6 (x - y) else if o = 8 then cl6 (x * y) else if y = 0 then 0 else cl6 (x.tdiv y)
def so_ (o : Nat) (x y : Bool) : Bool := if o = 21 then x && y else if o = 22 then x || y else y || !x
def ctr : List Bool → Int
  | [] => 0
  | b :: r => (if b then 1 else 0) + ctr r
/-- one term: the values and the truths -/
def tm1 (w e : Nat) (o v : Nat) (s : List Int × List Bool) : List Int × List Bool :=
  if o = 0 then ((v : Int) :: s.1, s.2)
  else if o = 1 then ((if v = 0 then (w : Int) else if v = 1 then (cnt w 10 : Int) else (cnt e 10 : Int)) :: s.1, s.2)
  else if o = 2 then (s.1, decide (w / 2 ^ v % 2 = 1) :: s.2)
  else if o = 3 then (s.1, decide (e / 2 ^ v % 2 = 1) :: s.2)
  else if o = 4 then (ctr (s.2.take v) :: s.1, s.2.drop v)
  else if o = 5 then (- s.1.headD 0 :: s.1.drop 1, s.2)
  else if o < 10 then (two_ o ((s.1.drop 1).headD 0) (s.1.headD 0) :: s.1.drop 2, s.2)
  else if o < 20 then (s.1.drop 2, cmp_ o ((s.1.drop 1).headD 0) (s.1.headD 0) :: s.2)
  else if o = 20 then (s.1, (! s.2.headD false) :: s.2.drop 1)
  else (s.1, so_ o ((s.2.drop 1).headD false) (s.2.headD false) :: s.2.drop 2)
def opn (T : Nat → Int32) (t i : Nat) : Nat := (T (705 * t + 97 + 2 * i)).toNatClampNeg
def opv (T : Nat → Int32) (t i : Nat) : Nat := (T (705 * t + 98 + 2 * i)).toNatClampNeg
def tms (T : Nat → Int32) (t w e : Nat) (i : Nat) (s : List Int × List Bool) : List Int × List Bool := tm1 w e (opn T t i) (opv T t i) s
def cl1 (T : Nat → Int32) (t k : Nat) : Nat := (T (705 * t + 2 + 4 * k)).toNatClampNeg
def cl2 (T : Nat → Int32) (t k : Nat) : Nat := (T (705 * t + 3 + 4 * k)).toNatClampNeg
def isSo (T : Nat → Int32) (t k w e : Nat) : Bool := (fd (tms T t w e) (cl2 T t k - cl1 T t k) (cl1 T t k) ([], [])).2.headD false
/-- one clause: the events so far, how many were told, and whether it may be -/
def lay1 (T : Nat → Int32) (t w : Nat) (k : Nat) (s : Nat × Nat × Bool) : Nat × Nat × Bool :=
  if T (705 * t + 1 + 4 * k) = nI 0 then (s.1, s.2.1, isSo T t k w s.1)
  else if T (705 * t + 1 + 4 * k) = nI 1 then ((if isSo T t k w s.1 then s.1 ||| 2 ^ s.2.1 else s.1), s.2.1 + 1, s.2.2)
  else s
def lay (T : Nat → Int32) (t w : Nat) : Nat × Nat × Bool := fd (lay1 T t w) (T (705 * t)).toNatClampNeg 0 (0, 0, true)
/-- by the text that rules -/
def Ev (A T : Nat → Int32) (w : Nat) : Nat := if A 6 = Int32.ofInt (-1) then 0 else (lay T (A 6).toNatClampNeg w).1
def My (A T : Nat → Int32) (w : Nat) : Bool := if A 6 = Int32.ofInt (-1) then true else (lay T (A 6).toNatClampNeg w).2.2
def EvT (T : Nat → Int32) (t w : Nat) : Nat := (lay T t w).1
def MyT (T : Nat → Int32) (t w : Nat) : Bool := (lay T t w).2.2
/-! texts -/
/-- what a term leaves of the kinds of what lies on the pile (true: a truth) -/
def ty1 (o v : Nat) (s : List Bool) : Option (List Bool) :=
  if o ≤ 1 then some (false :: s)
  else if o ≤ 3 then some (true :: s)
  else if o = 4 then (if s.take v = List.replicate v true ∧ 1 ≤ v ∧ v ≤ 6 then some (false :: s.drop v) else none)
  else if o = 5 then (match s with
    | false :: r => some (false :: r)
    | _ => none)
  else if o < 10 then (match s with
    | false :: false :: r => some (false :: r)
    | _ => none)
  else if o < 16 then (match s with
    | false :: false :: r => some (true :: r)
    | _ => none)
  else if o = 20 then (match s with
    | true :: r => some (true :: r)
    | _ => none)
  else if 20 < o ∧ o < 24 then (match s with
    | true :: true :: r => some (true :: r)
    | _ => none)
  else none
def tys (T : Nat → Int32) (t : Nat) : Nat → Nat → List Bool → Option (List Bool)
  | 0, _, s => some s
  | k + 1, i, s => (ty1 (opn T t i) (opv T t i) s).bind (tys T t k (i + 1))
/-- a term of the reference, and that of the class -/
def trm (o v : Nat) : Nat × Nat :=
  if o = 0 then (2, v) else if o = 1 then (219 + v, 0) else if o = 2 then (216, v) else if o = 3 then (217, v) else if o = 4 then (218, v) else if o = 5 then (5, 0)
  else if o = 6 then (43, 0) else if o = 7 then (45, 0) else if o = 8 then (42, 0) else if o = 9 then (47, 0)
  else if o = 10 then (60, 0) else if o = 11 then (3, 0) else if o = 12 then (62, 0) else if o = 13 then (4, 0) else if o = 14 then (61, 0) else if o = 15 then (35, 0)
  else if o = 20 then (215, 0) else if o = 21 then (214, 0) else if o = 22 then (213, 0) else (212, 0)
def trv (o v : Nat) : Prop := (o = 0 → v ≤ 9999) ∧ (o = 1 → v ≤ 2) ∧ (o = 2 → v ≤ 7) ∧ (o = 3 → v ≤ 9) ∧ (o ≤ 15 ∨ 20 ≤ o ∧ o ≤ 23)
/-- kinds of clauses: may event choice room turn set put take -/
def knd (s : Nat) : Nat := if s = 0 then 201 else if s = 1 then 200 else if s = 2 then 202 else if s = 3 then 204 else if s = 4 then 206 else if s = 5 then 207 else if s = 6 then 209 else 211
def evs (T : Nat → Int32) (t : Nat) : Nat → Nat
  | 0 => 0
  | k + 1 => evs T t k + (if T (705 * t + 1 + 4 * k) = nI 1 then 1 else 0)
def nK (T : Nat → Int32) (t : Nat) : Nat := (T (705 * t)).toNatClampNeg
/-- a text of the class, number t, and the reference's; n: how many ways were worked out at least -/
def TT (C : Nat → Nat → Int32) (t n : Nat) : Prop :=
  ∃ sz wo : Nat, sz ≤ 300 ∧ n ≤ wo ∧ wo ≤ 256 ∧ C (236 + 7 * t) 6 = C 278 (705 * t) ∧ C 278 (705 * t) = nI (nK (C 278) t) ∧ nK (C 278) t ≤ 24 ∧
  C (236 + 7 * t) 7 = nI (evs (C 278) t (nK (C 278) t)) ∧ evs (C 278) t (nK (C 278) t) ≤ 10 ∧ C (236 + 7 * t) 8 = nI sz ∧ C (236 + 7 * t) 9 = nI wo ∧
  (∀ k, k < nK (C 278) t → ∃ s, s < 8 ∧ C 278 (705 * t + 1 + 4 * k) = nI s ∧ C (237 + 7 * t) k = nI (knd s) ∧
    C (238 + 7 * t) k = C 278 (705 * t + 2 + 4 * k) ∧ (s ≠ 4 → s ≠ 7 → C (239 + 7 * t) k = C 278 (705 * t + 3 + 4 * k)) ∧
    (s < 2 → C 278 (705 * t + 2 + 4 * k) = nI (cl1 (C 278) t k) ∧ C 278 (705 * t + 3 + 4 * k) = nI (cl2 (C 278) t k) ∧ cl1 (C 278) t k ≤ cl2 (C 278) t k ∧ cl2 (C 278) t k ≤ sz ∧
      tys (C 278) t (cl2 (C 278) t k - cl1 (C 278) t k) (cl1 (C 278) t k) [] = some [true])) ∧
  (∀ i, i < sz → C 278 (705 * t + 97 + 2 * i) = nI (opn (C 278) t i) ∧ C 278 (705 * t + 98 + 2 * i) = nI (opv (C 278) t i) ∧ trv (opn (C 278) t i) (opv (C 278) t i) ∧
    C (240 + 7 * t) i = nI (trm (opn (C 278) t i) (opv (C 278) t i)).1 ∧ C (241 + 7 * t) i = nI (trm (opn (C 278) t i) (opv (C 278) t i)).2) ∧
  (∀ w, w < wo → C (242 + 7 * t) w = nI (EvT (C 278) t w + if MyT (C 278) t w then 1024 else 0))
def RelI (C : Nat → Nat → Int32) : Prop :=
  MA (C 276) ∧ MA (C 277) ∧ MR C 1 (C 276) ∧ MR C 114 (C 277) ∧ nC (C 277) ≤ nC (C 276) ∧ nT (C 277) ≤ nT (C 276) ∧
  (∀ t, t < nT (C 276) → TT C t (2 ^ nC (C 276))) ∧
  (∃ n, n ≤ 300 ∧ C 227 4 = nI n ∧ C 275 4 = nI n ∧ ∀ i, i < n → C 228 i = C 279 i ∧ lt_ (C 279 i) 256) ∧
  C 232 3 = C 275 5 ∧ C 232 4 = C 275 6
def Rel (u : sm_M) : Prop := Ly u ∧ RelI u.2.2.1
/-- cells that questions use up -/
def scr (a : Nat) : Bool := (265 ≤ a && a ≤ 274 && a != 268 && a != 271) || (280 ≤ a)
def Fr (u v : sm_M) : Prop := v.1 = u.1 ∧ v.2.1 = u.2.1 ∧ ∀ a, scr a = false → v.2.2.1 a = u.2.2.1 a
theorem Fr.rf {u : sm_M} : Fr u u := ⟨rfl, rfl, fun _ _ => rfl⟩
theorem Fr.tr {u v w : sm_M} (h1 : Fr u v) (h2 : Fr v w) : Fr u w := ⟨h2.1.trans h1.1, h2.2.1.trans h1.2.1, fun a ha => (h2.2.2 a ha).trans (h1.2.2 a ha)⟩
theorem Fr.wI {u v : sm_M} {a k : Nat} {x : Int32} (h : Fr u v) (ha : scr a = true) : Fr u (sm_wI v a k x) := by
  refine ⟨h.1, h.2.1, fun b hb => ?_⟩
  rw [← h.2.2 b hb]
  have hne : b ≠ a := fun e => by subst e; rw [ha] at hb; cases hb
  funext j
  exact wI_na hne
theorem Fr.wL {u v : sm_M} {a k : Nat} {x : Int64} (h : Fr u v) : Fr u (sm_wL v a k x) := h
theorem Fr.ly {u v : sm_M} (h : Fr u v) (hu : Ly u) : Ly v := by
  unfold Ly sm_Rf
  rw [h.1, h.2.1]
  exact hu
theorem scr_lt {a : Nat} (h : a < 265) : scr a = false := by
  unfold scr
  have h1 : decide (265 ≤ a) = false := by simp; omega
  have h2 : decide (280 ≤ a) = false := by simp; omega
  rw [h1, h2]
  rfl
theorem SR.cg {C C' : Nat → Nat → Int32} {q : Nat} {B : Nat → Int32} (h0 : C' q = C q) (h1 : C' (q + 1) = C (q + 1)) (h2 : C' (q + 2) = C (q + 2)) (H : SR C q B) : SR C' q B := by
  unfold SR at *
  rw [h0, h1, h2]
  exact H
theorem MR.cg {C C' : Nat → Nat → Int32} {m : Nat} {A : Nat → Int32} (hm : m ≤ 114) (hP : nP A ≤ 10) (h : ∀ a, a < 265 → C' a = C a) (H : MR C m A) : MR C' m A := by
  obtain ⟨h1, ⟨f, hf, h2, h3, h4⟩, h5, h6, h7, h8, h9, h10⟩ := H
  refine ⟨h1.cg (h _ (by omega)) (h _ (by omega)) (h _ (by omega)), ⟨f, hf, ?_, ?_, fun i hi => (h4 i hi).cg (h _ (by omega)) (h _ (by omega)) (h _ (by omega))⟩, ?_, ?_, ?_, ?_, ?_, ?_⟩
  · rw [h _ (by omega)]; exact h2
  · rw [h _ (by omega)]; exact h3
  · rw [h _ (by omega)]; exact h5
  · rw [h _ (by omega)]; exact h6
  · rw [h _ (by omega)]; exact h7
  · rw [h _ (by omega), h (m + 100) (by omega), h (m + 101) (by omega)]; exact h8
  · intro p hp
    rw [h _ (by omega)]
    exact h9 p hp
  · rw [h _ (by omega)]; exact h10
theorem TT.cg {C C' : Nat → Nat → Int32} {t n : Nat} (ht : t < 4) (h : ∀ a, a < 265 → C' a = C a) (h8 : C' 278 = C 278) (H : TT C t n) : TT C' t n := by
  unfold TT at *
  rw [h8, h (236 + 7 * t) (by omega), h (237 + 7 * t) (by omega), h (238 + 7 * t) (by omega), h (239 + 7 * t) (by omega), h (240 + 7 * t) (by omega), h (241 + 7 * t) (by omega), h (242 + 7 * t) (by omega)]
  exact H
theorem RelI.cg {C C' : Nat → Nat → Int32} (h : ∀ a, scr a = false → C' a = C a) (H : RelI C) : RelI C' := by
  have hl : ∀ a, a < 265 → C' a = C a := fun a ha => h a (scr_lt ha)
  have h5 := h 275 rfl
  have h6 := h 276 rfl
  have h7 := h 277 rfl
  have h8 := h 278 rfl
  have h9 := h 279 rfl
  obtain ⟨g1, g2, g3, g4, g5, g6, g7, g8, g9, g10⟩ := H
  unfold RelI
  rw [h5, h6, h7, h9, hl 227 (by omega), hl 228 (by omega), hl 232 (by omega)]
  refine ⟨g1, g2, g3.cg (by omega) g1.1.2.1.2 hl, g4.cg (by omega) g2.1.2.1.2 hl, g5, g6, fun t ht => (g7 t ht).cg (Nat.lt_of_lt_of_le ht g1.2.2.1.2) hl h8, g8, g9, g10⟩
theorem Rel.fr {u v : sm_M} (H : Rel u) (h : Fr u v) : Rel v := ⟨h.ly H.1, H.2.cg h.2.2⟩
theorem Rel.ly {u : sm_M} (H : Rel u) : Ly u := H.1
/-! what the relation says of the museum's own numbers -/
theorem r_C {u : sm_M} (h : Rel u) : sm_I u 276 0 = nI (nC (rw_ u 276)) := h.2.1.1.1.1
theorem r_P {u : sm_M} (h : Rel u) : sm_I u 276 1 = nI (nP (rw_ u 276)) := h.2.1.1.2.1.1
theorem r_R {u : sm_M} (h : Rel u) : sm_I u 276 2 = nI (nR (rw_ u 276)) := h.2.1.1.2.2.1.1
theorem r_H {u : sm_M} (h : Rel u) : sm_I u 276 3 = nI (nH (rw_ u 276)) := h.2.1.2.1.1
theorem r_T {u : sm_M} (h : Rel u) : sm_I u 276 5 = nI (nT (rw_ u 276)) := h.2.1.2.2.1.1
theorem r_S {u : sm_M} (h : Rel u) : sm_I u 276 7 = nI (nS (rw_ u 276)) := h.2.1.2.2.2.2.1.1
theorem r_F {u : sm_M} (h : Rel u) : sm_I u 276 8 = nI (nF (rw_ u 276)) := h.2.1.2.2.2.2.2.1.1
theorem r_b {u : sm_M} (h : Rel u) : nC (rw_ u 276) ≤ 8 ∧ nP (rw_ u 276) ≤ 10 ∧ nR (rw_ u 276) ≤ 6 ∧ nH (rw_ u 276) ≤ 8 ∧ nT (rw_ u 276) ≤ 4 ∧ nS (rw_ u 276) ≤ 30 ∧ nF (rw_ u 276) ≤ 8 := ⟨h.2.1.1.1.2, h.2.1.1.2.1.2, h.2.1.1.2.2.1.2, h.2.1.2.1.2, h.2.1.2.2.1.2, h.2.1.2.2.2.2.1.2, h.2.1.2.2.2.2.2.1.2⟩
theorem r_w {u : sm_M} (h : Rel u) : 1 ≤ 2 ^ nC (rw_ u 276) ∧ 2 ^ nC (rw_ u 276) ≤ 256 := ⟨Nat.one_le_two_pow, Nat.pow_le_pow_right (n := 2) (by omega) (r_b h).1⟩
theorem r_w2 {u : sm_M} (h : Rel u) : 1 ≤ 2 ^ nP (rw_ u 276) ∧ 2 ^ nP (rw_ u 276) ≤ 1024 := ⟨Nat.one_le_two_pow, Nat.pow_le_pow_right (n := 2) (by omega) (r_b h).2.1⟩
theorem r_w3 {u : sm_M} (h : Rel u) : 1 ≤ 2 ^ nR (rw_ u 276) ∧ 2 ^ nR (rw_ u 276) ≤ 64 := ⟨Nat.one_le_two_pow, Nat.pow_le_pow_right (n := 2) (by omega) (r_b h).2.2.1⟩
theorem m_C {u : sm_M} (h : Rel u) : sm_I u 2 0 = nI (nC (rw_ u 276)) := (show sm_I u 2 0 = lvb (rw_ u 276) 0 from h.2.2.2.1.1.1).trans (r_C h)
theorem m_P {u : sm_M} (h : Rel u) : sm_I u 2 1 = nI (nP (rw_ u 276)) := (show sm_I u 2 1 = lvb (rw_ u 276) 1 from h.2.2.2.1.1.2.1).trans (r_P h)
theorem m_R {u : sm_M} (h : Rel u) : sm_I u 2 2 = nI (nR (rw_ u 276)) := (show sm_I u 2 2 = lvb (rw_ u 276) 2 from h.2.2.2.1.1.2.2.1).trans (r_R h)
theorem m_W {u : sm_M} (h : Rel u) : sm_I u 2 3 = nI (wasN (rw_ u 276)) := h.2.2.2.1.1.2.2.2.1
theorem m_X {u : sm_M} (h : Rel u) : sm_I u 2 4 = sm_I u 276 4 := h.2.2.2.1.1.2.2.2.2.1
theorem m_H {u : sm_M} (h : Rel u) : sm_I u 1 9 = nI (nH (rw_ u 276)) := (show sm_I u 1 9 = sm_I u 276 3 from h.2.2.2.1.2.2.1.1).trans (r_H h)
theorem m_F {u : sm_M} (h : Rel u) : sm_I u 1 10 = nI (nF (rw_ u 276)) := (show sm_I u 1 10 = sm_I u 276 8 from h.2.2.2.1.2.2.1.2.1).trans (r_F h)
theorem m_T {u : sm_M} (h : Rel u) : sm_I u 1 11 = nI (nT (rw_ u 276)) := (show sm_I u 1 11 = sm_I u 276 5 from h.2.2.2.1.2.2.1.2.2.1).trans (r_T h)
theorem m_Y {u : sm_M} (h : Rel u) : sm_I u 1 12 = sm_I u 276 6 := h.2.2.2.1.2.2.1.2.2.2
theorem r_Y {u : sm_M} (h : Rel u) : opt (sm_I u 276 6) (nT (rw_ u 276)) := h.2.1.2.2.2.1
theorem m_ways {u : sm_M} (h : Rel u) {r : Nat} (hr : r < nR (rw_ u 276)) : sm_I u 3 r = sm_I u 276 (86 + 3 * r) := by
  have e := h.2.2.2.1.1.2.2.2.2.2.1 r hr
  have hb := (r_b h).2.2.1
  unfold lvb at e
  rw [if_neg (by omega), if_neg (by omega), if_neg (by omega), if_pos (by omega), Nat.add_sub_cancel_left] at e
  exact e
theorem m_plc {u : sm_M} (h : Rel u) {p : Nat} (hp : p < nP (rw_ u 276)) : sm_I u 4 p = sm_I u 276 (40 + 5 * p) := by
  have e := h.2.2.2.1.1.2.2.2.2.2.2 p hp
  unfold lvb at e
  rw [if_neg (by omega), if_neg (by omega), if_neg (by omega), if_neg (by omega), Nat.add_sub_cancel_left] at e
  exact e
theorem m_odds {u : sm_M} (h : Rel u) {c : Nat} (hc : c < nC (rw_ u 276)) : sm_I u 97 c = sm_I u 276 (13 + 3 * c) := h.2.2.2.1.2.2.2.1 c hc
theorem m_hold {u : sm_M} (h : Rel u) {r : Nat} (hr : r < nR (rw_ u 276)) : sm_I u 99 r = sm_I u 276 (87 + 3 * r) := h.2.2.2.1.2.2.2.2.1 r hr
theorem m_by {u : sm_M} (h : Rel u) {p : Nat} (hp : p < nH (rw_ u 276)) : sm_I u 100 p = sm_I u 276 (104 + 3 * p) := (h.2.2.2.1.2.2.2.2.2.1 p hp).1
theorem m_not {u : sm_M} (h : Rel u) {p : Nat} (hp : p < nH (rw_ u 276)) : sm_I u 101 p = sm_I u 276 (105 + 3 * p) := (h.2.2.2.1.2.2.2.2.2.1 p hp).2.1
theorem m_par {u : sm_M} (h : Rel u) {p : Nat} (hp : p < nH (rw_ u 276)) : sm_I u 102 p = sm_I u 276 (106 + 3 * p) := (h.2.2.2.1.2.2.2.2.2.1 p hp).2.2
theorem m_nd {u : sm_M} (h : Rel u) {p k : Nat} (hp : p < nP (rw_ u 276)) (hk : k < 4) : sm_I u (104 + p) k = sm_I u 276 (36 + 5 * p + k) := h.2.2.2.1.2.2.2.2.2.2.1 p hp k hk
theorem m_kn {u : sm_M} (h : Rel u) {j : Nat} (hj : j < 4) : sm_I u 103 j = nI (knw (rw_ u 276) j (nF (rw_ u 276))) := h.2.2.2.1.2.2.2.2.2.2.2 j hj
theorem pkb_lt {B : Nat → Int32} : ∀ k, (∀ c, c < k → lt_ (B (4 + c)) 2) → pkb B k < 2 ^ k
  | 0, _ => Nat.zero_lt_one
  | k + 1, hc => by
    have ih := pkb_lt k (fun c q => hc c (by omega))
    obtain ⟨n, hn, e⟩ := hc k (by omega)
    unfold pkb
    rw [e, nI_clamp (by omega), Nat.pow_succ]
    have : n * 2 ^ k ≤ 1 * 2 ^ k := Nat.mul_le_mul_right _ (by omega)
    omega
theorem w_lt {u : sm_M} (h : Rel u) : wasN (rw_ u 276) < 2 ^ nC (rw_ u 276) := pkb_lt _ h.2.1.1.2.2.2.2.1
