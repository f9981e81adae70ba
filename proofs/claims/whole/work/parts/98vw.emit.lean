/-! texts: what settling emits (by wip/whole/mk_98vw.py) -/
def emt : List Nat → List (Nat × Nat) → List (Nat × Nat)
  | [], c => c
  | o :: P, c => emt P (if o = 16 then c else c ++ [(o, 0)])
theorem emt_app : ∀ (p q : List Nat) (c : List (Nat × Nat)), emt (p ++ q) c = emt q (emt p c)
  | [], _, _ => rfl
  | o :: p, q, c => emt_app p q (if o = 16 then c else c ++ [(o, 0)])
theorem stl_pend {r : Nat} {P : List Nat} : ∀ (p : List Nat) (c : List (Nat × Nat)), (∀ o, o ∈ p → r ≤ rnk o) → stl r (p ++ P) c = stl r P (emt p c)
  | [], _, _ => rfl
  | o :: p, c, h => by
    have e : stl r (o :: (p ++ P)) c = stl r (p ++ P) (if o = 16 then c else c ++ [(o, 0)]) := if_pos (h o List.mem_cons_self)
    show stl r (o :: (p ++ P)) c = _
    rw [e]
    exact stl_pend p _ (fun x hx => h x (List.mem_cons_of_mem _ hx))
theorem stl_stop {r : Nat} : ∀ {P : List Nat} (c : List (Nat × Nat)), (∀ o R, P = o :: R → rnk o < r) → stl r P c = (P, c)
  | [], _, _ => rfl
  | o :: P, c, h => if_neg (Nat.not_le.mpr (h o P rfl))
theorem stl_stl {r r' : Nat} (hr : r ≤ r') : ∀ (P : List Nat) (c : List (Nat × Nat)), stl r (stl r' P c).1 (stl r' P c).2 = stl r P c
  | [], _ => rfl
  | o :: P, c => by
    by_cases q : r' ≤ rnk o
    · have e : stl r' (o :: P) c = stl r' P (if o = 16 then c else c ++ [(o, 0)]) := if_pos q
      have e2 : stl r (o :: P) c = stl r P (if o = 16 then c else c ++ [(o, 0)]) := if_pos (Nat.le_trans hr q)
      rw [e, e2]
      exact stl_stl hr P _
    · have e : stl r' (o :: P) c = (o :: P, c) := if_neg q
      rw [e]
