/-! what a step of the machine needs of its stack: inversions -/
theorem sv_p1 {st : List Value} {f : Int32 → List Value → sm_R} {o : Option Value × sm_M} (h : sm_p1 st f = some o) : ∃ x r, st = .int x :: r ∧ f x r = some o := by
  unfold sm_p1 at h; split at h
  · exact ⟨_, _, rfl, h⟩
  · cases h
theorem sv_p2 {st : List Value} {f : Int32 → Int32 → List Value → sm_R} {o : Option Value × sm_M} (h : sm_p2 st f = some o) : ∃ x y r, st = .int y :: .int x :: r ∧ f x y r = some o := by
  unfold sm_p2 at h; split at h
  · exact ⟨_, _, _, rfl, h⟩
  · cases h
theorem sv_q1 {st : List Value} {f : Int64 → List Value → sm_R} {o : Option Value × sm_M} (h : sm_q1 st f = some o) : ∃ x r, st = .long x :: r ∧ f x r = some o := by
  unfold sm_q1 at h; split at h
  · exact ⟨_, _, rfl, h⟩
  · cases h
theorem sv_q2 {st : List Value} {f : Int64 → Int64 → List Value → sm_R} {o : Option Value × sm_M} (h : sm_q2 st f = some o) : ∃ x y r, st = .long y :: .long x :: r ∧ f x y r = some o := by
  unfold sm_q2 at h; split at h
  · exact ⟨_, _, _, rfl, h⟩
  · cases h
theorem sv_qs {st : List Value} {f : Int64 → Int32 → List Value → sm_R} {o : Option Value × sm_M} (h : sm_qs st f = some o) : ∃ x y r, st = .int y :: .long x :: r ∧ f x y r = some o := by
  unfold sm_qs at h; split at h
  · exact ⟨_, _, _, rfl, h⟩
  · cases h
theorem sv_a1 {st : List Value} {f : Nat → List Value → sm_R} {o : Option Value × sm_M} (h : sm_a1 st f = some o) : ∃ x r, st = .ref x :: r ∧ f x r = some o := by
  unfold sm_a1 at h; split at h
  · exact ⟨_, _, rfl, h⟩
  · cases h
theorem sv_tp {st : List Value} {f : Nat → List Value → sm_R} {o : Option Value × sm_M} (h : sm_tp st f = some o) : ∃ x r, st = .retAddr x :: r ∧ f x r = some o := by
  unfold sm_tp at h; split at h
  · exact ⟨_, _, rfl, h⟩
  · cases h
theorem sv_ai {st : List Value} {f : Nat → Int32 → List Value → sm_R} {o : Option Value × sm_M} (h : sm_ai st f = some o) : ∃ a i r, st = .int i :: .ref a :: r ∧ f a i r = some o := by
  unfold sm_ai at h; split at h
  · exact ⟨_, _, _, rfl, h⟩
  · cases h
theorem sv_ri {c : sm_R} {f : Int32 → sm_M → sm_R} {o : Option Value × sm_M} (h : sm_ri c f = some o) : ∃ x u, c = some (some (.int x), u) ∧ f x u = some o := by
  unfold sm_ri at h; split at h
  · exact ⟨_, _, rfl, h⟩
  · cases h
theorem sv_rl {c : sm_R} {f : Int64 → sm_M → sm_R} {o : Option Value × sm_M} (h : sm_rl c f = some o) : ∃ x u, c = some (some (.long x), u) ∧ f x u = some o := by
  unfold sm_rl at h; split at h
  · exact ⟨_, _, rfl, h⟩
  · cases h
theorem sv_rv {c : sm_R} {f : sm_M → sm_R} {o : Option Value × sm_M} (h : sm_rv c f = some o) : ∃ u, c = some (none, u) ∧ f u = some o := by
  unfold sm_rv at h; split at h
  · exact ⟨_, rfl, h⟩
  · cases h
theorem sv_rr {c : Option Nat} {f : Nat → sm_R} {o : Option Value × sm_M} (h : sm_rr c f = some o) : ∃ a, c = some a ∧ f a = some o := by
  unfold sm_rr at h; split at h
  · exact ⟨_, rfl, h⟩
  · cases h
theorem sv_gl {ls : sm_Ls} {i : Nat} {f : Value → sm_R} {o : Option Value × sm_M} (h : sm_gl ls i f = some o) : ∃ v, ls[i]? = some (some v) ∧ f v = some o := by
  unfold sm_gl at h; split at h
  · exact ⟨_, by assumption, h⟩
  · cases h
theorem sv_bp {b : Bool} {r : sm_R} {o : Option Value × sm_M} (h : sm_bp b r = some o) : b = true ∧ r = some o := by
  cases b
  · cases h
  · exact ⟨rfl, h⟩
theorem sv_if {c : Prop} [Decidable c] {r : sm_R} {o : Option Value × sm_M} (h : (if c then r else none) = some o) : c ∧ r = some o := by
  split at h
  · exact ⟨by assumption, h⟩
  · cases h
theorem sv_ifn {c : Prop} [Decidable c] {r : sm_R} {o : Option Value × sm_M} (h : (if c then none else r) = some o) : ¬ c ∧ r = some o := by
  split at h
  · cases h
  · exact ⟨by assumption, h⟩
/-! the machine makes cells, and loses none -/
def sm_tot (u : sm_M) : Nat := (u.1.map (·.2)).sum
def sm_le (u v : sm_M) : Prop := u.1.length ≤ v.1.length ∧ sm_tot u ≤ sm_tot v
theorem sm_le.rf (u : sm_M) : sm_le u u := ⟨Nat.le_refl _, Nat.le_refl _⟩
theorem sm_le.tr {u v w : sm_M} (h : sm_le u v) (k : sm_le v w) : sm_le u w := ⟨Nat.le_trans h.1 k.1, Nat.le_trans h.2 k.2⟩
theorem sm_le.nw (u : sm_M) (t n : Nat) : sm_le u (sm_nw u t n) := by
  constructor
  · simp [sm_nw]
  · simp [sm_nw, sm_tot]
def sm_mk (k : sm_Ls → List Value → sm_M → sm_R) : Prop := ∀ ls st u r v, k ls st u = some (r, v) → sm_le u v
def sm_mc (call : Nat → List Value → sm_M → sm_R) : Prop := ∀ y as u r v, call y as u = some (r, v) → sm_le u v
section
variable {call : Nat → List Value → sm_M → sm_R} {jmp : Nat → sm_Ls → List Value → sm_M → sm_R} (hc : sm_mc call) (hj : ∀ t, sm_mk (jmp t))
theorem sm_mono2 {op a b c d : Nat} {ls : sm_Ls} {st : List Value} {u : sm_M} {k : sm_Ls → List Value → sm_M → sm_R} (hc : sm_mc call) (hj : ∀ t, sm_mk (jmp t)) (hk : sm_mk k) {r : Option Value} {v : sm_M} (h : sm_x2 call jmp op a b c d ls st u k = some (r, v)) : sm_le u v := by
  unfold sm_x2 at h
  split at h
  · obtain ⟨_, _, -, h⟩ := sv_a1 h; exact hk _ _ _ _ _ (sv_if h).2
  · obtain ⟨_, _, -, h⟩ := sv_a1 h; obtain ⟨_, -, h⟩ := sv_rr (sv_if h).2; exact hk _ _ _ _ _ h
  · split at h
    · have q := hk _ _ _ _ _ (sv_if h).2; exact q
    · cases h
  · split at h
    · have q := hk _ _ _ _ _ (sv_if h).2; exact q
    · cases h
  · split at h
    · have q := hk _ _ _ _ _ (sv_if h).2; exact q
    · cases h
  · obtain ⟨-, h⟩ := sv_bp h
    split at h
    · obtain ⟨_, h1, h⟩ := sv_rv h; exact (hc _ _ _ _ _ h1).tr (hk _ _ _ _ _ h)
    · obtain ⟨_, _, h1, h⟩ := sv_ri h; exact (hc _ _ _ _ _ h1).tr (hk _ _ _ _ _ h)
    · obtain ⟨_, _, h1, h⟩ := sv_rl h; exact (hc _ _ _ _ _ h1).tr (hk _ _ _ _ _ h)
  · obtain ⟨_, -, h⟩ := sv_gl h
    obtain ⟨_, _, -, h⟩ := sv_a1 h
    obtain ⟨-, h⟩ := sv_bp (sv_if h).2
    split at h
    · obtain ⟨_, h1, h⟩ := sv_rv h; exact (hc _ _ _ _ _ h1).tr (hk _ _ _ _ _ h)
    · obtain ⟨_, _, h1, h⟩ := sv_ri h; exact (hc _ _ _ _ _ h1).tr (hk _ _ _ _ _ h)
    · obtain ⟨_, _, h1, h⟩ := sv_rl h; exact (hc _ _ _ _ _ h1).tr (hk _ _ _ _ _ h)
  · obtain ⟨_, _, -, h⟩ := sv_a1 h; exact hk _ _ _ _ _ (sv_if h).2
  · split at h
    · have q := hk _ _ _ _ _ (sv_if h).2; exact q
    · cases h
  · exact hk _ _ _ _ _ h
  · exact hk _ _ _ _ _ h
  · exact hk _ _ _ _ _ h
  · obtain ⟨_, _, -, h⟩ := sv_a1 h; exact hk _ _ _ _ _ (sv_bp h).2
  · split at h
    · have q := hk _ _ _ _ _ (sv_bp (sv_if h).2).2; exact q
    · cases h
  · obtain ⟨_, _, -, h⟩ := sv_tp h; exact hk _ _ _ _ _ (sv_if h).2
  · split at h
    · have q := hk _ _ _ _ _ (sv_if h).2; exact q
    · cases h
  · exact (sm_le.nw u _ _).tr (hk _ _ _ _ _ h)
  · obtain ⟨_, _, -, h⟩ := sv_p1 h; exact (sm_le.nw u _ _).tr (hk _ _ _ _ _ (sv_if h).2)
  · exact hj _ _ _ _ _ _ h
  · obtain ⟨_, -, h⟩ := sv_gl h
    obtain ⟨_, _, -, h⟩ := sv_tp h
    exact hk _ _ _ _ _ h
  · obtain ⟨_, _, _, -, h⟩ := sv_p2 h; exact hk _ _ _ _ _ (sv_bp h).2
  · obtain ⟨_, _, -, h⟩ := sv_p1 h; exact hk _ _ _ _ _ (sv_bp h).2
  · split at h
    · have q := (sv_if h).2
      cases q
      exact sm_le.rf _
    · cases h
theorem sm_sel_mono {x : Int32} {f : Nat → sm_R} {o : Option Value × sm_M} : ∀ {ps : List (Int × Int)} {d : Int}, sm_sel x ps f d = some o → ∃ t, f t = some o
  | [], _, h => ⟨_, h⟩
  | (v, t) :: r, d, h => by
    unfold sm_sel at h
    split at h
    · exact ⟨_, h⟩
    · exact sm_sel_mono h
theorem sm_mono1 {i : Instr} {ls : sm_Ls} {st : List Value} {u : sm_M} {k : sm_Ls → List Value → sm_M → sm_R} (hj : ∀ t, sm_mk (jmp t)) (hk : sm_mk k) {r : Option Value} {v : sm_M} (h : sm_x1 jmp i ls st u k = some (r, v)) : sm_le u v := by
  unfold sm_x1 at h
  split at h <;> first
    | exact hk _ _ _ _ _ h
    | exact hj _ _ _ _ _ _ h
    | (obtain ⟨_, _, -, h⟩ := sv_p1 h; exact hk _ _ _ _ _ h)
    | (obtain ⟨_, _, _, -, h⟩ := sv_p2 h; exact hk _ _ _ _ _ h)
    | (obtain ⟨_, _, _, -, h⟩ := sv_p2 h; exact hk _ _ _ _ _ (sv_ifn h).2)
    | (obtain ⟨_, _, -, h⟩ := sv_q1 h; exact hk _ _ _ _ _ h)
    | (obtain ⟨_, _, _, -, h⟩ := sv_q2 h; exact hk _ _ _ _ _ h)
    | (obtain ⟨_, _, _, -, h⟩ := sv_q2 h; exact hk _ _ _ _ _ (sv_ifn h).2)
    | (obtain ⟨_, _, _, -, h⟩ := sv_qs h; exact hk _ _ _ _ _ h)
    | (obtain ⟨_, _, -, h⟩ := sv_a1 h; exact hk _ _ _ _ _ h)
    | (obtain ⟨_, _, -, h⟩ := sv_a1 h; exact hk _ _ _ _ _ (sv_if h).2)
    | (obtain ⟨_, _, -, h⟩ := sv_a1 h; exact hj _ _ _ _ _ _ h)
    | (obtain ⟨_, -, h⟩ := sv_gl h; obtain ⟨_, _, -, h⟩ := sv_p1 h; exact hk _ _ _ _ _ h)
    | (obtain ⟨_, -, h⟩ := sv_gl h; obtain ⟨_, _, -, h⟩ := sv_q1 h; exact hk _ _ _ _ _ h)
    | (obtain ⟨_, -, h⟩ := sv_gl h; obtain ⟨_, _, -, h⟩ := sv_a1 h; exact hk _ _ _ _ _ h)
    | (obtain ⟨_, _, _, -, h⟩ := sv_ai h; exact hk _ _ _ _ _ (sv_if h).2)
    | (obtain ⟨_, _, _, -, h⟩ := sv_ai h; obtain ⟨_, -, h⟩ := sv_rr (sv_if h).2; exact hk _ _ _ _ _ h)
    | (split at h
       · exact hk _ _ _ _ _ (sv_bp h).2
       · cases h)
    | (split at h
       · have q := hk _ _ _ _ _ (sv_if h).2; exact q
       · cases h)
    | (obtain ⟨_, _, _, -, h⟩ := sv_p2 h
       split at h
       · first | exact hk _ _ _ _ _ h | exact hj _ _ _ _ _ _ h
       · first | exact hk _ _ _ _ _ h | exact hj _ _ _ _ _ _ h)
    | (obtain ⟨_, _, -, h⟩ := sv_p1 h
       split at h
       · first | exact hk _ _ _ _ _ h | exact hj _ _ _ _ _ _ h
       · first | exact hk _ _ _ _ _ h | exact hj _ _ _ _ _ _ h)
    | (obtain ⟨_, _, -, h⟩ := sv_p1 h; obtain ⟨_, h⟩ := sm_sel_mono h; exact hj _ _ _ _ _ _ h)
    | (split at h
       · cases h; exact sm_le.rf _
       · cases h)
    | cases h
theorem sm_mono {cs : List sm_E} (hc : sm_mc call) (hj : ∀ t, sm_mk (jmp t)) : sm_mk (sm_blk call jmp cs) := by
  induction cs with
  | nil => intro ls st u r v h; cases h
  | cons e cs ih =>
    intro ls st u r v h
    unfold sm_blk at h
    unfold sm_x at h
    split at h
    · exact sm_mono1 hj ih h
    · exact sm_mono2 hc hj ih h
end
theorem sm_run_mono {call : Nat → List Value → sm_M → sm_R} (hc : sm_mc call) (code : List sm_E) : ∀ n i, sm_mk (sm_run call code n i)
  | 0, i => by intro ls st u r v h; cases h
  | n + 1, i => by
    intro ls st u r v h
    exact sm_mono hc (sm_run_mono hc code n) ls st u r v h
