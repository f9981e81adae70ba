/-! texts: the nonterminals of the descent against the pile (by wip/whole/mk_98vy.py) -/
def eno (P : List Nat) (k : Nat) : Prop := iaa P = true → k ≠ 215 ∧ k ≠ 216 ∧ k ≠ 217
def NtO (b : Nat → Nat) (n ev L : Nat) (F : Rst → Rst) : Prop := ∀ P N s c pl, nop P + L = 8 → eno P (kdp b n s) → Iv n (s, c, P, N, false) → G1 b n ev P N s c pl (F (s, 0, pl, c))
def NtS (b : Nat → Nat) (n ev L r : Nat) (F : Rst → Rst) : Prop := ∀ P N s c pl, nop P + L = 8 → (∀ o R, P = o :: R → rnk o < r ∧ o ≠ 16) → eno P (kdp b n s) → Iv n (s, c, P, N, false) → Gd b n ev P N r s c pl (F (s, 0, pl, c))
def NtA (b : Nat → Nat) (n ev L r : Nat) (F : Rst → Rst) : Prop := ∀ P N s c pl, nop P + L = 8 → iaa P = true → (r ≤ 3 → ∀ o R, P = o :: R → rnk o < r) → Iv n (s, c, P, N, false) → Gd b n ev P N r s c pl (F (s, 0, pl, c))
theorem iaa_f {o : Nat} {P : List Nat} (h5 : 5 ≤ rnk o) (h41 : o ≠ 41) : ¬ iaa (o :: P) = true := by
  show ¬ (!decide (opw (o :: P) = 40) && (decide (o = 41) || (decide (1 ≤ rnk o) && decide (rnk o ≤ 4)))) = true
  rw [decide_eq_false h41, decide_eq_false (show ¬ rnk o ≤ 4 by omega)]
  simp
theorem iaa_w {P : List Nat} (h : iaa P = true) : ¬ opw P = 40 := by
  intro z
  unfold iaa at h
  rw [decide_eq_true z] at h
  have h : false = true := h
  cases h
theorem iaa_r {o : Nat} {P : List Nat} (h : iaa (o :: P) = true) : o = 41 ∨ 1 ≤ rnk o ∧ rnk o ≤ 4 := by
  unfold iaa at h
  simp only [Bool.and_eq_true, Bool.or_eq_true, decide_eq_true_eq] at h
  exact h.2
theorem iaa_t {o : Nat} {P : List Nat} (h : iaa P = true) (h1 : 1 ≤ rnk o) (h4 : rnk o ≤ 4) : iaa (o :: P) = true := by
  have hw := iaa_w h
  have z2 : ¬ 40 ≤ o := fun w => by
    unfold rnk at h1
    rw [if_pos w] at h1
    omega
  have e : opw (o :: P) = opw P := if_neg z2
  show (!decide (opw (o :: P) = 40) && (decide (o = 41) || (decide (1 ≤ rnk o) && decide (rnk o ≤ 4)))) = true
  rw [e, decide_eq_false hw, decide_eq_true h1, decide_eq_true h4]
  simp
theorem iaa_4 {P : List Nat} (h : iaa P = true) : ∀ o R, P = o :: R → rnk o ≤ 4 := by
  intro o R e
  rw [e] at h
  rcases iaa_r h with z | z
  · rw [z]
    decide
  · exact z.2
theorem iaa_i {P : List Nat} (h : iaa P = true) : ¬ icm P = true := by
  cases P with
  | nil => decide
  | cons o R =>
    have := iaa_4 h o R rfl
    show ¬ (if 5 < rnk o then icm R else decide (rnk o = 5)) = true
    rw [if_neg (by omega), decide_eq_false (by omega)]
    decide
theorem bt_n {P : List Nat} {k : Nat} (h1 : ovr P = true ∨ isM k = false) (h2 : ovr P = true ∨ isP k = false) : betF P k = if opw P = 40 then 99 else if ¬ icm P = true then cmO k else if k = 214 then 21 else if k = 213 then 22 else if k = 212 ∧ opw P = 0 then 23 else 99 := by
  have m : ∀ x, (x = 43 ∨ x = 45 ∨ x = 42 ∨ x = 47) → ¬ (¬ ovr P = true ∧ k = x) := by
    intro x hx z
    have a := h1.resolve_left z.1
    have a' := h2.resolve_left z.1
    rw [z.2] at a a'
    rcases hx with rfl | rfl | rfl | rfl
    · exact absurd a' (by decide)
    · exact absurd a' (by decide)
    · exact absurd a (by decide)
    · exact absurd a (by decide)
  unfold betF
  rw [if_neg (m 43 (by omega)), if_neg (m 45 (by omega)), if_neg (m 42 (by omega)), if_neg (m 47 (by omega))]
theorem isC_v {k : Nat} (h : isC k = true) : isM k = false ∧ isP k = false ∧ cmO k = opk k ∧ opk k ≠ 99 ∧ opk k ≠ 23 ∧ opk k ≠ 16 ∧ rnk (opk k) = 5 ∧ iso (opk k) = false ∧ opk k ≠ 41 := by
  have h : k = 3 ∨ k = 4 ∨ k = 35 ∨ k = 60 ∨ k = 61 ∨ k = 62 := by simpa [isC] using h
  rcases h with rfl | rfl | rfl | rfl | rfl | rfl <;> decide
theorem isC_t {k : Nat} (h : isC k = true) : (∀ st, ty1 (opk k) 0 (false :: false :: st) = some (true :: st)) ∧ tvb (opk k) 0 := by
  have h : k = 3 ∨ k = 4 ∨ k = 35 ∨ k = 60 ∨ k = 61 ∨ k = 62 := by simpa [isC] using h
  rcases h with rfl | rfl | rfl | rfl | rfl | rfl
  all_goals exact ⟨fun _ => rfl, trv_0 (by decide)⟩
theorem isC_n {k : Nat} (h : ¬ isC k = true) : cmO k = 99 := by
  have h : ¬ k = 3 ∧ ¬ k = 4 ∧ ¬ k = 35 ∧ ¬ k = 60 ∧ ¬ k = 61 ∧ ¬ k = 62 := by simpa [isC] using h
  unfold cmO
  rw [if_neg h.2.2.2.1, if_neg h.1, if_neg h.2.2.2.2.2, if_neg h.2.1, if_neg h.2.2.2.2.1, if_neg h.2.2.1]
theorem isM_v {k : Nat} (h : isM k = true) : k = 42 ∨ k = 47 := by simpa [isM] using h
theorem isP_v {k : Nat} (h : isP k = true) : k = 43 ∨ k = 45 := by simpa [isP] using h
theorem bt_m {P : List Nat} {k : Nat} (ho : ovr P = false) (h : isM k = true) : betF P k = opk k := by
  unfold betF
  rw [ho]
  rcases isM_v h with rfl | rfl <;> simp [opk]
theorem bt_p {P : List Nat} {k : Nat} (ho : ovr P = false) (h : isP k = true) : betF P k = opk k := by
  unfold betF
  rw [ho]
  rcases isP_v h with rfl | rfl <;> simp [opk]
theorem nop_ni {o : Nat} {P : List Nat} (h : iso o = false) : nop (o :: P) = nop P := by
  show nop P + (if iso o = true then 1 else 0) = nop P
  rw [h]
  rfl
theorem nop_is {o : Nat} {P : List Nat} (h : iso o = true) : nop (o :: P) = nop P + 1 := by
  show nop P + (if iso o = true then 1 else 0) = nop P + 1
  rw [if_pos h]
section
variable {b : Nat → Nat} {n ev : Nat}
theorem bh_9 {s : Nat} {c : List (Nat × Nat)} {P N : List Nat} (h99 : betF P (kdp b n s) = 99) (h : opw P = 41 ∧ ¬ icm P = true ∨ ¬ (opw P = 41 ∧ kdp b n s = 44) ∧ (opw P = 0 ∨ ¬ kdp b n s = 41)) : stq b n ev (s, c, P, N, true) = (9, (s, c, P, N, true)) := by
  rw [stq_t]
  unfold behF
  rw [if_neg (show ¬ ¬ betF P (kdp b n s) = 99 from fun z => z h99)]
  by_cases z : opw P = 41 ∧ ¬ icm P = true
  · rw [if_pos (show opw P = 41 ∧ ¬ icm P = true from z)]
  · have h := h.resolve_left z
    rw [if_neg (show ¬ (opw P = 41 ∧ ¬ icm P = true) from z), if_neg (show ¬ (opw P = 41 ∧ kdp b n s = 44) from h.1), if_pos (show opw P = 0 ∨ ¬ kdp b n s = 41 from h.2)]
theorem nd_1 {s : Nat} {c : List (Nat × Nat)} {P N : List Nat} {w : Bool} (h : ¬ opw P = 0 ∨ ¬ icm P = true) : (ndF (s, c, P, N, w)).1 = 1 := by
  unfold ndF
  rw [if_pos (show ¬ opw P = 0 ∨ ¬ icm P = true from h)]
theorem opn_8 {o s : Nat} {c : List (Nat × Nat)} {P N : List Nat} {w : Bool} (h : nop P = 8) : opnd b n o (s, c, P, N, w) = (3, (s, c, P, N, w)) := if_pos h
theorem opn_o {o s : Nat} {c : List (Nat × Nat)} {P N : List Nat} {w : Bool} (h : ¬ nop P = 8) (ho : ¬ o = 41) : opnd b n o (s, c, P, N, w) = (0, (nx1 b n s, c, o :: P, N, w)) := by
  unfold opnd
  rw [if_neg (show ¬ nop P = 8 from h), if_neg ho]
theorem bg_2 {s : Nat} {c : List (Nat × Nat)} {P N : List Nat} (h : kdp b n s = 2) : stq b n ev (s, c, P, N, false) = if 9999 < vlp b n s then (2, (s, c, P, N, false)) else emF b n 0 (vlp b n s) (s, c, P, N, false) := by
  rw [stq_f]
  unfold begF
  rw [if_pos (show kdp b n s = 2 from h)]
theorem bg_219 {s : Nat} {c : List (Nat × Nat)} {P N : List Nat} (h : kdp b n s = 219) : stq b n ev (s, c, P, N, false) = emF b n 1 0 (s, c, P, N, false) := by
  rw [stq_f]
  unfold begF
  rw [if_neg (show ¬ kdp b n s = 2 by omega), if_pos (show kdp b n s = 219 from h)]
theorem bg_220 {s : Nat} {c : List (Nat × Nat)} {P N : List Nat} (h : kdp b n s = 220) : stq b n ev (s, c, P, N, false) = emF b n 1 1 (s, c, P, N, false) := by
  rw [stq_f]
  unfold begF
  rw [if_neg (show ¬ kdp b n s = 2 by omega), if_neg (show ¬ kdp b n s = 219 by omega), if_pos (show kdp b n s = 220 from h)]
theorem bg_221 {s : Nat} {c : List (Nat × Nat)} {P N : List Nat} (h : kdp b n s = 221) : stq b n ev (s, c, P, N, false) = emF b n 1 2 (s, c, P, N, false) := by
  rw [stq_f]
  unfold begF
  rw [if_neg (show ¬ kdp b n s = 2 by omega), if_neg (show ¬ kdp b n s = 219 by omega), if_neg (show ¬ kdp b n s = 220 by omega), if_pos (show kdp b n s = 221 from h)]
theorem bg_40 {s : Nat} {c : List (Nat × Nat)} {P N : List Nat} (h : kdp b n s = 40) : stq b n ev (s, c, P, N, false) = opnd b n 40 (s, c, P, N, false) := by
  rw [stq_f]
  unfold begF
  rw [if_neg (show ¬ kdp b n s = 2 by omega), if_neg (show ¬ kdp b n s = 219 by omega), if_neg (show ¬ kdp b n s = 220 by omega), if_neg (show ¬ kdp b n s = 221 by omega), if_pos (show kdp b n s = 40 from h)]
theorem bg_45 {s : Nat} {c : List (Nat × Nat)} {P N : List Nat} (h : kdp b n s = 45) : stq b n ev (s, c, P, N, false) = opnd b n 5 (s, c, P, N, false) := by
  rw [stq_f]
  unfold begF
  rw [if_neg (show ¬ kdp b n s = 2 by omega), if_neg (show ¬ kdp b n s = 219 by omega), if_neg (show ¬ kdp b n s = 220 by omega), if_neg (show ¬ kdp b n s = 221 by omega), if_neg (show ¬ kdp b n s = 40 by omega), if_pos (show kdp b n s = 45 from h)]
theorem bg_218 {s : Nat} {c : List (Nat × Nat)} {P N : List Nat} (h : kdp b n s = 218) : stq b n ev (s, c, P, N, false) = opnd b n 41 (s, c, P, N, false) := by
  rw [stq_f]
  unfold begF
  rw [if_neg (show ¬ kdp b n s = 2 by omega), if_neg (show ¬ kdp b n s = 219 by omega), if_neg (show ¬ kdp b n s = 220 by omega), if_neg (show ¬ kdp b n s = 221 by omega), if_neg (show ¬ kdp b n s = 40 by omega), if_neg (show ¬ kdp b n s = 45 by omega), if_pos (show kdp b n s = 218 from h)]
theorem bg_215 {s : Nat} {c : List (Nat × Nat)} {P N : List Nat} (ha : iaa P = true) (h : kdp b n s = 215) : stq b n ev (s, c, P, N, false) = opnd b n 20 (s, c, P, N, false) := by
  rw [stq_f]
  unfold begF
  rw [if_neg (show ¬ kdp b n s = 2 by omega), if_neg (show ¬ kdp b n s = 219 by omega), if_neg (show ¬ kdp b n s = 220 by omega), if_neg (show ¬ kdp b n s = 221 by omega), if_neg (show ¬ kdp b n s = 40 by omega), if_neg (show ¬ kdp b n s = 45 by omega), if_neg (show ¬ kdp b n s = 218 by omega), if_neg (show ¬ ¬ iaa P = true from fun z => z ha), if_pos (show kdp b n s = 215 from h)]
theorem bg_216 {s : Nat} {c : List (Nat × Nat)} {P N : List Nat} (ha : iaa P = true) (h : kdp b n s = 216) : stq b n ev (s, c, P, N, false) = askd b n ev 2 7 (s, c, P, N, false) := by
  rw [stq_f]
  unfold begF
  rw [if_neg (show ¬ kdp b n s = 2 by omega), if_neg (show ¬ kdp b n s = 219 by omega), if_neg (show ¬ kdp b n s = 220 by omega), if_neg (show ¬ kdp b n s = 221 by omega), if_neg (show ¬ kdp b n s = 40 by omega), if_neg (show ¬ kdp b n s = 45 by omega), if_neg (show ¬ kdp b n s = 218 by omega), if_neg (show ¬ ¬ iaa P = true from fun z => z ha), if_neg (show ¬ kdp b n s = 215 by omega), if_pos (show kdp b n s = 216 from h)]
theorem bg_217 {s : Nat} {c : List (Nat × Nat)} {P N : List Nat} (ha : iaa P = true) (h : kdp b n s = 217) : stq b n ev (s, c, P, N, false) = askd b n ev 3 9 (s, c, P, N, false) := by
  rw [stq_f]
  unfold begF
  rw [if_neg (show ¬ kdp b n s = 2 by omega), if_neg (show ¬ kdp b n s = 219 by omega), if_neg (show ¬ kdp b n s = 220 by omega), if_neg (show ¬ kdp b n s = 221 by omega), if_neg (show ¬ kdp b n s = 40 by omega), if_neg (show ¬ kdp b n s = 45 by omega), if_neg (show ¬ kdp b n s = 218 by omega), if_neg (show ¬ ¬ iaa P = true from fun z => z ha), if_neg (show ¬ kdp b n s = 215 by omega), if_neg (show ¬ kdp b n s = 216 by omega), if_pos (show kdp b n s = 217 from h)]
theorem bg_n {s : Nat} {c : List (Nat × Nat)} {P N : List Nat} (h : ¬ kdp b n s = 2 ∧ ¬ kdp b n s = 219 ∧ ¬ kdp b n s = 220 ∧ ¬ kdp b n s = 221 ∧ ¬ kdp b n s = 40 ∧ ¬ kdp b n s = 45 ∧ ¬ kdp b n s = 218) (he : eno P (kdp b n s)) : stq b n ev (s, c, P, N, false) = (1, (s, c, P, N, false)) := by
  rw [stq_f]
  unfold begF
  rw [if_neg (show ¬ kdp b n s = 2 from h.1), if_neg (show ¬ kdp b n s = 219 from h.2.1), if_neg (show ¬ kdp b n s = 220 from h.2.2.1), if_neg (show ¬ kdp b n s = 221 from h.2.2.2.1), if_neg (show ¬ kdp b n s = 40 from h.2.2.2.2.1), if_neg (show ¬ kdp b n s = 45 from h.2.2.2.2.2.1), if_neg (show ¬ kdp b n s = 218 from h.2.2.2.2.2.2)]
  by_cases z : iaa P = true
  · have e := he z
    rw [if_neg (show ¬ ¬ iaa P = true from fun y => y z), if_neg (show ¬ kdp b n s = 215 from e.1), if_neg (show ¬ kdp b n s = 216 from e.2.1), if_neg (show ¬ kdp b n s = 217 from e.2.2)]
  · rw [if_pos (show ¬ iaa P = true from z)]
theorem Iv.cl {s : Nat} {c : List (Nat × Nat)} {P N : List Nat} {w : Bool} (hn : n ≤ 300) (h : Iv n (s, c, P, N, w)) : c.length < 300 := by
  have h1 : c.length + P.length + 1 ≤ s := h.2.1
  have h2 : s ≤ n := h.2.2.1
  omega
/-- product -/
theorem NtO.gd {L : Nat} {one : Rst → Rst} (ho : NtO b n ev L one) {P N : List Nat} {s : Nat} {c : List (Nat × Nat)} {pl : Int32} (h8 : nop P + L = 8) (ht : ∀ o R, P = o :: R → rnk o < 8) (he : eno P (kdp b n s)) (hI : Iv n (s, c, P, N, false)) : Gd b n ev P N 8 s c pl (one (s, 0, pl, c)) := by
  rcases ho P N s c pl h8 he hI with ⟨f0, fp, R, g5⟩ | hf
  · rw [stl_stop _ ht] at R
    exact Or.inl ⟨f0, fp, (one (s, 0, pl, c)).2.2.2, [], R, (fun o ho => by cases ho), (fun z => by omega), ⟨fun z => by omega, fun z => by omega, fun z => by omega, fun z => by omega⟩, rfl, g5⟩
  · exact Or.inr hf
theorem n_prd (hn : n ≤ 300) {L : Nat} {one : Rst → Rst} (ho : NtO b n ev L one) : NtS b n ev L 7 (prdF b n one) := by
  intro P N s c pl h8 ht he hI
  unfold prdF
  refine Gd.nt hn (r := 7) (cnd := isM) (ok := opk) (sub := one) rfl (fun o R e => (ht o R e).1) ?_ ?_ ?_ (fun z => by omega) ?_ hI ?_
  · intro q k hq _ hk
    exact bt_m (ovr_hi (fun o ho => Nat.le_of_succ_le (hq o ho)) (fun o R e => (ht o R e).2)) hk
  · intro k hk
    rcases isM_v hk with rfl | rfl
    · exact ⟨by decide, by decide, by decide, by decide, trv_0 (by decide), fun _ => rfl⟩
    · exact ⟨by decide, by decide, by decide, by decide, trv_0 (by decide), fun _ => rfl⟩
  · intro v k h hk
    exact ⟨fun _ => Or.inr hk, fun z => by omega, fun z => by omega, fun z => by omega⟩
  · intro k s' c' pl' hk hI'
    have f : rnk (opk k) = 7 ∧ opk k ≠ 41 ∧ iso (opk k) = false := by
      rcases isM_v hk with rfl | rfl <;> decide
    refine ho.gd (by rw [nop_ni f.2.2]; exact h8) ?_ (fun z => absurd z (iaa_f (by omega) f.2.1)) hI'
    intro o R e
    cases e
    omega
  · exact ho.gd h8 (fun o R e => Nat.lt_succ_of_lt (ht o R e).1) he hI
theorem n_sum (hn : n ≤ 300) {L : Nat} {prd : Rst → Rst} (ho : NtS b n ev L 7 prd) : NtS b n ev L 6 (sumF b n prd) := by
  intro P N s c pl h8 ht he hI
  unfold sumF
  refine Gd.nt hn (r := 6) (cnd := isP) (ok := opk) (sub := prd) rfl (fun o R e => (ht o R e).1) ?_ ?_ ?_ (fun z => by omega) ?_ hI ?_
  · intro q k hq _ hk
    exact bt_p (ovr_hi hq (fun o R e => (ht o R e).2)) hk
  · intro k hk
    rcases isP_v hk with rfl | rfl
    · exact ⟨by decide, by decide, by decide, by decide, trv_0 (by decide), fun _ => rfl⟩
    · exact ⟨by decide, by decide, by decide, by decide, trv_0 (by decide), fun _ => rfl⟩
  · intro v k h hk
    exact ⟨fun _ => h.1 (by omega), fun _ => Or.inr hk, fun z => by omega, fun z => by omega⟩
  · intro k s' c' pl' hk hI'
    have f : rnk (opk k) = 6 ∧ opk k ≠ 41 ∧ iso (opk k) = false ∧ opk k ≠ 16 := by
      rcases isP_v hk with rfl | rfl <;> decide
    refine ho _ N s' c' pl' (by rw [nop_ni f.2.2.1]; exact h8) ?_ (fun z => absurd z (iaa_f (by omega) f.2.1)) hI'
    intro o R e
    cases e
    exact ⟨by omega, f.2.2.2⟩
  · exact ho P N s c pl h8 (fun o R e => ⟨Nat.lt_succ_of_lt (ht o R e).1, (ht o R e).2⟩) he hI
/-- what stands between two sums -/
theorem n_cmp (hn : n ≤ 300) {L : Nat} {sum : Rst → Rst} (ho : NtS b n ev L 6 sum) (hx : ∀ σ : Rst, σ.2.1 ≠ 0 → sum σ = σ) {P N : List Nat} {s : Nat} {c : List (Nat × Nat)} {pl : Int32} (h8 : nop P + L = 8) (ha : iaa P = true) (hk : kdp b n s ≠ 215 ∧ kdp b n s ≠ 216 ∧ kdp b n s ≠ 217) (hI : Iv n (s, c, P, N, false)) : Gd b n ev P N 4 s c pl (cmpF b n sum (s, 0, pl, c)) := by
  have h4 := iaa_4 ha
  have t6 : ∀ o R, P = o :: R → rnk o < 6 ∧ o ≠ 16 := fun o R e => by
    have := h4 o R e
    refine ⟨by omega, fun z => ?_⟩
    rw [z] at this
    exact absurd this (by decide)
  have hw := iaa_w ha
  have hi := iaa_i ha
  have hov := opw_v P hI.1.1
  unfold cmpF
  rcases ho P N s c pl h8 t6 (fun _ => hk) hI with ⟨f0, fp, c3, q3, R2, g1, g2, g3, g4, g5⟩ | hf
  · generalize sum (s, 0, pl, c) = σ at *
    obtain ⟨s3, f3, p3, T3⟩ := σ
    have f0 : f3 = 0 := f0
    have fp : p3 = pl := fp
    have g4 : emt q3 c3 = T3 := g4
    have g3 : spk 6 (ovr q3) (kdp b n s3) := g3
    have g5 : Tn [false] c T3 := g5
    rw [← g4] at g5
    have R2 : Rch b n ev (s, c, P, N, false) (s3, c3, q3 ++ P, N, true) := R2
    rw [f0, fp, ← g4, kn_0]
    have ew : opw (q3 ++ P) = opw P := opw_app P (fun o h => by have := g1 o h; omega)
    have ei : icm (q3 ++ P) = icm P := icm_hi P g1
    have eo : ovr (q3 ++ P) = false := ovr_hi g1 (fun o R e => (t6 o R e).2)
    by_cases z : isC (kdp b n s3) = true
    · rw [if_pos z, adv_0]
      obtain ⟨v1, v2, v3, v4, v5, v6, v7, v8, v9⟩ := isC_v z
      obtain ⟨v10, v11⟩ := isC_t z
      have eb : betF (q3 ++ P) (kdp b n s3) = opk (kdp b n s3) := by
        rw [bt_n (Or.inr v1) (Or.inr v2), ew, ei, if_neg hw, if_pos hi]
        exact v3
      have st := bh_op (ev := ev) (N := N) (c2 := c3) (r := 5) eb v4 (by rw [if_neg v5]; exact v7) (fun o h => Nat.le_of_succ_le (g1 o h)) (fun o R e => Nat.lt_succ_of_le (h4 o R e))
      have R1 := R2.tr (Rch.on st)
      have I1 := (R1.iv hI).1
      rcases ho (opk (kdp b n s3) :: P) N (nx1 b n s3) (emt q3 c3) pl (by rw [nop_ni v8]; exact h8) (fun o R e => by cases e; exact ⟨by omega, v6⟩) (fun z => absurd z (iaa_f (by omega) v9)) I1 with ⟨f0', fp', c4, q4, R3, k1, k2, k3, k4, k5⟩ | hf
      · generalize sum (nx1 b n s3, 0, pl, emt q3 c3) = σ at *
        obtain ⟨s4, f4, p4, T4⟩ := σ
        have f0' : f4 = 0 := f0'
        have fp' : p4 = pl := fp'
        have k4 : emt q4 c4 = T4 := k4
        have k3 : spk 6 (ovr q4) (kdp b n s4) := k3
        have k5 : Tn [false] (emt q3 c3) T4 := k5
        rw [← k4] at k5
        have R3 : Rch b n ev (nx1 b n s3, emt q3 c3, opk (kdp b n s3) :: P, N, false) (s4, c4, q4 ++ opk (kdp b n s3) :: P, N, true) := R3
        have R4 := R1.tr R3
        have I4 := (R4.iv hI).1
        have i1 : c4.length + (q4 ++ opk (kdp b n s3) :: P).length + 1 ≤ s4 := I4.2.1
        have i2 : s4 ≤ n := I4.2.2.1
        have i3 := emt_len q4 c4
        rw [List.length_append, List.length_cons] at i1
        rw [f0', fp', ← k4, add_ok (by omega)]
        have ep : q4 ++ opk (kdp b n s3) :: P = (q4 ++ [opk (kdp b n s3)]) ++ P := by
          rw [List.append_assoc]
          rfl
        rw [ep] at R4
        refine Or.inl ⟨rfl, rfl, c4, _, R4, ?_, ?_, ?_, ?_, (g5.tr k5).ad (a := [false, false]) (a' := [true]) (e := []) v10 v11⟩
        · intro o ho
          rcases List.mem_append.mp ho with y | y
          · have := k1 o y
            omega
          · rw [List.mem_singleton.mp y]
            omega
        · intro _
          rw [icm_hi _ k1]
          show (if 5 < rnk (opk (kdp b n s3)) then icm [] else decide (rnk (opk (kdp b n s3)) = 5)) = true
          rw [v7]
          rfl
        · have k3 := spk_v k3 (v' := ovr (q4 ++ [opk (kdp b n s3)])) (fun y => ovr_app _ y)
          exact ⟨fun _ => k3.1 (by omega), fun _ => k3.2.1 (by omega), fun z => by omega, fun z => by omega⟩
        · rw [emt_app]
          exact if_neg v6
      · exact Or.inr (R1.fd (hf.ad _ _))
    · rw [if_neg z, rfs_0]
      have eq : ovr q3 = false := by
        have := ovr_hi (P := []) g1 (fun o R e => by cases e)
        rw [List.append_nil] at this
        exact this
      have a1 := g3.1 (by omega)
      have a2 := g3.2.1 (by omega)
      rw [eq] at a1 a2
      have a1 := a1.resolve_left (by decide)
      have a2 := a2.resolve_left (by decide)
      have eb : betF (q3 ++ P) (kdp b n s3) = 99 := by
        rw [bt_n (Or.inr a1) (Or.inr a2), ew, ei, if_neg hw, if_pos hi]
        exact isC_n z
      have st : stq b n ev (s3, c3, q3 ++ P, N, true) = (9, (s3, c3, q3 ++ P, N, true)) := bh_9 eb (by
        rw [ew, ei]
        by_cases y : opw P = 41
        · exact Or.inl ⟨y, hi⟩
        · exact Or.inr ⟨fun x => y x.1, Or.inl (by omega)⟩)
      exact Or.inr (R2.fd (Fdx.nd st (nd_1 (Or.inr (by rw [ei]; exact hi))) rfl rfl))
  · have hx1 := hx _ hf.1
    rw [fx_k hf.1, if_neg (show ¬ isC 0 = true by decide), fx_rfs hf.1]
    exact Or.inr hf
/-- was and came -/
theorem n_askd {o top s : Nat} {P N : List Nat} {c : List (Nat × Nat)} {pl : Int32} {σ : Rst} (hI : Iv n (s, c, P, N, false)) (hst : stq b n ev (s, c, P, N, false) = askd b n ev o top (s, c, P, N, false)) (ho : ¬ top < vlp b n (nx1 b n s) → tvb o (vlp b n (nx1 b n s)) ∧ ∀ st, ty1 o (vlp b n (nx1 b n s)) st = some (true :: st))
    (h1 : ¬ kdp b n (nx1 b n s) = 2 → σ.2.1 = 1 ∧ σ.2.2.1 = nI (nx1 b n s))
    (h2 : kdp b n (nx1 b n s) = 2 → top < vlp b n (nx1 b n s) → σ.2.1 = 2 ∧ σ.2.2.1 = nI (nx1 b n s))
    (h3 : kdp b n (nx1 b n s) = 2 → ¬ top < vlp b n (nx1 b n s) → o = 3 ∧ ev ≤ vlp b n (nx1 b n s) → σ.2.1 = 5 ∧ σ.2.2.1 = nI (nx1 b n s))
    (h4 : kdp b n (nx1 b n s) = 2 → ¬ top < vlp b n (nx1 b n s) → ¬ (o = 3 ∧ ev ≤ vlp b n (nx1 b n s)) → σ = (nx1 b n (nx1 b n s), 0, pl, c ++ [(o, vlp b n (nx1 b n s))])) : Gd b n ev P N 4 s c pl σ := by
  unfold askd at hst
  by_cases z1 : kdp b n (nx1 b n s) = 2
  · rw [if_neg (show ¬ ¬ kdp b n (nx1 b n s) = 2 from fun y => y z1)] at hst
    by_cases z2 : top < vlp b n (nx1 b n s)
    · rw [if_pos (show top < vlp b n (nx1 b n s) from z2)] at hst
      have e := h2 z1 z2
      exact Or.inr (Fdx.st hst (by omega) (by omega) e.1 e.2)
    · rw [if_neg (show ¬ top < vlp b n (nx1 b n s) from z2)] at hst
      by_cases z3 : o = 3 ∧ ev ≤ vlp b n (nx1 b n s)
      · rw [if_pos (show o = 3 ∧ ev ≤ vlp b n (nx1 b n s) from z3)] at hst
        have e := h3 z1 z2 z3
        exact Or.inr (Fdx.st hst (by omega) (by omega) e.1 e.2)
      · rw [if_neg (show ¬ (o = 3 ∧ ev ≤ vlp b n (nx1 b n s)) from z3)] at hst
        rw [h4 z1 z2 z3]
        refine Or.inl ⟨rfl, rfl, c ++ [(o, vlp b n (nx1 b n s))], [16], Rch.on hst, ?_, fun _ => rfl, ⟨fun _ => Or.inl rfl, fun _ => Or.inl rfl, fun z => by omega, fun z => by omega⟩, rfl, (Tn.rf c).ad (a := []) (a' := [true]) (e := []) (ho z2).2 (ho z2).1⟩
        intro x hx
        rw [List.mem_singleton.mp hx]
        decide
  · rw [if_pos (show ¬ kdp b n (nx1 b n s) = 2 from z1)] at hst
    have e := h1 z1
    exact Or.inr (Fdx.st hst (by omega) (by omega) e.1 e.2)
theorem n_ask (hn : n ≤ 300) {L : Nat} {op : Bool} {pA cmp : Rst → Rst} (h0 : op = false → L = 0) (hA : op = true → ∃ M, L = M + 1 ∧ NtA b n ev M 4 pA)
    (hc : ∀ (P N : List Nat) (s : Nat) (c : List (Nat × Nat)) (pl : Int32), nop P + L = 8 → iaa P = true → (kdp b n s ≠ 215 ∧ kdp b n s ≠ 216 ∧ kdp b n s ≠ 217) → Iv n (s, c, P, N, false) → Gd b n ev P N 4 s c pl (cmp (s, 0, pl, c))) : NtA b n ev L 4 (askF b n ev op pA cmp) := by
  intro P N s c pl h8 ha _ hI
  unfold askF
  rw [kn_0, adv_0]
  by_cases q1 : kdp b n s = 215
  · rw [if_pos q1]
    have st := bg_215 (ev := ev) (c := c) (N := N) ha q1
    cases op with
    | false =>
      rw [if_neg (by decide), rfs_0]
      have := h0 rfl
      rw [opn_8 (by omega)] at st
      exact Or.inr (Fdx.st st (by decide) (by decide) rfl rfl)
    | true =>
      obtain ⟨M, rfl, hA'⟩ := hA rfl
      rw [if_pos rfl]
      rw [opn_o (by omega) (by decide)] at st
      have R1 := Rch.on st
      have I1 := (R1.iv hI).1
      rcases hA' (20 :: P) N (nx1 b n s) c pl (by rw [nop_is rfl]; omega) (iaa_t ha (by decide) (by decide)) (fun z => by omega) I1 with ⟨f0, fp, c3, q3, R2, g1, g2, g3, g4, g5⟩ | hf
      · generalize pA (nx1 b n s, 0, pl, c) = σ at *
        obtain ⟨s3, f3, p3, T3⟩ := σ
        have f0 : f3 = 0 := f0
        have fp : p3 = pl := fp
        have g4 : emt q3 c3 = T3 := g4
        have g3 : spk 4 (ovr q3) (kdp b n s3) := g3
        have g5 : Tn [true] c T3 := g5
        rw [← g4] at g5
        have R2 : Rch b n ev (nx1 b n s, c, 20 :: P, N, false) (s3, c3, q3 ++ 20 :: P, N, true) := R2
        have R3 := R1.tr R2
        have I3 := (R3.iv hI).1
        have i1 : c3.length + (q3 ++ 20 :: P).length + 1 ≤ s3 := I3.2.1
        have i2 : s3 ≤ n := I3.2.2.1
        have i3 := emt_len q3 c3
        rw [List.length_append, List.length_cons] at i1
        rw [f0, fp, ← g4, add_ok (by omega)]
        have ep : q3 ++ 20 :: P = (q3 ++ [20]) ++ P := by
          rw [List.append_assoc]
          rfl
        rw [ep] at R3
        refine Or.inl ⟨rfl, rfl, c3, _, R3, ?_, ?_, ?_, ?_, g5.ad (a := [true]) (a' := [true]) (e := []) (fun _ => rfl) (trv_0 (by decide))⟩
        · intro o ho
          rcases List.mem_append.mp ho with y | y
          · exact g1 o y
          · rw [List.mem_singleton.mp y]
            decide
        · intro y
          exact icm_app _ (g2 y)
        · exact spk_v g3 (fun y => ovr_app _ y)
        · rw [emt_app]
          rfl
      · exact Or.inr (R1.fd (hf.ad _ _))
  rw [if_neg q1]
  by_cases q2 : kdp b n s = 216
  · rw [if_pos q2]
    have hcl := hI.cl hn
    refine n_askd hI (bg_216 ha q2) (fun z => ⟨by unfold tvb trv; omega, fun _ => rfl⟩) ?_ ?_ ?_ ?_
    · intro z
      unfold rnv rns
      rw [kn_0, if_neg z, if_neg z, rfs_0, add_ok hcl]
      exact ⟨rfl, rfl⟩
    · intro z z2
      unfold rnv rns
      rw [kn_0, if_pos z, if_pos z, if_neg (show ¬ (0 ≤ vlp b n (nx1 b n s) ∧ vlp b n (nx1 b n s) ≤ 7) by omega), if_neg (show ¬ (0 ≤ vlp b n (nx1 b n s) ∧ vlp b n (nx1 b n s) ≤ 7) by omega), rfs_0, add_ok hcl]
      exact ⟨rfl, rfl⟩
    · intro _ _ z
      exact absurd z.1 (by decide)
    · intro z z2 _
      unfold rnv rns
      rw [kn_0, if_pos z, if_pos z, if_pos (show 0 ≤ vlp b n (nx1 b n s) ∧ vlp b n (nx1 b n s) ≤ 7 by omega), if_pos (show 0 ≤ vlp b n (nx1 b n s) ∧ vlp b n (nx1 b n s) ≤ 7 by omega), adv_0, add_ok hcl]
  rw [if_neg q2]
  by_cases q3 : kdp b n s = 217
  · rw [if_pos q3]
    have hcl := hI.cl hn
    unfold camF
    rw [kn_0]
    refine n_askd hI (bg_217 ha q3) (fun z => ⟨by unfold tvb trv; omega, fun _ => rfl⟩) ?_ ?_ ?_ ?_
    · intro z
      rw [if_neg (show ¬ (kdp b n (nx1 b n s) = 2 ∧ vlp b n (nx1 b n s) < 10 ∧ ev ≤ vlp b n (nx1 b n s)) from fun y => z y.1)]
      unfold rnv rns
      rw [kn_0, if_neg z, if_neg z, rfs_0, add_ok hcl]
      exact ⟨rfl, rfl⟩
    · intro z z2
      rw [if_neg (show ¬ (kdp b n (nx1 b n s) = 2 ∧ vlp b n (nx1 b n s) < 10 ∧ ev ≤ vlp b n (nx1 b n s)) from fun y => by omega)]
      unfold rnv rns
      rw [kn_0, if_pos z, if_pos z, if_neg (show ¬ (0 ≤ vlp b n (nx1 b n s) ∧ vlp b n (nx1 b n s) ≤ 9) by omega), if_neg (show ¬ (0 ≤ vlp b n (nx1 b n s) ∧ vlp b n (nx1 b n s) ≤ 9) by omega), rfs_0, add_ok hcl]
      exact ⟨rfl, rfl⟩
    · intro z z2 z3
      rw [if_pos (show kdp b n (nx1 b n s) = 2 ∧ vlp b n (nx1 b n s) < 10 ∧ ev ≤ vlp b n (nx1 b n s) from ⟨z, by omega, z3.2⟩), rfs_0]
      exact ⟨rfl, rfl⟩
    · intro z z2 z3
      rw [if_neg (show ¬ (kdp b n (nx1 b n s) = 2 ∧ vlp b n (nx1 b n s) < 10 ∧ ev ≤ vlp b n (nx1 b n s)) from fun y => z3 ⟨rfl, y.2.2⟩)]
      unfold rnv rns
      rw [kn_0, if_pos z, if_pos z, if_pos (show 0 ≤ vlp b n (nx1 b n s) ∧ vlp b n (nx1 b n s) ≤ 9 by omega), if_pos (show 0 ≤ vlp b n (nx1 b n s) ∧ vlp b n (nx1 b n s) ≤ 9 by omega), adv_0, add_ok hcl]
  rw [if_neg q3]
  exact hc P N s c pl h8 ha ⟨q1, q2, q3⟩ hI
theorem n_bot (hn : n ≤ 300) {L : Nat} {ask : Rst → Rst} (ho : NtA b n ev L 4 ask) : NtA b n ev L 3 (botF b n ask) := by
  intro P N s c pl h8 ha ht hI
  unfold botF
  refine Gd.nt hn (r := 3) (cnd := fun k => decide (k = 214)) (ok := fun _ => 21) (sub := ask) rfl (ht (by omega)) ?_ (fun _ _ => ⟨by decide, by decide, by decide, by decide, trv_0 (by decide), fun _ => rfl⟩) ?_ (fun z => by omega) ?_ hI ?_
  · intro q k hq hi hk
    have hk : k = 214 := of_decide_eq_true hk
    rw [hk, bt_n (Or.inr rfl) (Or.inr rfl), opw_app P (fun o h => by have := hq o h; omega), if_neg (iaa_w ha), if_neg (show ¬ ¬ icm (q ++ P) = true from fun z => z (icm_app P (hi (by omega)))), if_pos rfl]
  · intro v k h hk
    exact ⟨fun _ => h.1 (by omega), fun _ => h.2.1 (by omega), fun _ => of_decide_eq_false hk, fun z => by omega⟩
  · intro k s' c' pl' hk hI'
    exact ho (21 :: P) N s' c' pl' (by rw [nop_ni rfl]; exact h8) (iaa_t ha (by decide) (by decide)) (fun z => by omega) hI'
  · exact ho P N s c pl h8 ha (fun z => by omega) hI
theorem n_eit (hn : n ≤ 300) {L : Nat} {bot : Rst → Rst} (ho : NtA b n ev L 3 bot) : NtA b n ev L 2 (eitF b n bot) := by
  intro P N s c pl h8 ha ht hI
  unfold eitF
  refine Gd.nt hn (r := 2) (cnd := fun k => decide (k = 213)) (ok := fun _ => 22) (sub := bot) rfl (ht (by omega)) ?_ (fun _ _ => ⟨by decide, by decide, by decide, by decide, trv_0 (by decide), fun _ => rfl⟩) ?_ (fun z => by omega) ?_ hI ?_
  · intro q k hq hi hk
    have hk : k = 213 := of_decide_eq_true hk
    rw [hk, bt_n (Or.inr rfl) (Or.inr rfl), opw_app P (fun o h => by have := hq o h; omega), if_neg (iaa_w ha), if_neg (show ¬ ¬ icm (q ++ P) = true from fun z => z (icm_app P (hi (by omega)))), if_neg (by decide), if_pos rfl]
  · intro v k h hk
    exact ⟨fun _ => h.1 (by omega), fun _ => h.2.1 (by omega), fun _ => h.2.2.1 (by omega), fun _ => of_decide_eq_false hk⟩
  · intro k s' c' pl' hk hI'
    exact ho (22 :: P) N s' c' pl' (by rw [nop_ni rfl]; exact h8) (iaa_t ha (by decide) (by decide)) (fun _ o R e => by cases e; decide) hI'
  · exact ho P N s c pl h8 ha (fun z o R e => Nat.lt_succ_of_lt (ht (by omega) o R e)) hI
end
