/-! texts: what was read makes a text of both (by hand) -/
theorem tk_s {α : Type} (d : α) : ∀ (l : List α) (k : Nat), k < l.length → l.take (k + 1) = l.take k ++ [l.getD k d]
  | [], k, h => absurd h (Nat.not_lt_zero k)
  | x :: l, 0, _ => by simp
  | x :: l, k + 1, h => by
    have h : k + 1 < l.length + 1 := h
    have := tk_s d l k (by omega)
    simp only [List.take_succ_cons, List.getD_cons_succ, List.cons_append]
    rw [this]
theorem dr_s {α : Type} (d : α) : ∀ (l : List α) (k : Nat), k < l.length → l.drop k = l.getD k d :: l.drop (k + 1)
  | [], k, h => absurd h (Nat.not_lt_zero k)
  | x :: l, 0, _ => by simp
  | x :: l, k + 1, h => by
    have h : k + 1 < l.length + 1 := h
    have := dr_s d l k (by omega)
    simp only [List.drop_succ_cons, List.getD_cons_succ]
    exact this
theorem gD_m {α : Type} (d : α) : ∀ (l : List α) (k : Nat), k < l.length → l.getD k d ∈ l
  | [], k, h => absurd h (Nat.not_lt_zero k)
  | x :: l, 0, _ => by simp
  | x :: l, k + 1, h => by
    have h : k + 1 < l.length + 1 := h
    have := gD_m d l k (by omega)
    simp only [List.getD_cons_succ]
    exact List.mem_cons_of_mem _ this
/-- what stands in the reference's texts behind the reading of text t -/
def gho (R : Nat → Int32) (t : Nat) (cl : Cls) (T : List (Nat × Nat)) : Nat → Int32 := fun k =>
  if k < 705 * t ∨ 705 * t + 705 ≤ k then R k else if k = 705 * t then nI cl.length
  else if k < 705 * t + 97 then (if (k - (705 * t + 1)) % 4 = 0 then nI (srt (cl.getD ((k - (705 * t + 1)) / 4) (0, 0, 0)).1) else if (k - (705 * t + 1)) % 4 = 1 then nI (cl.getD ((k - (705 * t + 1)) / 4) (0, 0, 0)).2.1 else nI (cl.getD ((k - (705 * t + 1)) / 4) (0, 0, 0)).2.2)
  else (if (k - (705 * t + 97)) % 2 = 0 then nI (T.getD ((k - (705 * t + 97)) / 2) (0, 0)).1 else nI (T.getD ((k - (705 * t + 97)) / 2) (0, 0)).2)
/-- the row G holds the text t -/
def Hld (G : Nat → Int32) (t : Nat) (cl : Cls) (T : List (Nat × Nat)) : Prop := G (705 * t) = nI cl.length ∧ (∀ i, i < cl.length → G (705 * t + 1 + 4 * i) = nI (srt (cl.getD i (0, 0, 0)).1) ∧ G (705 * t + 2 + 4 * i) = nI (cl.getD i (0, 0, 0)).2.1 ∧ ((cl.getD i (0, 0, 0)).1 ≠ 206 → (cl.getD i (0, 0, 0)).1 ≠ 211 → G (705 * t + 3 + 4 * i) = nI (cl.getD i (0, 0, 0)).2.2)) ∧ ∀ i, i < T.length → G (705 * t + 97 + 2 * i) = nI (T.getD i (0, 0)).1 ∧ G (705 * t + 98 + 2 * i) = nI (T.getD i (0, 0)).2
theorem gho_h {R : Nat → Int32} {t : Nat} {cl : Cls} {T : List (Nat × Nat)} (h24 : cl.length ≤ 24) (h300 : T.length ≤ 300) : Hld (gho R t cl T) t cl T := by
  refine ⟨?_, fun i hi => ⟨?_, ?_, fun _ _ => ?_⟩, fun i hi => ⟨?_, ?_⟩⟩
  · unfold gho
    rw [if_neg (by omega), if_pos rfl]
  · unfold gho
    rw [if_neg (by omega), if_neg (by omega), if_pos (by omega), if_pos (by omega), show (705 * t + 1 + 4 * i - (705 * t + 1)) / 4 = i by omega]
  · unfold gho
    rw [if_neg (by omega), if_neg (by omega), if_pos (by omega), if_neg (by omega), if_pos (by omega), show (705 * t + 2 + 4 * i - (705 * t + 1)) / 4 = i by omega]
  · unfold gho
    rw [if_neg (by omega), if_neg (by omega), if_pos (by omega), if_neg (by omega), if_neg (by omega), show (705 * t + 3 + 4 * i - (705 * t + 1)) / 4 = i by omega]
  · unfold gho
    rw [if_neg (by omega), if_neg (by omega), if_neg (by omega), if_pos (by omega), show (705 * t + 97 + 2 * i - (705 * t + 97)) / 2 = i by omega]
  · unfold gho
    rw [if_neg (by omega), if_neg (by omega), if_neg (by omega), if_neg (by omega), show (705 * t + 98 + 2 * i - (705 * t + 97)) / 2 = i by omega]
theorem gho_o {R : Nat → Int32} {t : Nat} {cl : Cls} {T : List (Nat × Nat)} {k : Nat} (h : k < 705 * t ∨ 705 * t + 705 ≤ k) : gho R t cl T k = R k := if_pos h
theorem srt_k {k : Nat} (h : kd8 k) : knd (srt k) = k ∧ srt k < 8 ∧ (srt k = 4 ↔ k = 206) ∧ (srt k = 7 ↔ k = 211) ∧ (srt k < 2 ↔ k = 200 ∨ k = 201) := by
  rcases h with rfl | rfl | rfl | rfl | rfl | rfl | rfl | rfl <;> decide
section
variable {G : Nat → Int32} {t : Nat} {cl : Cls} {T : List (Nat × Nat)}
theorem Hld.nk (h : Hld G t cl T) (h24 : cl.length ≤ 24) : nK G t = cl.length := by
  unfold nK
  rw [h.1]
  exact nI_clamp (by omega)
theorem Hld.ev (h : Hld G t cl T) (hok : Okc cl T) : ∀ k, k ≤ cl.length → evs G t k = evc (cl.take k)
  | 0, _ => by
    rw [List.take_zero]
    rfl
  | k + 1, hk => by
    rw [tk_s (0, 0, 0) cl k (by omega), evc_a, ← Hld.ev h hok k (by omega)]
    show evs G t k + (if G (705 * t + 1 + 4 * k) = nI 1 then 1 else 0) = _
    have h8 := (hok.2 _ (gD_m (0, 0, 0) cl k (by omega))).1
    obtain ⟨y7, y0, y1, yB, yk⟩ := srt_v h8
    rw [(h.2.1 k (by omega)).1]
    by_cases q : (cl.getD k (0, 0, 0)).1 = 200
    · rw [if_pos q, if_pos (by rw [y1.mpr q])]
    · rw [if_neg q, if_neg (fun z => q (y1.mp ((nI_eq (by omega) (by omega)).mp z)))]
theorem Hld.op (h : Hld G t cl T) (hok : Okc cl T) {i : Nat} (hi : i < T.length) : opn G t i = (T.getD i (0, 0)).1 ∧ opv G t i = (T.getD i (0, 0)).2 ∧ tvb (T.getD i (0, 0)).1 (T.getD i (0, 0)).2 := by
  have hv := hok.1 _ (gD_m (0, 0) T i hi)
  have h23 : (T.getD i (0, 0)).1 ≤ 23 := by
    have := hv.1
    unfold trv at this
    omega
  have h9 := hv.2
  refine ⟨?_, ?_, hv⟩
  · unfold opn
    rw [(h.2.2 i hi).1]
    exact nI_clamp (by omega)
  · unfold opv
    rw [(h.2.2 i hi).2]
    exact nI_clamp (by omega)
theorem Hld.ty (h : Hld G t cl T) (hok : Okc cl T) : ∀ (k i : Nat) (st : List Bool), i + k ≤ T.length → tys G t k i st = tyl ((T.drop i).take k) st
  | 0, i, st, _ => by
    rw [List.take_zero]
    rfl
  | k + 1, i, st, hk => by
    rw [dr_s (0, 0) T i (by omega), List.take_succ_cons]
    obtain ⟨o1, o2, _⟩ := h.op hok (i := i) (by omega)
    show (ty1 (opn G t i) (opv G t i) st).bind (tys G t k (i + 1)) = (ty1 (T.getD i (0, 0)).1 (T.getD i (0, 0)).2 st).bind (tyl ((T.drop (i + 1)).take k))
    rw [o1, o2]
    cases ty1 (T.getD i (0, 0)).1 (T.getD i (0, 0)).2 st with
    | none => rfl
    | some s => exact Hld.ty h hok k (i + 1) s (by omega)
/-- the class's rows of text t -/
def Crw (C : Nat → Nat → Int32) (t : Nat) (cl : Cls) (T : List (Nat × Nat)) : Prop :=
  C (236 + 7 * t) 6 = nI cl.length ∧ C (236 + 7 * t) 7 = nI (evc cl) ∧ C (236 + 7 * t) 8 = nI T.length ∧
  (∀ i, i < cl.length → C (237 + 7 * t) i = nI (cl.getD i (0, 0, 0)).1 ∧ C (238 + 7 * t) i = nI (cl.getD i (0, 0, 0)).2.1 ∧ C (239 + 7 * t) i = nI (cl.getD i (0, 0, 0)).2.2) ∧
  ∀ i, i < T.length → C (240 + 7 * t) i = nI (trm (T.getD i (0, 0)).1 (T.getD i (0, 0)).2).1 ∧ C (241 + 7 * t) i = nI (trm (T.getD i (0, 0)).1 (T.getD i (0, 0)).2).2
theorem mkTG {C : Nat → Nat → Int32} {n wo : Nat} (h : Hld G t cl T) (hc : Crw C t cl T) (hok : Okc cl T) (h24 : cl.length ≤ 24) (h300 : T.length ≤ 300) (hev : evc cl ≤ 10) (hn : n ≤ wo) (hwo : wo ≤ 256) (h9 : C (236 + 7 * t) 9 = nI wo) (hw : ∀ w, w < wo → C (242 + 7 * t) w = nI (EvT G t w + if MyT G t w then 1024 else 0)) : TG C G t n := by
  have ek := h.nk h24
  have ee : evs G t cl.length = evc cl := by
    rw [h.ev hok cl.length (Nat.le_refl _), List.take_length]
  obtain ⟨c1, c2, c3, c4, c5⟩ := hc
  refine ⟨T.length, wo, h300, hn, hwo, c1.trans h.1.symm, ?_, ?_, ?_, ?_, c3, h9, ?_, ?_, hw⟩
  · rw [ek]
    exact h.1
  · rw [ek]
    exact h24
  · rw [ek, ee]
    exact c2
  · rw [ek, ee]
    exact hev
  · intro k hk
    rw [ek] at hk
    obtain ⟨g1, g2, g3⟩ := h.2.1 k hk
    obtain ⟨d1, d2, d3⟩ := c4 k hk
    have hoc := hok.2 _ (gD_m (0, 0, 0) cl k hk)
    obtain ⟨s1, s2, s3, s4, s5⟩ := srt_k hoc.1
    refine ⟨srt (cl.getD k (0, 0, 0)).1, s2, g1, by rw [s1]; exact d1, d2.trans g2.symm, fun y1 y2 => d3.trans (g3 (fun z => y1 (s3.mpr z)) (fun z => y2 (s4.mpr z))).symm, fun y => ?_⟩
    obtain ⟨w1, w2, w3⟩ := hoc.2 (s5.mp y)
    have g3 := g3 (fun z => by have := s5.mp y; omega) (fun z => by have := s5.mp y; omega)
    have e1 : cl1 G t k = (cl.getD k (0, 0, 0)).2.1 := by
      unfold cl1
      rw [g2]
      exact nI_clamp (by omega)
    have e2 : cl2 G t k = (cl.getD k (0, 0, 0)).2.2 := by
      unfold cl2
      rw [g3]
      exact nI_clamp (by omega)
    rw [e1, e2, h.ty hok _ _ [] (by omega)]
    exact ⟨g2, g3, w1, w2, w3⟩
  · intro i hi
    obtain ⟨o1, o2, o3⟩ := h.op hok hi
    rw [o1, o2]
    exact ⟨(h.2.2 i hi).1, (h.2.2 i hi).2, o3.1, (c5 i hi).1, (c5 i hi).2⟩
/-- two rows that hold the same text -/
theorem Hld.sam {G' : Nat → Int32} (h : Hld G t cl T) (h' : Hld G' t cl T) (hok : Okc cl T) (h24 : cl.length ≤ 24) : Sam G G' t T.length := by
  refine ⟨h'.1.trans h.1.symm, fun k hk => ?_, fun i hi => ⟨(h'.2.2 i hi).1.trans (h.2.2 i hi).1.symm, (h'.2.2 i hi).2.trans (h.2.2 i hi).2.symm⟩⟩
  rw [h.nk h24] at hk
  obtain ⟨g1, g2, g3⟩ := h.2.1 k hk
  obtain ⟨d1, d2, d3⟩ := h'.2.1 k hk
  obtain ⟨s1, s2, s3, s4, s5⟩ := srt_k (hok.2 _ (gD_m (0, 0, 0) cl k hk)).1
  refine ⟨d1.trans g1.symm, d2.trans g2.symm, fun y1 y2 => ?_⟩
  rw [g1] at y1 y2
  have z1 : (cl.getD k (0, 0, 0)).1 ≠ 206 := fun z => y1 (by rw [s3.mpr z])
  have z2 : (cl.getD k (0, 0, 0)).1 ≠ 211 := fun z => y2 (by rw [s4.mpr z])
  exact (d3 z1 z2).trans (g3 z1 z2).symm
end
