/-! texts: one, all levels, the whole law (by wip/whole/mk_98vz.py) -/
theorem tk_rep : ∀ (x : Nat) (st : List Bool), (List.replicate x true ++ st).take x = List.replicate x true ∧ (List.replicate x true ++ st).drop x = st
  | 0, _ => ⟨rfl, rfl⟩
  | x + 1, st => ⟨congrArg (List.cons true) (tk_rep x st).1, (tk_rep x st).2⟩
theorem tn_rep {c : List (Nat × Nat)} : ∀ (x : Nat) (T : List (Nat × Nat)), Tn (List.replicate (x + 1) true) c T → Tn [true] c (emt (List.replicate x 23) T)
  | 0, _, h => h
  | x + 1, T, h => by
    show Tn [true] c (emt (List.replicate x 23) (T ++ [(23, 0)]))
    exact tn_rep x _ (Tn.ad (a := [true, true]) (a' := [true]) (e := List.replicate x true) h (fun _ => rfl) (trv_0 (by decide)))
theorem nop_rep : ∀ x, nop (List.replicate x 23) = 0
  | 0 => rfl
  | x + 1 => by
    show nop (23 :: List.replicate x 23) = 0
    rw [nop_ni rfl]
    exact nop_rep x
theorem opw_rep : ∀ x, opw (List.replicate x 23) = 0
  | 0 => rfl
  | x + 1 => by
    show (if 40 ≤ 23 then 23 else opw (List.replicate x 23)) = 0
    rw [if_neg (by decide)]
    exact opw_rep x
theorem iaa_rep : ∀ x, iaa (List.replicate x 23) = true
  | 0 => rfl
  | x + 1 => iaa_t (iaa_rep x) (by decide) (by decide)
theorem top_rep (x : Nat) : ∀ o R, List.replicate x 23 = o :: R → rnk o < 2 := by
  intro o R e
  cases x with
  | zero => cases e
  | succ x =>
    have e : 23 :: List.replicate x 23 = o :: R := e
    cases e
    decide
section
variable {b : Nat → Nat} {n ev : Nat}
theorem G1.em {P N : List Nat} {s o v : Nat} {c : List (Nat × Nat)} {pl : Int32} (hn : n ≤ 300) (hI : Iv n (s, c, P, N, false)) (st : stq b n ev (s, c, P, N, false) = emF b n o v (s, c, P, N, false)) (ht : ∀ st, ty1 o v st = some (false :: st)) (hv : tvb o v) : G1 b n ev P N s c pl (add o v (nx1 b n s, 0, pl, c)) := by
  rw [add_ok (hI.cl hn)]
  exact Or.inl ⟨rfl, rfl, Rch.on st, (Tn.rf c).ad (a := []) (a' := [false]) (e := []) ht hv⟩
/-- behind a sum in brackets -/
theorem bh_40 {s : Nat} {c2 : List (Nat × Nat)} {q P N : List Nat} (hq : ∀ o, o ∈ q → 1 ≤ rnk o) (hk : kdp b n s = 41) : stq b n ev (s, c2, q ++ 40 :: P, N, true) = (0, (nx1 b n s, (stl 8 P (emt q c2)).2, (stl 8 P (emt q c2)).1, N, true)) := by
  have ew : opw (q ++ 40 :: P) = 40 := opw_app (40 :: P) hq
  have es : stl 1 (q ++ 40 :: P) c2 = (40 :: P, emt q c2) := by
    rw [stl_pend q c2 hq]
    exact stl_stop _ (fun o R e => by cases e; decide)
  have eb : betF (q ++ 40 :: P) (kdp b n s) = 99 := by
    rw [hk, bt_n (Or.inr rfl) (Or.inr rfl), ew, if_pos rfl]
  rw [stq_t]
  unfold behF
  rw [if_neg (show ¬ ¬ betF (q ++ 40 :: P) (kdp b n s) = 99 from fun z => z eb), if_neg (show ¬ (opw (q ++ 40 :: P) = 41 ∧ ¬ icm (q ++ 40 :: P) = true) by rw [ew]; omega), if_neg (show ¬ (opw (q ++ 40 :: P) = 41 ∧ kdp b n s = 44) by rw [ew]; omega), if_neg (show ¬ (opw (q ++ 40 :: P) = 0 ∨ ¬ kdp b n s = 41) by rw [ew]; omega), if_neg (show ¬ opw (q ++ 40 :: P) = 41 by rw [ew]; omega)]
  show (0, (nx1 b n s, (stl 8 (stl 1 (q ++ 40 :: P) c2).1.tail (stl 1 (q ++ 40 :: P) c2).2).2, (stl 8 (stl 1 (q ++ 40 :: P) c2).1.tail (stl 1 (q ++ 40 :: P) c2).2).1, N, true)) = _
  rw [es]
  rfl
theorem n_40 {L : Nat} {op : Bool} {pS : Rst → Rst} (h0 : op = false → L = 0) (hS : op = true → ∃ M, L = M + 1 ∧ NtS b n ev M 6 pS) {P N : List Nat} {s : Nat} {c : List (Nat × Nat)} {pl : Int32} (h8 : nop P + L = 8) (hI : Iv n (s, c, P, N, false)) (hk : kdp b n s = 40) : G1 b n ev P N s c pl (if op = true then exq b n 41 (pS (nx1 b n s, 0, pl, c)) else (s, 3, nI s, c)) := by
  have st := bg_40 (ev := ev) (c := c) (N := N) (P := P) hk
  cases op with
  | false =>
    rw [if_neg (by decide)]
    have := h0 rfl
    rw [opn_8 (by omega)] at st
    exact Or.inr (Fdx.st st (by decide) (by decide) rfl rfl)
  | true =>
    obtain ⟨M, rfl, hS'⟩ := hS rfl
    rw [if_pos rfl]
    rw [opn_o (by omega) (by decide)] at st
    have R1 := Rch.on st
    have I1 := (R1.iv hI).1
    have ia : ¬ iaa (40 :: P) = true := by
      have e : iaa (40 :: P) = false := rfl
      rw [e]
      decide
    rcases hS' (40 :: P) N (nx1 b n s) c pl (by rw [nop_is rfl]; omega) (fun o R e => by cases e; decide) (fun z => absurd z ia) I1 with ⟨f0, fp, c3, q3, R2, g1, g2, g3, g4, g5⟩ | hf
    · generalize pS (nx1 b n s, 0, pl, c) = σ at *
      obtain ⟨s3, f3, p3, T3⟩ := σ
      have f0 : f3 = 0 := f0
      have fp : p3 = pl := fp
      have g4 : emt q3 c3 = T3 := g4
      have g3 : spk 6 (ovr q3) (kdp b n s3) := g3
      have g5 : Tn [false] c T3 := g5
      rw [← g4] at g5
      have R2 : Rch b n ev (nx1 b n s, c, 40 :: P, N, false) (s3, c3, q3 ++ 40 :: P, N, true) := R2
      have R3 := R1.tr R2
      have q1 : ∀ o, o ∈ q3 → 1 ≤ rnk o := fun o h => by have := g1 o h; omega
      rw [f0, fp, ← g4]
      unfold exq
      rw [kn_0]
      by_cases z : kdp b n s3 = 41
      · rw [if_pos z, adv_0]
        exact Or.inl ⟨rfl, rfl, R3.tr (Rch.on (bh_40 q1 z)), g5⟩
      · rw [if_neg z, rfs_0]
        have ew : opw (q3 ++ 40 :: P) = 40 := opw_app (40 :: P) q1
        have eq : ovr q3 = false := by
          have := ovr_hi (P := []) g1 (fun o R e => by cases e)
          rw [List.append_nil] at this
          exact this
        have a1 := g3.1 (by omega)
        have a2 := g3.2.1 (by omega)
        rw [eq] at a1 a2
        have a1 := a1.resolve_left (by decide)
        have a2 := a2.resolve_left (by decide)
        have eb : betF (q3 ++ 40 :: P) (kdp b n s3) = 99 := by
          rw [bt_n (Or.inr a1) (Or.inr a2), ew, if_pos rfl]
        have st2 : stq b n ev (s3, c3, q3 ++ 40 :: P, N, true) = (9, (s3, c3, q3 ++ 40 :: P, N, true)) := bh_9 eb (Or.inr ⟨by rw [ew]; omega, Or.inr z⟩)
        exact Or.inr (R3.fd (Fdx.nd st2 (nd_1 (Or.inl (by rw [ew]; decide))) rfl rfl))
    · have ex : exq b n 41 (pS (nx1 b n s, 0, pl, c)) = pS (nx1 b n s, 0, pl, c) := fx_exq hf.1 (by decide)
      rw [ex]
      exact Or.inr (R1.fd hf)
theorem n_45 (hn : n ≤ 300) {L : Nat} {op : Bool} {pO : Rst → Rst} (h0 : op = false → L = 0) (hO : op = true → ∃ M, L = M + 1 ∧ NtO b n ev M pO) {P N : List Nat} {s : Nat} {c : List (Nat × Nat)} {pl : Int32} (h8 : nop P + L = 8) (hI : Iv n (s, c, P, N, false)) (hk : kdp b n s = 45) : G1 b n ev P N s c pl (if op = true then add 5 0 (pO (nx1 b n s, 0, pl, c)) else (s, 3, nI s, c)) := by
  have st := bg_45 (ev := ev) (c := c) (N := N) (P := P) hk
  cases op with
  | false =>
    rw [if_neg (by decide)]
    have := h0 rfl
    rw [opn_8 (by omega)] at st
    exact Or.inr (Fdx.st st (by decide) (by decide) rfl rfl)
  | true =>
    obtain ⟨M, rfl, hO'⟩ := hO rfl
    rw [if_pos rfl]
    rw [opn_o (by omega) (by decide)] at st
    have R1 := Rch.on st
    have I1 := (R1.iv hI).1
    rcases hO' (5 :: P) N (nx1 b n s) c pl (by rw [nop_is rfl]; omega) (fun z => absurd z (iaa_f (by decide) (by decide))) I1 with ⟨f0, fp, R2, g5⟩ | hf
    · generalize pO (nx1 b n s, 0, pl, c) = σ at *
      obtain ⟨s3, f3, p3, T3⟩ := σ
      have f0 : f3 = 0 := f0
      have fp : p3 = pl := fp
      have g5 : Tn [false] c T3 := g5
      have R2 : Rch b n ev (nx1 b n s, c, 5 :: P, N, false) (s3, (stl 8 (5 :: P) T3).2, (stl 8 (5 :: P) T3).1, N, true) := R2
      have e5 : stl 8 (5 :: P) T3 = stl 8 P (T3 ++ [(5, 0)]) := if_pos (by decide)
      rw [e5] at R2
      have R3 := R1.tr R2
      have I3 := (R3.iv hI).1
      have i1 : (stl 8 P (T3 ++ [(5, 0)])).2.length + (stl 8 P (T3 ++ [(5, 0)])).1.length + 1 ≤ s3 := I3.2.1
      have i2 : s3 ≤ n := I3.2.2.1
      have i3 := stl_ge 8 P (T3 ++ [(5, 0)])
      rw [len_sn] at i3
      rw [f0, fp, add_ok (by omega)]
      exact Or.inl ⟨rfl, rfl, R3, g5.ad (a := [false]) (a' := [false]) (e := []) (fun _ => rfl) (trv_0 (by decide))⟩
    · exact Or.inr (R1.fd (hf.ad _ _))
/-- behind an either of a count -/
theorem bh_41 {s x : Nat} {c2 : List (Nat × Nat)} {q P N : List Nat} (hq : ∀ o, o ∈ q → 1 ≤ rnk o) (hi : icm q = true) (hs : spk 2 (ovr q) (kdp b n s)) : stq b n ev (s, c2, q ++ 41 :: P, x :: N, true) = if kdp b n s = 44 then (if x = 6 then (7, (s, c2, q ++ 41 :: P, x :: N, true)) else (0, (nx1 b n s, emt q c2, 41 :: P, (x + 1) :: N, false))) else if kdp b n s = 41 then (0, (nx1 b n s, (stl 8 P (emt q c2 ++ [(4, x)])).2, (stl 8 P (emt q c2 ++ [(4, x)])).1, N, true)) else (9, (s, c2, q ++ 41 :: P, x :: N, true)) := by
  have ew : opw (q ++ 41 :: P) = 41 := opw_app (41 :: P) hq
  have ei : icm (q ++ 41 :: P) = true := icm_app _ hi
  have es : stl 1 (q ++ 41 :: P) c2 = (41 :: P, emt q c2) := by
    rw [stl_pend q c2 hq]
    exact stl_stop _ (fun o R e => by cases e; decide)
  have hs2 := spk_v hs (v' := ovr (q ++ 41 :: P)) (fun y => ovr_app _ y)
  have eb : betF (q ++ 41 :: P) (kdp b n s) = 99 := by
    rw [bt_n (hs2.1 (by omega)) (hs2.2.1 (by omega)), ew, if_neg (by decide), if_neg (show ¬ ¬ icm (q ++ 41 :: P) = true from fun z => z ei), if_neg (hs2.2.2.1 (by omega)), if_neg (hs2.2.2.2 (by omega)), if_neg (fun z => absurd z.2 (by decide))]
  rw [stq_t]
  unfold behF
  rw [if_neg (show ¬ ¬ betF (q ++ 41 :: P) (kdp b n s) = 99 from fun z => z eb), if_neg (show ¬ (opw (q ++ 41 :: P) = 41 ∧ ¬ icm (q ++ 41 :: P) = true) from fun z => z.2 ei)]
  by_cases z4 : kdp b n s = 44
  · rw [if_pos (show opw (q ++ 41 :: P) = 41 ∧ kdp b n s = 44 from ⟨ew, z4⟩), if_pos z4]
    by_cases z6 : x = 6
    · rw [if_pos (show cntn (x :: N) = 6 from z6), if_pos z6]
    · rw [if_neg (show ¬ cntn (x :: N) = 6 from z6), if_neg z6]
      show (0, (nx1 b n s, (stl 1 (q ++ 41 :: P) c2).2, (stl 1 (q ++ 41 :: P) c2).1, (x + 1) :: N, false)) = _
      rw [es]
  · rw [if_neg (show ¬ (opw (q ++ 41 :: P) = 41 ∧ kdp b n s = 44) from fun z => z4 z.2), if_neg z4]
    by_cases z1 : kdp b n s = 41
    · rw [if_neg (show ¬ (opw (q ++ 41 :: P) = 0 ∨ ¬ kdp b n s = 41) by rw [ew]; omega), if_pos (show opw (q ++ 41 :: P) = 41 from ew), if_pos z1]
      show (0, (nx1 b n s, (stl 8 (stl 1 (q ++ 41 :: P) c2).1.tail ((stl 1 (q ++ 41 :: P) c2).2 ++ [(4, x)])).2, (stl 8 (stl 1 (q ++ 41 :: P) c2).1.tail ((stl 1 (q ++ 41 :: P) c2).2 ++ [(4, x)])).1, N, true)) = _
      rw [es]
      rfl
    · rw [if_pos (show opw (q ++ 41 :: P) = 0 ∨ ¬ kdp b n s = 41 from Or.inr z1), if_neg z1]
/-- the rest of a count, behind its first either -/
theorem n_cnt (hn : n ≤ 300) {M : Nat} {pE : Rst → Rst} (hE : NtA b n ev M 2 pE) {P N : List Nat} {s0 : Nat} {c0 : List (Nat × Nat)} {pl : Int32} (h8 : nop (41 :: P) + M = 8) (hI : Iv n (s0, c0, P, N, false)) :
    ∀ (j x s1 : Nat) (c1 : List (Nat × Nat)), x + j = 7 → 1 ≤ j → Rch b n ev (s0, c0, P, N, false) (s1, c1, 41 :: P, x :: N, false) → (∃ y, x = y + 1 ∧ Tn (List.replicate y true) c0 c1) →
      G1 b n ev P N s0 c0 pl (add 4 (cntL b n pE j x (pE (s1, 0, pl, c1))).1 (exq b n 41 (cntL b n pE j x (pE (s1, 0, pl, c1))).2)) := by
  intro j
  induction j with
  | zero =>
    intro x s1 c1 _ h _ _
    omega
  | succ j ih =>
    intro x s1 c1 hx _ R1 hy
    obtain ⟨y, hy, t1⟩ := hy
    have I1 := (R1.iv hI).1
    rcases hE (41 :: P) (x :: N) s1 c1 pl h8 rfl (fun _ o R e => by cases e; decide) I1 with ⟨f0, fp, c3, q3, R2, g1, g2, g3, g4, g5⟩ | hf
    · generalize pE (s1, 0, pl, c1) = σ at *
      obtain ⟨s3, f3, p3, T3⟩ := σ
      have f0 : f3 = 0 := f0
      have fp : p3 = pl := fp
      have g4 : emt q3 c3 = T3 := g4
      have g3 : spk 2 (ovr q3) (kdp b n s3) := g3
      have g5 : Tn [true] c1 T3 := g5
      rw [← g4] at g5
      have t3 : Tn (List.replicate x true) c0 (emt q3 c3) := by
        rw [hy]
        exact t1.tr g5
      have R2 : Rch b n ev (s1, c1, 41 :: P, x :: N, false) (s3, c3, q3 ++ 41 :: P, x :: N, true) := R2
      have R3 := R1.tr R2
      have I3 := (R3.iv hI).1
      have i1 : c3.length + (q3 ++ 41 :: P).length + 1 ≤ s3 := I3.2.1
      have i2 : s3 ≤ n := I3.2.2.1
      have i3 := emt_len q3 c3
      rw [List.length_append, List.length_cons] at i1
      rw [f0, fp, ← g4]
      have st := bh_41 (ev := ev) (b := b) (n := n) (s := s3) (x := x) (c2 := c3) (P := P) (N := N) (fun o h => Nat.le_of_succ_le (g1 o h)) (g2 (by omega)) g3
      have ec : cntL b n pE (j + 1) x (s3, 0, pl, emt q3 c3) = if kdp b n s3 = 44 then (if x < 6 then cntL b n pE j (x + 1) (pE (nx1 b n s3, 0, pl, emt q3 c3)) else cntL b n pE j x (s3, 7, nI s3, emt q3 c3)) else (x, (s3, 0, pl, emt q3 c3)) := by
        show (if kn b n (s3, 0, pl, emt q3 c3) = 44 then (if x < 6 then cntL b n pE j (x + 1) (pE (adv b n (s3, 0, pl, emt q3 c3))) else cntL b n pE j x (rfs 7 (s3, 0, pl, emt q3 c3))) else (x, (s3, 0, pl, emt q3 c3))) = _
        rw [kn_0, adv_0, rfs_0]
      by_cases z4 : kdp b n s3 = 44
      · rw [if_pos z4] at st ec
        by_cases z6 : x = 6
        · rw [if_pos z6] at st
          rw [if_neg (by omega), fx_cntL (show ((s3, 7, nI s3, emt q3 c3) : Rst).2.1 ≠ 0 from (show (7 : Nat) ≠ 0 by decide))] at ec
          rw [ec]
          show G1 b n ev P N s0 c0 pl (add 4 x (exq b n 41 (s3, 7, nI s3, emt q3 c3)))
          rw [fx_exq (show ((s3, 7, nI s3, emt q3 c3) : Rst).2.1 ≠ 0 from (show (7 : Nat) ≠ 0 by decide)) (by decide)]
          have hf : Fdx b n ev (s3, c3, q3 ++ 41 :: P, x :: N, true) (s3, 7, nI s3, emt q3 c3) := Fdx.st st (by decide) (by decide) rfl rfl
          exact Or.inr (R3.fd (hf.ad _ _))
        · rw [if_neg z6] at st
          rw [if_pos (by omega)] at ec
          rw [ec]
          exact ih (x + 1) (nx1 b n s3) (emt q3 c3) (by omega) (by omega) (R3.tr (Rch.on st)) ⟨x, rfl, t3⟩
      · rw [if_neg z4] at st ec
        rw [ec]
        show G1 b n ev P N s0 c0 pl (add 4 x (exq b n 41 (s3, 0, pl, emt q3 c3)))
        unfold exq
        rw [kn_0]
        by_cases z1 : kdp b n s3 = 41
        · rw [if_pos z1] at st
          rw [if_pos z1, adv_0, add_ok (by omega)]
          refine Or.inl ⟨rfl, rfl, R3.tr (Rch.on st), Tn.ad (a := List.replicate x true) (a' := [false]) (e := []) (by rw [List.append_nil]; exact t3) (fun st => ?_) (by unfold tvb trv; omega)⟩
          have tk := tk_rep x st
          unfold ty1
          rw [if_neg (by decide), if_neg (by decide), if_pos rfl, if_pos ⟨tk.1, by omega, by omega⟩, tk.2]
          rfl
        · rw [if_neg z1] at st
          rw [if_neg z1, rfs_0]
          have ew : opw (q3 ++ 41 :: P) = 41 := opw_app (41 :: P) (fun o h => Nat.le_of_succ_le (g1 o h))
          have hf : Fdx b n ev (s3, c3, q3 ++ 41 :: P, x :: N, true) (s3, 1, nI s3, emt q3 c3) := Fdx.nd st (nd_1 (Or.inl (by rw [ew]; decide))) rfl rfl
          exact Or.inr (R3.fd (hf.ad _ _))
    · rw [fx_cntL hf.1]
      show G1 b n ev P N s0 c0 pl (add 4 x (exq b n 41 (pE (s1, 0, pl, c1))))
      rw [fx_exq hf.1 (by decide)]
      exact Or.inr (R1.fd (hf.ad _ _))
theorem n_218 (hn : n ≤ 300) {L : Nat} {op : Bool} {pE : Rst → Rst} (h0 : op = false → L = 0) (hE : op = true → ∃ M, L = M + 1 ∧ NtA b n ev M 2 pE) (hx : ∀ σ : Rst, σ.2.1 ≠ 0 → op = true → pE σ = σ) {P N : List Nat} {s : Nat} {c : List (Nat × Nat)} {pl : Int32} (h8 : nop P + L = 8) (hI : Iv n (s, c, P, N, false)) (hk : kdp b n s = 218) : G1 b n ev P N s c pl (if op = true then cntF b n pE (nx1 b n s, 0, pl, c) else (s, 3, nI s, c)) := by
  have st := bg_218 (ev := ev) (c := c) (N := N) (P := P) hk
  cases op with
  | false =>
    rw [if_neg (by decide)]
    have := h0 rfl
    rw [opn_8 (by omega)] at st
    exact Or.inr (Fdx.st st (by decide) (by decide) rfl rfl)
  | true =>
    obtain ⟨M, rfl, hE'⟩ := hE rfl
    rw [if_pos rfl]
    unfold opnd at st
    rw [if_neg (show ¬ nop P = 8 by omega), if_pos rfl] at st
    unfold cntF
    have ex : exq b n 40 (nx1 b n s, 0, pl, c) = if kdp b n (nx1 b n s) = 40 then (nx1 b n (nx1 b n s), 0, pl, c) else (nx1 b n s, 1, nI (nx1 b n s), c) := by
      unfold exq
      rw [kn_0, adv_0, rfs_0]
    rw [ex]
    by_cases z : kdp b n (nx1 b n s) = 40
    · rw [if_pos (show kdp b n (nx1 b n s) = 40 from z)] at st
      rw [if_pos z]
      exact n_cnt hn hE' (by rw [nop_is rfl]; omega) hI 6 1 _ _ rfl (by omega) (Rch.on st) ⟨0, rfl, Tn.rf c⟩
    · rw [if_neg (show ¬ kdp b n (nx1 b n s) = 40 from z)] at st
      rw [if_neg z]
      have hf1 : ((nx1 b n s, 1, nI (nx1 b n s), c) : Rst).2.1 ≠ 0 := (show (1 : Nat) ≠ 0 by decide)
      rw [hx _ hf1 rfl, fx_cntL hf1]
      show G1 b n ev P N s c pl (add 4 1 (exq b n 41 (nx1 b n s, 1, nI (nx1 b n s), c)))
      rw [fx_exq hf1 (by decide)]
      have hf : Fdx b n ev (s, c, P, N, false) (nx1 b n s, 1, nI (nx1 b n s), c) := Fdx.st st (by decide) (by decide) rfl rfl
      exact Or.inr (hf.ad _ _)
theorem n_one (hn : n ≤ 300) {L : Nat} {op : Bool} {pS pO pE : Rst → Rst} (h0 : op = false → L = 0) (hS : op = true → ∃ M, L = M + 1 ∧ NtS b n ev M 6 pS) (hO : op = true → ∃ M, L = M + 1 ∧ NtO b n ev M pO) (hE : op = true → ∃ M, L = M + 1 ∧ NtA b n ev M 2 pE) (hx : ∀ σ : Rst, σ.2.1 ≠ 0 → op = true → pE σ = σ) : NtO b n ev L (oneF b n op pS pO pE) := by
  intro P N s c pl h8 he hI
  have hcl := hI.cl hn
  unfold oneF
  rw [kn_0, adv_0, rfs_0, rfs_0]
  by_cases q2 : kdp b n s = 2
  · rw [if_pos q2]
    have st := bg_2 (ev := ev) (c := c) (N := N) (P := P) q2
    unfold rnv rns
    rw [kn_0, if_pos q2, if_pos q2]
    by_cases z : 9999 < vlp b n s
    · rw [if_pos z] at st
      rw [if_neg (show ¬ (0 ≤ vlp b n s ∧ vlp b n s ≤ 9999) by omega), if_neg (show ¬ (0 ≤ vlp b n s ∧ vlp b n s ≤ 9999) by omega), rfs_0]
      have hf : Fdx b n ev (s, c, P, N, false) (s, 2, nI s, c) := Fdx.st st (by decide) (by decide) rfl rfl
      exact Or.inr (hf.ad _ _)
    · rw [if_neg z] at st
      rw [if_pos (show 0 ≤ vlp b n s ∧ vlp b n s ≤ 9999 by omega), if_pos (show 0 ≤ vlp b n s ∧ vlp b n s ≤ 9999 by omega), adv_0]
      exact G1.em hn hI st (fun _ => rfl) (show tvb 0 (vlp b n s) by unfold tvb trv; omega)
  rw [if_neg q2]
  by_cases q40 : kdp b n s = 40
  · rw [if_pos q40]
    exact n_40 h0 hS h8 hI q40
  rw [if_neg q40]
  by_cases q45 : kdp b n s = 45
  · rw [if_pos q45]
    exact n_45 hn h0 hO h8 hI q45
  rw [if_neg q45]
  by_cases q218 : kdp b n s = 218
  · rw [if_pos q218]
    exact n_218 hn h0 hE hx h8 hI q218
  rw [if_neg q218]
  by_cases q219 : kdp b n s = 219
  · rw [if_pos q219]
    exact G1.em hn hI (bg_219 q219) (fun _ => rfl) (by unfold tvb trv; omega)
  rw [if_neg q219]
  by_cases q220 : kdp b n s = 220
  · rw [if_pos q220]
    exact G1.em hn hI (bg_220 q220) (fun _ => rfl) (by unfold tvb trv; omega)
  rw [if_neg q220]
  by_cases q221 : kdp b n s = 221
  · rw [if_pos q221]
    exact G1.em hn hI (bg_221 q221) (fun _ => rfl) (by unfold tvb trv; omega)
  rw [if_neg q221]
  exact Or.inr (Fdx.st (bg_n ⟨q2, q219, q220, q221, q40, q45, q218⟩ he) (by decide) (by decide) rfl rfl)
/-- all levels -/
theorem n_lvF (hn : n ≤ 300) {L : Nat} {op : Bool} {p : Nat → Rst → Rst} (h0 : op = false → L = 0) (hp : op = true → ∃ M, L = M + 1 ∧ NtA b n ev M 4 (p 0) ∧ NtS b n ev M 6 (p 1) ∧ NtO b n ev M (p 2) ∧ NtA b n ev M 2 (p 3)) (hx : ∀ σ : Rst, σ.2.1 ≠ 0 → op = true → p 3 σ = σ) : NtA b n ev L 4 (lvF b n ev op p 0) ∧ NtS b n ev L 6 (lvF b n ev op p 1) ∧ NtO b n ev L (lvF b n ev op p 2) ∧ NtA b n ev L 2 (lvF b n ev op p 3) := by
  have h1 : NtO b n ev L (oneF b n op (p 1) (p 2) (p 3)) := n_one hn h0 (fun z => (hp z).imp (fun M h => ⟨h.1, h.2.2.1⟩)) (fun z => (hp z).imp (fun M h => ⟨h.1, h.2.2.2.1⟩)) (fun z => (hp z).imp (fun M h => ⟨h.1, h.2.2.2.2⟩)) hx
  have h2 := n_sum hn (n_prd hn h1)
  have hfx : ∀ σ : Rst, σ.2.1 ≠ 0 → sumF b n (prdF b n (oneF b n op (p 1) (p 2) (p 3))) σ = σ := fun σ h => fx_sum h (fx_prd h (fx_one h op (p 1) (p 2) (p 3)))
  have h3 : NtA b n ev L 4 (askF b n ev op (p 0) (cmpF b n (sumF b n (prdF b n (oneF b n op (p 1) (p 2) (p 3)))))) := n_ask hn h0 (fun z => (hp z).imp (fun M h => ⟨h.1, h.2.1⟩)) (fun P N s c pl h8 ha hk hI => n_cmp hn h2 hfx h8 ha hk hI)
  exact ⟨h3, h2, h1, n_eit hn (n_bot hn h3)⟩
theorem n_lvl (hn : n ≤ 300) : ∀ L, NtA b n ev L 4 (lvl b n ev L 0) ∧ NtS b n ev L 6 (lvl b n ev L 1) ∧ NtO b n ev L (lvl b n ev L 2) ∧ NtA b n ev L 2 (lvl b n ev L 3)
  | 0 => n_lvF hn (op := false) (fun _ => rfl) (fun z => by cases z) (fun _ _ z => by cases z)
  | L + 1 => n_lvF hn (op := true) (fun z => by cases z) (fun _ => ⟨L, rfl, n_lvl hn L⟩) (fun σ h _ => fx_lvl h L 3)
theorem emt_rep : ∀ (k : Nat) (T : List (Nat × Nat)) (s : Nat) (pl : Int32), T.length + k ≤ 300 → adN k (s, 0, pl, T) = (s, 0, pl, emt (List.replicate k 23) T)
  | 0, _, _, _, _ => rfl
  | k + 1, T, s, pl, h => by
    show adN k (add 23 0 (s, 0, pl, T)) = (s, 0, pl, emt (23 :: List.replicate k 23) T)
    rw [add_ok (by omega), emt_rep k (T ++ [(23, 0)]) s pl (by rw [len_sn]; omega)]
    rfl
/-- the whole law: what the reference's steps come to is the descent's -/
theorem n_whL (hn : n ≤ 300) {s0 : Nat} {c0 : List (Nat × Nat)} {pl : Int32} (hI : Iv n (s0, c0, [], [], false)) :
    ∀ (j x s1 : Nat) (c1 : List (Nat × Nat)), n < s1 + j + 1 → Rch b n ev (s0, c0, [], [], false) (s1, c1, List.replicate x 23, [], false) → Tn (List.replicate x true) c0 c1 →
      (∃ σ, adN (whL b n (lvl b n ev 8 3) j x (lvl b n ev 8 3 (s1, 0, pl, c1))).1 (whL b n (lvl b n ev 8 3) j x (lvl b n ev 8 3 (s1, 0, pl, c1))).2 = σ ∧ ((σ.2.1 = 0 ∧ σ.2.2.1 = pl ∧ (whR b n ev 301 (s0, c0, [], [], false)) = (0, (σ.1, σ.2.2.2, [], [], true)) ∧ Tn [true] c0 σ.2.2.2 ∧ σ.2.2.2.length + 1 ≤ σ.1 ∧ σ.1 ≤ n) ∨ Fdx b n ev (s0, c0, [], [], false) σ)) := by
  intro j
  induction j with
  | zero =>
    intro x s1 c1 hj R1 t1
    have I1 := (R1.iv hI).1
    have i1 : s1 ≤ n := I1.2.2.1
    have hs : n < s1 + 1 := by omega
    refine ⟨_, rfl, ?_⟩
    have en : s1 = n := by omega
    have hb := (n_lvl (b := b) (ev := ev) hn 8).2.2.2 (List.replicate x 23) [] s1 c1 pl
    have nr : nop (List.replicate x 23) = 0 := nop_rep x
    have ir := iaa_rep x
    rcases hb (by omega) ir (fun _ => top_rep x) I1 with ⟨f0, fp, c3, q3, R2, g1, g2, g3, g4, g5⟩ | hf
    · have := R2.lt I1
      have I3 := (R2.iv I1).1
      have i3 : (lvl b n ev 8 3 (s1, 0, pl, c1)).1 ≤ n := I3.2.2.1
      omega
    · show _ ∨ Fdx b n ev (s0, c0, [], [], false) (adN x (lvl b n ev 8 3 (s1, 0, pl, c1)))
      right
      have a := adN_f x (lvl b n ev 8 3 (s1, 0, pl, c1))
      have hf2 := R1.fd hf
      unfold Fdx
      rw [a.1, a.2.1]
      exact hf2
  | succ j ih =>
    intro x s1 c1 hj R1 t1
    have I1 := (R1.iv hI).1
    have nr : nop (List.replicate x 23) = 0 := nop_rep x
    have ir := iaa_rep x
    rcases (n_lvl (b := b) (ev := ev) hn 8).2.2.2 (List.replicate x 23) [] s1 c1 pl (by omega) ir (fun _ => top_rep x) I1 with ⟨f0, fp, c3, q3, R2, g1, g2, g3, g4, g5⟩ | hf
    · generalize lvl b n ev 8 3 (s1, 0, pl, c1) = σ at *
      obtain ⟨s3, f3, p3, T3⟩ := σ
      have f0 : f3 = 0 := f0
      have fp : p3 = pl := fp
      have g4 : emt q3 c3 = T3 := g4
      have g3 : spk 2 (ovr q3) (kdp b n s3) := g3
      have g5 : Tn [true] c1 T3 := g5
      rw [← g4] at g5
      have t3 : Tn (List.replicate (x + 1) true) c0 (emt q3 c3) := t1.tr g5
      have R2 : Rch b n ev (s1, c1, List.replicate x 23, [], false) (s3, c3, q3 ++ List.replicate x 23, [], true) := R2
      have lt := R2.lt I1
      have R3 := R1.tr R2
      have I3 := (R3.iv hI).1
      have i1 : c3.length + (q3 ++ List.replicate x 23).length + 1 ≤ s3 := I3.2.1
      have i2 : s3 ≤ n := I3.2.2.1
      have i3 := emt_len q3 c3
      rw [List.length_append, List.length_replicate] at i1
      rw [f0, fp, ← g4]
      have ew : opw (q3 ++ List.replicate x 23) = 0 := by
        rw [opw_app _ (fun o h => Nat.le_of_succ_le (g1 o h))]
        exact opw_rep x
      have ei : icm (q3 ++ List.replicate x 23) = true := icm_app _ (g2 (by omega))
      have hs2 := spk_v g3 (v' := ovr (q3 ++ List.replicate x 23)) (fun y => ovr_app _ y)
      have eb := bt_n (P := q3 ++ List.replicate x 23) (k := kdp b n s3) (hs2.1 (by omega)) (hs2.2.1 (by omega))
      rw [ew, if_neg (show ¬ 0 = 40 by decide), if_neg (show ¬ ¬ icm (q3 ++ List.replicate x 23) = true from fun z => z ei), if_neg (hs2.2.2.1 (by omega)), if_neg (hs2.2.2.2 (by omega))] at eb
      have ec : whL b n (lvl b n ev 8 3) (j + 1) x (s3, 0, pl, emt q3 c3) = if kdp b n s3 = 212 then whL b n (lvl b n ev 8 3) j (x + 1) (lvl b n ev 8 3 (nx1 b n s3, 0, pl, emt q3 c3)) else (x, (s3, 0, pl, emt q3 c3)) := by
        show (if kn b n (s3, 0, pl, emt q3 c3) = 212 then whL b n (lvl b n ev 8 3) j (x + 1) (lvl b n ev 8 3 (adv b n (s3, 0, pl, emt q3 c3))) else (x, (s3, 0, pl, emt q3 c3))) = _
        rw [kn_0, adv_0]
      by_cases z : kdp b n s3 = 212
      · rw [if_pos z] at ec
        rw [if_pos ⟨z, rfl⟩] at eb
        rw [ec]
        have st := bh_op (ev := ev) (N := []) (c2 := c3) (r := 2) eb (by decide) rfl g1 (top_rep x)
        have nx := nx_ge (b := b) (n := n) (s := s3)
        exact ih (x + 1) (nx1 b n s3) (emt q3 c3) (by omega) (R3.tr (Rch.on st)) t3
      · rw [if_neg z] at ec
        rw [if_neg (fun y => z y.1)] at eb
        rw [ec]
        refine ⟨_, rfl, Or.inl ?_⟩
        show (adN x (s3, 0, pl, emt q3 c3)).2.1 = 0 ∧ (adN x (s3, 0, pl, emt q3 c3)).2.2.1 = pl ∧ whR b n ev 301 (s0, c0, [], [], false) = (0, ((adN x (s3, 0, pl, emt q3 c3)).1, (adN x (s3, 0, pl, emt q3 c3)).2.2.2, [], [], true)) ∧ Tn [true] c0 (adN x (s3, 0, pl, emt q3 c3)).2.2.2 ∧ (adN x (s3, 0, pl, emt q3 c3)).2.2.2.length + 1 ≤ (adN x (s3, 0, pl, emt q3 c3)).1 ∧ (adN x (s3, 0, pl, emt q3 c3)).1 ≤ n
        rw [emt_rep x (emt q3 c3) s3 pl (by omega)]
        have i4 := emt_len (List.replicate x 23) (emt q3 c3)
        rw [List.length_replicate] at i4
        refine ⟨rfl, rfl, ?_, tn_rep x _ t3, (show (emt (List.replicate x 23) (emt q3 c3)).length + 1 ≤ s3 by omega), i2⟩
        have i0 : c0.length + ([] : List Nat).length + 1 ≤ s0 := hI.2.1
        rw [R3.wh hI 301 (show n < s0 + 301 by omega)]
        have st : stq b n ev (s3, c3, q3 ++ List.replicate x 23, [], true) = (9, (s3, c3, q3 ++ List.replicate x 23, [], true)) := bh_9 eb (Or.inr ⟨by rw [ew]; omega, Or.inl ew⟩)
        show (if (stq b n ev (s3, c3, q3 ++ List.replicate x 23, [], true)).1 = 0 then whR b n ev 300 (stq b n ev (s3, c3, q3 ++ List.replicate x 23, [], true)).2 else if (stq b n ev (s3, c3, q3 ++ List.replicate x 23, [], true)).1 = 9 then ndF (stq b n ev (s3, c3, q3 ++ List.replicate x 23, [], true)).2 else stq b n ev (s3, c3, q3 ++ List.replicate x 23, [], true)) = _
        rw [st, if_neg (show ¬ (9 : Nat) = 0 by decide), if_pos (show (9 : Nat) = 9 from rfl)]
        show ndF (s3, c3, q3 ++ List.replicate x 23, [], true) = _
        unfold ndF
        rw [if_neg (show ¬ (¬ opw (q3 ++ List.replicate x 23) = 0 ∨ ¬ icm (q3 ++ List.replicate x 23) = true) from fun y => y.elim (fun w => w ew) (fun w => w ei))]
        show (0, (s3, (stl 1 (q3 ++ List.replicate x 23) c3).2, (stl 1 (q3 ++ List.replicate x 23) c3).1, [], true)) = (0, (s3, emt (List.replicate x 23) (emt q3 c3), [], [], true))
        have es : stl 1 (q3 ++ List.replicate x 23) c3 = ([], emt (List.replicate x 23) (emt q3 c3)) := by
          have h2 := stl_pend (r := 1) (P := []) (q3 ++ List.replicate x 23) c3 (fun o h => by
            rcases List.mem_append.mp h with y | y
            · exact Nat.le_of_succ_le (g1 o y)
            · rw [(List.mem_replicate.mp y).2]
              decide)
          rw [List.append_nil, emt_app] at h2
          exact h2
        rw [es]
    · rw [fx_whL hf.1]
      refine ⟨_, rfl, Or.inr ?_⟩
      show Fdx b n ev (s0, c0, [], [], false) (adN x (lvl b n ev 8 3 (s1, 0, pl, c1)))
      have a := adN_f x (lvl b n ev 8 3 (s1, 0, pl, c1))
      have hf2 := R1.fd hf
      unfold Fdx
      rw [a.1, a.2.1]
      exact hf2
/-- shift-reduce and descent come to the same -/
theorem n_whole (hn : n ≤ 300) {s : Nat} {c : List (Nat × Nat)} {pl : Int32} (hs : c.length + 1 ≤ s) (hsn : s ≤ n) :
    (((whF b n (lvl b n ev 8 3) (s, 0, pl, c)).2.1 = 0 ∧ (whF b n (lvl b n ev 8 3) (s, 0, pl, c)).2.2.1 = pl ∧ whR b n ev 301 (s, c, [], [], false) = (0, ((whF b n (lvl b n ev 8 3) (s, 0, pl, c)).1, (whF b n (lvl b n ev 8 3) (s, 0, pl, c)).2.2.2, [], [], true)) ∧ Tn [true] c (whF b n (lvl b n ev 8 3) (s, 0, pl, c)).2.2.2 ∧ (whF b n (lvl b n ev 8 3) (s, 0, pl, c)).2.2.2.length + 1 ≤ (whF b n (lvl b n ev 8 3) (s, 0, pl, c)).1 ∧ (whF b n (lvl b n ev 8 3) (s, 0, pl, c)).1 ≤ n) ∨
      ((whF b n (lvl b n ev 8 3) (s, 0, pl, c)).2.1 ≠ 0 ∧ (whF b n (lvl b n ev 8 3) (s, 0, pl, c)).2.1 ≤ 9 ∧ (whR b n ev 301 (s, c, [], [], false)).1 = (whF b n (lvl b n ev 8 3) (s, 0, pl, c)).2.1 ∧ (whF b n (lvl b n ev 8 3) (s, 0, pl, c)).2.2.1 = nI (whR b n ev 301 (s, c, [], [], false)).2.1)) := by
  have hI : Iv n (s, c, [], [], false) := ⟨⟨(fun o h => by cases h), trivial, Nat.zero_le 8, rfl, (fun x h => by cases h)⟩, hs, hsn, Nat.zero_le s⟩
  obtain ⟨σ, e, h⟩ := n_whL (b := b) (ev := ev) (pl := pl) hn hI 300 0 s c (by omega) (Rch.rf _) (Tn.rf c)
  have e : whF b n (lvl b n ev 8 3) (s, 0, pl, c) = σ := e
  rw [e]
  rcases h with h | h
  · exact Or.inl h
  · obtain ⟨f, p, hp, hf⟩ := h
    have w := hf.wh hI (k := 301) (show n < s + 301 by omega)
    have f9 : σ.2.1 ≤ 9 := by
      obtain ⟨x, r, hx⟩ := hf
      have i := ((r.iv hI).1.sq (b := b) (ev := ev)).1
      rcases hx with ⟨a, _, _, _⟩ | ⟨_, a, _, _⟩
      · rw [← a]
        exact i
      · omega
    exact Or.inr ⟨f, f9, w.1, by rw [hp, w.2]⟩
end
