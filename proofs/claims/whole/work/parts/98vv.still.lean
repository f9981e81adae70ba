/-! texts: behind a fault the descent stands still (by wip/whole/mk_98vv.py) -/
section
variable {b : Nat → Nat} {n ev : Nat} {σ : Rst}
theorem fx_k (h : σ.2.1 ≠ 0) : kn b n σ = 0 := if_neg h
theorem fx_rfs (h : σ.2.1 ≠ 0) (k : Nat) : rfs k σ = σ := if_neg h
theorem fx_exq (h : σ.2.1 ≠ 0) {c : Nat} (hc : ¬ 0 = c) : exq b n c σ = σ := by
  unfold exq
  rw [fx_k h, if_neg hc, fx_rfs h]
theorem fx_one (h : σ.2.1 ≠ 0) (op : Bool) (pS pO pE : Rst → Rst) : oneF b n op pS pO pE σ = σ := by
  unfold oneF
  rw [fx_k h, if_neg (show ¬ 0 = 2 by decide), if_neg (show ¬ 0 = 40 by decide), if_neg (show ¬ 0 = 45 by decide), if_neg (show ¬ 0 = 218 by decide), if_neg (show ¬ 0 = 219 by decide), if_neg (show ¬ 0 = 220 by decide), if_neg (show ¬ 0 = 221 by decide)]
  exact fx_rfs h 1
theorem fx_lp (h : σ.2.1 ≠ 0) {c : Nat → Bool} (hc : c 0 = false) (f : Nat → Rst → Rst) : ∀ j, lpF b n c f j σ = σ
  | 0 => rfl
  | j + 1 => by
    show (if c (kn b n σ) = true then _ else σ) = σ
    rw [fx_k h, hc, if_neg (show ¬ false = true by decide)]
theorem fx_prd (h : σ.2.1 ≠ 0) {one : Rst → Rst} (ho : one σ = σ) : prdF b n one σ = σ := by
  unfold prdF
  rw [ho]
  exact fx_lp h rfl _ _
theorem fx_sum (h : σ.2.1 ≠ 0) {one : Rst → Rst} (ho : one σ = σ) : sumF b n one σ = σ := by
  unfold sumF
  rw [ho]
  exact fx_lp h rfl _ _
theorem fx_cmp (h : σ.2.1 ≠ 0) {sum : Rst → Rst} (ho : sum σ = σ) : cmpF b n sum σ = σ := by
  unfold cmpF
  rw [ho, fx_k h, if_neg (show ¬ isC 0 = true by decide)]
  exact fx_rfs h 1
theorem fx_ask (h : σ.2.1 ≠ 0) {op : Bool} {pA cmp : Rst → Rst} (ho : cmp σ = σ) : askF b n ev op pA cmp σ = σ := by
  unfold askF
  rw [fx_k h, if_neg (show ¬ 0 = 215 by decide), if_neg (show ¬ 0 = 216 by decide), if_neg (show ¬ 0 = 217 by decide)]
  exact ho
theorem fx_bot (h : σ.2.1 ≠ 0) {ask : Rst → Rst} (ho : ask σ = σ) : botF b n ask σ = σ := by
  unfold botF
  rw [ho]
  exact fx_lp h rfl _ _
theorem fx_eit (h : σ.2.1 ≠ 0) {bot : Rst → Rst} (ho : bot σ = σ) : eitF b n bot σ = σ := by
  unfold eitF
  rw [ho]
  exact fx_lp h rfl _ _
theorem fx_lv (h : σ.2.1 ≠ 0) (op : Bool) (p : Nat → Rst → Rst) (i : Nat) : lvF b n ev op p i σ = σ := by
  have h1 := fx_one (b := b) (n := n) h op (p 1) (p 2) (p 3)
  have h2 := fx_sum (b := b) (n := n) h (fx_prd (b := b) (n := n) h h1)
  have h3 := fx_ask (b := b) (n := n) (ev := ev) (op := op) (pA := p 0) h (fx_cmp (b := b) (n := n) h h2)
  match i with
  | 0 => exact h3
  | 1 => exact h2
  | 2 => exact h1
  | _ + 3 => exact fx_eit h (fx_bot h h3)
theorem fx_lvl (h : σ.2.1 ≠ 0) (L i : Nat) : lvl b n ev L i σ = σ := by
  cases L with
  | zero => exact fx_lv h _ _ _
  | succ L => exact fx_lv h _ _ _
theorem fx_whL (h : σ.2.1 ≠ 0) (eit : Rst → Rst) (c : Nat) : ∀ j, whL b n eit j c σ = (c, σ)
  | 0 => rfl
  | j + 1 => by
    show (if kn b n σ = 212 then _ else (c, σ)) = (c, σ)
    rw [fx_k h, if_neg (show ¬ 0 = 212 by decide)]
theorem fx_cntL (h : σ.2.1 ≠ 0) (pE : Rst → Rst) (c : Nat) : ∀ j, cntL b n pE j c σ = (c, σ)
  | 0 => rfl
  | j + 1 => by
    show (if kn b n σ = 44 then _ else (c, σ)) = (c, σ)
    rw [fx_k h, if_neg (show ¬ 0 = 44 by decide)]
theorem ad_f (o v : Nat) (σ : Rst) : (add o v σ).2.1 = σ.2.1 ∧ (add o v σ).2.2.1 = σ.2.2.1 ∧ (add o v σ).1 = σ.1 := by
  unfold add
  split
  · exact ⟨rfl, rfl, rfl⟩
  · exact ⟨rfl, rfl, rfl⟩
theorem av_f (σ : Rst) : (adv b n σ).2 = σ.2 ∧ (adv b n σ).1 = nx1 b n σ.1 := by
  unfold adv nx1
  split
  · exact ⟨rfl, rfl⟩
  · exact ⟨rfl, rfl⟩
theorem adN_f : ∀ (k : Nat) (σ : Rst), (adN k σ).2.1 = σ.2.1 ∧ (adN k σ).2.2.1 = σ.2.2.1 ∧ (adN k σ).1 = σ.1
  | 0, σ => ⟨rfl, rfl, rfl⟩
  | k + 1, σ => by
    obtain ⟨h1, h2, h3⟩ := adN_f k (add 23 0 σ)
    obtain ⟨g1, g2, g3⟩ := ad_f 23 0 σ
    exact ⟨h1.trans g1, h2.trans g2, h3.trans g3⟩
end
