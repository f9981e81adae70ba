/-! A small machine of our own: cells by number, ints, longs and references apart; one step an entry. -/
abbrev sm_M : Type := List (Nat × Nat) × (Nat → Nat → Option Nat) × (Nat → Nat → Int32) × (Nat → Nat → Int64)
abbrev sm_R : Type := Option (Option Value × sm_M)
abbrev sm_E : Type := Instr ⊕ (Nat × Nat × Nat × Nat × Nat)
abbrev sm_Ls : Type := List (Option Value)
abbrev sm_tg (u : sm_M) (a : Nat) : Nat := (u.1.getD a (0, 0)).1
abbrev sm_ln (u : sm_M) (a : Nat) : Nat := (u.1.getD a (0, 0)).2
abbrev sm_I (u : sm_M) (a k : Nat) : Int32 := u.2.2.1 a k
abbrev sm_L (u : sm_M) (a k : Nat) : Int64 := u.2.2.2 a k
abbrev sm_Rf (u : sm_M) (a k : Nat) : Option Nat := u.2.1 a k
def sm_up {α : Type} (f : Nat → Nat → α) (a k : Nat) (v : α) : Nat → Nat → α := fun b j => if b = a then (if j = k then v else f b j) else f b j
def sm_zr {α : Type} (f : Nat → Nat → α) (a : Nat) (v : α) : Nat → Nat → α := fun b j => if b = a then v else f b j
def sm_cp (f : Nat → Nat → Int32) (a b sp dp n : Nat) : Nat → Nat → Int32 := fun c j => if c = b then (if dp ≤ j ∧ j < dp + n then f a (sp + (j - dp)) else f b j) else f c j
def sm_wI (u : sm_M) (a k : Nat) (v : Int32) : sm_M := (u.1, u.2.1, sm_up u.2.2.1 a k v, u.2.2.2)
def sm_wL (u : sm_M) (a k : Nat) (v : Int64) : sm_M := (u.1, u.2.1, u.2.2.1, sm_up u.2.2.2 a k v)
def sm_wR (u : sm_M) (a k : Nat) (v : Option Nat) : sm_M := (u.1, sm_up u.2.1 a k v, u.2.2.1, u.2.2.2)
def sm_wC (u : sm_M) (a b sp dp n : Nat) : sm_M := (u.1, u.2.1, sm_cp u.2.2.1 a b sp dp n, u.2.2.2)
def sm_nw (u : sm_M) (t n : Nat) : sm_M := (u.1 ++ [(t, n)], sm_zr u.2.1 u.1.length none, sm_zr u.2.2.1 u.1.length 0, sm_zr u.2.2.2 u.1.length 0)
abbrev sm_in (u : sm_M) (t a : Nat) (i : Int32) : Prop := sm_tg u a = t ∧ ¬ (i < 0 ∨ sm_ln u a ≤ i.toNatClampNeg)
def sm_lt (u : sm_M) (f : sm_M → sm_R) : sm_R := f u
def sm_p1 (st : List Value) (f : Int32 → List Value → sm_R) : sm_R := match st with
  | .int x :: r => f x r
  | _ => none
def sm_p2 (st : List Value) (f : Int32 → Int32 → List Value → sm_R) : sm_R := match st with
  | .int y :: .int x :: r => f x y r
  | _ => none
def sm_q1 (st : List Value) (f : Int64 → List Value → sm_R) : sm_R := match st with
  | .long x :: r => f x r
  | _ => none
def sm_q2 (st : List Value) (f : Int64 → Int64 → List Value → sm_R) : sm_R := match st with
  | .long y :: .long x :: r => f x y r
  | _ => none
def sm_qs (st : List Value) (f : Int64 → Int32 → List Value → sm_R) : sm_R := match st with
  | .int y :: .long x :: r => f x y r
  | _ => none
def sm_a1 (st : List Value) (f : Nat → List Value → sm_R) : sm_R := match st with
  | .ref a :: r => f a r
  | _ => none
def sm_tp (st : List Value) (f : Nat → List Value → sm_R) : sm_R := match st with
  | .retAddr a :: r => f a r
  | _ => none
def sm_ai (st : List Value) (f : Nat → Int32 → List Value → sm_R) : sm_R := match st with
  | .int i :: .ref a :: r => f a i r
  | _ => none
def sm_ri (o : sm_R) (f : Int32 → sm_M → sm_R) : sm_R := match o with
  | some (some (.int x), u) => f x u
  | _ => none
def sm_rl (o : sm_R) (f : Int64 → sm_M → sm_R) : sm_R := match o with
  | some (some (.long x), u) => f x u
  | _ => none
def sm_rv (o : sm_R) (f : sm_M → sm_R) : sm_R := match o with
  | some (none, u) => f u
  | _ => none
def sm_rr (o : Option Nat) (f : Nat → sm_R) : sm_R := match o with
  | some a => f a
  | none => none
def sm_gl (ls : sm_Ls) (i : Nat) (f : Value → sm_R) : sm_R := match ls[i]? with
  | some (some v) => f v
  | _ => none
def sm_is1 (v : Value) : Bool := match v with
  | .int _ => true
  | .ref _ => true
  | _ => false
def sm_isL (o : Option (Option Value)) : Bool := match o with
  | some (some (.long _)) => true
  | some (some (.double _)) => true
  | _ => false
/-- a store: the long that began one place ahead is gone -/
def sm_cl (ls : sm_Ls) (i : Nat) : sm_Ls := match i with
  | 0 => ls
  | j + 1 => match sm_isL ls[j]? with
    | true => ls.set j none
    | false => ls
def sm_s1 (ls : sm_Ls) (i : Nat) (v : Value) : sm_Ls := (sm_cl ls i).set i (some v)
def sm_s2 (ls : sm_Ls) (i : Nat) (v : Value) : sm_Ls := ((sm_cl ls i).set i (some v)).set (i + 1) none
def sm_sel (x : Int32) : List (Int × Int) → (Nat → sm_R) → Int → sm_R
  | [], f, d => f d.toNat
  | (v, t) :: r, f, d => if x = Int32.ofInt v then f t.toNat else sm_sel x r f d
def sm_bp (b : Bool) (r : sm_R) : sm_R := match b with
  | true => r
  | false => none
/-- the texts that the class names, by number -/
def sm_tx (j : Nat) : List Nat := ([[101, 118, 101, 110, 116], [109, 97, 121], [99, 104, 111, 105, 99, 101], [111, 100, 100, 115], [114, 111, 111, 109], [102, 111, 114], [116, 117, 114, 110], [115, 101, 116], [116, 111], [112, 117, 116], [105, 110], [116, 97, 107, 101], [115, 111], [111, 114], [97, 110, 100], [110, 111, 116], [119, 97, 115], [99, 97, 109, 101], [99, 111, 117, 110, 116], [119, 97, 121], [109, 97, 110, 121], [100, 111, 110, 101]] : List (List Nat)).getD j []
section
variable (call : Nat → List Value → sm_M → sm_R) (jmp : Nat → sm_Ls → List Value → sm_M → sm_R)
def sm_x2 (op a b c d : Nat) (ls : sm_Ls) (st : List Value) (u : sm_M) (k : sm_Ls → List Value → sm_M → sm_R) : sm_R := match op with
  | 0 => sm_a1 st fun o r => if sm_tg u o = a then k ls (.int (sm_I u o b) :: r) u else none
  | 1 => sm_a1 st fun o r => if sm_tg u o = a then sm_rr (sm_Rf u o b) fun q => k ls (.ref q :: r) u else none
  | 2 => match st with
    | .int v :: .ref o :: r => if sm_tg u o = a then k ls r (sm_wI u o b v) else none
    | _ => none
  | 3 => match st with
    | .int v :: .ref o :: r => if sm_tg u o = a ∧ (v = 0 ∨ v = 1) then k ls r (sm_wI u o b v) else none
    | _ => none
  | 4 => match st with
    | .ref v :: .ref o :: r => if sm_tg u o = a ∧ sm_tg u v = c then k ls r (sm_wR u o b (some v)) else none
    | _ => none
  | 5 => sm_bp (Nat.ble (st.drop b).length 4 && Nat.beq (st.take b).length b) (match c with
    | 0 => sm_rv (call a (st.take b).reverse u) fun u' => k ls (st.drop b) u'
    | 1 => sm_ri (call a (st.take b).reverse u) fun x u' => k ls (.int x :: st.drop b) u'
    | _ => sm_rl (call a (st.take b).reverse u) fun x u' => k ls (.long x :: st.drop b) u')
  | 6 => sm_gl ((st.take b).reverse.map some) 0 fun v => sm_a1 [v] fun o _ => if sm_tg u o = d then sm_bp (Nat.ble (st.drop b).length 4 && Nat.beq (st.take b).length b) (match c with
    | 0 => sm_rv (call a (st.take b).reverse u) fun u' => k ls (st.drop b) u'
    | 1 => sm_ri (call a (st.take b).reverse u) fun x u' => k ls (.int x :: st.drop b) u'
    | _ => sm_rl (call a (st.take b).reverse u) fun x u' => k ls (.long x :: st.drop b) u') else none
  | 7 => sm_a1 st fun o r => if sm_tg u o = a then k ls (.long (sm_L u o b) :: r) u else none
  | 8 => match st with
    | .long v :: .ref o :: r => if sm_tg u o = a then k ls r (sm_wL u o b v) else none
    | _ => none
  | 9 => k ls (.long (Int64.ofNat a) :: st) u
  | 10 => k ls (.long (-(Int64.ofNat a)) :: st) u
  | 11 => k ls (.retAddr a :: st) u
  | 12 => sm_a1 st fun _ r => sm_bp (Nat.ble r.length 4) (k ls r u)
  | 13 => match st with
    | .int n :: .int dp :: .ref q :: .int sp :: .ref o :: r => if sm_tg u o = 1 ∧ sm_tg u q = 1 ∧ 0 ≤ sp ∧ 0 ≤ dp ∧ 0 ≤ n ∧ sp.toNatClampNeg + n.toNatClampNeg ≤ sm_ln u o ∧ dp.toNatClampNeg + n.toNatClampNeg ≤ sm_ln u q then sm_bp (Nat.ble r.length 4) (k ls r (sm_wC u o q sp.toNatClampNeg dp.toNatClampNeg n.toNatClampNeg)) else none
    | _ => none
  | 14 => sm_tp st fun o r => if o < 22 then k ls (.int (Int32.ofNat (sm_tx o).length) :: r) u else none
  | 15 => match st with
    | .int i :: .retAddr o :: r => if o < 22 ∧ ¬ (i < 0 ∨ (sm_tx o).length ≤ i.toNatClampNeg) then k ls (.int (Int32.ofNat ((sm_tx o).getD i.toNatClampNeg 0)) :: r) u else none
    | _ => none
  | 16 => k ls (.ref u.1.length :: st) (sm_nw u a b)
  | 17 => sm_p1 st fun n r => if 0 ≤ n ∧ n ≤ 100000 then k ls (.ref u.1.length :: r) (sm_nw u a n.toNatClampNeg) else none
  | 18 => jmp a ls st u
  | 19 => sm_gl ls a fun v => sm_tp [v] fun x _ => k ls (.retAddr x :: st) u
  | 20 => sm_p2 st fun x y r => sm_bp (Nat.ble r.length 4) (k ls (.int (if y < x then y else x) :: r) u)
  | 21 => sm_p1 st fun x r => sm_bp (Nat.ble r.length 4) (k ls (.int (if 0 ≤ x then x else 0 - x) :: r) u)
  | _ => match st with
    | [.int x] => if x = 0 ∨ x = 1 then some (some (.int x), u) else none
    | _ => none
def sm_x1 (i : Instr) (ls : sm_Ls) (st : List Value) (u : sm_M) (k : sm_Ls → List Value → sm_M → sm_R) : sm_R := match i with
  | .iconst n => k ls (.int (Int32.ofInt n) :: st) u
  | .iload i => sm_gl ls i fun v => sm_p1 [v] fun x _ => k ls (.int x :: st) u
  | .lload i => sm_gl ls i fun v => sm_q1 [v] fun x _ => k ls (.long x :: st) u
  | .aload i => sm_gl ls i fun v => sm_a1 [v] fun x _ => k ls (.ref x :: st) u
  | .istore i => sm_p1 st fun x r => k (sm_s1 ls i (.int x)) r u
  | .lstore i => sm_q1 st fun x r => k (sm_s2 ls i (.long x)) r u
  | .astore i => sm_a1 st fun x r => k (sm_s1 ls i (.ref x)) r u
  | .iinc i n => sm_gl ls i fun v => sm_p1 [v] fun x _ => k (sm_s1 ls i (.int (x + Int32.ofInt n))) st u
  | .iadd => sm_p2 st fun x y r => k ls (.int (x + y) :: r) u
  | .isub => sm_p2 st fun x y r => k ls (.int (x - y) :: r) u
  | .imul => sm_p2 st fun x y r => k ls (.int (x * y) :: r) u
  | .iand => sm_p2 st fun x y r => k ls (.int (x &&& y) :: r) u
  | .ior => sm_p2 st fun x y r => k ls (.int (x ||| y) :: r) u
  | .ixor => sm_p2 st fun x y r => k ls (.int (x ^^^ y) :: r) u
  | .ishl => sm_p2 st fun x y r => k ls (.int (x <<< (y &&& 31)) :: r) u
  | .ishr => sm_p2 st fun x y r => k ls (.int (x >>> (y &&& 31)) :: r) u
  | .iushr => sm_p2 st fun x y r => k ls (.int ((x.toUInt32 >>> (y.toUInt32 &&& Int32.toUInt32 31)).toInt32) :: r) u
  | .idiv => sm_p2 st fun x y r => if y = 0 then none else k ls (.int (x / y) :: r) u
  | .irem => sm_p2 st fun x y r => if y = 0 then none else k ls (.int (x - x / y * y) :: r) u
  | .ineg => sm_p1 st fun x r => k ls (.int (-x) :: r) u
  | .ladd => sm_q2 st fun x y r => k ls (.long (x + y) :: r) u
  | .lsub => sm_q2 st fun x y r => k ls (.long (x - y) :: r) u
  | .lmul => sm_q2 st fun x y r => k ls (.long (x * y) :: r) u
  | .lor => sm_q2 st fun x y r => k ls (.long (x ||| y) :: r) u
  | .ldiv => sm_q2 st fun x y r => if y = 0 then none else k ls (.long (x / y) :: r) u
  | .lrem => sm_q2 st fun x y r => if y = 0 then none else k ls (.long (x - x / y * y) :: r) u
  | .lneg => sm_q1 st fun x r => k ls (.long (-x) :: r) u
  | .lshl => sm_qs st fun x y r => k ls (.long (x <<< (y.toInt64 &&& 63)) :: r) u
  | .lshr => sm_qs st fun x y r => k ls (.long (x >>> (y.toInt64 &&& 63)) :: r) u
  | .lcmp => sm_q2 st fun x y r => k ls (.int (lg_cmp x y) :: r) u
  | .i2l => sm_p1 st fun x r => k ls (.long x.toInt64 :: r) u
  | .l2i => sm_q1 st fun x r => k ls (.int x.toInt32 :: r) u
  | .dup => match st with
    | v :: r => sm_bp (sm_is1 v) (k ls (v :: v :: r) u)
    | _ => none
  | .dup2 => match st with
    | v :: w :: r => sm_bp (sm_is1 v && sm_is1 w) (k ls (v :: w :: v :: w :: r) u)
    | _ => none
  | .pop => match st with
    | v :: r => sm_bp (sm_is1 v) (k ls r u)
    | _ => none
  | .if_icmp .eq t => sm_p2 st fun x y r => if x = y then jmp t.toNat ls r u else k ls r u
  | .if_icmp .ne t => sm_p2 st fun x y r => if x = y then k ls r u else jmp t.toNat ls r u
  | .if_icmp .lt t => sm_p2 st fun x y r => if x < y then jmp t.toNat ls r u else k ls r u
  | .if_icmp .ge t => sm_p2 st fun x y r => if y ≤ x then jmp t.toNat ls r u else k ls r u
  | .if_icmp .gt t => sm_p2 st fun x y r => if y < x then jmp t.toNat ls r u else k ls r u
  | .if_icmp .le t => sm_p2 st fun x y r => if x ≤ y then jmp t.toNat ls r u else k ls r u
  | .ifCond .eq t => sm_p1 st fun x r => if x = 0 then jmp t.toNat ls r u else k ls r u
  | .ifCond .ne t => sm_p1 st fun x r => if x = 0 then k ls r u else jmp t.toNat ls r u
  | .ifCond .lt t => sm_p1 st fun x r => if x < 0 then jmp t.toNat ls r u else k ls r u
  | .ifCond .ge t => sm_p1 st fun x r => if 0 ≤ x then jmp t.toNat ls r u else k ls r u
  | .ifCond .gt t => sm_p1 st fun x r => if 0 < x then jmp t.toNat ls r u else k ls r u
  | .ifCond .le t => sm_p1 st fun x r => if x ≤ 0 then jmp t.toNat ls r u else k ls r u
  | .ifnonnull t => sm_a1 st fun _ r => jmp t.toNat ls r u
  | .goto t => jmp t.toNat ls st u
  | .lookupswitch d ps => sm_p1 st fun x r => sm_sel x ps.toList (fun t => jmp t ls r u) d
  | .iaload => sm_ai st fun a i r => if sm_in u 1 a i then k ls (.int (sm_I u a i.toNatClampNeg) :: r) u else none
  | .baload => sm_ai st fun a i r => if sm_in u 2 a i then k ls (.int (sm_I u a i.toNatClampNeg) :: r) u else none
  | .laload => sm_ai st fun a i r => if sm_in u 3 a i then k ls (.long (sm_L u a i.toNatClampNeg) :: r) u else none
  | .aaload => sm_ai st fun a i r => if 4 ≤ sm_tg u a ∧ sm_tg u a ≤ 6 ∧ ¬ (i < 0 ∨ sm_ln u a ≤ i.toNatClampNeg) then sm_rr (sm_Rf u a i.toNatClampNeg) fun q => k ls (.ref q :: r) u else none
  | .iastore => match st with
    | .int v :: .int i :: .ref a :: r => if sm_in u 1 a i then k ls r (sm_wI u a i.toNatClampNeg v) else none
    | _ => none
  | .bastore => match st with
    | .int v :: .int i :: .ref a :: r => if sm_in u 2 a i ∧ (v = 0 ∨ v = 1) then k ls r (sm_wI u a i.toNatClampNeg v) else none
    | _ => none
  | .lastore => match st with
    | .long v :: .int i :: .ref a :: r => if sm_in u 3 a i then k ls r (sm_wL u a i.toNatClampNeg v) else none
    | _ => none
  | .aastore => match st with
    | .ref v :: .int i :: .ref a :: r => if (4 ≤ sm_tg u a ∧ sm_tg u a ≤ 6) ∧ sm_tg u v = 96 + sm_tg u a ∧ ¬ (i < 0 ∨ sm_ln u a ≤ i.toNatClampNeg) then k ls r (sm_wR u a i.toNatClampNeg (some v)) else none
    | _ => none
  | .arraylength => sm_a1 st fun a r => if 1 ≤ sm_tg u a ∧ sm_tg u a ≤ 6 then k ls (.int (Int32.ofNat (sm_ln u a)) :: r) u else none
  | .ireturn => match st with
    | [.int x] => some (some (.int x), u)
    | _ => none
  | .lreturn => match st with
    | [.long x] => some (some (.long x), u)
    | _ => none
  | .return_ => match st with
    | [] => some (none, u)
    | _ => none
  | _ => none
def sm_x (e : sm_E) (ls : sm_Ls) (st : List Value) (u : sm_M) (k : sm_Ls → List Value → sm_M → sm_R) : sm_R := match e with
  | .inl i => sm_x1 jmp i ls st u k
  | .inr (op, a, b, c, d) => sm_x2 call jmp op a b c d ls st u k
def sm_blk : List sm_E → sm_Ls → List Value → sm_M → sm_R
  | [], _, _, _ => none
  | e :: cs, ls, st, u => sm_x call jmp e ls st u (fun ls st u => sm_blk cs ls st u)
end
def sm_run (call : Nat → List Value → sm_M → sm_R) (code : List sm_E) : Nat → Nat → sm_Ls → List Value → sm_M → sm_R
  | 0, _, _, _, _ => none
  | n + 1, i, ls, st, u => sm_blk call (sm_run call code n) (code.drop i) ls st u
def sm_ent : Nat → List Value → sm_Ls
  | 0, _ => []
  | n + 1, [] => none :: sm_ent n []
  | n + 1, .long x :: vs => match n with
    | 0 => []
    | k + 1 => some (.long x) :: none :: sm_ent k vs
  | n + 1, .double x :: vs => match n with
    | 0 => []
    | k + 1 => some (.double x) :: none :: sm_ent k vs
  | n + 1, v :: vs => some v :: sm_ent n vs
