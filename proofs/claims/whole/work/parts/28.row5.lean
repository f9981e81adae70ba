def sm_ix : Instr → Nat
  | .getfield x => x
  | .putfield x => x
  | .invokestatic x => x
  | .invokevirtual x => x
  | .invokespecial x => x
  | .ldc x => x
  | .ldc2_w x => x
  | .new x => x
  | .anewarray x => x
  | _ => 0
def sm_rk (y : Nat) : Nat := match sm_yr y with
  | none => 0
  | some .long => 2
  | _ => 1
def sm_isG : Instr → Bool
  | .getfield _ => true
  | _ => false
def sm_isP : Instr → Bool
  | .putfield _ => true
  | _ => false
def sm_isIS : Instr → Bool
  | .invokestatic _ => true
  | _ => false
def sm_isRT : FieldType → Bool
  | .object _ => true
  | .array _ => true
  | _ => false
def sm_at (a : Nat) : ArrayType := match a with
  | 1 => .int
  | 2 => .boolean
  | _ => .long
def sm_in2 (a b : Nat) : Bool := Nat.ble 100 a && Nat.blt a 113 && Nat.blt b (sm_nf a)
/-- what a program decides of a row -/
def sm_mb (init : Bool) (pcs : List Nat) (op a b c d : Nat) (ri : Instr) (pc len : Nat) : Bool := match op with
  | 0 => sm_isG ri && len == 3 && sm_in2 a b && Nat.beq (sm_fk a b) 0
  | 1 => sm_isG ri && len == 3 && sm_in2 a b && Nat.beq (sm_fk a b) 2
  | 2 => sm_isP ri && len == 3 && sm_in2 a b && Nat.beq (sm_fk a b) 0 && decide (sm_ft a b = .int) && (!(sm_T a b).2.2.2 || init)
  | 3 => sm_isP ri && len == 3 && sm_in2 a b && Nat.beq (sm_fk a b) 0 && decide (sm_ft a b = .boolean) && (!(sm_T a b).2.2.2 || init)
  | 4 => sm_isP ri && len == 3 && sm_in2 a b && Nat.beq (sm_fk a b) 2 && sm_isRT (sm_ft a b) && (!(sm_T a b).2.2.2 || init)
  | 5 => sm_isIS ri && len == 3 && Nat.blt a sm_ml.length && sm_ys a && Nat.beq b (sm_yp a) && Nat.beq c (sm_rk a)
  | 6 => len == 3 && Nat.blt a sm_ml.length && !sm_ys a && Nat.beq b (sm_yp a + 1) && Nat.beq c (sm_rk a) && Nat.ble 100 d && Nat.blt d 113 && (match ri with
    | .invokevirtual _ => decide ((sm_yn a).name ≠ "<init>")
    | .invokespecial _ => decide ((sm_yn a).name = "<init>") && Nat.beq c 0
    | _ => false)
  | 7 => sm_isG ri && len == 3 && sm_in2 a b && Nat.beq (sm_fk a b) 1
  | 8 => sm_isP ri && len == 3 && sm_in2 a b && Nat.beq (sm_fk a b) 1 && decide (sm_ft a b = .long) && (!(sm_T a b).2.2.2 || init)
  | 9 => match ri with
    | .lconst n => decide (Int64.ofNat n.val = Int64.ofNat a) && len == 1
    | .ldc2_w _ => len == 3
    | _ => false
  | 10 => match ri with
    | .ldc2_w _ => len == 3
    | _ => false
  | 11 => (match ri with
    | .ldc _ => true
    | _ => false) && len == 2
  | 12 => (match ri with
    | .invokespecial _ => true
    | _ => false) && len == 3
  | 13 => sm_isIS ri && len == 3
  | 16 => (match ri with
    | .new _ => true
    | _ => false) && len == 3 && Nat.ble 100 a && Nat.blt a 113 && Nat.beq b (sm_nf a)
  | 17 => match ri with
    | .newarray x => decide (x = sm_at a) && len == 2 && Nat.ble 1 a && Nat.ble a 3
    | .anewarray _ => len == 3 && Nat.ble 4 a && Nat.ble a 6
    | _ => false
  | 18 => len == 0 && Nat.beq (pcs.getD a 0) pc
  | 20 => sm_isIS ri && len == 3
  | 21 => sm_isIS ri && len == 3
  | 22 => decide (ri = .ireturn) && len == 1
  | _ => false
def sm_pl (own : String) (x a b h : Nat) : Prop := match (sm_T a b).2.2.2 with
  | true => sm_w h = some (.fieldLink own x (sm_T a b).1 (sm_T a b).2.1 (sm_T a b).2.2.1) ∧ (sm_T a b).1 = own
  | false => sm_fl own x a b h
def sm_str : List String := ["event", "may", "choice", "odds", "room", "for", "turn", "set", "to", "put", "in", "take", "so", "or", "and", "not", "was", "came", "count", "way", "many", "done"]
/-- what the tables say of a row -/
def sm_lk (own : String) (op a b d : Nat) (ri : Instr) (h : Nat) : Prop := match op with
  | 0 => sm_fl own (sm_ix ri) a b h
  | 1 => sm_fl own (sm_ix ri) a b h
  | 7 => sm_fl own (sm_ix ri) a b h
  | 2 => sm_pl own (sm_ix ri) a b h
  | 3 => sm_pl own (sm_ix ri) a b h
  | 4 => sm_pl own (sm_ix ri) a b h
  | 8 => sm_pl own (sm_ix ri) a b h
  | 5 => sm_cal own (sm_ix ri) a h
  | 6 => sm_cal own (sm_ix ri) a h ∧ sm_C d = (sm_yn a).cls
  | 9 => match ri with
    | .ldc2_w x => sm_w h = some (.constantLong own x (Int64.ofNat a))
    | _ => True
  | 10 => sm_w h = some (.constantLong own (sm_ix ri) (-(Int64.ofNat a)))
  | 11 => own = R_P ∧ ∃ t, sm_str[a]? = some t ∧ sm_w h = some (.stringRef own (sm_ix ri) t)
  | 12 => sm_w h = some (.methodLink own (sm_ix ri) objectInit)
  | 13 => sm_w h = some (.methodLink own (sm_ix ri) arraycopyName)
  | 16 => sm_w h = some (.classLink own (sm_ix ri) (sm_C a))
  | 17 => match ri with
    | .anewarray x => sm_w h = some (.classLink own x (sm_C (96 + a)))
    | _ => True
  | 20 => sm_w h = some (.methodLink own (sm_ix ri) Lib.Math.min.name)
  | 21 => sm_w h = some (.methodLink own (sm_ix ri) Lib.Math.abs.name)
  | _ => True
