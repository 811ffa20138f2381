
/-! A LINE'S CONDITION. -/
theorem zR.stored2 {d : Nat} {k : Nat → zI} {rt m i : Nat} {L : zL} {v : Value} {st : List Value} {n w : Nat} {M : zM} {Q : Option Value → Nat → Nat → zM → Prop} (h : zR ztb d k rt m (zsto2 L i v) st n w M Q) : zR ztb d k rt m (zsto2 L i v) st n w M Q := h
def encN : List Bool → Nat
  | [] => 1
  | b :: t => 2 * encN t + b.toNat
theorem encN_lt : ∀ st : List Bool, encN st < 2 ^ (st.length + 1)
  | [] => by decide
  | b :: t => by
    have := encN_lt t
    have hb : b.toNat ≤ 1 := by cases b <;> decide
    unfold encN
    rw [List.length_cons, Nat.pow_succ]
    omega
/-- does test k hold for house h -/
def tstF (s : Nat → Int32) (nl h k : Nat) : Bool := if s (2202 + 4 * k) = 60 then decide (valF s nl h k < s (2203 + 4 * k)) else decide (valF s nl h k = s (2203 + 4 * k))
def stepB (s : Nat → Int32) (nl h k : Nat) (st : List Bool) : List Bool :=
  if s (2200 + 4 * k) = 10 then (match st with | b :: t => (!b) :: t | [] => []) else if s (2200 + 4 * k) = 11 then (match st with | b :: a :: t => (a && b) :: t | x => x) else if s (2200 + 4 * k) = 12 then (match st with | b :: a :: t => (a || b) :: t | x => x) else tstF s nl h k :: st
def evS (s : Nat → Int32) (nl h : Nat) : Nat → Nat → List Bool → List Bool
  | 0, _, st => st
  | m + 1, k, st => evS s nl h m (k + 1) (stepB s nl h k st)
theorem encN_c (b : Bool) (t : List Bool) : encN (b :: t) = 2 * encN t + b.toNat := rfl
def b32 (b : Bool) : Int32 := if b then 1 else 0
theorem enc_not (b : Bool) (t : List Bool) (h : t.length ≤ 45) : Int64.ofNat (encN (b :: t)) ^^^ 1 = Int64.ofNat (encN ((!b) :: t)) := by
  have h1 := encN_lt t
  have h2 : 2 ^ (t.length + 1) ≤ 2 ^ 46 := Nat.pow_le_pow_right (by omega) (by omega)
  rw [encN_c, encN_c, lb_xor (by omega) (by cases b <;> decide)]
  cases b <;> rfl
theorem enc_and (b a : Bool) (t : List Bool) (h : t.length ≤ 45) : ((Int64.ofNat (encN (b :: a :: t))).toUInt64 >>> ((1 : Int32).toInt64.toUInt64 &&& Int64.toUInt64 63)).toInt64 &&& ((Int64.ofNat (encN (b :: a :: t)) &&& 1) ||| -2) = Int64.ofNat (encN ((a && b) :: t)) := by
  have h1 := encN_lt t
  have h2 : 2 ^ (t.length + 1) ≤ 2 ^ 46 := Nat.pow_le_pow_right (by omega) (by omega)
  have ha : a.toNat < 2 := by cases a <;> decide
  have hb : b.toNat < 2 := by cases b <;> decide
  rw [encN_c, encN_c, encN_c, lb_and1, lb_shr (by omega), show (2 * (2 * encN t + a.toNat) + b.toNat) / 2 = 2 * encN t + a.toNat by omega, show (2 * (2 * encN t + a.toNat) + b.toNat) % 2 = b.toNat by omega, lb_and (by omega) ha hb]
  cases a <;> cases b <;> rfl
theorem enc_or (b a : Bool) (t : List Bool) (h : t.length ≤ 45) : ((Int64.ofNat (encN (b :: a :: t))).toUInt64 >>> ((1 : Int32).toInt64.toUInt64 &&& Int64.toUInt64 63)).toInt64 ||| (Int64.ofNat (encN (b :: a :: t)) &&& 1) = Int64.ofNat (encN ((a || b) :: t)) := by
  have h1 := encN_lt t
  have h2 : 2 ^ (t.length + 1) ≤ 2 ^ 46 := Nat.pow_le_pow_right (by omega) (by omega)
  have ha : a.toNat < 2 := by cases a <;> decide
  have hb : b.toNat < 2 := by cases b <;> decide
  rw [encN_c, encN_c, encN_c, lb_and1, lb_shr (by omega), show (2 * (2 * encN t + a.toNat) + b.toNat) / 2 = 2 * encN t + a.toNat by omega, show (2 * (2 * encN t + a.toNat) + b.toNat) % 2 = b.toNat by omega]
  cases a with
  | false =>
    rw [Bool.false_or]
    exact lb_or (n := encN t) (by omega) hb
  | true =>
    have e1 : Int64.ofNat (2 * encN t + true.toNat) = Int64.ofNat (2 * encN t) ||| Int64.ofNat 1 := (lb_or (b := 1) (by omega) (by omega)).symm
    rw [Bool.true_or, e1, Int64.or_assoc, show Int64.ofNat 1 ||| Int64.ofNat b.toNat = Int64.ofNat 1 by cases b <;> decide]
theorem enc_push (x : Bool) (t : List Bool) (h : t.length ≤ 45) : Int64.ofNat (encN t) <<< ((1 : Int32).toInt64 &&& 63) ||| (b32 x).toInt64 = Int64.ofNat (encN (x :: t)) := by
  have h1 := encN_lt t
  have h2 : 2 ^ (t.length + 1) ≤ 2 ^ 46 := Nat.pow_le_pow_right (by omega) (by omega)
  rw [lb_shl (by omega), show (b32 x).toInt64 = Int64.ofNat x.toNat by cases x <;> decide, lb_or (by omega) (by cases x <;> decide)]
  rfl
