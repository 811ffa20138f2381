
/-! WHAT HOLDS BETWEEN TWO CALLS. -/
def cropF (s : Nat → Int32) (i : Nat) : List Value := [.int (nI i), .int (s (50 + 10 * i)), .int (s (51 + 10 * i)), .int (s (52 + 10 * i)), .int (s (53 + 10 * i)), .int (s (54 + 10 * i)), .int (s (55 + 10 * i))]
def CropAt (M : zM) (n a i : Nat) (s : Nat → Int32) : Prop := 300 ≤ a ∧ a < n ∧ M a = .inr (1, cropF s i)
/-- truths of a garden's cells -/
def PZ (c : mS) : Prop := (∀ b, b < 8 → c (20 + b) 8 = 0 ∨ c (20 + b) 8 = 1) ∧ ∀ h, h < 10 → c (30 + h) 6 = 0 ∨ c (30 + h) 6 = 1
/-- numbers of a garden -/
def PN (c : mS) (s : Nat → Int32) (nc nh nl lm wk : Nat) : Prop := s 2 = nI nc ∧ nc ≤ 8 ∧ s 4 = nI nh ∧ nh ≤ 10 ∧ s 3 = nI nl ∧ nl ≤ 240 ∧ s 5 = nI lm ∧ lm ≤ 20 ∧ s 0 = nI wk ∧ wk ≤ 30 ∧ c 0 0 = s 2 ∧ c 0 1 = s 4 ∧ c 0 2 = s 0 ∧ c 0 3 = s 1 ∧ c 0 4 = s 3 ∧ (∀ h, nh ≤ h → h < 10 → ∀ k, 2 ≤ k → k < 7 → s (1700 + 40 * h + k) = 0) ∧ PZ c
/-- a number between two, as one of ours -/
def inN (x : Int32) (a b : Nat) : Prop := ∃ k : Nat, x = nI k ∧ a ≤ k ∧ k ≤ b
def PC (M : zM) (n : Nat) (kp : Nat → Option Nat) (s : Nat → Int32) (nc : Nat) : Prop := (∀ i, i < nc → (∃ a, kp i = some a ∧ CropAt M n a i s) ∧ inN (s (50 + 10 * i)) 0 5 ∧ inN (s (51 + 10 * i)) 1 400 ∧ inN (s (52 + 10 * i)) 1 20 ∧ inN (s (53 + 10 * i)) 1 10 ∧ inN (s (54 + 10 * i)) 0 12 ∧ inN (s (55 + 10 * i)) 1 9) ∧ ∀ i, nc ≤ i → i < 8 → kp i = none
/-- beds -/
def PB (M : zM) (n : Nat) (c : mS) (bt : Nat → Option Nat) (s : Nat → Int32) (nc : Nat) : Prop := ∀ b, b < 8 → ((s (150 + 10 * b) = -1 ∧ bt b = none ∧ s (151 + 10 * b) = -1 ∧ s (153 + 10 * b) = 0 ∧ s (154 + 10 * b) = 0 ∧ s (155 + 10 * b) = 0) ∨ ∃ i a, i < nc ∧ s (150 + 10 * b) = nI i ∧ bt b = some a ∧ CropAt M n a i s ∧ s (50 + 10 * i) ≠ 5 ∧ (s (50 + 10 * i) = 0 ∨ s (50 + 10 * i) = 1 → s (154 + 10 * b) = 0)) ∧ (∀ k, 1 ≤ k → k ≤ 7 → c (20 + b) k = s (150 + 10 * b + k)) ∧ (s (157 + 10 * b) = 0 ∨ s (157 + 10 * b) = 1) ∧ (s (156 + 10 * b) = -1 ∨ inN (s (156 + 10 * b)) 0 7) ∧ (0 ≤ (s (154 + 10 * b)).toInt ∧ (s (154 + 10 * b)).toInt ≤ 300)
/-- lots -/
def PL (c : mS) (s : Nat → Int32) (nc nl wk : Nat) : Prop := ∀ l, l < nl → (∀ j, j < 6 → c (1 + j) l = s (250 + 6 * l + j)) ∧ (∃ i, i < nc ∧ s (250 + 6 * l) = nI i) ∧ (0 ≤ (s (255 + 6 * l)).toInt ∧ (s (255 + 6 * l)).toInt ≤ 300) ∧ inN (s (253 + 6 * l)) 0 wk
/-- how many are left in all lots of a crop -/
def stockF (s : Nat → Int32) (x : Int32) : Nat → Int32
  | 0 => 0
  | l + 1 => stockF s x l + (if s (250 + 6 * l) = x then s (255 + 6 * l) else 0)
def PS (c : mS) (s : Nat → Int32) (nl : Nat) : Prop := ∀ i, i < 8 → c 8 i = stockF s (nI i) nl ∧ c 9 i = s (56 + 10 * i) ∧ c 10 i = s (57 + 10 * i) ∧ c 11 i = s (58 + 10 * i) ∧ c 12 i = s (59 + 10 * i)
/-- houses -/
def PH (c : mS) (s : Nat → Int32) (nh wk : Nat) : Prop := ∀ h, h < nh → (∀ k, k < 7 → c (30 + h) k = s (1700 + 40 * h + k)) ∧ (∀ q, q < 8 → c (40 + h) q = s (1708 + 40 * h + q) ∧ (s (1708 + 40 * h + q) = -1 ∨ ∃ k, s (1708 + 40 * h + q) = nI k ∧ k < wk)) ∧ inN (s (1700 + 40 * h)) 1 6 ∧ inN (s (1701 + 40 * h)) 0 255 ∧ inN (s (1702 + 40 * h)) 0 (2 ^ 30 - 1) ∧ inN (s (1703 + 40 * h)) 0 (54 * wk) ∧ (s (1706 + 40 * h) = 0 ∨ s (1706 + 40 * h) = 1) ∧ (s (1706 + 40 * h) = 1 → ∀ p, p < 6 → nI p < s (1700 + 40 * h) → c (50 + h) p = s (1716 + 40 * h + 3 * p) ∧ c (60 + h) p = s (1717 + 40 * h + 3 * p) ∧ c (70 + h) p = s (1718 + 40 * h + 3 * p))
/-- no number: the class's and the reference's -/
def cvt (x : Int32) : Int32 := if x = 100000 then -1001 else x
def PW (c : mS) (s : Nat → Int32) : Prop := ∀ j, j < 30 → c 7 j = cvt (s (10 + j)) ∧ (s (10 + j) = 100000 ∨ inN (s (10 + j)) 0 800)
/-- one step of a condition: the class's operator, subject, crop, limit; the reference's what, crop, sign, number -/
def stepR (op su cr li wh rc si nu : Int32) : Prop := (op = 15 ∧ wh = 10) ∨ (op = 13 ∧ wh = 11) ∨ (op = 14 ∧ wh = 12) ∨ (((op = 4 ∧ si = 60) ∨ (op = 5 ∧ si = 61)) ∧ (wh = 6 ∨ wh = 7 ∨ wh = 8 ∨ wh = 9) ∧ su = wh + 10 ∧ cr = rc ∧ li = nu)
/-- a row of steps is one condition: how deep the pile is from step k on, for m steps more -/
def wfS (s : Nat → Int32) : Nat → Nat → Nat → Prop
  | 0, _, dp => dp = 1
  | m + 1, k, dp => (s (2200 + 4 * k) = 10 ∧ 1 ≤ dp ∧ wfS s m (k + 1) dp) ∨ ((s (2200 + 4 * k) = 11 ∨ s (2200 + 4 * k) = 12) ∧ 2 ≤ dp ∧ wfS s m (k + 1) (dp - 1)) ∨ ((s (2200 + 4 * k) = 6 ∨ s (2200 + 4 * k) = 7 ∨ s (2200 + 4 * k) = 8 ∨ s (2200 + 4 * k) = 9) ∧ dp < 40 ∧ wfS s m (k + 1) (dp + 1))
def PX (M : zM) (n la : Nat) (s : Nat → Int32) (nc lm : Nat) : Prop := ∃ (sc : Nat) (r : mS) (en : Nat → Nat), Lc M la lm sc r ∧ 40 ≤ la ∧ (la = 40 ∨ 300 ≤ la) ∧ la + 8 ≤ n ∧ sc ≤ 100 ∧ en 0 = 0 ∧ (∀ l, l ≤ lm → en l ≤ sc) ∧ (∀ l, l < lm → en l ≤ en (l + 1) ∧ s (2102 + 4 * l) = nI (en l) ∧ s (2103 + 4 * l) = nI (en (l + 1)) ∧ r 2 l = nI (en (l + 1)) ∧ ((r 0 l = 10 ∧ s (2100 + 4 * l) = 1) ∨ (r 0 l = 11 ∧ s (2100 + 4 * l) = 0)) ∧ r 1 l = s (2101 + 4 * l) ∧ (∃ i, i < nc ∧ s (2101 + 4 * l) = nI i) ∧ (en l = en (l + 1) ∨ wfS s (en (l + 1) - en l) (en l) 0)) ∧ ∀ k, k < sc → stepR (r 3 k) (r 4 k) (r 5 k) (r 6 k) (s (2200 + 4 * k)) (s (2201 + 4 * k)) (s (2202 + 4 * k)) (s (2203 + 4 * k)) ∧ (s (2200 + 4 * k) = 6 ∨ s (2200 + 4 * k) = 7 → ∃ i, i < nc ∧ s (2201 + 4 * k) = nI i)
/-- a garden's cells stand for the row s -/
def GR (M : zM) (n : Nat) (c : mS) (kp bt : Nat → Option Nat) (la : Nat) (s : Nat → Int32) : Prop := ∃ nc nh nl lm wk, PN c s nc nh nl lm wk ∧ PC M n kp s nc ∧ PB M n c bt s nc ∧ PL c s nc nl wk ∧ PS c s nl ∧ PH c s nh wk ∧ PW c s ∧ PX M n la s nc lm
/-- the rest -/
def TR (t σ : mS) : Prop := t 0 0 = σ 12 3 ∧ (σ 12 3 = 0 ∨ σ 12 3 = 1) ∧ t 0 1 = σ 12 4 ∧ inN (σ 12 4) 0 10 ∧ t 0 2 = σ 12 12 ∧ t 0 3 = σ 12 6 ∧ (∃ tp, σ 12 6 = nI tp ∧ tp ≤ 200 ∧ ∀ i, i < tp → t 1 i &&& 255 = σ 3 i) ∧ t 0 8 = σ 12 7 ∧ t 0 9 = σ 12 8 ∧ t 0 12 = σ 12 14 ∧ (∃ tz, σ 12 14 = nI tz ∧ tz ≤ 40 ∧ ∀ i, i < tz → t 12 i = σ 7 i) ∧ ∀ i, i < 4 → t (20 + i) 0 = σ 4 i ∧ t (20 + i) 1 = σ 5 i ∧ (σ 4 i = -1 ∨ inN (σ 4 i) 0 2) ∧ inN (σ 5 i) 0 40 ∧ ∀ j, j < 40 → t (30 + i) j = cvt (σ 6 (40 * i + j)) ∧ ((σ 6 (40 * i + j) = 100000 ∧ σ 4 i = 2) ∨ (-1000 ≤ (σ 6 (40 * i + j)).toInt ∧ (σ 6 (40 * i + j)).toInt ≤ 1000))
/-- the class's cells and what they stand for -/
def Cp (M : zM) (n : Nat) (t : mS) (tr : Option Nat) (c0 c1 c2 : mS) (k0 k1 k2 b0 b1 b2 : Nat → Option Nat) (l0 l1 l2 : Nat) : Prop := Tc M t tr ∧ Gc M 48 c0 k0 b0 l0 ∧ Gc M 124 c1 k1 b1 l1 ∧ Gc M 200 c2 k2 b2 l2
def Inv (L : Nat) (xs : Nat → Int32) (M : zM) (σ : mS) (n w : Nat) : Prop := ∃ t tr c0 c1 c2 k0 k1 k2 b0 b1 b2 l0 l1 l2, Rf M σ ∧ Cp M n t tr c0 c1 c2 k0 k1 k2 b0 b1 b2 l0 l1 l2 ∧ GR M n c0 k0 b0 l0 (σ 0) ∧ (σ 12 3 = 1 → GR M n c1 k1 b1 l1 (σ 1)) ∧ TR t σ ∧ (∀ k, k < 25 → M k = zX L xs k) ∧ 300 ≤ n
