/-! THE CLASS'S CELLS. A garden at g: rows of ints c, refs of crops kp, of the beds' crops bt, its lines at la. -/
def gob (g la : Nat) (nc nh wk hd : Int32) : List Value := [.ref (g + 1), .int nc, .ref (g + 2), .ref (g + 3), .int nh, .ref (g + 4), .ref la, .ref (g + 11), .int wk, .int hd, .ref (g + 12), .ref (g + 13), .ref (g + 14), .ref (g + 15), .ref (g + 16), .ref (g + 17)]
def lob (g : Nat) (sz : Int32) : List Value := [.int sz, .ref (g + 5), .ref (g + 6), .ref (g + 7), .ref (g + 8), .ref (g + 9), .ref (g + 10)]
def bof (c : Option Nat) (o : Nat → Int32) : List Value := [zrf c, .int (o 1), .int (o 2), .int (o 3), .int (o 4), .int (o 5), .int (o 6), .int (o 7), .int (o 8)]
def hof (a : Nat) (o : Nat → Int32) : List Value := [.int (o 0), .int (o 1), .int (o 2), .int (o 3), .int (o 4), .int (o 5), .int (o 6), .ref (a + 1), .ref (a + 2), .ref (a + 3), .ref (a + 4)]
def brow (g i : Nat) : Option Nat := if i < 8 then some (g + 18 + i) else none
def hrow (g i : Nat) : Option Nat := if i < 10 then some (g + 26 + 5 * i) else none
/-- the cells of a garden. Rows of c: 0 crops, houses, week, hands, lots; 1 .. 6 lots' rows; 7 warmths; 8 .. 12 stock, picked, lost, boxed, spoilt; 13 sums; 20 + i bed i; 30 + i house i; 40 + i, 50 + i, 60 + i, 70 + i its rows -/
def Gc (M : zM) (g : Nat) (c : mS) (kp bt : Nat → Option Nat) (la : Nat) : Prop :=
  M g = .inr (2, gob g la (c 0 0) (c 0 1) (c 0 2) (c 0 3)) ∧ M (g + 1) = .inl (3, 8, .inr kp) ∧ M (g + 2) = .inl (4, 8, .inr (brow g)) ∧ M (g + 3) = .inl (5, 10, .inr (hrow g)) ∧ M (g + 4) = .inr (6, lob g (c 0 4)) ∧ (∀ j, j < 6 → M (g + 5 + j) = .inl (0, 240, .inl (c (1 + j)))) ∧ M (g + 11) = .inl (0, 30, .inl (c 7)) ∧ (∀ j, j < 5 → M (g + 12 + j) = .inl (0, 8, .inl (c (8 + j)))) ∧ M (g + 17) = .inl (0, 4, .inl (c 13)) ∧ (∀ i, i < 8 → M (g + 18 + i) = .inr (0, bof (bt i) (c (20 + i)))) ∧ (∀ i, i < 10 → M (g + 26 + 5 * i) = .inr (3, hof (g + 26 + 5 * i) (c (30 + i))) ∧ M (g + 27 + 5 * i) = .inl (0, 8, .inl (c (40 + i))) ∧ M (g + 28 + 5 * i) = .inl (0, 6, .inl (c (50 + i))) ∧ M (g + 29 + 5 * i) = .inl (0, 6, .inl (c (60 + i))) ∧ M (g + 30 + 5 * i) = .inl (0, 6, .inl (c (70 + i))))
theorem Gc.same {M M' : zM} {g : Nat} {c : mS} {kp bt : Nat → Option Nat} {la : Nat} (h : Gc M g c kp bt la) (hs : ∀ k, g ≤ k → k < g + 76 → M' k = M k) : Gc M' g c kp bt la := by
  obtain ⟨h0, h1, h2, h3, h4, h5, h6, h7, h8, h9, h10⟩ := h
  refine ⟨by rw [hs _ (by omega) (by omega)]; exact h0, by rw [hs _ (by omega) (by omega)]; exact h1, by rw [hs _ (by omega) (by omega)]; exact h2, by rw [hs _ (by omega) (by omega)]; exact h3, by rw [hs _ (by omega) (by omega)]; exact h4, fun j hj => by rw [hs _ (by omega) (by omega)]; exact h5 j hj, by rw [hs _ (by omega) (by omega)]; exact h6, fun j hj => by rw [hs _ (by omega) (by omega)]; exact h7 j hj, by rw [hs _ (by omega) (by omega)]; exact h8, fun i hi => by rw [hs _ (by omega) (by omega)]; exact h9 i hi, fun i hi => ?_⟩
  obtain ⟨a1, a2, a3, a4, a5⟩ := h10 i hi
  exact ⟨by rw [hs _ (by omega) (by omega)]; exact a1, by rw [hs _ (by omega) (by omega)]; exact a2, by rw [hs _ (by omega) (by omega)]; exact a3, by rw [hs _ (by omega) (by omega)]; exact a4, by rw [hs _ (by omega) (by omega)]; exact a5⟩

/-! CONSTRUCTORS OF THE SMALL THINGS. The object lies at a; new rows come from n on. -/
theorem c_Bed_init {d n w a : Nat} {M : zM} (hM : M a = .inr (0, zdef 0)) : zCall d 0 [.ref a] n w M none n w (zup M a (.inr (0, bof none (fun k => if k = 1 ∨ k = 6 then -1 else 0)))) := by
  intro Q hQ
  show zR ztb _ kX0_init 0 0 [some (.ref a)] [] _ _ _ _
  repeat (refine zR.step rfl ?_)
  refine zR.putf rfl hM rfl rfl ?_
  iterate 8
    repeat (refine zR.step rfl ?_)
    refine zR.putf rfl (zup_self _ _ _) rfl rfl ?_
    rw [zup_up]
  exact zR.ret rfl rfl hQ
theorem c_House_init {d n w a : Nat} {M : zM} (hM : M a = .inr (3, zdef 3)) (ha : a + 1 = n) : zCalP d 35 [.ref a] n w M (fun v n' w' M' => v = none ∧ n' = n + 4 ∧ w' = w + 26 ∧ M' a = .inr (3, hof a (fun _ => 0)) ∧ M' (a + 1) = .inl (0, 8, .inl (fun _ => 0)) ∧ M' (a + 2) = .inl (0, 6, .inl (fun _ => 0)) ∧ M' (a + 3) = .inl (0, 6, .inl (fun _ => 0)) ∧ M' (a + 4) = .inl (0, 6, .inl (fun _ => 0)) ∧ ∀ k, k < a ∨ a + 5 ≤ k → M' k = M k) := by
  subst ha
  show zR ztb _ kX3_init 0 0 [some (.ref a)] [] _ _ _ _
  repeat (refine zR.step rfl ?_)
  refine zR.putf rfl hM rfl rfl ?_
  iterate 6
    repeat (refine zR.step rfl ?_)
    refine zR.putf rfl (zup_self _ _ _) rfl rfl ?_
    rw [zup_up]
  iterate 4
    repeat (refine zR.step rfl ?_)
    refine zR.putf rfl (by (simp (disch := omega) only [zup_self, zup_ne]) <;> rfl) rfl rfl ?_
  repeat (refine zR.step rfl ?_)
  refine zR.ret rfl rfl ⟨rfl, rfl, rfl, ?_, ?_, ?_, ?_, ?_, fun k hk => ?_⟩
  · simp (disch := omega) only [zup_self, zup_ne]
    rfl
  · simp (disch := omega) only [zup_self, zup_ne]
    rfl
  · simp (disch := omega) only [zup_self, zup_ne]
    rfl
  · simp (disch := omega) only [zup_self, zup_ne]
    rfl
  · simp (disch := omega) only [zup_self, zup_ne]
    rfl
  · simp (disch := omega) only [zup_ne]
theorem c_Lots_init {d n w a : Nat} {M : zM} (hM : M a = .inr (6, zdef 6)) (ha : a + 1 = n) : zCalP d 54 [.ref a] n w M (fun v n' w' M' => v = none ∧ n' = n + 6 ∧ w' = w + 1440 ∧ M' a = .inr (6, [.int 0, .ref (a + 1), .ref (a + 2), .ref (a + 3), .ref (a + 4), .ref (a + 5), .ref (a + 6)]) ∧ (∀ j, j < 6 → M' (a + 1 + j) = .inl (0, 240, .inl (fun _ => 0))) ∧ ∀ k, k < a ∨ a + 7 ≤ k → M' k = M k) := by
  subst ha
  show zR ztb _ kX6_init 0 0 [some (.ref a)] [] _ _ _ _
  repeat (refine zR.step rfl ?_)
  refine zR.putf rfl hM rfl rfl ?_
  iterate 6
    repeat (refine zR.step rfl ?_)
    refine zR.putf rfl (by (simp (disch := omega) only [zup_self, zup_ne]) <;> rfl) rfl rfl ?_
  repeat (refine zR.step rfl ?_)
  refine zR.ret rfl rfl ⟨rfl, rfl, rfl, ?_, fun j hj => ?_, fun k hk => ?_⟩
  · simp (disch := omega) only [zup_self, zup_ne]
    rfl
  · match j, hj with
    | 0, _ => simp (disch := omega) only [zup_self, zup_ne]; rfl
    | 1, _ => simp (disch := omega) only [zup_self, zup_ne]; rfl
    | 2, _ => simp (disch := omega) only [zup_self, zup_ne]; rfl
    | 3, _ => simp (disch := omega) only [zup_self, zup_ne]; rfl
    | 4, _ => simp (disch := omega) only [zup_self, zup_ne]; rfl
    | 5, _ => simp (disch := omega) only [zup_self, zup_ne]; rfl
  · simp (disch := omega) only [zup_ne]
