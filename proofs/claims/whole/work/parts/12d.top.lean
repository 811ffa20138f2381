/-! THE CLASS'S OTHER CELLS. Rows of t: 0 hasImage, timesBack, status, tape's length, tokens' size, the reader's at, token, value, faultKind, faultPlace, lineCount, stepCount, traceSize; 1 tape; 2 .. 4 tokens; 5 .. 11 the reader's rows; 12 bodies; 20 + i sheet i; 30 + i its numbers. -/
def tob (t : mS) : List Value := [.ref 26, .ref 28, .ref 32, .ref 48, .ref 124, .ref 200, .ref 276, .ref 278, .int (t 0 0), .int (t 0 1), .int (t 0 2)]
def rob (tr : Option Nat) (t : mS) : List Value := [zrf tr, .int (t 0 5), .int (t 0 6), .int (t 0 7), .int (t 0 8), .int (t 0 9), .int (t 0 10), .int (t 0 11), .ref 33, .ref 34, .ref 35, .ref 36, .ref 37, .ref 38, .ref 39]
def srow (i : Nat) : Option Nat := if i < 4 then some (279 + 2 * i) else none
def rln (j : Nat) : Nat := if j < 3 then 20 else 200
def Rc (M : zM) (t : mS) (tr : Option Nat) : Prop := M 32 = .inr (4, rob tr t) ∧ ∀ j, j < 7 → M (33 + j) = .inl (0, rln j, .inl (t (5 + j)))
def Tc (M : zM) (t : mS) (tr : Option Nat) : Prop :=
  M 25 = .inr (11, tob t) ∧ M 26 = .inr (9, [.ref 27, .int (t 0 3)]) ∧ M 27 = .inl (1, 200, .inl (t 1)) ∧ M 28 = .inr (10, [.int (t 0 4), .ref 29, .ref 30, .ref 31]) ∧ (∀ j, j < 3 → M (29 + j) = .inl (0, 201, .inl (t (2 + j)))) ∧ Rc M t tr ∧ M 276 = .inr (7, [.ref 277, .int (t 0 12)]) ∧ M 277 = .inl (0, 50, .inl (t 12)) ∧ M 278 = .inl (6, 4, .inr srow) ∧ ∀ i, i < 4 → M (279 + 2 * i) = .inr (8, [.int (t (20 + i) 0), .int (t (20 + i) 1), .ref (280 + 2 * i)]) ∧ M (280 + 2 * i) = .inl (0, 40, .inl (t (30 + i)))
/-- lines at a: how many, their rows of lc numbers, of sc numbers -/
def Lc (M : zM) (a lc sc : Nat) (r : mS) : Prop := M a = .inr (5, [.int (nI lc), .ref (a + 1), .ref (a + 2), .ref (a + 3), .ref (a + 4), .ref (a + 5), .ref (a + 6), .ref (a + 7)]) ∧ ∀ j, j < 7 → M (a + 1 + j) = .inl (0, if j < 3 then lc else sc, .inl (r j))
theorem Lc.same {M M' : zM} {a lc sc : Nat} {r : mS} (h : Lc M a lc sc r) (hs : ∀ k, a ≤ k → k < a + 8 → M' k = M k) : Lc M' a lc sc r := ⟨by rw [hs _ (by omega) (by omega)]; exact h.1, fun j hj => by rw [hs _ (by omega) (by omega)]; exact h.2 j hj⟩
theorem c_Tape_init {d n w a : Nat} {M : zM} (hM : M a = .inr (9, zdef 9)) (ha : a + 1 = n) : zCalP d 66 [.ref a] n w M (fun v n' w' M' => v = none ∧ n' = n + 1 ∧ w' = w + 200 ∧ M' a = .inr (9, [.ref (a + 1), .int 0]) ∧ M' (a + 1) = .inl (1, 200, .inl (fun _ => 0)) ∧ ∀ k, k < a ∨ a + 2 ≤ k → M' k = M k) := by
  subst ha
  show zR ztb _ kX9_init 0 0 [some (.ref a)] [] _ _ _ _
  iterate 2
    repeat (refine zR.step rfl ?_)
    refine zR.putf rfl (by (simp (disch := omega) only [zup_self, zup_ne, hM]) <;> rfl) rfl rfl ?_
  refine zR.ret rfl rfl ⟨rfl, rfl, rfl, ?_, ?_, fun k hk => ?_⟩
  · (simp (disch := omega) only [zup_self, zup_ne]) <;> rfl
  · (simp (disch := omega) only [zup_self, zup_ne]) <;> rfl
  · simp (disch := omega) only [zup_ne]
theorem c_Tokens_init {d n w a : Nat} {M : zM} (hM : M a = .inr (10, zdef 10)) (ha : a + 1 = n) : zCalP d 71 [.ref a] n w M (fun v n' w' M' => v = none ∧ n' = n + 3 ∧ w' = w + 603 ∧ M' a = .inr (10, [.int 0, .ref (a + 1), .ref (a + 2), .ref (a + 3)]) ∧ (∀ j, j < 3 → M' (a + 1 + j) = .inl (0, 201, .inl (fun _ => 0))) ∧ ∀ k, k < a ∨ a + 4 ≤ k → M' k = M k) := by
  subst ha
  show zR ztb _ kX10_init 0 0 [some (.ref a)] [] _ _ _ _
  iterate 4
    repeat (refine zR.step rfl ?_)
    refine zR.putf rfl (by (simp (disch := omega) only [zup_self, zup_ne, hM]) <;> rfl) rfl rfl ?_
  refine zR.ret rfl rfl ⟨rfl, rfl, rfl, ?_, fun j hj => ?_, fun k hk => ?_⟩
  · (simp (disch := omega) only [zup_self, zup_ne]) <;> rfl
  · match j, hj with
    | 0, _ => (simp (disch := omega) only [zup_self, zup_ne]) <;> rfl
    | 1, _ => (simp (disch := omega) only [zup_self, zup_ne]) <;> rfl
    | 2, _ => (simp (disch := omega) only [zup_self, zup_ne]) <;> rfl
  · simp (disch := omega) only [zup_ne]
theorem c_Performer_init {d n w a : Nat} {M : zM} (hM : M a = .inr (7, zdef 7)) (ha : a + 1 = n) : zCalP d 59 [.ref a] n w M (fun v n' w' M' => v = none ∧ n' = n + 1 ∧ w' = w + 50 ∧ M' a = .inr (7, [.ref (a + 1), .int 0]) ∧ M' (a + 1) = .inl (0, 50, .inl (fun _ => 0)) ∧ ∀ k, k < a ∨ a + 2 ≤ k → M' k = M k) := by
  subst ha
  show zR ztb _ kX7_init 0 0 [some (.ref a)] [] _ _ _ _
  iterate 2
    repeat (refine zR.step rfl ?_)
    refine zR.putf rfl (by (simp (disch := omega) only [zup_self, zup_ne, hM]) <;> rfl) rfl rfl ?_
  refine zR.ret rfl rfl ⟨rfl, rfl, rfl, ?_, ?_, fun k hk => ?_⟩
  · (simp (disch := omega) only [zup_self, zup_ne]) <;> rfl
  · (simp (disch := omega) only [zup_self, zup_ne]) <;> rfl
  · simp (disch := omega) only [zup_ne]
theorem c_Sheet_init {d n w a : Nat} {M : zM} (hM : M a = .inr (8, zdef 8)) (ha : a + 1 = n) : zCalP d 63 [.ref a] n w M (fun v n' w' M' => v = none ∧ n' = n + 1 ∧ w' = w + 40 ∧ M' a = .inr (8, [.int (-1), .int 0, .ref (a + 1)]) ∧ M' (a + 1) = .inl (0, 40, .inl (fun _ => 0)) ∧ ∀ k, k < a ∨ a + 2 ≤ k → M' k = M k) := by
  subst ha
  show zR ztb _ kX8_init 0 0 [some (.ref a)] [] _ _ _ _
  iterate 3
    repeat (refine zR.step rfl ?_)
    refine zR.putf rfl (by (simp (disch := omega) only [zup_self, zup_ne, hM]) <;> rfl) rfl rfl ?_
  refine zR.ret rfl rfl ⟨rfl, rfl, rfl, ?_, ?_, fun k hk => ?_⟩
  · (simp (disch := omega) only [zup_self, zup_ne]) <;> rfl
  · (simp (disch := omega) only [zup_self, zup_ne]) <;> rfl
  · simp (disch := omega) only [zup_ne]
theorem c_Reader_init0 {d n w a : Nat} {M : zM} (hM : M a = .inr (4, zdef 4)) (ha : a + 1 = n) : zCalP d 42 [.ref a] n w M (fun v n' w' M' => v = none ∧ n' = n + 7 ∧ w' = w + 860 ∧ M' a = .inr (4, [.null, .int 0, .int 0, .int 0, .int 0, .int (-1), .int 0, .int 0, .ref (a + 1), .ref (a + 2), .ref (a + 3), .ref (a + 4), .ref (a + 5), .ref (a + 6), .ref (a + 7)]) ∧ (∀ j, j < 7 → M' (a + 1 + j) = .inl (0, rln j, .inl (fun _ => 0))) ∧ ∀ k, k < a ∨ a + 8 ≤ k → M' k = M k) := by
  subst ha
  show zR ztb _ kX4_init 0 0 [some (.ref a)] [] _ _ _ _
  iterate 15
    repeat (refine zR.step rfl ?_)
    refine zR.putf rfl (by (simp (disch := omega) only [zup_self, zup_ne, hM]) <;> rfl) rfl rfl ?_
  refine zR.ret rfl rfl ⟨rfl, rfl, rfl, ?_, fun j hj => ?_, fun k hk => ?_⟩
  · (simp (disch := omega) only [zup_self, zup_ne]) <;> rfl
  · match j, hj with
    | 0, _ => (simp (disch := omega) only [zup_self, zup_ne]) <;> rfl
    | 1, _ => (simp (disch := omega) only [zup_self, zup_ne]) <;> rfl
    | 2, _ => (simp (disch := omega) only [zup_self, zup_ne]) <;> rfl
    | 3, _ => (simp (disch := omega) only [zup_self, zup_ne]) <;> rfl
    | 4, _ => (simp (disch := omega) only [zup_self, zup_ne]) <;> rfl
    | 5, _ => (simp (disch := omega) only [zup_self, zup_ne]) <;> rfl
    | 6, _ => (simp (disch := omega) only [zup_self, zup_ne]) <;> rfl
  · simp (disch := omega) only [zup_ne]
/-- lines made of what the reader has -/
theorem c_Lines_init {d n w a lc sc : Nat} {M : zM} {t : mS} {tr : Option Nat} (hM : M a = .inr (5, zdef 5)) (ha : a + 1 = n) (h40 : 40 ≤ a) (hR : Rc M t tr) (hl : t 0 10 = nI lc) (hs : t 0 11 = nI sc) (hl2 : lc ≤ 20) (hs2 : sc ≤ 200) : zCalP (d + 2) 51 [.ref a, .ref 32] n w M (fun v n' w' M' => v = none ∧ n' = n + 7 ∧ w' = w + 3 * lc + 4 * sc ∧ (∃ r : mS, Lc M' a lc sc r ∧ ∀ j, j < 7 → ∀ i, i < (if j < 3 then lc else sc) → r j i = t (5 + j) i) ∧ ∀ k, k < a ∨ a + 8 ≤ k → M' k = M k) := by
  subst ha
  have h32 := hR.1
  show zR ztb _ kX5_init 0 0 [some (.ref a), some (.ref 32)] [] _ _ _ _
  have h33 := fun j hj => hR.2 j hj
  repeat (refine zR.step rfl ?_)
  refine zR.getf rfl h32 rfl ?_
  rw [hl]
  refine zR.putf rfl hM rfl rfl ?_
  repeat (first | refine zR.step rfl ?_ | refine zR.getf rfl (by (simp (disch := omega) only [zup_self, zup_ne, h32]) <;> rfl) rfl ?_)
  refine zR.cs rfl rfl rfl rfl rfl (zR.mono (c_copyOf (by simp (disch := omega) only [zup_ne]; exact h33 0 (by decide)) (by first | exact hl2 | exact hs2) (by decide) (by omega)) (fun v n0 w0 M0 hv => ?_))
  obtain ⟨rfl, rfl, rfl, f0, hf0, rfl⟩ := hv
  refine zR.putf rfl (by (simp (disch := omega) only [zup_self, zup_ne]) <;> rfl) rfl rfl ?_
  repeat (first | refine zR.step rfl ?_ | refine zR.getf rfl (by (simp (disch := omega) only [zup_self, zup_ne, h32]) <;> rfl) rfl ?_)
  refine zR.cs rfl rfl rfl rfl rfl (zR.mono (c_copyOf (by simp (disch := omega) only [zup_ne]; exact h33 1 (by decide)) (by first | exact hl2 | exact hs2) (by decide) (by omega)) (fun v n1 w1 M1 hv => ?_))
  obtain ⟨rfl, rfl, rfl, f1, hf1, rfl⟩ := hv
  refine zR.putf rfl (by (simp (disch := omega) only [zup_self, zup_ne]) <;> rfl) rfl rfl ?_
  repeat (first | refine zR.step rfl ?_ | refine zR.getf rfl (by (simp (disch := omega) only [zup_self, zup_ne, h32]) <;> rfl) rfl ?_)
  refine zR.cs rfl rfl rfl rfl rfl (zR.mono (c_copyOf (by simp (disch := omega) only [zup_ne]; exact h33 2 (by decide)) (by first | exact hl2 | exact hs2) (by decide) (by omega)) (fun v n2 w2 M2 hv => ?_))
  obtain ⟨rfl, rfl, rfl, f2, hf2, rfl⟩ := hv
  refine zR.putf rfl (by (simp (disch := omega) only [zup_self, zup_ne]) <;> rfl) rfl rfl ?_
  repeat (first | refine zR.step rfl ?_ | refine zR.getf rfl (by (simp (disch := omega) only [zup_self, zup_ne, h32]) <;> rfl) rfl ?_)
  rw [hs]
  refine zR.cs rfl rfl rfl rfl rfl (zR.mono (c_copyOf (by simp (disch := omega) only [zup_ne]; exact h33 3 (by decide)) (by first | exact hl2 | exact hs2) (by decide) (by omega)) (fun v n3 w3 M3 hv => ?_))
  obtain ⟨rfl, rfl, rfl, f3, hf3, rfl⟩ := hv
  refine zR.putf rfl (by (simp (disch := omega) only [zup_self, zup_ne]) <;> rfl) rfl rfl ?_
  repeat (first | refine zR.step rfl ?_ | refine zR.getf rfl (by (simp (disch := omega) only [zup_self, zup_ne, h32]) <;> rfl) rfl ?_)
  rw [hs]
  refine zR.cs rfl rfl rfl rfl rfl (zR.mono (c_copyOf (by simp (disch := omega) only [zup_ne]; exact h33 4 (by decide)) (by first | exact hl2 | exact hs2) (by decide) (by omega)) (fun v n4 w4 M4 hv => ?_))
  obtain ⟨rfl, rfl, rfl, f4, hf4, rfl⟩ := hv
  refine zR.putf rfl (by (simp (disch := omega) only [zup_self, zup_ne]) <;> rfl) rfl rfl ?_
  repeat (first | refine zR.step rfl ?_ | refine zR.getf rfl (by (simp (disch := omega) only [zup_self, zup_ne, h32]) <;> rfl) rfl ?_)
  rw [hs]
  refine zR.cs rfl rfl rfl rfl rfl (zR.mono (c_copyOf (by simp (disch := omega) only [zup_ne]; exact h33 5 (by decide)) (by first | exact hl2 | exact hs2) (by decide) (by omega)) (fun v n5 w5 M5 hv => ?_))
  obtain ⟨rfl, rfl, rfl, f5, hf5, rfl⟩ := hv
  refine zR.putf rfl (by (simp (disch := omega) only [zup_self, zup_ne]) <;> rfl) rfl rfl ?_
  repeat (first | refine zR.step rfl ?_ | refine zR.getf rfl (by (simp (disch := omega) only [zup_self, zup_ne, h32]) <;> rfl) rfl ?_)
  rw [hs]
  refine zR.cs rfl rfl rfl rfl rfl (zR.mono (c_copyOf (by simp (disch := omega) only [zup_ne]; exact h33 6 (by decide)) (by first | exact hl2 | exact hs2) (by decide) (by omega)) (fun v n6 w6 M6 hv => ?_))
  obtain ⟨rfl, rfl, rfl, f6, hf6, rfl⟩ := hv
  refine zR.putf rfl (by (simp (disch := omega) only [zup_self, zup_ne]) <;> rfl) rfl rfl ?_
  refine zR.ret rfl rfl ⟨rfl, rfl, by omega, ⟨fun j => match j with | 0 => f0 | 1 => f1 | 2 => f2 | 3 => f3 | 4 => f4 | 5 => f5 | _ => f6, ⟨?_, fun j hj => ?_⟩, fun j hj => ?_⟩, fun k hk => ?_⟩
  · (simp (disch := omega) only [zup_self, zup_ne]) <;> rfl
  · match j, hj with
    | 0, _ => (simp (disch := omega) only [zup_self, zup_ne]) <;> rfl
    | 1, _ => (simp (disch := omega) only [zup_self, zup_ne]) <;> rfl
    | 2, _ => (simp (disch := omega) only [zup_self, zup_ne]) <;> rfl
    | 3, _ => (simp (disch := omega) only [zup_self, zup_ne]) <;> rfl
    | 4, _ => (simp (disch := omega) only [zup_self, zup_ne]) <;> rfl
    | 5, _ => (simp (disch := omega) only [zup_self, zup_ne]) <;> rfl
    | 6, _ => (simp (disch := omega) only [zup_self, zup_ne]) <;> rfl
  · match j, hj with
    | 0, _ => exact hf0
    | 1, _ => exact hf1
    | 2, _ => exact hf2
    | 3, _ => exact hf3
    | 4, _ => exact hf4
    | 5, _ => exact hf5
    | 6, _ => exact hf6
  · simp (disch := omega) only [zup_ne]
