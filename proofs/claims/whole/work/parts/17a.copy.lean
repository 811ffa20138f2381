
/-! A GARDEN COPIED INTO ANOTHER. -/
theorem c_Bed_copy_y {M : zM} {d n w a b : Nat} {ca : Nat} {z : Option Nat} {r q : Nat → Int32} (ha : M a = .inr (0, bof z r)) (hb : M b = .inr (0, bof (some ca) q)) (hab : b ≠ a) (h7 : q 7 = 0 ∨ q 7 = 1) (h8 : q 8 = 0 ∨ q 8 = 1) : zCall d 1 [.ref a, .ref b] n w M none n w (zup M a (.inr (0, bof (some ca) q))) := by
  intro Q hQ
  have f7 : zfit 1 (.int (q 7)) = true := by rcases h7 with h | h <;> rw [h] <;> rfl
  have f8 : zfit 1 (.int (q 8)) = true := by rcases h8 with h | h <;> rw [h] <;> rfl
  have hb2 : ∀ c, zup M a c b = .inr (0, bof (some ca) q) := fun c => (zup_ne _ _ hab).trans hb
  show zR ztb _ kX0_copyFrom 0 0 [some (.ref a), some (.ref b)] [] _ _ _ _
  repeat (first | ((with_reducible refine zR.stored ?_); dsimp only [zsto, zclr, zset, zget, zc2, cond_false, cond_true]) | ((with_reducible refine zR.atLit ?_); first | refine zR.step rfl ?_ | refine zR.getf rfl (hb) rfl ?_) | rw [zcc1] | rw [zcc2] | rw [zcc3] | rw [zcc4])
  refine zR.putf rfl ha rfl rfl ?_
  repeat (first | ((with_reducible refine zR.stored ?_); dsimp only [zsto, zclr, zset, zget, zc2, cond_false, cond_true]) | ((with_reducible refine zR.atLit ?_); first | refine zR.step rfl ?_ | refine zR.getf rfl (hb2 _) rfl ?_) | rw [zcc1] | rw [zcc2] | rw [zcc3] | rw [zcc4])
  refine zR.putf rfl (zup_self _ _ _) rfl rfl ?_
  rw [zup_up]
  repeat (first | ((with_reducible refine zR.stored ?_); dsimp only [zsto, zclr, zset, zget, zc2, cond_false, cond_true]) | ((with_reducible refine zR.atLit ?_); first | refine zR.step rfl ?_ | refine zR.getf rfl (hb2 _) rfl ?_) | rw [zcc1] | rw [zcc2] | rw [zcc3] | rw [zcc4])
  refine zR.putf rfl (zup_self _ _ _) rfl rfl ?_
  rw [zup_up]
  repeat (first | ((with_reducible refine zR.stored ?_); dsimp only [zsto, zclr, zset, zget, zc2, cond_false, cond_true]) | ((with_reducible refine zR.atLit ?_); first | refine zR.step rfl ?_ | refine zR.getf rfl (hb2 _) rfl ?_) | rw [zcc1] | rw [zcc2] | rw [zcc3] | rw [zcc4])
  refine zR.putf rfl (zup_self _ _ _) rfl rfl ?_
  rw [zup_up]
  repeat (first | ((with_reducible refine zR.stored ?_); dsimp only [zsto, zclr, zset, zget, zc2, cond_false, cond_true]) | ((with_reducible refine zR.atLit ?_); first | refine zR.step rfl ?_ | refine zR.getf rfl (hb2 _) rfl ?_) | rw [zcc1] | rw [zcc2] | rw [zcc3] | rw [zcc4])
  refine zR.putf rfl (zup_self _ _ _) rfl rfl ?_
  rw [zup_up]
  repeat (first | ((with_reducible refine zR.stored ?_); dsimp only [zsto, zclr, zset, zget, zc2, cond_false, cond_true]) | ((with_reducible refine zR.atLit ?_); first | refine zR.step rfl ?_ | refine zR.getf rfl (hb2 _) rfl ?_) | rw [zcc1] | rw [zcc2] | rw [zcc3] | rw [zcc4])
  refine zR.putf rfl (zup_self _ _ _) rfl rfl ?_
  rw [zup_up]
  repeat (first | ((with_reducible refine zR.stored ?_); dsimp only [zsto, zclr, zset, zget, zc2, cond_false, cond_true]) | ((with_reducible refine zR.atLit ?_); first | refine zR.step rfl ?_ | refine zR.getf rfl (hb2 _) rfl ?_) | rw [zcc1] | rw [zcc2] | rw [zcc3] | rw [zcc4])
  refine zR.putf rfl (zup_self _ _ _) rfl rfl ?_
  rw [zup_up]
  repeat (first | ((with_reducible refine zR.stored ?_); dsimp only [zsto, zclr, zset, zget, zc2, cond_false, cond_true]) | ((with_reducible refine zR.atLit ?_); first | refine zR.step rfl ?_ | refine zR.getf rfl (hb2 _) rfl ?_) | rw [zcc1] | rw [zcc2] | rw [zcc3] | rw [zcc4])
  refine zR.putf rfl (zup_self _ _ _) f7 rfl ?_
  rw [zup_up]
  repeat (first | ((with_reducible refine zR.stored ?_); dsimp only [zsto, zclr, zset, zget, zc2, cond_false, cond_true]) | ((with_reducible refine zR.atLit ?_); first | refine zR.step rfl ?_ | refine zR.getf rfl (hb2 _) rfl ?_) | rw [zcc1] | rw [zcc2] | rw [zcc3] | rw [zcc4])
  refine zR.putf rfl (zup_self _ _ _) f8 rfl ?_
  rw [zup_up]
  repeat (first | ((with_reducible refine zR.stored ?_); dsimp only [zsto, zclr, zset, zget, zc2, cond_false, cond_true]) | ((with_reducible refine zR.atLit ?_); first | refine zR.step rfl ?_) | rw [zcc1] | rw [zcc2] | rw [zcc3] | rw [zcc4])
  exact zR.ret rfl rfl hQ
theorem c_Bed_copy_n {M : zM} {d n w a b : Nat} {ca : Nat} {z : Option Nat} {r q : Nat → Int32} (ha : M a = .inr (0, bof z r)) (hb : M b = .inr (0, bof none q)) (hab : b ≠ a) (h7 : q 7 = 0 ∨ q 7 = 1) (h8 : q 8 = 0 ∨ q 8 = 1) : zCall d 1 [.ref a, .ref b] n w M none n w (zup M a (.inr (0, bof none q))) := by
  intro Q hQ
  have f7 : zfit 1 (.int (q 7)) = true := by rcases h7 with h | h <;> rw [h] <;> rfl
  have f8 : zfit 1 (.int (q 8)) = true := by rcases h8 with h | h <;> rw [h] <;> rfl
  have hb2 : ∀ c, zup M a c b = .inr (0, bof none q) := fun c => (zup_ne _ _ hab).trans hb
  show zR ztb _ kX0_copyFrom 0 0 [some (.ref a), some (.ref b)] [] _ _ _ _
  repeat (first | ((with_reducible refine zR.stored ?_); dsimp only [zsto, zclr, zset, zget, zc2, cond_false, cond_true]) | ((with_reducible refine zR.atLit ?_); first | refine zR.step rfl ?_ | refine zR.getf rfl (hb) rfl ?_) | rw [zcc1] | rw [zcc2] | rw [zcc3] | rw [zcc4])
  refine zR.putf rfl ha rfl rfl ?_
  repeat (first | ((with_reducible refine zR.stored ?_); dsimp only [zsto, zclr, zset, zget, zc2, cond_false, cond_true]) | ((with_reducible refine zR.atLit ?_); first | refine zR.step rfl ?_ | refine zR.getf rfl (hb2 _) rfl ?_) | rw [zcc1] | rw [zcc2] | rw [zcc3] | rw [zcc4])
  refine zR.putf rfl (zup_self _ _ _) rfl rfl ?_
  rw [zup_up]
  repeat (first | ((with_reducible refine zR.stored ?_); dsimp only [zsto, zclr, zset, zget, zc2, cond_false, cond_true]) | ((with_reducible refine zR.atLit ?_); first | refine zR.step rfl ?_ | refine zR.getf rfl (hb2 _) rfl ?_) | rw [zcc1] | rw [zcc2] | rw [zcc3] | rw [zcc4])
  refine zR.putf rfl (zup_self _ _ _) rfl rfl ?_
  rw [zup_up]
  repeat (first | ((with_reducible refine zR.stored ?_); dsimp only [zsto, zclr, zset, zget, zc2, cond_false, cond_true]) | ((with_reducible refine zR.atLit ?_); first | refine zR.step rfl ?_ | refine zR.getf rfl (hb2 _) rfl ?_) | rw [zcc1] | rw [zcc2] | rw [zcc3] | rw [zcc4])
  refine zR.putf rfl (zup_self _ _ _) rfl rfl ?_
  rw [zup_up]
  repeat (first | ((with_reducible refine zR.stored ?_); dsimp only [zsto, zclr, zset, zget, zc2, cond_false, cond_true]) | ((with_reducible refine zR.atLit ?_); first | refine zR.step rfl ?_ | refine zR.getf rfl (hb2 _) rfl ?_) | rw [zcc1] | rw [zcc2] | rw [zcc3] | rw [zcc4])
  refine zR.putf rfl (zup_self _ _ _) rfl rfl ?_
  rw [zup_up]
  repeat (first | ((with_reducible refine zR.stored ?_); dsimp only [zsto, zclr, zset, zget, zc2, cond_false, cond_true]) | ((with_reducible refine zR.atLit ?_); first | refine zR.step rfl ?_ | refine zR.getf rfl (hb2 _) rfl ?_) | rw [zcc1] | rw [zcc2] | rw [zcc3] | rw [zcc4])
  refine zR.putf rfl (zup_self _ _ _) rfl rfl ?_
  rw [zup_up]
  repeat (first | ((with_reducible refine zR.stored ?_); dsimp only [zsto, zclr, zset, zget, zc2, cond_false, cond_true]) | ((with_reducible refine zR.atLit ?_); first | refine zR.step rfl ?_ | refine zR.getf rfl (hb2 _) rfl ?_) | rw [zcc1] | rw [zcc2] | rw [zcc3] | rw [zcc4])
  refine zR.putf rfl (zup_self _ _ _) rfl rfl ?_
  rw [zup_up]
  repeat (first | ((with_reducible refine zR.stored ?_); dsimp only [zsto, zclr, zset, zget, zc2, cond_false, cond_true]) | ((with_reducible refine zR.atLit ?_); first | refine zR.step rfl ?_ | refine zR.getf rfl (hb2 _) rfl ?_) | rw [zcc1] | rw [zcc2] | rw [zcc3] | rw [zcc4])
  refine zR.putf rfl (zup_self _ _ _) f7 rfl ?_
  rw [zup_up]
  repeat (first | ((with_reducible refine zR.stored ?_); dsimp only [zsto, zclr, zset, zget, zc2, cond_false, cond_true]) | ((with_reducible refine zR.atLit ?_); first | refine zR.step rfl ?_ | refine zR.getf rfl (hb2 _) rfl ?_) | rw [zcc1] | rw [zcc2] | rw [zcc3] | rw [zcc4])
  refine zR.putf rfl (zup_self _ _ _) f8 rfl ?_
  rw [zup_up]
  repeat (first | ((with_reducible refine zR.stored ?_); dsimp only [zsto, zclr, zset, zget, zc2, cond_false, cond_true]) | ((with_reducible refine zR.atLit ?_); first | refine zR.step rfl ?_) | rw [zcc1] | rw [zcc2] | rw [zcc3] | rw [zcc4])
  exact zR.ret rfl rfl hQ
theorem c_Bed_copy {M : zM} {d n w a b : Nat} {z y : Option Nat} {r q : Nat → Int32} (ha : M a = .inr (0, bof z r)) (hb : M b = .inr (0, bof y q)) (hab : b ≠ a) (h7 : q 7 = 0 ∨ q 7 = 1) (h8 : q 8 = 0 ∨ q 8 = 1) : zCall d 1 [.ref a, .ref b] n w M none n w (zup M a (.inr (0, bof y q))) := by
  cases y with
  | none => exact c_Bed_copy_n (ca := 0) ha hb hab h7 h8
  | some ca => exact c_Bed_copy_y ha hb hab h7 h8
theorem cpy_lt {f g : Nat → Int32} {m k : Nat} (h : k < m) : va_cpy f g 0 0 m k = f k := by
  unfold va_cpy
  rw [if_pos ⟨by omega, by omega⟩]
  exact congrArg f (by omega)
theorem c_House_copy {M : zM} {g g2 : Nat} {c c2 : mS} {kp bt kp2 bt2 : Nat → Option Nat} {la la2 : Nat} {d n w i : Nat} (hG : Gc M g c kp bt la) (hH : Gc M g2 c2 kp2 bt2 la2) (hgg : g + 76 ≤ g2 ∨ g2 + 76 ≤ g) (hi : i < 10) (h6 : c2 (30 + i) 6 = 0 ∨ c2 (30 + i) 6 = 1) : zCalP d 37 [.ref (g + 26 + 5 * i), .ref (g2 + 26 + 5 * i)] n w M (fun v n' w' M' => v = none ∧ n = n' ∧ w = w' ∧ (∃ x4 x5 x6 x7 : Nat → Int32, Gc M' g (zuf (zuf (zuf (zuf (zuf c (30 + i) (c2 (30 + i))) (40 + i) x4) (50 + i) x5) (60 + i) x6) (70 + i) x7) kp bt la ∧ (∀ k, k < 8 → x4 k = c2 (40 + i) k) ∧ (∀ k, k < 6 → x5 k = c2 (50 + i) k ∧ x6 k = c2 (60 + i) k ∧ x7 k = c2 (70 + i) k)) ∧ ∀ k, k < g ∨ g + 76 ≤ k → M' k = M k) := by
  have f6 : zfit 1 (.int (c2 (30 + i) 6)) = true := by rcases h6 with h | h <;> rw [h] <;> rfl
  have hb := hH.h0 hi
  have hb2 : ∀ c, zup M (g + 26 + 5 * i) c (g2 + 26 + 5 * i) = .inr (3, hof (g2 + 26 + 5 * i) (c2 (30 + i))) := fun c => (zup_ne _ _ (by omega)).trans hb
  show zR ztb _ kX3_copyFrom 0 0 [some (.ref (g + 26 + 5 * i)), some (.ref (g2 + 26 + 5 * i))] [] _ _ _ _
  repeat (first | ((with_reducible refine zR.stored ?_); dsimp only [zsto, zclr, zset, zget, zc2, cond_false, cond_true]) | ((with_reducible refine zR.atLit ?_); first | refine zR.step rfl ?_ | refine zR.getf rfl (hb) rfl ?_) | rw [zcc1] | rw [zcc2] | rw [zcc3] | rw [zcc4])
  refine zR.putf rfl (hG.h0 hi) rfl rfl ?_
  repeat (first | ((with_reducible refine zR.stored ?_); dsimp only [zsto, zclr, zset, zget, zc2, cond_false, cond_true]) | ((with_reducible refine zR.atLit ?_); first | refine zR.step rfl ?_ | refine zR.getf rfl (hb2 _) rfl ?_) | rw [zcc1] | rw [zcc2] | rw [zcc3] | rw [zcc4])
  refine zR.putf rfl (zup_self _ _ _) rfl rfl ?_
  rw [zup_up]
  repeat (first | ((with_reducible refine zR.stored ?_); dsimp only [zsto, zclr, zset, zget, zc2, cond_false, cond_true]) | ((with_reducible refine zR.atLit ?_); first | refine zR.step rfl ?_ | refine zR.getf rfl (hb2 _) rfl ?_) | rw [zcc1] | rw [zcc2] | rw [zcc3] | rw [zcc4])
  refine zR.putf rfl (zup_self _ _ _) rfl rfl ?_
  rw [zup_up]
  repeat (first | ((with_reducible refine zR.stored ?_); dsimp only [zsto, zclr, zset, zget, zc2, cond_false, cond_true]) | ((with_reducible refine zR.atLit ?_); first | refine zR.step rfl ?_ | refine zR.getf rfl (hb2 _) rfl ?_) | rw [zcc1] | rw [zcc2] | rw [zcc3] | rw [zcc4])
  refine zR.putf rfl (zup_self _ _ _) rfl rfl ?_
  rw [zup_up]
  repeat (first | ((with_reducible refine zR.stored ?_); dsimp only [zsto, zclr, zset, zget, zc2, cond_false, cond_true]) | ((with_reducible refine zR.atLit ?_); first | refine zR.step rfl ?_ | refine zR.getf rfl (hb2 _) rfl ?_) | rw [zcc1] | rw [zcc2] | rw [zcc3] | rw [zcc4])
  refine zR.putf rfl (zup_self _ _ _) rfl rfl ?_
  rw [zup_up]
  repeat (first | ((with_reducible refine zR.stored ?_); dsimp only [zsto, zclr, zset, zget, zc2, cond_false, cond_true]) | ((with_reducible refine zR.atLit ?_); first | refine zR.step rfl ?_ | refine zR.getf rfl (hb2 _) rfl ?_) | rw [zcc1] | rw [zcc2] | rw [zcc3] | rw [zcc4])
  refine zR.putf rfl (zup_self _ _ _) rfl rfl ?_
  rw [zup_up]
  repeat (first | ((with_reducible refine zR.stored ?_); dsimp only [zsto, zclr, zset, zget, zc2, cond_false, cond_true]) | ((with_reducible refine zR.atLit ?_); first | refine zR.step rfl ?_ | refine zR.getf rfl (hb2 _) rfl ?_) | rw [zcc1] | rw [zcc2] | rw [zcc3] | rw [zcc4])
  refine zR.putf rfl (zup_self _ _ _) f6 rfl ?_
  rw [zup_up]
  have hG1 := hG.upH hi (c2 (30 + i))
  replace hH := hH.out (a := g + 26 + 5 * i) (x := .inr (3, hof (g + 26 + 5 * i) (c2 (30 + i)))) (by omega)
  repeat (first | ((with_reducible refine zR.stored ?_); dsimp only [zsto, zclr, zset, zget, zc2, cond_false, cond_true]) | ((with_reducible refine zR.atLit ?_); first | refine zR.step rfl ?_ | refine zR.getf rfl (hG1.h0 hi) rfl ?_ | refine zR.getf rfl (hH.h0 hi) rfl ?_) | rw [zcc1] | rw [zcc2] | rw [zcc3] | rw [zcc4])
  refine zR.acpy rfl (hH.h1 hi) (hG1.h1 hi) (i := 0) (j := 0) (m := 8) rfl rfl rfl (by omega) (by omega) (by omega) (by omega) rfl ?_
  generalize e1 : va_cpy (c2 (40 + i)) ((zuf c (30 + i) (c2 (30 + i))) (40 + i)) 0 0 8 = x1
  have hx1 : ∀ k, k < 8 → x1 k = c2 (40 + i) k := fun k hk => by rw [← e1]; exact cpy_lt hk
  replace hG1 := hG1.upH1 hi x1
  replace hH := hH.out (a := g + 26 + 5 * i + 1) (x := .inl (0, 8, .inl x1)) (by omega)
  repeat (first | ((with_reducible refine zR.stored ?_); dsimp only [zsto, zclr, zset, zget, zc2, cond_false, cond_true]) | ((with_reducible refine zR.atLit ?_); first | refine zR.step rfl ?_ | refine zR.getf rfl (hG1.h0 hi) rfl ?_ | refine zR.getf rfl (hH.h0 hi) rfl ?_) | rw [zcc1] | rw [zcc2] | rw [zcc3] | rw [zcc4])
  refine zR.acpy rfl (hH.h2 hi) (hG1.h2 hi) (i := 0) (j := 0) (m := 6) rfl rfl rfl (by omega) (by omega) (by omega) (by omega) rfl ?_
  generalize e2 : va_cpy (c2 (50 + i)) ((zuf (zuf c (30 + i) (c2 (30 + i))) (40 + i) x1) (50 + i)) 0 0 6 = x2
  have hx2 : ∀ k, k < 6 → x2 k = c2 (50 + i) k := fun k hk => by rw [← e2]; exact cpy_lt hk
  replace hG1 := hG1.upH2 hi x2
  replace hH := hH.out (a := g + 26 + 5 * i + 2) (x := .inl (0, 6, .inl x2)) (by omega)
  repeat (first | ((with_reducible refine zR.stored ?_); dsimp only [zsto, zclr, zset, zget, zc2, cond_false, cond_true]) | ((with_reducible refine zR.atLit ?_); first | refine zR.step rfl ?_ | refine zR.getf rfl (hG1.h0 hi) rfl ?_ | refine zR.getf rfl (hH.h0 hi) rfl ?_) | rw [zcc1] | rw [zcc2] | rw [zcc3] | rw [zcc4])
  refine zR.acpy rfl (hH.h3 hi) (hG1.h3 hi) (i := 0) (j := 0) (m := 6) rfl rfl rfl (by omega) (by omega) (by omega) (by omega) rfl ?_
  generalize e3 : va_cpy (c2 (60 + i)) ((zuf (zuf (zuf c (30 + i) (c2 (30 + i))) (40 + i) x1) (50 + i) x2) (60 + i)) 0 0 6 = x3
  have hx3 : ∀ k, k < 6 → x3 k = c2 (60 + i) k := fun k hk => by rw [← e3]; exact cpy_lt hk
  replace hG1 := hG1.upH3 hi x3
  replace hH := hH.out (a := g + 26 + 5 * i + 3) (x := .inl (0, 6, .inl x3)) (by omega)
  repeat (first | ((with_reducible refine zR.stored ?_); dsimp only [zsto, zclr, zset, zget, zc2, cond_false, cond_true]) | ((with_reducible refine zR.atLit ?_); first | refine zR.step rfl ?_ | refine zR.getf rfl (hG1.h0 hi) rfl ?_ | refine zR.getf rfl (hH.h0 hi) rfl ?_) | rw [zcc1] | rw [zcc2] | rw [zcc3] | rw [zcc4])
  refine zR.acpy rfl (hH.h4 hi) (hG1.h4 hi) (i := 0) (j := 0) (m := 6) rfl rfl rfl (by omega) (by omega) (by omega) (by omega) rfl ?_
  generalize e4 : va_cpy (c2 (70 + i)) ((zuf (zuf (zuf (zuf c (30 + i) (c2 (30 + i))) (40 + i) x1) (50 + i) x2) (60 + i) x3) (70 + i)) 0 0 6 = x4
  have hx4 : ∀ k, k < 6 → x4 k = c2 (70 + i) k := fun k hk => by rw [← e4]; exact cpy_lt hk
  replace hG1 := hG1.upH4 hi x4
  repeat (first | ((with_reducible refine zR.stored ?_); dsimp only [zsto, zclr, zset, zget, zc2, cond_false, cond_true]) | ((with_reducible refine zR.atLit ?_); first | refine zR.step rfl ?_) | rw [zcc1] | rw [zcc2] | rw [zcc3] | rw [zcc4])
  refine zR.ret rfl rfl ⟨rfl, rfl, rfl, ⟨x1, x2, x3, x4, hG1, hx1, fun k hk => ⟨hx2 k hk, hx3 k hk, hx4 k hk⟩⟩, fun k hk => ?_⟩
  rw [zup_ne _ _ (by omega), zup_ne _ _ (by omega), zup_ne _ _ (by omega), zup_ne _ _ (by omega), zup_ne _ _ (by omega)]
theorem c_Lots_copy {M : zM} {g g2 : Nat} {c c2 : mS} {kp bt kp2 bt2 : Nat → Option Nat} {la la2 : Nat} {d n w l : Nat} (hG : Gc M g c kp bt la) (hH : Gc M g2 c2 kp2 bt2 la2) (hgg : g + 76 ≤ g2 ∨ g2 + 76 ≤ g) (h4 : c2 0 4 = nI l) (hl : l ≤ 240) : zCalP d 55 [.ref (g + 4), .ref (g2 + 4)] n w M (fun v n' w' M' => v = none ∧ n = n' ∧ w = w' ∧ (∃ x1 x2 x3 x4 x5 x6 : Nat → Int32, Gc M' g (zuf (zuf (zuf (zuf (zuf (zuf (zuf c 0 (zuf (c 0) 4 (nI l))) 1 x1) 2 x2) 3 x3) 4 x4) 5 x5) 6 x6) kp bt la ∧ ∀ k, k < l → x1 k = c2 1 k ∧ x2 k = c2 2 k ∧ x3 k = c2 3 k ∧ x4 k = c2 4 k ∧ x5 k = c2 5 k ∧ x6 k = c2 6 k) ∧ ∀ k, k < g ∨ g + 76 ≤ k → M' k = M k) := by
  show zR ztb _ kX6_copyFrom 0 0 [some (.ref (g + 4)), some (.ref (g2 + 4))] [] _ _ _ _
  have hb := hH.lo
  rw [h4] at hb
  repeat (first | ((with_reducible refine zR.stored ?_); dsimp only [zsto, zclr, zset, zget, zc2, cond_false, cond_true]) | ((with_reducible refine zR.atLit ?_); first | refine zR.step rfl ?_ | refine zR.getf rfl (hb) rfl ?_) | rw [zcc1] | rw [zcc2] | rw [zcc3] | rw [zcc4])
  refine zR.putf rfl hG.lo rfl rfl ?_
  have hG1 := hG.upLo (nI l)
  replace hH := hH.out (a := g + 4) (x := .inr (6, lob g (nI l))) (by omega)
  repeat (first | ((with_reducible refine zR.stored ?_); dsimp only [zsto, zclr, zset, zget, zc2, cond_false, cond_true]) | ((with_reducible refine zR.atLit ?_); first | refine zR.step rfl ?_ | refine zR.getf rfl (hG1.lo) rfl ?_ | refine zR.getf rfl (hH.lo) rfl ?_) | rw [zcc1] | rw [zcc2] | rw [zcc3] | rw [zcc4])
  refine zR.acpy rfl hH.l0 hG1.l0 (i := 0) (j := 0) (m := l) rfl rfl rfl (by omega) (by omega) (by omega) (by omega) rfl ?_
  generalize e1 : va_cpy (c2 1) ((zuf c 0 (zuf (c 0) 4 (nI l))) 1) 0 0 l = x1
  have hx1 : ∀ k, k < l → x1 k = c2 1 k := fun k hk => by rw [← e1]; exact cpy_lt hk
  replace hG1 := hG1.upL (j := 0) (by omega) x1
  replace hH := hH.out (a := g + 5 + 0) (x := .inl (0, 240, .inl x1)) (by omega)
  repeat (first | ((with_reducible refine zR.stored ?_); dsimp only [zsto, zclr, zset, zget, zc2, cond_false, cond_true]) | ((with_reducible refine zR.atLit ?_); first | refine zR.step rfl ?_ | refine zR.getf rfl (hG1.lo) rfl ?_ | refine zR.getf rfl (hH.lo) rfl ?_) | rw [zcc1] | rw [zcc2] | rw [zcc3] | rw [zcc4])
  refine zR.acpy rfl hH.l1 hG1.l1 (i := 0) (j := 0) (m := l) rfl rfl rfl (by omega) (by omega) (by omega) (by omega) rfl ?_
  generalize e2 : va_cpy (c2 2) ((zuf (zuf c 0 (zuf (c 0) 4 (nI l))) 1 x1) 2) 0 0 l = x2
  have hx2 : ∀ k, k < l → x2 k = c2 2 k := fun k hk => by rw [← e2]; exact cpy_lt hk
  replace hG1 := hG1.upL (j := 1) (by omega) x2
  replace hH := hH.out (a := g + 5 + 1) (x := .inl (0, 240, .inl x2)) (by omega)
  repeat (first | ((with_reducible refine zR.stored ?_); dsimp only [zsto, zclr, zset, zget, zc2, cond_false, cond_true]) | ((with_reducible refine zR.atLit ?_); first | refine zR.step rfl ?_ | refine zR.getf rfl (hG1.lo) rfl ?_ | refine zR.getf rfl (hH.lo) rfl ?_) | rw [zcc1] | rw [zcc2] | rw [zcc3] | rw [zcc4])
  refine zR.acpy rfl hH.l2 hG1.l2 (i := 0) (j := 0) (m := l) rfl rfl rfl (by omega) (by omega) (by omega) (by omega) rfl ?_
  generalize e3 : va_cpy (c2 3) ((zuf (zuf (zuf c 0 (zuf (c 0) 4 (nI l))) 1 x1) 2 x2) 3) 0 0 l = x3
  have hx3 : ∀ k, k < l → x3 k = c2 3 k := fun k hk => by rw [← e3]; exact cpy_lt hk
  replace hG1 := hG1.upL (j := 2) (by omega) x3
  replace hH := hH.out (a := g + 5 + 2) (x := .inl (0, 240, .inl x3)) (by omega)
  repeat (first | ((with_reducible refine zR.stored ?_); dsimp only [zsto, zclr, zset, zget, zc2, cond_false, cond_true]) | ((with_reducible refine zR.atLit ?_); first | refine zR.step rfl ?_ | refine zR.getf rfl (hG1.lo) rfl ?_ | refine zR.getf rfl (hH.lo) rfl ?_) | rw [zcc1] | rw [zcc2] | rw [zcc3] | rw [zcc4])
  refine zR.acpy rfl hH.l3 hG1.l3 (i := 0) (j := 0) (m := l) rfl rfl rfl (by omega) (by omega) (by omega) (by omega) rfl ?_
  generalize e4 : va_cpy (c2 4) ((zuf (zuf (zuf (zuf c 0 (zuf (c 0) 4 (nI l))) 1 x1) 2 x2) 3 x3) 4) 0 0 l = x4
  have hx4 : ∀ k, k < l → x4 k = c2 4 k := fun k hk => by rw [← e4]; exact cpy_lt hk
  replace hG1 := hG1.upL (j := 3) (by omega) x4
  replace hH := hH.out (a := g + 5 + 3) (x := .inl (0, 240, .inl x4)) (by omega)
  repeat (first | ((with_reducible refine zR.stored ?_); dsimp only [zsto, zclr, zset, zget, zc2, cond_false, cond_true]) | ((with_reducible refine zR.atLit ?_); first | refine zR.step rfl ?_ | refine zR.getf rfl (hG1.lo) rfl ?_ | refine zR.getf rfl (hH.lo) rfl ?_) | rw [zcc1] | rw [zcc2] | rw [zcc3] | rw [zcc4])
  refine zR.acpy rfl hH.l4 hG1.l4 (i := 0) (j := 0) (m := l) rfl rfl rfl (by omega) (by omega) (by omega) (by omega) rfl ?_
  generalize e5 : va_cpy (c2 5) ((zuf (zuf (zuf (zuf (zuf c 0 (zuf (c 0) 4 (nI l))) 1 x1) 2 x2) 3 x3) 4 x4) 5) 0 0 l = x5
  have hx5 : ∀ k, k < l → x5 k = c2 5 k := fun k hk => by rw [← e5]; exact cpy_lt hk
  replace hG1 := hG1.upL (j := 4) (by omega) x5
  replace hH := hH.out (a := g + 5 + 4) (x := .inl (0, 240, .inl x5)) (by omega)
  repeat (first | ((with_reducible refine zR.stored ?_); dsimp only [zsto, zclr, zset, zget, zc2, cond_false, cond_true]) | ((with_reducible refine zR.atLit ?_); first | refine zR.step rfl ?_ | refine zR.getf rfl (hG1.lo) rfl ?_ | refine zR.getf rfl (hH.lo) rfl ?_) | rw [zcc1] | rw [zcc2] | rw [zcc3] | rw [zcc4])
  refine zR.acpy rfl hH.l5 hG1.l5 (i := 0) (j := 0) (m := l) rfl rfl rfl (by omega) (by omega) (by omega) (by omega) rfl ?_
  generalize e6 : va_cpy (c2 6) ((zuf (zuf (zuf (zuf (zuf (zuf c 0 (zuf (c 0) 4 (nI l))) 1 x1) 2 x2) 3 x3) 4 x4) 5 x5) 6) 0 0 l = x6
  have hx6 : ∀ k, k < l → x6 k = c2 6 k := fun k hk => by rw [← e6]; exact cpy_lt hk
  replace hG1 := hG1.upL (j := 5) (by omega) x6
  repeat (first | ((with_reducible refine zR.stored ?_); dsimp only [zsto, zclr, zset, zget, zc2, cond_false, cond_true]) | ((with_reducible refine zR.atLit ?_); first | refine zR.step rfl ?_) | rw [zcc1] | rw [zcc2] | rw [zcc3] | rw [zcc4])
  refine zR.ret rfl rfl ⟨rfl, rfl, rfl, ⟨x1, x2, x3, x4, x5, x6, hG1, fun k hk => ⟨hx1 k hk, hx2 k hk, hx3 k hk, hx4 k hk, hx5 k hk, hx6 k hk⟩⟩, fun k hk => ?_⟩
  rw [zup_ne _ _ (by omega), zup_ne _ _ (by omega), zup_ne _ _ (by omega), zup_ne _ _ (by omega), zup_ne _ _ (by omega), zup_ne _ _ (by omega), zup_ne _ _ (by omega)]
