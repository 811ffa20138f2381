
/-! crop. -/
theorem c_lastOf {M : zM} {d n w : Nat} (x : Int32) : zCall d 126 [.int x] n w M (some (.int (x &&& 15))) n w M := by
  intro Q hQ
  show zR ztb _ kX11_lastOf 1 0 [some (.int x)] [] _ _ _ _
  repeat (first | rw [zcc1] | rw [zcc2] | rw [zcc3] | rw [zcc4] | refine zR.step rfl ?_)
  exact zR.ret rfl rfl hQ
theorem c_keepOf {M : zM} {d n w : Nat} (x : Int32) : zCall d 127 [.int x] n w M (some (.int (x >>> (4 &&& 31) &&& 15))) n w M := by
  intro Q hQ
  show zR ztb _ kX11_keepOf 1 0 [some (.int x)] [] _ _ _ _
  repeat (first | rw [zcc1] | rw [zcc2] | rw [zcc3] | rw [zcc4] | refine zR.step rfl ?_)
  exact zR.ret rfl rfl hQ
theorem c_worthOf {M : zM} {d n w : Nat} (x : Int32) : zCall d 128 [.int x] n w M (some (.int (x >>> (8 &&& 31)))) n w M := by
  intro Q hQ
  show zR ztb _ kX11_worthOf 1 0 [some (.int x)] [] _ _ _ _
  repeat (first | rw [zcc1] | rw [zcc2] | rw [zcc3] | rw [zcc4] | refine zR.step rfl ?_)
  exact zR.ret rfl rfl hQ
theorem c_Crop_init {M : zM} {d n w a : Nat} (hM : M a = .inr (1, zdef 1)) (p q r u v : Int32) : zCall (d + 1) 8 [.ref a, .int p, .int q, .int r, .int u, .int v] n w M none n w (zup M a (.inr (1, [.int p, .int q, .int r, .int u, .int (v &&& 15), .int (v >>> (4 &&& 31) &&& 15), .int (v >>> (8 &&& 31))]))) := by
  intro Q hQ
  show zR ztb _ kX1_init 0 0 [some (.ref a), some (.int p), some (.int q), some (.int r), some (.int u), some (.int v)] [] _ _ _ _
  repeat (first | rw [zcc1] | rw [zcc2] | rw [zcc3] | rw [zcc4] | refine zR.step rfl ?_)
  refine zR.putf rfl hM rfl rfl ?_
  repeat (first | rw [zcc1] | rw [zcc2] | rw [zcc3] | rw [zcc4] | refine zR.step rfl ?_ | refine zR.cs rfl rfl rfl rfl rfl (zCalP.of (c_lastOf _) ?_) | refine zR.cs rfl rfl rfl rfl rfl (zCalP.of (c_keepOf _) ?_) | refine zR.cs rfl rfl rfl rfl rfl (zCalP.of (c_worthOf _) ?_))
  refine zR.putf rfl (zup_self _ _ _) rfl rfl ?_
  rw [zup_up]
  repeat (first | rw [zcc1] | rw [zcc2] | rw [zcc3] | rw [zcc4] | refine zR.step rfl ?_ | refine zR.cs rfl rfl rfl rfl rfl (zCalP.of (c_lastOf _) ?_) | refine zR.cs rfl rfl rfl rfl rfl (zCalP.of (c_keepOf _) ?_) | refine zR.cs rfl rfl rfl rfl rfl (zCalP.of (c_worthOf _) ?_))
  refine zR.putf rfl (zup_self _ _ _) rfl rfl ?_
  rw [zup_up]
  repeat (first | rw [zcc1] | rw [zcc2] | rw [zcc3] | rw [zcc4] | refine zR.step rfl ?_ | refine zR.cs rfl rfl rfl rfl rfl (zCalP.of (c_lastOf _) ?_) | refine zR.cs rfl rfl rfl rfl rfl (zCalP.of (c_keepOf _) ?_) | refine zR.cs rfl rfl rfl rfl rfl (zCalP.of (c_worthOf _) ?_))
  refine zR.putf rfl (zup_self _ _ _) rfl rfl ?_
  rw [zup_up]
  repeat (first | rw [zcc1] | rw [zcc2] | rw [zcc3] | rw [zcc4] | refine zR.step rfl ?_ | refine zR.cs rfl rfl rfl rfl rfl (zCalP.of (c_lastOf _) ?_) | refine zR.cs rfl rfl rfl rfl rfl (zCalP.of (c_keepOf _) ?_) | refine zR.cs rfl rfl rfl rfl rfl (zCalP.of (c_worthOf _) ?_))
  refine zR.putf rfl (zup_self _ _ _) rfl rfl ?_
  rw [zup_up]
  repeat (first | rw [zcc1] | rw [zcc2] | rw [zcc3] | rw [zcc4] | refine zR.step rfl ?_ | refine zR.cs rfl rfl rfl rfl rfl (zCalP.of (c_lastOf _) ?_) | refine zR.cs rfl rfl rfl rfl rfl (zCalP.of (c_keepOf _) ?_) | refine zR.cs rfl rfl rfl rfl rfl (zCalP.of (c_worthOf _) ?_))
  refine zR.putf rfl (zup_self _ _ _) rfl rfl ?_
  rw [zup_up]
  repeat (first | rw [zcc1] | rw [zcc2] | rw [zcc3] | rw [zcc4] | refine zR.step rfl ?_ | refine zR.cs rfl rfl rfl rfl rfl (zCalP.of (c_lastOf _) ?_) | refine zR.cs rfl rfl rfl rfl rfl (zCalP.of (c_keepOf _) ?_) | refine zR.cs rfl rfl rfl rfl rfl (zCalP.of (c_worthOf _) ?_))
  refine zR.putf rfl (zup_self _ _ _) rfl rfl ?_
  rw [zup_up]
  repeat (first | rw [zcc1] | rw [zcc2] | rw [zcc3] | rw [zcc4] | refine zR.step rfl ?_)
  exact zR.ret rfl rfl hQ
