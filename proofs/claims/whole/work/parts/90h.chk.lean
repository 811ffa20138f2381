/-! THE TABLES KEEP THE RULES: the law (method 238), in pieces. -/
theorem zl_0 : (List.range 120).all (fun i => zchk zin1 ztb 238 238 (0 + i) (kL_law (0 + i))) = true := by decide +kernel
theorem zl_1 : (List.range 120).all (fun i => zchk zin1 ztb 238 238 (120 + i) (kL_law (120 + i))) = true := by decide +kernel
theorem zl_2 : (List.range 120).all (fun i => zchk zin1 ztb 238 238 (240 + i) (kL_law (240 + i))) = true := by decide +kernel
theorem zl_3 : (List.range 120).all (fun i => zchk zin1 ztb 238 238 (360 + i) (kL_law (360 + i))) = true := by decide +kernel
theorem zl_4 : (List.range 120).all (fun i => zchk zin1 ztb 238 238 (480 + i) (kL_law (480 + i))) = true := by decide +kernel
theorem zl_5 : (List.range 120).all (fun i => zchk zin1 ztb 238 238 (600 + i) (kL_law (600 + i))) = true := by decide +kernel
theorem zl_6 : (List.range 120).all (fun i => zchk zin1 ztb 238 238 (720 + i) (kL_law (720 + i))) = true := by decide +kernel
theorem zl_7 : (List.range 120).all (fun i => zchk zin1 ztb 238 238 (840 + i) (kL_law (840 + i))) = true := by decide +kernel
theorem zl_8 : (List.range 120).all (fun i => zchk zin1 ztb 238 238 (960 + i) (kL_law (960 + i))) = true := by decide +kernel
theorem zl_9 : (List.range 120).all (fun i => zchk zin1 ztb 238 238 (1080 + i) (kL_law (1080 + i))) = true := by decide +kernel
theorem zl_10 : (List.range 23).all (fun i => zchk zin1 ztb 238 238 (1200 + i) (kL_law (1200 + i))) = true := by decide +kernel
theorem zl_at {pc : Nat} (a n : Nat) (h : (List.range n).all (fun i => zchk zin1 ztb 238 238 (a + i) (kL_law (a + i))) = true) (h1 : a ≤ pc) (h2 : pc < a + n) : zchk zin1 ztb 238 238 pc (kL_law pc) = true := by
  have g : zchk zin1 ztb 238 238 (a + (pc - a)) (kL_law (a + (pc - a))) = true := List.all_eq_true.mp h (pc - a) (List.mem_range.mpr (by omega))
  rw [show a + (pc - a) = pc by omega] at g
  exact g
theorem zc_238 : (List.range 1223).all (fun pc => zchk zin1 ztb 238 238 pc (kL_law pc)) = true := by
  refine List.all_eq_true.mpr (fun pc hp => ?_)
  have hp := List.mem_range.mp hp
  by_cases c0 : pc < 120
  · exact zl_at 0 120 zl_0 (by omega) (by omega)
  by_cases c1 : pc < 240
  · exact zl_at 120 120 zl_1 (by omega) (by omega)
  by_cases c2 : pc < 360
  · exact zl_at 240 120 zl_2 (by omega) (by omega)
  by_cases c3 : pc < 480
  · exact zl_at 360 120 zl_3 (by omega) (by omega)
  by_cases c4 : pc < 600
  · exact zl_at 480 120 zl_4 (by omega) (by omega)
  by_cases c5 : pc < 720
  · exact zl_at 600 120 zl_5 (by omega) (by omega)
  by_cases c6 : pc < 840
  · exact zl_at 720 120 zl_6 (by omega) (by omega)
  by_cases c7 : pc < 960
  · exact zl_at 840 120 zl_7 (by omega) (by omega)
  by_cases c8 : pc < 1080
  · exact zl_at 960 120 zl_8 (by omega) (by omega)
  by_cases c9 : pc < 1200
  · exact zl_at 1080 120 zl_9 (by omega) (by omega)
  exact zl_at 1200 23 zl_10 (by omega) (by omega)
