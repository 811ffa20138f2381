
theorem zcc1 {t f : Nat} : zbc .eq 1 0 t f = f := rfl
theorem zcc2 {t f : Nat} : zbc .eq 0 0 t f = t := rfl
theorem zcc3 {t f : Nat} : zbc .ne 1 0 t f = t := rfl
theorem zcc4 {t f : Nat} : zbc .ne 0 0 t f = f := rfl
/-! BETWEEN TWO NUMBERS; THE CELLS OF A GARDEN BY NAME; SMALL METHODS. -/
theorem zI_of {a : Int32} (h : 0 ≤ a.toInt) : a = nI a.toInt.toNat := by
  have h2 := Int32.toInt_lt a
  apply Int32.toInt_inj.mp
  rw [nI_toInt (by omega)]
  omega
theorem inI_nat (a : Int32) (lo hi : Nat) (hl : lo < 2 ^ 31) (hh : hi < 2 ^ 31) : (∃ i, lo ≤ i ∧ i ≤ hi ∧ a = nI i ∧ inI a (nI lo) (nI hi) = 1) ∨ ((∀ i, lo ≤ i → i ≤ hi → a ≠ nI i) ∧ inI a (nI lo) (nI hi) = 0) := by
  by_cases h : (lo : Int) ≤ a.toInt ∧ a.toInt ≤ hi
  · refine Or.inl ⟨a.toInt.toNat, by omega, by omega, zI_of (by omega), ?_⟩
    unfold inI
    rw [if_neg, if_neg]
    · rw [Int32.lt_iff_toInt_lt, nI_toInt hh]; omega
    · rw [Int32.lt_iff_toInt_lt, nI_toInt hl]; omega
  · refine Or.inr ⟨fun i h1 h2 e => h ?_, ?_⟩
    · rw [e, nI_toInt (by omega)]
      omega
    · unfold inI
      by_cases q : a < nI lo
      · rw [if_pos q]
      · rw [if_neg q, if_pos]
        rw [Int32.lt_iff_toInt_lt, nI_toInt hl] at q
        rw [Int32.lt_iff_toInt_lt, nI_toInt hh]
        omega
theorem zI_pred {m : Nat} (h : 0 < m) (h2 : m < 2 ^ 31) : nI m - 1 = nI (m - 1) := by
  apply Int32.toInt_inj.mp
  rw [Int32.toInt_sub, nI_toInt h2, nI_toInt (by omega), show (1 : Int32).toInt = 1 by decide, Int.bmod_eq_of_le (by omega) (by omega)]
  omega
theorem inI_sub (a : Int32) (m : Nat) (hm : m < 2 ^ 31) : (∃ i, i < m ∧ a = nI i ∧ inI a 0 (nI m - 1) = 1) ∨ ((∀ i, i < m → a ≠ nI i) ∧ inI a 0 (nI m - 1) = 0) := by
  rcases Nat.eq_zero_or_pos m with h | h
  · subst h
    refine Or.inr ⟨fun i hi => by omega, ?_⟩
    unfold inI
    by_cases q : a < 0
    · rw [if_pos q]
    · rw [if_neg q, if_pos]
      rw [Int32.lt_iff_toInt_lt, show (0 : Int32).toInt = 0 by decide] at q
      rw [Int32.lt_iff_toInt_lt, show (nI 0 - 1).toInt = -1 by decide]
      omega
  · rw [zI_pred h hm]
    rcases inI_nat a 0 (m - 1) (by omega) (by omega) with ⟨i, -, h2, h3, h4⟩ | ⟨h1, h2⟩
    · exact Or.inl ⟨i, by omega, h3, h4⟩
    · exact Or.inr ⟨fun i hi => h1 i (by omega) (by omega), h2⟩
theorem inI_y {i lo hi : Nat} (h1 : lo ≤ i) (h2 : i ≤ hi) (h3 : hi < 2 ^ 31) : inI (nI i) (nI lo) (nI hi) = 1 := by
  unfold inI
  rw [if_neg (by rw [zn_lt (by omega) (by omega)]; omega), if_neg (by rw [zn_lt (by omega) (by omega)]; omega)]
theorem inI_z {i lo hi : Nat} (h1 : i < lo ∨ hi < i) (h2 : i < 2 ^ 31) (h3 : hi < 2 ^ 31) (h4 : lo < 2 ^ 31) : inI (nI i) (nI lo) (nI hi) = 0 := by
  unfold inI
  by_cases q : i < lo
  · rw [if_pos (by rw [zn_lt (by omega) (by omega)]; omega)]
  · rw [if_neg (by rw [zn_lt (by omega) (by omega)]; omega), if_pos (by rw [zn_lt (by omega) (by omega)]; omega)]
section
variable {M : zM} {g : Nat} {c : mS} {kp bt : Nat → Option Nat} {la : Nat}
theorem Gc.o (h : Gc M g c kp bt la) : M g = .inr (2, gob g la (c 0 0) (c 0 1) (c 0 2) (c 0 3)) := h.1
theorem Gc.kr (h : Gc M g c kp bt la) : M (g + 1) = .inl (3, 8, .inr kp) := h.2.1
theorem Gc.br (h : Gc M g c kp bt la) : M (g + 2) = .inl (4, 8, .inr (brow g)) := h.2.2.1
theorem Gc.hr (h : Gc M g c kp bt la) : M (g + 3) = .inl (5, 10, .inr (hrow g)) := h.2.2.2.1
theorem Gc.lo (h : Gc M g c kp bt la) : M (g + 4) = .inr (6, lob g (c 0 4)) := h.2.2.2.2.1
theorem Gc.l0 (h : Gc M g c kp bt la) : M (g + 5) = .inl (0, 240, .inl (c 1)) := h.2.2.2.2.2.1 0 (by omega)
theorem Gc.l1 (h : Gc M g c kp bt la) : M (g + 6) = .inl (0, 240, .inl (c 2)) := h.2.2.2.2.2.1 1 (by omega)
theorem Gc.l2 (h : Gc M g c kp bt la) : M (g + 7) = .inl (0, 240, .inl (c 3)) := h.2.2.2.2.2.1 2 (by omega)
theorem Gc.l3 (h : Gc M g c kp bt la) : M (g + 8) = .inl (0, 240, .inl (c 4)) := h.2.2.2.2.2.1 3 (by omega)
theorem Gc.l4 (h : Gc M g c kp bt la) : M (g + 9) = .inl (0, 240, .inl (c 5)) := h.2.2.2.2.2.1 4 (by omega)
theorem Gc.l5 (h : Gc M g c kp bt la) : M (g + 10) = .inl (0, 240, .inl (c 6)) := h.2.2.2.2.2.1 5 (by omega)
theorem Gc.wr (h : Gc M g c kp bt la) : M (g + 11) = .inl (0, 30, .inl (c 7)) := h.2.2.2.2.2.2.1
theorem Gc.s0 (h : Gc M g c kp bt la) : M (g + 12) = .inl (0, 8, .inl (c 8)) := h.2.2.2.2.2.2.2.1 0 (by omega)
theorem Gc.s1 (h : Gc M g c kp bt la) : M (g + 13) = .inl (0, 8, .inl (c 9)) := h.2.2.2.2.2.2.2.1 1 (by omega)
theorem Gc.s2 (h : Gc M g c kp bt la) : M (g + 14) = .inl (0, 8, .inl (c 10)) := h.2.2.2.2.2.2.2.1 2 (by omega)
theorem Gc.s3 (h : Gc M g c kp bt la) : M (g + 15) = .inl (0, 8, .inl (c 11)) := h.2.2.2.2.2.2.2.1 3 (by omega)
theorem Gc.s4 (h : Gc M g c kp bt la) : M (g + 16) = .inl (0, 8, .inl (c 12)) := h.2.2.2.2.2.2.2.1 4 (by omega)
theorem Gc.su (h : Gc M g c kp bt la) : M (g + 17) = .inl (0, 4, .inl (c 13)) := h.2.2.2.2.2.2.2.2.1
theorem Gc.b (h : Gc M g c kp bt la) {i : Nat} (hi : i < 8) : M (g + 18 + i) = .inr (0, bof (bt i) (c (20 + i))) := h.2.2.2.2.2.2.2.2.2.1 i hi
theorem Gc.h0 (h : Gc M g c kp bt la) {i : Nat} (hi : i < 10) : M (g + 26 + 5 * i) = .inr (3, hof (g + 26 + 5 * i) (c (30 + i))) := (h.2.2.2.2.2.2.2.2.2.2 i hi).1
theorem Gc.h1 (h : Gc M g c kp bt la) {i : Nat} (hi : i < 10) : M (g + 26 + 5 * i + 1) = .inl (0, 8, .inl (c (40 + i))) := by rw [show g + 26 + 5 * i + 1 = g + 27 + 5 * i by omega]; exact (h.2.2.2.2.2.2.2.2.2.2 i hi).2.1
theorem Gc.h2 (h : Gc M g c kp bt la) {i : Nat} (hi : i < 10) : M (g + 26 + 5 * i + 2) = .inl (0, 6, .inl (c (50 + i))) := by rw [show g + 26 + 5 * i + 2 = g + 28 + 5 * i by omega]; exact (h.2.2.2.2.2.2.2.2.2.2 i hi).2.2.1
theorem Gc.h3 (h : Gc M g c kp bt la) {i : Nat} (hi : i < 10) : M (g + 26 + 5 * i + 3) = .inl (0, 6, .inl (c (60 + i))) := by rw [show g + 26 + 5 * i + 3 = g + 29 + 5 * i by omega]; exact (h.2.2.2.2.2.2.2.2.2.2 i hi).2.2.2.1
theorem Gc.h4 (h : Gc M g c kp bt la) {i : Nat} (hi : i < 10) : M (g + 26 + 5 * i + 4) = .inl (0, 6, .inl (c (70 + i))) := by rw [show g + 26 + 5 * i + 4 = g + 30 + 5 * i by omega]; exact (h.2.2.2.2.2.2.2.2.2.2 i hi).2.2.2.2
theorem c_cropAt_n {d n w : Nat} (hG : Gc M g c kp bt la) {a : Int32} (e : inI a 0 (c 0 0 - 1) = 0) : zCall (d + 1) 11 [.ref g, .int a] n w M (some .null) n w M := by
  intro Q hQ
  show zR ztb _ kX2_cropAt 3 0 [some (.ref g), some (.int a)] [] _ _ _ _
  repeat (first | rw [zcc1] | rw [zcc2] | rw [zcc3] | rw [zcc4] | rw [e] | refine zR.step rfl ?_ | refine zR.getf rfl (hG.o) rfl ?_ | refine zR.cs rfl rfl rfl rfl rfl (zCalP.of (c_isWithin _ _ _) ?_))
  exact zR.ret rfl rfl hQ
theorem c_cropAt_y {d n w i : Nat} (hG : Gc M g c kp bt la) {a : Nat} (e : inI (nI i) 0 (c 0 0 - 1) = 1) (hi : i < 8) (hk : kp i = some a) : zCall (d + 1) 11 [.ref g, .int (nI i)] n w M (some (.ref a)) n w M := by
  intro Q hQ
  show zR ztb _ kX2_cropAt 3 0 [some (.ref g), some (.int (nI i))] [] _ _ _ _
  repeat (first | rw [zcc1] | rw [zcc2] | rw [zcc3] | rw [zcc4] | rw [e] | rw [hk] | refine zR.step rfl ?_ | refine zR.getf rfl (hG.o) rfl ?_ | refine zR.cs rfl rfl rfl rfl rfl (zCalP.of (c_isWithin _ _ _) ?_) | refine zR.aald rfl hG.kr (Or.inl rfl) rfl hi (by decide) ?_)
  exact zR.ret rfl rfl hQ
theorem c_bedAt_n {d n w : Nat} {a : Int32} (e : inI a 0 7 = 0) : zCall (d + 1) 12 [.ref g, .int a] n w M (some .null) n w M := by
  intro Q hQ
  show zR ztb _ kX2_bedAt 3 0 [some (.ref g), some (.int a)] [] _ _ _ _
  repeat (first | rw [zcc1] | rw [zcc2] | rw [zcc3] | rw [zcc4] | rw [e] | refine zR.step rfl ?_ | refine zR.cs rfl rfl rfl rfl rfl (zCalP.of (c_isWithin _ _ _) ?_))
  exact zR.ret rfl rfl hQ
theorem brow_y {i : Nat} (hi : i < 8) : brow g i = some (g + 18 + i) := if_pos hi
theorem hrow_y {i : Nat} (hi : i < 10) : hrow g i = some (g + 26 + 5 * i) := if_pos hi
theorem c_bedAt_y {d n w i : Nat} (hG : Gc M g c kp bt la) (hi : i < 8) : zCall (d + 1) 12 [.ref g, .int (nI i)] n w M (some (.ref (g + 18 + i))) n w M := by
  intro Q hQ
  have e : inI (nI i) 0 7 = 1 := inI_y (lo := 0) (hi := 7) (by omega) (by omega) (by omega)
  show zR ztb _ kX2_bedAt 3 0 [some (.ref g), some (.int (nI i))] [] _ _ _ _
  repeat (first | rw [zcc1] | rw [zcc2] | rw [zcc3] | rw [zcc4] | rw [e] | rw [brow_y hi] | refine zR.step rfl ?_ | refine zR.getf rfl (hG.o) rfl ?_ | refine zR.cs rfl rfl rfl rfl rfl (zCalP.of (c_isWithin _ _ _) ?_) | refine zR.aald rfl hG.br (Or.inr (Or.inl rfl)) rfl hi (by decide) ?_)
  exact zR.ret rfl rfl hQ
theorem c_houseAt_n {d n w : Nat} (hG : Gc M g c kp bt la) {a : Int32} (e : inI a 0 (c 0 1 - 1) = 0) : zCall (d + 1) 13 [.ref g, .int a] n w M (some .null) n w M := by
  intro Q hQ
  show zR ztb _ kX2_houseAt 3 0 [some (.ref g), some (.int a)] [] _ _ _ _
  repeat (first | rw [zcc1] | rw [zcc2] | rw [zcc3] | rw [zcc4] | rw [e] | refine zR.step rfl ?_ | refine zR.getf rfl (hG.o) rfl ?_ | refine zR.cs rfl rfl rfl rfl rfl (zCalP.of (c_isWithin _ _ _) ?_))
  exact zR.ret rfl rfl hQ
theorem c_houseAt_y {d n w i : Nat} (hG : Gc M g c kp bt la) (e : inI (nI i) 0 (c 0 1 - 1) = 1) (hi : i < 10) : zCall (d + 1) 13 [.ref g, .int (nI i)] n w M (some (.ref (g + 26 + 5 * i))) n w M := by
  intro Q hQ
  show zR ztb _ kX2_houseAt 3 0 [some (.ref g), some (.int (nI i))] [] _ _ _ _
  repeat (first | rw [zcc1] | rw [zcc2] | rw [zcc3] | rw [zcc4] | rw [e] | rw [hrow_y hi] | refine zR.step rfl ?_ | refine zR.getf rfl (hG.o) rfl ?_ | refine zR.cs rfl rfl rfl rfl rfl (zCalP.of (c_isWithin _ _ _) ?_) | refine zR.aald rfl hG.hr (Or.inr (Or.inr (Or.inl rfl))) rfl hi (by decide) ?_)
  exact zR.ret rfl rfl hQ
end
section
variable {M : zM} {t : mS} {tr : Option Nat}
theorem c_sheetAt_n {d n w : Nat} (hT : Tc M t tr) {a : Int32} (e : inI a 0 3 = 0) : zCall (d + 1) 119 [.ref 25, .int a] n w M (some .null) n w M := by
  intro Q hQ
  have h25 := hT.1
  have hs := hT.2.2.2.2.2.2.2.2.1
  show zR ztb _ kX11_sheetAt 3 0 [some (.ref 25), some (.int a)] [] _ _ _ _
  repeat (first | rw [zcc1] | rw [zcc2] | rw [zcc3] | rw [zcc4] | refine zR.step rfl ?_ | refine zR.getf rfl (h25) rfl ?_ | refine zR.alen rfl hs ?_ | (refine zR.cs rfl rfl rfl rfl rfl (zCalP.of (c_isWithin _ _ _) ?_); rw [show inI a 0 (nI 4 - 1) = 0 from e]))
  exact zR.ret rfl rfl hQ
theorem srow_y {i : Nat} (hi : i < 4) : srow i = some (279 + 2 * i) := if_pos hi
theorem c_sheetAt_y {d n w i : Nat} (hT : Tc M t tr) (hi : i < 4) : zCall (d + 1) 119 [.ref 25, .int (nI i)] n w M (some (.ref (279 + 2 * i))) n w M := by
  intro Q hQ
  have h25 := hT.1
  have hs := hT.2.2.2.2.2.2.2.2.1
  have e : inI (nI i) 0 (nI 4 - 1) = 1 := inI_y (lo := 0) (hi := 3) (by omega) (by omega) (by omega)
  show zR ztb _ kX11_sheetAt 3 0 [some (.ref 25), some (.int (nI i))] [] _ _ _ _
  repeat (first | rw [zcc1] | rw [zcc2] | rw [zcc3] | rw [zcc4] | rw [e] | rw [srow_y hi] | refine zR.step rfl ?_ | refine zR.getf rfl (h25) rfl ?_ | refine zR.alen rfl hs ?_ | refine zR.cs rfl rfl rfl rfl rfl (zCalP.of (c_isWithin _ _ _) ?_) | refine zR.aald rfl hs (Or.inr (Or.inr (Or.inr rfl))) rfl hi (by decide) ?_)
  exact zR.ret rfl rfl hQ
end
section
variable {M : zM} {σ : mS}
theorem c_isHouse {d n w : Nat} (hR : Rf M σ) (x : Int32) : zCall (d + 1) 136 [.ref 287, .int x] n w M (some (.int (inI x 0 (σ 0 4 - 1)))) n w M := by
  intro Q hQ
  show zR ztb _ kX12_isHouse 2 0 [some (.ref 287), some (.int x)] [] _ _ _ _
  repeat (first | refine zR.step rfl ?_ | refine zR.getf rfl hR.1 rfl ?_ | refine zR.ilR0 hR rfl (by (try simp only [zn_lit, zn_add, zn_mul]); rfl) (by omega) ?_)
  refine zR.cs rfl rfl rfl rfl rfl (zCalP.of (c_in _ _ _) ?_)
  repeat (first | refine zR.step rfl ?_ | refine zR.getf rfl hR.1 rfl ?_ | refine zR.ilR0 hR rfl (by (try simp only [zn_lit, zn_add, zn_mul]); rfl) (by omega) ?_)
  exact zR.retZ rfl (inI_01 _ _ _) hQ
theorem c_bedIs {d n w : Nat} (hR : Rf M σ) (c q : Nat) (hc : 150 + 10 * c + q < 2700) : zCall d 138 [.ref 287, .int (nI c), .int (nI q)] n w M (some (.int (σ 0 (150 + 10 * c + q)))) n w M := by
  intro Q hQ
  show zR ztb _ kX12_bedIs 1 0 [some (.ref 287), some (.int (nI c)), some (.int (nI q))] [] _ _ _ _
  repeat (first | refine zR.step rfl ?_ | refine zR.getf rfl hR.1 rfl ?_ | refine zR.ilR0 hR rfl (by (try simp only [zn_lit, zn_add, zn_mul]); rfl) (by omega) ?_)
  exact zR.ret rfl rfl hQ
theorem c_houseIs {d n w : Nat} (hR : Rf M σ) (c q : Nat) (hc : 1700 + 40 * c + q < 2700) : zCall d 139 [.ref 287, .int (nI c), .int (nI q)] n w M (some (.int (σ 0 (1700 + 40 * c + q)))) n w M := by
  intro Q hQ
  show zR ztb _ kX12_houseIs 1 0 [some (.ref 287), some (.int (nI c)), some (.int (nI q))] [] _ _ _ _
  repeat (first | refine zR.step rfl ?_ | refine zR.getf rfl hR.1 rfl ?_ | refine zR.ilR0 hR rfl (by (try simp only [zn_lit, zn_add, zn_mul]); rfl) (by omega) ?_)
  exact zR.ret rfl rfl hQ
theorem c_isSheet {d n w : Nat} (x : Int32) : zCall (d + 1) 214 [.ref 287, .int x] n w M (some (.int (inI x 0 3))) n w M := by
  intro Q hQ
  show zR ztb _ kX12_isSheet 2 0 [some (.ref 287), some (.int x)] [] _ _ _ _
  repeat (first | rw [zcc1] | rw [zcc2] | rw [zcc3] | rw [zcc4] | refine zR.step rfl ?_ | refine zR.cs rfl rfl rfl rfl rfl (zCalP.of (c_in _ _ _) ?_))
  exact zR.retZ rfl (inI_01 _ _ _) hQ
end
section
variable {x y : Int32} {t f : Nat}
theorem zb1 (h : x < y) : zbc .lt x y t f = t := if_pos h
theorem zb2 (h : x < y) : zbc .ge x y t f = f := if_pos h
theorem zb3 (h : x < y) : zbc .gt y x t f = t := if_pos h
theorem zb4 (h : x < y) : zbc .le y x t f = f := if_pos h
theorem zn1 (h : ¬ x < y) : zbc .lt x y t f = f := if_neg h
theorem zn2 (h : ¬ x < y) : zbc .ge x y t f = t := if_neg h
theorem zn3 (h : ¬ x < y) : zbc .gt y x t f = f := if_neg h
theorem zn4 (h : ¬ x < y) : zbc .le y x t f = t := if_neg h
theorem ze1 (h : x = y) : zbc .eq x y t f = t := if_pos h
theorem ze2 (h : x = y) : zbc .ne x y t f = f := if_pos h
theorem zd1 (h : ¬ x = y) : zbc .eq x y t f = f := if_neg h
theorem zd2 (h : ¬ x = y) : zbc .ne x y t f = t := if_neg h
end
