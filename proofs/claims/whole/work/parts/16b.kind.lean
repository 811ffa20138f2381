
/-! KINDS. -/
/-- is a kind the wanted one, or below it -/
def ofK (k w : Nat) : Int32 := if w = k ∨ w = 0 ∨ (w = 1 ∧ (k = 3 ∨ k = 5)) ∨ (w = 3 ∧ k = 5) then 1 else 0
def above : Nat → Int32 := fun j => zabove.getD j 0
theorem hAb {L : Nat} {xs : Nat → Int32} {M : zM} (hx : ∀ k, k < 25 → M k = zX L xs k) : M 1 = .inl (7, 6, .inl above) := hx 1 (by omega)
theorem ab_0 : above 0 = -1 := by decide
theorem ab_1 : above 1 = 0 := by decide
theorem ab_2 : above 2 = 0 := by decide
theorem ab_3 : above 3 = 1 := by decide
theorem ab_4 : above 4 = 0 := by decide
theorem ab_5 : above 5 = 3 := by decide
theorem in5_0 : inI 0 0 5 = 1 := by decide
theorem in5_1 : inI 1 0 5 = 1 := by decide
theorem in5_2 : inI 2 0 5 = 1 := by decide
theorem in5_3 : inI 3 0 5 = 1 := by decide
theorem in5_4 : inI 4 0 5 = 1 := by decide
theorem in5_5 : inI 5 0 5 = 1 := by decide
theorem in5_m : inI (-1) 0 5 = 0 := by decide
theorem isk_0 {M : zM} {d n w : Nat} (h1 : M 1 = .inl (7, 6, .inl above)) : ∀ q, q < 6 → zCall (d + 1) 129 [.int 0, .int (nI q)] n w M (some (.int (ofK 0 q))) n w M
  | 0, _ => by
    intro Q hQ
    show zR ztb _ kX11_isOfKind 2 0 [some (.int 0), some (.int 0), none, none] [] _ _ _ _
    repeat (first | rw [zcc1] | rw [zcc2] | rw [zcc3] | rw [zcc4] | rw [zb1 (by decide)] | rw [zb2 (by decide)] | rw [zb3 (by decide)] | rw [zb4 (by decide)] | rw [zn1 (by decide)] | rw [zn2 (by decide)] | rw [zn3 (by decide)] | rw [zn4 (by decide)] | rw [ze1 (by decide)] | rw [ze2 (by decide)] | rw [zd1 (by decide)] | rw [zd2 (by decide)] | rw [zswy (by decide)] | rw [zswn (by decide)] | rw [zsw0] | rw [in5_0] | refine zR.step rfl ?_ | refine zR.cs rfl rfl rfl rfl rfl (zCalP.of (c_isWithin _ _ _) ?_))
    exact zR.ret rfl rfl hQ
  | 1, _ => by
    intro Q hQ
    show zR ztb _ kX11_isOfKind 2 0 [some (.int 0), some (.int 1), none, none] [] _ _ _ _
    repeat (first | rw [zcc1] | rw [zcc2] | rw [zcc3] | rw [zcc4] | rw [zb1 (by decide)] | rw [zb2 (by decide)] | rw [zb3 (by decide)] | rw [zb4 (by decide)] | rw [zn1 (by decide)] | rw [zn2 (by decide)] | rw [zn3 (by decide)] | rw [zn4 (by decide)] | rw [ze1 (by decide)] | rw [ze2 (by decide)] | rw [zd1 (by decide)] | rw [zd2 (by decide)] | rw [zswy (by decide)] | rw [zswn (by decide)] | rw [zsw0] | rw [in5_0] | rw [in5_m] | refine zR.step rfl ?_ | refine zR.cs rfl rfl rfl rfl rfl (zCalP.of (c_isWithin _ _ _) ?_) | (refine zR.iald rfl h1 (Or.inr rfl) (i := 0) rfl (by omega) (by decide) ?_; rw [ab_0]))
    exact zR.ret rfl rfl hQ
  | 2, _ => by
    intro Q hQ
    show zR ztb _ kX11_isOfKind 2 0 [some (.int 0), some (.int 2), none, none] [] _ _ _ _
    repeat (first | rw [zcc1] | rw [zcc2] | rw [zcc3] | rw [zcc4] | rw [zb1 (by decide)] | rw [zb2 (by decide)] | rw [zb3 (by decide)] | rw [zb4 (by decide)] | rw [zn1 (by decide)] | rw [zn2 (by decide)] | rw [zn3 (by decide)] | rw [zn4 (by decide)] | rw [ze1 (by decide)] | rw [ze2 (by decide)] | rw [zd1 (by decide)] | rw [zd2 (by decide)] | rw [zswy (by decide)] | rw [zswn (by decide)] | rw [zsw0] | rw [in5_0] | rw [in5_m] | refine zR.step rfl ?_ | refine zR.cs rfl rfl rfl rfl rfl (zCalP.of (c_isWithin _ _ _) ?_) | (refine zR.iald rfl h1 (Or.inr rfl) (i := 0) rfl (by omega) (by decide) ?_; rw [ab_0]))
    exact zR.ret rfl rfl hQ
  | 3, _ => by
    intro Q hQ
    show zR ztb _ kX11_isOfKind 2 0 [some (.int 0), some (.int 3), none, none] [] _ _ _ _
    repeat (first | rw [zcc1] | rw [zcc2] | rw [zcc3] | rw [zcc4] | rw [zb1 (by decide)] | rw [zb2 (by decide)] | rw [zb3 (by decide)] | rw [zb4 (by decide)] | rw [zn1 (by decide)] | rw [zn2 (by decide)] | rw [zn3 (by decide)] | rw [zn4 (by decide)] | rw [ze1 (by decide)] | rw [ze2 (by decide)] | rw [zd1 (by decide)] | rw [zd2 (by decide)] | rw [zswy (by decide)] | rw [zswn (by decide)] | rw [zsw0] | rw [in5_0] | rw [in5_m] | refine zR.step rfl ?_ | refine zR.cs rfl rfl rfl rfl rfl (zCalP.of (c_isWithin _ _ _) ?_) | (refine zR.iald rfl h1 (Or.inr rfl) (i := 0) rfl (by omega) (by decide) ?_; rw [ab_0]))
    exact zR.ret rfl rfl hQ
  | 4, _ => by
    intro Q hQ
    show zR ztb _ kX11_isOfKind 2 0 [some (.int 0), some (.int 4), none, none] [] _ _ _ _
    repeat (first | rw [zcc1] | rw [zcc2] | rw [zcc3] | rw [zcc4] | rw [zb1 (by decide)] | rw [zb2 (by decide)] | rw [zb3 (by decide)] | rw [zb4 (by decide)] | rw [zn1 (by decide)] | rw [zn2 (by decide)] | rw [zn3 (by decide)] | rw [zn4 (by decide)] | rw [ze1 (by decide)] | rw [ze2 (by decide)] | rw [zd1 (by decide)] | rw [zd2 (by decide)] | rw [zswy (by decide)] | rw [zswn (by decide)] | rw [zsw0] | rw [in5_0] | rw [in5_m] | refine zR.step rfl ?_ | refine zR.cs rfl rfl rfl rfl rfl (zCalP.of (c_isWithin _ _ _) ?_) | (refine zR.iald rfl h1 (Or.inr rfl) (i := 0) rfl (by omega) (by decide) ?_; rw [ab_0]))
    exact zR.ret rfl rfl hQ
  | 5, _ => by
    intro Q hQ
    show zR ztb _ kX11_isOfKind 2 0 [some (.int 0), some (.int 5), none, none] [] _ _ _ _
    repeat (first | rw [zcc1] | rw [zcc2] | rw [zcc3] | rw [zcc4] | rw [zb1 (by decide)] | rw [zb2 (by decide)] | rw [zb3 (by decide)] | rw [zb4 (by decide)] | rw [zn1 (by decide)] | rw [zn2 (by decide)] | rw [zn3 (by decide)] | rw [zn4 (by decide)] | rw [ze1 (by decide)] | rw [ze2 (by decide)] | rw [zd1 (by decide)] | rw [zd2 (by decide)] | rw [zswy (by decide)] | rw [zswn (by decide)] | rw [zsw0] | rw [in5_0] | rw [in5_m] | refine zR.step rfl ?_ | refine zR.cs rfl rfl rfl rfl rfl (zCalP.of (c_isWithin _ _ _) ?_) | (refine zR.iald rfl h1 (Or.inr rfl) (i := 0) rfl (by omega) (by decide) ?_; rw [ab_0]))
    exact zR.ret rfl rfl hQ
  | q + 6, h => absurd h (by omega)
theorem isk_1 {M : zM} {d n w : Nat} (h1 : M 1 = .inl (7, 6, .inl above)) : ∀ q, q < 6 → zCall (d + 1) 129 [.int 1, .int (nI q)] n w M (some (.int (ofK 1 q))) n w M
  | 0, _ => by
    intro Q hQ
    show zR ztb _ kX11_isOfKind 2 0 [some (.int 1), some (.int 0), none, none] [] _ _ _ _
    repeat (first | rw [zcc1] | rw [zcc2] | rw [zcc3] | rw [zcc4] | rw [zb1 (by decide)] | rw [zb2 (by decide)] | rw [zb3 (by decide)] | rw [zb4 (by decide)] | rw [zn1 (by decide)] | rw [zn2 (by decide)] | rw [zn3 (by decide)] | rw [zn4 (by decide)] | rw [ze1 (by decide)] | rw [ze2 (by decide)] | rw [zd1 (by decide)] | rw [zd2 (by decide)] | rw [zswy (by decide)] | rw [zswn (by decide)] | rw [zsw0] | rw [in5_1] | rw [in5_0] | refine zR.step rfl ?_ | refine zR.cs rfl rfl rfl rfl rfl (zCalP.of (c_isWithin _ _ _) ?_) | (refine zR.iald rfl h1 (Or.inr rfl) (i := 1) rfl (by omega) (by decide) ?_; rw [ab_1]))
    exact zR.ret rfl rfl hQ
  | 1, _ => by
    intro Q hQ
    show zR ztb _ kX11_isOfKind 2 0 [some (.int 1), some (.int 1), none, none] [] _ _ _ _
    repeat (first | rw [zcc1] | rw [zcc2] | rw [zcc3] | rw [zcc4] | rw [zb1 (by decide)] | rw [zb2 (by decide)] | rw [zb3 (by decide)] | rw [zb4 (by decide)] | rw [zn1 (by decide)] | rw [zn2 (by decide)] | rw [zn3 (by decide)] | rw [zn4 (by decide)] | rw [ze1 (by decide)] | rw [ze2 (by decide)] | rw [zd1 (by decide)] | rw [zd2 (by decide)] | rw [zswy (by decide)] | rw [zswn (by decide)] | rw [zsw0] | rw [in5_1] | refine zR.step rfl ?_ | refine zR.cs rfl rfl rfl rfl rfl (zCalP.of (c_isWithin _ _ _) ?_))
    exact zR.ret rfl rfl hQ
  | 2, _ => by
    intro Q hQ
    show zR ztb _ kX11_isOfKind 2 0 [some (.int 1), some (.int 2), none, none] [] _ _ _ _
    repeat (first | rw [zcc1] | rw [zcc2] | rw [zcc3] | rw [zcc4] | rw [zb1 (by decide)] | rw [zb2 (by decide)] | rw [zb3 (by decide)] | rw [zb4 (by decide)] | rw [zn1 (by decide)] | rw [zn2 (by decide)] | rw [zn3 (by decide)] | rw [zn4 (by decide)] | rw [ze1 (by decide)] | rw [ze2 (by decide)] | rw [zd1 (by decide)] | rw [zd2 (by decide)] | rw [zswy (by decide)] | rw [zswn (by decide)] | rw [zsw0] | rw [in5_1] | rw [in5_0] | rw [in5_m] | refine zR.step rfl ?_ | refine zR.cs rfl rfl rfl rfl rfl (zCalP.of (c_isWithin _ _ _) ?_) | (refine zR.iald rfl h1 (Or.inr rfl) (i := 1) rfl (by omega) (by decide) ?_; rw [ab_1]) | (refine zR.iald rfl h1 (Or.inr rfl) (i := 0) rfl (by omega) (by decide) ?_; rw [ab_0]))
    exact zR.ret rfl rfl hQ
  | 3, _ => by
    intro Q hQ
    show zR ztb _ kX11_isOfKind 2 0 [some (.int 1), some (.int 3), none, none] [] _ _ _ _
    repeat (first | rw [zcc1] | rw [zcc2] | rw [zcc3] | rw [zcc4] | rw [zb1 (by decide)] | rw [zb2 (by decide)] | rw [zb3 (by decide)] | rw [zb4 (by decide)] | rw [zn1 (by decide)] | rw [zn2 (by decide)] | rw [zn3 (by decide)] | rw [zn4 (by decide)] | rw [ze1 (by decide)] | rw [ze2 (by decide)] | rw [zd1 (by decide)] | rw [zd2 (by decide)] | rw [zswy (by decide)] | rw [zswn (by decide)] | rw [zsw0] | rw [in5_1] | rw [in5_0] | rw [in5_m] | refine zR.step rfl ?_ | refine zR.cs rfl rfl rfl rfl rfl (zCalP.of (c_isWithin _ _ _) ?_) | (refine zR.iald rfl h1 (Or.inr rfl) (i := 1) rfl (by omega) (by decide) ?_; rw [ab_1]) | (refine zR.iald rfl h1 (Or.inr rfl) (i := 0) rfl (by omega) (by decide) ?_; rw [ab_0]))
    exact zR.ret rfl rfl hQ
  | 4, _ => by
    intro Q hQ
    show zR ztb _ kX11_isOfKind 2 0 [some (.int 1), some (.int 4), none, none] [] _ _ _ _
    repeat (first | rw [zcc1] | rw [zcc2] | rw [zcc3] | rw [zcc4] | rw [zb1 (by decide)] | rw [zb2 (by decide)] | rw [zb3 (by decide)] | rw [zb4 (by decide)] | rw [zn1 (by decide)] | rw [zn2 (by decide)] | rw [zn3 (by decide)] | rw [zn4 (by decide)] | rw [ze1 (by decide)] | rw [ze2 (by decide)] | rw [zd1 (by decide)] | rw [zd2 (by decide)] | rw [zswy (by decide)] | rw [zswn (by decide)] | rw [zsw0] | rw [in5_1] | rw [in5_0] | rw [in5_m] | refine zR.step rfl ?_ | refine zR.cs rfl rfl rfl rfl rfl (zCalP.of (c_isWithin _ _ _) ?_) | (refine zR.iald rfl h1 (Or.inr rfl) (i := 1) rfl (by omega) (by decide) ?_; rw [ab_1]) | (refine zR.iald rfl h1 (Or.inr rfl) (i := 0) rfl (by omega) (by decide) ?_; rw [ab_0]))
    exact zR.ret rfl rfl hQ
  | 5, _ => by
    intro Q hQ
    show zR ztb _ kX11_isOfKind 2 0 [some (.int 1), some (.int 5), none, none] [] _ _ _ _
    repeat (first | rw [zcc1] | rw [zcc2] | rw [zcc3] | rw [zcc4] | rw [zb1 (by decide)] | rw [zb2 (by decide)] | rw [zb3 (by decide)] | rw [zb4 (by decide)] | rw [zn1 (by decide)] | rw [zn2 (by decide)] | rw [zn3 (by decide)] | rw [zn4 (by decide)] | rw [ze1 (by decide)] | rw [ze2 (by decide)] | rw [zd1 (by decide)] | rw [zd2 (by decide)] | rw [zswy (by decide)] | rw [zswn (by decide)] | rw [zsw0] | rw [in5_1] | rw [in5_0] | rw [in5_m] | refine zR.step rfl ?_ | refine zR.cs rfl rfl rfl rfl rfl (zCalP.of (c_isWithin _ _ _) ?_) | (refine zR.iald rfl h1 (Or.inr rfl) (i := 1) rfl (by omega) (by decide) ?_; rw [ab_1]) | (refine zR.iald rfl h1 (Or.inr rfl) (i := 0) rfl (by omega) (by decide) ?_; rw [ab_0]))
    exact zR.ret rfl rfl hQ
  | q + 6, h => absurd h (by omega)
theorem isk_2 {M : zM} {d n w : Nat} (h1 : M 1 = .inl (7, 6, .inl above)) : ∀ q, q < 6 → zCall (d + 1) 129 [.int 2, .int (nI q)] n w M (some (.int (ofK 2 q))) n w M
  | 0, _ => by
    intro Q hQ
    show zR ztb _ kX11_isOfKind 2 0 [some (.int 2), some (.int 0), none, none] [] _ _ _ _
    repeat (first | rw [zcc1] | rw [zcc2] | rw [zcc3] | rw [zcc4] | rw [zb1 (by decide)] | rw [zb2 (by decide)] | rw [zb3 (by decide)] | rw [zb4 (by decide)] | rw [zn1 (by decide)] | rw [zn2 (by decide)] | rw [zn3 (by decide)] | rw [zn4 (by decide)] | rw [ze1 (by decide)] | rw [ze2 (by decide)] | rw [zd1 (by decide)] | rw [zd2 (by decide)] | rw [zswy (by decide)] | rw [zswn (by decide)] | rw [zsw0] | rw [in5_2] | rw [in5_0] | refine zR.step rfl ?_ | refine zR.cs rfl rfl rfl rfl rfl (zCalP.of (c_isWithin _ _ _) ?_) | (refine zR.iald rfl h1 (Or.inr rfl) (i := 2) rfl (by omega) (by decide) ?_; rw [ab_2]))
    exact zR.ret rfl rfl hQ
  | 1, _ => by
    intro Q hQ
    show zR ztb _ kX11_isOfKind 2 0 [some (.int 2), some (.int 1), none, none] [] _ _ _ _
    repeat (first | rw [zcc1] | rw [zcc2] | rw [zcc3] | rw [zcc4] | rw [zb1 (by decide)] | rw [zb2 (by decide)] | rw [zb3 (by decide)] | rw [zb4 (by decide)] | rw [zn1 (by decide)] | rw [zn2 (by decide)] | rw [zn3 (by decide)] | rw [zn4 (by decide)] | rw [ze1 (by decide)] | rw [ze2 (by decide)] | rw [zd1 (by decide)] | rw [zd2 (by decide)] | rw [zswy (by decide)] | rw [zswn (by decide)] | rw [zsw0] | rw [in5_2] | rw [in5_0] | rw [in5_m] | refine zR.step rfl ?_ | refine zR.cs rfl rfl rfl rfl rfl (zCalP.of (c_isWithin _ _ _) ?_) | (refine zR.iald rfl h1 (Or.inr rfl) (i := 2) rfl (by omega) (by decide) ?_; rw [ab_2]) | (refine zR.iald rfl h1 (Or.inr rfl) (i := 0) rfl (by omega) (by decide) ?_; rw [ab_0]))
    exact zR.ret rfl rfl hQ
  | 2, _ => by
    intro Q hQ
    show zR ztb _ kX11_isOfKind 2 0 [some (.int 2), some (.int 2), none, none] [] _ _ _ _
    repeat (first | rw [zcc1] | rw [zcc2] | rw [zcc3] | rw [zcc4] | rw [zb1 (by decide)] | rw [zb2 (by decide)] | rw [zb3 (by decide)] | rw [zb4 (by decide)] | rw [zn1 (by decide)] | rw [zn2 (by decide)] | rw [zn3 (by decide)] | rw [zn4 (by decide)] | rw [ze1 (by decide)] | rw [ze2 (by decide)] | rw [zd1 (by decide)] | rw [zd2 (by decide)] | rw [zswy (by decide)] | rw [zswn (by decide)] | rw [zsw0] | rw [in5_2] | refine zR.step rfl ?_ | refine zR.cs rfl rfl rfl rfl rfl (zCalP.of (c_isWithin _ _ _) ?_))
    exact zR.ret rfl rfl hQ
  | 3, _ => by
    intro Q hQ
    show zR ztb _ kX11_isOfKind 2 0 [some (.int 2), some (.int 3), none, none] [] _ _ _ _
    repeat (first | rw [zcc1] | rw [zcc2] | rw [zcc3] | rw [zcc4] | rw [zb1 (by decide)] | rw [zb2 (by decide)] | rw [zb3 (by decide)] | rw [zb4 (by decide)] | rw [zn1 (by decide)] | rw [zn2 (by decide)] | rw [zn3 (by decide)] | rw [zn4 (by decide)] | rw [ze1 (by decide)] | rw [ze2 (by decide)] | rw [zd1 (by decide)] | rw [zd2 (by decide)] | rw [zswy (by decide)] | rw [zswn (by decide)] | rw [zsw0] | rw [in5_2] | rw [in5_0] | rw [in5_m] | refine zR.step rfl ?_ | refine zR.cs rfl rfl rfl rfl rfl (zCalP.of (c_isWithin _ _ _) ?_) | (refine zR.iald rfl h1 (Or.inr rfl) (i := 2) rfl (by omega) (by decide) ?_; rw [ab_2]) | (refine zR.iald rfl h1 (Or.inr rfl) (i := 0) rfl (by omega) (by decide) ?_; rw [ab_0]))
    exact zR.ret rfl rfl hQ
  | 4, _ => by
    intro Q hQ
    show zR ztb _ kX11_isOfKind 2 0 [some (.int 2), some (.int 4), none, none] [] _ _ _ _
    repeat (first | rw [zcc1] | rw [zcc2] | rw [zcc3] | rw [zcc4] | rw [zb1 (by decide)] | rw [zb2 (by decide)] | rw [zb3 (by decide)] | rw [zb4 (by decide)] | rw [zn1 (by decide)] | rw [zn2 (by decide)] | rw [zn3 (by decide)] | rw [zn4 (by decide)] | rw [ze1 (by decide)] | rw [ze2 (by decide)] | rw [zd1 (by decide)] | rw [zd2 (by decide)] | rw [zswy (by decide)] | rw [zswn (by decide)] | rw [zsw0] | rw [in5_2] | rw [in5_0] | rw [in5_m] | refine zR.step rfl ?_ | refine zR.cs rfl rfl rfl rfl rfl (zCalP.of (c_isWithin _ _ _) ?_) | (refine zR.iald rfl h1 (Or.inr rfl) (i := 2) rfl (by omega) (by decide) ?_; rw [ab_2]) | (refine zR.iald rfl h1 (Or.inr rfl) (i := 0) rfl (by omega) (by decide) ?_; rw [ab_0]))
    exact zR.ret rfl rfl hQ
  | 5, _ => by
    intro Q hQ
    show zR ztb _ kX11_isOfKind 2 0 [some (.int 2), some (.int 5), none, none] [] _ _ _ _
    repeat (first | rw [zcc1] | rw [zcc2] | rw [zcc3] | rw [zcc4] | rw [zb1 (by decide)] | rw [zb2 (by decide)] | rw [zb3 (by decide)] | rw [zb4 (by decide)] | rw [zn1 (by decide)] | rw [zn2 (by decide)] | rw [zn3 (by decide)] | rw [zn4 (by decide)] | rw [ze1 (by decide)] | rw [ze2 (by decide)] | rw [zd1 (by decide)] | rw [zd2 (by decide)] | rw [zswy (by decide)] | rw [zswn (by decide)] | rw [zsw0] | rw [in5_2] | rw [in5_0] | rw [in5_m] | refine zR.step rfl ?_ | refine zR.cs rfl rfl rfl rfl rfl (zCalP.of (c_isWithin _ _ _) ?_) | (refine zR.iald rfl h1 (Or.inr rfl) (i := 2) rfl (by omega) (by decide) ?_; rw [ab_2]) | (refine zR.iald rfl h1 (Or.inr rfl) (i := 0) rfl (by omega) (by decide) ?_; rw [ab_0]))
    exact zR.ret rfl rfl hQ
  | q + 6, h => absurd h (by omega)
theorem isk_3 {M : zM} {d n w : Nat} (h1 : M 1 = .inl (7, 6, .inl above)) : ∀ q, q < 6 → zCall (d + 1) 129 [.int 3, .int (nI q)] n w M (some (.int (ofK 3 q))) n w M
  | 0, _ => by
    intro Q hQ
    show zR ztb _ kX11_isOfKind 2 0 [some (.int 3), some (.int 0), none, none] [] _ _ _ _
    repeat (first | rw [zcc1] | rw [zcc2] | rw [zcc3] | rw [zcc4] | rw [zb1 (by decide)] | rw [zb2 (by decide)] | rw [zb3 (by decide)] | rw [zb4 (by decide)] | rw [zn1 (by decide)] | rw [zn2 (by decide)] | rw [zn3 (by decide)] | rw [zn4 (by decide)] | rw [ze1 (by decide)] | rw [ze2 (by decide)] | rw [zd1 (by decide)] | rw [zd2 (by decide)] | rw [zswy (by decide)] | rw [zswn (by decide)] | rw [zsw0] | rw [in5_3] | rw [in5_1] | rw [in5_0] | refine zR.step rfl ?_ | refine zR.cs rfl rfl rfl rfl rfl (zCalP.of (c_isWithin _ _ _) ?_) | (refine zR.iald rfl h1 (Or.inr rfl) (i := 3) rfl (by omega) (by decide) ?_; rw [ab_3]) | (refine zR.iald rfl h1 (Or.inr rfl) (i := 1) rfl (by omega) (by decide) ?_; rw [ab_1]))
    exact zR.ret rfl rfl hQ
  | 1, _ => by
    intro Q hQ
    show zR ztb _ kX11_isOfKind 2 0 [some (.int 3), some (.int 1), none, none] [] _ _ _ _
    repeat (first | rw [zcc1] | rw [zcc2] | rw [zcc3] | rw [zcc4] | rw [zb1 (by decide)] | rw [zb2 (by decide)] | rw [zb3 (by decide)] | rw [zb4 (by decide)] | rw [zn1 (by decide)] | rw [zn2 (by decide)] | rw [zn3 (by decide)] | rw [zn4 (by decide)] | rw [ze1 (by decide)] | rw [ze2 (by decide)] | rw [zd1 (by decide)] | rw [zd2 (by decide)] | rw [zswy (by decide)] | rw [zswn (by decide)] | rw [zsw0] | rw [in5_3] | rw [in5_1] | refine zR.step rfl ?_ | refine zR.cs rfl rfl rfl rfl rfl (zCalP.of (c_isWithin _ _ _) ?_) | (refine zR.iald rfl h1 (Or.inr rfl) (i := 3) rfl (by omega) (by decide) ?_; rw [ab_3]))
    exact zR.ret rfl rfl hQ
  | 2, _ => by
    intro Q hQ
    show zR ztb _ kX11_isOfKind 2 0 [some (.int 3), some (.int 2), none, none] [] _ _ _ _
    repeat (first | rw [zcc1] | rw [zcc2] | rw [zcc3] | rw [zcc4] | rw [zb1 (by decide)] | rw [zb2 (by decide)] | rw [zb3 (by decide)] | rw [zb4 (by decide)] | rw [zn1 (by decide)] | rw [zn2 (by decide)] | rw [zn3 (by decide)] | rw [zn4 (by decide)] | rw [ze1 (by decide)] | rw [ze2 (by decide)] | rw [zd1 (by decide)] | rw [zd2 (by decide)] | rw [zswy (by decide)] | rw [zswn (by decide)] | rw [zsw0] | rw [in5_3] | rw [in5_1] | rw [in5_0] | rw [in5_m] | refine zR.step rfl ?_ | refine zR.cs rfl rfl rfl rfl rfl (zCalP.of (c_isWithin _ _ _) ?_) | (refine zR.iald rfl h1 (Or.inr rfl) (i := 3) rfl (by omega) (by decide) ?_; rw [ab_3]) | (refine zR.iald rfl h1 (Or.inr rfl) (i := 1) rfl (by omega) (by decide) ?_; rw [ab_1]) | (refine zR.iald rfl h1 (Or.inr rfl) (i := 0) rfl (by omega) (by decide) ?_; rw [ab_0]))
    exact zR.ret rfl rfl hQ
  | 3, _ => by
    intro Q hQ
    show zR ztb _ kX11_isOfKind 2 0 [some (.int 3), some (.int 3), none, none] [] _ _ _ _
    repeat (first | rw [zcc1] | rw [zcc2] | rw [zcc3] | rw [zcc4] | rw [zb1 (by decide)] | rw [zb2 (by decide)] | rw [zb3 (by decide)] | rw [zb4 (by decide)] | rw [zn1 (by decide)] | rw [zn2 (by decide)] | rw [zn3 (by decide)] | rw [zn4 (by decide)] | rw [ze1 (by decide)] | rw [ze2 (by decide)] | rw [zd1 (by decide)] | rw [zd2 (by decide)] | rw [zswy (by decide)] | rw [zswn (by decide)] | rw [zsw0] | rw [in5_3] | refine zR.step rfl ?_ | refine zR.cs rfl rfl rfl rfl rfl (zCalP.of (c_isWithin _ _ _) ?_))
    exact zR.ret rfl rfl hQ
  | 4, _ => by
    intro Q hQ
    show zR ztb _ kX11_isOfKind 2 0 [some (.int 3), some (.int 4), none, none] [] _ _ _ _
    repeat (first | rw [zcc1] | rw [zcc2] | rw [zcc3] | rw [zcc4] | rw [zb1 (by decide)] | rw [zb2 (by decide)] | rw [zb3 (by decide)] | rw [zb4 (by decide)] | rw [zn1 (by decide)] | rw [zn2 (by decide)] | rw [zn3 (by decide)] | rw [zn4 (by decide)] | rw [ze1 (by decide)] | rw [ze2 (by decide)] | rw [zd1 (by decide)] | rw [zd2 (by decide)] | rw [zswy (by decide)] | rw [zswn (by decide)] | rw [zsw0] | rw [in5_3] | rw [in5_1] | rw [in5_0] | rw [in5_m] | refine zR.step rfl ?_ | refine zR.cs rfl rfl rfl rfl rfl (zCalP.of (c_isWithin _ _ _) ?_) | (refine zR.iald rfl h1 (Or.inr rfl) (i := 3) rfl (by omega) (by decide) ?_; rw [ab_3]) | (refine zR.iald rfl h1 (Or.inr rfl) (i := 1) rfl (by omega) (by decide) ?_; rw [ab_1]) | (refine zR.iald rfl h1 (Or.inr rfl) (i := 0) rfl (by omega) (by decide) ?_; rw [ab_0]))
    exact zR.ret rfl rfl hQ
  | 5, _ => by
    intro Q hQ
    show zR ztb _ kX11_isOfKind 2 0 [some (.int 3), some (.int 5), none, none] [] _ _ _ _
    repeat (first | rw [zcc1] | rw [zcc2] | rw [zcc3] | rw [zcc4] | rw [zb1 (by decide)] | rw [zb2 (by decide)] | rw [zb3 (by decide)] | rw [zb4 (by decide)] | rw [zn1 (by decide)] | rw [zn2 (by decide)] | rw [zn3 (by decide)] | rw [zn4 (by decide)] | rw [ze1 (by decide)] | rw [ze2 (by decide)] | rw [zd1 (by decide)] | rw [zd2 (by decide)] | rw [zswy (by decide)] | rw [zswn (by decide)] | rw [zsw0] | rw [in5_3] | rw [in5_1] | rw [in5_0] | rw [in5_m] | refine zR.step rfl ?_ | refine zR.cs rfl rfl rfl rfl rfl (zCalP.of (c_isWithin _ _ _) ?_) | (refine zR.iald rfl h1 (Or.inr rfl) (i := 3) rfl (by omega) (by decide) ?_; rw [ab_3]) | (refine zR.iald rfl h1 (Or.inr rfl) (i := 1) rfl (by omega) (by decide) ?_; rw [ab_1]) | (refine zR.iald rfl h1 (Or.inr rfl) (i := 0) rfl (by omega) (by decide) ?_; rw [ab_0]))
    exact zR.ret rfl rfl hQ
  | q + 6, h => absurd h (by omega)
theorem isk_4 {M : zM} {d n w : Nat} (h1 : M 1 = .inl (7, 6, .inl above)) : ∀ q, q < 6 → zCall (d + 1) 129 [.int 4, .int (nI q)] n w M (some (.int (ofK 4 q))) n w M
  | 0, _ => by
    intro Q hQ
    show zR ztb _ kX11_isOfKind 2 0 [some (.int 4), some (.int 0), none, none] [] _ _ _ _
    repeat (first | rw [zcc1] | rw [zcc2] | rw [zcc3] | rw [zcc4] | rw [zb1 (by decide)] | rw [zb2 (by decide)] | rw [zb3 (by decide)] | rw [zb4 (by decide)] | rw [zn1 (by decide)] | rw [zn2 (by decide)] | rw [zn3 (by decide)] | rw [zn4 (by decide)] | rw [ze1 (by decide)] | rw [ze2 (by decide)] | rw [zd1 (by decide)] | rw [zd2 (by decide)] | rw [zswy (by decide)] | rw [zswn (by decide)] | rw [zsw0] | rw [in5_4] | rw [in5_0] | refine zR.step rfl ?_ | refine zR.cs rfl rfl rfl rfl rfl (zCalP.of (c_isWithin _ _ _) ?_) | (refine zR.iald rfl h1 (Or.inr rfl) (i := 4) rfl (by omega) (by decide) ?_; rw [ab_4]))
    exact zR.ret rfl rfl hQ
  | 1, _ => by
    intro Q hQ
    show zR ztb _ kX11_isOfKind 2 0 [some (.int 4), some (.int 1), none, none] [] _ _ _ _
    repeat (first | rw [zcc1] | rw [zcc2] | rw [zcc3] | rw [zcc4] | rw [zb1 (by decide)] | rw [zb2 (by decide)] | rw [zb3 (by decide)] | rw [zb4 (by decide)] | rw [zn1 (by decide)] | rw [zn2 (by decide)] | rw [zn3 (by decide)] | rw [zn4 (by decide)] | rw [ze1 (by decide)] | rw [ze2 (by decide)] | rw [zd1 (by decide)] | rw [zd2 (by decide)] | rw [zswy (by decide)] | rw [zswn (by decide)] | rw [zsw0] | rw [in5_4] | rw [in5_0] | rw [in5_m] | refine zR.step rfl ?_ | refine zR.cs rfl rfl rfl rfl rfl (zCalP.of (c_isWithin _ _ _) ?_) | (refine zR.iald rfl h1 (Or.inr rfl) (i := 4) rfl (by omega) (by decide) ?_; rw [ab_4]) | (refine zR.iald rfl h1 (Or.inr rfl) (i := 0) rfl (by omega) (by decide) ?_; rw [ab_0]))
    exact zR.ret rfl rfl hQ
  | 2, _ => by
    intro Q hQ
    show zR ztb _ kX11_isOfKind 2 0 [some (.int 4), some (.int 2), none, none] [] _ _ _ _
    repeat (first | rw [zcc1] | rw [zcc2] | rw [zcc3] | rw [zcc4] | rw [zb1 (by decide)] | rw [zb2 (by decide)] | rw [zb3 (by decide)] | rw [zb4 (by decide)] | rw [zn1 (by decide)] | rw [zn2 (by decide)] | rw [zn3 (by decide)] | rw [zn4 (by decide)] | rw [ze1 (by decide)] | rw [ze2 (by decide)] | rw [zd1 (by decide)] | rw [zd2 (by decide)] | rw [zswy (by decide)] | rw [zswn (by decide)] | rw [zsw0] | rw [in5_4] | rw [in5_0] | rw [in5_m] | refine zR.step rfl ?_ | refine zR.cs rfl rfl rfl rfl rfl (zCalP.of (c_isWithin _ _ _) ?_) | (refine zR.iald rfl h1 (Or.inr rfl) (i := 4) rfl (by omega) (by decide) ?_; rw [ab_4]) | (refine zR.iald rfl h1 (Or.inr rfl) (i := 0) rfl (by omega) (by decide) ?_; rw [ab_0]))
    exact zR.ret rfl rfl hQ
  | 3, _ => by
    intro Q hQ
    show zR ztb _ kX11_isOfKind 2 0 [some (.int 4), some (.int 3), none, none] [] _ _ _ _
    repeat (first | rw [zcc1] | rw [zcc2] | rw [zcc3] | rw [zcc4] | rw [zb1 (by decide)] | rw [zb2 (by decide)] | rw [zb3 (by decide)] | rw [zb4 (by decide)] | rw [zn1 (by decide)] | rw [zn2 (by decide)] | rw [zn3 (by decide)] | rw [zn4 (by decide)] | rw [ze1 (by decide)] | rw [ze2 (by decide)] | rw [zd1 (by decide)] | rw [zd2 (by decide)] | rw [zswy (by decide)] | rw [zswn (by decide)] | rw [zsw0] | rw [in5_4] | rw [in5_0] | rw [in5_m] | refine zR.step rfl ?_ | refine zR.cs rfl rfl rfl rfl rfl (zCalP.of (c_isWithin _ _ _) ?_) | (refine zR.iald rfl h1 (Or.inr rfl) (i := 4) rfl (by omega) (by decide) ?_; rw [ab_4]) | (refine zR.iald rfl h1 (Or.inr rfl) (i := 0) rfl (by omega) (by decide) ?_; rw [ab_0]))
    exact zR.ret rfl rfl hQ
  | 4, _ => by
    intro Q hQ
    show zR ztb _ kX11_isOfKind 2 0 [some (.int 4), some (.int 4), none, none] [] _ _ _ _
    repeat (first | rw [zcc1] | rw [zcc2] | rw [zcc3] | rw [zcc4] | rw [zb1 (by decide)] | rw [zb2 (by decide)] | rw [zb3 (by decide)] | rw [zb4 (by decide)] | rw [zn1 (by decide)] | rw [zn2 (by decide)] | rw [zn3 (by decide)] | rw [zn4 (by decide)] | rw [ze1 (by decide)] | rw [ze2 (by decide)] | rw [zd1 (by decide)] | rw [zd2 (by decide)] | rw [zswy (by decide)] | rw [zswn (by decide)] | rw [zsw0] | rw [in5_4] | refine zR.step rfl ?_ | refine zR.cs rfl rfl rfl rfl rfl (zCalP.of (c_isWithin _ _ _) ?_))
    exact zR.ret rfl rfl hQ
  | 5, _ => by
    intro Q hQ
    show zR ztb _ kX11_isOfKind 2 0 [some (.int 4), some (.int 5), none, none] [] _ _ _ _
    repeat (first | rw [zcc1] | rw [zcc2] | rw [zcc3] | rw [zcc4] | rw [zb1 (by decide)] | rw [zb2 (by decide)] | rw [zb3 (by decide)] | rw [zb4 (by decide)] | rw [zn1 (by decide)] | rw [zn2 (by decide)] | rw [zn3 (by decide)] | rw [zn4 (by decide)] | rw [ze1 (by decide)] | rw [ze2 (by decide)] | rw [zd1 (by decide)] | rw [zd2 (by decide)] | rw [zswy (by decide)] | rw [zswn (by decide)] | rw [zsw0] | rw [in5_4] | rw [in5_0] | rw [in5_m] | refine zR.step rfl ?_ | refine zR.cs rfl rfl rfl rfl rfl (zCalP.of (c_isWithin _ _ _) ?_) | (refine zR.iald rfl h1 (Or.inr rfl) (i := 4) rfl (by omega) (by decide) ?_; rw [ab_4]) | (refine zR.iald rfl h1 (Or.inr rfl) (i := 0) rfl (by omega) (by decide) ?_; rw [ab_0]))
    exact zR.ret rfl rfl hQ
  | q + 6, h => absurd h (by omega)
theorem isk_5 {M : zM} {d n w : Nat} (h1 : M 1 = .inl (7, 6, .inl above)) : ∀ q, q < 6 → zCall (d + 1) 129 [.int 5, .int (nI q)] n w M (some (.int (ofK 5 q))) n w M
  | 0, _ => by
    intro Q hQ
    show zR ztb _ kX11_isOfKind 2 0 [some (.int 5), some (.int 0), none, none] [] _ _ _ _
    repeat (first | rw [zcc1] | rw [zcc2] | rw [zcc3] | rw [zcc4] | rw [zb1 (by decide)] | rw [zb2 (by decide)] | rw [zb3 (by decide)] | rw [zb4 (by decide)] | rw [zn1 (by decide)] | rw [zn2 (by decide)] | rw [zn3 (by decide)] | rw [zn4 (by decide)] | rw [ze1 (by decide)] | rw [ze2 (by decide)] | rw [zd1 (by decide)] | rw [zd2 (by decide)] | rw [zswy (by decide)] | rw [zswn (by decide)] | rw [zsw0] | rw [in5_5] | rw [in5_3] | rw [in5_1] | rw [in5_0] | refine zR.step rfl ?_ | refine zR.cs rfl rfl rfl rfl rfl (zCalP.of (c_isWithin _ _ _) ?_) | (refine zR.iald rfl h1 (Or.inr rfl) (i := 5) rfl (by omega) (by decide) ?_; rw [ab_5]) | (refine zR.iald rfl h1 (Or.inr rfl) (i := 3) rfl (by omega) (by decide) ?_; rw [ab_3]) | (refine zR.iald rfl h1 (Or.inr rfl) (i := 1) rfl (by omega) (by decide) ?_; rw [ab_1]))
    exact zR.ret rfl rfl hQ
  | 1, _ => by
    intro Q hQ
    show zR ztb _ kX11_isOfKind 2 0 [some (.int 5), some (.int 1), none, none] [] _ _ _ _
    repeat (first | rw [zcc1] | rw [zcc2] | rw [zcc3] | rw [zcc4] | rw [zb1 (by decide)] | rw [zb2 (by decide)] | rw [zb3 (by decide)] | rw [zb4 (by decide)] | rw [zn1 (by decide)] | rw [zn2 (by decide)] | rw [zn3 (by decide)] | rw [zn4 (by decide)] | rw [ze1 (by decide)] | rw [ze2 (by decide)] | rw [zd1 (by decide)] | rw [zd2 (by decide)] | rw [zswy (by decide)] | rw [zswn (by decide)] | rw [zsw0] | rw [in5_5] | rw [in5_3] | rw [in5_1] | refine zR.step rfl ?_ | refine zR.cs rfl rfl rfl rfl rfl (zCalP.of (c_isWithin _ _ _) ?_) | (refine zR.iald rfl h1 (Or.inr rfl) (i := 5) rfl (by omega) (by decide) ?_; rw [ab_5]) | (refine zR.iald rfl h1 (Or.inr rfl) (i := 3) rfl (by omega) (by decide) ?_; rw [ab_3]))
    exact zR.ret rfl rfl hQ
  | 2, _ => by
    intro Q hQ
    show zR ztb _ kX11_isOfKind 2 0 [some (.int 5), some (.int 2), none, none] [] _ _ _ _
    repeat (first | rw [zcc1] | rw [zcc2] | rw [zcc3] | rw [zcc4] | rw [zb1 (by decide)] | rw [zb2 (by decide)] | rw [zb3 (by decide)] | rw [zb4 (by decide)] | rw [zn1 (by decide)] | rw [zn2 (by decide)] | rw [zn3 (by decide)] | rw [zn4 (by decide)] | rw [ze1 (by decide)] | rw [ze2 (by decide)] | rw [zd1 (by decide)] | rw [zd2 (by decide)] | rw [zswy (by decide)] | rw [zswn (by decide)] | rw [zsw0] | rw [in5_5] | rw [in5_3] | rw [in5_1] | rw [in5_0] | rw [in5_m] | refine zR.step rfl ?_ | refine zR.cs rfl rfl rfl rfl rfl (zCalP.of (c_isWithin _ _ _) ?_) | (refine zR.iald rfl h1 (Or.inr rfl) (i := 5) rfl (by omega) (by decide) ?_; rw [ab_5]) | (refine zR.iald rfl h1 (Or.inr rfl) (i := 3) rfl (by omega) (by decide) ?_; rw [ab_3]) | (refine zR.iald rfl h1 (Or.inr rfl) (i := 1) rfl (by omega) (by decide) ?_; rw [ab_1]) | (refine zR.iald rfl h1 (Or.inr rfl) (i := 0) rfl (by omega) (by decide) ?_; rw [ab_0]))
    exact zR.ret rfl rfl hQ
  | 3, _ => by
    intro Q hQ
    show zR ztb _ kX11_isOfKind 2 0 [some (.int 5), some (.int 3), none, none] [] _ _ _ _
    repeat (first | rw [zcc1] | rw [zcc2] | rw [zcc3] | rw [zcc4] | rw [zb1 (by decide)] | rw [zb2 (by decide)] | rw [zb3 (by decide)] | rw [zb4 (by decide)] | rw [zn1 (by decide)] | rw [zn2 (by decide)] | rw [zn3 (by decide)] | rw [zn4 (by decide)] | rw [ze1 (by decide)] | rw [ze2 (by decide)] | rw [zd1 (by decide)] | rw [zd2 (by decide)] | rw [zswy (by decide)] | rw [zswn (by decide)] | rw [zsw0] | rw [in5_5] | rw [in5_3] | refine zR.step rfl ?_ | refine zR.cs rfl rfl rfl rfl rfl (zCalP.of (c_isWithin _ _ _) ?_) | (refine zR.iald rfl h1 (Or.inr rfl) (i := 5) rfl (by omega) (by decide) ?_; rw [ab_5]))
    exact zR.ret rfl rfl hQ
  | 4, _ => by
    intro Q hQ
    show zR ztb _ kX11_isOfKind 2 0 [some (.int 5), some (.int 4), none, none] [] _ _ _ _
    repeat (first | rw [zcc1] | rw [zcc2] | rw [zcc3] | rw [zcc4] | rw [zb1 (by decide)] | rw [zb2 (by decide)] | rw [zb3 (by decide)] | rw [zb4 (by decide)] | rw [zn1 (by decide)] | rw [zn2 (by decide)] | rw [zn3 (by decide)] | rw [zn4 (by decide)] | rw [ze1 (by decide)] | rw [ze2 (by decide)] | rw [zd1 (by decide)] | rw [zd2 (by decide)] | rw [zswy (by decide)] | rw [zswn (by decide)] | rw [zsw0] | rw [in5_5] | rw [in5_3] | rw [in5_1] | rw [in5_0] | rw [in5_m] | refine zR.step rfl ?_ | refine zR.cs rfl rfl rfl rfl rfl (zCalP.of (c_isWithin _ _ _) ?_) | (refine zR.iald rfl h1 (Or.inr rfl) (i := 5) rfl (by omega) (by decide) ?_; rw [ab_5]) | (refine zR.iald rfl h1 (Or.inr rfl) (i := 3) rfl (by omega) (by decide) ?_; rw [ab_3]) | (refine zR.iald rfl h1 (Or.inr rfl) (i := 1) rfl (by omega) (by decide) ?_; rw [ab_1]) | (refine zR.iald rfl h1 (Or.inr rfl) (i := 0) rfl (by omega) (by decide) ?_; rw [ab_0]))
    exact zR.ret rfl rfl hQ
  | 5, _ => by
    intro Q hQ
    show zR ztb _ kX11_isOfKind 2 0 [some (.int 5), some (.int 5), none, none] [] _ _ _ _
    repeat (first | rw [zcc1] | rw [zcc2] | rw [zcc3] | rw [zcc4] | rw [zb1 (by decide)] | rw [zb2 (by decide)] | rw [zb3 (by decide)] | rw [zb4 (by decide)] | rw [zn1 (by decide)] | rw [zn2 (by decide)] | rw [zn3 (by decide)] | rw [zn4 (by decide)] | rw [ze1 (by decide)] | rw [ze2 (by decide)] | rw [zd1 (by decide)] | rw [zd2 (by decide)] | rw [zswy (by decide)] | rw [zswn (by decide)] | rw [zsw0] | rw [in5_5] | refine zR.step rfl ?_ | refine zR.cs rfl rfl rfl rfl rfl (zCalP.of (c_isWithin _ _ _) ?_))
    exact zR.ret rfl rfl hQ
  | q + 6, h => absurd h (by omega)
theorem c_isOfKind {M : zM} {d n w : Nat} (h1 : M 1 = .inl (7, 6, .inl above)) : ∀ k, k < 6 → ∀ q, q < 6 → zCall (d + 1) 129 [.int (nI k), .int (nI q)] n w M (some (.int (ofK k q))) n w M
  | 0, _ => isk_0 h1
  | 1, _ => isk_1 h1
  | 2, _ => isk_2 h1
  | 3, _ => isk_3 h1
  | 4, _ => isk_4 h1
  | 5, _ => isk_5 h1
  | k + 6, h => absurd h (by omega)
/-- one bed of a garden written anew -/
theorem GR.bed {M : zM} {n : Nat} {c : mS} {kp bt : Nat → Option Nat} {la : Nat} {s : Nat → Int32} {b : Nat} {x y : Nat → Int32} {z : Option Nat} (h : GR M n c kp bt la s) (hb : b < 8) (hx8 : c (20 + b) 8 = 0 ∨ c (20 + b) 8 = 1 → x 8 = 0 ∨ x 8 = 1) (hy : ∀ k, ¬ (150 + 10 * b ≤ k ∧ k < 160 + 10 * b) → y k = s k) (hp : ∀ nc, nc ≤ 8 → s 2 = nI nc → PBi M n c bt s nc b → PBi M n (zuf c (20 + b) x) (zuf bt b z) y nc b) : GR M n (zuf c (20 + b) x) kp (zuf bt b z) la y := by
  obtain ⟨nc, nh, nl, lm, wk, h1, h2, h3, h4, h5, h6, h7, h8⟩ := h
  have g1 : nc ≤ 8 := h1.2.1
  have g2 : nh ≤ 10 := h1.2.2.2.1
  have g3 : nl ≤ 240 := h1.2.2.2.2.2.1
  have g4 : lm ≤ 20 := h1.2.2.2.2.2.2.2.1
  have g5 : wk ≤ 30 := h1.2.2.2.2.2.2.2.2.2.1
  refine ⟨nc, nh, nl, lm, wk, ?_, h2.cg g1 (fun i hi => hy i (by omega)), fun q hq => ?_, h4.cg g3 (fun i hi => hy i (by omega)) (fun j hj => zuf_ne _ _ (by omega)), h5.cg g3 (fun i hi => hy i (by omega)) (fun j hj => zuf_ne _ _ (by omega)), h6.cg g2 (fun i hi => hy i (by omega)) (fun j hj => zuf_ne _ _ (by omega)), h7.cg (fun i hi => hy i (by omega)) (zuf_ne _ _ (by omega)), h8.cg g4 (fun i hi => hy i (by omega))⟩
  · unfold PN at h1 ⊢
    rw [hy 2 (by omega), hy 4 (by omega), hy 3 (by omega), hy 5 (by omega), hy 0 (by omega), hy 1 (by omega), zuf_ne _ _ (by omega)]
    obtain ⟨N1, N2, N3, N4, N5, N6, N7, N8, N9, N10, N11, N12, N13, N14, N15, N16, N17⟩ := h1
    exact ⟨N1, N2, N3, N4, N5, N6, N7, N8, N9, N10, N11, N12, N13, N14, N15, fun h a z k a2 b2 => by rw [hy _ (by omega)]; exact N16 h a z k a2 b2, fun q hq => by
      by_cases e : q = b
      · subst e
        rw [zuf_self]
        exact hx8 (N17.1 q hq)
      · rw [zuf_ne _ _ (by omega)]
        exact N17.1 q hq, fun q hq => by rw [zuf_ne _ _ (by omega)]; exact N17.2 q hq⟩
  · by_cases e : q = b
    · subst e
      exact hp nc g1 h1.1 (h3 q hq)
    · exact PBi.cg (h3 q hq) g1 (fun i hi => hy i (by omega)) (fun k hk => hy _ (by omega)) (zuf_ne _ _ (by omega)) (zuf_ne _ _ e)
