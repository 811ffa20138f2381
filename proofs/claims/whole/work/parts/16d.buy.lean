
/-! buy. -/
/-- the lot written at l -/
def lotY (y : Nat → Int32) (l i : Nat) (bd cm x : Int32) : Nat → Int32 := zuf (zuf (zuf (zuf (zuf (zuf (zuf (zuf y (250 + 6 * l) (nI i)) (250 + 6 * l + 1) bd) (250 + 6 * l + 2) cm) (250 + 6 * l + 3) (y 0)) (250 + 6 * l + 4) x) (250 + 6 * l + 5) x) (50 + 10 * i + 6) (y (50 + 10 * i + 6) + x)) 3 (nI l + 1)
theorem c_newLot {M M0 : zM} {σ : mS} {y : Nat → Int32} {d n w l i : Nat} (hR : Rf M (zuf σ 0 y)) (hS : Sm M0 M) (h3 : y 3 = nI l) (hl : l < 240) (hi : i < 8) (bd cm x : Int32) : zCalP d 142 [.ref 287, .int (nI i), .int bd, .int cm, .int x] n w M (fun v n' w' M' => v = some (.int (nI l)) ∧ n' = n ∧ w' = w ∧ Rf M' (zuf σ 0 (lotY y l i bd cm x)) ∧ Sm M0 M') := by
  show zR ztb _ kX12_newLot 1 0 [some (.ref 287), some (.int (nI i)), some (.int bd), some (.int cm), some (.int x), none] [] _ _ _ _
  have e0 : nI l + 1 - 1 = nI l := by rw [zI_s, zI_pred (by omega) (by omega)]; rfl
  repeat (first | rw [zcc1] | rw [zcc2] | rw [zcc3] | rw [zcc4] | rw [h3] | refine zR.step rfl ?_ | refine zR.getf rfl (hR.1) rfl ?_ | refine zR.ilY hR rfl (by (try simp only [zn_lit, zn_add, zn_mul]); rfl) (by omega) ?_)
  refine zR.isY hR hS rfl (i := 250 + 6 * l) (by simp only [zn_lit, zn_add, zn_mul]) (by omega) (fun M1 hR hS => ?_)
  repeat (first | rw [zcc1] | rw [zcc2] | rw [zcc3] | rw [zcc4] | refine zR.step rfl ?_ | refine zR.getf rfl (hR.1) rfl ?_ | refine zR.ilY hR rfl (by (try simp only [zn_lit, zn_add, zn_mul]); rfl) (by omega) ?_)
  refine zR.isY hR hS rfl (i := 250 + 6 * l + 1) (by simp only [zn_lit, zn_add, zn_mul]) (by omega) (fun M1 hR hS => ?_)
  repeat (first | rw [zcc1] | rw [zcc2] | rw [zcc3] | rw [zcc4] | refine zR.step rfl ?_ | refine zR.getf rfl (hR.1) rfl ?_ | refine zR.ilY hR rfl (by (try simp only [zn_lit, zn_add, zn_mul]); rfl) (by omega) ?_)
  refine zR.isY hR hS rfl (i := 250 + 6 * l + 2) (by simp only [zn_lit, zn_add, zn_mul]) (by omega) (fun M1 hR hS => ?_)
  repeat (first | rw [zcc1] | rw [zcc2] | rw [zcc3] | rw [zcc4] | refine zR.step rfl ?_ | refine zR.getf rfl (hR.1) rfl ?_ | (refine zR.ilY hR rfl (i := 0) rfl (by omega) ?_; rw [zuf_ne _ _ (by omega), zuf_ne _ _ (by omega), zuf_ne _ _ (by omega)]))
  refine zR.isY hR hS rfl (i := 250 + 6 * l + 3) (by simp only [zn_lit, zn_add, zn_mul]) (by omega) (fun M1 hR hS => ?_)
  repeat (first | rw [zcc1] | rw [zcc2] | rw [zcc3] | rw [zcc4] | refine zR.step rfl ?_ | refine zR.getf rfl (hR.1) rfl ?_ | refine zR.ilY hR rfl (by (try simp only [zn_lit, zn_add, zn_mul]); rfl) (by omega) ?_)
  refine zR.isY hR hS rfl (i := 250 + 6 * l + 4) (by simp only [zn_lit, zn_add, zn_mul]) (by omega) (fun M1 hR hS => ?_)
  repeat (first | rw [zcc1] | rw [zcc2] | rw [zcc3] | rw [zcc4] | refine zR.step rfl ?_ | refine zR.getf rfl (hR.1) rfl ?_ | refine zR.ilY hR rfl (by (try simp only [zn_lit, zn_add, zn_mul]); rfl) (by omega) ?_)
  refine zR.isY hR hS rfl (i := 250 + 6 * l + 5) (by simp only [zn_lit, zn_add, zn_mul]) (by omega) (fun M1 hR hS => ?_)
  repeat (first | rw [zcc1] | rw [zcc2] | rw [zcc3] | rw [zcc4] | refine zR.step rfl ?_ | refine zR.getf rfl (hR.1) rfl ?_ | (refine zR.ilY hR rfl (i := 50 + 10 * i + 6) (by simp only [zn_lit, zn_add, zn_mul]) (by omega) ?_; rw [zuf_ne _ _ (by omega), zuf_ne _ _ (by omega), zuf_ne _ _ (by omega), zuf_ne _ _ (by omega), zuf_ne _ _ (by omega), zuf_ne _ _ (by omega)]))
  refine zR.isY hR hS rfl (i := 50 + 10 * i + 6) (by simp only [zn_lit, zn_add, zn_mul]) (by omega) (fun M1 hR hS => ?_)
  repeat (first | rw [zcc1] | rw [zcc2] | rw [zcc3] | rw [zcc4] | refine zR.step rfl ?_ | refine zR.getf rfl (hR.1) rfl ?_ | (refine zR.ilY hR rfl (i := 3) rfl (by omega) ?_; rw [zuf_ne _ _ (by omega), zuf_ne _ _ (by omega), zuf_ne _ _ (by omega), zuf_ne _ _ (by omega), zuf_ne _ _ (by omega), zuf_ne _ _ (by omega), zuf_ne _ _ (by omega), h3]))
  refine zR.isY hR hS rfl (i := 3) rfl (by omega) (fun M1 hR hS => ?_)
  repeat (first | rw [zcc1] | rw [zcc2] | rw [zcc3] | rw [zcc4] | rw [e0] | refine zR.step rfl ?_ | refine zR.getf rfl (hR.1) rfl ?_ | (refine zR.ilY hR rfl (i := 3) rfl (by omega) ?_; rw [zuf_self]))
  refine zR.ret rfl rfl ⟨rfl, rfl, rfl, hR, hS⟩
/-- the garden's cells with a lot more -/
def lotC (c : mS) (l i : Nat) (bd cm x : Int32) : mS := zuf (zuf (zuf (zuf (zuf (zuf (zuf (zuf (zuf c 1 (zuf (c 1) l (nI i))) 2 (zuf (c 2) l bd)) 3 (zuf (c 3) l cm)) 4 (zuf (c 4) l (c 0 2))) 5 (zuf (c 5) l x)) 6 (zuf (c 6) l x)) 0 (zuf (c 0) 4 (nI l + 1))) 8 (zuf (c 8) i (c 8 i + x))) 9 (zuf (c 9) i (c 9 i + x))
theorem c_lotsAdd {M : zM} {g : Nat} {c : mS} {kp bt : Nat → Option Nat} {la : Nat} {d n w l : Nat} (hG : Gc M g c kp bt la) (h4 : c 0 4 = nI l) (hl : l < 240) (a b e f x : Int32) : zCalP d 57 [.ref (g + 4), .int a, .int b, .int e, .int f, .int x] n w M (fun v n' w' M' => v = some (.int (nI l)) ∧ n = n' ∧ w = w' ∧ Gc M' g (zuf (zuf (zuf (zuf (zuf (zuf (zuf c 1 (zuf (c 1) l a)) 2 (zuf (c 2) l b)) 3 (zuf (c 3) l e)) 4 (zuf (c 4) l f)) 5 (zuf (c 5) l x)) 6 (zuf (c 6) l x)) 0 (zuf (c 0) 4 (nI l + 1))) kp bt la ∧ ∀ k, k < g ∨ g + 76 ≤ k → M' k = M k) := by
  show zR ztb _ kX6_add 1 0 [some (.ref (g + 4)), some (.int a), some (.int b), some (.int e), some (.int f), some (.int x)] [] _ _ _ _
  have e1 : nI l < 240 := zI_ylt (b := 240) (by omega) (by omega)
  have e0 : nI l + 1 - 1 = nI l := by rw [zI_s, zI_pred (by omega) (by omega)]; rfl
  have f0 : ∀ k, k < g ∨ g + 76 ≤ k → M k = M k := fun _ _ => rfl
  have ho := hG.lo
  rw [h4] at ho
  repeat (first | rw [zcc1] | rw [zcc2] | rw [zcc3] | rw [zcc4] | rw [zb1 (e1)] | rw [zb2 (e1)] | rw [zb3 (e1)] | rw [zb4 (e1)] | refine zR.step rfl ?_ | refine zR.getf rfl (ho) rfl ?_)
  refine zR.iast rfl hG.l0 (i := l) rfl (by omega) (by decide) ?_
  have hG1 := hG.upL (j := 0) (by omega) (zuf (c 1) l a)
  replace ho := hG1.lo
  replace ho := ho.trans (by rw [show (zuf (c) 1 (zuf (c 1) l a)) 0 4 = nI l from h4])
  repeat (first | rw [zcc1] | rw [zcc2] | rw [zcc3] | rw [zcc4] | refine zR.step rfl ?_ | refine zR.getf rfl (ho) rfl ?_)
  refine zR.iast rfl hG1.l1 (i := l) rfl (by omega) (by decide) ?_
  have hG2 := hG1.upL (j := 1) (by omega) (zuf (c 2) l b)
  replace ho := hG2.lo
  replace ho := ho.trans (by rw [show (zuf (zuf (c) 1 (zuf (c 1) l a)) 2 (zuf (c 2) l b)) 0 4 = nI l from h4])
  repeat (first | rw [zcc1] | rw [zcc2] | rw [zcc3] | rw [zcc4] | refine zR.step rfl ?_ | refine zR.getf rfl (ho) rfl ?_)
  refine zR.iast rfl hG2.l2 (i := l) rfl (by omega) (by decide) ?_
  have hG3 := hG2.upL (j := 2) (by omega) (zuf (c 3) l e)
  replace ho := hG3.lo
  replace ho := ho.trans (by rw [show (zuf (zuf (zuf (c) 1 (zuf (c 1) l a)) 2 (zuf (c 2) l b)) 3 (zuf (c 3) l e)) 0 4 = nI l from h4])
  repeat (first | rw [zcc1] | rw [zcc2] | rw [zcc3] | rw [zcc4] | refine zR.step rfl ?_ | refine zR.getf rfl (ho) rfl ?_)
  refine zR.iast rfl hG3.l3 (i := l) rfl (by omega) (by decide) ?_
  have hG4 := hG3.upL (j := 3) (by omega) (zuf (c 4) l f)
  replace ho := hG4.lo
  replace ho := ho.trans (by rw [show (zuf (zuf (zuf (zuf (c) 1 (zuf (c 1) l a)) 2 (zuf (c 2) l b)) 3 (zuf (c 3) l e)) 4 (zuf (c 4) l f)) 0 4 = nI l from h4])
  repeat (first | rw [zcc1] | rw [zcc2] | rw [zcc3] | rw [zcc4] | refine zR.step rfl ?_ | refine zR.getf rfl (ho) rfl ?_)
  refine zR.iast rfl hG4.l4 (i := l) rfl (by omega) (by decide) ?_
  have hG5 := hG4.upL (j := 4) (by omega) (zuf (c 5) l x)
  replace ho := hG5.lo
  replace ho := ho.trans (by rw [show (zuf (zuf (zuf (zuf (zuf (c) 1 (zuf (c 1) l a)) 2 (zuf (c 2) l b)) 3 (zuf (c 3) l e)) 4 (zuf (c 4) l f)) 5 (zuf (c 5) l x)) 0 4 = nI l from h4])
  repeat (first | rw [zcc1] | rw [zcc2] | rw [zcc3] | rw [zcc4] | refine zR.step rfl ?_ | refine zR.getf rfl (ho) rfl ?_)
  refine zR.iast rfl hG5.l5 (i := l) rfl (by omega) (by decide) ?_
  have hG6 := hG5.upL (j := 5) (by omega) (zuf (c 6) l x)
  replace ho := hG6.lo
  replace ho := ho.trans (by rw [show (zuf (zuf (zuf (zuf (zuf (zuf (c) 1 (zuf (c 1) l a)) 2 (zuf (c 2) l b)) 3 (zuf (c 3) l e)) 4 (zuf (c 4) l f)) 5 (zuf (c 5) l x)) 6 (zuf (c 6) l x)) 0 4 = nI l from h4])
  repeat (first | rw [zcc1] | rw [zcc2] | rw [zcc3] | rw [zcc4] | refine zR.step rfl ?_ | refine zR.getf rfl (ho) rfl ?_)
  refine zR.putf rfl ho rfl rfl ?_
  have hG7 := hG6.upLo (nI l + 1)
  repeat (first | rw [zcc1] | rw [zcc2] | rw [zcc3] | rw [zcc4] | rw [e0] | refine zR.step rfl ?_ | refine zR.getf rfl (hG7.lo) rfl ?_)
  refine zR.ret rfl rfl ⟨by show some (Value.int (nI l + 1 - 1)) = _; rw [e0], rfl, rfl, hG7, fun k hk => ?_⟩
  rw [zup_ne _ _ (by omega), zup_ne _ _ (by omega), zup_ne _ _ (by omega), zup_ne _ _ (by omega), zup_ne _ _ (by omega), zup_ne _ _ (by omega), zup_ne _ _ (by omega)]
theorem c_addLot {M : zM} {g : Nat} {c : mS} {kp bt : Nat → Option Nat} {la : Nat} {d n w l i ca : Nat} {s : Nat → Int32} (hG : Gc M g c kp bt la) (h4 : c 0 4 = nI l) (hl : l < 240) (hi : i < 8) (hc : M ca = .inr (1, cropF s i)) (hca : ca < g ∨ g + 76 ≤ ca) (bd cm x : Int32) : zCalP (d + 1) 16 [.ref g, .ref ca, .int bd, .int cm, .int x] n w M (fun v n' w' M' => v = some (.int (nI l)) ∧ n = n' ∧ w = w' ∧ Gc M' g (lotC c l i bd cm x) kp bt la ∧ ∀ k, k < g ∨ g + 76 ≤ k → M' k = M k) := by
  show zR ztb _ kX2_addLot 1 0 [some (.ref g), some (.ref ca), some (.int bd), some (.int cm), some (.int x), none] [] _ _ _ _
  repeat (first | rw [zcc1] | rw [zcc2] | rw [zcc3] | rw [zcc4] | refine zR.step rfl ?_ | refine zR.getf rfl (hG.o) rfl ?_ | refine zR.getf rfl (hc) rfl ?_)
  refine zR.cv rfl rfl rfl hG.lo rfl rfl (zR.mono (c_lotsAdd hG h4 hl _ _ _ _ _) (fun v n' w' M' hv => ?_))
  obtain ⟨rfl, rfl, rfl, hG1, hF⟩ := hv
  have em : ¬ nI l = -1 := zI_m1 (by omega)
  have hc1 : M' ca = .inr (1, cropF s i) := by rw [hF ca hca]; exact hc
  repeat (first | rw [zcc1] | rw [zcc2] | rw [zcc3] | rw [zcc4] | rw [zd1 (em)] | rw [zd2 (em)] | refine zR.step rfl ?_ | refine zR.getf rfl (hG1.o) rfl ?_ | refine zR.getf rfl (hc1) rfl ?_ | refine zR.iald rfl (hG1.s0) (Or.inl rfl) (i := i) (by first | with_reducible rfl | (simp only [zn_lit, zn_add, zn_mul]; done) | exact zI_pred (by omega) (by omega) | rfl) (by omega) (by decide) ?_)
  refine zR.iast rfl hG1.s0 (i := i) rfl (by omega) (by decide) ?_
  have hG2 := hG1.upS (j := 0) (by omega) (zuf (c 8) i (c 8 i + x))
  have hc2 : zup M' (g + 12) (.inl (0, 8, .inl (zuf (c 8) i (c 8 i + x)))) ca = .inr (1, cropF s i) := by rw [zup_ne _ _ (by omega)]; exact hc1
  repeat (first | rw [zcc1] | rw [zcc2] | rw [zcc3] | rw [zcc4] | refine zR.step rfl ?_ | refine zR.getf rfl (hG2.o) rfl ?_ | refine zR.getf rfl (hc2) rfl ?_ | refine zR.iald rfl (hG2.s1) (Or.inl rfl) (i := i) (by first | with_reducible rfl | (simp only [zn_lit, zn_add, zn_mul]; done) | exact zI_pred (by omega) (by omega) | rfl) (by omega) (by decide) ?_)
  refine zR.iast rfl hG2.s1 (i := i) rfl (by omega) (by decide) ?_
  have hG3 := hG2.upS (j := 1) (by omega) (zuf (c 9) i (c 9 i + x))
  repeat (first | rw [zcc1] | rw [zcc2] | rw [zcc3] | rw [zcc4] | refine zR.step rfl ?_)
  refine zR.ret rfl rfl ⟨rfl, rfl, rfl, hG3, fun k hk => ?_⟩
  rw [zup_ne _ _ (by omega), zup_ne _ _ (by omega)]
  exact hF k hk
section
variable {y s : Nat → Int32} {c : mS} {l i : Nat} {bd cm x : Int32}
theorem lotY_ne {k : Nat} (h3 : k ≠ 3) (hp : k ≠ 50 + 10 * i + 6) (hl : ¬ (250 + 6 * l ≤ k ∧ k < 256 + 6 * l)) : lotY y l i bd cm x k = y k := by
  unfold lotY
  rw [zuf_ne _ _ h3, zuf_ne _ _ hp, zuf_ne _ _ (by omega), zuf_ne _ _ (by omega), zuf_ne _ _ (by omega), zuf_ne _ _ (by omega), zuf_ne _ _ (by omega), zuf_ne _ _ (by omega)]
theorem lotY_3 : lotY y l i bd cm x 3 = nI l + 1 := zuf_self _ _ _
theorem lotY_p : lotY y l i bd cm x (50 + 10 * i + 6) = y (50 + 10 * i + 6) + x := by
  unfold lotY
  rw [zuf_ne _ _ (by omega), zuf_self]
theorem lotY_l (hi : i < 8) : lotY y l i bd cm x (250 + 6 * l) = nI i ∧ lotY y l i bd cm x (250 + 6 * l + 1) = bd ∧ lotY y l i bd cm x (250 + 6 * l + 2) = cm ∧ lotY y l i bd cm x (250 + 6 * l + 3) = y 0 ∧ lotY y l i bd cm x (250 + 6 * l + 4) = x ∧ lotY y l i bd cm x (250 + 6 * l + 5) = x := by
  unfold lotY
  refine ⟨?_, ?_, ?_, ?_, ?_, ?_⟩
  · rw [zuf_ne _ _ (by omega), zuf_ne _ _ (by omega), zuf_ne _ _ (by omega), zuf_ne _ _ (by omega), zuf_ne _ _ (by omega), zuf_ne _ _ (by omega), zuf_ne _ _ (by omega), zuf_self]
  · rw [zuf_ne _ _ (by omega), zuf_ne _ _ (by omega), zuf_ne _ _ (by omega), zuf_ne _ _ (by omega), zuf_ne _ _ (by omega), zuf_ne _ _ (by omega), zuf_self]
  · rw [zuf_ne _ _ (by omega), zuf_ne _ _ (by omega), zuf_ne _ _ (by omega), zuf_ne _ _ (by omega), zuf_ne _ _ (by omega), zuf_self]
  · rw [zuf_ne _ _ (by omega), zuf_ne _ _ (by omega), zuf_ne _ _ (by omega), zuf_ne _ _ (by omega), zuf_self]
  · rw [zuf_ne _ _ (by omega), zuf_ne _ _ (by omega), zuf_ne _ _ (by omega), zuf_self]
  · rw [zuf_ne _ _ (by omega), zuf_ne _ _ (by omega), zuf_self]
theorem lotC_ne {j : Nat} (h : ¬ (j ≤ 6 ∨ j = 8 ∨ j = 9)) : lotC c l i bd cm x j = c j := by
  unfold lotC
  rw [zuf_ne _ _ (by omega), zuf_ne _ _ (by omega), zuf_ne _ _ (by omega), zuf_ne _ _ (by omega), zuf_ne _ _ (by omega), zuf_ne _ _ (by omega), zuf_ne _ _ (by omega), zuf_ne _ _ (by omega), zuf_ne _ _ (by omega)]
theorem stock_lt {s' : Nat → Int32} {v : Int32} : ∀ m, (∀ q, q < m → s' (250 + 6 * q) = s (250 + 6 * q) ∧ s' (255 + 6 * q) = s (255 + 6 * q)) → stockF s' v m = stockF s v m
  | 0, _ => rfl
  | m + 1, h => by
    unfold stockF
    rw [stock_lt m (fun q hq => h q (by omega)), (h m (by omega)).1, (h m (by omega)).2]
theorem PL.lot {nc wk : Nat} (h : PL c s nc l wk) (hl : l < 240) (hi : i < nc) (h8 : nc ≤ 8) (hx : 0 ≤ x.toInt ∧ x.toInt ≤ 300) (h0 : s 0 = nI wk) (hc0 : c 0 2 = s 0) : PL (lotC c l i bd cm x) (lotY s l i bd cm x) nc (l + 1) wk := by
  obtain ⟨L0, L1, L2, L3, L4, L5⟩ := lotY_l (y := s) (l := l) (bd := bd) (cm := cm) (x := x) (show i < 8 by omega)
  intro q hq
  by_cases e : q = l
  · subst e
    refine ⟨fun j hj => ?_, ⟨i, hi, L0⟩, by rw [show 255 + 6 * q = 250 + 6 * q + 5 by omega, L5]; exact hx, by rw [show 253 + 6 * q = 250 + 6 * q + 3 by omega, L3]; exact ⟨wk, h0, by omega, by omega⟩⟩
    match j, hj with
    | 0, _ => rw [show 250 + 6 * q + 0 = 250 + 6 * q by omega, L0]; exact zuf_self _ _ _
    | 1, _ => rw [L1]; exact zuf_self _ _ _
    | 2, _ => rw [L2]; exact zuf_self _ _ _
    | 3, _ => rw [L3, ← hc0]; exact zuf_self _ _ _
    | 4, _ => rw [L4]; exact zuf_self _ _ _
    | 5, _ => rw [L5]; exact zuf_self _ _ _
  · obtain ⟨q1, q2, q3, q4⟩ := h q (by omega)
    rw [lotY_ne (by omega) (by omega) (by omega), lotY_ne (by omega) (by omega) (by omega), lotY_ne (by omega) (by omega) (by omega)]
    refine ⟨fun j hj => ?_, q2, q3, q4⟩
    rw [lotY_ne (by omega) (by omega) (by omega), ← q1 j hj]
    match j, hj with
    | 0, _ => exact zuf_ne _ _ e
    | 1, _ => exact zuf_ne _ _ e
    | 2, _ => exact zuf_ne _ _ e
    | 3, _ => exact zuf_ne _ _ e
    | 4, _ => exact zuf_ne _ _ e
    | 5, _ => exact zuf_ne _ _ e
theorem PS.lot (h : PS c s l) (hl : l < 240) (hi : i < 8) : PS (lotC c l i bd cm x) (lotY s l i bd cm x) (l + 1) := by
  obtain ⟨L0, L1, L2, L3, L4, L5⟩ := lotY_l (y := s) (l := l) (bd := bd) (cm := cm) (x := x) hi
  intro q hq
  obtain ⟨q1, q2, q3, q4, q5⟩ := h q hq
  have hs : stockF (lotY s l i bd cm x) (nI q) (l + 1) = stockF s (nI q) l + (if nI i = nI q then x else 0) := by
    rw [stockF, L0, show 255 + 6 * l = 250 + 6 * l + 5 by omega, L5, stock_lt (s := s) l (fun q hq => ⟨lotY_ne (by omega) (by omega) (by omega), lotY_ne (by omega) (by omega) (by omega)⟩)]
  refine ⟨?_, ?_, ?_, ?_, ?_⟩
  · rw [hs]
    show zuf (c 8) i (c 8 i + x) q = _
    by_cases e : q = i
    · subst e
      rw [zuf_self, if_pos rfl, q1]
    · rw [zuf_ne _ _ e, if_neg (fun h => e (zn_inj (by omega) (by omega) h.symm)), q1, Int32.add_zero]
  · show zuf (c 9) i (c 9 i + x) q = _
    by_cases e : q = i
    · subst e
      rw [zuf_self, show 56 + 10 * q = 50 + 10 * q + 6 by omega, lotY_p, q2, show 56 + 10 * q = 50 + 10 * q + 6 by omega]
    · rw [zuf_ne _ _ e, lotY_ne (by omega) (by omega) (by omega), q2]
  · rw [lotC_ne (by omega), lotY_ne (by omega) (by omega) (by omega), q3]
  · rw [lotC_ne (by omega), lotY_ne (by omega) (by omega) (by omega), q4]
  · rw [lotC_ne (by omega), lotY_ne (by omega) (by omega) (by omega), q5]
end
theorem GR.lot {M : zM} {n : Nat} {c : mS} {kp bt : Nat → Option Nat} {la : Nat} {s : Nat → Int32} {l i : Nat} {bd cm x : Int32} (h : GR M n c kp bt la s) (h3 : s 3 = nI l) (hl : l < 240) (hi : ∀ nc, s 2 = nI nc → nc ≤ 8 → i < nc) (hx : 0 ≤ x.toInt ∧ x.toInt ≤ 300) : GR M n (lotC c l i bd cm x) kp bt la (lotY s l i bd cm x) := by
  obtain ⟨nc, nh, nl, lm, wk, h1, h2, h3', h4, h5, h6, h7, h8⟩ := h
  obtain ⟨N1, N2, N3, N4, N5, N6, N7, N8, N9, N10, N11, N12, N13, N14, N15, N16, N17⟩ := h1
  have hi' := hi nc N1 N2
  have e : nl = l := zn_inj (by omega) (by omega) (N5.symm.trans h3)
  subst e
  refine ⟨nc, nh, nl + 1, lm, wk, ⟨?_, N2, ?_, N4, ?_, by omega, ?_, N8, ?_, N10, ?_, ?_, ?_, ?_, ?_, fun h a b k a2 b2 => ?_, N17.cg (fun j h1 h2 => lotC_ne (by omega))⟩, h2.cg N2 (fun k hk => lotY_ne (by omega) (by omega) (by omega)), h3'.cg N2 (fun k hk => lotY_ne (by omega) (by omega) (by omega)) (fun b hb => lotC_ne (by omega)), h4.lot hl hi' N2 hx N9 N13, h5.lot hl (by omega), h6.cg N4 (fun k hk => lotY_ne (by omega) (by omega) (by omega)) (fun j hj => lotC_ne (by omega)), h7.cg (fun k hk => lotY_ne (by omega) (by omega) (by omega)) (lotC_ne (by omega)), h8.cg N8 (fun k hk => lotY_ne (by omega) (by omega) (by omega))⟩
  · rw [lotY_ne (by omega) (by omega) (by omega)]; exact N1
  · rw [lotY_ne (by omega) (by omega) (by omega)]; exact N3
  · rw [lotY_3, zI_s]
  · rw [lotY_ne (by omega) (by omega) (by omega)]; exact N7
  · rw [lotY_ne (by omega) (by omega) (by omega)]; exact N9
  · rw [lotY_ne (by omega) (by omega) (by omega)]; exact N11
  · rw [lotY_ne (by omega) (by omega) (by omega)]; exact N12
  · rw [lotY_ne (by omega) (by omega) (by omega)]; exact N13
  · rw [lotY_ne (by omega) (by omega) (by omega)]; exact N14
  · rw [lotY_3]; rfl
  · rw [lotY_ne (by omega) (by omega) (by omega)]; exact N16 h a b k a2 b2
