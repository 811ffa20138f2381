
/-! HELPERS OF THE CLASS, AND THE SIMPLEST PAIRS. -/
def sst (σ : mS) (x : Int32) : mS := zuf σ 12 (zuf (σ 12) 12 x)
def su (σ : mS) (i : Nat) (x : Int32) : mS := zuf σ 0 (zuf (σ 0) i x)
def tst (t : mS) (x : Int32) : mS := zuf t 0 (zuf (t 0) 2 x)
theorem c_isWithin {d n w : Nat} {M : zM} (v lo hi : Int32) : zCall d 125 [.int v, .int lo, .int hi] n w M (some (.int (inI v lo hi))) n w M := by
  intro Q hQ
  unfold inI at hQ
  show zR ztb _ kX11_isWithin 2 0 [some (.int v), some (.int lo), some (.int hi)] [] _ _ _ _
  repeat (first | refine zR.step rfl ?_)
  refine zR.ite (fun h => ?_) (fun h => ?_)
  · rw [if_pos h] at hQ
    repeat (first | refine zR.step rfl ?_)
    exact zR.ret rfl rfl hQ
  · rw [if_neg h] at hQ
    repeat (first | refine zR.step rfl ?_)
    refine zR.ite (fun h => ?_) (fun h => ?_)
    · rw [if_pos h] at hQ
      repeat (first | refine zR.step rfl ?_)
      exact zR.ret rfl rfl hQ
    · rw [if_neg h] at hQ
      repeat (first | refine zR.step rfl ?_)
      exact zR.ret rfl rfl hQ
theorem c_refuse {d n w : Nat} {M : zM} {t : mS} (h25 : M 25 = .inr (11, tob t)) (x : Int32) : zCall d 118 [.ref 25, .int x] n w M (some (.int (-1))) n w (zup M 25 (.inr (11, tob (tst t x)))) := by
  intro Q hQ
  show zR ztb _ kX11_refuse 1 0 [some (.ref 25), some (.int x)] [] _ _ _ _
  repeat (first | refine zR.step rfl ?_)
  refine zR.putf rfl h25 rfl rfl ?_
  repeat (first | refine zR.step rfl ?_)
  exact zR.ret rfl rfl hQ
theorem c_doneC {d n w : Nat} {M : zM} {t : mS} (h25 : M 25 = .inr (11, tob t)) (x : Int32) : zCall d 117 [.ref 25, .int x] n w M (some (.int x)) n w (zup M 25 (.inr (11, tob (tst t 0)))) := by
  intro Q hQ
  show zR ztb _ kX11_done 1 0 [some (.ref 25), some (.int x)] [] _ _ _ _
  repeat (first | refine zR.step rfl ?_)
  refine zR.putf rfl h25 rfl rfl ?_
  repeat (first | refine zR.step rfl ?_)
  exact zR.ret rfl rfl hQ
theorem Rf.out {M : zM} {σ : mS} (h : Rf M σ) {a : Nat} {c : zC} (ha : a < 287 ∨ 300 ≤ a) : Rf (zup M a c) σ := by
  refine ⟨by rw [zup_ne _ _ (by omega)]; exact h.1, fun j hj => ?_⟩
  rw [zup_ne _ _ (by omega)]
  exact h.2 j hj
theorem Tc.st {M : zM} {t : mS} {tr : Option Nat} (h : Tc M t tr) (x : Int32) : Tc (zup M 25 (.inr (11, tob (tst t x)))) (tst t x) tr := by
  obtain ⟨h0, h1, h2, h3, h4, h5, h6, h7, h8, h9⟩ := h
  refine ⟨zup_self _ _ _, by rw [zup_ne _ _ (by omega)]; exact h1, by rw [zup_ne _ _ (by omega)]; exact h2, by rw [zup_ne _ _ (by omega)]; exact h3, fun j hj => ?_, ⟨?_, fun j hj => ?_⟩, by rw [zup_ne _ _ (by omega)]; exact h6, by rw [zup_ne _ _ (by omega)]; exact h7, by rw [zup_ne _ _ (by omega)]; exact h8, fun i hi => ?_⟩
  · rw [zup_ne _ _ (by omega)]
    unfold tst
    rw [zuf_ne _ _ (by omega)]
    exact h4 j hj
  · rw [zup_ne _ _ (by omega)]
    exact h5.1
  · rw [zup_ne _ _ (by omega)]
    unfold tst
    rw [zuf_ne _ _ (by omega)]
    exact h5.2 j hj
  · obtain ⟨a1, a2⟩ := h9 i hi
    rw [zup_ne _ _ (by omega), zup_ne _ _ (by omega)]
    unfold tst
    rw [zuf_ne _ _ (by omega), zuf_ne _ _ (by omega)]
    exact ⟨a1, a2⟩
theorem TR.st {t σ : mS} (h : TR t σ) (x : Int32) : TR (tst t x) (sst σ x) := by
  obtain ⟨h1, h2, h3, h4, h5, h6, h7, h8, h9, h10, h11, h12⟩ := h
  refine ⟨h1, h2, h3, h4, rfl, h6, h7, h8, h9, h10, h11, fun i hi => ?_⟩
  unfold tst sst
  rw [zuf_ne _ _ (by omega), zuf_ne _ _ (by omega), zuf_ne _ _ (by omega), zuf_ne _ _ (by omega), zuf_ne _ _ (by omega)]
  exact h12 i hi
theorem CropAt.mv {M M' : zM} {n n' a i : Nat} {s : Nat → Int32} (h : CropAt M n a i s) (hs : ∀ k, 300 ≤ k → k < n → M' k = M k) (hn : n ≤ n') : CropAt M' n' a i s := ⟨h.1, Nat.lt_of_lt_of_le h.2.1 hn, by rw [hs a h.1 h.2.1]; exact h.2.2⟩
theorem GR.mv {M M' : zM} {n n' : Nat} {c : mS} {kp bt : Nat → Option Nat} {la : Nat} {s : Nat → Int32} (h : GR M n c kp bt la s) (hs : ∀ k, (40 ≤ k ∧ k < 48) ∨ 300 ≤ k → k < n → M' k = M k) (hn : n ≤ n') : GR M' n' c kp bt la s := by
  obtain ⟨nc, nh, nl, lm, wk, h1, h2, h3, h4, h5, h6, h7, sc, r, en, x1, x2, x3, x4, x5, x6⟩ := h
  refine ⟨nc, nh, nl, lm, wk, h1, ⟨fun i hi => ?_, h2.2⟩, fun b hb => ?_, h4, h5, h6, h7, sc, r, en, x1.same (fun k a b => hs k (by omega) (by omega)), x2, x3, by omega, x5, x6⟩
  · obtain ⟨⟨a, q1, q2⟩, q3⟩ := h2.1 i hi
    exact ⟨⟨a, q1, q2.mv (fun k a b => hs k (by omega) b) hn⟩, q3⟩
  · obtain ⟨q1, q2⟩ := h3 b hb
    refine ⟨?_, q2⟩
    rcases q1 with q1 | ⟨i, a, e1, e2, e3, e4, e5⟩
    · exact Or.inl q1
    · exact Or.inr ⟨i, a, e1, e2, e3, e4.mv (fun k a b => hs k (by omega) b) hn, e5⟩
/-- the end of a pair: the class's cells as they stand, the reference's row as it is told -/
theorem inv_of {L : Nat} {xs : Nat → Int32} {M1 M2 : zM} {σ : mS} {n w : Nat} {t : mS} {tr : Option Nat} {c0 c1 c2 : mS} {k0 k1 k2 b0 b1 b2 : Nat → Option Nat} {l0 l1 l2 : Nat} (hR : Rf M2 σ) (hS : Sm M1 M2) (hC : Cp M1 n t tr c0 c1 c2 k0 k1 k2 b0 b1 b2 l0 l1 l2) (hg : GR M1 n c0 k0 b0 l0 (σ 0)) (hk : σ 12 3 = 1 → GR M1 n c1 k1 b1 l1 (σ 1)) (ht : TR t σ) (hx : ∀ k, k < 25 → M1 k = zX L xs k) (hn : 300 ≤ n) : Inv L xs M2 σ n w := by
  have fr : ∀ k, k < 287 ∨ 300 ≤ k → M2 k = M1 k := hS
  exact ⟨t, tr, c0, c1, c2, k0, k1, k2, b0, b1, b2, l0, l1, l2, hR, ⟨hC.1.same (fun k hk => fr k (by omega)), hC.2.1.same (fun k a b => fr k (by omega)), hC.2.2.1.same (fun k a b => fr k (by omega)), hC.2.2.2.same (fun k a b => fr k (by omega))⟩, hg.mv (fun k a b => fr k (by omega)) (Nat.le_refl _), fun h => (hk h).mv (fun k a b => fr k (by omega)) (Nat.le_refl _), ht, fun k hk => by rw [fr k (by omega)]; exact hx k hk, hn⟩
theorem o_status {L : Nat} {xs : Nat → Int32} : op_status (Inv L xs) := by
  intro M σ n w hI
  have hI' := hI
  obtain ⟨t, tr, c0, c1, c2, k0, k1, k2, b0, b1, b2, l0, l1, l2, hR, ⟨hT, hG0, hG1, hG2⟩, hg, hk, ht, hx, hn⟩ := hI
  have h25 := hT.1
  show zR ztb _ kX11_status 1 0 [some (.ref 25)] [] _ _ _ _
  repeat (first | refine zR.step rfl ?_ | refine zR.getf rfl h25 rfl ?_)
  refine zR.ret rfl rfl ⟨_, rfl, ⟨_, hR.1⟩, rfl, ?_⟩
  show zR ztb _ kX12_status 1 0 [some (.ref 287)] [] _ _ _ _
  repeat (first | refine zR.step rfl ?_ | refine zR.getf rfl hR.1 rfl ?_ | refine zR.ilR0 hR rfl (by (try simp only [zn_lit, zn_add, zn_mul]); rfl) (by omega) ?_)
  refine zR.ret rfl rfl ⟨?_, by omega, by omega, σ, hI'⟩
  rw [ht.2.2.2.2.1]
theorem o_fault {L : Nat} {xs : Nat → Int32} : op_fault (Inv L xs) := by
  intro a M σ n w hI
  have hI' := hI
  obtain ⟨t, tr, c0, c1, c2, k0, k1, k2, b0, b1, b2, l0, l1, l2, hR, ⟨hT, hG0, hG1, hG2⟩, hg, hk, ht, hx, hn⟩ := hI
  have h25 := hT.1
  have h32 := hT.2.2.2.2.2.1.1
  have e8 : t 0 8 = σ 12 7 := ht.2.2.2.2.2.2.2.1
  have e9 : t 0 9 = σ 12 8 := ht.2.2.2.2.2.2.2.2.1
  show zR ztb _ kX11_fault 1 0 [some (.ref 25), some (.int a)] [] _ _ _ _
  repeat (first | refine zR.step rfl ?_ | refine zR.getf rfl h25 rfl ?_ | refine zR.getf rfl h32 rfl ?_)
  refine zR.ite (fun h => ?_) (fun h => ?_)
  · repeat (first | refine zR.step rfl ?_ | refine zR.getf rfl h25 rfl ?_ | refine zR.getf rfl h32 rfl ?_)
    refine zR.ret rfl rfl ⟨_, rfl, ⟨_, hR.1⟩, rfl, ?_⟩
    show zR ztb _ kX12_fault 1 0 [some (.ref 287), some (.int a)] [] _ _ _ _
    repeat (first | refine zR.step rfl ?_ | refine zR.getf rfl hR.1 rfl ?_ | refine zR.ilR0 hR rfl (by (try simp only [zn_lit, zn_add, zn_mul]); rfl) (by omega) ?_)
    refine zR.ite (fun h2 => ?_) (fun h2 => absurd h h2)
    repeat (first | refine zR.step rfl ?_ | refine zR.getf rfl hR.1 rfl ?_ | refine zR.ilR0 hR rfl (by (try simp only [zn_lit, zn_add, zn_mul]); rfl) (by omega) ?_)
    refine zR.ret rfl rfl ⟨by rw [e8], by omega, by omega, σ, hI'⟩
  · repeat (first | refine zR.step rfl ?_ | refine zR.getf rfl h25 rfl ?_ | refine zR.getf rfl h32 rfl ?_)
    refine zR.ite (fun h1 => ?_) (fun h1 => ?_)
    · repeat (first | refine zR.step rfl ?_ | refine zR.getf rfl h25 rfl ?_ | refine zR.getf rfl h32 rfl ?_)
      refine zR.ret rfl rfl ⟨_, rfl, ⟨_, hR.1⟩, rfl, ?_⟩
      show zR ztb _ kX12_fault 1 0 [some (.ref 287), some (.int a)] [] _ _ _ _
      repeat (first | refine zR.step rfl ?_ | refine zR.getf rfl hR.1 rfl ?_ | refine zR.ilR0 hR rfl (by (try simp only [zn_lit, zn_add, zn_mul]); rfl) (by omega) ?_)
      refine zR.ite (fun h2 => absurd h2 h) (fun h2 => ?_)
      repeat (first | refine zR.step rfl ?_ | refine zR.getf rfl hR.1 rfl ?_ | refine zR.ilR0 hR rfl (by (try simp only [zn_lit, zn_add, zn_mul]); rfl) (by omega) ?_)
      refine zR.ite (fun h3 => ?_) (fun h3 => absurd h1 h3)
      repeat (first | refine zR.step rfl ?_ | refine zR.getf rfl hR.1 rfl ?_ | refine zR.ilR0 hR rfl (by (try simp only [zn_lit, zn_add, zn_mul]); rfl) (by omega) ?_)
      refine zR.ret rfl rfl ⟨by rw [e9], by omega, by omega, σ, hI'⟩
    · repeat (first | refine zR.step rfl ?_ | refine zR.getf rfl h25 rfl ?_ | refine zR.getf rfl h32 rfl ?_)
      refine zR.ret rfl rfl ⟨_, rfl, ⟨_, hR.1⟩, rfl, ?_⟩
      show zR ztb _ kX12_fault 1 0 [some (.ref 287), some (.int a)] [] _ _ _ _
      repeat (first | refine zR.step rfl ?_ | refine zR.getf rfl hR.1 rfl ?_ | refine zR.ilR0 hR rfl (by (try simp only [zn_lit, zn_add, zn_mul]); rfl) (by omega) ?_)
      refine zR.ite (fun h2 => absurd h2 h) (fun h2 => ?_)
      repeat (first | refine zR.step rfl ?_ | refine zR.getf rfl hR.1 rfl ?_ | refine zR.ilR0 hR rfl (by (try simp only [zn_lit, zn_add, zn_mul]); rfl) (by omega) ?_)
      refine zR.ite (fun h3 => absurd h3 h1) (fun h3 => ?_)
      repeat (first | refine zR.step rfl ?_ | refine zR.getf rfl hR.1 rfl ?_ | refine zR.ilR0 hR rfl (by (try simp only [zn_lit, zn_add, zn_mul]); rfl) (by omega) ?_)
      refine zR.ret rfl rfl ⟨rfl, by omega, by omega, σ, hI'⟩
