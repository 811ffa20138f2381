
/-! lines: the class's lines. -/
theorem ln_tc {M M1 M2 M3 : zM} {t : mS} {tr : Option Nat} {K V : Nat → Int32} {j i : Nat} {lc fk fp : Int32} {f2 f3 f4 : Nat → Int32} {l : List gStp} {ls : List gLn} (hT : Tc M t tr) (hF1 : ∀ k, k ≠ 28 → k ≠ 29 → k ≠ 30 → k ≠ 31 → M1 k = M k) (h26 : M2 26 = .inr (9, [.ref 27, .int 0])) (hF2 : ∀ k, k ≠ 26 → M2 k = M1 k) (hK : TK3 M1 j f2 f3 f4) (hF3 : LFr M2 M3) (hP : PCs M3 K V fk fp lc i l) (hL : LL M3 ls) : ∃ t', Tc M3 t' (some 28) ∧ TF t t' fk fp ∧ t' 0 10 = lc ∧ t' 0 11 = nI l.length ∧ (∀ k, k < ls.length → ∃ e, ls[k]? = some (t' 5 k, t' 6 k, e) ∧ t' 7 k = nI e) ∧ ∀ k, k < l.length → l[k]? = some (t' 8 k, t' 9 k, t' 10 k, t' 11 k) := by
  obtain ⟨k1, k2, k3, k4⟩ := hK
  obtain ⟨p32, p0, p1, p2, p3, p36, p37, p38, p39, hs⟩ := hP
  obtain ⟨a0, a1, a2, p33, p34, p35, hl⟩ := hL
  have fr : ∀ k, (k < 26 ∨ k = 27 ∨ 40 ≤ k) → M3 k = M k := fun k hk => by rw [hF3 k (by omega), hF2 k (by omega), hF1 k (by omega) (by omega) (by omega) (by omega)]
  have hTn := hT.ln (g := fun j => if j = 0 then a0 else if j = 1 then a1 else if j = 2 then a2 else if j = 3 then p0 else if j = 4 then p1 else if j = 5 then p2 else p3) fr (by rw [hF3 26 (by omega)]; exact h26) (by rw [hF3 28 (by omega), hF2 28 (by omega)]; exact k1) (by rw [hF3 29 (by omega), hF2 29 (by omega)]; exact k2) (by rw [hF3 30 (by omega), hF2 30 (by omega)]; exact k3) (by rw [hF3 31 (by omega), hF2 31 (by omega)]; exact k4) p32 (fun j hj => by
    have : j = 0 ∨ j = 1 ∨ j = 2 ∨ j = 3 ∨ j = 4 ∨ j = 5 ∨ j = 6 := by omega
    rcases this with rfl | rfl | rfl | rfl | rfl | rfl | rfl
    · exact p33
    · exact p34
    · exact p35
    · exact p36
    · exact p37
    · exact p38
    · exact p39)
  exact ⟨_, hTn, tL_f, rfl, rfl, hl, hs⟩
/-- what the class's lines leaves -/
def LC0 (M : zM) (t t' c0 : mS) (k0 b0 : Nat → Option Nat) (n la : Nat) (fk fp st : Int32) (M1 M' : zM) : Prop := M' = zup M1 25 (.inr (11, tob (tst t' st))) ∧ Tc M1 t' (some 28) ∧ Gc M1 48 c0 k0 b0 la ∧ TF t t' fk fp ∧ ∀ k, (k < 25 ∨ (40 ≤ k ∧ k ≠ 48)) → k < n → M1 k = M k
section
variable {M : zM} {t σ : mS} {tr : Option Nat} {c0 : mS} {k0 b0 : Nat → Option Nat} {l0 : Nat} {β : Nat → Int32} {L c : Nat} {d n w : Nat}
def LCY (M : zM) (t c0 : mS) (k0 b0 : Nat → Option Nat) (n w : Nat) (x : gRes × List gLn) (v : Option Value) (n' w' : Nat) (M' : zM) : Prop := v = some (.int (nI x.2.length)) ∧ n' = n + 8 ∧ w' ≤ w + 1000 ∧ ∃ t' M1 r, LC0 M t t' c0 k0 b0 n n 0 (-1) 0 M1 M' ∧ Lc M1 n x.2.length x.1.2.2.length r ∧ (∀ k, k < x.2.length → ∃ e, x.2[k]? = some (r 0 k, r 1 k, e) ∧ r 2 k = nI e) ∧ ∀ k, k < x.1.2.2.length → x.1.2.2[k]? = some (r 3 k, r 4 k, r 5 k, r 6 k)
def LCN (M : zM) (t c0 : mS) (k0 b0 : Nat → Option Nat) (n w la : Nat) (fk fp : Int32) (v : Option Value) (n' w' : Nat) (M' : zM) : Prop := v = some (.int (-1)) ∧ n' = n ∧ w' = w ∧ ∃ t' M1, LC0 M t t' c0 k0 b0 n la fk fp 3 M1 M'
theorem lc_no {M3 : zM} {t' : mS} {fk fp : Int32} (hn : 300 ≤ n) (hG : Gc M 48 c0 k0 b0 l0) (hT' : Tc M3 t' (some 28)) (hTF : TF t t' fk fp) (hF : ∀ k, (k < 25 ∨ 40 ≤ k) → M3 k = M k) (hf : ¬ fk = 0) : zR ztb (d + 26) kX11_lines 1 37 [some (.ref 25)] [] n w M3 (LCN M t c0 k0 b0 n w l0 fk fp) := by
  have f8 : ¬ t' 0 8 = 0 := by rw [hTF.2.2.2.2.1]; exact hf
  have r32 := hT'.2.2.2.2.2.1.1
  have h25 := hT'.1
  repeat (first | ((with_reducible refine zR.stored ?_); dsimp only [zsto, zclr, zset, zget, zc2, cond_false, cond_true]) | ((with_reducible refine zR.atLit ?_); first | refine zR.step rfl ?_ | refine zR.getf rfl (h25) rfl ?_ | refine zR.getf rfl (r32) rfl ?_) | rw [zcc1] | rw [zcc2] | rw [zcc3] | rw [zcc4] | rw [zd1 (f8)] | rw [zd2 (f8)])
  refine zR.cv rfl rfl rfl h25 rfl rfl (zCalP.of (c_refuse h25 _) ?_)
  repeat (first | ((with_reducible refine zR.stored ?_); dsimp only [zsto, zclr, zset, zget, zc2, cond_false, cond_true]) | ((with_reducible refine zR.atLit ?_); first | refine zR.step rfl ?_) | rw [zcc1] | rw [zcc2] | rw [zcc3] | rw [zcc4])
  exact zR.ret rfl rfl ⟨rfl, rfl, rfl, t', M3, rfl, hT', hG.same (fun k a b => hF k (by omega)), hTF, fun k a b => hF k (by omega)⟩
theorem lc_yes {M3 : zM} {t' : mS} {x : gRes × List gLn} (hn : 300 ≤ n) (hG : Gc M 48 c0 k0 b0 l0) (hT' : Tc M3 t' (some 28)) (hTF : TF t t' 0 (-1)) (hF : ∀ k, (k < 25 ∨ 40 ≤ k) → M3 k = M k) (e10 : t' 0 10 = nI x.2.length) (e11 : t' 0 11 = nI x.1.2.2.length) (hN : x.2.length ≤ 20) (hC : x.1.2.2.length ≤ 100) (el : ∀ k, k < x.2.length → ∃ e, x.2[k]? = some (t' 5 k, t' 6 k, e) ∧ t' 7 k = nI e) (es : ∀ k, k < x.1.2.2.length → x.1.2.2[k]? = some (t' 8 k, t' 9 k, t' 10 k, t' 11 k)) : zR ztb (d + 26) kX11_lines 1 37 [some (.ref 25)] [] n w M3 (LCY M t c0 k0 b0 n w x) := by
  have f8 : t' 0 8 = 0 := hTF.2.2.2.2.1
  have r32 := hT'.2.2.2.2.2.1.1
  have h25 := hT'.1
  have hG3 : Gc M3 48 c0 k0 b0 l0 := hG.same (fun k a b => hF k (by omega))
  repeat (first | ((with_reducible refine zR.stored ?_); dsimp only [zsto, zclr, zset, zget, zc2, cond_false, cond_true]) | ((with_reducible refine zR.atLit ?_); first | refine zR.step rfl ?_ | refine zR.getf rfl (h25) rfl ?_ | refine zR.getf rfl (r32) rfl ?_) | rw [zcc1] | rw [zcc2] | rw [zcc3] | rw [zcc4] | rw [ze1 (f8)] | rw [ze2 (f8)])
  have hTn : Tc (zup M3 n (.inr (5, zdef 5))) t' (some 28) := hT'.out (by omega)
  have h25n := hTn.1
  repeat (first | ((with_reducible refine zR.stored ?_); dsimp only [zsto, zclr, zset, zget, zc2, cond_false, cond_true]) | ((with_reducible refine zR.atLit ?_); first | refine zR.step rfl ?_ | refine zR.getf rfl (h25n) rfl ?_) | rw [zcc1] | rw [zcc2] | rw [zcc3] | rw [zcc4])
  refine zR.ci rfl rfl rfl rfl rfl (zR.mono (c_Lines_init (zup_self _ _ _) rfl (by omega) hTn.2.2.2.2.2.1 e10 e11 hN (by omega)) (fun v n3 w3 M4 hv => ?_))
  obtain ⟨rfl, rfl, rfl, ⟨r, hLc, hr⟩, hF4⟩ := hv
  have fr4 : ∀ k, k < n → M4 k = M3 k := fun k hk => by rw [hF4 k (by omega), zup_ne _ _ (by omega)]
  have hG4 : Gc M4 48 c0 k0 b0 l0 := hG3.same (fun k a b => fr4 k (by omega))
  have hT4 : Tc M4 t' (some 28) := hT'.same (fun k hk => fr4 k (by omega))
  repeat (first | ((with_reducible refine zR.stored ?_); dsimp only [zsto, zclr, zset, zget, zc2, cond_false, cond_true]) | ((with_reducible refine zR.atLit ?_); first | refine zR.step rfl ?_) | rw [zcc1] | rw [zcc2] | rw [zcc3] | rw [zcc4])
  refine zR.putf rfl hG4.o rfl rfl ?_
  have hG5 := hG4.upLa n
  have hT5 : Tc (zup M4 48 (.inr (2, gob 48 n (c0 0 0) (c0 0 1) (c0 0 2) (c0 0 3)))) t' (some 28) := hT4.out (by omega)
  have hL5 : Lc (zup M4 48 (.inr (2, gob 48 n (c0 0 0) (c0 0 1) (c0 0 2) (c0 0 3)))) n x.2.length x.1.2.2.length r := hLc.same (fun k a b => zup_ne _ _ (by omega))
  have fr5 : ∀ k, k ≠ 48 → k < n → zup M4 48 (.inr (2, gob 48 n (c0 0 0) (c0 0 1) (c0 0 2) (c0 0 3))) k = M3 k := fun k a b => by rw [zup_ne _ _ a, fr4 k b]
  change zR ztb _ _ _ _ _ _ _ _ (zup M4 48 (.inr (2, gob 48 n (c0 0 0) (c0 0 1) (c0 0 2) (c0 0 3)))) _
  generalize zup M4 48 (.inr (2, gob 48 n (c0 0 0) (c0 0 1) (c0 0 2) (c0 0 3))) = M5 at *
  have h25e := hT5.1
  have h48e := hG5.o
  have hne := hL5.1
  repeat (first | ((with_reducible refine zR.stored ?_); dsimp only [zsto, zclr, zset, zget, zc2, cond_false, cond_true]) | ((with_reducible refine zR.atLit ?_); first | refine zR.step rfl ?_ | refine zR.getf rfl (h25e) rfl ?_ | refine zR.getf rfl (h48e) rfl ?_ | refine zR.getf rfl (hne) rfl ?_) | rw [zcc1] | rw [zcc2] | rw [zcc3] | rw [zcc4])
  refine zR.cv rfl rfl rfl h25e rfl rfl (zCalP.of (c_doneC h25e _) ?_)
  repeat (first | ((with_reducible refine zR.stored ?_); dsimp only [zsto, zclr, zset, zget, zc2, cond_false, cond_true]) | ((with_reducible refine zR.atLit ?_); first | refine zR.step rfl ?_) | rw [zcc1] | rw [zcc2] | rw [zcc3] | rw [zcc4])
  refine zR.ret rfl rfl ⟨rfl, rfl, by omega, t', M5, r, ⟨rfl, hT5, hG5, hTF, fun k a b => by rw [fr5 k (by omega) b, hF k (by omega)]⟩, hL5, fun k hk => ?_, fun k hk => ?_⟩
  · have a0 := hr 0 (by decide) k hk
    have a1 := hr 1 (by decide) k hk
    have a2 := hr 2 (by decide) k hk
    rw [a0, a1, a2]
    exact el k hk
  · have a3 := hr 3 (by decide) k hk
    have a4 := hr 4 (by decide) k hk
    have a5 := hr 5 (by decide) k hk
    have a6 := hr 6 (by decide) k hk
    rw [a3, a4, a5, a6]
    exact es k hk
end
