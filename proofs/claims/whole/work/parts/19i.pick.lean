
/-! A WEEK: the reference picks. -/
theorem zuf_cm {α : Type} (f : Nat → α) {i j : Nat} (x y : α) (h : i ≠ j) : zuf (zuf f i x) j y = zuf (zuf f j y) i x := by
  funext k
  by_cases h1 : k = i
  · subst h1
    rw [zuf_ne _ _ h, zuf_self, zuf_self]
  · by_cases h2 : k = j
    · subst h2
      rw [zuf_self, zuf_ne _ _ h1, zuf_self]
    · rw [zuf_ne _ _ h2, zuf_ne _ _ h1, zuf_ne _ _ h1, zuf_ne _ _ h2]
section
variable {d : Nat} {k : Nat → zI} {rt pc : Nat} {L : zL} {st : List Value} {n w : Nat} {M M0 : zM} {Q : Option Value → Nat → Nat → zM → Prop} {z nx r1 r2 r3 li : Nat} {v0 : Value} {sw : List (Int32 × Nat)} {σ : mS} {s wp : Nat → Int32} {i : Nat} {jj x : Int32}
theorem zR.isW (hR : Rf M (zuf (zuf σ 11 wp) 0 s)) (hS : Sm M0 M) (hk : k pc = (.bastore, nx, r1, r2, r3, li, v0, sw)) (hj : jj = nI i) (hi : i < 8) (h : ∀ M', Rf M' (zuf (zuf σ 11 (zuf wp i (x &&& 1))) 0 s) → Sm M0 M' → zR ztb d k rt nx L st n w M' Q) : zR ztb d k rt pc L (.int x :: .int jj :: .ref 299 :: st) n w M Q :=
  zR.isR11 hR hS hk hj hi (fun M' h1 h2 => h M' (by
    rw [zuf_cm _ _ _ (show 0 ≠ 11 by omega), zuf_uf] at h1
    exact h1) h2)
end
def cntR (s : Nat → Int32) : Nat → Nat
  | 0 => 0
  | b + 1 => cntR s b + (if 0 < s (150 + 10 * b + 4) then 1 else 0)
theorem cntR_le {s : Nat → Int32} : ∀ m, cntR s m ≤ m
  | 0 => Nat.le_refl 0
  | m + 1 => by
    have := cntR_le (s := s) m
    unfold cntR
    by_cases q : 0 < s (150 + 10 * m + 4)
    · rw [if_pos q]; omega
    · rw [if_neg q]; omega
theorem cntR_zero {s : Nat → Int32} : ∀ m, cntR s m = 0 → ∀ b, b < m → ¬ 0 < s (150 + 10 * b + 4)
  | 0, _, b, h => absurd h (by omega)
  | m + 1, h, b, hb => by
    unfold cntR at h
    by_cases q : 0 < s (150 + 10 * m + 4)
    · rw [if_pos q] at h; omega
    · rw [if_neg q] at h
      by_cases e : b = m
      · subst e; exact q
      · exact cntR_zero m (by omega) b (by omega)
theorem cntR_cg {s s' : Nat → Int32} : ∀ m, (∀ b, b < m → s' (150 + 10 * b + 4) = s (150 + 10 * b + 4)) → cntR s' m = cntR s m
  | 0, _ => rfl
  | m + 1, h => by
    unfold cntR
    rw [cntR_cg m (fun b hb => h b (by omega)), h m (by omega)]
theorem cntR_dec {s s' : Nat → Int32} {b : Nat} : ∀ m, b < m → (∀ q, q < m → q ≠ b → s' (150 + 10 * q + 4) = s (150 + 10 * q + 4)) → 0 < s (150 + 10 * b + 4) → s' (150 + 10 * b + 4) = 0 → cntR s' m + 1 = cntR s m
  | 0, h, _, _, _ => absurd h (by omega)
  | m + 1, h, h1, h2, h3 => by
    unfold cntR
    by_cases e : b = m
    · subst e
      rw [cntR_cg b (fun q hq => h1 q (by omega) (by omega)), h3, if_pos h2, if_neg (by decide)]
    · rw [← cntR_dec m (by omega) (fun q hq => h1 q (by omega)) h2 h3, h1 m (by omega) (fun z => e z.symm)]
      omega
theorem GK.rb {M : zM} {n : Nat} {c : mS} {kp bt : Nat → Option Nat} {la : Nat} {s : Nat → Int32} (h : GK M n c kp bt la s) : RB s := by
  obtain ⟨nc, nh, nl, lm, wk, hN, hC, hB, -⟩ := h
  intro b hb hr
  rcases (hB b hb).1 with ⟨-, -, -, -, z, -⟩ | ⟨i, a, z1, z2, -⟩
  · rw [z] at hr
    exact absurd hr (by decide)
  · obtain ⟨-, -, -, -, -, ⟨k, k1, -, k2⟩, -⟩ := hC.1 i z1
    exact ⟨i, k, by have := hN.2.1; omega, z2, by rw [show 50 + 10 * i + 4 = 54 + 10 * i by omega]; exact k1, k2⟩
theorem pick1_at {s : Nat → Int32} {l i b q : Nat} {x : Int32} (hq : q ≠ b) (hi : i < 8) (hq8 : q < 8) (k : Nat) (hk : k < 10) : pick1 s l i b x (150 + 10 * q + k) = s (150 + 10 * q + k) := by
  unfold pick1
  rw [setB_ne (by omega), lotY_ne (by omega) (by omega) (by omega)]
theorem pick1_b {s : Nat → Int32} {l i b : Nat} {x : Int32} : pick1 s l i b x (150 + 10 * b + 4) = s (150 + 10 * b + 4) - x := setB_at (by omega) rfl
theorem pkR_loop {M0 : zM} {σ : mS} {d n w : Nat} {Q : Option Value → Nat → Nat → zM → Prop} : ∀ (t : Nat) (s : Nat → Int32) (left : Int32) (wp : Nat → Int32) (M : zM) (x3 x4 x5 : Option Value), (∃ M n c kp bt la, GK M n c kp bt la s) → (¬ 0 < left ∨ (cntR s 8 ≤ t ∧ ∀ b, b < 8 → ¬ wp b = 0 → ¬ 0 < s (150 + 10 * b + 4))) → Rf M (zuf (zuf σ 11 wp) 0 s) → Sm M0 M → (∀ M wp, Rf M (zuf (zuf σ 11 wp) 0 (pkF t s left)) → Sm M0 M → Q none n w M) → zR ztb (d + 2) kX12_picks 0 33 [some (.ref 287), some (.int left), some (.int (optI (nxt s wp 8))), x3, x4, x5] [] n w M Q
  | t, s, left, wp, M, x3, x4, x5, hK, hinv, hR, hS, hQ => by
    refine zR.step rfl ?_
    by_cases q1 : 0 < left
    · obtain ⟨hcnt, hwp⟩ := hinv.resolve_left (fun z => z q1)
      have ew : nxt s wp 8 = nxt s (fun _ => 0) 8 := nxt_wp 8 hwp
      rw [ew]
      cases en : nxt s (fun _ => 0) 8 with
      | none =>
        rw [pkF_none en] at hQ
        repeat (first | ((with_reducible refine zR.stored ?_); dsimp only [zsto, zclr, zset, zget, zc2, cond_false, cond_true]) | ((with_reducible refine zR.atLit ?_); first | refine zR.step rfl ?_) | rw [zcc1] | rw [zcc2] | rw [zcc3] | rw [zcc4] | rw [show optI none = -1 from rfl] | rw [zb1 (by decide)] | rw [zb2 (by decide)] | rw [zb3 (by decide)] | rw [zb4 (by decide)] | rw [zn1 (by decide)] | rw [zn2 (by decide)] | rw [zn3 (by decide)] | rw [zn4 (by decide)] | rw [ze1 (by decide)] | rw [ze2 (by decide)] | rw [zd1 (by decide)] | rw [zd2 (by decide)] | rw [zswy (by decide)] | rw [zswn (by decide)] | rw [zsw0])
        exact zR.ret rfl rfl (hQ M wp hR hS)
      | some b =>
        have em : ¬ nI b = -1 := by
          obtain ⟨hb, -⟩ := nxt_spec 8 b en
          exact zI_m1 (by omega)
        by_cases q2 : s 3 < 240
        · obtain ⟨hb, hr, -⟩ := nxt_spec 8 b en
          match t, hQ, hcnt with
          | 0, hQ, hcnt => exact absurd hr (cntR_zero 8 (by omega) b hb)
          | t + 1, hQ, hcnt =>
            rw [pkF_some en ⟨q1, q2⟩] at hQ
            obtain ⟨Mk, nk, ck, kpk, btk, lak, hk⟩ := hK
            have hk' := hk
            obtain ⟨nc, nh, nl, lm, wk, hN, hC, hB, hL, -⟩ := hk'
            obtain ⟨N1, N2, N3, N4, N5, N6, -⟩ := hN
            have hl : nl < 240 := by
              rw [N5] at q2
              exact (zn_lt (b := 240) (by omega) (by omega)).mp q2
            have hr3 : (s (150 + 10 * b + 4)).toInt ≤ 300 := (hB b hb).2.2.2.2.1.2
            obtain ⟨i, hi, hi0⟩ : ∃ i, i < nc ∧ s (150 + 10 * b + 0) = nI i := by
              rcases (hB b hb).1 with ⟨-, -, -, -, z, -⟩ | ⟨i, a, z1, z2, -⟩
              · rw [z] at hr
                exact absurd hr (by decide)
              · exact ⟨i, z1, z2⟩
            have hK2 := hk.pick (left := left) N5 hl hb N1 N2 hi hi0 hr q1
            obtain ⟨-, -, b3⟩ := pk_num hr hr3 q1
            rw [N5, nI_clamp (by omega), hi0, nI_clamp (by omega)] at hQ
            have hinv2 : ¬ 0 < left - pkX s b left ∨ (cntR (pick1 s nl i b (pkX s b left)) 8 ≤ t ∧ ∀ q, q < 8 → ¬ zuf wp b (1 &&& 1) q = 0 → ¬ 0 < pick1 s nl i b (pkX s b left) (150 + 10 * q + 4)) := by
              rcases b3 with z | z
              · refine Or.inr ⟨?_, fun q hq hq2 => ?_⟩
                · have := cntR_dec (s := s) (s' := pick1 s nl i b (pkX s b left)) (b := b) 8 hb (fun q h8 hq => pick1_at hq (by omega) h8 4 (by omega)) hr (by rw [pick1_b]; exact z)
                  omega
                · by_cases eq : q = b
                  · subst eq
                    rw [pick1_b, show s (150 + 10 * q + 4) - pkX s q left = 0 from z]
                    decide
                  · rw [zuf_ne _ _ eq] at hq2
                    rw [pick1_at eq (by omega) hq 4 (by omega)]
                    exact hwp q hq hq2
              · exact Or.inl (by rw [show left - pkX s b left = 0 from z]; decide)
            have ih := pkR_loop (M0 := M0) (σ := σ) (d := d) (n := n) (w := w) (Q := Q) t (pick1 s nl i b (pkX s b left)) (left - pkX s b left) (zuf wp b (1 &&& 1))
            have key : zR ztb (d + 2) kX12_picks 0 87 [some (.ref 287), some (.int left), some (.int (nI b)), some (.int (150 + 10 * nI b)), x4, x5] [.int (pkX s b left)] n w M Q := by
              generalize pkX s b left = x at *
              have hy : ∀ k, k < 10 → lotY s nl i (nI b) (s (150 + 10 * b + 1)) x (150 + 10 * b + k) = s (150 + 10 * b + k) := fun k hk => lotY_ne (by omega) (by omega) (by omega)
              have ey := setB_id (s := lotY s nl i (nI b) (s (150 + 10 * b + 1)) x) (b := b)
              rw [hy 0 (by omega), hy 1 (by omega), hy 2 (by omega), hy 3 (by omega), hy 4 (by omega), hy 5 (by omega), hy 6 (by omega), hy 7 (by omega), hy 8 (by omega), hy 9 (by omega)] at ey
              repeat (first | ((with_reducible refine zR.stored ?_); dsimp only [zsto, zclr, zset, zget, zc2, cond_false, cond_true]) | ((with_reducible refine zR.atLit ?_); first | refine zR.step rfl ?_ | refine zR.getf rfl (hR.1) rfl ?_) | rw [zcc1] | rw [zcc2] | rw [zcc3] | rw [zcc4])
              refine zR.isW hR hS rfl (i := b) rfl hb (fun M1 hR hS => ?_)
              repeat (first | ((with_reducible refine zR.stored ?_); dsimp only [zsto, zclr, zset, zget, zc2, cond_false, cond_true]) | ((with_reducible refine zR.atLit ?_); first | refine zR.step rfl ?_ | refine zR.getf rfl (hR.1) rfl ?_ | refine zR.ilY hR rfl (by (try simp only [zn_lit, zn_add, zn_mul]); rfl) (by omega) ?_) | rw [zcc1] | rw [zcc2] | rw [zcc3] | rw [zcc4] | rw [hi0])
              refine zR.cv rfl rfl rfl hR.1 rfl rfl (zR.mono (c_newLot hR hS N5 hl (by omega) _ _ _) (fun v n1 w1 M2 hv => ?_))
              obtain ⟨rfl, rfl, rfl, hR, hS⟩ := hv
              rw [← ey] at hR
              repeat (first | ((with_reducible refine zR.stored ?_); dsimp only [zsto, zclr, zset, zget, zc2, cond_false, cond_true]) | ((with_reducible refine zR.atLit ?_); first | refine zR.step rfl ?_ | refine zR.getf rfl (hR.1) rfl ?_ | refine zR.ilB hR (by omega) rfl (by (try simp only [zn_lit, zn_add, zn_mul]); rfl) (by omega) (by rfl) ?_) | rw [zcc1] | rw [zcc2] | rw [zcc3] | rw [zcc4])
              refine zR.isB hR hS (by omega) rfl (by (try simp only [zn_lit, zn_add, zn_mul]); rfl) (by omega) (by simp) (fun M1 hR hS => ?_)
              dsimp only [lset] at hR
              by_cases z : s (150 + 10 * b + 4) - x = 0
              · repeat (first | ((with_reducible refine zR.stored ?_); dsimp only [zsto, zclr, zset, zget, zc2, cond_false, cond_true]) | ((with_reducible refine zR.atLit ?_); first | refine zR.step rfl ?_ | refine zR.getf rfl (hR.1) rfl ?_ | refine zR.ilB hR (by omega) rfl (by (try simp only [zn_lit, zn_add, zn_mul]); rfl) (by omega) (by rfl) ?_) | rw [zcc1] | rw [zcc2] | rw [zcc3] | rw [zcc4] | rw [ze1 (z)] | rw [ze2 (z)])
                refine zR.isB hR hS (by omega) rfl (by (try simp only [zn_lit, zn_add, zn_mul]); rfl) (by omega) (by simp) (fun M1 hR hS => ?_)
                dsimp only [lset] at hR
                replace hR : Rf M1 (zuf (zuf σ 11 (zuf wp b (1 &&& 1))) 0 (pick1 s nl i b x)) := by
                  unfold pick1 pkL
                  rw [if_pos z]
                  exact hR
                repeat (first | with_reducible refine zR.hold (pc := 33) ?_ | ((with_reducible refine zR.stored ?_); dsimp only [zsto, zclr, zset, zget, zc2, cond_false, cond_true]) | ((with_reducible refine zR.atLit ?_); first | refine zR.step rfl ?_ | (refine zR.cv rfl rfl rfl hR.1 rfl rfl (zCalP.of (c_nextBed hR hK2.rb) ?_); rw [zuf_self])) | rw [zcc1] | rw [zcc2] | rw [zcc3] | rw [zcc4])
                exact ⟨trivial, ih _ _ _ _ ⟨_, _, _, _, _, _, hK2⟩ hinv2 hR hS hQ⟩
              · repeat (first | ((with_reducible refine zR.stored ?_); dsimp only [zsto, zclr, zset, zget, zc2, cond_false, cond_true]) | ((with_reducible refine zR.atLit ?_); first | refine zR.step rfl ?_ | refine zR.getf rfl (hR.1) rfl ?_ | refine zR.ilB hR (by omega) rfl (by (try simp only [zn_lit, zn_add, zn_mul]); rfl) (by omega) (by rfl) ?_) | rw [zcc1] | rw [zcc2] | rw [zcc3] | rw [zcc4] | rw [zd1 (z)] | rw [zd2 (z)])
                refine zR.isB hR hS (by omega) rfl (by (try simp only [zn_lit, zn_add, zn_mul]); rfl) (by omega) (by simp) (fun M1 hR hS => ?_)
                dsimp only [lset] at hR
                replace hR : Rf M1 (zuf (zuf σ 11 (zuf wp b (1 &&& 1))) 0 (pick1 s nl i b x)) := by
                  unfold pick1 pkL
                  rw [if_neg z]
                  exact hR
                repeat (first | with_reducible refine zR.hold (pc := 33) ?_ | ((with_reducible refine zR.stored ?_); dsimp only [zsto, zclr, zset, zget, zc2, cond_false, cond_true]) | ((with_reducible refine zR.atLit ?_); first | refine zR.step rfl ?_ | (refine zR.cv rfl rfl rfl hR.1 rfl rfl (zCalP.of (c_nextBed hR hK2.rb) ?_); rw [zuf_self])) | rw [zcc1] | rw [zcc2] | rw [zcc3] | rw [zcc4])
                exact ⟨trivial, ih _ _ _ _ ⟨_, _, _, _, _, _, hK2⟩ hinv2 hR hS hQ⟩
            by_cases qx : s (150 + 10 * b + 4) < left
            · rw [show pkX s b left = s (150 + 10 * b + 4) from if_pos qx] at key
              repeat (first | with_reducible refine zR.hold (pc := 87) ?_ | ((with_reducible refine zR.stored ?_); dsimp only [zsto, zclr, zset, zget, zc2, cond_false, cond_true]) | ((with_reducible refine zR.atLit ?_); first | refine zR.step rfl ?_ | refine zR.getf rfl (hR.1) rfl ?_ | refine zR.ilY hR rfl (i := 3) rfl (by omega) ?_ | refine zR.ilY hR rfl (i := 150 + 10 * b + 4) (by simp only [zn_lit, zn_add, zn_mul]; done) (by omega) ?_) | rw [zcc1] | rw [zcc2] | rw [zcc3] | rw [zcc4] | rw [show optI (some b) = nI b from rfl] | rw [zd1 (em)] | rw [zd2 (em)] | rw [zb1 (q1)] | rw [zb2 (q1)] | rw [zb3 (q1)] | rw [zb4 (q1)] | rw [zb1 (q2)] | rw [zb2 (q2)] | rw [zb3 (q2)] | rw [zb4 (q2)] | rw [zb1 (qx)] | rw [zb2 (qx)] | rw [zb3 (qx)] | rw [zb4 (qx)])
              exact ⟨trivial, key⟩
            · rw [show pkX s b left = left from if_neg qx] at key
              repeat (first | with_reducible refine zR.hold (pc := 87) ?_ | ((with_reducible refine zR.stored ?_); dsimp only [zsto, zclr, zset, zget, zc2, cond_false, cond_true]) | ((with_reducible refine zR.atLit ?_); first | refine zR.step rfl ?_ | refine zR.getf rfl (hR.1) rfl ?_ | refine zR.ilY hR rfl (i := 3) rfl (by omega) ?_ | refine zR.ilY hR rfl (i := 150 + 10 * b + 4) (by simp only [zn_lit, zn_add, zn_mul]; done) (by omega) ?_) | rw [zcc1] | rw [zcc2] | rw [zcc3] | rw [zcc4] | rw [show optI (some b) = nI b from rfl] | rw [zd1 (em)] | rw [zd2 (em)] | rw [zb1 (q1)] | rw [zb2 (q1)] | rw [zb3 (q1)] | rw [zb4 (q1)] | rw [zb1 (q2)] | rw [zb2 (q2)] | rw [zb3 (q2)] | rw [zb4 (q2)] | rw [zn1 (qx)] | rw [zn2 (qx)] | rw [zn3 (qx)] | rw [zn4 (qx)])
              exact ⟨trivial, key⟩
        · rw [pkF_stop (fun z => q2 z.2)] at hQ
          repeat (first | ((with_reducible refine zR.stored ?_); dsimp only [zsto, zclr, zset, zget, zc2, cond_false, cond_true]) | ((with_reducible refine zR.atLit ?_); first | refine zR.step rfl ?_ | refine zR.getf rfl (hR.1) rfl ?_ | refine zR.ilY hR rfl (i := 3) rfl (by omega) ?_) | rw [zcc1] | rw [zcc2] | rw [zcc3] | rw [zcc4] | rw [show optI (some b) = nI b from rfl] | rw [zd1 (em)] | rw [zd2 (em)] | rw [zb1 (q1)] | rw [zb2 (q1)] | rw [zb3 (q1)] | rw [zb4 (q1)] | rw [zn1 (q2)] | rw [zn2 (q2)] | rw [zn3 (q2)] | rw [zn4 (q2)])
          exact zR.ret rfl rfl (hQ M wp hR hS)
    · rw [pkF_stop (fun z => q1 z.1)] at hQ
      cases en : nxt s wp 8 with
      | none =>
        repeat (first | ((with_reducible refine zR.stored ?_); dsimp only [zsto, zclr, zset, zget, zc2, cond_false, cond_true]) | ((with_reducible refine zR.atLit ?_); first | refine zR.step rfl ?_) | rw [zcc1] | rw [zcc2] | rw [zcc3] | rw [zcc4] | rw [show optI none = -1 from rfl] | rw [zb1 (by decide)] | rw [zb2 (by decide)] | rw [zb3 (by decide)] | rw [zb4 (by decide)] | rw [zn1 (by decide)] | rw [zn2 (by decide)] | rw [zn3 (by decide)] | rw [zn4 (by decide)] | rw [ze1 (by decide)] | rw [ze2 (by decide)] | rw [zd1 (by decide)] | rw [zd2 (by decide)] | rw [zswy (by decide)] | rw [zswn (by decide)] | rw [zsw0])
        exact zR.ret rfl rfl (hQ M wp hR hS)
      | some b =>
        have em : ¬ nI b = -1 := by
          obtain ⟨hb, -⟩ := nxt_spec 8 b en
          exact zI_m1 (by omega)
        repeat (first | ((with_reducible refine zR.stored ?_); dsimp only [zsto, zclr, zset, zget, zc2, cond_false, cond_true]) | ((with_reducible refine zR.atLit ?_); first | refine zR.step rfl ?_) | rw [zcc1] | rw [zcc2] | rw [zcc3] | rw [zcc4] | rw [show optI (some b) = nI b from rfl] | rw [zd1 (em)] | rw [zd2 (em)] | rw [zn1 (q1)] | rw [zn2 (q1)] | rw [zn3 (q1)] | rw [zn4 (q1)])
        exact zR.ret rfl rfl (hQ M wp hR hS)
theorem wp_loop {M0 : zM} {σ : mS} {s : Nat → Int32} {left : Int32} {d n w : Nat} {Q : Option Value → Nat → Nat → zM → Prop} (hQ : ∀ M wp, Rf M (zuf (zuf σ 11 wp) 0 s) → Sm M0 M → (∀ b, b < 8 → wp b = 0) → zR ztb d kX12_picks 0 28 [some (.ref 287), some (.int left), some (.int (nI 8)), none, none, none] [] n w M Q) : ∀ (t b : Nat) (M : zM) (wp : Nat → Int32), b + t = 8 → Rf M (zuf (zuf σ 11 wp) 0 s) → Sm M0 M → (∀ q, q < b → wp q = 0) → zR ztb d kX12_picks 0 9 [some (.ref 287), some (.int left), some (.int (nI b)), none, none, none] [] n w M Q
  | 0, b, M, wp, h, hR, hS, h1 => by
    have e2 : b = 8 := by omega
    subst e2
    have e : ¬ nI 8 < 8 := by decide
    repeat (first | with_reducible refine zR.hold (pc := 28) ?_ | ((with_reducible refine zR.stored ?_); dsimp only [zsto, zclr, zset, zget, zc2, cond_false, cond_true]) | ((with_reducible refine zR.atLit ?_); first | refine zR.step rfl ?_) | rw [zcc1] | rw [zcc2] | rw [zcc3] | rw [zcc4] | rw [zn1 (e)] | rw [zn2 (e)] | rw [zn3 (e)] | rw [zn4 (e)])
    exact ⟨trivial, hQ M wp hR hS h1⟩
  | t + 1, b, M, wp, h, hR, hS, h1 => by
    have e : nI b < 8 := zI_ylt (b := 8) (by omega) (by omega)
    refine zR.step rfl ?_
    repeat (first | ((with_reducible refine zR.stored ?_); dsimp only [zsto, zclr, zset, zget, zc2, cond_false, cond_true]) | ((with_reducible refine zR.atLit ?_); first | refine zR.step rfl ?_ | refine zR.getf rfl (hR.1) rfl ?_) | rw [zcc1] | rw [zcc2] | rw [zcc3] | rw [zcc4] | rw [zb1 (e)] | rw [zb2 (e)] | rw [zb3 (e)] | rw [zb4 (e)])
    refine zR.isW hR hS rfl (i := b) rfl (by omega) (fun M1 hR hS => ?_)
    have ih := wp_loop (d := d) hQ t (b + 1) M1 _ (by omega) hR hS (fun q hq => by
      by_cases eq : q = b
      · subst eq
        rw [zuf_self]
        decide
      · rw [zuf_ne _ _ eq]
        exact h1 q (by omega))
    rw [← zI_s] at ih
    repeat (first | with_reducible refine zR.hold (pc := 9) ?_ | ((with_reducible refine zR.stored ?_); dsimp only [zsto, zclr, zset, zget, zc2, cond_false, cond_true]) | ((with_reducible refine zR.atLit ?_); first | refine zR.step rfl ?_) | rw [zcc1] | rw [zcc2] | rw [zcc3] | rw [zcc4])
    exact ⟨trivial, ih⟩
theorem c_picks {M M0 : zM} {σ : mS} {s : Nat → Int32} {d n w : Nat} (hK : ∃ M n c kp bt la, GK M n c kp bt la s) (hR : Rf M (zuf σ 0 s)) (hS : Sm M0 M) : zCalP (d + 2) 178 [.ref 287] n w M (fun v n' w' M' => v = none ∧ n = n' ∧ w = w' ∧ Sm M0 M' ∧ ∃ wp, Rf M' (zuf (zuf σ 11 wp) 0 (pkF 8 s (s 1)))) := by
  have hR' : Rf M (zuf (zuf σ 11 (σ 11)) 0 s) := by rw [zuf_id (f := σ) rfl]; exact hR
  have hb : RB s := by
    obtain ⟨Mk, nk, ck, kpk, btk, lak, hk⟩ := hK
    exact hk.rb
  show zR ztb _ kX12_picks 0 0 [some (.ref 287), none, none, none, none, none] [] _ _ _ _
  repeat (first | with_reducible refine zR.hold (pc := 9) ?_ | ((with_reducible refine zR.stored ?_); dsimp only [zsto, zclr, zset, zget, zc2, cond_false, cond_true]) | ((with_reducible refine zR.atLit ?_); first | refine zR.step rfl ?_ | refine zR.getf rfl (hR.1) rfl ?_ | refine zR.ilY hR rfl (i := 1) rfl (by omega) ?_) | rw [zcc1] | rw [zcc2] | rw [zcc3] | rw [zcc4])
  refine ⟨trivial, wp_loop (M0 := M0) (σ := σ) (fun M1 wp hR hS hw => ?_) 8 0 M (σ 11) (by omega) hR' hS (fun q hq => by omega)⟩
  repeat (first | with_reducible refine zR.hold (pc := 33) ?_ | ((with_reducible refine zR.stored ?_); dsimp only [zsto, zclr, zset, zget, zc2, cond_false, cond_true]) | ((with_reducible refine zR.atLit ?_); first | refine zR.step rfl ?_ | (refine zR.cv rfl rfl rfl hR.1 rfl rfl (zCalP.of (c_nextBed hR hb) ?_); rw [zuf_self])) | rw [zcc1] | rw [zcc2] | rw [zcc3] | rw [zcc4])
  exact ⟨trivial, pkR_loop 8 s (s 1) wp M1 _ _ _ hK (Or.inr ⟨cntR_le 8, fun b h8 z => absurd (hw b h8) z⟩) hR hS (fun M2 wp2 a1 a2 => ⟨rfl, rfl, rfl, a2, wp2, a1⟩)⟩
