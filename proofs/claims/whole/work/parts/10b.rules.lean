/-! RULES: rows made, copied, cloned. -/
theorem zn_inj {a b : Nat} (ha : a < 2 ^ 31) (hb : b < 2 ^ 31) (h : nI a = nI b) : a = b := by
  have h1 := nI_toInt ha
  have h2 := nI_toInt hb
  rw [h] at h1
  omega
theorem zn_lt {a b : Nat} (ha : a < 2 ^ 31) (hb : b < 2 ^ 31) : (nI a < nI b) ↔ a < b := by
  rw [Int32.lt_iff_toInt_lt, nI_toInt ha, nI_toInt hb]
  omega
theorem zn_eq {a b : Nat} (ha : a < 2 ^ 31) (hb : b < 2 ^ 31) : (nI a = nI b) ↔ a = b := ⟨zn_inj ha hb, fun h => by rw [h]⟩
section ZU2
variable {d : Nat} {k : Nat → zI} {rt pc : Nat} {L : zL} {st : List Value} {n w : Nat} {M : zM} {Q : Option Value → Nat → Nat → zM → Prop} {z nx r1 r2 r3 li : Nat} {v0 : Value} {sw : List (Int32 × Nat)} {a b : Nat}
theorem zR.newa {z : ArrayType} {m : Nat} {x : Int32} (hk : k pc = (.newarray z, nx, r1, r2, r3, li, v0, sw)) (hx : x = nI m) (hm : m ≤ 100000) (h : zR ztb d k rt nx L (.ref n :: st) (n + 1) (w + m) (zup M n (.inl (r1, m, .inl (fun _ => 0)))) Q) : zR ztb d k rt pc L (.int x :: st) n w M Q := by
  subst hx
  refine zR.step ?_ h
  rw [hk]
  simp only [zst]
  rw [if_pos ⟨nI_pos (by omega), by rw [nI_clamp (by omega)]; exact hm⟩, nI_clamp (by omega)]
theorem zR.clone {la : Nat} {f : Nat → Int32} (hk : k pc = (.invokevirtual z, nx, r1, r2, 7, li, v0, sw)) (hM : M a = .inl (0, la, .inl f)) (h8 : Nat.ble (zdp st) 8 = true) (h : zR ztb d k rt nx L (.ref n :: st) (n + 1) (w + la) (zup M n (.inl (0, la, .inl f))) Q) : zR ztb d k rt pc L (.ref a :: st) n w M Q := by
  refine zR.step ?_ h
  rw [hk]
  simp only [zst, zcln, hM, h8]
  rfl
theorem zR.cast {la : Nat} {f : Nat → Int32} (hk : k pc = (.checkcast z, nx, r1, r2, r3, li, v0, sw)) (hM : M a = .inl (0, la, .inl f)) (h : zR ztb d k rt nx L (.ref a :: st) n w M Q) : zR ztb d k rt pc L (.ref a :: st) n w M Q := by
  refine zR.step ?_ h
  rw [hk]
  simp only [zst, zcst, hM]
theorem zR.acpy {la lb i j m : Nat} {f g : Nat → Int32} {sp dp c : Int32} (hk : k pc = (.invokestatic z, nx, r1, r2, 8, li, v0, sw)) (hA : M a = .inl (0, la, .inl f)) (hB : M b = .inl (0, lb, .inl g)) (hs : sp = nI i) (hd : dp = nI j) (hc : c = nI m) (h1 : i + m ≤ la) (h2 : j + m ≤ lb) (h3 : la ≤ 100000) (h4 : lb ≤ 100000) (h8 : Nat.ble (zdp st) 8 = true)
    (h : zR ztb d k rt nx L st n w (zup M b (.inl (0, lb, .inl (va_cpy f g i j m)))) Q) : zR ztb d k rt pc L (.int c :: .int dp :: .ref b :: .int sp :: .ref a :: st) n w M Q := by
  subst hs hd hc
  refine zR.step ?_ h
  rw [hk]
  simp only [zst, zcpy, hA, hB, h8]
  rw [cond_true, nI_clamp (by omega), nI_clamp (by omega), nI_clamp (by omega), if_pos ⟨⟨nI_pos (by omega), nI_pos (by omega), nI_pos (by omega)⟩, h1, h2⟩]
end ZU2
theorem c_min {d n w : Nat} {M : zM} (a b : Int32) : zCall d 236 [.int a, .int b] n w M (some (.int (if b < a then b else a))) n w M := by
  intro Q hQ
  show zR ztb _ kJ9_min_7cf53 1 0 [some (.int a), some (.int b)] [] _ _ _ _
  repeat (refine zR.step rfl ?_)
  refine zR.ite (fun h => ?_) (fun h => ?_)
  · rw [if_pos h] at hQ
    repeat (refine zR.step rfl ?_)
    exact zR.ret rfl rfl hQ
  · rw [if_neg h] at hQ
    repeat (refine zR.step rfl ?_)
    exact zR.ret rfl rfl hQ
theorem c_max {d n w : Nat} {M : zM} (a b : Int32) : zCall d 235 [.int a, .int b] n w M (some (.int (if a < b then b else a))) n w M := by
  intro Q hQ
  show zR ztb _ kJ9_max_7cf53 1 0 [some (.int a), some (.int b)] [] _ _ _ _
  repeat (refine zR.step rfl ?_)
  refine zR.ite (fun h => ?_) (fun h => ?_)
  · rw [if_pos h] at hQ
    repeat (refine zR.step rfl ?_)
    exact zR.ret rfl rfl hQ
  · rw [if_neg h] at hQ
    repeat (refine zR.step rfl ?_)
    exact zR.ret rfl rfl hQ
theorem c_abs {d n w : Nat} {M : zM} (a : Int32) : zCall d 234 [.int a] n w M (some (.int (if a < 0 then -a else a))) n w M := by
  intro Q hQ
  show zR ztb _ kJ9_abs_0f7a4 1 0 [some (.int a)] [] _ _ _ _
  repeat (refine zR.step rfl ?_)
  refine zR.ite (fun h => ?_) (fun h => ?_)
  · rw [if_pos h] at hQ
    repeat (refine zR.step rfl ?_)
    exact zR.ret rfl rfl hQ
  · rw [if_neg h] at hQ
    repeat (refine zR.step rfl ?_)
    exact zR.ret rfl rfl hQ
theorem c_copyOf {d n w a la m : Nat} {M : zM} {f : Nat → Int32} (hM : M a = .inl (0, la, .inl f)) (hm : m ≤ la) (hl : la ≤ 100000) (han : a ≠ n) : zCalP (d + 1) 232 [.ref a, .int (nI m)] n w M (fun v n' w' M' => v = some (.ref n) ∧ n' = n + 1 ∧ w' = w + m ∧ ∃ f', (∀ i, i < m → f' i = f i) ∧ M' = zup M n (.inl (0, m, .inl f'))) := by
  show zR ztb _ kJ7_copyOf_59c91 3 0 [some (.ref a), some (.int (nI m)), none] [] _ _ _ _
  repeat (first | refine zR.step rfl ?_ | refine zR.alen rfl hM ?_)
  refine zR.ite (fun h => ?_) (fun h => ?_)
  · have e := zn_inj (by omega) (by omega) h
    subst e
    repeat (refine zR.step rfl ?_)
    refine zR.clone rfl hM rfl ?_
    refine zR.cast rfl (zup_self _ _ _) ?_
    exact zR.ret rfl rfl ⟨rfl, rfl, rfl, f, fun _ _ => rfl, rfl⟩
  · repeat (refine zR.step rfl ?_)
    refine zR.newa rfl rfl (by omega) ?_
    repeat (first | refine zR.step rfl ?_ | refine zR.alen rfl ((zup_ne _ _ han).trans hM) ?_)
    refine zR.cs rfl rfl rfl rfl rfl (zCalP.of (c_min _ _) ?_)
    have hmin : (if nI m < nI la then nI m else nI la) = nI m := by
      by_cases q : nI m < nI la
      · rw [if_pos q]
      · rw [if_neg q]
        rw [zn_lt (by omega) (by omega)] at q
        rw [show la = m by omega]
    rw [hmin]
    refine zR.acpy rfl ((zup_ne _ _ han).trans hM) (zup_self _ _ _) (i := 0) (j := 0) rfl rfl rfl (by omega) (by omega) hl (by omega) rfl ?_
    rw [zup_up]
    repeat (refine zR.step rfl ?_)
    refine zR.ret rfl rfl ⟨rfl, rfl, rfl, _, fun i hi => ?_, rfl⟩
    simp [va_cpy, hi]
