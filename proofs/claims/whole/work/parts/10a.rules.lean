/-! RULES FOR RUNS. -/
/-- a method's run with these arguments answers v and leaves the cells M' -/
def zCall (d y : Nat) (as : List Value) (n w : Nat) (M : zM) (v : Option Value) (n' w' : Nat) (M' : zM) : Prop := ∀ Q : Option Value → Nat → Nat → zM → Prop, Q v n' w' M' → zR ztb d (ztb y).1 (ztb y).2.2 0 (zent as (ztb y).2.1) [] n w M Q
/-- .. or it ends in a way that satisfies P -/
def zCalP (d y : Nat) (as : List Value) (n w : Nat) (M : zM) (P : Option Value → Nat → Nat → zM → Prop) : Prop := zR ztb d (ztb y).1 (ztb y).2.2 0 (zent as (ztb y).2.1) [] n w M P
theorem zn_lit (n : Nat) : (@OfNat.ofNat Int32 n _) = nI (@OfNat.ofNat Nat n _) := rfl
theorem zn_add (a b : Nat) : nI a + nI b = nI (a + b) := (Int32.ofNat_add a b).symm
theorem zn_mul (a b : Nat) : nI a * nI b = nI (a * b) := (Int32.ofNat_mul a b).symm
theorem zn_idx {i len : Nat} (h : i < len) (hl : len ≤ 100000) : ¬ nI i < 0 ∧ (nI i).toNatClampNeg < len := ⟨nI_pos (by omega), by rw [nI_clamp (by omega)]; exact h⟩
theorem zn_cl {i len : Nat} (h : i < len) (hl : len ≤ 100000) : (nI i).toNatClampNeg = i := nI_clamp (by omega)
section ZU
variable {d : Nat} {k : Nat → zI} {rt pc : Nat} {L : zL} {st : List Value} {n w : Nat} {M : zM} {Q : Option Value → Nat → Nat → zM → Prop} {z nx r1 r2 r3 li : Nat} {v0 : Value} {sw : List (Int32 × Nat)} {a : Nat}
theorem zR.getf {fs : List Value} {u : Value} (hk : k pc = (.getfield z, nx, r1, r2, r3, li, v0, sw)) (hM : M a = .inr (r1, fs)) (hu : zfg fs r2 = some u) (h : zR ztb d k rt nx L (u :: st) n w M Q) : zR ztb d k rt pc L (.ref a :: st) n w M Q := by
  refine zR.step ?_ h
  rw [hk]
  simp only [zst, zgf, hM, hu]
  simp
theorem zR.putf {fs : List Value} {u : Value} (hk : k pc = (.putfield z, nx, r1, r2, r3, li, v0, sw)) (hM : M a = .inr (r1, fs)) (hf : zfit r3 u = true) (hl : Nat.blt r2 fs.length = true) (h : zR ztb d k rt nx L st n w (zup M a (.inr (r1, zfs fs r2 u))) Q) : zR ztb d k rt pc L (u :: .ref a :: st) n w M Q := by
  refine zR.step ?_ h
  rw [hk]
  simp only [zst, zpf, hM, hf, hl]
  simp
theorem zR.iald {t len i : Nat} {f : Nat → Int32} {j : Int32} (hk : k pc = (.iaload, nx, r1, r2, r3, li, v0, sw)) (hM : M a = .inl (t, len, .inl f)) (ht : t = 0 ∨ t = 7) (hj : j = nI i) (hi : i < len) (hl : len ≤ 100000) (h : zR ztb d k rt nx L (.int (f i) :: st) n w M Q) : zR ztb d k rt pc L (.int j :: .ref a :: st) n w M Q := by
  subst hj
  refine zR.step ?_ h
  rw [hk]
  simp only [zst, zald, hM]
  rw [if_pos ⟨ht, zn_idx hi hl⟩, zn_cl hi hl]
theorem zR.bald {t len i : Nat} {f : Nat → Int32} {j : Int32} (hk : k pc = (.baload, nx, r1, r2, r3, li, v0, sw)) (hM : M a = .inl (t, len, .inl f)) (ht : t = 1 ∨ t = 2 ∨ t = 8) (hj : j = nI i) (hi : i < len) (hl : len ≤ 100000) (h : zR ztb d k rt nx L (.int (f i) :: st) n w M Q) : zR ztb d k rt pc L (.int j :: .ref a :: st) n w M Q := by
  subst hj
  refine zR.step ?_ h
  rw [hk]
  simp only [zst, zbld, hM]
  rw [if_pos ⟨ht, zn_idx hi hl⟩, zn_cl hi hl]
theorem zR.aald {t len i : Nat} {f : Nat → Option Nat} {j : Int32} (hk : k pc = (.aaload, nx, r1, r2, r3, li, v0, sw)) (hM : M a = .inl (t, len, .inr f)) (ht : t = 3 ∨ t = 4 ∨ t = 5 ∨ t = 6) (hj : j = nI i) (hi : i < len) (hl : len ≤ 100000) (h : zR ztb d k rt nx L (zrf (f i) :: st) n w M Q) : zR ztb d k rt pc L (.int j :: .ref a :: st) n w M Q := by
  subst hj
  refine zR.step ?_ h
  rw [hk]
  simp only [zst, zqld, hM]
  rw [if_pos ⟨ht, zn_idx hi hl⟩, zn_cl hi hl]
theorem zR.iast {len i : Nat} {f : Nat → Int32} {j x : Int32} (hk : k pc = (.iastore, nx, r1, r2, r3, li, v0, sw)) (hM : M a = .inl (0, len, .inl f)) (hj : j = nI i) (hi : i < len) (hl : len ≤ 100000) (h : zR ztb d k rt nx L st n w (zup M a (.inl (0, len, .inl (zuf f i x)))) Q) : zR ztb d k rt pc L (.int x :: .int j :: .ref a :: st) n w M Q := by
  subst hj
  refine zR.step ?_ h
  rw [hk]
  simp only [zst, zast, hM]
  rw [if_pos ⟨trivial, zn_idx hi hl⟩, zn_cl hi hl]
theorem zR.zast {len i : Nat} {f : Nat → Int32} {j x : Int32} (hk : k pc = (.bastore, nx, r1, r2, r3, li, v0, sw)) (hM : M a = .inl (2, len, .inl f)) (hj : j = nI i) (hi : i < len) (hl : len ≤ 100000) (h : zR ztb d k rt nx L st n w (zup M a (.inl (2, len, .inl (zuf f i (x &&& 1))))) Q) : zR ztb d k rt pc L (.int x :: .int j :: .ref a :: st) n w M Q := by
  subst hj
  refine zR.step ?_ h
  rw [hk]
  simp only [zst, zbst, hM]
  rw [if_pos (zn_idx hi hl), zn_cl hi hl]
theorem zR.bast {len i : Nat} {f : Nat → Int32} {j x : Int32} (hk : k pc = (.bastore, nx, r1, r2, r3, li, v0, sw)) (hM : M a = .inl (1, len, .inl f)) (hj : j = nI i) (hi : i < len) (hl : len ≤ 100000) (h : zR ztb d k rt nx L st n w (zup M a (.inl (1, len, .inl (zuf f i x.toInt8.toInt32)))) Q) : zR ztb d k rt pc L (.int x :: .int j :: .ref a :: st) n w M Q := by
  subst hj
  refine zR.step ?_ h
  rw [hk]
  simp only [zst, zbst, hM]
  rw [if_pos (zn_idx hi hl), zn_cl hi hl]
theorem zR.aast {t len i b ci : Nat} {f : Nat → Option Nat} {fs : List Value} {j : Int32} (hk : k pc = (.aastore, nx, r1, r2, r3, li, v0, sw)) (hM : M a = .inl (t, len, .inr f)) (hB : M b = .inr (ci, fs)) (ht : t = 3 ∨ t = 4 ∨ t = 5 ∨ t = 6) (hc : ci = zelt t) (hj : j = nI i) (hi : i < len) (hl : len ≤ 100000) (h : zR ztb d k rt nx L st n w (zup M a (.inl (t, len, .inr (zuf f i (some b))))) Q) : zR ztb d k rt pc L (.ref b :: .int j :: .ref a :: st) n w M Q := by
  subst hj
  refine zR.step ?_ h
  rw [hk]
  simp only [zst, zqst, hM, hB]
  rw [if_pos ⟨ht, hc, zn_idx hi hl⟩, zn_cl hi hl]
theorem zR.aastN {t len i : Nat} {f : Nat → Option Nat} {j : Int32} (hk : k pc = (.aastore, nx, r1, r2, r3, li, v0, sw)) (hM : M a = .inl (t, len, .inr f)) (ht : t = 3 ∨ t = 4 ∨ t = 5 ∨ t = 6) (hj : j = nI i) (hi : i < len) (hl : len ≤ 100000) (h : zR ztb d k rt nx L st n w (zup M a (.inl (t, len, .inr (zuf f i none)))) Q) : zR ztb d k rt pc L (.null :: .int j :: .ref a :: st) n w M Q := by
  subst hj
  refine zR.step ?_ h
  rw [hk]
  simp only [zst, zqsn, hM]
  rw [if_pos ⟨ht, zn_idx hi hl⟩, zn_cl hi hl]
theorem zR.alen {t len : Nat} {x : (Nat → Int32) ⊕ (Nat → Option Nat)} (hk : k pc = (.arraylength, nx, r1, r2, r3, li, v0, sw)) (hM : M a = .inl (t, len, x)) (h : zR ztb d k rt nx L (.int (nI len) :: st) n w M Q) : zR ztb d k rt pc L (.ref a :: st) n w M Q := by
  refine zR.step ?_ h
  rw [hk]
  simp only [zst, zlen, hM]
  rfl
theorem zR.retZ {x : Int32} (hk : k pc = (.ireturn, nx, r1, r2, r3, li, v0, sw)) (hx : x = 0 ∨ x = 1) (hq : Q (some (.int x)) n w M) : zR ztb d k 2 pc L [.int x] n w M Q := by
  refine zR.ret ?_ ?_ hq
  · rw [hk]
    rfl
  · rw [hk]
    simp only [zrt]
    rw [if_pos hx]
/-- calls: by the entry; the callee's run is the premise -/
theorem zR.cs {as r : List Value} (hk : k pc = (.invokestatic z, nx, r1, r2, r3, li, v0, sw)) (h3 : Nat.ble r3 6 = true) (hp : zpop r2 st = some (as, r)) (h8 : Nat.ble (zdp r) 8 = true) (hz : Nat.ble (zdp as) (ztb r1).2.1 = true)
    (hr : zCalP d r1 as n w M (fun v n' w' M' => zR ztb (d + 1) k rt nx L (v.toList ++ r) n' w' M' Q)) : zR ztb (d + 1) k rt pc L st n w M Q := by
  have hn : (k pc).2.1 = nx := by rw [hk]
  refine zR.call (y := r1) (as := as) (r := r) ?_ ?_ ?_ hz (by rw [hn]; exact hr)
  · rw [hk]
    dsimp only [zst]
    split
    · have := Nat.le_of_ble_eq_true h3
      omega
    · rfl
  · rw [hk]
    rfl
  · rw [hk]
    simp only [zcall, hp, h3, h8]
    rfl
theorem zR.ci {as r : List Value} (hk : k pc = (.invokespecial z, nx, r1, r2, r3, li, v0, sw)) (h3 : Nat.ble r3 6 = true) (hp : zpop (r2 + 1) st = some (.ref a :: as, r)) (h8 : Nat.ble (zdp r) 8 = true) (hz : Nat.ble (zdp (.ref a :: as)) (ztb r1).2.1 = true)
    (hr : zCalP d r1 (.ref a :: as) n w M (fun v n' w' M' => zR ztb (d + 1) k rt nx L (v.toList ++ r) n' w' M' Q)) : zR ztb (d + 1) k rt pc L st n w M Q := by
  have hn : (k pc).2.1 = nx := by rw [hk]
  refine zR.call (y := r1) (as := .ref a :: as) (r := r) ?_ ?_ ?_ hz (by rw [hn]; exact hr)
  · rw [hk]
    dsimp only [zst]
    split
    · have := Nat.le_of_ble_eq_true h3
      omega
    · rfl
  · rw [hk]
    rfl
  · rw [hk]
    simp only [zcall, hp, h3, h8]
    rfl
theorem zR.cv {as r fs : List Value} {ci : Nat} (hk : k pc = (.invokevirtual z, nx, r1, r2, r3, li, .ref ci, sw)) (h3 : Nat.ble r3 6 = true) (hp : zpop (r2 + 1) st = some (.ref a :: as, r)) (hM : M a = .inr (ci, fs)) (h8 : Nat.ble (zdp r) 8 = true) (hz : Nat.ble (zdp (.ref a :: as)) (ztb r1).2.1 = true)
    (hr : zCalP d r1 (.ref a :: as) n w M (fun v n' w' M' => zR ztb (d + 1) k rt nx L (v.toList ++ r) n' w' M' Q)) : zR ztb (d + 1) k rt pc L st n w M Q := by
  have hn : (k pc).2.1 = nx := by rw [hk]
  refine zR.call (y := r1) (as := .ref a :: as) (r := r) ?_ ?_ ?_ hz (by rw [hn]; exact hr)
  · rw [hk]
    dsimp only [zst]
    split
    · have := Nat.le_of_ble_eq_true h3
      omega
    · rfl
  · rw [hk]
    rfl
  · rw [hk]
    simp only [zcall, hp, h3, zcv, hM, h8]
    simp
end ZU
theorem zCalP.of {d y : Nat} {as : List Value} {n w : Nat} {M : zM} {v : Option Value} {n' w' : Nat} {M' : zM} {P : Option Value → Nat → Nat → zM → Prop} (h : zCall d y as n w M v n' w' M') (hp : P v n' w' M') : zCalP d y as n w M P := h P hp
