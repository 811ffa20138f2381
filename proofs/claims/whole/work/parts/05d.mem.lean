/-! CELLS: reading, writing, making. -/
theorem zat.kept {r : Nat → Nat} {fm : Value} {D : va_G} {cA : Nat → ClassId} {H H1 : Heap} {a : Nat} {c : zC} (h : zat r fm D cA H a c) (hq : H1[a]? = H[a]?) : zat r fm D cA H1 a c := by
  rcases c with ⟨t, n, x⟩ | ⟨ci, fs⟩
  · exact ⟨h.1, hq.trans h.2⟩
  · obtain ⟨q, h1, h2⟩ := h
    exact ⟨q, h1, h2.kept hq⟩
theorem zat.lt {r : Nat → Nat} {fm : Value} {D : va_G} {cA : Nat → ClassId} {H : Heap} {a : Nat} {c : zC} (h : zat r fm D cA H a c) : a < H.size := by
  rcases c with ⟨t, n, x⟩ | ⟨ci, fs⟩
  · exact (Array.getElem?_eq_some_iff.mp h.2).1
  · obtain ⟨q, h1, cell, h2, -⟩ := h
    exact (Array.getElem?_eq_some_iff.mp h2).1
theorem zH.put {r : Nat → Nat} {fm : Value} {D : va_G} {cA : Nat → ClassId} {H0 H H1 : Heap} {X : Nat → zC} {n k : Nat} {M : zM} {c : zC} (hr : zrho r H0) (h : zH r fm D cA H0 X H n M) (hk : 25 ≤ k) (hkn : k < n) (hc : zat r fm D cA H1 (r k) c) (hz : H1.size = H.size) (oq : ∀ q : Nat, q ≠ r k → H1[q]? = H[q]?) : zH r fm D cA H0 X H1 n (zup M k c) := by
  obtain ⟨h1, h2, h3, h4, h5, h6⟩ := h
  refine ⟨h1, hz.trans h2, fun q hq => ?_, fun j hj => ?_, fun j hj hjn => ?_, fun j hj => ?_⟩
  · rw [oq q (by rw [hr.1 k hk]; omega)]
    exact h3 q hq
  · rw [zup_ne _ _ (by omega)]
    exact h4 j hj
  · by_cases hjk : j = k
    · subst hjk
      rw [zup_self]
      exact hc
    · rw [zup_ne _ _ hjk]
      exact (h5 j hj hjn).kept (oq _ (by rw [hr.1 j hj, hr.1 k hk]; omega))
  · rw [zup_ne _ _ (by omega)]
    exact h6 j hj
theorem zH.push {r : Nat → Nat} {fm : Value} {D : va_G} {cA : Nat → ClassId} {H0 H H1 : Heap} {X : Nat → zC} {n : Nat} {M : zM} {c : zC} (hr : zrho r H0) (h : zH r fm D cA H0 X H n M) (hc : zat r fm D cA H1 H.size c) (hz : H1.size = H.size + 1) (oq : ∀ q : Nat, q < H.size → H1[q]? = H[q]?) : zH r fm D cA H0 X H1 (n + 1) (zup M n c) ∧ r n = H.size := by
  obtain ⟨h1, h2, h3, h4, h5, h6⟩ := h
  have hrn : r n = H.size := by rw [hr.1 n h1, h2]
  refine ⟨⟨by omega, by omega, fun q hq => ?_, fun j hj => ?_, fun j hj hjn => ?_, fun j hj => ?_⟩, hrn⟩
  · rw [oq q (by omega)]
    exact h3 q hq
  · rw [zup_ne _ _ (by omega)]
    exact h4 j hj
  · by_cases hjk : j = n
    · subst hjk
      rw [zup_self, hrn]
      exact hc
    · rw [zup_ne _ _ hjk]
      have := h5 j hj (by omega)
      exact this.kept (oq _ this.lt)
  · rw [zup_ne _ _ (by omega)]
    exact h6 j (by omega)
theorem zH.look {r : Nat → Nat} {fm : Value} {D : va_G} {cA : Nat → ClassId} {H0 H : Heap} {X : Nat → zC} {U : State} {n : Nat} {M : zM} (h : zH r fm D cA H0 X H n M) (hx : ∀ k, k < 25 → zext r U H0 (r k) (X k)) (a : Nat) : zext r U H0 (r a) (M a) ∨ (25 ≤ a ∧ a < n ∧ zat r fm D cA H (r a) (M a)) ∨ M a = zabs := by
  obtain ⟨h1, h2, h3, h4, h5, h6⟩ := h
  by_cases ha : a < 25
  · rw [h4 a ha]
    exact Or.inl (hx a ha)
  · by_cases hn : a < n
    · exact Or.inr (Or.inl ⟨by omega, hn, h5 a (by omega) hn⟩)
    · exact Or.inr (Or.inr (h6 a (by omega)))
/-- an array of ours -/
theorem zH.arr {r : Nat → Nat} {fm : Value} {D : va_G} {cA : Nat → ClassId} {H0 H : Heap} {X : Nat → zC} {U : State} {n : Nat} {M : zM} (h : zH r fm D cA H0 X H n M) (hx : ∀ k, k < 25 → zext r U H0 (r k) (X k)) {a t len : Nat} {x : (Nat → Int32) ⊕ (Nat → Option Nat)} (ha : M a = .inl (t, len, x)) (ht : t < 7) : 25 ≤ a ∧ a < n ∧ H[r a]? = some (zac r cA t len x) := by
  rcases h.look hx a with q | ⟨q1, q2, q3⟩ | q
  · rw [ha] at q
    rcases x with f | f
    · rcases q.1 with q | q <;> omega
    · exact q.elim
  · rw [ha] at q3
    exact ⟨q1, q2, q3.2⟩
  · rw [ha] at q
    cases q
/-- an array that was there: its cell, now -/
theorem zH.ext {r : Nat → Nat} {fm : Value} {D : va_G} {cA : Nat → ClassId} {H0 H : Heap} {X : Nat → zC} {U : State} {n : Nat} {M : zM} (h : zH r fm D cA H0 X H n M) (hx : ∀ k, k < 25 → zext r U H0 (r k) (X k)) {a t len : Nat} {f : Nat → Int32} (ha : M a = .inl (t, len, .inl f)) (ht : 7 ≤ t) : ∃ cell : Cell, H[r a]? = some cell ∧ U.isArrayOf cell (zty t) ∧ cell.vm ≠ .unknown ∧ len ≤ cell.slots.size ∧ cell.slots.size.toInt32 = Int32.ofNat len ∧ ∀ j : Nat, j < len → cell.slots[j]? = some (.int (f j)) := by
  rcases h.look hx a with q | ⟨q1, q2, q3⟩ | q
  · rw [ha] at q
    obtain ⟨-, cell, g1, g2⟩ := q
    exact ⟨cell, by rw [h.2.2.1 _ (Array.getElem?_eq_some_iff.mp g1).1]; exact g1, g2⟩
  · rw [ha] at q3
    have := q3.1
    omega
  · rw [ha] at q
    cases q
/-- an object of ours -/
theorem zH.obj {r : Nat → Nat} {fm : Value} {D : va_G} {cA : Nat → ClassId} {H0 H : Heap} {X : Nat → zC} {U : State} {n : Nat} {M : zM} (h : zH r fm D cA H0 X H n M) (hx : ∀ k, k < 25 → zext r U H0 (r k) (X k)) {a ci : Nat} {fs : List Value} {q : vw_C} (ha : M a = .inr (ci, fs)) (hq : zcl[ci]? = some q) : 25 ≤ a ∧ a < n ∧ t_OB (r a) (D.1 ci) q.2.2 (D.2 ci) H (vp_V (fs.map (zv r fm))) := by
  have hlt : ci < 13 := (List.getElem?_eq_some_iff.mp hq).1
  rcases h.look hx a with z | ⟨q1, q2, q3⟩ | z
  · rw [ha] at z
    unfold zext at z
    split at z
    · rename_i heq
      cases heq
    · rename_i heq
      cases heq
      omega
    · exact z.elim
  · rw [ha] at q3
    obtain ⟨q', g1, g2⟩ := q3
    cases hq.symm.trans g1
    exact ⟨q1, q2, g2⟩
  · rw [ha] at z
    cases z
    omega
theorem zfs_map {r : Nat → Nat} {fm : Value} : ∀ (fs : List Value) (k : Nat) (u : Value), (zfs fs k u).map (zv r fm) = (fs.map (zv r fm)).set k (zv r fm u)
  | [], k, u => by simp [zfs]
  | f :: fs, 0, u => rfl
  | f :: fs, k + 1, u => by
    show zv r fm f :: (zfs fs k u).map (zv r fm) = zv r fm f :: (fs.map (zv r fm)).set k (zv r fm u)
    rw [zfs_map fs k u]
theorem zfg_map {r : Nat → Nat} {fm : Value} : ∀ (fs : List Value) (k : Nat) (u : Value), zfg fs k = some u → (fs.map (zv r fm))[k]? = some (zv r fm u)
  | [], k, u, h => by cases h
  | f :: fs, 0, u, h => by cases h; rfl
  | f :: fs, k + 1, u, h => zfg_map fs k u h
theorem zpop_eq {k : Nat} {st as q : List Value} (h : zpop k st = some (as, q)) : st = as.reverse ++ q ∧ as.length = k := by
  unfold zpop at h
  split at h <;> first | (cases h; exact ⟨rfl, rfl⟩) | cases h
theorem zin_of {j : Int32} {len : Nat} (h : ¬ j < 0 ∧ j.toNatClampNeg < len) : ¬ (j < 0 ∨ len ≤ j.toNatClampNeg) := by
  rintro (q | q)
  · exact h.1 q
  · omega
