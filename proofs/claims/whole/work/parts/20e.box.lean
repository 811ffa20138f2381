
/-! A WEEK: one place of a box. -/
def fl (s : Nat → Int32) (c : Nat) : Nat → Option Nat
  | 0 => none
  | m + 1 => match fl s c m with
    | some l => some l
    | none => if s (250 + 6 * m) = nI c ∧ 0 < s (255 + 6 * m) then some m else none
theorem fl_none {s : Nat → Int32} {c : Nat} : ∀ m, fl s c m = none → ∀ q, q < m → ¬ (s (250 + 6 * q) = nI c ∧ 0 < s (255 + 6 * q))
  | 0, _, q, hq => absurd hq (by omega)
  | m + 1, h, q, hq => by
    rw [fl] at h
    cases e : fl s c m with
    | some x => rw [e] at h; cases h
    | none =>
      rw [e] at h
      dsimp only at h
      by_cases z : s (250 + 6 * m) = nI c ∧ 0 < s (255 + 6 * m)
      · rw [if_pos z] at h; cases h
      · by_cases eq : q = m
        · subst eq; exact z
        · exact fl_none m e q (by omega)
theorem fl_spec {s : Nat → Int32} {c : Nat} : ∀ m l, fl s c m = some l → l < m ∧ (s (250 + 6 * l) = nI c ∧ 0 < s (255 + 6 * l)) ∧ ∀ q, q < l → ¬ (s (250 + 6 * q) = nI c ∧ 0 < s (255 + 6 * q))
  | 0, l, h => by cases h
  | m + 1, l, h => by
    rw [fl] at h
    cases e : fl s c m with
    | some x =>
      rw [e] at h
      dsimp only at h
      injection h with h
      subst h
      obtain ⟨a1, a2⟩ := fl_spec m _ e
      exact ⟨by omega, a2⟩
    | none =>
      rw [e] at h
      dsimp only at h
      by_cases q : s (250 + 6 * m) = nI c ∧ 0 < s (255 + 6 * m)
      · rw [if_pos q] at h
        injection h with h
        subst h
        exact ⟨by omega, q, fl_none m e⟩
      · rw [if_neg q] at h
        cases h
theorem stock_zero {s : Nat → Int32} {x : Int32} : ∀ m, (∀ q, q < m → s (250 + 6 * q) = x → s (255 + 6 * q) = 0) → stockF s x m = 0
  | 0, _ => rfl
  | m + 1, h => by
    unfold stockF
    rw [stock_zero m (fun q hq => h q (by omega))]
    by_cases e : s (250 + 6 * m) = x
    · rw [if_pos e, h m (by omega) e]; rfl
    · rw [if_neg e]; rfl
theorem fl_pos {s : Nat → Int32} {c nl : Nat} (hr : ∀ q, q < nl → 0 ≤ (s (255 + 6 * q)).toInt) (h : 0 < stockF s (nI c) nl) : ∃ l, fl s c nl = some l := by
  cases e : fl s c nl with
  | some l => exact ⟨l, rfl⟩
  | none =>
    have hn := fl_none nl e
    rw [stock_zero nl (fun q hq hx => ?_)] at h
    · exact absurd h (by decide)
    · have h1 := hn q hq
      have h2 := hr q hq
      apply Int32.toInt_inj.mp
      rw [show (0 : Int32).toInt = 0 by decide]
      have h3 : ¬ 0 < s (255 + 6 * q) := fun z => h1 ⟨hx, z⟩
      rw [Int32.lt_iff_toInt_lt, show (0 : Int32).toInt = 0 by decide] at h3
      omega
theorem stock_dec {s s' : Nat → Int32} {l : Nat} {x : Int32} (h3 : s' (255 + 6 * l) = s (255 + 6 * l) - 1) (h4 : s (250 + 6 * l) = x) : ∀ m, l < m → (∀ q, q < m → s' (250 + 6 * q) = s (250 + 6 * q)) → (∀ q, q < m → q ≠ l → s' (255 + 6 * q) = s (255 + 6 * q)) → stockF s' x m = stockF s x m - 1
  | 0, h, _, _ => absurd h (by omega)
  | m + 1, h, h1, h2 => by
    unfold stockF
    by_cases e : m = l
    · subst e
      rw [stock_lt m (fun q hq => ⟨h1 q (by omega), h2 q (by omega) (by omega)⟩), h1 m (by omega), h3, if_pos h4, if_pos h4, Int32.sub_eq_add_neg, Int32.sub_eq_add_neg, Int32.add_assoc]
    · rw [stock_dec h3 h4 m (by omega) (fun q hq => h1 q (by omega)) (fun q hq => h2 q (by omega)), h1 m (by omega), h2 m (by omega) e, Int32.sub_eq_add_neg, Int32.sub_eq_add_neg, Int32.add_assoc, Int32.add_assoc, Int32.add_comm (-1)]
theorem stock_oth {s s' : Nat → Int32} {l : Nat} {x : Int32} (h4 : ¬ s (250 + 6 * l) = x) : ∀ m, (∀ q, q < m → s' (250 + 6 * q) = s (250 + 6 * q)) → (∀ q, q < m → q ≠ l → s' (255 + 6 * q) = s (255 + 6 * q)) → stockF s' x m = stockF s x m
  | 0, _, _ => rfl
  | m + 1, h1, h2 => by
    unfold stockF
    by_cases e : m = l
    · subst e
      rw [stock_oth h4 m (fun q hq => h1 q (by omega)) (fun q hq => h2 q (by omega)), h1 m (by omega), if_neg h4, if_neg h4]
    · rw [stock_oth h4 m (fun q hq => h1 q (by omega)) (fun q hq => h2 q (by omega)), h1 m (by omega), h2 m (by omega) e]
theorem ninB_iff {s : Nat → Int32} {h c : Nat} : ∀ m, ninB s h c m = false ↔ ∃ r, r < m ∧ s (1716 + 40 * h + 3 * r) = nI c
  | 0 => ⟨fun z => absurd z (by simp [ninB]), fun ⟨r, z, _⟩ => absurd z (by omega)⟩
  | m + 1 => by
    rw [ninB]
    by_cases e : s (1716 + 40 * h + 3 * m) = nI c
    · rw [decide_eq_true e]
      exact ⟨fun _ => ⟨m, by omega, e⟩, fun _ => by simp⟩
    · rw [decide_eq_false e]
      have := ninB_iff (s := s) (h := h) (c := c) m
      constructor
      · intro z
        obtain ⟨r, y1, y2⟩ := this.mp (by simpa using z)
        exact ⟨r, by omega, y2⟩
      · rintro ⟨r, y1, y2⟩
        have : ninB s h c m = false := this.mpr ⟨r, by
          by_cases q : r = m
          · subst q; exact absurd y2 e
          · omega, y2⟩
        simp [this]
/-- a place is filled with crop q for reason r out of lot l -/
def plY (s : Nat → Int32) (h p q : Nat) (r : Int32) (l : Nat) : Nat → Int32 := zuf (zuf (zuf (zuf (zuf (zuf (zuf (zuf s (1700 + 40 * h + 16 + 3 * p + 1) r) (1700 + 40 * h + 16 + 3 * p + 2) (-1)) (250 + 6 * l + 5) (s (250 + 6 * l + 5) - 1)) (1700 + 40 * h + 16 + 3 * p) (nI q)) (1700 + 40 * h + 16 + 3 * p + 2) (nI l)) (1700 + 40 * h + 8 + q) (s 0)) (1700 + 40 * h + 3) (s (1700 + 40 * h + 3) + s (50 + 10 * q + 5))) (50 + 10 * q + 8) (s (50 + 10 * q + 8) + 1)
def plN (s : Nat → Int32) (h p : Nat) : Nat → Int32 := zuf (zuf s (1700 + 40 * h + 16 + 3 * p + 1) (-2)) (1700 + 40 * h + 16 + 3 * p + 2) (-1)
section
variable {s : Nat → Int32} {h p q l : Nat} {r : Int32}
theorem plY_at (hh : h < 10) (hp : p < 6) (hq : q < 8) (hl : l < 240) (k : Nat) : plY s h p q r l k = if k = 50 + 10 * q + 8 then s (50 + 10 * q + 8) + 1 else if k = 1700 + 40 * h + 3 then s (1700 + 40 * h + 3) + s (50 + 10 * q + 5) else if k = 1700 + 40 * h + 8 + q then s 0 else if k = 1700 + 40 * h + 16 + 3 * p + 2 then nI l else if k = 1700 + 40 * h + 16 + 3 * p then nI q else if k = 250 + 6 * l + 5 then s (250 + 6 * l + 5) - 1 else if k = 1700 + 40 * h + 16 + 3 * p + 1 then r else s k := by
  unfold plY zuf
  repeat' split
  all_goals first | rfl | (exfalso; omega)
theorem plN_at (k : Nat) : plN s h p k = if k = 1700 + 40 * h + 16 + 3 * p + 2 then -1 else if k = 1700 + 40 * h + 16 + 3 * p + 1 then -2 else s k := by
  unfold plN zuf
  repeat' split
  all_goals first | rfl | (exfalso; omega)
end
/-- the class's cells then -/
def clY (c : mS) (h p q : Nat) (r : Int32) (l : Nat) (wv : Int32) : mS := zuf (zuf (zuf (zuf (zuf (zuf (zuf (zuf (zuf c 8 (zuf (c 8) q (c 8 q - 1))) 11 (zuf (c 11) q (c 11 q + 1))) (40 + h) (zuf (c (40 + h)) q (c 0 2))) (30 + h) (zuf (c (30 + h)) 3 (c (30 + h) 3 + wv))) 13 (zuf (c 13) 1 (c 13 1 + wv))) 6 (zuf (c 6) l (c 6 l - 1))) (50 + h) (zuf (c (50 + h)) p (nI q))) (60 + h) (zuf (c (60 + h)) p r)) (70 + h) (zuf (c (70 + h)) p (nI l))
def clN (c : mS) (h p : Nat) : mS := zuf (zuf (zuf (zuf (zuf c (50 + h) (zuf (c (50 + h)) p (-1))) (60 + h) (zuf (c (60 + h)) p (-2))) (70 + h) (zuf (c (70 + h)) p (-1))) (30 + h) (zuf (c (30 + h)) 4 (c (30 + h) 4 + 1))) 13 (zuf (c 13) 0 (c 13 0 + 1))
def PM (c : mS) (s : Nat → Int32) (wk h p : Nat) (hl : Int32) : Prop := (∀ k, k < 7 → k ≠ 4 → c (30 + h) k = s (1700 + 40 * h + k)) ∧ c (30 + h) 4 = s (1700 + 40 * h + 4) + hl ∧ (∀ q, q < 8 → c (40 + h) q = s (1708 + 40 * h + q) ∧ (s (1708 + 40 * h + q) = -1 ∨ ∃ k, s (1708 + 40 * h + q) = nI k ∧ k ≤ wk)) ∧ inN (s (1700 + 40 * h)) 1 6 ∧ inN (s (1701 + 40 * h)) 0 255 ∧ inN (s (1702 + 40 * h)) 0 (2 ^ 30 - 1) ∧ inN (s (1703 + 40 * h)) 0 (54 * wk + 9 * p) ∧ s (1706 + 40 * h) = 1 ∧ (∀ r, r < p → c (50 + h) r = s (1716 + 40 * h + 3 * r) ∧ c (60 + h) r = s (1717 + 40 * h + 3 * r) ∧ c (70 + h) r = s (1718 + 40 * h + 3 * r)) ∧ (∀ q, q < 8 → (s (1708 + 40 * h + q) = nI wk ↔ ∃ r, r < p ∧ s (1716 + 40 * h + 3 * r) = nI q)) ∧ ∀ r, p ≤ r → r < 6 → s (1716 + 40 * h + 3 * r) = -1
def GB (D : Nat → Prop) (M : zM) (n : Nat) (c : mS) (kp bt : Nat → Option Nat) (la : Nat) (s : Nat → Int32) (h p : Nat) (hl : Int32) (nc nh nl lm wk : Nat) : Prop := PN c s nc nh nl lm wk ∧ PC M n kp s nc ∧ PB M n c bt s nc ∧ PL c s nc nl wk ∧ PS c s nl ∧ h < nh ∧ (∀ q, q < nh → q ≠ h → PHi c s (wk + 1) q ∧ (D q → PHi c s wk q)) ∧ PM c s wk h p hl ∧ PW c s ∧ PX M n la s nc lm
theorem GB.qb {D : Nat → Prop} {M M' : zM} {n : Nat} {c : mS} {kp bt : Nat → Option Nat} {la : Nat} {s : Nat → Int32} {h p g sz : Nat} {hl : Int32} {nc nh nl lm wk : Nat} (hB : GB D M n c kp bt la s h p hl nc nh nl lm wk) (hG : Gc M' g c kp bt la) (hF : ∀ k, k < g ∨ g + 76 ≤ k → M' k = M k) (hg : 48 ≤ g ∧ g + 76 ≤ 300) (hz : s (1700 + 40 * h) = nI sz) (hz6 : sz ≤ 6) (hp : p ≤ sz) : QB M' g c kp bt la s nc nl lm wk h sz := by
  obtain ⟨⟨N1, N2, N3, N4, N5, N6, N7, N8, N9, N10, N11, N12, N13, N14, N15, N16, N17⟩, hC, hPB, hL, hS, hh, hHs, ⟨m1, m2, m3, m4, m5, m6, m7, m8, m9, m10, m11⟩, hW, hX⟩ := hB
  refine ⟨hG, N11.trans N1, N2, fun q hq => (hS q hq).1, N13, N9, N10, m1 0 (by omega) (by omega), hz, hz6, ?_, m3, fun q hq => ?_, by omega, N8, hX.lns hF hg⟩
  · rw [m1 1 (by omega) (by omega), show 1700 + 40 * h + 1 = 1701 + 40 * h by omega]
  · rw [m10 q hq, ninB_iff]
    constructor
    · rintro ⟨r, y1, y2⟩
      exact ⟨r, by omega, y2⟩
    · rintro ⟨r, y1, y2⟩
      by_cases z : r < p
      · exact ⟨r, z, y2⟩
      · rw [m11 r (by omega) (by omega)] at y2
        exact absurd y2.symm (zI_m1 (by omega))
