/-! THE REFERENCE'S CONSTRUCTOR. -/
def bareS (s : Nat → Int32) (b : Nat) : Nat → Int32 := zuf (zuf (zuf (zuf (zuf (zuf s (150 + 10 * b) (-1)) (150 + 10 * b + 1) (-1)) (150 + 10 * b + 2) 0) (150 + 10 * b + 3) 0) (150 + 10 * b + 4) 0) (150 + 10 * b + 5) 0
theorem zuf_s (σ : mS) (f g : Nat → Int32) : zuf (zuf σ 0 f) 0 g = zuf σ 0 g := zuf_uf σ 0 f g
theorem c_bare {d n w : Nat} {M : zM} {σ : mS} (hR : Rf M σ) (b : Nat) (hb : b < 8) : zCalP d 134 [.ref 287, .int (nI b)] n w M (fun v n' w' M' => v = none ∧ n' = n ∧ w' = w ∧ Rf M' (zuf σ 0 (bareS (σ 0) b)) ∧ Sm M M') := by
  have hS : Sm M M := Sm.rf
  show zR ztb _ kX12_bare 0 0 [some (.ref 287), some (.int (nI b)), none] [] _ _ _ _
  iterate 6
    repeat (first | refine zR.step rfl ?_ | refine zR.getf rfl hR.1 rfl ?_ | refine zR.ilR0 hR rfl (by (try simp only [zn_lit, zn_add, zn_mul]); rfl) (by omega) ?_)
    refine zR.isR0 hR hS rfl (by (try simp only [zn_lit, zn_add, zn_mul]); rfl) (by omega) (fun M' hR hS => ?_)
    try rw [zuf_s, zuf_self] at hR
  exact zR.ret rfl rfl ⟨rfl, rfl, rfl, hR, hS⟩
def bare7 (s : Nat → Int32) (b : Nat) : Nat → Int32 := zuf (bareS s b) (150 + 10 * b + 6) (-1)
theorem bare7_at (s : Nat → Int32) (b i : Nat) : bare7 s b i = if i = 150 + 10 * b ∨ i = 150 + 10 * b + 1 ∨ i = 150 + 10 * b + 6 then -1 else if 150 + 10 * b + 2 ≤ i ∧ i ≤ 150 + 10 * b + 5 then 0 else s i := by
  unfold bare7 bareS zuf
  repeat' split
  all_goals first | rfl | (exfalso; omega)
def brS : Nat → Nat → (Nat → Int32) → Nat → Int32
  | 0, _, s => s
  | t + 1, b, s => brS t (b + 1) (bare7 s b)
theorem brS_at : ∀ (t b : Nat) (s : Nat → Int32) (i : Nat), brS t b s i = if 150 + 10 * b ≤ i ∧ i < 150 + 10 * (b + t) ∧ i % 10 ≤ 6 then (if i % 10 = 0 ∨ i % 10 = 1 ∨ i % 10 = 6 then -1 else 0) else s i
  | 0, b, s, i => by
    rw [if_neg (by omega)]
    rfl
  | t + 1, b, s, i => by
    show brS t (b + 1) (bare7 s b) i = _
    rw [brS_at t (b + 1) (bare7 s b) i, bare7_at]
    repeat' split
    all_goals first | rfl | (exfalso; omega)
def s0 : Nat → Int32 := fun i => if i = 1 then 20 else if 150 ≤ i ∧ i < 230 ∧ (i % 10 = 0 ∨ i % 10 = 1 ∨ i % 10 = 6) then -1 else 0
theorem s0_eq : brS 8 0 (zuf (fun _ => 0) 1 20) = s0 := by
  funext i
  rw [brS_at]
  unfold s0 zuf
  repeat' split
  all_goals first | rfl | (exfalso; omega)
def σa : mS := fun j i => if j = 12 ∧ i = 8 then -1 else 0
def σ0 : mS := fun j i => if j = 0 then s0 i else if j = 4 then (if i < 4 then -1 else 0) else if j = 12 ∧ i = 8 then -1 else 0
theorem rinit_loop1 {d n w : Nat} {M0 : zM} {Q : Option Value → Nat → Nat → zM → Prop} : ∀ (t b : Nat) (M : zM) (σ : mS), b + t = 8 → Rf M σ → Sm M0 M → (∀ M', Rf M' (zuf σ 0 (brS t b (σ 0))) → Sm M0 M' → zR ztb (d + 1) kX12_init 0 153 [some (.ref 287), some (.int (nI 8))] [] n w M' Q) → zR ztb (d + 1) kX12_init 0 119 [some (.ref 287), some (.int (nI b))] [] n w M Q
  | 0, b, M, σ, hb, hR, hS, kk => by
    have h8 : b = 8 := by omega
    subst h8
    iterate 3 (refine zR.step rfl ?_)
    refine kk M ?_ hS
    have e : zuf σ 0 (brS 0 8 (σ 0)) = σ := by
      funext j
      unfold zuf
      split
      · rename_i h
        rw [h]
        rfl
      · rfl
    rw [e]
    exact hR
  | t + 1, b, M, σ, hb, hR, hS, kk => by
    iterate 3 (refine zR.step rfl ?_)
    refine zR.ite (fun _ => ?_) (fun h => absurd (show nI b < 8 from nI_lt (b := 8) (by omega) (by omega)) h)
    iterate 2 (refine zR.step rfl ?_)
    refine zR.cv rfl rfl rfl hR.1 rfl rfl (zR.mono (c_bare hR b (by omega)) (fun v n1 w1 M1 hv => ?_))
    obtain ⟨rfl, rfl, rfl, hR, hS1⟩ := hv
    have hS := hS.trans hS1
    repeat (first | refine zR.step rfl ?_ | refine zR.getf rfl hR.1 rfl ?_ | refine zR.ilR0 hR rfl (by (try simp only [zn_lit, zn_add, zn_mul]); rfl) (by omega) ?_)
    refine zR.isR0 hR hS rfl (by (try simp only [zn_lit, zn_add, zn_mul]); rfl) (by omega) (fun M' hR hS => ?_)
    rw [zuf_s, zuf_self] at hR
    iterate 2 (refine zR.step rfl ?_)
    have ih := rinit_loop1 (d := d) (n := n1) (w := w1) (M0 := M0) (Q := Q) t (b + 1) M' (zuf σ 0 (bare7 (σ 0) b)) (by omega) hR hS (fun M2 h1 h2 => kk M2 (by rw [zuf_s, zuf_self] at h1; exact h1) h2)
    rw [show nI (b + 1) = nI b + 1 from (zn_add b 1).symm] at ih
    exact ih
theorem zuf_z (σ : mS) (f g : Nat → Int32) (j : Nat) : zuf (zuf σ j f) j g = zuf σ j g := zuf_uf σ j f g
def srtS (t : Nat) (s : Nat → Int32) : Nat → Int32 := fun i => if i < t then -1 else s i
theorem rinit_loop2 {d n w : Nat} {M0 : zM} {σ : mS} {Q : Option Value → Nat → Nat → zM → Prop} : ∀ (t b : Nat) (M : zM), b + t = 4 → Rf M (zuf σ 4 (srtS b (σ 4))) → Sm M0 M → (∀ M', Rf M' (zuf σ 4 (srtS 4 (σ 4))) → Sm M0 M' → zR ztb (d + 1) kX12_init 0 173 [some (.ref 287), some (.int (nI 4))] [] n w M' Q) → zR ztb (d + 1) kX12_init 0 155 [some (.ref 287), some (.int (nI b))] [] n w M Q
  | 0, b, M, hb, hR, hS, kk => by
    have h8 : b = 4 := by omega
    subst h8
    iterate 3 (refine zR.step rfl ?_)
    exact kk M hR hS
  | t + 1, b, M, hb, hR, hS, kk => by
    iterate 3 (refine zR.step rfl ?_)
    refine zR.ite (fun _ => ?_) (fun h => absurd (show nI b < 4 from nI_lt (b := 4) (by omega) (by omega)) h)
    repeat (first | refine zR.step rfl ?_ | refine zR.getf rfl hR.1 rfl ?_ | refine zR.ilR0 hR rfl (by (try simp only [zn_lit, zn_add, zn_mul]); rfl) (by omega) ?_)
    refine zR.isR4 hR hS rfl (by (try simp only [zn_lit, zn_add, zn_mul]); rfl) (by omega) (fun M' hR hS => ?_)
    rw [zuf_z, zuf_self] at hR
    iterate 2 (refine zR.step rfl ?_)
    have e : zuf (srtS b (σ 4)) b (-1) = srtS (b + 1) (σ 4) := by
      funext i
      unfold zuf srtS
      repeat' split
      all_goals first | rfl | (exfalso; omega)
    rw [e] at hR
    have ih := rinit_loop2 (d := d) (n := n) (w := w) (M0 := M0) (Q := Q) t (b + 1) M' (by omega) hR hS kk
    rw [show nI (b + 1) = nI b + 1 from (zn_add b 1).symm] at ih
    exact ih
theorem c_MD_init {d w : Nat} {M : zM} (hM : M 287 = .inr (12, zdef 12)) : zCalP (d + 1) 130 [.ref 287] 288 w M (fun v n' w' M' => v = none ∧ n' = 300 ∧ w' ≤ w + 20000 ∧ Rf M' σ0 ∧ Sm M M') := by
  show zR ztb _ kX12_init 0 0 [some (.ref 287), none] [] _ _ _ _
  iterate 5 (refine zR.step rfl ?_)
  refine zR.putf rfl ((zup_ne _ _ (by omega)).trans hM) rfl rfl ?_
  iterate 47 (refine zR.step rfl ?_)
  have key := fun (M9 : zM) (w9 : Nat) (hR : Rf M9 σa) (hS : Sm M M9) (hw : w9 ≤ w + 20000) => (show zR ztb (d + 1) kX12_init 0 109 [some (.ref 287), none] [] 300 w9 M9 (fun v n' w' M' => v = none ∧ n' = 300 ∧ w' ≤ w + 20000 ∧ Rf M' σ0 ∧ Sm M M') from by
    repeat (first | refine zR.step rfl ?_ | refine zR.getf rfl hR.1 rfl ?_ | refine zR.ilR0 hR rfl (by (try simp only [zn_lit, zn_add, zn_mul]); rfl) (by omega) ?_)
    refine zR.isR0 (i := 1) hR hS rfl rfl (by omega) (fun M' hR hS => ?_)
    iterate 2 (refine zR.step rfl ?_)
    refine rinit_loop1 8 0 M' _ rfl hR hS (fun M2 hR hS => ?_)
    iterate 2 (refine zR.step rfl ?_)
    rw [zuf_s, zuf_self] at hR
    refine rinit_loop2 (σ := zuf σa 0 (brS 8 0 (zuf (σa 0) 1 20))) 4 0 M2 rfl ?_ hS (fun M3 hR hS => ?_)
    · have e : zuf (zuf σa 0 (brS 8 0 (zuf (σa 0) 1 20))) 4 (srtS 0 (zuf σa 0 (brS 8 0 (zuf (σa 0) 1 20)) 4)) = zuf σa 0 (brS 8 0 (zuf (σa 0) 1 20)) := by
        funext j i
        unfold zuf srtS
        by_cases h4 : j = 4
        · subst h4
          simp
        · rw [if_neg h4]
      rw [e]
      exact hR
    · have e : zuf (zuf σa 0 (brS 8 0 (zuf (σa 0) 1 20))) 4 (srtS 4 (zuf σa 0 (brS 8 0 (zuf (σa 0) 1 20)) 4)) = σ0 := by
        have ea : σa 0 = fun _ => 0 := by
          funext i
          unfold σa
          rw [if_neg (by omega)]
        rw [ea, s0_eq]
        funext j i
        by_cases h4 : j = 4
        · subst h4
          rw [zuf_self, zuf_ne _ _ (by decide)]
          simp [srtS, σ0, σa]
        · rw [zuf_ne _ _ h4]
          by_cases h0 : j = 0
          · subst h0
            rw [zuf_self]
            rfl
          · rw [zuf_ne _ _ h0]
            unfold σ0 σa
            rw [if_neg h0, if_neg h4]
      rw [e] at hR
      exact zR.ret rfl rfl ⟨rfl, rfl, hw, hR, hS⟩)
  refine key _ _ ⟨rfl, fun j hj => ?_⟩ (fun k hk => ?_) ?_
  · match j, hj with
    | 0, _ => rfl
    | 1, _ => rfl
    | 2, _ => rfl
    | 3, _ => rfl
    | 4, _ => rfl
    | 5, _ => rfl
    | 6, _ => rfl
    | 7, _ => rfl
    | 8, _ => rfl
    | 9, _ => rfl
    | 10, _ => rfl
    | 11, _ => rfl
  · simp (disch := omega) only [zup_ne]
  · have e1 : Int32.toNatClampNeg 2700 = 2700 := rfl
    have e2 : Int32.toNatClampNeg 200 = 200 := rfl
    have e3 : Int32.toNatClampNeg 4 = 4 := rfl
    have e4 : Int32.toNatClampNeg 160 = 160 := rfl
    have e5 : Int32.toNatClampNeg 50 = 50 := rfl
    have e6 : Int32.toNatClampNeg 80 = 80 := rfl
    have e7 : Int32.toNatClampNeg 400 = 400 := rfl
    have e8 : Int32.toNatClampNeg 120 = 120 := rfl
    have e9 : Int32.toNatClampNeg 8 = 8 := rfl
    omega
