
/-! act. -/
theorem Tc.tz {M M' : zM} {t : mS} {tr : Option Nat} {f : Nat → Int32} {x : Int32} (h : Tc M t tr) (h276 : M' 276 = .inr (7, [.ref 277, .int x])) (h277 : M' 277 = .inl (0, 50, .inl f)) (hF : ∀ k, k ≠ 276 → k ≠ 277 → M' k = M k) : Tc M' (zuf (zuf t 12 f) 0 (zuf (t 0) 12 x)) tr := by
  obtain ⟨h1, h2, h3, h4, h5, h6, h7, h8, h9, h10⟩ := h
  refine ⟨?_, ?_, ?_, ?_, fun j hj => ?_, ⟨?_, fun j hj => ?_⟩, h276, h277, ?_, fun j hj => ?_⟩
  · rw [hF _ (by omega) (by omega)]; exact h1
  · rw [hF _ (by omega) (by omega)]; exact h2
  · rw [hF _ (by omega) (by omega)]; exact h3
  · rw [hF _ (by omega) (by omega)]; exact h4
  · rw [hF _ (by omega) (by omega), zuf_ne _ _ (by omega), zuf_ne _ _ (by omega)]; exact h5 j hj
  · rw [hF _ (by omega) (by omega)]; exact h6.1
  · rw [hF _ (by omega) (by omega), zuf_ne _ _ (by omega), zuf_ne _ _ (by omega)]; exact h6.2 j hj
  · rw [hF _ (by omega) (by omega)]; exact h9
  · rw [hF _ (by omega) (by omega), hF _ (by omega) (by omega), zuf_ne _ _ (by omega), zuf_ne _ _ (by omega), zuf_ne _ _ (by omega), zuf_ne _ _ (by omega)]; exact h10 j hj
def clAct (K A : Nat) (v : Int32) (l : List Int32) (x nu ys ke : Int32) : Prop := ∀ (M M0 : zM) (n w a : Nat) (f : Nat → Int32) (nd la wo : Int32), M0 1 = .inl (7, 6, .inl above) → M0 2 = .inl (7, 24, .inl bodies) → M0 a = .inr (1, [.int nu, .int (nI K), .int nd, .int ys, .int la, .int ke, .int wo]) → 300 ≤ a → (∀ k, k ≠ 276 → k ≠ 277 → M k = M0 k) → Pf M 0 f → zCalP 997 60 [.ref 276, .ref a, .int (nI K), .int (nI A), .int x, .int 0] n w M (fun u n' w' M' => u = some (.int v) ∧ n = n' ∧ w = w' ∧ (∀ k, k ≠ 276 → k ≠ 277 → M' k = M0 k) ∧ Pf M' l.length (app f 0 l))
def actM (A : Nat) : Nat := match A with
  | 0 => 206
  | 1 => 208
  | 2 => 209
  | _ => 211
def rfAct (K A : Nat) (v : Int32) (l : List Int32) (x : Int32) (i : Nat) (ys ke : Int32) : Prop := ∀ (M M0 : zM) (σ : mS) (n w : Nat), Rf M σ → Sm M0 M → σ 12 14 = nI 0 → σ 0 (50 + 10 * i + 0) = nI K → σ 0 (50 + 10 * i + 2) = ys → σ 0 (50 + 10 * i + 4) = ke → zCalP 998 (actM A) [.ref 287, .int (nI i), .int x] n w M (fun u n' w' M' => u = some (.int v) ∧ n = n' ∧ w = w' ∧ Sm M0 M' ∧ ∃ ρ, Rf M' ρ ∧ (∀ j, j ≠ 7 → j ≠ 12 → ρ j = σ j) ∧ ρ 7 = app (σ 7) 0 l ∧ ρ 12 = zuf (σ 12) 14 (nI l.length))
theorem act_0_0 (i : Nat) (hi : i < 8) (x ys ke : Int32) : ∃ v l, l.length ≤ 40 ∧ clAct 0 0 v l x (nI i) ys ke ∧ rfAct 0 0 v l x i ys ke := ⟨(x + ys), [10], by decide, fun M M0 n w a f nd la wo h1 h2 hc ha hF hP => pf_0_0_0 (e := 0) (tz := 0) h1 h2 hc ha hF hP (by omega) (by omega) x, fun M M0 σ n w hR hS h14 hk hy hke => rf_grow0_0 (tz := 0) hR hS h14 (by omega) hi hk hy hke x⟩
theorem act_0_1 (i : Nat) (hi : i < 8) (x ys ke : Int32) : ∃ v l, l.length ≤ 40 ∧ clAct 0 1 v l x (nI i) ys ke ∧ rfAct 0 1 v l x i ys ke := ⟨((x + ys) * 2), [11, 10], by decide, fun M M0 n w a f nd la wo h1 h2 hc ha hF hP => pf_0_0_1 (e := 0) (tz := 0) h1 h2 hc ha hF hP (by omega) (by omega) x, fun M M0 σ n w hR hS h14 hk hy hke => rf_give0_0 (tz := 0) hR hS h14 (by omega) hi hk hy hke x⟩
theorem act_0_2 (i : Nat) (hi : i < 8) (x ys ke : Int32) : ∃ v l, l.length ≤ 40 ∧ clAct 0 2 v l x (nI i) ys ke ∧ rfAct 0 2 v l x i ys ke := ⟨(x - ke), [12], by decide, fun M M0 n w a f nd la wo h1 h2 hc ha hF hP => pf_0_0_2 (e := 0) (tz := 0) h1 h2 hc ha hF hP (by omega) (by omega) x, fun M M0 σ n w hR hS h14 hk hy hke => rf_keep0_0 (tz := 0) hR hS h14 (by omega) hi hk hy hke x⟩
theorem act_0_3 (i : Nat) (hi : i < 8) (x ys ke : Int32) : ∃ v l, l.length ≤ 40 ∧ clAct 0 3 v l x (nI i) ys ke ∧ rfAct 0 3 v l x i ys ke := ⟨(((x + ys) * 2) ^^^ (x - ke)), [13, 11, 10, 12], by decide, fun M M0 n w a f nd la wo h1 h2 hc ha hF hP => pf_0_0_3 (e := 0) (tz := 0) h1 h2 hc ha hF hP (by omega) (by omega) x, fun M M0 σ n w hR hS h14 hk hy hke => rf_tell0_0 (tz := 0) hR hS h14 (by omega) hi hk hy hke x⟩
theorem act_1_0 (i : Nat) (hi : i < 8) (x ys ke : Int32) : ∃ v l, l.length ≤ 40 ∧ clAct 1 0 v l x (nI i) ys ke ∧ rfAct 1 0 v l x i ys ke := ⟨((x + ys) + nI i), [20, 10], by decide, fun M M0 n w a f nd la wo h1 h2 hc ha hF hP => pf_1_1_0 (e := 0) (tz := 0) h1 h2 hc ha hF hP (by omega) (by omega) x, fun M M0 σ n w hR hS h14 hk hy hke => rf_grow0_1 (tz := 0) hR hS h14 (by omega) hi hk hy hke x⟩
theorem act_1_1 (i : Nat) (hi : i < 8) (x ys ke : Int32) : ∃ v l, l.length ≤ 40 ∧ clAct 1 1 v l x (nI i) ys ke ∧ rfAct 1 1 v l x i ys ke := ⟨(((x + ys) + nI i) * 2), [11, 20, 10], by decide, fun M M0 n w a f nd la wo h1 h2 hc ha hF hP => pf_1_1_1 (e := 0) (tz := 0) h1 h2 hc ha hF hP (by omega) (by omega) x, fun M M0 σ n w hR hS h14 hk hy hke => rf_give0_1 (tz := 0) hR hS h14 (by omega) hi hk hy hke x⟩
theorem act_1_2 (i : Nat) (hi : i < 8) (x ys ke : Int32) : ∃ v l, l.length ≤ 40 ∧ clAct 1 2 v l x (nI i) ys ke ∧ rfAct 1 2 v l x i ys ke := ⟨(x - ke), [12], by decide, fun M M0 n w a f nd la wo h1 h2 hc ha hF hP => pf_1_1_2 (e := 0) (tz := 0) h1 h2 hc ha hF hP (by omega) (by omega) x, fun M M0 σ n w hR hS h14 hk hy hke => rf_keep0_1 (tz := 0) hR hS h14 (by omega) hi hk hy hke x⟩
theorem act_1_3 (i : Nat) (hi : i < 8) (x ys ke : Int32) : ∃ v l, l.length ≤ 40 ∧ clAct 1 3 v l x (nI i) ys ke ∧ rfAct 1 3 v l x i ys ke := ⟨(((((x + 1) + ys) + nI i) * 2) ^^^ ((x + 1) - ke)), [21, 13, 11, 20, 10, 12], by decide, fun M M0 n w a f nd la wo h1 h2 hc ha hF hP => pf_1_1_3 (e := 0) (tz := 0) h1 h2 hc ha hF hP (by omega) (by omega) x, fun M M0 σ n w hR hS h14 hk hy hke => rf_tell0_1 (tz := 0) hR hS h14 (by omega) hi hk hy hke x⟩
theorem act_2_0 (i : Nat) (hi : i < 8) (x ys ke : Int32) : ∃ v l, l.length ≤ 40 ∧ clAct 2 0 v l x (nI i) ys ke ∧ rfAct 2 0 v l x i ys ke := ⟨(x + ys), [10], by decide, fun M M0 n w a f nd la wo h1 h2 hc ha hF hP => pf_2_2_0 (e := 0) (tz := 0) h1 h2 hc ha hF hP (by omega) (by omega) x, fun M M0 σ n w hR hS h14 hk hy hke => rf_grow0_2 (tz := 0) hR hS h14 (by omega) hi hk hy hke x⟩
theorem act_2_1 (i : Nat) (hi : i < 8) (x ys ke : Int32) : ∃ v l, l.length ≤ 40 ∧ clAct 2 1 v l x (nI i) ys ke ∧ rfAct 2 1 v l x i ys ke := ⟨(((x + ys) * 2) - (x + ys)), [30, 11, 10, 10], by decide, fun M M0 n w a f nd la wo h1 h2 hc ha hF hP => pf_2_2_1 (e := 0) (tz := 0) h1 h2 hc ha hF hP (by omega) (by omega) x, fun M M0 σ n w hR hS h14 hk hy hke => rf_give0_2 (tz := 0) hR hS h14 (by omega) hi hk hy hke x⟩
theorem act_2_2 (i : Nat) (hi : i < 8) (x ys ke : Int32) : ∃ v l, l.length ≤ 40 ∧ clAct 2 2 v l x (nI i) ys ke ∧ rfAct 2 2 v l x i ys ke := ⟨(x - ke), [12], by decide, fun M M0 n w a f nd la wo h1 h2 hc ha hF hP => pf_2_2_2 (e := 0) (tz := 0) h1 h2 hc ha hF hP (by omega) (by omega) x, fun M M0 σ n w hR hS h14 hk hy hke => rf_keep0_2 (tz := 0) hR hS h14 (by omega) hi hk hy hke x⟩
theorem act_2_3 (i : Nat) (hi : i < 8) (x ys ke : Int32) : ∃ v l, l.length ≤ 40 ∧ clAct 2 3 v l x (nI i) ys ke ∧ rfAct 2 3 v l x i ys ke := ⟨((((x + ys) * 2) - (x + ys)) ^^^ (x - ke)), [13, 30, 11, 10, 10, 12], by decide, fun M M0 n w a f nd la wo h1 h2 hc ha hF hP => pf_2_2_3 (e := 0) (tz := 0) h1 h2 hc ha hF hP (by omega) (by omega) x, fun M M0 σ n w hR hS h14 hk hy hke => rf_tell0_2 (tz := 0) hR hS h14 (by omega) hi hk hy hke x⟩
theorem act_3_0 (i : Nat) (hi : i < 8) (x ys ke : Int32) : ∃ v l, l.length ≤ 40 ∧ clAct 3 0 v l x (nI i) ys ke ∧ rfAct 3 0 v l x i ys ke := ⟨((x + ys) + nI i), [20, 10], by decide, fun M M0 n w a f nd la wo h1 h2 hc ha hF hP => pf_3_3_0 (e := 0) (tz := 0) h1 h2 hc ha hF hP (by omega) (by omega) x, fun M M0 σ n w hR hS h14 hk hy hke => rf_grow0_3 (tz := 0) hR hS h14 (by omega) hi hk hy hke x⟩
theorem act_3_1 (i : Nat) (hi : i < 8) (x ys ke : Int32) : ∃ v l, l.length ≤ 40 ∧ clAct 3 1 v l x (nI i) ys ke ∧ rfAct 3 1 v l x i ys ke := ⟨((((x + ke) + ys) + nI i) * 2), [41, 11, 20, 10], by decide, fun M M0 n w a f nd la wo h1 h2 hc ha hF hP => pf_3_3_1 (e := 0) (tz := 0) h1 h2 hc ha hF hP (by omega) (by omega) x, fun M M0 σ n w hR hS h14 hk hy hke => rf_give0_3 (tz := 0) hR hS h14 (by omega) hi hk hy hke x⟩
theorem act_3_2 (i : Nat) (hi : i < 8) (x ys ke : Int32) : ∃ v l, l.length ≤ 40 ∧ clAct 3 2 v l x (nI i) ys ke ∧ rfAct 3 2 v l x i ys ke := ⟨((x - ke) * 3), [40, 12], by decide, fun M M0 n w a f nd la wo h1 h2 hc ha hF hP => pf_3_3_2 (e := 0) (tz := 0) h1 h2 hc ha hF hP (by omega) (by omega) x, fun M M0 σ n w hR hS h14 hk hy hke => rf_keep0_3 (tz := 0) hR hS h14 (by omega) hi hk hy hke x⟩
theorem act_3_3 (i : Nat) (hi : i < 8) (x ys ke : Int32) : ∃ v l, l.length ≤ 40 ∧ clAct 3 3 v l x (nI i) ys ke ∧ rfAct 3 3 v l x i ys ke := ⟨((((((x + 1) + ke) + ys) + nI i) * 2) ^^^ (((x + 1) - ke) * 3)), [21, 13, 41, 11, 20, 10, 40, 12], by decide, fun M M0 n w a f nd la wo h1 h2 hc ha hF hP => pf_3_3_3 (e := 0) (tz := 0) h1 h2 hc ha hF hP (by omega) (by omega) x, fun M M0 σ n w hR hS h14 hk hy hke => rf_tell0_3 (tz := 0) hR hS h14 (by omega) hi hk hy hke x⟩
theorem act_4_0 (i : Nat) (hi : i < 8) (x ys ke : Int32) : ∃ v l, l.length ≤ 40 ∧ clAct 4 0 v l x (nI i) ys ke ∧ rfAct 4 0 v l x i ys ke := ⟨(x + ys), [10], by decide, fun M M0 n w a f nd la wo h1 h2 hc ha hF hP => pf_4_4_0 (e := 0) (tz := 0) h1 h2 hc ha hF hP (by omega) (by omega) x, fun M M0 σ n w hR hS h14 hk hy hke => rf_grow0_4 (tz := 0) hR hS h14 (by omega) hi hk hy hke x⟩
theorem act_4_1 (i : Nat) (hi : i < 8) (x ys ke : Int32) : ∃ v l, l.length ≤ 40 ∧ clAct 4 1 v l x (nI i) ys ke ∧ rfAct 4 1 v l x i ys ke := ⟨((x + ys) * 2), [11, 10], by decide, fun M M0 n w a f nd la wo h1 h2 hc ha hF hP => pf_4_4_1 (e := 0) (tz := 0) h1 h2 hc ha hF hP (by omega) (by omega) x, fun M M0 σ n w hR hS h14 hk hy hke => rf_give0_4 (tz := 0) hR hS h14 (by omega) hi hk hy hke x⟩
theorem act_4_2 (i : Nat) (hi : i < 8) (x ys ke : Int32) : ∃ v l, l.length ≤ 40 ∧ clAct 4 2 v l x (nI i) ys ke ∧ rfAct 4 2 v l x i ys ke := ⟨(x - ke), [12], by decide, fun M M0 n w a f nd la wo h1 h2 hc ha hF hP => pf_4_4_2 (e := 0) (tz := 0) h1 h2 hc ha hF hP (by omega) (by omega) x, fun M M0 σ n w hR hS h14 hk hy hke => rf_keep0_4 (tz := 0) hR hS h14 (by omega) hi hk hy hke x⟩
theorem act_4_3 (i : Nat) (hi : i < 8) (x ys ke : Int32) : ∃ v l, l.length ≤ 40 ∧ clAct 4 3 v l x (nI i) ys ke ∧ rfAct 4 3 v l x i ys ke := ⟨((x - ke) - (((x + ys) * 2) ^^^ (x - ke))), [50, 12, 13, 11, 10, 12], by decide, fun M M0 n w a f nd la wo h1 h2 hc ha hF hP => pf_4_4_3 (e := 0) (tz := 0) h1 h2 hc ha hF hP (by omega) (by omega) x, fun M M0 σ n w hR hS h14 hk hy hke => rf_tell0_4 (tz := 0) hR hS h14 (by omega) hi hk hy hke x⟩
theorem act_5_0 (i : Nat) (hi : i < 8) (x ys ke : Int32) : ∃ v l, l.length ≤ 40 ∧ clAct 5 0 v l x (nI i) ys ke ∧ rfAct 5 0 v l x i ys ke := ⟨(((x + ys) + nI i) ^^^ 5), [60, 20, 10], by decide, fun M M0 n w a f nd la wo h1 h2 hc ha hF hP => pf_5_5_0 (e := 0) (tz := 0) h1 h2 hc ha hF hP (by omega) (by omega) x, fun M M0 σ n w hR hS h14 hk hy hke => rf_grow0_5 (tz := 0) hR hS h14 (by omega) hi hk hy hke x⟩
theorem act_5_1 (i : Nat) (hi : i < 8) (x ys ke : Int32) : ∃ v l, l.length ≤ 40 ∧ clAct 5 1 v l x (nI i) ys ke ∧ rfAct 5 1 v l x i ys ke := ⟨(((((x + ke) + ys) + nI i) ^^^ 5) * 2), [41, 11, 60, 20, 10], by decide, fun M M0 n w a f nd la wo h1 h2 hc ha hF hP => pf_5_5_1 (e := 0) (tz := 0) h1 h2 hc ha hF hP (by omega) (by omega) x, fun M M0 σ n w hR hS h14 hk hy hke => rf_give0_5 (tz := 0) hR hS h14 (by omega) hi hk hy hke x⟩
theorem act_5_2 (i : Nat) (hi : i < 8) (x ys ke : Int32) : ∃ v l, l.length ≤ 40 ∧ clAct 5 2 v l x (nI i) ys ke ∧ rfAct 5 2 v l x i ys ke := ⟨(((x - 1) - ke) * 3), [61, 40, 12], by decide, fun M M0 n w a f nd la wo h1 h2 hc ha hF hP => pf_5_5_2 (e := 0) (tz := 0) h1 h2 hc ha hF hP (by omega) (by omega) x, fun M M0 σ n w hR hS h14 hk hy hke => rf_keep0_5 (tz := 0) hR hS h14 (by omega) hi hk hy hke x⟩
theorem act_5_3 (i : Nat) (hi : i < 8) (x ys ke : Int32) : ∃ v l, l.length ≤ 40 ∧ clAct 5 3 v l x (nI i) ys ke ∧ rfAct 5 3 v l x i ys ke := ⟨(((((((x + 1) + ke) + ys) + nI i) ^^^ 5) * 2) ^^^ ((((x + 1) - 1) - ke) * 3)), [21, 13, 41, 11, 60, 20, 10, 61, 40, 12], by decide, fun M M0 n w a f nd la wo h1 h2 hc ha hF hP => pf_5_5_3 (e := 0) (tz := 0) h1 h2 hc ha hF hP (by omega) (by omega) x, fun M M0 σ n w hR hS h14 hk hy hke => rf_tell0_5 (tz := 0) hR hS h14 (by omega) hi hk hy hke x⟩
theorem acts (i : Nat) (hi : i < 8) (x ys ke : Int32) : ∀ K, K < 6 → ∀ A, A < 4 → ∃ v l, l.length ≤ 40 ∧ clAct K A v l x (nI i) ys ke ∧ rfAct K A v l x i ys ke
  | 0, _, 0, _ => act_0_0 i hi x ys ke
  | 0, _, 1, _ => act_0_1 i hi x ys ke
  | 0, _, 2, _ => act_0_2 i hi x ys ke
  | 0, _, 3, _ => act_0_3 i hi x ys ke
  | 0, _, A + 4, h => absurd h (by omega)
  | 1, _, 0, _ => act_1_0 i hi x ys ke
  | 1, _, 1, _ => act_1_1 i hi x ys ke
  | 1, _, 2, _ => act_1_2 i hi x ys ke
  | 1, _, 3, _ => act_1_3 i hi x ys ke
  | 1, _, A + 4, h => absurd h (by omega)
  | 2, _, 0, _ => act_2_0 i hi x ys ke
  | 2, _, 1, _ => act_2_1 i hi x ys ke
  | 2, _, 2, _ => act_2_2 i hi x ys ke
  | 2, _, 3, _ => act_2_3 i hi x ys ke
  | 2, _, A + 4, h => absurd h (by omega)
  | 3, _, 0, _ => act_3_0 i hi x ys ke
  | 3, _, 1, _ => act_3_1 i hi x ys ke
  | 3, _, 2, _ => act_3_2 i hi x ys ke
  | 3, _, 3, _ => act_3_3 i hi x ys ke
  | 3, _, A + 4, h => absurd h (by omega)
  | 4, _, 0, _ => act_4_0 i hi x ys ke
  | 4, _, 1, _ => act_4_1 i hi x ys ke
  | 4, _, 2, _ => act_4_2 i hi x ys ke
  | 4, _, 3, _ => act_4_3 i hi x ys ke
  | 4, _, A + 4, h => absurd h (by omega)
  | 5, _, 0, _ => act_5_0 i hi x ys ke
  | 5, _, 1, _ => act_5_1 i hi x ys ke
  | 5, _, 2, _ => act_5_2 i hi x ys ke
  | 5, _, 3, _ => act_5_3 i hi x ys ke
  | 5, _, A + 4, h => absurd h (by omega)
  | K + 6, h, _, _ => absurd h (by omega)
theorem TR.tz {t σ ρ : mS} {l : List Int32} (h : TR t σ) (hl : l.length ≤ 40) (hr : ∀ j, j ≠ 7 → j ≠ 12 → ρ j = σ j) (h7 : ρ 7 = app (σ 7) 0 l) (h12 : ρ 12 = zuf (σ 12) 14 (nI l.length)) : TR (zuf (zuf t 12 (app (t 12) 0 l)) 0 (zuf (t 0) 12 (nI l.length))) ρ := by
  obtain ⟨r1, r2, r3, r4, r5, r6, r7, r8, r9, r10, r11, r12⟩ := h
  unfold TR
  rw [h12, hr 3 (by omega) (by omega), hr 4 (by omega) (by omega), hr 5 (by omega) (by omega), hr 6 (by omega) (by omega), h7]
  refine ⟨r1, r2, r3, r4, r5, r6, r7, r8, r9, rfl, ⟨l.length, rfl, hl, fun i hi => app_agree l 0 _ _ (fun j hj => by omega) i (by omega)⟩, fun i hi => ?_⟩
  rw [zuf_ne _ _ (show 20 + i ≠ 0 by omega), zuf_ne _ _ (show 20 + i ≠ 12 by omega), zuf_ne _ _ (show 30 + i ≠ 0 by omega), zuf_ne _ _ (show 30 + i ≠ 12 by omega)]
  exact r12 i hi
theorem o_act {L : Nat} {xs : Nat → Int32} : op_act (Inv L xs) := by
  intro a b x M σ n w hI
  have hI' := hI
  obtain ⟨t, tr, c0, c1, c2, k0, k1, k2, b0, b1, b2, l0, l1, l2, hR, ⟨hT, hG0, hG1, hG2⟩, hg, hk, ht, hx, hn⟩ := hI
  have h25 := hT.1
  have hg' := hg
  obtain ⟨nc, nh, nl, lm, wk, hN, ⟨hC, hCn⟩, hB, hL, hSt, hH, hW, hX⟩ := hg'
  obtain ⟨N1, N2, N3, N4, N5, N6, N7, N8, N9, N10, N11, N12, N13, N14, N15, N16, N17⟩ := hN
  have h276 := hT.2.2.2.2.2.2.1
  have h277 := hT.2.2.2.2.2.2.2.1
  show zR ztb _ kX11_act 1 0 [some (.ref 25), some (.int a), some (.int b), some (.int x), none] [] _ _ _ _
  rcases inI_sub a nc (by omega) with ⟨i, hi, rfl, e⟩ | ⟨-, e⟩
  · have ec : inI (nI i) 0 (c0 0 0 - 1) = 1 := by rw [N11, N1]; exact e
    have er : inI (nI i) 0 (σ 0 2 - 1) = 1 := by rw [N1]; exact e
    obtain ⟨⟨pa, hk1, pa3, pan, hcM⟩, ⟨K, hK, -, hK5⟩, -⟩ := hC i hi
    rcases inI_nat b 0 3 (by omega) (by omega) with ⟨A, -, hA, rfl, e2⟩ | ⟨-, e2⟩
    · replace e2 : inI (nI A) 0 3 = 1 := e2
      obtain ⟨v, l, hl, q1, q2⟩ := acts i (by omega) x (σ 0 (50 + 10 * i + 2)) (σ 0 (50 + 10 * i + 4)) K (by omega) A (by omega)
      have hcM1 : (zup M 276 (.inr (7, [.ref 277, .int 0]))) pa = .inr (1, [.int (nI i), .int (nI K), .int (σ 0 (51 + 10 * i)), .int (σ 0 (50 + 10 * i + 2)), .int (σ 0 (53 + 10 * i)), .int (σ 0 (50 + 10 * i + 4)), .int (σ 0 (55 + 10 * i))]) := by
        rw [zup_ne _ _ (by omega), hcM]
        unfold cropF
        rw [hK, show 52 + 10 * i = 50 + 10 * i + 2 by omega, show 54 + 10 * i = 50 + 10 * i + 4 by omega]
      repeat (first | ((with_reducible refine zR.stored ?_); dsimp only [zsto, zclr, zset, zget, zc2, cond_false, cond_true]) | ((with_reducible refine zR.atLit ?_); first | refine zR.step rfl ?_ | refine zR.getf rfl (h25) rfl ?_ | refine zR.cv rfl rfl rfl hG0.o rfl rfl (zCalP.of (c_cropAt_y hG0 ec (by omega) hk1) ?_) | refine zR.cs rfl rfl rfl rfl rfl (zCalP.of (c_isWithin _ _ _) ?_)) | rw [zcc1] | rw [zcc2] | rw [zcc3] | rw [zcc4] | rw [e2])
      refine zR.cv rfl rfl rfl h276 rfl rfl ?_
      show zR ztb _ kX7_start 1 0 [some (.ref 276), some (.ref pa), some (.int (nI A)), some (.int x)] [] _ _ _ _
      iterate 2 refine zR.step rfl ?_
      refine zR.putf rfl h276 rfl rfl ?_
      repeat (first | ((with_reducible refine zR.stored ?_); dsimp only [zsto, zclr, zset, zget, zc2, cond_false, cond_true]) | ((with_reducible refine zR.atLit ?_); first | refine zR.step rfl ?_ | refine zR.getf rfl (hcM1) rfl ?_) | rw [zcc1] | rw [zcc2] | rw [zcc3] | rw [zcc4])
      refine zR.cv rfl rfl rfl (zup_self _ _ _) rfl rfl (zR.mono (q1 _ _ _ _ pa (t 12) _ _ _ (by rw [zup_ne _ _ (by omega)]; exact hAb hx) (by rw [zup_ne _ _ (by omega)]; exact hBo hx) hcM1 pa3 (fun _ _ _ => rfl) ⟨zup_self _ _ _, by rw [zup_ne _ _ (by omega)]; exact h277⟩) (fun u n1 w1 MA hv => ?_))
      obtain ⟨rfl, rfl, rfl, gF', hP⟩ := hv
      have gF : ∀ k, k ≠ 276 → k ≠ 277 → MA k = M k := fun k u v => by rw [gF' k u v, zup_ne _ _ u]
      have hT' := hT.tz hP.1 hP.2 gF
      refine zR.ret rfl rfl ?_
      repeat (first | ((with_reducible refine zR.stored ?_); dsimp only [zsto, zclr, zset, zget, zc2, cond_false, cond_true]) | ((with_reducible refine zR.atLit ?_); first | refine zR.step rfl ?_) | rw [zcc1] | rw [zcc2] | rw [zcc3] | rw [zcc4])
      refine zR.cv rfl rfl rfl hT'.1 rfl rfl (zCalP.of (c_doneC hT'.1 _) ?_)
      repeat (first | ((with_reducible refine zR.stored ?_); dsimp only [zsto, zclr, zset, zget, zc2, cond_false, cond_true]) | ((with_reducible refine zR.atLit ?_); first | refine zR.step rfl ?_) | rw [zcc1] | rw [zcc2] | rw [zcc3] | rw [zcc4])
      replace hR : Rf (zup MA 25 (.inr (11, tob (tst (zuf (zuf t 12 (app (t 12) 0 l)) 0 (zuf (t 0) 12 (nI l.length))) 0)))) σ := Rf.out ⟨by rw [gF _ (by omega) (by omega)]; exact hR.1, fun j hj => by rw [gF _ (by omega) (by omega)]; exact hR.2 j hj⟩ (by omega)
      refine zR.ret rfl rfl ⟨_, rfl, ⟨_, hR.1⟩, by rw [zup_ne _ _ (by omega), gF _ (by omega) (by omega)], ?_⟩
      show zR ztb _ kX12_act 1 0 [some (.ref 287), some (.int (nI i)), some (.int (nI A)), some (.int x)] [] _ _ _ _
      repeat (first | ((with_reducible refine zR.stored ?_); dsimp only [zsto, zclr, zset, zget, zc2, cond_false, cond_true]) | ((with_reducible refine zR.atLit ?_); first | refine zR.step rfl ?_ | refine zR.cv rfl rfl rfl hR.1 rfl rfl (zCalP.of (c_isCrop hR _) ?_) | refine zR.cs rfl rfl rfl rfl rfl (zCalP.of (c_in _ _ _) ?_)) | rw [zcc1] | rw [zcc2] | rw [zcc3] | rw [zcc4] | rw [er] | rw [e2])
      refine zR.putR hR Sm.rf rfl rfl rfl rfl (fun M2 hR3 hS3 => ?_)
      have q3 := fun n w => q2 M2 _ _ n w hR3 hS3 (by rw [zuf_self, zuf_self]; rfl) hK rfl rfl
      have fin : ∀ (M4 : zM) (ρ : mS), Sm (zup MA 25 (.inr (11, tob (tst (zuf (zuf t 12 (app (t 12) 0 l)) 0 (zuf (t 0) 12 (nI l.length))) 0)))) M4 → Rf M4 ρ → (∀ j, j ≠ 7 → j ≠ 12 → ρ j = zuf σ 12 (zuf (σ 12) 14 0) j) → ρ 7 = app (zuf σ 12 (zuf (σ 12) 14 0) 7) 0 l → ρ 12 = zuf (zuf σ 12 (zuf (σ 12) 14 0) 12) 14 (nI l.length) → ∀ pc, pc = 76 → zR ztb 999 kX12_act 1 pc [some (.ref 287), some (.int (nI i)), some (.int (nI A)), some (.int x)] [.int v, .ref 287] n w M4 (fun v' n2 w2 M2 => v' = some (.int v) ∧ n2 ≤ n + 9 ∧ w2 ≤ w + 1000 ∧ ∃ σ', Inv L xs M2 σ' n2 w2) := by
        intro M4 ρ hS hR u1 u2 u3 pc hpc
        subst hpc
        rw [zuf_self, zuf_uf] at u3
        replace u1 : ∀ j, j ≠ 7 → j ≠ 12 → ρ j = σ j := fun j a b => (u1 j a b).trans (zuf_ne _ _ b)
        replace u2 : ρ 7 = app (σ 7) 0 l := u2
        refine zR.cv rfl rfl rfl hR.1 rfl rfl (zR.mono (c_done hR _) (fun v n' w' M' hv => ?_))
        obtain ⟨rfl, rfl, rfl, hR2, hS2⟩ := hv
        repeat (first | rw [zcc1] | rw [zcc2] | rw [zcc3] | rw [zcc4] | refine zR.step rfl ?_)
        have p0 := u1 0 (by omega) (by omega)
        have p1 := u1 1 (by omega) (by omega)
        have p123 : ρ 12 3 = σ 12 3 := by rw [u3, zuf_ne _ _ (by omega)]
        refine zR.ret rfl rfl ⟨rfl, by omega, by omega, _, inv_fin (M1 := MA) (σ := ρ) ⟨hT', hG0.same (fun k a b => gF k (by omega) (by omega)), hG1.same (fun k a b => gF k (by omega) (by omega)), hG2.same (fun k a b => gF k (by omega) (by omega))⟩ (by rw [p0]; exact hg.mv (fun k a b => gF k (by omega) (by omega)) (Nat.le_refl _)) (fun h => by rw [p1]; exact (hk (by rw [← p123]; exact h)).mv (fun k a b => gF k (by omega) (by omega)) (Nat.le_refl _)) (ht.tz hl u1 u2 u3) (fun k hk => by rw [gF k (by omega) (by omega)]; exact hx k hk) hn hR2 (hS.trans hS2)⟩
      clear q1 q2
      match A, hA, q3 with
      | 0, _, q3 =>
        repeat (first | ((with_reducible refine zR.stored ?_); dsimp only [zsto, zclr, zset, zget, zc2, cond_false, cond_true]) | ((with_reducible refine zR.atLit ?_); first | refine zR.step rfl ?_) | rw [zcc1] | rw [zcc2] | rw [zcc3] | rw [zcc4] | rw [zb1 (by decide)] | rw [zb2 (by decide)] | rw [zb3 (by decide)] | rw [zb4 (by decide)] | rw [zn1 (by decide)] | rw [zn2 (by decide)] | rw [zn3 (by decide)] | rw [zn4 (by decide)] | rw [ze1 (by decide)] | rw [ze2 (by decide)] | rw [zd1 (by decide)] | rw [zd2 (by decide)] | rw [zswy (by decide)] | rw [zswn (by decide)] | rw [zsw0])
        refine zR.cv rfl rfl rfl hR3.1 rfl rfl (zR.mono (q3 _ _) (fun u n4 w4 M4 hv => ?_))
        obtain ⟨rfl, rfl, rfl, hS4, ρ, hR4, u1, u2, u3⟩ := hv
        repeat (first | with_reducible refine zR.hold (pc := 76) ?_ | ((with_reducible refine zR.stored ?_); dsimp only [zsto, zclr, zset, zget, zc2, cond_false, cond_true]) | ((with_reducible refine zR.atLit ?_); first | refine zR.step rfl ?_) | rw [zcc1] | rw [zcc2] | rw [zcc3] | rw [zcc4])
        exact ⟨trivial, fin M4 ρ hS4 hR4 u1 u2 u3 _ rfl⟩
      | 1, _, q3 =>
        repeat (first | ((with_reducible refine zR.stored ?_); dsimp only [zsto, zclr, zset, zget, zc2, cond_false, cond_true]) | ((with_reducible refine zR.atLit ?_); first | refine zR.step rfl ?_) | rw [zcc1] | rw [zcc2] | rw [zcc3] | rw [zcc4] | rw [zb1 (by decide)] | rw [zb2 (by decide)] | rw [zb3 (by decide)] | rw [zb4 (by decide)] | rw [zn1 (by decide)] | rw [zn2 (by decide)] | rw [zn3 (by decide)] | rw [zn4 (by decide)] | rw [ze1 (by decide)] | rw [ze2 (by decide)] | rw [zd1 (by decide)] | rw [zd2 (by decide)] | rw [zswy (by decide)] | rw [zswn (by decide)] | rw [zsw0])
        refine zR.cv rfl rfl rfl hR3.1 rfl rfl (zR.mono (q3 _ _) (fun u n4 w4 M4 hv => ?_))
        obtain ⟨rfl, rfl, rfl, hS4, ρ, hR4, u1, u2, u3⟩ := hv
        repeat (first | with_reducible refine zR.hold (pc := 76) ?_ | ((with_reducible refine zR.stored ?_); dsimp only [zsto, zclr, zset, zget, zc2, cond_false, cond_true]) | ((with_reducible refine zR.atLit ?_); first | refine zR.step rfl ?_) | rw [zcc1] | rw [zcc2] | rw [zcc3] | rw [zcc4])
        exact ⟨trivial, fin M4 ρ hS4 hR4 u1 u2 u3 _ rfl⟩
      | 2, _, q3 =>
        repeat (first | ((with_reducible refine zR.stored ?_); dsimp only [zsto, zclr, zset, zget, zc2, cond_false, cond_true]) | ((with_reducible refine zR.atLit ?_); first | refine zR.step rfl ?_) | rw [zcc1] | rw [zcc2] | rw [zcc3] | rw [zcc4] | rw [zb1 (by decide)] | rw [zb2 (by decide)] | rw [zb3 (by decide)] | rw [zb4 (by decide)] | rw [zn1 (by decide)] | rw [zn2 (by decide)] | rw [zn3 (by decide)] | rw [zn4 (by decide)] | rw [ze1 (by decide)] | rw [ze2 (by decide)] | rw [zd1 (by decide)] | rw [zd2 (by decide)] | rw [zswy (by decide)] | rw [zswn (by decide)] | rw [zsw0])
        refine zR.cv rfl rfl rfl hR3.1 rfl rfl (zR.mono (q3 _ _) (fun u n4 w4 M4 hv => ?_))
        obtain ⟨rfl, rfl, rfl, hS4, ρ, hR4, u1, u2, u3⟩ := hv
        repeat (first | with_reducible refine zR.hold (pc := 76) ?_ | ((with_reducible refine zR.stored ?_); dsimp only [zsto, zclr, zset, zget, zc2, cond_false, cond_true]) | ((with_reducible refine zR.atLit ?_); first | refine zR.step rfl ?_) | rw [zcc1] | rw [zcc2] | rw [zcc3] | rw [zcc4])
        exact ⟨trivial, fin M4 ρ hS4 hR4 u1 u2 u3 _ rfl⟩
      | 3, _, q3 =>
        repeat (first | ((with_reducible refine zR.stored ?_); dsimp only [zsto, zclr, zset, zget, zc2, cond_false, cond_true]) | ((with_reducible refine zR.atLit ?_); first | refine zR.step rfl ?_) | rw [zcc1] | rw [zcc2] | rw [zcc3] | rw [zcc4] | rw [zb1 (by decide)] | rw [zb2 (by decide)] | rw [zb3 (by decide)] | rw [zb4 (by decide)] | rw [zn1 (by decide)] | rw [zn2 (by decide)] | rw [zn3 (by decide)] | rw [zn4 (by decide)] | rw [ze1 (by decide)] | rw [ze2 (by decide)] | rw [zd1 (by decide)] | rw [zd2 (by decide)] | rw [zswy (by decide)] | rw [zswn (by decide)] | rw [zsw0])
        refine zR.cv rfl rfl rfl hR3.1 rfl rfl (zR.mono (q3 _ _) (fun u n4 w4 M4 hv => ?_))
        obtain ⟨rfl, rfl, rfl, hS4, ρ, hR4, u1, u2, u3⟩ := hv
        skip
        exact fin M4 ρ hS4 hR4 u1 u2 u3 _ rfl
      | A + 4, h, _ => exact absurd h (by omega)
    · replace e2 : inI b 0 3 = 0 := e2
      repeat (first | ((with_reducible refine zR.stored ?_); dsimp only [zsto, zclr, zset, zget, zc2, cond_false, cond_true]) | ((with_reducible refine zR.atLit ?_); first | refine zR.step rfl ?_ | refine zR.getf rfl (h25) rfl ?_ | refine zR.cv rfl rfl rfl hG0.o rfl rfl (zCalP.of (c_cropAt_y hG0 ec (by omega) hk1) ?_) | refine zR.cs rfl rfl rfl rfl rfl (zCalP.of (c_isWithin _ _ _) ?_)) | rw [zcc1] | rw [zcc2] | rw [zcc3] | rw [zcc4] | rw [e2])
      refine zR.cv rfl rfl rfl h25 rfl rfl (zCalP.of (c_refuse h25 _) ?_)
      repeat (first | rw [zcc1] | rw [zcc2] | rw [zcc3] | rw [zcc4] | refine zR.step rfl ?_)
      refine zR.ret rfl rfl ⟨_, rfl, ⟨_, (hR.out (by omega)).1⟩, rfl, ?_⟩
      replace hR : Rf (zup M 25 (.inr (11, tob (tst t 1)))) σ := hR.out (by omega)
      have hS : Sm (zup M 25 (.inr (11, tob (tst t 1)))) (zup M 25 (.inr (11, tob (tst t 1)))) := Sm.rf
      show zR ztb _ kX12_act 1 0 [some (.ref 287), some (.int (nI i)), some (.int b), some (.int x)] [] _ _ _ _
      repeat (first | ((with_reducible refine zR.stored ?_); dsimp only [zsto, zclr, zset, zget, zc2, cond_false, cond_true]) | ((with_reducible refine zR.atLit ?_); first | refine zR.step rfl ?_ | refine zR.cv rfl rfl rfl hR.1 rfl rfl (zCalP.of (c_isCrop hR _) ?_) | refine zR.cs rfl rfl rfl rfl rfl (zCalP.of (c_in _ _ _) ?_)) | rw [zcc1] | rw [zcc2] | rw [zcc3] | rw [zcc4] | rw [er] | rw [e2])
      refine zR.cv rfl rfl rfl hR.1 rfl rfl (zR.mono (c_refused hR _) (fun v n' w' M' hv => ?_))
      obtain ⟨rfl, rfl, rfl, hR2, hS2⟩ := hv
      repeat (first | rw [zcc1] | rw [zcc2] | rw [zcc3] | rw [zcc4] | refine zR.step rfl ?_)
      refine zR.ret rfl rfl ⟨rfl, by omega, by omega, _, inv_fin ⟨hT, hG0, hG1, hG2⟩ hg hk ht hx hn hR2 (hS.trans hS2)⟩
  · have ec : inI a 0 (c0 0 0 - 1) = 0 := by rw [N11, N1]; exact e
    have er : inI a 0 (σ 0 2 - 1) = 0 := by rw [N1]; exact e
    repeat (first | ((with_reducible refine zR.stored ?_); dsimp only [zsto, zclr, zset, zget, zc2, cond_false, cond_true]) | ((with_reducible refine zR.atLit ?_); first | refine zR.step rfl ?_ | refine zR.getf rfl (h25) rfl ?_ | refine zR.cv rfl rfl rfl hG0.o rfl rfl (zCalP.of (c_cropAt_n hG0 ec) ?_)) | rw [zcc1] | rw [zcc2] | rw [zcc3] | rw [zcc4])
    refine zR.cv rfl rfl rfl h25 rfl rfl (zCalP.of (c_refuse h25 _) ?_)
    repeat (first | rw [zcc1] | rw [zcc2] | rw [zcc3] | rw [zcc4] | refine zR.step rfl ?_)
    refine zR.ret rfl rfl ⟨_, rfl, ⟨_, (hR.out (by omega)).1⟩, rfl, ?_⟩
    replace hR : Rf (zup M 25 (.inr (11, tob (tst t 1)))) σ := hR.out (by omega)
    have hS : Sm (zup M 25 (.inr (11, tob (tst t 1)))) (zup M 25 (.inr (11, tob (tst t 1)))) := Sm.rf
    show zR ztb _ kX12_act 1 0 [some (.ref 287), some (.int a), some (.int b), some (.int x)] [] _ _ _ _
    repeat (first | ((with_reducible refine zR.stored ?_); dsimp only [zsto, zclr, zset, zget, zc2, cond_false, cond_true]) | ((with_reducible refine zR.atLit ?_); first | refine zR.step rfl ?_ | refine zR.cv rfl rfl rfl hR.1 rfl rfl (zCalP.of (c_isCrop hR _) ?_)) | rw [zcc1] | rw [zcc2] | rw [zcc3] | rw [zcc4] | rw [er])
    refine zR.cv rfl rfl rfl hR.1 rfl rfl (zR.mono (c_refused hR _) (fun v n' w' M' hv => ?_))
    obtain ⟨rfl, rfl, rfl, hR2, hS2⟩ := hv
    repeat (first | rw [zcc1] | rw [zcc2] | rw [zcc3] | rw [zcc4] | refine zR.step rfl ?_)
    refine zR.ret rfl rfl ⟨rfl, by omega, by omega, _, inv_fin ⟨hT, hG0, hG1, hG2⟩ hg hk ht hx hn hR2 (hS.trans hS2)⟩
