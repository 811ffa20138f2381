
/-! act: bodies noted one behind another; the class's acts. -/
def app : (Nat → Int32) → Nat → List Int32 → (Nat → Int32)
  | f, _, [] => f
  | f, tz, b :: l => app (zuf f tz b) (tz + 1) l
theorem app_agree : ∀ (l : List Int32) (tz : Nat) (f g : Nat → Int32), (∀ i, i < tz → f i = g i) → ∀ i, i < tz + l.length → app f tz l i = app g tz l i
  | [], tz, f, g, h, i, hi => h i hi
  | b :: l, tz, f, g, h, i, hi => app_agree l (tz + 1) _ _ (fun j hj => by
      by_cases e : j = tz
      · subst e
        rw [zuf_self, zuf_self]
      · rw [zuf_ne _ _ e, zuf_ne _ _ e]
        exact h j (by omega)) i (by rw [List.length_cons] at hi; omega)
theorem app_cat : ∀ (a b : List Int32) (tz m : Nat) (f : Nat → Int32), m = tz + a.length → app (app f tz a) m b = app f tz (a ++ b)
  | [], b, tz, m, f, h => by subst h; rfl
  | x :: a, b, tz, m, f, h => app_cat a b (tz + 1) m (zuf f tz x) (by rw [h, List.length_cons]; omega)
def Pf (M : zM) (tz : Nat) (f : Nat → Int32) : Prop := M 276 = .inr (7, [.ref 277, .int (nI tz)]) ∧ M 277 = .inl (0, 50, .inl f)
theorem c_noteP {M M0 : zM} {d n w tz : Nat} {f : Nat → Int32} (hF : ∀ k, k ≠ 276 → k ≠ 277 → M k = M0 k) (hP : Pf M tz f) (hz : tz < 50) (x : Int32) : zCalP d 62 [.ref 276, .int x] n w M (fun v n' w' M' => v = none ∧ n = n' ∧ w = w' ∧ (∀ k, k ≠ 276 → k ≠ 277 → M' k = M0 k) ∧ Pf M' (tz + 1) (app f tz [x])) :=
  zCalP.of (c_note hP.1 hP.2 hz x) ⟨rfl, rfl, rfl, fun k h1 h2 => by rw [zup_ne _ _ h1, zup_ne _ _ h2]; exact hF k h1 h2, zup_self _ _ _, by rw [zup_ne _ _ (by omega), zup_self]; rfl⟩
theorem pf_0_0_0 {M M0 : zM} {d n w a tz e : Nat} {f : Nat → Int32} {nu nd ys la ke wo : Int32} (h1 : M0 1 = .inl (7, 6, .inl above)) (h2 : M0 2 = .inl (7, 24, .inl bodies)) (hc : M0 a = .inr (1, [.int nu, .int 0, .int nd, .int ys, .int la, .int ke, .int wo])) (ha : 300 ≤ a) (hF : ∀ k, k ≠ 276 → k ≠ 277 → M k = M0 k) (hP : Pf M tz f) (hz : tz + 1 ≤ 50) (he : e + 2 ≤ 15) (x : Int32) : zCalP (d + 2) 60 [.ref 276, .ref a, .int 0, .int 0, .int x, .int (nI e)] n w M (fun v n' w' M' => v = some (.int (x + ys)) ∧ n = n' ∧ w = w' ∧ (∀ k, k ≠ 276 → k ≠ 277 → M' k = M0 k) ∧ Pf M' (tz + 1) (app f tz [10])) := by
  have e20 : ¬ (20 : Int32) < nI e := zI_nlt (b := e) (a := 20) (by omega) (by omega)
  have g1 := (hF 1 (by omega) (by omega)).trans h1
  have g2 := (hF 2 (by omega) (by omega)).trans h2
  show zR ztb _ kX7_perform 1 0 [some (.ref 276), some (.ref a), some (.int 0), some (.int 0), some (.int x), some (.int (nI e)), none, none, none, none, none] [] _ _ _ _
  repeat (first | ((with_reducible refine zR.stored ?_); dsimp only [zsto, zclr, zset, zget, zc2, cond_false, cond_true]) | ((with_reducible refine zR.atLit ?_); first | refine zR.step rfl ?_ | refine zR.cs rfl rfl rfl rfl rfl (zCalP.of (kwb_0_0 g1 g2) ?_) | (refine zR.iald rfl g2 (Or.inr rfl) (i := 0) (by decide) (by omega) (by decide) ?_; rw [show bodies 0 = 10 by decide])) | rw [zcc1] | rw [zcc2] | rw [zcc3] | rw [zcc4] | rw [zb1 (by decide)] | rw [zb2 (by decide)] | rw [zb3 (by decide)] | rw [zb4 (by decide)] | rw [zn1 (by decide)] | rw [zn2 (by decide)] | rw [zn3 (by decide)] | rw [zn4 (by decide)] | rw [ze1 (by decide)] | rw [ze2 (by decide)] | rw [zd1 (by decide)] | rw [zd2 (by decide)] | rw [zswy (by decide)] | rw [zswn (by decide)] | rw [zsw0] | rw [zn1 (e20)] | rw [zn2 (e20)] | rw [zn3 (e20)] | rw [zn4 (e20)])
  refine zR.cv rfl rfl rfl hP.1 rfl rfl (zR.mono (c_noteP hF hP (by omega) _) (fun v n1 w1 M1 hv => ?_))
  obtain ⟨rfl, rfl, rfl, hF1, hP1⟩ := hv
  have k1 := (hF1 1 (by omega) (by omega)).trans h1
  have kc1 := (hF1 a (by omega) (by omega)).trans hc
  repeat (first | ((with_reducible refine zR.stored ?_); dsimp only [zsto, zclr, zset, zget, zc2, cond_false, cond_true]) | ((with_reducible refine zR.atLit ?_); first | refine zR.step rfl ?_ | refine zR.getf rfl (kc1) rfl ?_ | (refine zR.iald rfl k1 (Or.inr rfl) (i := 0) rfl (by omega) (by decide) ?_; rw [ab_0])) | rw [zcc1] | rw [zcc2] | rw [zcc3] | rw [zcc4] | rw [zb1 (by decide)] | rw [zb2 (by decide)] | rw [zb3 (by decide)] | rw [zb4 (by decide)] | rw [zn1 (by decide)] | rw [zn2 (by decide)] | rw [zn3 (by decide)] | rw [zn4 (by decide)] | rw [ze1 (by decide)] | rw [ze2 (by decide)] | rw [zd1 (by decide)] | rw [zd2 (by decide)] | rw [zswy (by decide)] | rw [zswn (by decide)] | rw [zsw0])
  refine zR.ret rfl rfl ⟨rfl, rfl, rfl, hF1, ?_⟩
  exact hP1
theorem pf_0_0_1 {M M0 : zM} {d n w a tz e : Nat} {f : Nat → Int32} {nu nd ys la ke wo : Int32} (h1 : M0 1 = .inl (7, 6, .inl above)) (h2 : M0 2 = .inl (7, 24, .inl bodies)) (hc : M0 a = .inr (1, [.int nu, .int 0, .int nd, .int ys, .int la, .int ke, .int wo])) (ha : 300 ≤ a) (hF : ∀ k, k ≠ 276 → k ≠ 277 → M k = M0 k) (hP : Pf M tz f) (hz : tz + 2 ≤ 50) (he : e + 3 ≤ 15) (x : Int32) : zCalP (d + 3) 60 [.ref 276, .ref a, .int 0, .int 1, .int x, .int (nI e)] n w M (fun v n' w' M' => v = some (.int ((x + ys) * 2)) ∧ n = n' ∧ w = w' ∧ (∀ k, k ≠ 276 → k ≠ 277 → M' k = M0 k) ∧ Pf M' (tz + 2) (app f tz [11, 10])) := by
  have e20 : ¬ (20 : Int32) < nI e := zI_nlt (b := e) (a := 20) (by omega) (by omega)
  have g1 := (hF 1 (by omega) (by omega)).trans h1
  have g2 := (hF 2 (by omega) (by omega)).trans h2
  show zR ztb _ kX7_perform 1 0 [some (.ref 276), some (.ref a), some (.int 0), some (.int 1), some (.int x), some (.int (nI e)), none, none, none, none, none] [] _ _ _ _
  repeat (first | ((with_reducible refine zR.stored ?_); dsimp only [zsto, zclr, zset, zget, zc2, cond_false, cond_true]) | ((with_reducible refine zR.atLit ?_); first | refine zR.step rfl ?_ | refine zR.cs rfl rfl rfl rfl rfl (zCalP.of (kwb_0_1 g1 g2) ?_) | (refine zR.iald rfl g2 (Or.inr rfl) (i := 1) (by decide) (by omega) (by decide) ?_; rw [show bodies 1 = 11 by decide])) | rw [zcc1] | rw [zcc2] | rw [zcc3] | rw [zcc4] | rw [zb1 (by decide)] | rw [zb2 (by decide)] | rw [zb3 (by decide)] | rw [zb4 (by decide)] | rw [zn1 (by decide)] | rw [zn2 (by decide)] | rw [zn3 (by decide)] | rw [zn4 (by decide)] | rw [ze1 (by decide)] | rw [ze2 (by decide)] | rw [zd1 (by decide)] | rw [zd2 (by decide)] | rw [zswy (by decide)] | rw [zswn (by decide)] | rw [zsw0] | rw [zn1 (e20)] | rw [zn2 (e20)] | rw [zn3 (e20)] | rw [zn4 (e20)])
  refine zR.cv rfl rfl rfl hP.1 rfl rfl (zR.mono (c_noteP hF hP (by omega) _) (fun v n1 w1 M1 hv => ?_))
  obtain ⟨rfl, rfl, rfl, hF1, hP1⟩ := hv
  have k1 := (hF1 1 (by omega) (by omega)).trans h1
  have kc1 := (hF1 a (by omega) (by omega)).trans hc
  repeat (first | ((with_reducible refine zR.stored ?_); dsimp only [zsto, zclr, zset, zget, zc2, cond_false, cond_true]) | ((with_reducible refine zR.atLit ?_); first | refine zR.step rfl ?_ | refine zR.getf rfl (kc1) rfl ?_ | (refine zR.iald rfl k1 (Or.inr rfl) (i := 0) rfl (by omega) (by decide) ?_; rw [ab_0])) | rw [zcc1] | rw [zcc2] | rw [zcc3] | rw [zcc4] | rw [zb1 (by decide)] | rw [zb2 (by decide)] | rw [zb3 (by decide)] | rw [zb4 (by decide)] | rw [zn1 (by decide)] | rw [zn2 (by decide)] | rw [zn3 (by decide)] | rw [zn4 (by decide)] | rw [ze1 (by decide)] | rw [ze2 (by decide)] | rw [zd1 (by decide)] | rw [zd2 (by decide)] | rw [zswy (by decide)] | rw [zswn (by decide)] | rw [zsw0])
  try rw [zI_s]
  refine zR.cv rfl rfl rfl hP1.1 rfl rfl (zR.mono (pf_0_0_0 (e := e + 1) h1 h2 hc ha hF1 hP1 (by omega) (by omega) _) (fun v n2 w2 M2 hv => ?_))
  obtain ⟨rfl, rfl, rfl, hF2, hP2⟩ := hv
  have kc2 := (hF2 a (by omega) (by omega)).trans hc
  repeat (first | ((with_reducible refine zR.stored ?_); dsimp only [zsto, zclr, zset, zget, zc2, cond_false, cond_true]) | ((with_reducible refine zR.atLit ?_); first | refine zR.step rfl ?_ | refine zR.getf rfl (kc2) rfl ?_) | rw [zcc1] | rw [zcc2] | rw [zcc3] | rw [zcc4])
  refine zR.ret rfl rfl ⟨rfl, rfl, rfl, hF2, ?_⟩
  rw [app_cat [11] [10] tz (tz + 1) f rfl] at hP2
  exact hP2
theorem pf_0_0_2 {M M0 : zM} {d n w a tz e : Nat} {f : Nat → Int32} {nu nd ys la ke wo : Int32} (h1 : M0 1 = .inl (7, 6, .inl above)) (h2 : M0 2 = .inl (7, 24, .inl bodies)) (hc : M0 a = .inr (1, [.int nu, .int 0, .int nd, .int ys, .int la, .int ke, .int wo])) (ha : 300 ≤ a) (hF : ∀ k, k ≠ 276 → k ≠ 277 → M k = M0 k) (hP : Pf M tz f) (hz : tz + 1 ≤ 50) (he : e + 2 ≤ 15) (x : Int32) : zCalP (d + 2) 60 [.ref 276, .ref a, .int 0, .int 2, .int x, .int (nI e)] n w M (fun v n' w' M' => v = some (.int (x - ke)) ∧ n = n' ∧ w = w' ∧ (∀ k, k ≠ 276 → k ≠ 277 → M' k = M0 k) ∧ Pf M' (tz + 1) (app f tz [12])) := by
  have e20 : ¬ (20 : Int32) < nI e := zI_nlt (b := e) (a := 20) (by omega) (by omega)
  have g1 := (hF 1 (by omega) (by omega)).trans h1
  have g2 := (hF 2 (by omega) (by omega)).trans h2
  show zR ztb _ kX7_perform 1 0 [some (.ref 276), some (.ref a), some (.int 0), some (.int 2), some (.int x), some (.int (nI e)), none, none, none, none, none] [] _ _ _ _
  repeat (first | ((with_reducible refine zR.stored ?_); dsimp only [zsto, zclr, zset, zget, zc2, cond_false, cond_true]) | ((with_reducible refine zR.atLit ?_); first | refine zR.step rfl ?_ | refine zR.cs rfl rfl rfl rfl rfl (zCalP.of (kwb_0_2 g1 g2) ?_) | (refine zR.iald rfl g2 (Or.inr rfl) (i := 2) (by decide) (by omega) (by decide) ?_; rw [show bodies 2 = 12 by decide])) | rw [zcc1] | rw [zcc2] | rw [zcc3] | rw [zcc4] | rw [zb1 (by decide)] | rw [zb2 (by decide)] | rw [zb3 (by decide)] | rw [zb4 (by decide)] | rw [zn1 (by decide)] | rw [zn2 (by decide)] | rw [zn3 (by decide)] | rw [zn4 (by decide)] | rw [ze1 (by decide)] | rw [ze2 (by decide)] | rw [zd1 (by decide)] | rw [zd2 (by decide)] | rw [zswy (by decide)] | rw [zswn (by decide)] | rw [zsw0] | rw [zn1 (e20)] | rw [zn2 (e20)] | rw [zn3 (e20)] | rw [zn4 (e20)])
  refine zR.cv rfl rfl rfl hP.1 rfl rfl (zR.mono (c_noteP hF hP (by omega) _) (fun v n1 w1 M1 hv => ?_))
  obtain ⟨rfl, rfl, rfl, hF1, hP1⟩ := hv
  have k1 := (hF1 1 (by omega) (by omega)).trans h1
  have kc1 := (hF1 a (by omega) (by omega)).trans hc
  repeat (first | ((with_reducible refine zR.stored ?_); dsimp only [zsto, zclr, zset, zget, zc2, cond_false, cond_true]) | ((with_reducible refine zR.atLit ?_); first | refine zR.step rfl ?_ | refine zR.getf rfl (kc1) rfl ?_ | (refine zR.iald rfl k1 (Or.inr rfl) (i := 0) rfl (by omega) (by decide) ?_; rw [ab_0])) | rw [zcc1] | rw [zcc2] | rw [zcc3] | rw [zcc4] | rw [zb1 (by decide)] | rw [zb2 (by decide)] | rw [zb3 (by decide)] | rw [zb4 (by decide)] | rw [zn1 (by decide)] | rw [zn2 (by decide)] | rw [zn3 (by decide)] | rw [zn4 (by decide)] | rw [ze1 (by decide)] | rw [ze2 (by decide)] | rw [zd1 (by decide)] | rw [zd2 (by decide)] | rw [zswy (by decide)] | rw [zswn (by decide)] | rw [zsw0])
  refine zR.ret rfl rfl ⟨rfl, rfl, rfl, hF1, ?_⟩
  exact hP1
theorem pf_0_0_3 {M M0 : zM} {d n w a tz e : Nat} {f : Nat → Int32} {nu nd ys la ke wo : Int32} (h1 : M0 1 = .inl (7, 6, .inl above)) (h2 : M0 2 = .inl (7, 24, .inl bodies)) (hc : M0 a = .inr (1, [.int nu, .int 0, .int nd, .int ys, .int la, .int ke, .int wo])) (ha : 300 ≤ a) (hF : ∀ k, k ≠ 276 → k ≠ 277 → M k = M0 k) (hP : Pf M tz f) (hz : tz + 4 ≤ 50) (he : e + 4 ≤ 15) (x : Int32) : zCalP (d + 4) 60 [.ref 276, .ref a, .int 0, .int 3, .int x, .int (nI e)] n w M (fun v n' w' M' => v = some (.int (((x + ys) * 2) ^^^ (x - ke))) ∧ n = n' ∧ w = w' ∧ (∀ k, k ≠ 276 → k ≠ 277 → M' k = M0 k) ∧ Pf M' (tz + 4) (app f tz [13, 11, 10, 12])) := by
  have e20 : ¬ (20 : Int32) < nI e := zI_nlt (b := e) (a := 20) (by omega) (by omega)
  have g1 := (hF 1 (by omega) (by omega)).trans h1
  have g2 := (hF 2 (by omega) (by omega)).trans h2
  show zR ztb _ kX7_perform 1 0 [some (.ref 276), some (.ref a), some (.int 0), some (.int 3), some (.int x), some (.int (nI e)), none, none, none, none, none] [] _ _ _ _
  repeat (first | ((with_reducible refine zR.stored ?_); dsimp only [zsto, zclr, zset, zget, zc2, cond_false, cond_true]) | ((with_reducible refine zR.atLit ?_); first | refine zR.step rfl ?_ | refine zR.cs rfl rfl rfl rfl rfl (zCalP.of (kwb_0_3 g1 g2) ?_) | (refine zR.iald rfl g2 (Or.inr rfl) (i := 3) (by decide) (by omega) (by decide) ?_; rw [show bodies 3 = 13 by decide])) | rw [zcc1] | rw [zcc2] | rw [zcc3] | rw [zcc4] | rw [zb1 (by decide)] | rw [zb2 (by decide)] | rw [zb3 (by decide)] | rw [zb4 (by decide)] | rw [zn1 (by decide)] | rw [zn2 (by decide)] | rw [zn3 (by decide)] | rw [zn4 (by decide)] | rw [ze1 (by decide)] | rw [ze2 (by decide)] | rw [zd1 (by decide)] | rw [zd2 (by decide)] | rw [zswy (by decide)] | rw [zswn (by decide)] | rw [zsw0] | rw [zn1 (e20)] | rw [zn2 (e20)] | rw [zn3 (e20)] | rw [zn4 (e20)])
  refine zR.cv rfl rfl rfl hP.1 rfl rfl (zR.mono (c_noteP hF hP (by omega) _) (fun v n1 w1 M1 hv => ?_))
  obtain ⟨rfl, rfl, rfl, hF1, hP1⟩ := hv
  have k1 := (hF1 1 (by omega) (by omega)).trans h1
  have kc1 := (hF1 a (by omega) (by omega)).trans hc
  repeat (first | ((with_reducible refine zR.stored ?_); dsimp only [zsto, zclr, zset, zget, zc2, cond_false, cond_true]) | ((with_reducible refine zR.atLit ?_); first | refine zR.step rfl ?_ | refine zR.getf rfl (kc1) rfl ?_ | (refine zR.iald rfl k1 (Or.inr rfl) (i := 0) rfl (by omega) (by decide) ?_; rw [ab_0])) | rw [zcc1] | rw [zcc2] | rw [zcc3] | rw [zcc4] | rw [zb1 (by decide)] | rw [zb2 (by decide)] | rw [zb3 (by decide)] | rw [zb4 (by decide)] | rw [zn1 (by decide)] | rw [zn2 (by decide)] | rw [zn3 (by decide)] | rw [zn4 (by decide)] | rw [ze1 (by decide)] | rw [ze2 (by decide)] | rw [zd1 (by decide)] | rw [zd2 (by decide)] | rw [zswy (by decide)] | rw [zswn (by decide)] | rw [zsw0])
  try rw [zI_s]
  refine zR.cv rfl rfl rfl hP1.1 rfl rfl (zR.mono (pf_0_0_1 (e := e + 1) h1 h2 hc ha hF1 hP1 (by omega) (by omega) _) (fun v n2 w2 M2 hv => ?_))
  obtain ⟨rfl, rfl, rfl, hF2, hP2⟩ := hv
  have kc2 := (hF2 a (by omega) (by omega)).trans hc
  repeat (first | ((with_reducible refine zR.stored ?_); dsimp only [zsto, zclr, zset, zget, zc2, cond_false, cond_true]) | ((with_reducible refine zR.atLit ?_); first | refine zR.step rfl ?_ | refine zR.getf rfl (kc2) rfl ?_) | rw [zcc1] | rw [zcc2] | rw [zcc3] | rw [zcc4])
  refine zR.cv rfl rfl rfl hP2.1 rfl rfl (zR.mono (pf_0_0_2 (e := e + 1) h1 h2 hc ha hF2 hP2 (by omega) (by omega) _) (fun v n3 w3 M3 hv => ?_))
  obtain ⟨rfl, rfl, rfl, hF3, hP3⟩ := hv
  have kc3 := (hF3 a (by omega) (by omega)).trans hc
  repeat (first | ((with_reducible refine zR.stored ?_); dsimp only [zsto, zclr, zset, zget, zc2, cond_false, cond_true]) | ((with_reducible refine zR.atLit ?_); first | refine zR.step rfl ?_ | refine zR.getf rfl (kc3) rfl ?_) | rw [zcc1] | rw [zcc2] | rw [zcc3] | rw [zcc4])
  refine zR.ret rfl rfl ⟨rfl, rfl, rfl, hF3, ?_⟩
  rw [app_cat [13] [11, 10] tz (tz + 1) f rfl, app_cat ([13] ++ [11, 10]) [12] tz (tz + 1 + 2) f rfl] at hP3
  exact hP3
theorem pf_1_0_0 {M M0 : zM} {d n w a tz e : Nat} {f : Nat → Int32} {nu nd ys la ke wo : Int32} (h1 : M0 1 = .inl (7, 6, .inl above)) (h2 : M0 2 = .inl (7, 24, .inl bodies)) (hc : M0 a = .inr (1, [.int nu, .int 1, .int nd, .int ys, .int la, .int ke, .int wo])) (ha : 300 ≤ a) (hF : ∀ k, k ≠ 276 → k ≠ 277 → M k = M0 k) (hP : Pf M tz f) (hz : tz + 1 ≤ 50) (he : e + 2 ≤ 15) (x : Int32) : zCalP (d + 2) 60 [.ref 276, .ref a, .int 0, .int 0, .int x, .int (nI e)] n w M (fun v n' w' M' => v = some (.int (x + ys)) ∧ n = n' ∧ w = w' ∧ (∀ k, k ≠ 276 → k ≠ 277 → M' k = M0 k) ∧ Pf M' (tz + 1) (app f tz [10])) := by
  have e20 : ¬ (20 : Int32) < nI e := zI_nlt (b := e) (a := 20) (by omega) (by omega)
  have g1 := (hF 1 (by omega) (by omega)).trans h1
  have g2 := (hF 2 (by omega) (by omega)).trans h2
  show zR ztb _ kX7_perform 1 0 [some (.ref 276), some (.ref a), some (.int 0), some (.int 0), some (.int x), some (.int (nI e)), none, none, none, none, none] [] _ _ _ _
  repeat (first | ((with_reducible refine zR.stored ?_); dsimp only [zsto, zclr, zset, zget, zc2, cond_false, cond_true]) | ((with_reducible refine zR.atLit ?_); first | refine zR.step rfl ?_ | refine zR.cs rfl rfl rfl rfl rfl (zCalP.of (kwb_0_0 g1 g2) ?_) | (refine zR.iald rfl g2 (Or.inr rfl) (i := 0) (by decide) (by omega) (by decide) ?_; rw [show bodies 0 = 10 by decide])) | rw [zcc1] | rw [zcc2] | rw [zcc3] | rw [zcc4] | rw [zb1 (by decide)] | rw [zb2 (by decide)] | rw [zb3 (by decide)] | rw [zb4 (by decide)] | rw [zn1 (by decide)] | rw [zn2 (by decide)] | rw [zn3 (by decide)] | rw [zn4 (by decide)] | rw [ze1 (by decide)] | rw [ze2 (by decide)] | rw [zd1 (by decide)] | rw [zd2 (by decide)] | rw [zswy (by decide)] | rw [zswn (by decide)] | rw [zsw0] | rw [zn1 (e20)] | rw [zn2 (e20)] | rw [zn3 (e20)] | rw [zn4 (e20)])
  refine zR.cv rfl rfl rfl hP.1 rfl rfl (zR.mono (c_noteP hF hP (by omega) _) (fun v n1 w1 M1 hv => ?_))
  obtain ⟨rfl, rfl, rfl, hF1, hP1⟩ := hv
  have k1 := (hF1 1 (by omega) (by omega)).trans h1
  have kc1 := (hF1 a (by omega) (by omega)).trans hc
  repeat (first | ((with_reducible refine zR.stored ?_); dsimp only [zsto, zclr, zset, zget, zc2, cond_false, cond_true]) | ((with_reducible refine zR.atLit ?_); first | refine zR.step rfl ?_ | refine zR.getf rfl (kc1) rfl ?_ | (refine zR.iald rfl k1 (Or.inr rfl) (i := 0) rfl (by omega) (by decide) ?_; rw [ab_0])) | rw [zcc1] | rw [zcc2] | rw [zcc3] | rw [zcc4] | rw [zb1 (by decide)] | rw [zb2 (by decide)] | rw [zb3 (by decide)] | rw [zb4 (by decide)] | rw [zn1 (by decide)] | rw [zn2 (by decide)] | rw [zn3 (by decide)] | rw [zn4 (by decide)] | rw [ze1 (by decide)] | rw [ze2 (by decide)] | rw [zd1 (by decide)] | rw [zd2 (by decide)] | rw [zswy (by decide)] | rw [zswn (by decide)] | rw [zsw0])
  refine zR.ret rfl rfl ⟨rfl, rfl, rfl, hF1, ?_⟩
  exact hP1
theorem pf_1_1_0 {M M0 : zM} {d n w a tz e : Nat} {f : Nat → Int32} {nu nd ys la ke wo : Int32} (h1 : M0 1 = .inl (7, 6, .inl above)) (h2 : M0 2 = .inl (7, 24, .inl bodies)) (hc : M0 a = .inr (1, [.int nu, .int 1, .int nd, .int ys, .int la, .int ke, .int wo])) (ha : 300 ≤ a) (hF : ∀ k, k ≠ 276 → k ≠ 277 → M k = M0 k) (hP : Pf M tz f) (hz : tz + 2 ≤ 50) (he : e + 3 ≤ 15) (x : Int32) : zCalP (d + 3) 60 [.ref 276, .ref a, .int 1, .int 0, .int x, .int (nI e)] n w M (fun v n' w' M' => v = some (.int ((x + ys) + nu)) ∧ n = n' ∧ w = w' ∧ (∀ k, k ≠ 276 → k ≠ 277 → M' k = M0 k) ∧ Pf M' (tz + 2) (app f tz [20, 10])) := by
  have e20 : ¬ (20 : Int32) < nI e := zI_nlt (b := e) (a := 20) (by omega) (by omega)
  have g1 := (hF 1 (by omega) (by omega)).trans h1
  have g2 := (hF 2 (by omega) (by omega)).trans h2
  show zR ztb _ kX7_perform 1 0 [some (.ref 276), some (.ref a), some (.int 1), some (.int 0), some (.int x), some (.int (nI e)), none, none, none, none, none] [] _ _ _ _
  repeat (first | ((with_reducible refine zR.stored ?_); dsimp only [zsto, zclr, zset, zget, zc2, cond_false, cond_true]) | ((with_reducible refine zR.atLit ?_); first | refine zR.step rfl ?_ | refine zR.cs rfl rfl rfl rfl rfl (zCalP.of (kwb_1_0 g1 g2) ?_) | (refine zR.iald rfl g2 (Or.inr rfl) (i := 4) (by decide) (by omega) (by decide) ?_; rw [show bodies 4 = 20 by decide])) | rw [zcc1] | rw [zcc2] | rw [zcc3] | rw [zcc4] | rw [zb1 (by decide)] | rw [zb2 (by decide)] | rw [zb3 (by decide)] | rw [zb4 (by decide)] | rw [zn1 (by decide)] | rw [zn2 (by decide)] | rw [zn3 (by decide)] | rw [zn4 (by decide)] | rw [ze1 (by decide)] | rw [ze2 (by decide)] | rw [zd1 (by decide)] | rw [zd2 (by decide)] | rw [zswy (by decide)] | rw [zswn (by decide)] | rw [zsw0] | rw [zn1 (e20)] | rw [zn2 (e20)] | rw [zn3 (e20)] | rw [zn4 (e20)])
  refine zR.cv rfl rfl rfl hP.1 rfl rfl (zR.mono (c_noteP hF hP (by omega) _) (fun v n1 w1 M1 hv => ?_))
  obtain ⟨rfl, rfl, rfl, hF1, hP1⟩ := hv
  have k1 := (hF1 1 (by omega) (by omega)).trans h1
  have kc1 := (hF1 a (by omega) (by omega)).trans hc
  repeat (first | ((with_reducible refine zR.stored ?_); dsimp only [zsto, zclr, zset, zget, zc2, cond_false, cond_true]) | ((with_reducible refine zR.atLit ?_); first | refine zR.step rfl ?_ | refine zR.getf rfl (kc1) rfl ?_ | (refine zR.iald rfl k1 (Or.inr rfl) (i := 1) rfl (by omega) (by decide) ?_; rw [ab_1])) | rw [zcc1] | rw [zcc2] | rw [zcc3] | rw [zcc4] | rw [zb1 (by decide)] | rw [zb2 (by decide)] | rw [zb3 (by decide)] | rw [zb4 (by decide)] | rw [zn1 (by decide)] | rw [zn2 (by decide)] | rw [zn3 (by decide)] | rw [zn4 (by decide)] | rw [ze1 (by decide)] | rw [ze2 (by decide)] | rw [zd1 (by decide)] | rw [zd2 (by decide)] | rw [zswy (by decide)] | rw [zswn (by decide)] | rw [zsw0])
  try rw [zI_s]
  refine zR.cv rfl rfl rfl hP1.1 rfl rfl (zR.mono (pf_1_0_0 (e := e + 1) h1 h2 hc ha hF1 hP1 (by omega) (by omega) _) (fun v n2 w2 M2 hv => ?_))
  obtain ⟨rfl, rfl, rfl, hF2, hP2⟩ := hv
  have kc2 := (hF2 a (by omega) (by omega)).trans hc
  repeat (first | ((with_reducible refine zR.stored ?_); dsimp only [zsto, zclr, zset, zget, zc2, cond_false, cond_true]) | ((with_reducible refine zR.atLit ?_); first | refine zR.step rfl ?_ | refine zR.getf rfl (kc2) rfl ?_) | rw [zcc1] | rw [zcc2] | rw [zcc3] | rw [zcc4])
  refine zR.ret rfl rfl ⟨rfl, rfl, rfl, hF2, ?_⟩
  rw [app_cat [20] [10] tz (tz + 1) f rfl] at hP2
  exact hP2
theorem pf_1_1_1 {M M0 : zM} {d n w a tz e : Nat} {f : Nat → Int32} {nu nd ys la ke wo : Int32} (h1 : M0 1 = .inl (7, 6, .inl above)) (h2 : M0 2 = .inl (7, 24, .inl bodies)) (hc : M0 a = .inr (1, [.int nu, .int 1, .int nd, .int ys, .int la, .int ke, .int wo])) (ha : 300 ≤ a) (hF : ∀ k, k ≠ 276 → k ≠ 277 → M k = M0 k) (hP : Pf M tz f) (hz : tz + 3 ≤ 50) (he : e + 4 ≤ 15) (x : Int32) : zCalP (d + 4) 60 [.ref 276, .ref a, .int 1, .int 1, .int x, .int (nI e)] n w M (fun v n' w' M' => v = some (.int (((x + ys) + nu) * 2)) ∧ n = n' ∧ w = w' ∧ (∀ k, k ≠ 276 → k ≠ 277 → M' k = M0 k) ∧ Pf M' (tz + 3) (app f tz [11, 20, 10])) := by
  have e20 : ¬ (20 : Int32) < nI e := zI_nlt (b := e) (a := 20) (by omega) (by omega)
  have g1 := (hF 1 (by omega) (by omega)).trans h1
  have g2 := (hF 2 (by omega) (by omega)).trans h2
  show zR ztb _ kX7_perform 1 0 [some (.ref 276), some (.ref a), some (.int 1), some (.int 1), some (.int x), some (.int (nI e)), none, none, none, none, none] [] _ _ _ _
  repeat (first | ((with_reducible refine zR.stored ?_); dsimp only [zsto, zclr, zset, zget, zc2, cond_false, cond_true]) | ((with_reducible refine zR.atLit ?_); first | refine zR.step rfl ?_ | refine zR.cs rfl rfl rfl rfl rfl (zCalP.of (kwb_1_1 g1 g2) ?_) | (refine zR.iald rfl g2 (Or.inr rfl) (i := 1) (by decide) (by omega) (by decide) ?_; rw [show bodies 1 = 11 by decide])) | rw [zcc1] | rw [zcc2] | rw [zcc3] | rw [zcc4] | rw [zb1 (by decide)] | rw [zb2 (by decide)] | rw [zb3 (by decide)] | rw [zb4 (by decide)] | rw [zn1 (by decide)] | rw [zn2 (by decide)] | rw [zn3 (by decide)] | rw [zn4 (by decide)] | rw [ze1 (by decide)] | rw [ze2 (by decide)] | rw [zd1 (by decide)] | rw [zd2 (by decide)] | rw [zswy (by decide)] | rw [zswn (by decide)] | rw [zsw0] | rw [zn1 (e20)] | rw [zn2 (e20)] | rw [zn3 (e20)] | rw [zn4 (e20)])
  refine zR.cv rfl rfl rfl hP.1 rfl rfl (zR.mono (c_noteP hF hP (by omega) _) (fun v n1 w1 M1 hv => ?_))
  obtain ⟨rfl, rfl, rfl, hF1, hP1⟩ := hv
  have k1 := (hF1 1 (by omega) (by omega)).trans h1
  have kc1 := (hF1 a (by omega) (by omega)).trans hc
  repeat (first | ((with_reducible refine zR.stored ?_); dsimp only [zsto, zclr, zset, zget, zc2, cond_false, cond_true]) | ((with_reducible refine zR.atLit ?_); first | refine zR.step rfl ?_ | refine zR.getf rfl (kc1) rfl ?_ | (refine zR.iald rfl k1 (Or.inr rfl) (i := 0) rfl (by omega) (by decide) ?_; rw [ab_0])) | rw [zcc1] | rw [zcc2] | rw [zcc3] | rw [zcc4] | rw [zb1 (by decide)] | rw [zb2 (by decide)] | rw [zb3 (by decide)] | rw [zb4 (by decide)] | rw [zn1 (by decide)] | rw [zn2 (by decide)] | rw [zn3 (by decide)] | rw [zn4 (by decide)] | rw [ze1 (by decide)] | rw [ze2 (by decide)] | rw [zd1 (by decide)] | rw [zd2 (by decide)] | rw [zswy (by decide)] | rw [zswn (by decide)] | rw [zsw0])
  try rw [zI_s]
  refine zR.cv rfl rfl rfl hP1.1 rfl rfl (zR.mono (pf_1_1_0 (e := e + 1) h1 h2 hc ha hF1 hP1 (by omega) (by omega) _) (fun v n2 w2 M2 hv => ?_))
  obtain ⟨rfl, rfl, rfl, hF2, hP2⟩ := hv
  have kc2 := (hF2 a (by omega) (by omega)).trans hc
  repeat (first | ((with_reducible refine zR.stored ?_); dsimp only [zsto, zclr, zset, zget, zc2, cond_false, cond_true]) | ((with_reducible refine zR.atLit ?_); first | refine zR.step rfl ?_ | refine zR.getf rfl (kc2) rfl ?_) | rw [zcc1] | rw [zcc2] | rw [zcc3] | rw [zcc4])
  refine zR.ret rfl rfl ⟨rfl, rfl, rfl, hF2, ?_⟩
  rw [app_cat [11] [20, 10] tz (tz + 1) f rfl] at hP2
  exact hP2
theorem pf_1_1_2 {M M0 : zM} {d n w a tz e : Nat} {f : Nat → Int32} {nu nd ys la ke wo : Int32} (h1 : M0 1 = .inl (7, 6, .inl above)) (h2 : M0 2 = .inl (7, 24, .inl bodies)) (hc : M0 a = .inr (1, [.int nu, .int 1, .int nd, .int ys, .int la, .int ke, .int wo])) (ha : 300 ≤ a) (hF : ∀ k, k ≠ 276 → k ≠ 277 → M k = M0 k) (hP : Pf M tz f) (hz : tz + 1 ≤ 50) (he : e + 2 ≤ 15) (x : Int32) : zCalP (d + 2) 60 [.ref 276, .ref a, .int 1, .int 2, .int x, .int (nI e)] n w M (fun v n' w' M' => v = some (.int (x - ke)) ∧ n = n' ∧ w = w' ∧ (∀ k, k ≠ 276 → k ≠ 277 → M' k = M0 k) ∧ Pf M' (tz + 1) (app f tz [12])) := by
  have e20 : ¬ (20 : Int32) < nI e := zI_nlt (b := e) (a := 20) (by omega) (by omega)
  have g1 := (hF 1 (by omega) (by omega)).trans h1
  have g2 := (hF 2 (by omega) (by omega)).trans h2
  show zR ztb _ kX7_perform 1 0 [some (.ref 276), some (.ref a), some (.int 1), some (.int 2), some (.int x), some (.int (nI e)), none, none, none, none, none] [] _ _ _ _
  repeat (first | ((with_reducible refine zR.stored ?_); dsimp only [zsto, zclr, zset, zget, zc2, cond_false, cond_true]) | ((with_reducible refine zR.atLit ?_); first | refine zR.step rfl ?_ | refine zR.cs rfl rfl rfl rfl rfl (zCalP.of (kwb_1_2 g1 g2) ?_) | (refine zR.iald rfl g2 (Or.inr rfl) (i := 2) (by decide) (by omega) (by decide) ?_; rw [show bodies 2 = 12 by decide])) | rw [zcc1] | rw [zcc2] | rw [zcc3] | rw [zcc4] | rw [zb1 (by decide)] | rw [zb2 (by decide)] | rw [zb3 (by decide)] | rw [zb4 (by decide)] | rw [zn1 (by decide)] | rw [zn2 (by decide)] | rw [zn3 (by decide)] | rw [zn4 (by decide)] | rw [ze1 (by decide)] | rw [ze2 (by decide)] | rw [zd1 (by decide)] | rw [zd2 (by decide)] | rw [zswy (by decide)] | rw [zswn (by decide)] | rw [zsw0] | rw [zn1 (e20)] | rw [zn2 (e20)] | rw [zn3 (e20)] | rw [zn4 (e20)])
  refine zR.cv rfl rfl rfl hP.1 rfl rfl (zR.mono (c_noteP hF hP (by omega) _) (fun v n1 w1 M1 hv => ?_))
  obtain ⟨rfl, rfl, rfl, hF1, hP1⟩ := hv
  have k1 := (hF1 1 (by omega) (by omega)).trans h1
  have kc1 := (hF1 a (by omega) (by omega)).trans hc
  repeat (first | ((with_reducible refine zR.stored ?_); dsimp only [zsto, zclr, zset, zget, zc2, cond_false, cond_true]) | ((with_reducible refine zR.atLit ?_); first | refine zR.step rfl ?_ | refine zR.getf rfl (kc1) rfl ?_ | (refine zR.iald rfl k1 (Or.inr rfl) (i := 0) rfl (by omega) (by decide) ?_; rw [ab_0])) | rw [zcc1] | rw [zcc2] | rw [zcc3] | rw [zcc4] | rw [zb1 (by decide)] | rw [zb2 (by decide)] | rw [zb3 (by decide)] | rw [zb4 (by decide)] | rw [zn1 (by decide)] | rw [zn2 (by decide)] | rw [zn3 (by decide)] | rw [zn4 (by decide)] | rw [ze1 (by decide)] | rw [ze2 (by decide)] | rw [zd1 (by decide)] | rw [zd2 (by decide)] | rw [zswy (by decide)] | rw [zswn (by decide)] | rw [zsw0])
  refine zR.ret rfl rfl ⟨rfl, rfl, rfl, hF1, ?_⟩
  exact hP1
theorem pf_1_0_3 {M M0 : zM} {d n w a tz e : Nat} {f : Nat → Int32} {nu nd ys la ke wo : Int32} (h1 : M0 1 = .inl (7, 6, .inl above)) (h2 : M0 2 = .inl (7, 24, .inl bodies)) (hc : M0 a = .inr (1, [.int nu, .int 1, .int nd, .int ys, .int la, .int ke, .int wo])) (ha : 300 ≤ a) (hF : ∀ k, k ≠ 276 → k ≠ 277 → M k = M0 k) (hP : Pf M tz f) (hz : tz + 5 ≤ 50) (he : e + 5 ≤ 15) (x : Int32) : zCalP (d + 5) 60 [.ref 276, .ref a, .int 0, .int 3, .int x, .int (nI e)] n w M (fun v n' w' M' => v = some (.int ((((x + ys) + nu) * 2) ^^^ (x - ke))) ∧ n = n' ∧ w = w' ∧ (∀ k, k ≠ 276 → k ≠ 277 → M' k = M0 k) ∧ Pf M' (tz + 5) (app f tz [13, 11, 20, 10, 12])) := by
  have e20 : ¬ (20 : Int32) < nI e := zI_nlt (b := e) (a := 20) (by omega) (by omega)
  have g1 := (hF 1 (by omega) (by omega)).trans h1
  have g2 := (hF 2 (by omega) (by omega)).trans h2
  show zR ztb _ kX7_perform 1 0 [some (.ref 276), some (.ref a), some (.int 0), some (.int 3), some (.int x), some (.int (nI e)), none, none, none, none, none] [] _ _ _ _
  repeat (first | ((with_reducible refine zR.stored ?_); dsimp only [zsto, zclr, zset, zget, zc2, cond_false, cond_true]) | ((with_reducible refine zR.atLit ?_); first | refine zR.step rfl ?_ | refine zR.cs rfl rfl rfl rfl rfl (zCalP.of (kwb_0_3 g1 g2) ?_) | (refine zR.iald rfl g2 (Or.inr rfl) (i := 3) (by decide) (by omega) (by decide) ?_; rw [show bodies 3 = 13 by decide])) | rw [zcc1] | rw [zcc2] | rw [zcc3] | rw [zcc4] | rw [zb1 (by decide)] | rw [zb2 (by decide)] | rw [zb3 (by decide)] | rw [zb4 (by decide)] | rw [zn1 (by decide)] | rw [zn2 (by decide)] | rw [zn3 (by decide)] | rw [zn4 (by decide)] | rw [ze1 (by decide)] | rw [ze2 (by decide)] | rw [zd1 (by decide)] | rw [zd2 (by decide)] | rw [zswy (by decide)] | rw [zswn (by decide)] | rw [zsw0] | rw [zn1 (e20)] | rw [zn2 (e20)] | rw [zn3 (e20)] | rw [zn4 (e20)])
  refine zR.cv rfl rfl rfl hP.1 rfl rfl (zR.mono (c_noteP hF hP (by omega) _) (fun v n1 w1 M1 hv => ?_))
  obtain ⟨rfl, rfl, rfl, hF1, hP1⟩ := hv
  have k1 := (hF1 1 (by omega) (by omega)).trans h1
  have kc1 := (hF1 a (by omega) (by omega)).trans hc
  repeat (first | ((with_reducible refine zR.stored ?_); dsimp only [zsto, zclr, zset, zget, zc2, cond_false, cond_true]) | ((with_reducible refine zR.atLit ?_); first | refine zR.step rfl ?_ | refine zR.getf rfl (kc1) rfl ?_ | (refine zR.iald rfl k1 (Or.inr rfl) (i := 0) rfl (by omega) (by decide) ?_; rw [ab_0])) | rw [zcc1] | rw [zcc2] | rw [zcc3] | rw [zcc4] | rw [zb1 (by decide)] | rw [zb2 (by decide)] | rw [zb3 (by decide)] | rw [zb4 (by decide)] | rw [zn1 (by decide)] | rw [zn2 (by decide)] | rw [zn3 (by decide)] | rw [zn4 (by decide)] | rw [ze1 (by decide)] | rw [ze2 (by decide)] | rw [zd1 (by decide)] | rw [zd2 (by decide)] | rw [zswy (by decide)] | rw [zswn (by decide)] | rw [zsw0])
  try rw [zI_s]
  refine zR.cv rfl rfl rfl hP1.1 rfl rfl (zR.mono (pf_1_1_1 (e := e + 1) h1 h2 hc ha hF1 hP1 (by omega) (by omega) _) (fun v n2 w2 M2 hv => ?_))
  obtain ⟨rfl, rfl, rfl, hF2, hP2⟩ := hv
  have kc2 := (hF2 a (by omega) (by omega)).trans hc
  repeat (first | ((with_reducible refine zR.stored ?_); dsimp only [zsto, zclr, zset, zget, zc2, cond_false, cond_true]) | ((with_reducible refine zR.atLit ?_); first | refine zR.step rfl ?_ | refine zR.getf rfl (kc2) rfl ?_) | rw [zcc1] | rw [zcc2] | rw [zcc3] | rw [zcc4])
  refine zR.cv rfl rfl rfl hP2.1 rfl rfl (zR.mono (pf_1_1_2 (e := e + 1) h1 h2 hc ha hF2 hP2 (by omega) (by omega) _) (fun v n3 w3 M3 hv => ?_))
  obtain ⟨rfl, rfl, rfl, hF3, hP3⟩ := hv
  have kc3 := (hF3 a (by omega) (by omega)).trans hc
  repeat (first | ((with_reducible refine zR.stored ?_); dsimp only [zsto, zclr, zset, zget, zc2, cond_false, cond_true]) | ((with_reducible refine zR.atLit ?_); first | refine zR.step rfl ?_ | refine zR.getf rfl (kc3) rfl ?_) | rw [zcc1] | rw [zcc2] | rw [zcc3] | rw [zcc4])
  refine zR.ret rfl rfl ⟨rfl, rfl, rfl, hF3, ?_⟩
  rw [app_cat [13] [11, 20, 10] tz (tz + 1) f rfl, app_cat ([13] ++ [11, 20, 10]) [12] tz (tz + 1 + 3) f rfl] at hP3
  exact hP3
theorem pf_1_1_3 {M M0 : zM} {d n w a tz e : Nat} {f : Nat → Int32} {nu nd ys la ke wo : Int32} (h1 : M0 1 = .inl (7, 6, .inl above)) (h2 : M0 2 = .inl (7, 24, .inl bodies)) (hc : M0 a = .inr (1, [.int nu, .int 1, .int nd, .int ys, .int la, .int ke, .int wo])) (ha : 300 ≤ a) (hF : ∀ k, k ≠ 276 → k ≠ 277 → M k = M0 k) (hP : Pf M tz f) (hz : tz + 6 ≤ 50) (he : e + 6 ≤ 15) (x : Int32) : zCalP (d + 6) 60 [.ref 276, .ref a, .int 1, .int 3, .int x, .int (nI e)] n w M (fun v n' w' M' => v = some (.int (((((x + 1) + ys) + nu) * 2) ^^^ ((x + 1) - ke))) ∧ n = n' ∧ w = w' ∧ (∀ k, k ≠ 276 → k ≠ 277 → M' k = M0 k) ∧ Pf M' (tz + 6) (app f tz [21, 13, 11, 20, 10, 12])) := by
  have e20 : ¬ (20 : Int32) < nI e := zI_nlt (b := e) (a := 20) (by omega) (by omega)
  have g1 := (hF 1 (by omega) (by omega)).trans h1
  have g2 := (hF 2 (by omega) (by omega)).trans h2
  show zR ztb _ kX7_perform 1 0 [some (.ref 276), some (.ref a), some (.int 1), some (.int 3), some (.int x), some (.int (nI e)), none, none, none, none, none] [] _ _ _ _
  repeat (first | ((with_reducible refine zR.stored ?_); dsimp only [zsto, zclr, zset, zget, zc2, cond_false, cond_true]) | ((with_reducible refine zR.atLit ?_); first | refine zR.step rfl ?_ | refine zR.cs rfl rfl rfl rfl rfl (zCalP.of (kwb_1_3 g1 g2) ?_) | (refine zR.iald rfl g2 (Or.inr rfl) (i := 7) (by decide) (by omega) (by decide) ?_; rw [show bodies 7 = 21 by decide])) | rw [zcc1] | rw [zcc2] | rw [zcc3] | rw [zcc4] | rw [zb1 (by decide)] | rw [zb2 (by decide)] | rw [zb3 (by decide)] | rw [zb4 (by decide)] | rw [zn1 (by decide)] | rw [zn2 (by decide)] | rw [zn3 (by decide)] | rw [zn4 (by decide)] | rw [ze1 (by decide)] | rw [ze2 (by decide)] | rw [zd1 (by decide)] | rw [zd2 (by decide)] | rw [zswy (by decide)] | rw [zswn (by decide)] | rw [zsw0] | rw [zn1 (e20)] | rw [zn2 (e20)] | rw [zn3 (e20)] | rw [zn4 (e20)])
  refine zR.cv rfl rfl rfl hP.1 rfl rfl (zR.mono (c_noteP hF hP (by omega) _) (fun v n1 w1 M1 hv => ?_))
  obtain ⟨rfl, rfl, rfl, hF1, hP1⟩ := hv
  have k1 := (hF1 1 (by omega) (by omega)).trans h1
  have kc1 := (hF1 a (by omega) (by omega)).trans hc
  repeat (first | ((with_reducible refine zR.stored ?_); dsimp only [zsto, zclr, zset, zget, zc2, cond_false, cond_true]) | ((with_reducible refine zR.atLit ?_); first | refine zR.step rfl ?_ | refine zR.getf rfl (kc1) rfl ?_ | (refine zR.iald rfl k1 (Or.inr rfl) (i := 1) rfl (by omega) (by decide) ?_; rw [ab_1])) | rw [zcc1] | rw [zcc2] | rw [zcc3] | rw [zcc4] | rw [zb1 (by decide)] | rw [zb2 (by decide)] | rw [zb3 (by decide)] | rw [zb4 (by decide)] | rw [zn1 (by decide)] | rw [zn2 (by decide)] | rw [zn3 (by decide)] | rw [zn4 (by decide)] | rw [ze1 (by decide)] | rw [ze2 (by decide)] | rw [zd1 (by decide)] | rw [zd2 (by decide)] | rw [zswy (by decide)] | rw [zswn (by decide)] | rw [zsw0])
  try rw [zI_s]
  refine zR.cv rfl rfl rfl hP1.1 rfl rfl (zR.mono (pf_1_0_3 (e := e + 1) h1 h2 hc ha hF1 hP1 (by omega) (by omega) _) (fun v n2 w2 M2 hv => ?_))
  obtain ⟨rfl, rfl, rfl, hF2, hP2⟩ := hv
  have kc2 := (hF2 a (by omega) (by omega)).trans hc
  repeat (first | ((with_reducible refine zR.stored ?_); dsimp only [zsto, zclr, zset, zget, zc2, cond_false, cond_true]) | ((with_reducible refine zR.atLit ?_); first | refine zR.step rfl ?_ | refine zR.getf rfl (kc2) rfl ?_) | rw [zcc1] | rw [zcc2] | rw [zcc3] | rw [zcc4])
  refine zR.ret rfl rfl ⟨rfl, rfl, rfl, hF2, ?_⟩
  rw [app_cat [21] [13, 11, 20, 10, 12] tz (tz + 1) f rfl] at hP2
  exact hP2
theorem pf_2_2_0 {M M0 : zM} {d n w a tz e : Nat} {f : Nat → Int32} {nu nd ys la ke wo : Int32} (h1 : M0 1 = .inl (7, 6, .inl above)) (h2 : M0 2 = .inl (7, 24, .inl bodies)) (hc : M0 a = .inr (1, [.int nu, .int 2, .int nd, .int ys, .int la, .int ke, .int wo])) (ha : 300 ≤ a) (hF : ∀ k, k ≠ 276 → k ≠ 277 → M k = M0 k) (hP : Pf M tz f) (hz : tz + 1 ≤ 50) (he : e + 2 ≤ 15) (x : Int32) : zCalP (d + 2) 60 [.ref 276, .ref a, .int 2, .int 0, .int x, .int (nI e)] n w M (fun v n' w' M' => v = some (.int (x + ys)) ∧ n = n' ∧ w = w' ∧ (∀ k, k ≠ 276 → k ≠ 277 → M' k = M0 k) ∧ Pf M' (tz + 1) (app f tz [10])) := by
  have e20 : ¬ (20 : Int32) < nI e := zI_nlt (b := e) (a := 20) (by omega) (by omega)
  have g1 := (hF 1 (by omega) (by omega)).trans h1
  have g2 := (hF 2 (by omega) (by omega)).trans h2
  show zR ztb _ kX7_perform 1 0 [some (.ref 276), some (.ref a), some (.int 2), some (.int 0), some (.int x), some (.int (nI e)), none, none, none, none, none] [] _ _ _ _
  repeat (first | ((with_reducible refine zR.stored ?_); dsimp only [zsto, zclr, zset, zget, zc2, cond_false, cond_true]) | ((with_reducible refine zR.atLit ?_); first | refine zR.step rfl ?_ | refine zR.cs rfl rfl rfl rfl rfl (zCalP.of (kwb_2_0 g1 g2) ?_) | (refine zR.iald rfl g2 (Or.inr rfl) (i := 0) (by decide) (by omega) (by decide) ?_; rw [show bodies 0 = 10 by decide])) | rw [zcc1] | rw [zcc2] | rw [zcc3] | rw [zcc4] | rw [zb1 (by decide)] | rw [zb2 (by decide)] | rw [zb3 (by decide)] | rw [zb4 (by decide)] | rw [zn1 (by decide)] | rw [zn2 (by decide)] | rw [zn3 (by decide)] | rw [zn4 (by decide)] | rw [ze1 (by decide)] | rw [ze2 (by decide)] | rw [zd1 (by decide)] | rw [zd2 (by decide)] | rw [zswy (by decide)] | rw [zswn (by decide)] | rw [zsw0] | rw [zn1 (e20)] | rw [zn2 (e20)] | rw [zn3 (e20)] | rw [zn4 (e20)])
  refine zR.cv rfl rfl rfl hP.1 rfl rfl (zR.mono (c_noteP hF hP (by omega) _) (fun v n1 w1 M1 hv => ?_))
  obtain ⟨rfl, rfl, rfl, hF1, hP1⟩ := hv
  have k1 := (hF1 1 (by omega) (by omega)).trans h1
  have kc1 := (hF1 a (by omega) (by omega)).trans hc
  repeat (first | ((with_reducible refine zR.stored ?_); dsimp only [zsto, zclr, zset, zget, zc2, cond_false, cond_true]) | ((with_reducible refine zR.atLit ?_); first | refine zR.step rfl ?_ | refine zR.getf rfl (kc1) rfl ?_ | (refine zR.iald rfl k1 (Or.inr rfl) (i := 0) rfl (by omega) (by decide) ?_; rw [ab_0])) | rw [zcc1] | rw [zcc2] | rw [zcc3] | rw [zcc4] | rw [zb1 (by decide)] | rw [zb2 (by decide)] | rw [zb3 (by decide)] | rw [zb4 (by decide)] | rw [zn1 (by decide)] | rw [zn2 (by decide)] | rw [zn3 (by decide)] | rw [zn4 (by decide)] | rw [ze1 (by decide)] | rw [ze2 (by decide)] | rw [zd1 (by decide)] | rw [zd2 (by decide)] | rw [zswy (by decide)] | rw [zswn (by decide)] | rw [zsw0])
  refine zR.ret rfl rfl ⟨rfl, rfl, rfl, hF1, ?_⟩
  exact hP1
theorem pf_2_0_1 {M M0 : zM} {d n w a tz e : Nat} {f : Nat → Int32} {nu nd ys la ke wo : Int32} (h1 : M0 1 = .inl (7, 6, .inl above)) (h2 : M0 2 = .inl (7, 24, .inl bodies)) (hc : M0 a = .inr (1, [.int nu, .int 2, .int nd, .int ys, .int la, .int ke, .int wo])) (ha : 300 ≤ a) (hF : ∀ k, k ≠ 276 → k ≠ 277 → M k = M0 k) (hP : Pf M tz f) (hz : tz + 2 ≤ 50) (he : e + 3 ≤ 15) (x : Int32) : zCalP (d + 3) 60 [.ref 276, .ref a, .int 0, .int 1, .int x, .int (nI e)] n w M (fun v n' w' M' => v = some (.int ((x + ys) * 2)) ∧ n = n' ∧ w = w' ∧ (∀ k, k ≠ 276 → k ≠ 277 → M' k = M0 k) ∧ Pf M' (tz + 2) (app f tz [11, 10])) := by
  have e20 : ¬ (20 : Int32) < nI e := zI_nlt (b := e) (a := 20) (by omega) (by omega)
  have g1 := (hF 1 (by omega) (by omega)).trans h1
  have g2 := (hF 2 (by omega) (by omega)).trans h2
  show zR ztb _ kX7_perform 1 0 [some (.ref 276), some (.ref a), some (.int 0), some (.int 1), some (.int x), some (.int (nI e)), none, none, none, none, none] [] _ _ _ _
  repeat (first | ((with_reducible refine zR.stored ?_); dsimp only [zsto, zclr, zset, zget, zc2, cond_false, cond_true]) | ((with_reducible refine zR.atLit ?_); first | refine zR.step rfl ?_ | refine zR.cs rfl rfl rfl rfl rfl (zCalP.of (kwb_0_1 g1 g2) ?_) | (refine zR.iald rfl g2 (Or.inr rfl) (i := 1) (by decide) (by omega) (by decide) ?_; rw [show bodies 1 = 11 by decide])) | rw [zcc1] | rw [zcc2] | rw [zcc3] | rw [zcc4] | rw [zb1 (by decide)] | rw [zb2 (by decide)] | rw [zb3 (by decide)] | rw [zb4 (by decide)] | rw [zn1 (by decide)] | rw [zn2 (by decide)] | rw [zn3 (by decide)] | rw [zn4 (by decide)] | rw [ze1 (by decide)] | rw [ze2 (by decide)] | rw [zd1 (by decide)] | rw [zd2 (by decide)] | rw [zswy (by decide)] | rw [zswn (by decide)] | rw [zsw0] | rw [zn1 (e20)] | rw [zn2 (e20)] | rw [zn3 (e20)] | rw [zn4 (e20)])
  refine zR.cv rfl rfl rfl hP.1 rfl rfl (zR.mono (c_noteP hF hP (by omega) _) (fun v n1 w1 M1 hv => ?_))
  obtain ⟨rfl, rfl, rfl, hF1, hP1⟩ := hv
  have k1 := (hF1 1 (by omega) (by omega)).trans h1
  have kc1 := (hF1 a (by omega) (by omega)).trans hc
  repeat (first | ((with_reducible refine zR.stored ?_); dsimp only [zsto, zclr, zset, zget, zc2, cond_false, cond_true]) | ((with_reducible refine zR.atLit ?_); first | refine zR.step rfl ?_ | refine zR.getf rfl (kc1) rfl ?_ | (refine zR.iald rfl k1 (Or.inr rfl) (i := 0) rfl (by omega) (by decide) ?_; rw [ab_0])) | rw [zcc1] | rw [zcc2] | rw [zcc3] | rw [zcc4] | rw [zb1 (by decide)] | rw [zb2 (by decide)] | rw [zb3 (by decide)] | rw [zb4 (by decide)] | rw [zn1 (by decide)] | rw [zn2 (by decide)] | rw [zn3 (by decide)] | rw [zn4 (by decide)] | rw [ze1 (by decide)] | rw [ze2 (by decide)] | rw [zd1 (by decide)] | rw [zd2 (by decide)] | rw [zswy (by decide)] | rw [zswn (by decide)] | rw [zsw0])
  try rw [zI_s]
  refine zR.cv rfl rfl rfl hP1.1 rfl rfl (zR.mono (pf_2_2_0 (e := e + 1) h1 h2 hc ha hF1 hP1 (by omega) (by omega) _) (fun v n2 w2 M2 hv => ?_))
  obtain ⟨rfl, rfl, rfl, hF2, hP2⟩ := hv
  have kc2 := (hF2 a (by omega) (by omega)).trans hc
  repeat (first | ((with_reducible refine zR.stored ?_); dsimp only [zsto, zclr, zset, zget, zc2, cond_false, cond_true]) | ((with_reducible refine zR.atLit ?_); first | refine zR.step rfl ?_ | refine zR.getf rfl (kc2) rfl ?_) | rw [zcc1] | rw [zcc2] | rw [zcc3] | rw [zcc4])
  refine zR.ret rfl rfl ⟨rfl, rfl, rfl, hF2, ?_⟩
  rw [app_cat [11] [10] tz (tz + 1) f rfl] at hP2
  exact hP2
theorem pf_2_2_1 {M M0 : zM} {d n w a tz e : Nat} {f : Nat → Int32} {nu nd ys la ke wo : Int32} (h1 : M0 1 = .inl (7, 6, .inl above)) (h2 : M0 2 = .inl (7, 24, .inl bodies)) (hc : M0 a = .inr (1, [.int nu, .int 2, .int nd, .int ys, .int la, .int ke, .int wo])) (ha : 300 ≤ a) (hF : ∀ k, k ≠ 276 → k ≠ 277 → M k = M0 k) (hP : Pf M tz f) (hz : tz + 4 ≤ 50) (he : e + 4 ≤ 15) (x : Int32) : zCalP (d + 4) 60 [.ref 276, .ref a, .int 2, .int 1, .int x, .int (nI e)] n w M (fun v n' w' M' => v = some (.int (((x + ys) * 2) - (x + ys))) ∧ n = n' ∧ w = w' ∧ (∀ k, k ≠ 276 → k ≠ 277 → M' k = M0 k) ∧ Pf M' (tz + 4) (app f tz [30, 11, 10, 10])) := by
  have e20 : ¬ (20 : Int32) < nI e := zI_nlt (b := e) (a := 20) (by omega) (by omega)
  have g1 := (hF 1 (by omega) (by omega)).trans h1
  have g2 := (hF 2 (by omega) (by omega)).trans h2
  show zR ztb _ kX7_perform 1 0 [some (.ref 276), some (.ref a), some (.int 2), some (.int 1), some (.int x), some (.int (nI e)), none, none, none, none, none] [] _ _ _ _
  repeat (first | ((with_reducible refine zR.stored ?_); dsimp only [zsto, zclr, zset, zget, zc2, cond_false, cond_true]) | ((with_reducible refine zR.atLit ?_); first | refine zR.step rfl ?_ | refine zR.cs rfl rfl rfl rfl rfl (zCalP.of (kwb_2_1 g1 g2) ?_) | (refine zR.iald rfl g2 (Or.inr rfl) (i := 9) (by decide) (by omega) (by decide) ?_; rw [show bodies 9 = 30 by decide])) | rw [zcc1] | rw [zcc2] | rw [zcc3] | rw [zcc4] | rw [zb1 (by decide)] | rw [zb2 (by decide)] | rw [zb3 (by decide)] | rw [zb4 (by decide)] | rw [zn1 (by decide)] | rw [zn2 (by decide)] | rw [zn3 (by decide)] | rw [zn4 (by decide)] | rw [ze1 (by decide)] | rw [ze2 (by decide)] | rw [zd1 (by decide)] | rw [zd2 (by decide)] | rw [zswy (by decide)] | rw [zswn (by decide)] | rw [zsw0] | rw [zn1 (e20)] | rw [zn2 (e20)] | rw [zn3 (e20)] | rw [zn4 (e20)])
  refine zR.cv rfl rfl rfl hP.1 rfl rfl (zR.mono (c_noteP hF hP (by omega) _) (fun v n1 w1 M1 hv => ?_))
  obtain ⟨rfl, rfl, rfl, hF1, hP1⟩ := hv
  have k1 := (hF1 1 (by omega) (by omega)).trans h1
  have kc1 := (hF1 a (by omega) (by omega)).trans hc
  repeat (first | ((with_reducible refine zR.stored ?_); dsimp only [zsto, zclr, zset, zget, zc2, cond_false, cond_true]) | ((with_reducible refine zR.atLit ?_); first | refine zR.step rfl ?_ | refine zR.getf rfl (kc1) rfl ?_ | (refine zR.iald rfl k1 (Or.inr rfl) (i := 2) rfl (by omega) (by decide) ?_; rw [ab_2])) | rw [zcc1] | rw [zcc2] | rw [zcc3] | rw [zcc4] | rw [zb1 (by decide)] | rw [zb2 (by decide)] | rw [zb3 (by decide)] | rw [zb4 (by decide)] | rw [zn1 (by decide)] | rw [zn2 (by decide)] | rw [zn3 (by decide)] | rw [zn4 (by decide)] | rw [ze1 (by decide)] | rw [ze2 (by decide)] | rw [zd1 (by decide)] | rw [zd2 (by decide)] | rw [zswy (by decide)] | rw [zswn (by decide)] | rw [zsw0])
  try rw [zI_s]
  refine zR.cv rfl rfl rfl hP1.1 rfl rfl (zR.mono (pf_2_0_1 (e := e + 1) h1 h2 hc ha hF1 hP1 (by omega) (by omega) _) (fun v n2 w2 M2 hv => ?_))
  obtain ⟨rfl, rfl, rfl, hF2, hP2⟩ := hv
  have kc2 := (hF2 a (by omega) (by omega)).trans hc
  repeat (first | ((with_reducible refine zR.stored ?_); dsimp only [zsto, zclr, zset, zget, zc2, cond_false, cond_true]) | ((with_reducible refine zR.atLit ?_); first | refine zR.step rfl ?_ | refine zR.getf rfl (kc2) rfl ?_) | rw [zcc1] | rw [zcc2] | rw [zcc3] | rw [zcc4])
  refine zR.cv rfl rfl rfl hP2.1 rfl rfl (zR.mono (pf_2_2_0 (e := e + 1) h1 h2 hc ha hF2 hP2 (by omega) (by omega) _) (fun v n3 w3 M3 hv => ?_))
  obtain ⟨rfl, rfl, rfl, hF3, hP3⟩ := hv
  have kc3 := (hF3 a (by omega) (by omega)).trans hc
  repeat (first | ((with_reducible refine zR.stored ?_); dsimp only [zsto, zclr, zset, zget, zc2, cond_false, cond_true]) | ((with_reducible refine zR.atLit ?_); first | refine zR.step rfl ?_ | refine zR.getf rfl (kc3) rfl ?_) | rw [zcc1] | rw [zcc2] | rw [zcc3] | rw [zcc4])
  refine zR.ret rfl rfl ⟨rfl, rfl, rfl, hF3, ?_⟩
  rw [app_cat [30] [11, 10] tz (tz + 1) f rfl, app_cat ([30] ++ [11, 10]) [10] tz (tz + 1 + 2) f rfl] at hP3
  exact hP3
theorem pf_2_2_2 {M M0 : zM} {d n w a tz e : Nat} {f : Nat → Int32} {nu nd ys la ke wo : Int32} (h1 : M0 1 = .inl (7, 6, .inl above)) (h2 : M0 2 = .inl (7, 24, .inl bodies)) (hc : M0 a = .inr (1, [.int nu, .int 2, .int nd, .int ys, .int la, .int ke, .int wo])) (ha : 300 ≤ a) (hF : ∀ k, k ≠ 276 → k ≠ 277 → M k = M0 k) (hP : Pf M tz f) (hz : tz + 1 ≤ 50) (he : e + 2 ≤ 15) (x : Int32) : zCalP (d + 2) 60 [.ref 276, .ref a, .int 2, .int 2, .int x, .int (nI e)] n w M (fun v n' w' M' => v = some (.int (x - ke)) ∧ n = n' ∧ w = w' ∧ (∀ k, k ≠ 276 → k ≠ 277 → M' k = M0 k) ∧ Pf M' (tz + 1) (app f tz [12])) := by
  have e20 : ¬ (20 : Int32) < nI e := zI_nlt (b := e) (a := 20) (by omega) (by omega)
  have g1 := (hF 1 (by omega) (by omega)).trans h1
  have g2 := (hF 2 (by omega) (by omega)).trans h2
  show zR ztb _ kX7_perform 1 0 [some (.ref 276), some (.ref a), some (.int 2), some (.int 2), some (.int x), some (.int (nI e)), none, none, none, none, none] [] _ _ _ _
  repeat (first | ((with_reducible refine zR.stored ?_); dsimp only [zsto, zclr, zset, zget, zc2, cond_false, cond_true]) | ((with_reducible refine zR.atLit ?_); first | refine zR.step rfl ?_ | refine zR.cs rfl rfl rfl rfl rfl (zCalP.of (kwb_2_2 g1 g2) ?_) | (refine zR.iald rfl g2 (Or.inr rfl) (i := 2) (by decide) (by omega) (by decide) ?_; rw [show bodies 2 = 12 by decide])) | rw [zcc1] | rw [zcc2] | rw [zcc3] | rw [zcc4] | rw [zb1 (by decide)] | rw [zb2 (by decide)] | rw [zb3 (by decide)] | rw [zb4 (by decide)] | rw [zn1 (by decide)] | rw [zn2 (by decide)] | rw [zn3 (by decide)] | rw [zn4 (by decide)] | rw [ze1 (by decide)] | rw [ze2 (by decide)] | rw [zd1 (by decide)] | rw [zd2 (by decide)] | rw [zswy (by decide)] | rw [zswn (by decide)] | rw [zsw0] | rw [zn1 (e20)] | rw [zn2 (e20)] | rw [zn3 (e20)] | rw [zn4 (e20)])
  refine zR.cv rfl rfl rfl hP.1 rfl rfl (zR.mono (c_noteP hF hP (by omega) _) (fun v n1 w1 M1 hv => ?_))
  obtain ⟨rfl, rfl, rfl, hF1, hP1⟩ := hv
  have k1 := (hF1 1 (by omega) (by omega)).trans h1
  have kc1 := (hF1 a (by omega) (by omega)).trans hc
  repeat (first | ((with_reducible refine zR.stored ?_); dsimp only [zsto, zclr, zset, zget, zc2, cond_false, cond_true]) | ((with_reducible refine zR.atLit ?_); first | refine zR.step rfl ?_ | refine zR.getf rfl (kc1) rfl ?_ | (refine zR.iald rfl k1 (Or.inr rfl) (i := 0) rfl (by omega) (by decide) ?_; rw [ab_0])) | rw [zcc1] | rw [zcc2] | rw [zcc3] | rw [zcc4] | rw [zb1 (by decide)] | rw [zb2 (by decide)] | rw [zb3 (by decide)] | rw [zb4 (by decide)] | rw [zn1 (by decide)] | rw [zn2 (by decide)] | rw [zn3 (by decide)] | rw [zn4 (by decide)] | rw [ze1 (by decide)] | rw [ze2 (by decide)] | rw [zd1 (by decide)] | rw [zd2 (by decide)] | rw [zswy (by decide)] | rw [zswn (by decide)] | rw [zsw0])
  refine zR.ret rfl rfl ⟨rfl, rfl, rfl, hF1, ?_⟩
  exact hP1
theorem pf_2_2_3 {M M0 : zM} {d n w a tz e : Nat} {f : Nat → Int32} {nu nd ys la ke wo : Int32} (h1 : M0 1 = .inl (7, 6, .inl above)) (h2 : M0 2 = .inl (7, 24, .inl bodies)) (hc : M0 a = .inr (1, [.int nu, .int 2, .int nd, .int ys, .int la, .int ke, .int wo])) (ha : 300 ≤ a) (hF : ∀ k, k ≠ 276 → k ≠ 277 → M k = M0 k) (hP : Pf M tz f) (hz : tz + 6 ≤ 50) (he : e + 5 ≤ 15) (x : Int32) : zCalP (d + 5) 60 [.ref 276, .ref a, .int 2, .int 3, .int x, .int (nI e)] n w M (fun v n' w' M' => v = some (.int ((((x + ys) * 2) - (x + ys)) ^^^ (x - ke))) ∧ n = n' ∧ w = w' ∧ (∀ k, k ≠ 276 → k ≠ 277 → M' k = M0 k) ∧ Pf M' (tz + 6) (app f tz [13, 30, 11, 10, 10, 12])) := by
  have e20 : ¬ (20 : Int32) < nI e := zI_nlt (b := e) (a := 20) (by omega) (by omega)
  have g1 := (hF 1 (by omega) (by omega)).trans h1
  have g2 := (hF 2 (by omega) (by omega)).trans h2
  show zR ztb _ kX7_perform 1 0 [some (.ref 276), some (.ref a), some (.int 2), some (.int 3), some (.int x), some (.int (nI e)), none, none, none, none, none] [] _ _ _ _
  repeat (first | ((with_reducible refine zR.stored ?_); dsimp only [zsto, zclr, zset, zget, zc2, cond_false, cond_true]) | ((with_reducible refine zR.atLit ?_); first | refine zR.step rfl ?_ | refine zR.cs rfl rfl rfl rfl rfl (zCalP.of (kwb_2_3 g1 g2) ?_) | (refine zR.iald rfl g2 (Or.inr rfl) (i := 3) (by decide) (by omega) (by decide) ?_; rw [show bodies 3 = 13 by decide])) | rw [zcc1] | rw [zcc2] | rw [zcc3] | rw [zcc4] | rw [zb1 (by decide)] | rw [zb2 (by decide)] | rw [zb3 (by decide)] | rw [zb4 (by decide)] | rw [zn1 (by decide)] | rw [zn2 (by decide)] | rw [zn3 (by decide)] | rw [zn4 (by decide)] | rw [ze1 (by decide)] | rw [ze2 (by decide)] | rw [zd1 (by decide)] | rw [zd2 (by decide)] | rw [zswy (by decide)] | rw [zswn (by decide)] | rw [zsw0] | rw [zn1 (e20)] | rw [zn2 (e20)] | rw [zn3 (e20)] | rw [zn4 (e20)])
  refine zR.cv rfl rfl rfl hP.1 rfl rfl (zR.mono (c_noteP hF hP (by omega) _) (fun v n1 w1 M1 hv => ?_))
  obtain ⟨rfl, rfl, rfl, hF1, hP1⟩ := hv
  have k1 := (hF1 1 (by omega) (by omega)).trans h1
  have kc1 := (hF1 a (by omega) (by omega)).trans hc
  repeat (first | ((with_reducible refine zR.stored ?_); dsimp only [zsto, zclr, zset, zget, zc2, cond_false, cond_true]) | ((with_reducible refine zR.atLit ?_); first | refine zR.step rfl ?_ | refine zR.getf rfl (kc1) rfl ?_ | (refine zR.iald rfl k1 (Or.inr rfl) (i := 0) rfl (by omega) (by decide) ?_; rw [ab_0])) | rw [zcc1] | rw [zcc2] | rw [zcc3] | rw [zcc4] | rw [zb1 (by decide)] | rw [zb2 (by decide)] | rw [zb3 (by decide)] | rw [zb4 (by decide)] | rw [zn1 (by decide)] | rw [zn2 (by decide)] | rw [zn3 (by decide)] | rw [zn4 (by decide)] | rw [ze1 (by decide)] | rw [ze2 (by decide)] | rw [zd1 (by decide)] | rw [zd2 (by decide)] | rw [zswy (by decide)] | rw [zswn (by decide)] | rw [zsw0])
  try rw [zI_s]
  refine zR.cv rfl rfl rfl hP1.1 rfl rfl (zR.mono (pf_2_2_1 (e := e + 1) h1 h2 hc ha hF1 hP1 (by omega) (by omega) _) (fun v n2 w2 M2 hv => ?_))
  obtain ⟨rfl, rfl, rfl, hF2, hP2⟩ := hv
  have kc2 := (hF2 a (by omega) (by omega)).trans hc
  repeat (first | ((with_reducible refine zR.stored ?_); dsimp only [zsto, zclr, zset, zget, zc2, cond_false, cond_true]) | ((with_reducible refine zR.atLit ?_); first | refine zR.step rfl ?_ | refine zR.getf rfl (kc2) rfl ?_) | rw [zcc1] | rw [zcc2] | rw [zcc3] | rw [zcc4])
  refine zR.cv rfl rfl rfl hP2.1 rfl rfl (zR.mono (pf_2_2_2 (e := e + 1) h1 h2 hc ha hF2 hP2 (by omega) (by omega) _) (fun v n3 w3 M3 hv => ?_))
  obtain ⟨rfl, rfl, rfl, hF3, hP3⟩ := hv
  have kc3 := (hF3 a (by omega) (by omega)).trans hc
  repeat (first | ((with_reducible refine zR.stored ?_); dsimp only [zsto, zclr, zset, zget, zc2, cond_false, cond_true]) | ((with_reducible refine zR.atLit ?_); first | refine zR.step rfl ?_ | refine zR.getf rfl (kc3) rfl ?_) | rw [zcc1] | rw [zcc2] | rw [zcc3] | rw [zcc4])
  refine zR.ret rfl rfl ⟨rfl, rfl, rfl, hF3, ?_⟩
  rw [app_cat [13] [30, 11, 10, 10] tz (tz + 1) f rfl, app_cat ([13] ++ [30, 11, 10, 10]) [12] tz (tz + 1 + 4) f rfl] at hP3
  exact hP3
theorem pf_3_0_0 {M M0 : zM} {d n w a tz e : Nat} {f : Nat → Int32} {nu nd ys la ke wo : Int32} (h1 : M0 1 = .inl (7, 6, .inl above)) (h2 : M0 2 = .inl (7, 24, .inl bodies)) (hc : M0 a = .inr (1, [.int nu, .int 3, .int nd, .int ys, .int la, .int ke, .int wo])) (ha : 300 ≤ a) (hF : ∀ k, k ≠ 276 → k ≠ 277 → M k = M0 k) (hP : Pf M tz f) (hz : tz + 1 ≤ 50) (he : e + 2 ≤ 15) (x : Int32) : zCalP (d + 2) 60 [.ref 276, .ref a, .int 0, .int 0, .int x, .int (nI e)] n w M (fun v n' w' M' => v = some (.int (x + ys)) ∧ n = n' ∧ w = w' ∧ (∀ k, k ≠ 276 → k ≠ 277 → M' k = M0 k) ∧ Pf M' (tz + 1) (app f tz [10])) := by
  have e20 : ¬ (20 : Int32) < nI e := zI_nlt (b := e) (a := 20) (by omega) (by omega)
  have g1 := (hF 1 (by omega) (by omega)).trans h1
  have g2 := (hF 2 (by omega) (by omega)).trans h2
  show zR ztb _ kX7_perform 1 0 [some (.ref 276), some (.ref a), some (.int 0), some (.int 0), some (.int x), some (.int (nI e)), none, none, none, none, none] [] _ _ _ _
  repeat (first | ((with_reducible refine zR.stored ?_); dsimp only [zsto, zclr, zset, zget, zc2, cond_false, cond_true]) | ((with_reducible refine zR.atLit ?_); first | refine zR.step rfl ?_ | refine zR.cs rfl rfl rfl rfl rfl (zCalP.of (kwb_0_0 g1 g2) ?_) | (refine zR.iald rfl g2 (Or.inr rfl) (i := 0) (by decide) (by omega) (by decide) ?_; rw [show bodies 0 = 10 by decide])) | rw [zcc1] | rw [zcc2] | rw [zcc3] | rw [zcc4] | rw [zb1 (by decide)] | rw [zb2 (by decide)] | rw [zb3 (by decide)] | rw [zb4 (by decide)] | rw [zn1 (by decide)] | rw [zn2 (by decide)] | rw [zn3 (by decide)] | rw [zn4 (by decide)] | rw [ze1 (by decide)] | rw [ze2 (by decide)] | rw [zd1 (by decide)] | rw [zd2 (by decide)] | rw [zswy (by decide)] | rw [zswn (by decide)] | rw [zsw0] | rw [zn1 (e20)] | rw [zn2 (e20)] | rw [zn3 (e20)] | rw [zn4 (e20)])
  refine zR.cv rfl rfl rfl hP.1 rfl rfl (zR.mono (c_noteP hF hP (by omega) _) (fun v n1 w1 M1 hv => ?_))
  obtain ⟨rfl, rfl, rfl, hF1, hP1⟩ := hv
  have k1 := (hF1 1 (by omega) (by omega)).trans h1
  have kc1 := (hF1 a (by omega) (by omega)).trans hc
  repeat (first | ((with_reducible refine zR.stored ?_); dsimp only [zsto, zclr, zset, zget, zc2, cond_false, cond_true]) | ((with_reducible refine zR.atLit ?_); first | refine zR.step rfl ?_ | refine zR.getf rfl (kc1) rfl ?_ | (refine zR.iald rfl k1 (Or.inr rfl) (i := 0) rfl (by omega) (by decide) ?_; rw [ab_0])) | rw [zcc1] | rw [zcc2] | rw [zcc3] | rw [zcc4] | rw [zb1 (by decide)] | rw [zb2 (by decide)] | rw [zb3 (by decide)] | rw [zb4 (by decide)] | rw [zn1 (by decide)] | rw [zn2 (by decide)] | rw [zn3 (by decide)] | rw [zn4 (by decide)] | rw [ze1 (by decide)] | rw [ze2 (by decide)] | rw [zd1 (by decide)] | rw [zd2 (by decide)] | rw [zswy (by decide)] | rw [zswn (by decide)] | rw [zsw0])
  refine zR.ret rfl rfl ⟨rfl, rfl, rfl, hF1, ?_⟩
  exact hP1
theorem pf_3_3_0 {M M0 : zM} {d n w a tz e : Nat} {f : Nat → Int32} {nu nd ys la ke wo : Int32} (h1 : M0 1 = .inl (7, 6, .inl above)) (h2 : M0 2 = .inl (7, 24, .inl bodies)) (hc : M0 a = .inr (1, [.int nu, .int 3, .int nd, .int ys, .int la, .int ke, .int wo])) (ha : 300 ≤ a) (hF : ∀ k, k ≠ 276 → k ≠ 277 → M k = M0 k) (hP : Pf M tz f) (hz : tz + 2 ≤ 50) (he : e + 3 ≤ 15) (x : Int32) : zCalP (d + 3) 60 [.ref 276, .ref a, .int 3, .int 0, .int x, .int (nI e)] n w M (fun v n' w' M' => v = some (.int ((x + ys) + nu)) ∧ n = n' ∧ w = w' ∧ (∀ k, k ≠ 276 → k ≠ 277 → M' k = M0 k) ∧ Pf M' (tz + 2) (app f tz [20, 10])) := by
  have e20 : ¬ (20 : Int32) < nI e := zI_nlt (b := e) (a := 20) (by omega) (by omega)
  have g1 := (hF 1 (by omega) (by omega)).trans h1
  have g2 := (hF 2 (by omega) (by omega)).trans h2
  show zR ztb _ kX7_perform 1 0 [some (.ref 276), some (.ref a), some (.int 3), some (.int 0), some (.int x), some (.int (nI e)), none, none, none, none, none] [] _ _ _ _
  repeat (first | ((with_reducible refine zR.stored ?_); dsimp only [zsto, zclr, zset, zget, zc2, cond_false, cond_true]) | ((with_reducible refine zR.atLit ?_); first | refine zR.step rfl ?_ | refine zR.cs rfl rfl rfl rfl rfl (zCalP.of (kwb_3_0 g1 g2) ?_) | (refine zR.iald rfl g2 (Or.inr rfl) (i := 4) (by decide) (by omega) (by decide) ?_; rw [show bodies 4 = 20 by decide])) | rw [zcc1] | rw [zcc2] | rw [zcc3] | rw [zcc4] | rw [zb1 (by decide)] | rw [zb2 (by decide)] | rw [zb3 (by decide)] | rw [zb4 (by decide)] | rw [zn1 (by decide)] | rw [zn2 (by decide)] | rw [zn3 (by decide)] | rw [zn4 (by decide)] | rw [ze1 (by decide)] | rw [ze2 (by decide)] | rw [zd1 (by decide)] | rw [zd2 (by decide)] | rw [zswy (by decide)] | rw [zswn (by decide)] | rw [zsw0] | rw [zn1 (e20)] | rw [zn2 (e20)] | rw [zn3 (e20)] | rw [zn4 (e20)])
  refine zR.cv rfl rfl rfl hP.1 rfl rfl (zR.mono (c_noteP hF hP (by omega) _) (fun v n1 w1 M1 hv => ?_))
  obtain ⟨rfl, rfl, rfl, hF1, hP1⟩ := hv
  have k1 := (hF1 1 (by omega) (by omega)).trans h1
  have kc1 := (hF1 a (by omega) (by omega)).trans hc
  repeat (first | ((with_reducible refine zR.stored ?_); dsimp only [zsto, zclr, zset, zget, zc2, cond_false, cond_true]) | ((with_reducible refine zR.atLit ?_); first | refine zR.step rfl ?_ | refine zR.getf rfl (kc1) rfl ?_ | (refine zR.iald rfl k1 (Or.inr rfl) (i := 1) rfl (by omega) (by decide) ?_; rw [ab_1])) | rw [zcc1] | rw [zcc2] | rw [zcc3] | rw [zcc4] | rw [zb1 (by decide)] | rw [zb2 (by decide)] | rw [zb3 (by decide)] | rw [zb4 (by decide)] | rw [zn1 (by decide)] | rw [zn2 (by decide)] | rw [zn3 (by decide)] | rw [zn4 (by decide)] | rw [ze1 (by decide)] | rw [ze2 (by decide)] | rw [zd1 (by decide)] | rw [zd2 (by decide)] | rw [zswy (by decide)] | rw [zswn (by decide)] | rw [zsw0])
  try rw [zI_s]
  refine zR.cv rfl rfl rfl hP1.1 rfl rfl (zR.mono (pf_3_0_0 (e := e + 1) h1 h2 hc ha hF1 hP1 (by omega) (by omega) _) (fun v n2 w2 M2 hv => ?_))
  obtain ⟨rfl, rfl, rfl, hF2, hP2⟩ := hv
  have kc2 := (hF2 a (by omega) (by omega)).trans hc
  repeat (first | ((with_reducible refine zR.stored ?_); dsimp only [zsto, zclr, zset, zget, zc2, cond_false, cond_true]) | ((with_reducible refine zR.atLit ?_); first | refine zR.step rfl ?_ | refine zR.getf rfl (kc2) rfl ?_) | rw [zcc1] | rw [zcc2] | rw [zcc3] | rw [zcc4])
  refine zR.ret rfl rfl ⟨rfl, rfl, rfl, hF2, ?_⟩
  rw [app_cat [20] [10] tz (tz + 1) f rfl] at hP2
  exact hP2
theorem pf_3_1_1 {M M0 : zM} {d n w a tz e : Nat} {f : Nat → Int32} {nu nd ys la ke wo : Int32} (h1 : M0 1 = .inl (7, 6, .inl above)) (h2 : M0 2 = .inl (7, 24, .inl bodies)) (hc : M0 a = .inr (1, [.int nu, .int 3, .int nd, .int ys, .int la, .int ke, .int wo])) (ha : 300 ≤ a) (hF : ∀ k, k ≠ 276 → k ≠ 277 → M k = M0 k) (hP : Pf M tz f) (hz : tz + 3 ≤ 50) (he : e + 4 ≤ 15) (x : Int32) : zCalP (d + 4) 60 [.ref 276, .ref a, .int 1, .int 1, .int x, .int (nI e)] n w M (fun v n' w' M' => v = some (.int (((x + ys) + nu) * 2)) ∧ n = n' ∧ w = w' ∧ (∀ k, k ≠ 276 → k ≠ 277 → M' k = M0 k) ∧ Pf M' (tz + 3) (app f tz [11, 20, 10])) := by
  have e20 : ¬ (20 : Int32) < nI e := zI_nlt (b := e) (a := 20) (by omega) (by omega)
  have g1 := (hF 1 (by omega) (by omega)).trans h1
  have g2 := (hF 2 (by omega) (by omega)).trans h2
  show zR ztb _ kX7_perform 1 0 [some (.ref 276), some (.ref a), some (.int 1), some (.int 1), some (.int x), some (.int (nI e)), none, none, none, none, none] [] _ _ _ _
  repeat (first | ((with_reducible refine zR.stored ?_); dsimp only [zsto, zclr, zset, zget, zc2, cond_false, cond_true]) | ((with_reducible refine zR.atLit ?_); first | refine zR.step rfl ?_ | refine zR.cs rfl rfl rfl rfl rfl (zCalP.of (kwb_1_1 g1 g2) ?_) | (refine zR.iald rfl g2 (Or.inr rfl) (i := 1) (by decide) (by omega) (by decide) ?_; rw [show bodies 1 = 11 by decide])) | rw [zcc1] | rw [zcc2] | rw [zcc3] | rw [zcc4] | rw [zb1 (by decide)] | rw [zb2 (by decide)] | rw [zb3 (by decide)] | rw [zb4 (by decide)] | rw [zn1 (by decide)] | rw [zn2 (by decide)] | rw [zn3 (by decide)] | rw [zn4 (by decide)] | rw [ze1 (by decide)] | rw [ze2 (by decide)] | rw [zd1 (by decide)] | rw [zd2 (by decide)] | rw [zswy (by decide)] | rw [zswn (by decide)] | rw [zsw0] | rw [zn1 (e20)] | rw [zn2 (e20)] | rw [zn3 (e20)] | rw [zn4 (e20)])
  refine zR.cv rfl rfl rfl hP.1 rfl rfl (zR.mono (c_noteP hF hP (by omega) _) (fun v n1 w1 M1 hv => ?_))
  obtain ⟨rfl, rfl, rfl, hF1, hP1⟩ := hv
  have k1 := (hF1 1 (by omega) (by omega)).trans h1
  have kc1 := (hF1 a (by omega) (by omega)).trans hc
  repeat (first | ((with_reducible refine zR.stored ?_); dsimp only [zsto, zclr, zset, zget, zc2, cond_false, cond_true]) | ((with_reducible refine zR.atLit ?_); first | refine zR.step rfl ?_ | refine zR.getf rfl (kc1) rfl ?_ | (refine zR.iald rfl k1 (Or.inr rfl) (i := 0) rfl (by omega) (by decide) ?_; rw [ab_0])) | rw [zcc1] | rw [zcc2] | rw [zcc3] | rw [zcc4] | rw [zb1 (by decide)] | rw [zb2 (by decide)] | rw [zb3 (by decide)] | rw [zb4 (by decide)] | rw [zn1 (by decide)] | rw [zn2 (by decide)] | rw [zn3 (by decide)] | rw [zn4 (by decide)] | rw [ze1 (by decide)] | rw [ze2 (by decide)] | rw [zd1 (by decide)] | rw [zd2 (by decide)] | rw [zswy (by decide)] | rw [zswn (by decide)] | rw [zsw0])
  try rw [zI_s]
  refine zR.cv rfl rfl rfl hP1.1 rfl rfl (zR.mono (pf_3_3_0 (e := e + 1) h1 h2 hc ha hF1 hP1 (by omega) (by omega) _) (fun v n2 w2 M2 hv => ?_))
  obtain ⟨rfl, rfl, rfl, hF2, hP2⟩ := hv
  have kc2 := (hF2 a (by omega) (by omega)).trans hc
  repeat (first | ((with_reducible refine zR.stored ?_); dsimp only [zsto, zclr, zset, zget, zc2, cond_false, cond_true]) | ((with_reducible refine zR.atLit ?_); first | refine zR.step rfl ?_ | refine zR.getf rfl (kc2) rfl ?_) | rw [zcc1] | rw [zcc2] | rw [zcc3] | rw [zcc4])
  refine zR.ret rfl rfl ⟨rfl, rfl, rfl, hF2, ?_⟩
  rw [app_cat [11] [20, 10] tz (tz + 1) f rfl] at hP2
  exact hP2
theorem pf_3_3_1 {M M0 : zM} {d n w a tz e : Nat} {f : Nat → Int32} {nu nd ys la ke wo : Int32} (h1 : M0 1 = .inl (7, 6, .inl above)) (h2 : M0 2 = .inl (7, 24, .inl bodies)) (hc : M0 a = .inr (1, [.int nu, .int 3, .int nd, .int ys, .int la, .int ke, .int wo])) (ha : 300 ≤ a) (hF : ∀ k, k ≠ 276 → k ≠ 277 → M k = M0 k) (hP : Pf M tz f) (hz : tz + 4 ≤ 50) (he : e + 5 ≤ 15) (x : Int32) : zCalP (d + 5) 60 [.ref 276, .ref a, .int 3, .int 1, .int x, .int (nI e)] n w M (fun v n' w' M' => v = some (.int ((((x + ke) + ys) + nu) * 2)) ∧ n = n' ∧ w = w' ∧ (∀ k, k ≠ 276 → k ≠ 277 → M' k = M0 k) ∧ Pf M' (tz + 4) (app f tz [41, 11, 20, 10])) := by
  have e20 : ¬ (20 : Int32) < nI e := zI_nlt (b := e) (a := 20) (by omega) (by omega)
  have g1 := (hF 1 (by omega) (by omega)).trans h1
  have g2 := (hF 2 (by omega) (by omega)).trans h2
  show zR ztb _ kX7_perform 1 0 [some (.ref 276), some (.ref a), some (.int 3), some (.int 1), some (.int x), some (.int (nI e)), none, none, none, none, none] [] _ _ _ _
  repeat (first | ((with_reducible refine zR.stored ?_); dsimp only [zsto, zclr, zset, zget, zc2, cond_false, cond_true]) | ((with_reducible refine zR.atLit ?_); first | refine zR.step rfl ?_ | refine zR.cs rfl rfl rfl rfl rfl (zCalP.of (kwb_3_1 g1 g2) ?_) | (refine zR.iald rfl g2 (Or.inr rfl) (i := 13) (by decide) (by omega) (by decide) ?_; rw [show bodies 13 = 41 by decide])) | rw [zcc1] | rw [zcc2] | rw [zcc3] | rw [zcc4] | rw [zb1 (by decide)] | rw [zb2 (by decide)] | rw [zb3 (by decide)] | rw [zb4 (by decide)] | rw [zn1 (by decide)] | rw [zn2 (by decide)] | rw [zn3 (by decide)] | rw [zn4 (by decide)] | rw [ze1 (by decide)] | rw [ze2 (by decide)] | rw [zd1 (by decide)] | rw [zd2 (by decide)] | rw [zswy (by decide)] | rw [zswn (by decide)] | rw [zsw0] | rw [zn1 (e20)] | rw [zn2 (e20)] | rw [zn3 (e20)] | rw [zn4 (e20)])
  refine zR.cv rfl rfl rfl hP.1 rfl rfl (zR.mono (c_noteP hF hP (by omega) _) (fun v n1 w1 M1 hv => ?_))
  obtain ⟨rfl, rfl, rfl, hF1, hP1⟩ := hv
  have k1 := (hF1 1 (by omega) (by omega)).trans h1
  have kc1 := (hF1 a (by omega) (by omega)).trans hc
  repeat (first | ((with_reducible refine zR.stored ?_); dsimp only [zsto, zclr, zset, zget, zc2, cond_false, cond_true]) | ((with_reducible refine zR.atLit ?_); first | refine zR.step rfl ?_ | refine zR.getf rfl (kc1) rfl ?_ | (refine zR.iald rfl k1 (Or.inr rfl) (i := 3) rfl (by omega) (by decide) ?_; rw [ab_3])) | rw [zcc1] | rw [zcc2] | rw [zcc3] | rw [zcc4] | rw [zb1 (by decide)] | rw [zb2 (by decide)] | rw [zb3 (by decide)] | rw [zb4 (by decide)] | rw [zn1 (by decide)] | rw [zn2 (by decide)] | rw [zn3 (by decide)] | rw [zn4 (by decide)] | rw [ze1 (by decide)] | rw [ze2 (by decide)] | rw [zd1 (by decide)] | rw [zd2 (by decide)] | rw [zswy (by decide)] | rw [zswn (by decide)] | rw [zsw0])
  try rw [zI_s]
  refine zR.cv rfl rfl rfl hP1.1 rfl rfl (zR.mono (pf_3_1_1 (e := e + 1) h1 h2 hc ha hF1 hP1 (by omega) (by omega) _) (fun v n2 w2 M2 hv => ?_))
  obtain ⟨rfl, rfl, rfl, hF2, hP2⟩ := hv
  have kc2 := (hF2 a (by omega) (by omega)).trans hc
  repeat (first | ((with_reducible refine zR.stored ?_); dsimp only [zsto, zclr, zset, zget, zc2, cond_false, cond_true]) | ((with_reducible refine zR.atLit ?_); first | refine zR.step rfl ?_ | refine zR.getf rfl (kc2) rfl ?_) | rw [zcc1] | rw [zcc2] | rw [zcc3] | rw [zcc4])
  refine zR.ret rfl rfl ⟨rfl, rfl, rfl, hF2, ?_⟩
  rw [app_cat [41] [11, 20, 10] tz (tz + 1) f rfl] at hP2
  exact hP2
theorem pf_3_1_2 {M M0 : zM} {d n w a tz e : Nat} {f : Nat → Int32} {nu nd ys la ke wo : Int32} (h1 : M0 1 = .inl (7, 6, .inl above)) (h2 : M0 2 = .inl (7, 24, .inl bodies)) (hc : M0 a = .inr (1, [.int nu, .int 3, .int nd, .int ys, .int la, .int ke, .int wo])) (ha : 300 ≤ a) (hF : ∀ k, k ≠ 276 → k ≠ 277 → M k = M0 k) (hP : Pf M tz f) (hz : tz + 1 ≤ 50) (he : e + 2 ≤ 15) (x : Int32) : zCalP (d + 2) 60 [.ref 276, .ref a, .int 1, .int 2, .int x, .int (nI e)] n w M (fun v n' w' M' => v = some (.int (x - ke)) ∧ n = n' ∧ w = w' ∧ (∀ k, k ≠ 276 → k ≠ 277 → M' k = M0 k) ∧ Pf M' (tz + 1) (app f tz [12])) := by
  have e20 : ¬ (20 : Int32) < nI e := zI_nlt (b := e) (a := 20) (by omega) (by omega)
  have g1 := (hF 1 (by omega) (by omega)).trans h1
  have g2 := (hF 2 (by omega) (by omega)).trans h2
  show zR ztb _ kX7_perform 1 0 [some (.ref 276), some (.ref a), some (.int 1), some (.int 2), some (.int x), some (.int (nI e)), none, none, none, none, none] [] _ _ _ _
  repeat (first | ((with_reducible refine zR.stored ?_); dsimp only [zsto, zclr, zset, zget, zc2, cond_false, cond_true]) | ((with_reducible refine zR.atLit ?_); first | refine zR.step rfl ?_ | refine zR.cs rfl rfl rfl rfl rfl (zCalP.of (kwb_1_2 g1 g2) ?_) | (refine zR.iald rfl g2 (Or.inr rfl) (i := 2) (by decide) (by omega) (by decide) ?_; rw [show bodies 2 = 12 by decide])) | rw [zcc1] | rw [zcc2] | rw [zcc3] | rw [zcc4] | rw [zb1 (by decide)] | rw [zb2 (by decide)] | rw [zb3 (by decide)] | rw [zb4 (by decide)] | rw [zn1 (by decide)] | rw [zn2 (by decide)] | rw [zn3 (by decide)] | rw [zn4 (by decide)] | rw [ze1 (by decide)] | rw [ze2 (by decide)] | rw [zd1 (by decide)] | rw [zd2 (by decide)] | rw [zswy (by decide)] | rw [zswn (by decide)] | rw [zsw0] | rw [zn1 (e20)] | rw [zn2 (e20)] | rw [zn3 (e20)] | rw [zn4 (e20)])
  refine zR.cv rfl rfl rfl hP.1 rfl rfl (zR.mono (c_noteP hF hP (by omega) _) (fun v n1 w1 M1 hv => ?_))
  obtain ⟨rfl, rfl, rfl, hF1, hP1⟩ := hv
  have k1 := (hF1 1 (by omega) (by omega)).trans h1
  have kc1 := (hF1 a (by omega) (by omega)).trans hc
  repeat (first | ((with_reducible refine zR.stored ?_); dsimp only [zsto, zclr, zset, zget, zc2, cond_false, cond_true]) | ((with_reducible refine zR.atLit ?_); first | refine zR.step rfl ?_ | refine zR.getf rfl (kc1) rfl ?_ | (refine zR.iald rfl k1 (Or.inr rfl) (i := 0) rfl (by omega) (by decide) ?_; rw [ab_0])) | rw [zcc1] | rw [zcc2] | rw [zcc3] | rw [zcc4] | rw [zb1 (by decide)] | rw [zb2 (by decide)] | rw [zb3 (by decide)] | rw [zb4 (by decide)] | rw [zn1 (by decide)] | rw [zn2 (by decide)] | rw [zn3 (by decide)] | rw [zn4 (by decide)] | rw [ze1 (by decide)] | rw [ze2 (by decide)] | rw [zd1 (by decide)] | rw [zd2 (by decide)] | rw [zswy (by decide)] | rw [zswn (by decide)] | rw [zsw0])
  refine zR.ret rfl rfl ⟨rfl, rfl, rfl, hF1, ?_⟩
  exact hP1
theorem pf_3_3_2 {M M0 : zM} {d n w a tz e : Nat} {f : Nat → Int32} {nu nd ys la ke wo : Int32} (h1 : M0 1 = .inl (7, 6, .inl above)) (h2 : M0 2 = .inl (7, 24, .inl bodies)) (hc : M0 a = .inr (1, [.int nu, .int 3, .int nd, .int ys, .int la, .int ke, .int wo])) (ha : 300 ≤ a) (hF : ∀ k, k ≠ 276 → k ≠ 277 → M k = M0 k) (hP : Pf M tz f) (hz : tz + 2 ≤ 50) (he : e + 3 ≤ 15) (x : Int32) : zCalP (d + 3) 60 [.ref 276, .ref a, .int 3, .int 2, .int x, .int (nI e)] n w M (fun v n' w' M' => v = some (.int ((x - ke) * 3)) ∧ n = n' ∧ w = w' ∧ (∀ k, k ≠ 276 → k ≠ 277 → M' k = M0 k) ∧ Pf M' (tz + 2) (app f tz [40, 12])) := by
  have e20 : ¬ (20 : Int32) < nI e := zI_nlt (b := e) (a := 20) (by omega) (by omega)
  have g1 := (hF 1 (by omega) (by omega)).trans h1
  have g2 := (hF 2 (by omega) (by omega)).trans h2
  show zR ztb _ kX7_perform 1 0 [some (.ref 276), some (.ref a), some (.int 3), some (.int 2), some (.int x), some (.int (nI e)), none, none, none, none, none] [] _ _ _ _
  repeat (first | ((with_reducible refine zR.stored ?_); dsimp only [zsto, zclr, zset, zget, zc2, cond_false, cond_true]) | ((with_reducible refine zR.atLit ?_); first | refine zR.step rfl ?_ | refine zR.cs rfl rfl rfl rfl rfl (zCalP.of (kwb_3_2 g1 g2) ?_) | (refine zR.iald rfl g2 (Or.inr rfl) (i := 14) (by decide) (by omega) (by decide) ?_; rw [show bodies 14 = 40 by decide])) | rw [zcc1] | rw [zcc2] | rw [zcc3] | rw [zcc4] | rw [zb1 (by decide)] | rw [zb2 (by decide)] | rw [zb3 (by decide)] | rw [zb4 (by decide)] | rw [zn1 (by decide)] | rw [zn2 (by decide)] | rw [zn3 (by decide)] | rw [zn4 (by decide)] | rw [ze1 (by decide)] | rw [ze2 (by decide)] | rw [zd1 (by decide)] | rw [zd2 (by decide)] | rw [zswy (by decide)] | rw [zswn (by decide)] | rw [zsw0] | rw [zn1 (e20)] | rw [zn2 (e20)] | rw [zn3 (e20)] | rw [zn4 (e20)])
  refine zR.cv rfl rfl rfl hP.1 rfl rfl (zR.mono (c_noteP hF hP (by omega) _) (fun v n1 w1 M1 hv => ?_))
  obtain ⟨rfl, rfl, rfl, hF1, hP1⟩ := hv
  have k1 := (hF1 1 (by omega) (by omega)).trans h1
  have kc1 := (hF1 a (by omega) (by omega)).trans hc
  repeat (first | ((with_reducible refine zR.stored ?_); dsimp only [zsto, zclr, zset, zget, zc2, cond_false, cond_true]) | ((with_reducible refine zR.atLit ?_); first | refine zR.step rfl ?_ | refine zR.getf rfl (kc1) rfl ?_ | (refine zR.iald rfl k1 (Or.inr rfl) (i := 3) rfl (by omega) (by decide) ?_; rw [ab_3])) | rw [zcc1] | rw [zcc2] | rw [zcc3] | rw [zcc4] | rw [zb1 (by decide)] | rw [zb2 (by decide)] | rw [zb3 (by decide)] | rw [zb4 (by decide)] | rw [zn1 (by decide)] | rw [zn2 (by decide)] | rw [zn3 (by decide)] | rw [zn4 (by decide)] | rw [ze1 (by decide)] | rw [ze2 (by decide)] | rw [zd1 (by decide)] | rw [zd2 (by decide)] | rw [zswy (by decide)] | rw [zswn (by decide)] | rw [zsw0])
  try rw [zI_s]
  refine zR.cv rfl rfl rfl hP1.1 rfl rfl (zR.mono (pf_3_1_2 (e := e + 1) h1 h2 hc ha hF1 hP1 (by omega) (by omega) _) (fun v n2 w2 M2 hv => ?_))
  obtain ⟨rfl, rfl, rfl, hF2, hP2⟩ := hv
  have kc2 := (hF2 a (by omega) (by omega)).trans hc
  repeat (first | ((with_reducible refine zR.stored ?_); dsimp only [zsto, zclr, zset, zget, zc2, cond_false, cond_true]) | ((with_reducible refine zR.atLit ?_); first | refine zR.step rfl ?_ | refine zR.getf rfl (kc2) rfl ?_) | rw [zcc1] | rw [zcc2] | rw [zcc3] | rw [zcc4])
  refine zR.ret rfl rfl ⟨rfl, rfl, rfl, hF2, ?_⟩
  rw [app_cat [40] [12] tz (tz + 1) f rfl] at hP2
  exact hP2
theorem pf_3_0_3 {M M0 : zM} {d n w a tz e : Nat} {f : Nat → Int32} {nu nd ys la ke wo : Int32} (h1 : M0 1 = .inl (7, 6, .inl above)) (h2 : M0 2 = .inl (7, 24, .inl bodies)) (hc : M0 a = .inr (1, [.int nu, .int 3, .int nd, .int ys, .int la, .int ke, .int wo])) (ha : 300 ≤ a) (hF : ∀ k, k ≠ 276 → k ≠ 277 → M k = M0 k) (hP : Pf M tz f) (hz : tz + 7 ≤ 50) (he : e + 6 ≤ 15) (x : Int32) : zCalP (d + 6) 60 [.ref 276, .ref a, .int 0, .int 3, .int x, .int (nI e)] n w M (fun v n' w' M' => v = some (.int (((((x + ke) + ys) + nu) * 2) ^^^ ((x - ke) * 3))) ∧ n = n' ∧ w = w' ∧ (∀ k, k ≠ 276 → k ≠ 277 → M' k = M0 k) ∧ Pf M' (tz + 7) (app f tz [13, 41, 11, 20, 10, 40, 12])) := by
  have e20 : ¬ (20 : Int32) < nI e := zI_nlt (b := e) (a := 20) (by omega) (by omega)
  have g1 := (hF 1 (by omega) (by omega)).trans h1
  have g2 := (hF 2 (by omega) (by omega)).trans h2
  show zR ztb _ kX7_perform 1 0 [some (.ref 276), some (.ref a), some (.int 0), some (.int 3), some (.int x), some (.int (nI e)), none, none, none, none, none] [] _ _ _ _
  repeat (first | ((with_reducible refine zR.stored ?_); dsimp only [zsto, zclr, zset, zget, zc2, cond_false, cond_true]) | ((with_reducible refine zR.atLit ?_); first | refine zR.step rfl ?_ | refine zR.cs rfl rfl rfl rfl rfl (zCalP.of (kwb_0_3 g1 g2) ?_) | (refine zR.iald rfl g2 (Or.inr rfl) (i := 3) (by decide) (by omega) (by decide) ?_; rw [show bodies 3 = 13 by decide])) | rw [zcc1] | rw [zcc2] | rw [zcc3] | rw [zcc4] | rw [zb1 (by decide)] | rw [zb2 (by decide)] | rw [zb3 (by decide)] | rw [zb4 (by decide)] | rw [zn1 (by decide)] | rw [zn2 (by decide)] | rw [zn3 (by decide)] | rw [zn4 (by decide)] | rw [ze1 (by decide)] | rw [ze2 (by decide)] | rw [zd1 (by decide)] | rw [zd2 (by decide)] | rw [zswy (by decide)] | rw [zswn (by decide)] | rw [zsw0] | rw [zn1 (e20)] | rw [zn2 (e20)] | rw [zn3 (e20)] | rw [zn4 (e20)])
  refine zR.cv rfl rfl rfl hP.1 rfl rfl (zR.mono (c_noteP hF hP (by omega) _) (fun v n1 w1 M1 hv => ?_))
  obtain ⟨rfl, rfl, rfl, hF1, hP1⟩ := hv
  have k1 := (hF1 1 (by omega) (by omega)).trans h1
  have kc1 := (hF1 a (by omega) (by omega)).trans hc
  repeat (first | ((with_reducible refine zR.stored ?_); dsimp only [zsto, zclr, zset, zget, zc2, cond_false, cond_true]) | ((with_reducible refine zR.atLit ?_); first | refine zR.step rfl ?_ | refine zR.getf rfl (kc1) rfl ?_ | (refine zR.iald rfl k1 (Or.inr rfl) (i := 0) rfl (by omega) (by decide) ?_; rw [ab_0])) | rw [zcc1] | rw [zcc2] | rw [zcc3] | rw [zcc4] | rw [zb1 (by decide)] | rw [zb2 (by decide)] | rw [zb3 (by decide)] | rw [zb4 (by decide)] | rw [zn1 (by decide)] | rw [zn2 (by decide)] | rw [zn3 (by decide)] | rw [zn4 (by decide)] | rw [ze1 (by decide)] | rw [ze2 (by decide)] | rw [zd1 (by decide)] | rw [zd2 (by decide)] | rw [zswy (by decide)] | rw [zswn (by decide)] | rw [zsw0])
  try rw [zI_s]
  refine zR.cv rfl rfl rfl hP1.1 rfl rfl (zR.mono (pf_3_3_1 (e := e + 1) h1 h2 hc ha hF1 hP1 (by omega) (by omega) _) (fun v n2 w2 M2 hv => ?_))
  obtain ⟨rfl, rfl, rfl, hF2, hP2⟩ := hv
  have kc2 := (hF2 a (by omega) (by omega)).trans hc
  repeat (first | ((with_reducible refine zR.stored ?_); dsimp only [zsto, zclr, zset, zget, zc2, cond_false, cond_true]) | ((with_reducible refine zR.atLit ?_); first | refine zR.step rfl ?_ | refine zR.getf rfl (kc2) rfl ?_) | rw [zcc1] | rw [zcc2] | rw [zcc3] | rw [zcc4])
  refine zR.cv rfl rfl rfl hP2.1 rfl rfl (zR.mono (pf_3_3_2 (e := e + 1) h1 h2 hc ha hF2 hP2 (by omega) (by omega) _) (fun v n3 w3 M3 hv => ?_))
  obtain ⟨rfl, rfl, rfl, hF3, hP3⟩ := hv
  have kc3 := (hF3 a (by omega) (by omega)).trans hc
  repeat (first | ((with_reducible refine zR.stored ?_); dsimp only [zsto, zclr, zset, zget, zc2, cond_false, cond_true]) | ((with_reducible refine zR.atLit ?_); first | refine zR.step rfl ?_ | refine zR.getf rfl (kc3) rfl ?_) | rw [zcc1] | rw [zcc2] | rw [zcc3] | rw [zcc4])
  refine zR.ret rfl rfl ⟨rfl, rfl, rfl, hF3, ?_⟩
  rw [app_cat [13] [41, 11, 20, 10] tz (tz + 1) f rfl, app_cat ([13] ++ [41, 11, 20, 10]) [40, 12] tz (tz + 1 + 4) f rfl] at hP3
  exact hP3
theorem pf_3_3_3 {M M0 : zM} {d n w a tz e : Nat} {f : Nat → Int32} {nu nd ys la ke wo : Int32} (h1 : M0 1 = .inl (7, 6, .inl above)) (h2 : M0 2 = .inl (7, 24, .inl bodies)) (hc : M0 a = .inr (1, [.int nu, .int 3, .int nd, .int ys, .int la, .int ke, .int wo])) (ha : 300 ≤ a) (hF : ∀ k, k ≠ 276 → k ≠ 277 → M k = M0 k) (hP : Pf M tz f) (hz : tz + 8 ≤ 50) (he : e + 7 ≤ 15) (x : Int32) : zCalP (d + 7) 60 [.ref 276, .ref a, .int 3, .int 3, .int x, .int (nI e)] n w M (fun v n' w' M' => v = some (.int ((((((x + 1) + ke) + ys) + nu) * 2) ^^^ (((x + 1) - ke) * 3))) ∧ n = n' ∧ w = w' ∧ (∀ k, k ≠ 276 → k ≠ 277 → M' k = M0 k) ∧ Pf M' (tz + 8) (app f tz [21, 13, 41, 11, 20, 10, 40, 12])) := by
  have e20 : ¬ (20 : Int32) < nI e := zI_nlt (b := e) (a := 20) (by omega) (by omega)
  have g1 := (hF 1 (by omega) (by omega)).trans h1
  have g2 := (hF 2 (by omega) (by omega)).trans h2
  show zR ztb _ kX7_perform 1 0 [some (.ref 276), some (.ref a), some (.int 3), some (.int 3), some (.int x), some (.int (nI e)), none, none, none, none, none] [] _ _ _ _
  repeat (first | ((with_reducible refine zR.stored ?_); dsimp only [zsto, zclr, zset, zget, zc2, cond_false, cond_true]) | ((with_reducible refine zR.atLit ?_); first | refine zR.step rfl ?_ | refine zR.cs rfl rfl rfl rfl rfl (zCalP.of (kwb_3_3 g1 g2) ?_) | (refine zR.iald rfl g2 (Or.inr rfl) (i := 7) (by decide) (by omega) (by decide) ?_; rw [show bodies 7 = 21 by decide])) | rw [zcc1] | rw [zcc2] | rw [zcc3] | rw [zcc4] | rw [zb1 (by decide)] | rw [zb2 (by decide)] | rw [zb3 (by decide)] | rw [zb4 (by decide)] | rw [zn1 (by decide)] | rw [zn2 (by decide)] | rw [zn3 (by decide)] | rw [zn4 (by decide)] | rw [ze1 (by decide)] | rw [ze2 (by decide)] | rw [zd1 (by decide)] | rw [zd2 (by decide)] | rw [zswy (by decide)] | rw [zswn (by decide)] | rw [zsw0] | rw [zn1 (e20)] | rw [zn2 (e20)] | rw [zn3 (e20)] | rw [zn4 (e20)])
  refine zR.cv rfl rfl rfl hP.1 rfl rfl (zR.mono (c_noteP hF hP (by omega) _) (fun v n1 w1 M1 hv => ?_))
  obtain ⟨rfl, rfl, rfl, hF1, hP1⟩ := hv
  have k1 := (hF1 1 (by omega) (by omega)).trans h1
  have kc1 := (hF1 a (by omega) (by omega)).trans hc
  repeat (first | ((with_reducible refine zR.stored ?_); dsimp only [zsto, zclr, zset, zget, zc2, cond_false, cond_true]) | ((with_reducible refine zR.atLit ?_); first | refine zR.step rfl ?_ | refine zR.getf rfl (kc1) rfl ?_ | (refine zR.iald rfl k1 (Or.inr rfl) (i := 1) rfl (by omega) (by decide) ?_; rw [ab_1])) | rw [zcc1] | rw [zcc2] | rw [zcc3] | rw [zcc4] | rw [zb1 (by decide)] | rw [zb2 (by decide)] | rw [zb3 (by decide)] | rw [zb4 (by decide)] | rw [zn1 (by decide)] | rw [zn2 (by decide)] | rw [zn3 (by decide)] | rw [zn4 (by decide)] | rw [ze1 (by decide)] | rw [ze2 (by decide)] | rw [zd1 (by decide)] | rw [zd2 (by decide)] | rw [zswy (by decide)] | rw [zswn (by decide)] | rw [zsw0])
  try rw [zI_s]
  refine zR.cv rfl rfl rfl hP1.1 rfl rfl (zR.mono (pf_3_0_3 (e := e + 1) h1 h2 hc ha hF1 hP1 (by omega) (by omega) _) (fun v n2 w2 M2 hv => ?_))
  obtain ⟨rfl, rfl, rfl, hF2, hP2⟩ := hv
  have kc2 := (hF2 a (by omega) (by omega)).trans hc
  repeat (first | ((with_reducible refine zR.stored ?_); dsimp only [zsto, zclr, zset, zget, zc2, cond_false, cond_true]) | ((with_reducible refine zR.atLit ?_); first | refine zR.step rfl ?_ | refine zR.getf rfl (kc2) rfl ?_) | rw [zcc1] | rw [zcc2] | rw [zcc3] | rw [zcc4])
  refine zR.ret rfl rfl ⟨rfl, rfl, rfl, hF2, ?_⟩
  rw [app_cat [21] [13, 41, 11, 20, 10, 40, 12] tz (tz + 1) f rfl] at hP2
  exact hP2
theorem pf_4_4_0 {M M0 : zM} {d n w a tz e : Nat} {f : Nat → Int32} {nu nd ys la ke wo : Int32} (h1 : M0 1 = .inl (7, 6, .inl above)) (h2 : M0 2 = .inl (7, 24, .inl bodies)) (hc : M0 a = .inr (1, [.int nu, .int 4, .int nd, .int ys, .int la, .int ke, .int wo])) (ha : 300 ≤ a) (hF : ∀ k, k ≠ 276 → k ≠ 277 → M k = M0 k) (hP : Pf M tz f) (hz : tz + 1 ≤ 50) (he : e + 2 ≤ 15) (x : Int32) : zCalP (d + 2) 60 [.ref 276, .ref a, .int 4, .int 0, .int x, .int (nI e)] n w M (fun v n' w' M' => v = some (.int (x + ys)) ∧ n = n' ∧ w = w' ∧ (∀ k, k ≠ 276 → k ≠ 277 → M' k = M0 k) ∧ Pf M' (tz + 1) (app f tz [10])) := by
  have e20 : ¬ (20 : Int32) < nI e := zI_nlt (b := e) (a := 20) (by omega) (by omega)
  have g1 := (hF 1 (by omega) (by omega)).trans h1
  have g2 := (hF 2 (by omega) (by omega)).trans h2
  show zR ztb _ kX7_perform 1 0 [some (.ref 276), some (.ref a), some (.int 4), some (.int 0), some (.int x), some (.int (nI e)), none, none, none, none, none] [] _ _ _ _
  repeat (first | ((with_reducible refine zR.stored ?_); dsimp only [zsto, zclr, zset, zget, zc2, cond_false, cond_true]) | ((with_reducible refine zR.atLit ?_); first | refine zR.step rfl ?_ | refine zR.cs rfl rfl rfl rfl rfl (zCalP.of (kwb_4_0 g1 g2) ?_) | (refine zR.iald rfl g2 (Or.inr rfl) (i := 0) (by decide) (by omega) (by decide) ?_; rw [show bodies 0 = 10 by decide])) | rw [zcc1] | rw [zcc2] | rw [zcc3] | rw [zcc4] | rw [zb1 (by decide)] | rw [zb2 (by decide)] | rw [zb3 (by decide)] | rw [zb4 (by decide)] | rw [zn1 (by decide)] | rw [zn2 (by decide)] | rw [zn3 (by decide)] | rw [zn4 (by decide)] | rw [ze1 (by decide)] | rw [ze2 (by decide)] | rw [zd1 (by decide)] | rw [zd2 (by decide)] | rw [zswy (by decide)] | rw [zswn (by decide)] | rw [zsw0] | rw [zn1 (e20)] | rw [zn2 (e20)] | rw [zn3 (e20)] | rw [zn4 (e20)])
  refine zR.cv rfl rfl rfl hP.1 rfl rfl (zR.mono (c_noteP hF hP (by omega) _) (fun v n1 w1 M1 hv => ?_))
  obtain ⟨rfl, rfl, rfl, hF1, hP1⟩ := hv
  have k1 := (hF1 1 (by omega) (by omega)).trans h1
  have kc1 := (hF1 a (by omega) (by omega)).trans hc
  repeat (first | ((with_reducible refine zR.stored ?_); dsimp only [zsto, zclr, zset, zget, zc2, cond_false, cond_true]) | ((with_reducible refine zR.atLit ?_); first | refine zR.step rfl ?_ | refine zR.getf rfl (kc1) rfl ?_ | (refine zR.iald rfl k1 (Or.inr rfl) (i := 0) rfl (by omega) (by decide) ?_; rw [ab_0])) | rw [zcc1] | rw [zcc2] | rw [zcc3] | rw [zcc4] | rw [zb1 (by decide)] | rw [zb2 (by decide)] | rw [zb3 (by decide)] | rw [zb4 (by decide)] | rw [zn1 (by decide)] | rw [zn2 (by decide)] | rw [zn3 (by decide)] | rw [zn4 (by decide)] | rw [ze1 (by decide)] | rw [ze2 (by decide)] | rw [zd1 (by decide)] | rw [zd2 (by decide)] | rw [zswy (by decide)] | rw [zswn (by decide)] | rw [zsw0])
  refine zR.ret rfl rfl ⟨rfl, rfl, rfl, hF1, ?_⟩
  exact hP1
theorem pf_4_4_1 {M M0 : zM} {d n w a tz e : Nat} {f : Nat → Int32} {nu nd ys la ke wo : Int32} (h1 : M0 1 = .inl (7, 6, .inl above)) (h2 : M0 2 = .inl (7, 24, .inl bodies)) (hc : M0 a = .inr (1, [.int nu, .int 4, .int nd, .int ys, .int la, .int ke, .int wo])) (ha : 300 ≤ a) (hF : ∀ k, k ≠ 276 → k ≠ 277 → M k = M0 k) (hP : Pf M tz f) (hz : tz + 2 ≤ 50) (he : e + 3 ≤ 15) (x : Int32) : zCalP (d + 3) 60 [.ref 276, .ref a, .int 4, .int 1, .int x, .int (nI e)] n w M (fun v n' w' M' => v = some (.int ((x + ys) * 2)) ∧ n = n' ∧ w = w' ∧ (∀ k, k ≠ 276 → k ≠ 277 → M' k = M0 k) ∧ Pf M' (tz + 2) (app f tz [11, 10])) := by
  have e20 : ¬ (20 : Int32) < nI e := zI_nlt (b := e) (a := 20) (by omega) (by omega)
  have g1 := (hF 1 (by omega) (by omega)).trans h1
  have g2 := (hF 2 (by omega) (by omega)).trans h2
  show zR ztb _ kX7_perform 1 0 [some (.ref 276), some (.ref a), some (.int 4), some (.int 1), some (.int x), some (.int (nI e)), none, none, none, none, none] [] _ _ _ _
  repeat (first | ((with_reducible refine zR.stored ?_); dsimp only [zsto, zclr, zset, zget, zc2, cond_false, cond_true]) | ((with_reducible refine zR.atLit ?_); first | refine zR.step rfl ?_ | refine zR.cs rfl rfl rfl rfl rfl (zCalP.of (kwb_4_1 g1 g2) ?_) | (refine zR.iald rfl g2 (Or.inr rfl) (i := 1) (by decide) (by omega) (by decide) ?_; rw [show bodies 1 = 11 by decide])) | rw [zcc1] | rw [zcc2] | rw [zcc3] | rw [zcc4] | rw [zb1 (by decide)] | rw [zb2 (by decide)] | rw [zb3 (by decide)] | rw [zb4 (by decide)] | rw [zn1 (by decide)] | rw [zn2 (by decide)] | rw [zn3 (by decide)] | rw [zn4 (by decide)] | rw [ze1 (by decide)] | rw [ze2 (by decide)] | rw [zd1 (by decide)] | rw [zd2 (by decide)] | rw [zswy (by decide)] | rw [zswn (by decide)] | rw [zsw0] | rw [zn1 (e20)] | rw [zn2 (e20)] | rw [zn3 (e20)] | rw [zn4 (e20)])
  refine zR.cv rfl rfl rfl hP.1 rfl rfl (zR.mono (c_noteP hF hP (by omega) _) (fun v n1 w1 M1 hv => ?_))
  obtain ⟨rfl, rfl, rfl, hF1, hP1⟩ := hv
  have k1 := (hF1 1 (by omega) (by omega)).trans h1
  have kc1 := (hF1 a (by omega) (by omega)).trans hc
  repeat (first | ((with_reducible refine zR.stored ?_); dsimp only [zsto, zclr, zset, zget, zc2, cond_false, cond_true]) | ((with_reducible refine zR.atLit ?_); first | refine zR.step rfl ?_ | refine zR.getf rfl (kc1) rfl ?_ | (refine zR.iald rfl k1 (Or.inr rfl) (i := 0) rfl (by omega) (by decide) ?_; rw [ab_0])) | rw [zcc1] | rw [zcc2] | rw [zcc3] | rw [zcc4] | rw [zb1 (by decide)] | rw [zb2 (by decide)] | rw [zb3 (by decide)] | rw [zb4 (by decide)] | rw [zn1 (by decide)] | rw [zn2 (by decide)] | rw [zn3 (by decide)] | rw [zn4 (by decide)] | rw [ze1 (by decide)] | rw [ze2 (by decide)] | rw [zd1 (by decide)] | rw [zd2 (by decide)] | rw [zswy (by decide)] | rw [zswn (by decide)] | rw [zsw0])
  try rw [zI_s]
  refine zR.cv rfl rfl rfl hP1.1 rfl rfl (zR.mono (pf_4_4_0 (e := e + 1) h1 h2 hc ha hF1 hP1 (by omega) (by omega) _) (fun v n2 w2 M2 hv => ?_))
  obtain ⟨rfl, rfl, rfl, hF2, hP2⟩ := hv
  have kc2 := (hF2 a (by omega) (by omega)).trans hc
  repeat (first | ((with_reducible refine zR.stored ?_); dsimp only [zsto, zclr, zset, zget, zc2, cond_false, cond_true]) | ((with_reducible refine zR.atLit ?_); first | refine zR.step rfl ?_ | refine zR.getf rfl (kc2) rfl ?_) | rw [zcc1] | rw [zcc2] | rw [zcc3] | rw [zcc4])
  refine zR.ret rfl rfl ⟨rfl, rfl, rfl, hF2, ?_⟩
  rw [app_cat [11] [10] tz (tz + 1) f rfl] at hP2
  exact hP2
theorem pf_4_4_2 {M M0 : zM} {d n w a tz e : Nat} {f : Nat → Int32} {nu nd ys la ke wo : Int32} (h1 : M0 1 = .inl (7, 6, .inl above)) (h2 : M0 2 = .inl (7, 24, .inl bodies)) (hc : M0 a = .inr (1, [.int nu, .int 4, .int nd, .int ys, .int la, .int ke, .int wo])) (ha : 300 ≤ a) (hF : ∀ k, k ≠ 276 → k ≠ 277 → M k = M0 k) (hP : Pf M tz f) (hz : tz + 1 ≤ 50) (he : e + 2 ≤ 15) (x : Int32) : zCalP (d + 2) 60 [.ref 276, .ref a, .int 4, .int 2, .int x, .int (nI e)] n w M (fun v n' w' M' => v = some (.int (x - ke)) ∧ n = n' ∧ w = w' ∧ (∀ k, k ≠ 276 → k ≠ 277 → M' k = M0 k) ∧ Pf M' (tz + 1) (app f tz [12])) := by
  have e20 : ¬ (20 : Int32) < nI e := zI_nlt (b := e) (a := 20) (by omega) (by omega)
  have g1 := (hF 1 (by omega) (by omega)).trans h1
  have g2 := (hF 2 (by omega) (by omega)).trans h2
  show zR ztb _ kX7_perform 1 0 [some (.ref 276), some (.ref a), some (.int 4), some (.int 2), some (.int x), some (.int (nI e)), none, none, none, none, none] [] _ _ _ _
  repeat (first | ((with_reducible refine zR.stored ?_); dsimp only [zsto, zclr, zset, zget, zc2, cond_false, cond_true]) | ((with_reducible refine zR.atLit ?_); first | refine zR.step rfl ?_ | refine zR.cs rfl rfl rfl rfl rfl (zCalP.of (kwb_4_2 g1 g2) ?_) | (refine zR.iald rfl g2 (Or.inr rfl) (i := 2) (by decide) (by omega) (by decide) ?_; rw [show bodies 2 = 12 by decide])) | rw [zcc1] | rw [zcc2] | rw [zcc3] | rw [zcc4] | rw [zb1 (by decide)] | rw [zb2 (by decide)] | rw [zb3 (by decide)] | rw [zb4 (by decide)] | rw [zn1 (by decide)] | rw [zn2 (by decide)] | rw [zn3 (by decide)] | rw [zn4 (by decide)] | rw [ze1 (by decide)] | rw [ze2 (by decide)] | rw [zd1 (by decide)] | rw [zd2 (by decide)] | rw [zswy (by decide)] | rw [zswn (by decide)] | rw [zsw0] | rw [zn1 (e20)] | rw [zn2 (e20)] | rw [zn3 (e20)] | rw [zn4 (e20)])
  refine zR.cv rfl rfl rfl hP.1 rfl rfl (zR.mono (c_noteP hF hP (by omega) _) (fun v n1 w1 M1 hv => ?_))
  obtain ⟨rfl, rfl, rfl, hF1, hP1⟩ := hv
  have k1 := (hF1 1 (by omega) (by omega)).trans h1
  have kc1 := (hF1 a (by omega) (by omega)).trans hc
  repeat (first | ((with_reducible refine zR.stored ?_); dsimp only [zsto, zclr, zset, zget, zc2, cond_false, cond_true]) | ((with_reducible refine zR.atLit ?_); first | refine zR.step rfl ?_ | refine zR.getf rfl (kc1) rfl ?_ | (refine zR.iald rfl k1 (Or.inr rfl) (i := 0) rfl (by omega) (by decide) ?_; rw [ab_0])) | rw [zcc1] | rw [zcc2] | rw [zcc3] | rw [zcc4] | rw [zb1 (by decide)] | rw [zb2 (by decide)] | rw [zb3 (by decide)] | rw [zb4 (by decide)] | rw [zn1 (by decide)] | rw [zn2 (by decide)] | rw [zn3 (by decide)] | rw [zn4 (by decide)] | rw [ze1 (by decide)] | rw [ze2 (by decide)] | rw [zd1 (by decide)] | rw [zd2 (by decide)] | rw [zswy (by decide)] | rw [zswn (by decide)] | rw [zsw0])
  refine zR.ret rfl rfl ⟨rfl, rfl, rfl, hF1, ?_⟩
  exact hP1
theorem pf_4_0_3 {M M0 : zM} {d n w a tz e : Nat} {f : Nat → Int32} {nu nd ys la ke wo : Int32} (h1 : M0 1 = .inl (7, 6, .inl above)) (h2 : M0 2 = .inl (7, 24, .inl bodies)) (hc : M0 a = .inr (1, [.int nu, .int 4, .int nd, .int ys, .int la, .int ke, .int wo])) (ha : 300 ≤ a) (hF : ∀ k, k ≠ 276 → k ≠ 277 → M k = M0 k) (hP : Pf M tz f) (hz : tz + 4 ≤ 50) (he : e + 4 ≤ 15) (x : Int32) : zCalP (d + 4) 60 [.ref 276, .ref a, .int 0, .int 3, .int x, .int (nI e)] n w M (fun v n' w' M' => v = some (.int (((x + ys) * 2) ^^^ (x - ke))) ∧ n = n' ∧ w = w' ∧ (∀ k, k ≠ 276 → k ≠ 277 → M' k = M0 k) ∧ Pf M' (tz + 4) (app f tz [13, 11, 10, 12])) := by
  have e20 : ¬ (20 : Int32) < nI e := zI_nlt (b := e) (a := 20) (by omega) (by omega)
  have g1 := (hF 1 (by omega) (by omega)).trans h1
  have g2 := (hF 2 (by omega) (by omega)).trans h2
  show zR ztb _ kX7_perform 1 0 [some (.ref 276), some (.ref a), some (.int 0), some (.int 3), some (.int x), some (.int (nI e)), none, none, none, none, none] [] _ _ _ _
  repeat (first | ((with_reducible refine zR.stored ?_); dsimp only [zsto, zclr, zset, zget, zc2, cond_false, cond_true]) | ((with_reducible refine zR.atLit ?_); first | refine zR.step rfl ?_ | refine zR.cs rfl rfl rfl rfl rfl (zCalP.of (kwb_0_3 g1 g2) ?_) | (refine zR.iald rfl g2 (Or.inr rfl) (i := 3) (by decide) (by omega) (by decide) ?_; rw [show bodies 3 = 13 by decide])) | rw [zcc1] | rw [zcc2] | rw [zcc3] | rw [zcc4] | rw [zb1 (by decide)] | rw [zb2 (by decide)] | rw [zb3 (by decide)] | rw [zb4 (by decide)] | rw [zn1 (by decide)] | rw [zn2 (by decide)] | rw [zn3 (by decide)] | rw [zn4 (by decide)] | rw [ze1 (by decide)] | rw [ze2 (by decide)] | rw [zd1 (by decide)] | rw [zd2 (by decide)] | rw [zswy (by decide)] | rw [zswn (by decide)] | rw [zsw0] | rw [zn1 (e20)] | rw [zn2 (e20)] | rw [zn3 (e20)] | rw [zn4 (e20)])
  refine zR.cv rfl rfl rfl hP.1 rfl rfl (zR.mono (c_noteP hF hP (by omega) _) (fun v n1 w1 M1 hv => ?_))
  obtain ⟨rfl, rfl, rfl, hF1, hP1⟩ := hv
  have k1 := (hF1 1 (by omega) (by omega)).trans h1
  have kc1 := (hF1 a (by omega) (by omega)).trans hc
  repeat (first | ((with_reducible refine zR.stored ?_); dsimp only [zsto, zclr, zset, zget, zc2, cond_false, cond_true]) | ((with_reducible refine zR.atLit ?_); first | refine zR.step rfl ?_ | refine zR.getf rfl (kc1) rfl ?_ | (refine zR.iald rfl k1 (Or.inr rfl) (i := 0) rfl (by omega) (by decide) ?_; rw [ab_0])) | rw [zcc1] | rw [zcc2] | rw [zcc3] | rw [zcc4] | rw [zb1 (by decide)] | rw [zb2 (by decide)] | rw [zb3 (by decide)] | rw [zb4 (by decide)] | rw [zn1 (by decide)] | rw [zn2 (by decide)] | rw [zn3 (by decide)] | rw [zn4 (by decide)] | rw [ze1 (by decide)] | rw [ze2 (by decide)] | rw [zd1 (by decide)] | rw [zd2 (by decide)] | rw [zswy (by decide)] | rw [zswn (by decide)] | rw [zsw0])
  try rw [zI_s]
  refine zR.cv rfl rfl rfl hP1.1 rfl rfl (zR.mono (pf_4_4_1 (e := e + 1) h1 h2 hc ha hF1 hP1 (by omega) (by omega) _) (fun v n2 w2 M2 hv => ?_))
  obtain ⟨rfl, rfl, rfl, hF2, hP2⟩ := hv
  have kc2 := (hF2 a (by omega) (by omega)).trans hc
  repeat (first | ((with_reducible refine zR.stored ?_); dsimp only [zsto, zclr, zset, zget, zc2, cond_false, cond_true]) | ((with_reducible refine zR.atLit ?_); first | refine zR.step rfl ?_ | refine zR.getf rfl (kc2) rfl ?_) | rw [zcc1] | rw [zcc2] | rw [zcc3] | rw [zcc4])
  refine zR.cv rfl rfl rfl hP2.1 rfl rfl (zR.mono (pf_4_4_2 (e := e + 1) h1 h2 hc ha hF2 hP2 (by omega) (by omega) _) (fun v n3 w3 M3 hv => ?_))
  obtain ⟨rfl, rfl, rfl, hF3, hP3⟩ := hv
  have kc3 := (hF3 a (by omega) (by omega)).trans hc
  repeat (first | ((with_reducible refine zR.stored ?_); dsimp only [zsto, zclr, zset, zget, zc2, cond_false, cond_true]) | ((with_reducible refine zR.atLit ?_); first | refine zR.step rfl ?_ | refine zR.getf rfl (kc3) rfl ?_) | rw [zcc1] | rw [zcc2] | rw [zcc3] | rw [zcc4])
  refine zR.ret rfl rfl ⟨rfl, rfl, rfl, hF3, ?_⟩
  rw [app_cat [13] [11, 10] tz (tz + 1) f rfl, app_cat ([13] ++ [11, 10]) [12] tz (tz + 1 + 2) f rfl] at hP3
  exact hP3
theorem pf_4_4_3 {M M0 : zM} {d n w a tz e : Nat} {f : Nat → Int32} {nu nd ys la ke wo : Int32} (h1 : M0 1 = .inl (7, 6, .inl above)) (h2 : M0 2 = .inl (7, 24, .inl bodies)) (hc : M0 a = .inr (1, [.int nu, .int 4, .int nd, .int ys, .int la, .int ke, .int wo])) (ha : 300 ≤ a) (hF : ∀ k, k ≠ 276 → k ≠ 277 → M k = M0 k) (hP : Pf M tz f) (hz : tz + 6 ≤ 50) (he : e + 5 ≤ 15) (x : Int32) : zCalP (d + 5) 60 [.ref 276, .ref a, .int 4, .int 3, .int x, .int (nI e)] n w M (fun v n' w' M' => v = some (.int ((x - ke) - (((x + ys) * 2) ^^^ (x - ke)))) ∧ n = n' ∧ w = w' ∧ (∀ k, k ≠ 276 → k ≠ 277 → M' k = M0 k) ∧ Pf M' (tz + 6) (app f tz [50, 12, 13, 11, 10, 12])) := by
  have e20 : ¬ (20 : Int32) < nI e := zI_nlt (b := e) (a := 20) (by omega) (by omega)
  have g1 := (hF 1 (by omega) (by omega)).trans h1
  have g2 := (hF 2 (by omega) (by omega)).trans h2
  show zR ztb _ kX7_perform 1 0 [some (.ref 276), some (.ref a), some (.int 4), some (.int 3), some (.int x), some (.int (nI e)), none, none, none, none, none] [] _ _ _ _
  repeat (first | ((with_reducible refine zR.stored ?_); dsimp only [zsto, zclr, zset, zget, zc2, cond_false, cond_true]) | ((with_reducible refine zR.atLit ?_); first | refine zR.step rfl ?_ | refine zR.cs rfl rfl rfl rfl rfl (zCalP.of (kwb_4_3 g1 g2) ?_) | (refine zR.iald rfl g2 (Or.inr rfl) (i := 19) (by decide) (by omega) (by decide) ?_; rw [show bodies 19 = 50 by decide])) | rw [zcc1] | rw [zcc2] | rw [zcc3] | rw [zcc4] | rw [zb1 (by decide)] | rw [zb2 (by decide)] | rw [zb3 (by decide)] | rw [zb4 (by decide)] | rw [zn1 (by decide)] | rw [zn2 (by decide)] | rw [zn3 (by decide)] | rw [zn4 (by decide)] | rw [ze1 (by decide)] | rw [ze2 (by decide)] | rw [zd1 (by decide)] | rw [zd2 (by decide)] | rw [zswy (by decide)] | rw [zswn (by decide)] | rw [zsw0] | rw [zn1 (e20)] | rw [zn2 (e20)] | rw [zn3 (e20)] | rw [zn4 (e20)])
  refine zR.cv rfl rfl rfl hP.1 rfl rfl (zR.mono (c_noteP hF hP (by omega) _) (fun v n1 w1 M1 hv => ?_))
  obtain ⟨rfl, rfl, rfl, hF1, hP1⟩ := hv
  have k1 := (hF1 1 (by omega) (by omega)).trans h1
  have kc1 := (hF1 a (by omega) (by omega)).trans hc
  repeat (first | ((with_reducible refine zR.stored ?_); dsimp only [zsto, zclr, zset, zget, zc2, cond_false, cond_true]) | ((with_reducible refine zR.atLit ?_); first | refine zR.step rfl ?_ | refine zR.getf rfl (kc1) rfl ?_ | (refine zR.iald rfl k1 (Or.inr rfl) (i := 4) rfl (by omega) (by decide) ?_; rw [ab_4])) | rw [zcc1] | rw [zcc2] | rw [zcc3] | rw [zcc4] | rw [zb1 (by decide)] | rw [zb2 (by decide)] | rw [zb3 (by decide)] | rw [zb4 (by decide)] | rw [zn1 (by decide)] | rw [zn2 (by decide)] | rw [zn3 (by decide)] | rw [zn4 (by decide)] | rw [ze1 (by decide)] | rw [ze2 (by decide)] | rw [zd1 (by decide)] | rw [zd2 (by decide)] | rw [zswy (by decide)] | rw [zswn (by decide)] | rw [zsw0])
  try rw [zI_s]
  refine zR.cv rfl rfl rfl hP1.1 rfl rfl (zR.mono (pf_4_4_2 (e := e + 1) h1 h2 hc ha hF1 hP1 (by omega) (by omega) _) (fun v n2 w2 M2 hv => ?_))
  obtain ⟨rfl, rfl, rfl, hF2, hP2⟩ := hv
  have kc2 := (hF2 a (by omega) (by omega)).trans hc
  repeat (first | ((with_reducible refine zR.stored ?_); dsimp only [zsto, zclr, zset, zget, zc2, cond_false, cond_true]) | ((with_reducible refine zR.atLit ?_); first | refine zR.step rfl ?_ | refine zR.getf rfl (kc2) rfl ?_) | rw [zcc1] | rw [zcc2] | rw [zcc3] | rw [zcc4])
  refine zR.cv rfl rfl rfl hP2.1 rfl rfl (zR.mono (pf_4_0_3 (e := e + 1) h1 h2 hc ha hF2 hP2 (by omega) (by omega) _) (fun v n3 w3 M3 hv => ?_))
  obtain ⟨rfl, rfl, rfl, hF3, hP3⟩ := hv
  have kc3 := (hF3 a (by omega) (by omega)).trans hc
  repeat (first | ((with_reducible refine zR.stored ?_); dsimp only [zsto, zclr, zset, zget, zc2, cond_false, cond_true]) | ((with_reducible refine zR.atLit ?_); first | refine zR.step rfl ?_ | refine zR.getf rfl (kc3) rfl ?_) | rw [zcc1] | rw [zcc2] | rw [zcc3] | rw [zcc4])
  refine zR.ret rfl rfl ⟨rfl, rfl, rfl, hF3, ?_⟩
  rw [app_cat [50] [12] tz (tz + 1) f rfl, app_cat ([50] ++ [12]) [13, 11, 10, 12] tz (tz + 1 + 1) f rfl] at hP3
  exact hP3
theorem pf_5_0_0 {M M0 : zM} {d n w a tz e : Nat} {f : Nat → Int32} {nu nd ys la ke wo : Int32} (h1 : M0 1 = .inl (7, 6, .inl above)) (h2 : M0 2 = .inl (7, 24, .inl bodies)) (hc : M0 a = .inr (1, [.int nu, .int 5, .int nd, .int ys, .int la, .int ke, .int wo])) (ha : 300 ≤ a) (hF : ∀ k, k ≠ 276 → k ≠ 277 → M k = M0 k) (hP : Pf M tz f) (hz : tz + 1 ≤ 50) (he : e + 2 ≤ 15) (x : Int32) : zCalP (d + 2) 60 [.ref 276, .ref a, .int 0, .int 0, .int x, .int (nI e)] n w M (fun v n' w' M' => v = some (.int (x + ys)) ∧ n = n' ∧ w = w' ∧ (∀ k, k ≠ 276 → k ≠ 277 → M' k = M0 k) ∧ Pf M' (tz + 1) (app f tz [10])) := by
  have e20 : ¬ (20 : Int32) < nI e := zI_nlt (b := e) (a := 20) (by omega) (by omega)
  have g1 := (hF 1 (by omega) (by omega)).trans h1
  have g2 := (hF 2 (by omega) (by omega)).trans h2
  show zR ztb _ kX7_perform 1 0 [some (.ref 276), some (.ref a), some (.int 0), some (.int 0), some (.int x), some (.int (nI e)), none, none, none, none, none] [] _ _ _ _
  repeat (first | ((with_reducible refine zR.stored ?_); dsimp only [zsto, zclr, zset, zget, zc2, cond_false, cond_true]) | ((with_reducible refine zR.atLit ?_); first | refine zR.step rfl ?_ | refine zR.cs rfl rfl rfl rfl rfl (zCalP.of (kwb_0_0 g1 g2) ?_) | (refine zR.iald rfl g2 (Or.inr rfl) (i := 0) (by decide) (by omega) (by decide) ?_; rw [show bodies 0 = 10 by decide])) | rw [zcc1] | rw [zcc2] | rw [zcc3] | rw [zcc4] | rw [zb1 (by decide)] | rw [zb2 (by decide)] | rw [zb3 (by decide)] | rw [zb4 (by decide)] | rw [zn1 (by decide)] | rw [zn2 (by decide)] | rw [zn3 (by decide)] | rw [zn4 (by decide)] | rw [ze1 (by decide)] | rw [ze2 (by decide)] | rw [zd1 (by decide)] | rw [zd2 (by decide)] | rw [zswy (by decide)] | rw [zswn (by decide)] | rw [zsw0] | rw [zn1 (e20)] | rw [zn2 (e20)] | rw [zn3 (e20)] | rw [zn4 (e20)])
  refine zR.cv rfl rfl rfl hP.1 rfl rfl (zR.mono (c_noteP hF hP (by omega) _) (fun v n1 w1 M1 hv => ?_))
  obtain ⟨rfl, rfl, rfl, hF1, hP1⟩ := hv
  have k1 := (hF1 1 (by omega) (by omega)).trans h1
  have kc1 := (hF1 a (by omega) (by omega)).trans hc
  repeat (first | ((with_reducible refine zR.stored ?_); dsimp only [zsto, zclr, zset, zget, zc2, cond_false, cond_true]) | ((with_reducible refine zR.atLit ?_); first | refine zR.step rfl ?_ | refine zR.getf rfl (kc1) rfl ?_ | (refine zR.iald rfl k1 (Or.inr rfl) (i := 0) rfl (by omega) (by decide) ?_; rw [ab_0])) | rw [zcc1] | rw [zcc2] | rw [zcc3] | rw [zcc4] | rw [zb1 (by decide)] | rw [zb2 (by decide)] | rw [zb3 (by decide)] | rw [zb4 (by decide)] | rw [zn1 (by decide)] | rw [zn2 (by decide)] | rw [zn3 (by decide)] | rw [zn4 (by decide)] | rw [ze1 (by decide)] | rw [ze2 (by decide)] | rw [zd1 (by decide)] | rw [zd2 (by decide)] | rw [zswy (by decide)] | rw [zswn (by decide)] | rw [zsw0])
  refine zR.ret rfl rfl ⟨rfl, rfl, rfl, hF1, ?_⟩
  exact hP1
theorem pf_5_3_0 {M M0 : zM} {d n w a tz e : Nat} {f : Nat → Int32} {nu nd ys la ke wo : Int32} (h1 : M0 1 = .inl (7, 6, .inl above)) (h2 : M0 2 = .inl (7, 24, .inl bodies)) (hc : M0 a = .inr (1, [.int nu, .int 5, .int nd, .int ys, .int la, .int ke, .int wo])) (ha : 300 ≤ a) (hF : ∀ k, k ≠ 276 → k ≠ 277 → M k = M0 k) (hP : Pf M tz f) (hz : tz + 2 ≤ 50) (he : e + 3 ≤ 15) (x : Int32) : zCalP (d + 3) 60 [.ref 276, .ref a, .int 3, .int 0, .int x, .int (nI e)] n w M (fun v n' w' M' => v = some (.int ((x + ys) + nu)) ∧ n = n' ∧ w = w' ∧ (∀ k, k ≠ 276 → k ≠ 277 → M' k = M0 k) ∧ Pf M' (tz + 2) (app f tz [20, 10])) := by
  have e20 : ¬ (20 : Int32) < nI e := zI_nlt (b := e) (a := 20) (by omega) (by omega)
  have g1 := (hF 1 (by omega) (by omega)).trans h1
  have g2 := (hF 2 (by omega) (by omega)).trans h2
  show zR ztb _ kX7_perform 1 0 [some (.ref 276), some (.ref a), some (.int 3), some (.int 0), some (.int x), some (.int (nI e)), none, none, none, none, none] [] _ _ _ _
  repeat (first | ((with_reducible refine zR.stored ?_); dsimp only [zsto, zclr, zset, zget, zc2, cond_false, cond_true]) | ((with_reducible refine zR.atLit ?_); first | refine zR.step rfl ?_ | refine zR.cs rfl rfl rfl rfl rfl (zCalP.of (kwb_3_0 g1 g2) ?_) | (refine zR.iald rfl g2 (Or.inr rfl) (i := 4) (by decide) (by omega) (by decide) ?_; rw [show bodies 4 = 20 by decide])) | rw [zcc1] | rw [zcc2] | rw [zcc3] | rw [zcc4] | rw [zb1 (by decide)] | rw [zb2 (by decide)] | rw [zb3 (by decide)] | rw [zb4 (by decide)] | rw [zn1 (by decide)] | rw [zn2 (by decide)] | rw [zn3 (by decide)] | rw [zn4 (by decide)] | rw [ze1 (by decide)] | rw [ze2 (by decide)] | rw [zd1 (by decide)] | rw [zd2 (by decide)] | rw [zswy (by decide)] | rw [zswn (by decide)] | rw [zsw0] | rw [zn1 (e20)] | rw [zn2 (e20)] | rw [zn3 (e20)] | rw [zn4 (e20)])
  refine zR.cv rfl rfl rfl hP.1 rfl rfl (zR.mono (c_noteP hF hP (by omega) _) (fun v n1 w1 M1 hv => ?_))
  obtain ⟨rfl, rfl, rfl, hF1, hP1⟩ := hv
  have k1 := (hF1 1 (by omega) (by omega)).trans h1
  have kc1 := (hF1 a (by omega) (by omega)).trans hc
  repeat (first | ((with_reducible refine zR.stored ?_); dsimp only [zsto, zclr, zset, zget, zc2, cond_false, cond_true]) | ((with_reducible refine zR.atLit ?_); first | refine zR.step rfl ?_ | refine zR.getf rfl (kc1) rfl ?_ | (refine zR.iald rfl k1 (Or.inr rfl) (i := 1) rfl (by omega) (by decide) ?_; rw [ab_1])) | rw [zcc1] | rw [zcc2] | rw [zcc3] | rw [zcc4] | rw [zb1 (by decide)] | rw [zb2 (by decide)] | rw [zb3 (by decide)] | rw [zb4 (by decide)] | rw [zn1 (by decide)] | rw [zn2 (by decide)] | rw [zn3 (by decide)] | rw [zn4 (by decide)] | rw [ze1 (by decide)] | rw [ze2 (by decide)] | rw [zd1 (by decide)] | rw [zd2 (by decide)] | rw [zswy (by decide)] | rw [zswn (by decide)] | rw [zsw0])
  try rw [zI_s]
  refine zR.cv rfl rfl rfl hP1.1 rfl rfl (zR.mono (pf_5_0_0 (e := e + 1) h1 h2 hc ha hF1 hP1 (by omega) (by omega) _) (fun v n2 w2 M2 hv => ?_))
  obtain ⟨rfl, rfl, rfl, hF2, hP2⟩ := hv
  have kc2 := (hF2 a (by omega) (by omega)).trans hc
  repeat (first | ((with_reducible refine zR.stored ?_); dsimp only [zsto, zclr, zset, zget, zc2, cond_false, cond_true]) | ((with_reducible refine zR.atLit ?_); first | refine zR.step rfl ?_ | refine zR.getf rfl (kc2) rfl ?_) | rw [zcc1] | rw [zcc2] | rw [zcc3] | rw [zcc4])
  refine zR.ret rfl rfl ⟨rfl, rfl, rfl, hF2, ?_⟩
  rw [app_cat [20] [10] tz (tz + 1) f rfl] at hP2
  exact hP2
theorem pf_5_5_0 {M M0 : zM} {d n w a tz e : Nat} {f : Nat → Int32} {nu nd ys la ke wo : Int32} (h1 : M0 1 = .inl (7, 6, .inl above)) (h2 : M0 2 = .inl (7, 24, .inl bodies)) (hc : M0 a = .inr (1, [.int nu, .int 5, .int nd, .int ys, .int la, .int ke, .int wo])) (ha : 300 ≤ a) (hF : ∀ k, k ≠ 276 → k ≠ 277 → M k = M0 k) (hP : Pf M tz f) (hz : tz + 3 ≤ 50) (he : e + 4 ≤ 15) (x : Int32) : zCalP (d + 4) 60 [.ref 276, .ref a, .int 5, .int 0, .int x, .int (nI e)] n w M (fun v n' w' M' => v = some (.int (((x + ys) + nu) ^^^ 5)) ∧ n = n' ∧ w = w' ∧ (∀ k, k ≠ 276 → k ≠ 277 → M' k = M0 k) ∧ Pf M' (tz + 3) (app f tz [60, 20, 10])) := by
  have e20 : ¬ (20 : Int32) < nI e := zI_nlt (b := e) (a := 20) (by omega) (by omega)
  have g1 := (hF 1 (by omega) (by omega)).trans h1
  have g2 := (hF 2 (by omega) (by omega)).trans h2
  show zR ztb _ kX7_perform 1 0 [some (.ref 276), some (.ref a), some (.int 5), some (.int 0), some (.int x), some (.int (nI e)), none, none, none, none, none] [] _ _ _ _
  repeat (first | ((with_reducible refine zR.stored ?_); dsimp only [zsto, zclr, zset, zget, zc2, cond_false, cond_true]) | ((with_reducible refine zR.atLit ?_); first | refine zR.step rfl ?_ | refine zR.cs rfl rfl rfl rfl rfl (zCalP.of (kwb_5_0 g1 g2) ?_) | (refine zR.iald rfl g2 (Or.inr rfl) (i := 20) (by decide) (by omega) (by decide) ?_; rw [show bodies 20 = 60 by decide])) | rw [zcc1] | rw [zcc2] | rw [zcc3] | rw [zcc4] | rw [zb1 (by decide)] | rw [zb2 (by decide)] | rw [zb3 (by decide)] | rw [zb4 (by decide)] | rw [zn1 (by decide)] | rw [zn2 (by decide)] | rw [zn3 (by decide)] | rw [zn4 (by decide)] | rw [ze1 (by decide)] | rw [ze2 (by decide)] | rw [zd1 (by decide)] | rw [zd2 (by decide)] | rw [zswy (by decide)] | rw [zswn (by decide)] | rw [zsw0] | rw [zn1 (e20)] | rw [zn2 (e20)] | rw [zn3 (e20)] | rw [zn4 (e20)])
  refine zR.cv rfl rfl rfl hP.1 rfl rfl (zR.mono (c_noteP hF hP (by omega) _) (fun v n1 w1 M1 hv => ?_))
  obtain ⟨rfl, rfl, rfl, hF1, hP1⟩ := hv
  have k1 := (hF1 1 (by omega) (by omega)).trans h1
  have kc1 := (hF1 a (by omega) (by omega)).trans hc
  repeat (first | ((with_reducible refine zR.stored ?_); dsimp only [zsto, zclr, zset, zget, zc2, cond_false, cond_true]) | ((with_reducible refine zR.atLit ?_); first | refine zR.step rfl ?_ | refine zR.getf rfl (kc1) rfl ?_ | (refine zR.iald rfl k1 (Or.inr rfl) (i := 5) rfl (by omega) (by decide) ?_; rw [ab_5])) | rw [zcc1] | rw [zcc2] | rw [zcc3] | rw [zcc4] | rw [zb1 (by decide)] | rw [zb2 (by decide)] | rw [zb3 (by decide)] | rw [zb4 (by decide)] | rw [zn1 (by decide)] | rw [zn2 (by decide)] | rw [zn3 (by decide)] | rw [zn4 (by decide)] | rw [ze1 (by decide)] | rw [ze2 (by decide)] | rw [zd1 (by decide)] | rw [zd2 (by decide)] | rw [zswy (by decide)] | rw [zswn (by decide)] | rw [zsw0])
  try rw [zI_s]
  refine zR.cv rfl rfl rfl hP1.1 rfl rfl (zR.mono (pf_5_3_0 (e := e + 1) h1 h2 hc ha hF1 hP1 (by omega) (by omega) _) (fun v n2 w2 M2 hv => ?_))
  obtain ⟨rfl, rfl, rfl, hF2, hP2⟩ := hv
  have kc2 := (hF2 a (by omega) (by omega)).trans hc
  repeat (first | ((with_reducible refine zR.stored ?_); dsimp only [zsto, zclr, zset, zget, zc2, cond_false, cond_true]) | ((with_reducible refine zR.atLit ?_); first | refine zR.step rfl ?_ | refine zR.getf rfl (kc2) rfl ?_) | rw [zcc1] | rw [zcc2] | rw [zcc3] | rw [zcc4])
  refine zR.ret rfl rfl ⟨rfl, rfl, rfl, hF2, ?_⟩
  rw [app_cat [60] [20, 10] tz (tz + 1) f rfl] at hP2
  exact hP2
theorem pf_5_1_1 {M M0 : zM} {d n w a tz e : Nat} {f : Nat → Int32} {nu nd ys la ke wo : Int32} (h1 : M0 1 = .inl (7, 6, .inl above)) (h2 : M0 2 = .inl (7, 24, .inl bodies)) (hc : M0 a = .inr (1, [.int nu, .int 5, .int nd, .int ys, .int la, .int ke, .int wo])) (ha : 300 ≤ a) (hF : ∀ k, k ≠ 276 → k ≠ 277 → M k = M0 k) (hP : Pf M tz f) (hz : tz + 4 ≤ 50) (he : e + 5 ≤ 15) (x : Int32) : zCalP (d + 5) 60 [.ref 276, .ref a, .int 1, .int 1, .int x, .int (nI e)] n w M (fun v n' w' M' => v = some (.int ((((x + ys) + nu) ^^^ 5) * 2)) ∧ n = n' ∧ w = w' ∧ (∀ k, k ≠ 276 → k ≠ 277 → M' k = M0 k) ∧ Pf M' (tz + 4) (app f tz [11, 60, 20, 10])) := by
  have e20 : ¬ (20 : Int32) < nI e := zI_nlt (b := e) (a := 20) (by omega) (by omega)
  have g1 := (hF 1 (by omega) (by omega)).trans h1
  have g2 := (hF 2 (by omega) (by omega)).trans h2
  show zR ztb _ kX7_perform 1 0 [some (.ref 276), some (.ref a), some (.int 1), some (.int 1), some (.int x), some (.int (nI e)), none, none, none, none, none] [] _ _ _ _
  repeat (first | ((with_reducible refine zR.stored ?_); dsimp only [zsto, zclr, zset, zget, zc2, cond_false, cond_true]) | ((with_reducible refine zR.atLit ?_); first | refine zR.step rfl ?_ | refine zR.cs rfl rfl rfl rfl rfl (zCalP.of (kwb_1_1 g1 g2) ?_) | (refine zR.iald rfl g2 (Or.inr rfl) (i := 1) (by decide) (by omega) (by decide) ?_; rw [show bodies 1 = 11 by decide])) | rw [zcc1] | rw [zcc2] | rw [zcc3] | rw [zcc4] | rw [zb1 (by decide)] | rw [zb2 (by decide)] | rw [zb3 (by decide)] | rw [zb4 (by decide)] | rw [zn1 (by decide)] | rw [zn2 (by decide)] | rw [zn3 (by decide)] | rw [zn4 (by decide)] | rw [ze1 (by decide)] | rw [ze2 (by decide)] | rw [zd1 (by decide)] | rw [zd2 (by decide)] | rw [zswy (by decide)] | rw [zswn (by decide)] | rw [zsw0] | rw [zn1 (e20)] | rw [zn2 (e20)] | rw [zn3 (e20)] | rw [zn4 (e20)])
  refine zR.cv rfl rfl rfl hP.1 rfl rfl (zR.mono (c_noteP hF hP (by omega) _) (fun v n1 w1 M1 hv => ?_))
  obtain ⟨rfl, rfl, rfl, hF1, hP1⟩ := hv
  have k1 := (hF1 1 (by omega) (by omega)).trans h1
  have kc1 := (hF1 a (by omega) (by omega)).trans hc
  repeat (first | ((with_reducible refine zR.stored ?_); dsimp only [zsto, zclr, zset, zget, zc2, cond_false, cond_true]) | ((with_reducible refine zR.atLit ?_); first | refine zR.step rfl ?_ | refine zR.getf rfl (kc1) rfl ?_ | (refine zR.iald rfl k1 (Or.inr rfl) (i := 0) rfl (by omega) (by decide) ?_; rw [ab_0])) | rw [zcc1] | rw [zcc2] | rw [zcc3] | rw [zcc4] | rw [zb1 (by decide)] | rw [zb2 (by decide)] | rw [zb3 (by decide)] | rw [zb4 (by decide)] | rw [zn1 (by decide)] | rw [zn2 (by decide)] | rw [zn3 (by decide)] | rw [zn4 (by decide)] | rw [ze1 (by decide)] | rw [ze2 (by decide)] | rw [zd1 (by decide)] | rw [zd2 (by decide)] | rw [zswy (by decide)] | rw [zswn (by decide)] | rw [zsw0])
  try rw [zI_s]
  refine zR.cv rfl rfl rfl hP1.1 rfl rfl (zR.mono (pf_5_5_0 (e := e + 1) h1 h2 hc ha hF1 hP1 (by omega) (by omega) _) (fun v n2 w2 M2 hv => ?_))
  obtain ⟨rfl, rfl, rfl, hF2, hP2⟩ := hv
  have kc2 := (hF2 a (by omega) (by omega)).trans hc
  repeat (first | ((with_reducible refine zR.stored ?_); dsimp only [zsto, zclr, zset, zget, zc2, cond_false, cond_true]) | ((with_reducible refine zR.atLit ?_); first | refine zR.step rfl ?_ | refine zR.getf rfl (kc2) rfl ?_) | rw [zcc1] | rw [zcc2] | rw [zcc3] | rw [zcc4])
  refine zR.ret rfl rfl ⟨rfl, rfl, rfl, hF2, ?_⟩
  rw [app_cat [11] [60, 20, 10] tz (tz + 1) f rfl] at hP2
  exact hP2
theorem pf_5_5_1 {M M0 : zM} {d n w a tz e : Nat} {f : Nat → Int32} {nu nd ys la ke wo : Int32} (h1 : M0 1 = .inl (7, 6, .inl above)) (h2 : M0 2 = .inl (7, 24, .inl bodies)) (hc : M0 a = .inr (1, [.int nu, .int 5, .int nd, .int ys, .int la, .int ke, .int wo])) (ha : 300 ≤ a) (hF : ∀ k, k ≠ 276 → k ≠ 277 → M k = M0 k) (hP : Pf M tz f) (hz : tz + 5 ≤ 50) (he : e + 6 ≤ 15) (x : Int32) : zCalP (d + 6) 60 [.ref 276, .ref a, .int 5, .int 1, .int x, .int (nI e)] n w M (fun v n' w' M' => v = some (.int (((((x + ke) + ys) + nu) ^^^ 5) * 2)) ∧ n = n' ∧ w = w' ∧ (∀ k, k ≠ 276 → k ≠ 277 → M' k = M0 k) ∧ Pf M' (tz + 5) (app f tz [41, 11, 60, 20, 10])) := by
  have e20 : ¬ (20 : Int32) < nI e := zI_nlt (b := e) (a := 20) (by omega) (by omega)
  have g1 := (hF 1 (by omega) (by omega)).trans h1
  have g2 := (hF 2 (by omega) (by omega)).trans h2
  show zR ztb _ kX7_perform 1 0 [some (.ref 276), some (.ref a), some (.int 5), some (.int 1), some (.int x), some (.int (nI e)), none, none, none, none, none] [] _ _ _ _
  repeat (first | ((with_reducible refine zR.stored ?_); dsimp only [zsto, zclr, zset, zget, zc2, cond_false, cond_true]) | ((with_reducible refine zR.atLit ?_); first | refine zR.step rfl ?_ | refine zR.cs rfl rfl rfl rfl rfl (zCalP.of (kwb_5_1 g1 g2) ?_) | (refine zR.iald rfl g2 (Or.inr rfl) (i := 13) (by decide) (by omega) (by decide) ?_; rw [show bodies 13 = 41 by decide])) | rw [zcc1] | rw [zcc2] | rw [zcc3] | rw [zcc4] | rw [zb1 (by decide)] | rw [zb2 (by decide)] | rw [zb3 (by decide)] | rw [zb4 (by decide)] | rw [zn1 (by decide)] | rw [zn2 (by decide)] | rw [zn3 (by decide)] | rw [zn4 (by decide)] | rw [ze1 (by decide)] | rw [ze2 (by decide)] | rw [zd1 (by decide)] | rw [zd2 (by decide)] | rw [zswy (by decide)] | rw [zswn (by decide)] | rw [zsw0] | rw [zn1 (e20)] | rw [zn2 (e20)] | rw [zn3 (e20)] | rw [zn4 (e20)])
  refine zR.cv rfl rfl rfl hP.1 rfl rfl (zR.mono (c_noteP hF hP (by omega) _) (fun v n1 w1 M1 hv => ?_))
  obtain ⟨rfl, rfl, rfl, hF1, hP1⟩ := hv
  have k1 := (hF1 1 (by omega) (by omega)).trans h1
  have kc1 := (hF1 a (by omega) (by omega)).trans hc
  repeat (first | ((with_reducible refine zR.stored ?_); dsimp only [zsto, zclr, zset, zget, zc2, cond_false, cond_true]) | ((with_reducible refine zR.atLit ?_); first | refine zR.step rfl ?_ | refine zR.getf rfl (kc1) rfl ?_ | (refine zR.iald rfl k1 (Or.inr rfl) (i := 3) rfl (by omega) (by decide) ?_; rw [ab_3])) | rw [zcc1] | rw [zcc2] | rw [zcc3] | rw [zcc4] | rw [zb1 (by decide)] | rw [zb2 (by decide)] | rw [zb3 (by decide)] | rw [zb4 (by decide)] | rw [zn1 (by decide)] | rw [zn2 (by decide)] | rw [zn3 (by decide)] | rw [zn4 (by decide)] | rw [ze1 (by decide)] | rw [ze2 (by decide)] | rw [zd1 (by decide)] | rw [zd2 (by decide)] | rw [zswy (by decide)] | rw [zswn (by decide)] | rw [zsw0])
  try rw [zI_s]
  refine zR.cv rfl rfl rfl hP1.1 rfl rfl (zR.mono (pf_5_1_1 (e := e + 1) h1 h2 hc ha hF1 hP1 (by omega) (by omega) _) (fun v n2 w2 M2 hv => ?_))
  obtain ⟨rfl, rfl, rfl, hF2, hP2⟩ := hv
  have kc2 := (hF2 a (by omega) (by omega)).trans hc
  repeat (first | ((with_reducible refine zR.stored ?_); dsimp only [zsto, zclr, zset, zget, zc2, cond_false, cond_true]) | ((with_reducible refine zR.atLit ?_); first | refine zR.step rfl ?_ | refine zR.getf rfl (kc2) rfl ?_) | rw [zcc1] | rw [zcc2] | rw [zcc3] | rw [zcc4])
  refine zR.ret rfl rfl ⟨rfl, rfl, rfl, hF2, ?_⟩
  rw [app_cat [41] [11, 60, 20, 10] tz (tz + 1) f rfl] at hP2
  exact hP2
theorem pf_5_1_2 {M M0 : zM} {d n w a tz e : Nat} {f : Nat → Int32} {nu nd ys la ke wo : Int32} (h1 : M0 1 = .inl (7, 6, .inl above)) (h2 : M0 2 = .inl (7, 24, .inl bodies)) (hc : M0 a = .inr (1, [.int nu, .int 5, .int nd, .int ys, .int la, .int ke, .int wo])) (ha : 300 ≤ a) (hF : ∀ k, k ≠ 276 → k ≠ 277 → M k = M0 k) (hP : Pf M tz f) (hz : tz + 1 ≤ 50) (he : e + 2 ≤ 15) (x : Int32) : zCalP (d + 2) 60 [.ref 276, .ref a, .int 1, .int 2, .int x, .int (nI e)] n w M (fun v n' w' M' => v = some (.int (x - ke)) ∧ n = n' ∧ w = w' ∧ (∀ k, k ≠ 276 → k ≠ 277 → M' k = M0 k) ∧ Pf M' (tz + 1) (app f tz [12])) := by
  have e20 : ¬ (20 : Int32) < nI e := zI_nlt (b := e) (a := 20) (by omega) (by omega)
  have g1 := (hF 1 (by omega) (by omega)).trans h1
  have g2 := (hF 2 (by omega) (by omega)).trans h2
  show zR ztb _ kX7_perform 1 0 [some (.ref 276), some (.ref a), some (.int 1), some (.int 2), some (.int x), some (.int (nI e)), none, none, none, none, none] [] _ _ _ _
  repeat (first | ((with_reducible refine zR.stored ?_); dsimp only [zsto, zclr, zset, zget, zc2, cond_false, cond_true]) | ((with_reducible refine zR.atLit ?_); first | refine zR.step rfl ?_ | refine zR.cs rfl rfl rfl rfl rfl (zCalP.of (kwb_1_2 g1 g2) ?_) | (refine zR.iald rfl g2 (Or.inr rfl) (i := 2) (by decide) (by omega) (by decide) ?_; rw [show bodies 2 = 12 by decide])) | rw [zcc1] | rw [zcc2] | rw [zcc3] | rw [zcc4] | rw [zb1 (by decide)] | rw [zb2 (by decide)] | rw [zb3 (by decide)] | rw [zb4 (by decide)] | rw [zn1 (by decide)] | rw [zn2 (by decide)] | rw [zn3 (by decide)] | rw [zn4 (by decide)] | rw [ze1 (by decide)] | rw [ze2 (by decide)] | rw [zd1 (by decide)] | rw [zd2 (by decide)] | rw [zswy (by decide)] | rw [zswn (by decide)] | rw [zsw0] | rw [zn1 (e20)] | rw [zn2 (e20)] | rw [zn3 (e20)] | rw [zn4 (e20)])
  refine zR.cv rfl rfl rfl hP.1 rfl rfl (zR.mono (c_noteP hF hP (by omega) _) (fun v n1 w1 M1 hv => ?_))
  obtain ⟨rfl, rfl, rfl, hF1, hP1⟩ := hv
  have k1 := (hF1 1 (by omega) (by omega)).trans h1
  have kc1 := (hF1 a (by omega) (by omega)).trans hc
  repeat (first | ((with_reducible refine zR.stored ?_); dsimp only [zsto, zclr, zset, zget, zc2, cond_false, cond_true]) | ((with_reducible refine zR.atLit ?_); first | refine zR.step rfl ?_ | refine zR.getf rfl (kc1) rfl ?_ | (refine zR.iald rfl k1 (Or.inr rfl) (i := 0) rfl (by omega) (by decide) ?_; rw [ab_0])) | rw [zcc1] | rw [zcc2] | rw [zcc3] | rw [zcc4] | rw [zb1 (by decide)] | rw [zb2 (by decide)] | rw [zb3 (by decide)] | rw [zb4 (by decide)] | rw [zn1 (by decide)] | rw [zn2 (by decide)] | rw [zn3 (by decide)] | rw [zn4 (by decide)] | rw [ze1 (by decide)] | rw [ze2 (by decide)] | rw [zd1 (by decide)] | rw [zd2 (by decide)] | rw [zswy (by decide)] | rw [zswn (by decide)] | rw [zsw0])
  refine zR.ret rfl rfl ⟨rfl, rfl, rfl, hF1, ?_⟩
  exact hP1
theorem pf_5_3_2 {M M0 : zM} {d n w a tz e : Nat} {f : Nat → Int32} {nu nd ys la ke wo : Int32} (h1 : M0 1 = .inl (7, 6, .inl above)) (h2 : M0 2 = .inl (7, 24, .inl bodies)) (hc : M0 a = .inr (1, [.int nu, .int 5, .int nd, .int ys, .int la, .int ke, .int wo])) (ha : 300 ≤ a) (hF : ∀ k, k ≠ 276 → k ≠ 277 → M k = M0 k) (hP : Pf M tz f) (hz : tz + 2 ≤ 50) (he : e + 3 ≤ 15) (x : Int32) : zCalP (d + 3) 60 [.ref 276, .ref a, .int 3, .int 2, .int x, .int (nI e)] n w M (fun v n' w' M' => v = some (.int ((x - ke) * 3)) ∧ n = n' ∧ w = w' ∧ (∀ k, k ≠ 276 → k ≠ 277 → M' k = M0 k) ∧ Pf M' (tz + 2) (app f tz [40, 12])) := by
  have e20 : ¬ (20 : Int32) < nI e := zI_nlt (b := e) (a := 20) (by omega) (by omega)
  have g1 := (hF 1 (by omega) (by omega)).trans h1
  have g2 := (hF 2 (by omega) (by omega)).trans h2
  show zR ztb _ kX7_perform 1 0 [some (.ref 276), some (.ref a), some (.int 3), some (.int 2), some (.int x), some (.int (nI e)), none, none, none, none, none] [] _ _ _ _
  repeat (first | ((with_reducible refine zR.stored ?_); dsimp only [zsto, zclr, zset, zget, zc2, cond_false, cond_true]) | ((with_reducible refine zR.atLit ?_); first | refine zR.step rfl ?_ | refine zR.cs rfl rfl rfl rfl rfl (zCalP.of (kwb_3_2 g1 g2) ?_) | (refine zR.iald rfl g2 (Or.inr rfl) (i := 14) (by decide) (by omega) (by decide) ?_; rw [show bodies 14 = 40 by decide])) | rw [zcc1] | rw [zcc2] | rw [zcc3] | rw [zcc4] | rw [zb1 (by decide)] | rw [zb2 (by decide)] | rw [zb3 (by decide)] | rw [zb4 (by decide)] | rw [zn1 (by decide)] | rw [zn2 (by decide)] | rw [zn3 (by decide)] | rw [zn4 (by decide)] | rw [ze1 (by decide)] | rw [ze2 (by decide)] | rw [zd1 (by decide)] | rw [zd2 (by decide)] | rw [zswy (by decide)] | rw [zswn (by decide)] | rw [zsw0] | rw [zn1 (e20)] | rw [zn2 (e20)] | rw [zn3 (e20)] | rw [zn4 (e20)])
  refine zR.cv rfl rfl rfl hP.1 rfl rfl (zR.mono (c_noteP hF hP (by omega) _) (fun v n1 w1 M1 hv => ?_))
  obtain ⟨rfl, rfl, rfl, hF1, hP1⟩ := hv
  have k1 := (hF1 1 (by omega) (by omega)).trans h1
  have kc1 := (hF1 a (by omega) (by omega)).trans hc
  repeat (first | ((with_reducible refine zR.stored ?_); dsimp only [zsto, zclr, zset, zget, zc2, cond_false, cond_true]) | ((with_reducible refine zR.atLit ?_); first | refine zR.step rfl ?_ | refine zR.getf rfl (kc1) rfl ?_ | (refine zR.iald rfl k1 (Or.inr rfl) (i := 3) rfl (by omega) (by decide) ?_; rw [ab_3])) | rw [zcc1] | rw [zcc2] | rw [zcc3] | rw [zcc4] | rw [zb1 (by decide)] | rw [zb2 (by decide)] | rw [zb3 (by decide)] | rw [zb4 (by decide)] | rw [zn1 (by decide)] | rw [zn2 (by decide)] | rw [zn3 (by decide)] | rw [zn4 (by decide)] | rw [ze1 (by decide)] | rw [ze2 (by decide)] | rw [zd1 (by decide)] | rw [zd2 (by decide)] | rw [zswy (by decide)] | rw [zswn (by decide)] | rw [zsw0])
  try rw [zI_s]
  refine zR.cv rfl rfl rfl hP1.1 rfl rfl (zR.mono (pf_5_1_2 (e := e + 1) h1 h2 hc ha hF1 hP1 (by omega) (by omega) _) (fun v n2 w2 M2 hv => ?_))
  obtain ⟨rfl, rfl, rfl, hF2, hP2⟩ := hv
  have kc2 := (hF2 a (by omega) (by omega)).trans hc
  repeat (first | ((with_reducible refine zR.stored ?_); dsimp only [zsto, zclr, zset, zget, zc2, cond_false, cond_true]) | ((with_reducible refine zR.atLit ?_); first | refine zR.step rfl ?_ | refine zR.getf rfl (kc2) rfl ?_) | rw [zcc1] | rw [zcc2] | rw [zcc3] | rw [zcc4])
  refine zR.ret rfl rfl ⟨rfl, rfl, rfl, hF2, ?_⟩
  rw [app_cat [40] [12] tz (tz + 1) f rfl] at hP2
  exact hP2
theorem pf_5_5_2 {M M0 : zM} {d n w a tz e : Nat} {f : Nat → Int32} {nu nd ys la ke wo : Int32} (h1 : M0 1 = .inl (7, 6, .inl above)) (h2 : M0 2 = .inl (7, 24, .inl bodies)) (hc : M0 a = .inr (1, [.int nu, .int 5, .int nd, .int ys, .int la, .int ke, .int wo])) (ha : 300 ≤ a) (hF : ∀ k, k ≠ 276 → k ≠ 277 → M k = M0 k) (hP : Pf M tz f) (hz : tz + 3 ≤ 50) (he : e + 4 ≤ 15) (x : Int32) : zCalP (d + 4) 60 [.ref 276, .ref a, .int 5, .int 2, .int x, .int (nI e)] n w M (fun v n' w' M' => v = some (.int (((x - 1) - ke) * 3)) ∧ n = n' ∧ w = w' ∧ (∀ k, k ≠ 276 → k ≠ 277 → M' k = M0 k) ∧ Pf M' (tz + 3) (app f tz [61, 40, 12])) := by
  have e20 : ¬ (20 : Int32) < nI e := zI_nlt (b := e) (a := 20) (by omega) (by omega)
  have g1 := (hF 1 (by omega) (by omega)).trans h1
  have g2 := (hF 2 (by omega) (by omega)).trans h2
  show zR ztb _ kX7_perform 1 0 [some (.ref 276), some (.ref a), some (.int 5), some (.int 2), some (.int x), some (.int (nI e)), none, none, none, none, none] [] _ _ _ _
  repeat (first | ((with_reducible refine zR.stored ?_); dsimp only [zsto, zclr, zset, zget, zc2, cond_false, cond_true]) | ((with_reducible refine zR.atLit ?_); first | refine zR.step rfl ?_ | refine zR.cs rfl rfl rfl rfl rfl (zCalP.of (kwb_5_2 g1 g2) ?_) | (refine zR.iald rfl g2 (Or.inr rfl) (i := 22) (by decide) (by omega) (by decide) ?_; rw [show bodies 22 = 61 by decide])) | rw [zcc1] | rw [zcc2] | rw [zcc3] | rw [zcc4] | rw [zb1 (by decide)] | rw [zb2 (by decide)] | rw [zb3 (by decide)] | rw [zb4 (by decide)] | rw [zn1 (by decide)] | rw [zn2 (by decide)] | rw [zn3 (by decide)] | rw [zn4 (by decide)] | rw [ze1 (by decide)] | rw [ze2 (by decide)] | rw [zd1 (by decide)] | rw [zd2 (by decide)] | rw [zswy (by decide)] | rw [zswn (by decide)] | rw [zsw0] | rw [zn1 (e20)] | rw [zn2 (e20)] | rw [zn3 (e20)] | rw [zn4 (e20)])
  refine zR.cv rfl rfl rfl hP.1 rfl rfl (zR.mono (c_noteP hF hP (by omega) _) (fun v n1 w1 M1 hv => ?_))
  obtain ⟨rfl, rfl, rfl, hF1, hP1⟩ := hv
  have k1 := (hF1 1 (by omega) (by omega)).trans h1
  have kc1 := (hF1 a (by omega) (by omega)).trans hc
  repeat (first | ((with_reducible refine zR.stored ?_); dsimp only [zsto, zclr, zset, zget, zc2, cond_false, cond_true]) | ((with_reducible refine zR.atLit ?_); first | refine zR.step rfl ?_ | refine zR.getf rfl (kc1) rfl ?_ | (refine zR.iald rfl k1 (Or.inr rfl) (i := 5) rfl (by omega) (by decide) ?_; rw [ab_5])) | rw [zcc1] | rw [zcc2] | rw [zcc3] | rw [zcc4] | rw [zb1 (by decide)] | rw [zb2 (by decide)] | rw [zb3 (by decide)] | rw [zb4 (by decide)] | rw [zn1 (by decide)] | rw [zn2 (by decide)] | rw [zn3 (by decide)] | rw [zn4 (by decide)] | rw [ze1 (by decide)] | rw [ze2 (by decide)] | rw [zd1 (by decide)] | rw [zd2 (by decide)] | rw [zswy (by decide)] | rw [zswn (by decide)] | rw [zsw0])
  try rw [zI_s]
  refine zR.cv rfl rfl rfl hP1.1 rfl rfl (zR.mono (pf_5_3_2 (e := e + 1) h1 h2 hc ha hF1 hP1 (by omega) (by omega) _) (fun v n2 w2 M2 hv => ?_))
  obtain ⟨rfl, rfl, rfl, hF2, hP2⟩ := hv
  have kc2 := (hF2 a (by omega) (by omega)).trans hc
  repeat (first | ((with_reducible refine zR.stored ?_); dsimp only [zsto, zclr, zset, zget, zc2, cond_false, cond_true]) | ((with_reducible refine zR.atLit ?_); first | refine zR.step rfl ?_ | refine zR.getf rfl (kc2) rfl ?_) | rw [zcc1] | rw [zcc2] | rw [zcc3] | rw [zcc4])
  refine zR.ret rfl rfl ⟨rfl, rfl, rfl, hF2, ?_⟩
  rw [app_cat [61] [40, 12] tz (tz + 1) f rfl] at hP2
  exact hP2
theorem pf_5_0_3 {M M0 : zM} {d n w a tz e : Nat} {f : Nat → Int32} {nu nd ys la ke wo : Int32} (h1 : M0 1 = .inl (7, 6, .inl above)) (h2 : M0 2 = .inl (7, 24, .inl bodies)) (hc : M0 a = .inr (1, [.int nu, .int 5, .int nd, .int ys, .int la, .int ke, .int wo])) (ha : 300 ≤ a) (hF : ∀ k, k ≠ 276 → k ≠ 277 → M k = M0 k) (hP : Pf M tz f) (hz : tz + 9 ≤ 50) (he : e + 7 ≤ 15) (x : Int32) : zCalP (d + 7) 60 [.ref 276, .ref a, .int 0, .int 3, .int x, .int (nI e)] n w M (fun v n' w' M' => v = some (.int ((((((x + ke) + ys) + nu) ^^^ 5) * 2) ^^^ (((x - 1) - ke) * 3))) ∧ n = n' ∧ w = w' ∧ (∀ k, k ≠ 276 → k ≠ 277 → M' k = M0 k) ∧ Pf M' (tz + 9) (app f tz [13, 41, 11, 60, 20, 10, 61, 40, 12])) := by
  have e20 : ¬ (20 : Int32) < nI e := zI_nlt (b := e) (a := 20) (by omega) (by omega)
  have g1 := (hF 1 (by omega) (by omega)).trans h1
  have g2 := (hF 2 (by omega) (by omega)).trans h2
  show zR ztb _ kX7_perform 1 0 [some (.ref 276), some (.ref a), some (.int 0), some (.int 3), some (.int x), some (.int (nI e)), none, none, none, none, none] [] _ _ _ _
  repeat (first | ((with_reducible refine zR.stored ?_); dsimp only [zsto, zclr, zset, zget, zc2, cond_false, cond_true]) | ((with_reducible refine zR.atLit ?_); first | refine zR.step rfl ?_ | refine zR.cs rfl rfl rfl rfl rfl (zCalP.of (kwb_0_3 g1 g2) ?_) | (refine zR.iald rfl g2 (Or.inr rfl) (i := 3) (by decide) (by omega) (by decide) ?_; rw [show bodies 3 = 13 by decide])) | rw [zcc1] | rw [zcc2] | rw [zcc3] | rw [zcc4] | rw [zb1 (by decide)] | rw [zb2 (by decide)] | rw [zb3 (by decide)] | rw [zb4 (by decide)] | rw [zn1 (by decide)] | rw [zn2 (by decide)] | rw [zn3 (by decide)] | rw [zn4 (by decide)] | rw [ze1 (by decide)] | rw [ze2 (by decide)] | rw [zd1 (by decide)] | rw [zd2 (by decide)] | rw [zswy (by decide)] | rw [zswn (by decide)] | rw [zsw0] | rw [zn1 (e20)] | rw [zn2 (e20)] | rw [zn3 (e20)] | rw [zn4 (e20)])
  refine zR.cv rfl rfl rfl hP.1 rfl rfl (zR.mono (c_noteP hF hP (by omega) _) (fun v n1 w1 M1 hv => ?_))
  obtain ⟨rfl, rfl, rfl, hF1, hP1⟩ := hv
  have k1 := (hF1 1 (by omega) (by omega)).trans h1
  have kc1 := (hF1 a (by omega) (by omega)).trans hc
  repeat (first | ((with_reducible refine zR.stored ?_); dsimp only [zsto, zclr, zset, zget, zc2, cond_false, cond_true]) | ((with_reducible refine zR.atLit ?_); first | refine zR.step rfl ?_ | refine zR.getf rfl (kc1) rfl ?_ | (refine zR.iald rfl k1 (Or.inr rfl) (i := 0) rfl (by omega) (by decide) ?_; rw [ab_0])) | rw [zcc1] | rw [zcc2] | rw [zcc3] | rw [zcc4] | rw [zb1 (by decide)] | rw [zb2 (by decide)] | rw [zb3 (by decide)] | rw [zb4 (by decide)] | rw [zn1 (by decide)] | rw [zn2 (by decide)] | rw [zn3 (by decide)] | rw [zn4 (by decide)] | rw [ze1 (by decide)] | rw [ze2 (by decide)] | rw [zd1 (by decide)] | rw [zd2 (by decide)] | rw [zswy (by decide)] | rw [zswn (by decide)] | rw [zsw0])
  try rw [zI_s]
  refine zR.cv rfl rfl rfl hP1.1 rfl rfl (zR.mono (pf_5_5_1 (e := e + 1) h1 h2 hc ha hF1 hP1 (by omega) (by omega) _) (fun v n2 w2 M2 hv => ?_))
  obtain ⟨rfl, rfl, rfl, hF2, hP2⟩ := hv
  have kc2 := (hF2 a (by omega) (by omega)).trans hc
  repeat (first | ((with_reducible refine zR.stored ?_); dsimp only [zsto, zclr, zset, zget, zc2, cond_false, cond_true]) | ((with_reducible refine zR.atLit ?_); first | refine zR.step rfl ?_ | refine zR.getf rfl (kc2) rfl ?_) | rw [zcc1] | rw [zcc2] | rw [zcc3] | rw [zcc4])
  refine zR.cv rfl rfl rfl hP2.1 rfl rfl (zR.mono (pf_5_5_2 (e := e + 1) h1 h2 hc ha hF2 hP2 (by omega) (by omega) _) (fun v n3 w3 M3 hv => ?_))
  obtain ⟨rfl, rfl, rfl, hF3, hP3⟩ := hv
  have kc3 := (hF3 a (by omega) (by omega)).trans hc
  repeat (first | ((with_reducible refine zR.stored ?_); dsimp only [zsto, zclr, zset, zget, zc2, cond_false, cond_true]) | ((with_reducible refine zR.atLit ?_); first | refine zR.step rfl ?_ | refine zR.getf rfl (kc3) rfl ?_) | rw [zcc1] | rw [zcc2] | rw [zcc3] | rw [zcc4])
  refine zR.ret rfl rfl ⟨rfl, rfl, rfl, hF3, ?_⟩
  rw [app_cat [13] [41, 11, 60, 20, 10] tz (tz + 1) f rfl, app_cat ([13] ++ [41, 11, 60, 20, 10]) [61, 40, 12] tz (tz + 1 + 5) f rfl] at hP3
  exact hP3
theorem pf_5_5_3 {M M0 : zM} {d n w a tz e : Nat} {f : Nat → Int32} {nu nd ys la ke wo : Int32} (h1 : M0 1 = .inl (7, 6, .inl above)) (h2 : M0 2 = .inl (7, 24, .inl bodies)) (hc : M0 a = .inr (1, [.int nu, .int 5, .int nd, .int ys, .int la, .int ke, .int wo])) (ha : 300 ≤ a) (hF : ∀ k, k ≠ 276 → k ≠ 277 → M k = M0 k) (hP : Pf M tz f) (hz : tz + 10 ≤ 50) (he : e + 8 ≤ 15) (x : Int32) : zCalP (d + 8) 60 [.ref 276, .ref a, .int 5, .int 3, .int x, .int (nI e)] n w M (fun v n' w' M' => v = some (.int (((((((x + 1) + ke) + ys) + nu) ^^^ 5) * 2) ^^^ ((((x + 1) - 1) - ke) * 3))) ∧ n = n' ∧ w = w' ∧ (∀ k, k ≠ 276 → k ≠ 277 → M' k = M0 k) ∧ Pf M' (tz + 10) (app f tz [21, 13, 41, 11, 60, 20, 10, 61, 40, 12])) := by
  have e20 : ¬ (20 : Int32) < nI e := zI_nlt (b := e) (a := 20) (by omega) (by omega)
  have g1 := (hF 1 (by omega) (by omega)).trans h1
  have g2 := (hF 2 (by omega) (by omega)).trans h2
  show zR ztb _ kX7_perform 1 0 [some (.ref 276), some (.ref a), some (.int 5), some (.int 3), some (.int x), some (.int (nI e)), none, none, none, none, none] [] _ _ _ _
  repeat (first | ((with_reducible refine zR.stored ?_); dsimp only [zsto, zclr, zset, zget, zc2, cond_false, cond_true]) | ((with_reducible refine zR.atLit ?_); first | refine zR.step rfl ?_ | refine zR.cs rfl rfl rfl rfl rfl (zCalP.of (kwb_5_3 g1 g2) ?_) | (refine zR.iald rfl g2 (Or.inr rfl) (i := 7) (by decide) (by omega) (by decide) ?_; rw [show bodies 7 = 21 by decide])) | rw [zcc1] | rw [zcc2] | rw [zcc3] | rw [zcc4] | rw [zb1 (by decide)] | rw [zb2 (by decide)] | rw [zb3 (by decide)] | rw [zb4 (by decide)] | rw [zn1 (by decide)] | rw [zn2 (by decide)] | rw [zn3 (by decide)] | rw [zn4 (by decide)] | rw [ze1 (by decide)] | rw [ze2 (by decide)] | rw [zd1 (by decide)] | rw [zd2 (by decide)] | rw [zswy (by decide)] | rw [zswn (by decide)] | rw [zsw0] | rw [zn1 (e20)] | rw [zn2 (e20)] | rw [zn3 (e20)] | rw [zn4 (e20)])
  refine zR.cv rfl rfl rfl hP.1 rfl rfl (zR.mono (c_noteP hF hP (by omega) _) (fun v n1 w1 M1 hv => ?_))
  obtain ⟨rfl, rfl, rfl, hF1, hP1⟩ := hv
  have k1 := (hF1 1 (by omega) (by omega)).trans h1
  have kc1 := (hF1 a (by omega) (by omega)).trans hc
  repeat (first | ((with_reducible refine zR.stored ?_); dsimp only [zsto, zclr, zset, zget, zc2, cond_false, cond_true]) | ((with_reducible refine zR.atLit ?_); first | refine zR.step rfl ?_ | refine zR.getf rfl (kc1) rfl ?_ | (refine zR.iald rfl k1 (Or.inr rfl) (i := 1) rfl (by omega) (by decide) ?_; rw [ab_1])) | rw [zcc1] | rw [zcc2] | rw [zcc3] | rw [zcc4] | rw [zb1 (by decide)] | rw [zb2 (by decide)] | rw [zb3 (by decide)] | rw [zb4 (by decide)] | rw [zn1 (by decide)] | rw [zn2 (by decide)] | rw [zn3 (by decide)] | rw [zn4 (by decide)] | rw [ze1 (by decide)] | rw [ze2 (by decide)] | rw [zd1 (by decide)] | rw [zd2 (by decide)] | rw [zswy (by decide)] | rw [zswn (by decide)] | rw [zsw0])
  try rw [zI_s]
  refine zR.cv rfl rfl rfl hP1.1 rfl rfl (zR.mono (pf_5_0_3 (e := e + 1) h1 h2 hc ha hF1 hP1 (by omega) (by omega) _) (fun v n2 w2 M2 hv => ?_))
  obtain ⟨rfl, rfl, rfl, hF2, hP2⟩ := hv
  have kc2 := (hF2 a (by omega) (by omega)).trans hc
  repeat (first | ((with_reducible refine zR.stored ?_); dsimp only [zsto, zclr, zset, zget, zc2, cond_false, cond_true]) | ((with_reducible refine zR.atLit ?_); first | refine zR.step rfl ?_ | refine zR.getf rfl (kc2) rfl ?_) | rw [zcc1] | rw [zcc2] | rw [zcc3] | rw [zcc4])
  refine zR.ret rfl rfl ⟨rfl, rfl, rfl, hF2, ?_⟩
  rw [app_cat [21] [13, 41, 11, 60, 20, 10, 61, 40, 12] tz (tz + 1) f rfl] at hP2
  exact hP2
