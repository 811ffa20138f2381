/-! ONE STEP. -/
section ZI
variable {p : Program} {l : Launch} {e : Env} {R : Room} {s : State} {m : MethodId} {args : Array Value} {below : List Frame} {meth : Method} {c : Code} {H : Heap} {locs : List Loc} {cells slots : Nat} {Q : State → Prop}
variable {r : Nat → Nat} {fm : Value} {D : va_G} {cA : Nat → ClassId} {H0 : Heap} {X : Nat → zC} {inf : Nat → zinf} {tb : Nat → zMt} {ny y d : Nat}
variable {pc nx r1 r2 r3 li : Nat} {v : Value} {sw : List (Int32 × Nat)} {L L' : zL} {st st' : List Value} {n w n' w' pc' : Nat} {M M' : zM} {ls : Array Slot}
theorem zi_all {e0 : zI} (C : zCx r fm D cA H0 X inf tb y d p R s m args meth c) (h : zchk inf tb ny y pc e0 = true) (hz : zst e0 L st n w M = some (pc', L', st', n', w', M')) (S : zSt r fm D cA H0 X (tb y).2.1 ls H locs L n M) (hR : cells + (n' - n) ≤ R.cells ∧ slots + (w' - w) ≤ R.slots)
    (kk : ∀ (ls' : Array Slot) (H' : Heap) (locs' : List Loc), zSt r fm D cA H0 X (tb y).2.1 ls' H' locs' L' n' M' → W p l e R s m args below meth c H' locs' (cells + (n' - n)) (slots + (w' - w)) Q (F0 m pc' ls' (st'.map (zv r fm)))) : W p l e R s m args below meth c H locs cells slots Q (F0 m pc ls (st.map (zv r fm))) := by
  obtain ⟨i, nx, r1, r2, r3, li, v, sw⟩ := e0
  cases i
  case aconst_null => exact zi_aconst_null C h hz S kk
  case iconst => exact zi_iconst C h hz S kk
  case bipush => exact zi_bipush C h hz S kk
  case sipush => exact zi_sipush C h hz S kk
  case lconst => exact zi_lconst C h hz S kk
  case ldc => exact zi_ldc C h hz S kk
  case ldc_w => exact zi_ldc_w C h hz S kk
  case ldc2_w => exact zi_ldc2_w C h hz S kk
  case getstatic => exact zi_getstatic C h hz S kk
  case iload => exact zi_iload C h hz S kk
  case iload_n => exact zi_iload_n C h hz S kk
  case lload => exact zi_lload C h hz S kk
  case lload_n => exact zi_lload_n C h hz S kk
  case aload => exact zi_aload C h hz S kk
  case aload_n => exact zi_aload_n C h hz S kk
  case istore => exact zi_istore C h hz S kk
  case istore_n => exact zi_istore_n C h hz S kk
  case lstore => exact zi_lstore C h hz S kk
  case lstore_n => exact zi_lstore_n C h hz S kk
  case astore => exact zi_astore C h hz S kk
  case astore_n => exact zi_astore_n C h hz S kk
  case iinc => exact zi_iinc C h hz S kk
  case iadd => exact zi_iadd C h hz S kk
  case isub => exact zi_isub C h hz S kk
  case imul => exact zi_imul C h hz S kk
  case idiv => exact zi_idiv C h hz S kk
  case irem => exact zi_irem C h hz S kk
  case ineg => exact zi_ineg C h hz S kk
  case iand => exact zi_iand C h hz S kk
  case ior => exact zi_ior C h hz S kk
  case ixor => exact zi_ixor C h hz S kk
  case ishl => exact zi_ishl C h hz S kk
  case ishr => exact zi_ishr C h hz S kk
  case land => exact zi_land C h hz S kk
  case lor => exact zi_lor C h hz S kk
  case lxor => exact zi_lxor C h hz S kk
  case lshl => exact zi_lshl C h hz S kk
  case lshr => exact zi_lshr C h hz S kk
  case lushr => exact zi_lushr C h hz S kk
  case lcmp => exact zi_lcmp C h hz S kk
  case i2l => exact zi_i2l C h hz S kk
  case l2i => exact zi_l2i C h hz S kk
  case i2b => exact zi_i2b C h hz S kk
  case i2c => exact zi_i2c C h hz S kk
  case dup => exact zi_dup C h hz S kk
  case dup2 => exact zi_dup2 C h hz S kk
  case pop => exact zi_pop C h hz S kk
  case goto => exact zi_goto C h hz S kk
  case ifCond => exact zi_ifCond C h hz S kk
  case if_icmp => exact zi_if_icmp C h hz S kk
  case ifnull => exact zi_ifnull C h hz S kk
  case ifnonnull => exact zi_ifnonnull C h hz S kk
  case tableswitch => exact zi_tableswitch C h hz S kk
  case lookupswitch => exact zi_lookupswitch C h hz S kk
  case getfield => exact zi_getfield C h hz S kk
  case putfield => exact zi_putfield C h hz S kk
  case iaload => exact zi_iaload C h hz S kk
  case baload => exact zi_baload C h hz S kk
  case aaload => exact zi_aaload C h hz S kk
  case iastore => exact zi_iastore C h hz S kk
  case bastore => exact zi_bastore C h hz S kk
  case aastore => exact zi_aastore C h hz S kk
  case arraylength => exact zi_arraylength C h hz S kk
  case checkcast => exact zi_checkcast C h hz S kk
  case newarray => exact zi_newarray C h hz S hR kk
  case anewarray => exact zi_anewarray C h hz S hR kk
  case new => exact zi_new C h hz S hR kk
  case invokespecial =>
    by_cases h9 : r3 = 9
    · exact zi_objinit h9 C h hz S kk
    · exfalso
      dsimp only [zst] at hz
      split at hz
      · exact h9 rfl
      · cases hz
  case invokestatic =>
    by_cases h9 : r3 = 8
    · exact zi_arraycopy h9 C h hz S kk
    · exfalso
      dsimp only [zst] at hz
      split at hz
      · exact h9 rfl
      · cases hz
  case invokevirtual =>
    by_cases h9 : r3 = 7
    · exact zi_clone h9 C h hz S hR kk
    · exfalso
      dsimp only [zst] at hz
      split at hz
      · exact h9 rfl
      · cases hz
  all_goals (exfalso; dsimp only [zst] at hz; cases hz)
end ZI
theorem zmono1 {nx r1 r2 r3 : Nat} {L L' : zL} {st st' : List Value} {n w n' w' pc' a : Nat} {M M' : zM} {c : zC} {u : Value} {j x dp sp : Int32} {b : Nat} {c2 : zC} :
    (zldi nx r1 L st n w M = some (pc', L', st', n', w', M') → n ≤ n' ∧ w ≤ w') ∧ (zldl nx r1 L st n w M = some (pc', L', st', n', w', M') → n ≤ n' ∧ w ≤ w') ∧ (zlda nx r1 L st n w M = some (pc', L', st', n', w', M') → n ≤ n' ∧ w ≤ w') ∧ (zsti nx r1 L st n w M = some (pc', L', st', n', w', M') → n ≤ n' ∧ w ≤ w') ∧ (zstl nx r1 L st n w M = some (pc', L', st', n', w', M') → n ≤ n' ∧ w ≤ w') ∧ (zsta nx r1 L st n w M = some (pc', L', st', n', w', M') → n ≤ n' ∧ w ≤ w') := by
  refine ⟨?_, ?_, ?_, ?_, ?_, ?_⟩ <;> intro h
  · unfold zldi at h; split at h <;> cases h; exact ⟨Nat.le_refl _, Nat.le_refl _⟩
  · unfold zldl at h; split at h <;> cases h; exact ⟨Nat.le_refl _, Nat.le_refl _⟩
  · unfold zlda at h; split at h <;> cases h <;> exact ⟨Nat.le_refl _, Nat.le_refl _⟩
  · unfold zsti at h; split at h <;> cases h; exact ⟨Nat.le_refl _, Nat.le_refl _⟩
  · unfold zstl at h; split at h <;> cases h; exact ⟨Nat.le_refl _, Nat.le_refl _⟩
  · unfold zsta at h; split at h <;> cases h <;> exact ⟨Nat.le_refl _, Nat.le_refl _⟩
theorem zmono_gf {nx r1 r2 : Nat} {L L' : zL} {q st' : List Value} {n w n' w' pc' : Nat} {M M' : zM} {c : zC} (h : zgf nx r1 r2 L q n w M c = some (pc', L', st', n', w', M')) : n ≤ n' ∧ w ≤ w' := by
  unfold zgf at h
  split at h
  · rename_i ci fs
    cases hb : Nat.beq ci r1 <;> rw [hb] at h
    · cases h
    · rw [cond_true] at h
      split at h <;> cases h
      exact ⟨Nat.le_refl _, Nat.le_refl _⟩
  · cases h
theorem zmono_pf {nx r1 r2 r3 a : Nat} {u : Value} {L L' : zL} {q st' : List Value} {n w n' w' pc' : Nat} {M M' : zM} {c : zC} (h : zpf nx r1 r2 r3 L u a q n w M c = some (pc', L', st', n', w', M')) : n ≤ n' ∧ w ≤ w' := by
  unfold zpf at h
  split at h
  · rename_i ci fs
    cases hb : (Nat.beq ci r1 && (zfit r3 u && Nat.blt r2 fs.length)) <;> rw [hb] at h
    · cases h
    · cases h
      exact ⟨Nat.le_refl _, Nat.le_refl _⟩
  · cases h
theorem zmono {e0 : zI} {L L' : zL} {st st' : List Value} {n w n' w' pc' : Nat} {M M' : zM} (hz : zst e0 L st n w M = some (pc', L', st', n', w', M')) : n ≤ n' ∧ w ≤ w' := by
  obtain ⟨i, nx, r1, r2, r3, li, v, sw⟩ := e0
  cases i
  case aconst_null => dsimp only [zst] at hz; cases hz; exact ⟨Nat.le_refl _, Nat.le_refl _⟩
  case iconst => dsimp only [zst] at hz; cases hz; exact ⟨Nat.le_refl _, Nat.le_refl _⟩
  case bipush => dsimp only [zst] at hz; cases hz; exact ⟨Nat.le_refl _, Nat.le_refl _⟩
  case sipush => dsimp only [zst] at hz; cases hz; exact ⟨Nat.le_refl _, Nat.le_refl _⟩
  case lconst => dsimp only [zst] at hz; cases hz; exact ⟨Nat.le_refl _, Nat.le_refl _⟩
  case ldc => dsimp only [zst] at hz; cases hz; exact ⟨Nat.le_refl _, Nat.le_refl _⟩
  case ldc_w => dsimp only [zst] at hz; cases hz; exact ⟨Nat.le_refl _, Nat.le_refl _⟩
  case ldc2_w => dsimp only [zst] at hz; cases hz; exact ⟨Nat.le_refl _, Nat.le_refl _⟩
  case getstatic => dsimp only [zst] at hz; cases hz; exact ⟨Nat.le_refl _, Nat.le_refl _⟩
  case goto => dsimp only [zst] at hz; cases hz; exact ⟨Nat.le_refl _, Nat.le_refl _⟩
  case iload => exact (zmono1 (r2 := 0) (r3 := 0) (a := 0) (b := 0) (c := zabs) (c2 := zabs) (u := .null) (j := 0) (x := 0) (dp := 0) (sp := 0)).1 hz
  case iload_n => exact (zmono1 (r2 := 0) (r3 := 0) (a := 0) (b := 0) (c := zabs) (c2 := zabs) (u := .null) (j := 0) (x := 0) (dp := 0) (sp := 0)).1 hz
  case lload => exact (zmono1 (r2 := 0) (r3 := 0) (a := 0) (b := 0) (c := zabs) (c2 := zabs) (u := .null) (j := 0) (x := 0) (dp := 0) (sp := 0)).2.1 hz
  case lload_n => exact (zmono1 (r2 := 0) (r3 := 0) (a := 0) (b := 0) (c := zabs) (c2 := zabs) (u := .null) (j := 0) (x := 0) (dp := 0) (sp := 0)).2.1 hz
  case aload => exact (zmono1 (r2 := 0) (r3 := 0) (a := 0) (b := 0) (c := zabs) (c2 := zabs) (u := .null) (j := 0) (x := 0) (dp := 0) (sp := 0)).2.2.1 hz
  case aload_n => exact (zmono1 (r2 := 0) (r3 := 0) (a := 0) (b := 0) (c := zabs) (c2 := zabs) (u := .null) (j := 0) (x := 0) (dp := 0) (sp := 0)).2.2.1 hz
  case istore => exact (zmono1 (r2 := 0) (r3 := 0) (a := 0) (b := 0) (c := zabs) (c2 := zabs) (u := .null) (j := 0) (x := 0) (dp := 0) (sp := 0)).2.2.2.1 hz
  case istore_n => exact (zmono1 (r2 := 0) (r3 := 0) (a := 0) (b := 0) (c := zabs) (c2 := zabs) (u := .null) (j := 0) (x := 0) (dp := 0) (sp := 0)).2.2.2.1 hz
  case lstore => exact (zmono1 (r2 := 0) (r3 := 0) (a := 0) (b := 0) (c := zabs) (c2 := zabs) (u := .null) (j := 0) (x := 0) (dp := 0) (sp := 0)).2.2.2.2.1 hz
  case lstore_n => exact (zmono1 (r2 := 0) (r3 := 0) (a := 0) (b := 0) (c := zabs) (c2 := zabs) (u := .null) (j := 0) (x := 0) (dp := 0) (sp := 0)).2.2.2.2.1 hz
  case astore => exact (zmono1 (r2 := 0) (r3 := 0) (a := 0) (b := 0) (c := zabs) (c2 := zabs) (u := .null) (j := 0) (x := 0) (dp := 0) (sp := 0)).2.2.2.2.2 hz
  case astore_n => exact (zmono1 (r2 := 0) (r3 := 0) (a := 0) (b := 0) (c := zabs) (c2 := zabs) (u := .null) (j := 0) (x := 0) (dp := 0) (sp := 0)).2.2.2.2.2 hz
  case iinc => dsimp only [zst] at hz; split at hz <;> cases hz <;> exact ⟨Nat.le_refl _, Nat.le_refl _⟩
  case iadd => dsimp only [zst] at hz; split at hz <;> cases hz <;> exact ⟨Nat.le_refl _, Nat.le_refl _⟩
  case isub => dsimp only [zst] at hz; split at hz <;> cases hz <;> exact ⟨Nat.le_refl _, Nat.le_refl _⟩
  case imul => dsimp only [zst] at hz; split at hz <;> cases hz <;> exact ⟨Nat.le_refl _, Nat.le_refl _⟩
  case ineg => dsimp only [zst] at hz; split at hz <;> cases hz <;> exact ⟨Nat.le_refl _, Nat.le_refl _⟩
  case iand => dsimp only [zst] at hz; split at hz <;> cases hz <;> exact ⟨Nat.le_refl _, Nat.le_refl _⟩
  case ior => dsimp only [zst] at hz; split at hz <;> cases hz <;> exact ⟨Nat.le_refl _, Nat.le_refl _⟩
  case ixor => dsimp only [zst] at hz; split at hz <;> cases hz <;> exact ⟨Nat.le_refl _, Nat.le_refl _⟩
  case ishl => dsimp only [zst] at hz; split at hz <;> cases hz <;> exact ⟨Nat.le_refl _, Nat.le_refl _⟩
  case ishr => dsimp only [zst] at hz; split at hz <;> cases hz <;> exact ⟨Nat.le_refl _, Nat.le_refl _⟩
  case land => dsimp only [zst] at hz; split at hz <;> cases hz <;> exact ⟨Nat.le_refl _, Nat.le_refl _⟩
  case lor => dsimp only [zst] at hz; split at hz <;> cases hz <;> exact ⟨Nat.le_refl _, Nat.le_refl _⟩
  case lxor => dsimp only [zst] at hz; split at hz <;> cases hz <;> exact ⟨Nat.le_refl _, Nat.le_refl _⟩
  case lshl => dsimp only [zst] at hz; split at hz <;> cases hz <;> exact ⟨Nat.le_refl _, Nat.le_refl _⟩
  case lshr => dsimp only [zst] at hz; split at hz <;> cases hz <;> exact ⟨Nat.le_refl _, Nat.le_refl _⟩
  case lushr => dsimp only [zst] at hz; split at hz <;> cases hz <;> exact ⟨Nat.le_refl _, Nat.le_refl _⟩
  case lcmp => dsimp only [zst] at hz; split at hz <;> cases hz <;> exact ⟨Nat.le_refl _, Nat.le_refl _⟩
  case i2l => dsimp only [zst] at hz; split at hz <;> cases hz <;> exact ⟨Nat.le_refl _, Nat.le_refl _⟩
  case l2i => dsimp only [zst] at hz; split at hz <;> cases hz <;> exact ⟨Nat.le_refl _, Nat.le_refl _⟩
  case i2b => dsimp only [zst] at hz; split at hz <;> cases hz <;> exact ⟨Nat.le_refl _, Nat.le_refl _⟩
  case i2c => dsimp only [zst] at hz; split at hz <;> cases hz <;> exact ⟨Nat.le_refl _, Nat.le_refl _⟩
  case dup => dsimp only [zst] at hz; split at hz <;> cases hz <;> exact ⟨Nat.le_refl _, Nat.le_refl _⟩
  case dup2 => dsimp only [zst] at hz; split at hz <;> cases hz <;> exact ⟨Nat.le_refl _, Nat.le_refl _⟩
  case pop => dsimp only [zst] at hz; split at hz <;> cases hz <;> exact ⟨Nat.le_refl _, Nat.le_refl _⟩
  case ifCond => dsimp only [zst] at hz; split at hz <;> cases hz <;> exact ⟨Nat.le_refl _, Nat.le_refl _⟩
  case if_icmp => dsimp only [zst] at hz; split at hz <;> cases hz <;> exact ⟨Nat.le_refl _, Nat.le_refl _⟩
  case ifnull => dsimp only [zst] at hz; split at hz <;> cases hz <;> exact ⟨Nat.le_refl _, Nat.le_refl _⟩
  case ifnonnull => dsimp only [zst] at hz; split at hz <;> cases hz <;> exact ⟨Nat.le_refl _, Nat.le_refl _⟩
  case tableswitch => dsimp only [zst] at hz; split at hz <;> cases hz <;> exact ⟨Nat.le_refl _, Nat.le_refl _⟩
  case lookupswitch => dsimp only [zst] at hz; split at hz <;> cases hz <;> exact ⟨Nat.le_refl _, Nat.le_refl _⟩
  case idiv => dsimp only [zst] at hz; split at hz <;> first | (split at hz <;> cases hz <;> exact ⟨Nat.le_refl _, Nat.le_refl _⟩) | cases hz
  case irem => dsimp only [zst] at hz; split at hz <;> first | (split at hz <;> cases hz <;> exact ⟨Nat.le_refl _, Nat.le_refl _⟩) | cases hz
  case getfield => dsimp only [zst] at hz; split at hz <;> first | exact zmono_gf hz | cases hz
  case putfield => dsimp only [zst] at hz; split at hz <;> first | exact zmono_pf hz | cases hz
  case iaload => dsimp only [zst] at hz; split at hz <;> first | (unfold zald at hz; split at hz <;> first | (split at hz <;> cases hz <;> exact ⟨Nat.le_refl _, Nat.le_refl _⟩) | cases hz) | cases hz
  case baload => dsimp only [zst] at hz; split at hz <;> first | (unfold zbld at hz; split at hz <;> first | (split at hz <;> cases hz <;> exact ⟨Nat.le_refl _, Nat.le_refl _⟩) | cases hz) | cases hz
  case aaload => dsimp only [zst] at hz; split at hz <;> first | (unfold zqld at hz; split at hz <;> first | (split at hz <;> cases hz <;> exact ⟨Nat.le_refl _, Nat.le_refl _⟩) | cases hz) | cases hz
  case iastore => dsimp only [zst] at hz; split at hz <;> first | (unfold zast at hz; split at hz <;> first | (split at hz <;> cases hz <;> exact ⟨Nat.le_refl _, Nat.le_refl _⟩) | cases hz) | cases hz
  case bastore => dsimp only [zst] at hz; split at hz <;> first | (unfold zbst at hz; split at hz <;> first | (split at hz <;> cases hz <;> exact ⟨Nat.le_refl _, Nat.le_refl _⟩) | cases hz) | cases hz
  case aastore => dsimp only [zst] at hz; split at hz <;> first | (unfold zqst at hz; split at hz <;> first | (split at hz <;> cases hz <;> exact ⟨Nat.le_refl _, Nat.le_refl _⟩) | cases hz) | (unfold zqsn at hz; split at hz <;> first | (split at hz <;> cases hz <;> exact ⟨Nat.le_refl _, Nat.le_refl _⟩) | cases hz) | cases hz
  case arraylength => dsimp only [zst] at hz; split at hz <;> first | (unfold zlen at hz; split at hz <;> cases hz <;> exact ⟨Nat.le_refl _, Nat.le_refl _⟩) | cases hz
  case checkcast => dsimp only [zst] at hz; split at hz <;> first | (unfold zcst at hz; split at hz <;> cases hz <;> exact ⟨Nat.le_refl _, Nat.le_refl _⟩) | cases hz
  case newarray => dsimp only [zst] at hz; split at hz <;> first | (split at hz <;> cases hz <;> exact ⟨Nat.le_succ _, Nat.le_add_right _ _⟩) | cases hz
  case anewarray => dsimp only [zst] at hz; split at hz <;> first | (split at hz <;> cases hz <;> exact ⟨Nat.le_succ _, Nat.le_add_right _ _⟩) | cases hz
  case new => dsimp only [zst] at hz; cases hz; exact ⟨Nat.le_succ _, Nat.le_add_right _ _⟩
  case invokespecial =>
    dsimp only [zst] at hz
    split at hz
    · rename_i a q
      cases hb : Nat.ble (zdp q) 8 <;> rw [hb] at hz
      · cases hz
      · rw [cond_true] at hz
        cases hz; exact ⟨Nat.le_refl _, Nat.le_refl _⟩
    · cases hz
  case invokestatic =>
    dsimp only [zst] at hz
    split at hz
    · rename_i q
      cases hb : Nat.ble (zdp q) 8 <;> rw [hb] at hz
      · cases hz
      · rw [cond_true] at hz
        unfold zcpy at hz; split at hz <;> first | (split at hz <;> cases hz <;> exact ⟨Nat.le_refl _, Nat.le_refl _⟩) | cases hz
    · cases hz
  case invokevirtual =>
    dsimp only [zst] at hz
    split at hz
    · rename_i a q
      cases hb : Nat.ble (zdp q) 8 <;> rw [hb] at hz
      · cases hz
      · rw [cond_true] at hz
        unfold zcln at hz; split at hz <;> cases hz; exact ⟨Nat.le_succ _, Nat.le_add_right _ _⟩
    · cases hz
  all_goals (exfalso; dsimp only [zst] at hz; cases hz)

