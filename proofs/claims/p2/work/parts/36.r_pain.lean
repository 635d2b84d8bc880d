/-! ===== regions (printed by program): pa_.* ===== -/
set_option maxRecDepth 100000
theorem xr_pa_advance {d : Nat} {l1 : Int} {m : w_M} {Q : Int → w_M → Prop} (h : if l1 = (w_32 l1) then (xc_pa_give d 65536 0 0 65536 (w_32 l1) 0 m (fun r1 m1 => xc_pa_multiply d 412 410 410 m1 (fun r2 m2 => (r2 = 0 ∨ r2 = 1) ∧ Q r2 m2))) else (Q 0 m)) : xc_pa_advance (d + 1) l1 m Q := by
  refine w_enter (q := 0) (lv := [some (2, 404), some (1, l1), none]) rfl rfl rfl ?_
  refine w_lload_n rfl rfl ?_
  refine w_lload_n rfl rfl ?_
  refine w_l2i rfl ?_
  refine w_i2l rfl ?_
  refine w_lceq rfl rfl (w_ite h (fun h => ?_) (fun h => ?_))
  · refine w_aload_n rfl rfl ?_
    refine w_ldc (a := 65536) rfl (by decide +kernel) (by decide) ?_
    refine w_iconst rfl (by decide) ?_
    refine w_iconst rfl (by decide) ?_
    refine w_ldc (a := 65536) rfl (by decide +kernel) (by decide) ?_
    refine w_lload_n rfl rfl ?_
    refine w_l2i rfl ?_
    refine w_iconst rfl (by decide) ?_
    refine w_callV (t' := 3) [(0, 0), (0, w_32 l1), (0, 65536), (0, 0), (0, 0), (0, 65536)] [] rfl s_404 rfl rfl ?_
    refine w_C.more (Q := fun r1 m1 => _) h (fun r1 m1 h => ?_)
    replace h := id h
    refine w_aload_n rfl rfl ?_
    refine w_gfC (c := 412) rfl s_404 rfl rfl ?_
    refine w_aload_n rfl rfl ?_
    refine w_gfC (c := 410) rfl s_404 rfl rfl ?_
    refine w_aload_n rfl rfl ?_
    refine w_gfC (c := 410) rfl s_404 rfl rfl ?_
    refine w_callS (t' := 0) [(2, 410), (2, 410), (2, 412)] [] rfl (by decide) rfl rfl ?_
    refine w_C.more (Q := fun r2 m2 => _) h (fun r2 m2 h => ?_)
    replace h := id h
    exact w_zret rfl rfl h.1 h.2
  · refine w_iconst rfl (by decide) ?_
    exact w_zret rfl rfl (by decide) h
theorem xr_pa_areNumbers {d : Nat} {l1 : Int} {m : w_M} {Q : Int → w_M → Prop} (h : xp_pa_areNumbers_2 d l1 0 m Q) : xc_pa_areNumbers (d + 1) l1 m Q := by
  refine w_enter (q := 1) (lv := [some (2, 404), some (0, l1), none]) rfl rfl rfl ?_
  refine w_iconst rfl (by decide) ?_
  refine w_istore_n (lv' := [some (2, 404), some (0, l1), some (0, 0)]) rfl rfl rfl ?_
  exact w_W.less h (w_sub [true, true, true] rfl)
theorem xr_pa_areNumbers_2 {d : Nat} {l1 l2 : Int} {m : w_M} {Q : Int → w_M → Prop} (h : if l2 < (m 404 14) then (xc_pa_operand d l2 m (fun r1 m1 => xc_st_isNumber d r1 m1 (fun r2 m2 => if r2 = 0 then (Q 0 m2) else (xp_pa_areNumbers_2 d l1 (w_32 (l2 + 1)) m2 Q)))) else (if (m 404 14) = l1 then (Q 1 m) else (Q 0 m))) : xp_pa_areNumbers_2 d l1 l2 m Q := by
  refine w_iload_n rfl rfl ?_
  refine w_aload_n rfl rfl ?_
  refine x_gfI rfl s_404 rfl (kk := 14) rfl rfl ?_
  refine w_icge rfl (w_ite h (fun h => ?_) (fun h => ?_))
  · refine w_aload_n rfl rfl ?_
    refine w_gfC (c := 359) rfl s_404 rfl rfl ?_
    refine w_aload_n rfl rfl ?_
    refine w_iload_n rfl rfl ?_
    refine w_callV (t' := 0) [(0, l2)] [(2, 359)] rfl s_404 rfl rfl ?_
    refine w_C.more (Q := fun r1 m1 => _) h (fun r1 m1 h => ?_)
    replace h := id h
    refine w_callV (t' := 0) [(0, r1)] [] rfl s_359 rfl rfl ?_
    refine w_C.more (Q := fun r2 m2 => _) h (fun r2 m2 h => ?_)
    replace h := id h
    refine w_ifne rfl (w_ite h (fun h => ?_) (fun h => ?_))
    · refine w_iconst rfl (by decide) ?_
      exact w_zret rfl rfl (by decide) h
    · refine w_iinc (lv' := [some (2, 404), some (0, l1), some (0, w_32 (l2 + 1))]) rfl rfl rfl rfl ?_
      refine w_goto rfl ?_
      exact w_W.less h (w_sub [true, true, true] rfl)
  · refine w_aload_n rfl rfl ?_
    refine x_gfI rfl s_404 rfl (kk := 14) rfl rfl ?_
    refine w_iload_n rfl rfl ?_
    refine w_icne rfl (w_ite h (fun h => ?_) (fun h => ?_))
    · refine w_iconst rfl (by decide) ?_
      refine w_goto rfl ?_
      exact w_zret rfl rfl (by decide) h
    · refine w_iconst rfl (by decide) ?_
      exact w_zret rfl rfl (by decide) h
theorem xr_pa_arePieces {d : Nat} {l1 : Int} {m : w_M} {Q : Int → w_M → Prop} (h : xc_st_firstPart d l1 m (fun r1 m1 => xc_st_parts d l1 m1 (fun r2 m2 => xp_pa_arePieces_18 d r1 r2 m2 Q))) : xc_pa_arePieces (d + 1) l1 m Q := by
  refine w_enter (q := 2) (lv := [some (2, 404), some (0, l1), none, none]) rfl rfl rfl ?_
  refine w_aload_n rfl rfl ?_
  refine w_gfC (c := 359) rfl s_404 rfl rfl ?_
  refine w_iload_n rfl rfl ?_
  refine w_callV (t' := 0) [(0, l1)] [] rfl s_359 rfl rfl ?_
  refine w_C.more (Q := fun r1 m1 => _) h (fun r1 m1 h => ?_)
  replace h := id h
  refine w_istore_n (lv' := [some (2, 404), some (0, l1), some (0, r1), none]) rfl rfl rfl ?_
  refine w_aload_n rfl rfl ?_
  refine w_gfC (c := 359) rfl s_404 rfl rfl ?_
  refine w_iload_n rfl rfl ?_
  refine w_callV (t' := 0) [(0, l1)] [] rfl s_359 rfl rfl ?_
  refine w_C.more (Q := fun r2 m2 => _) h (fun r2 m2 h => ?_)
  replace h := id h
  refine w_istore_n (lv' := [some (2, 404), some (0, l1), some (0, r1), some (0, r2)]) rfl rfl rfl ?_
  exact w_W.less h (w_sub [true, false, true, true] rfl)
theorem xr_pa_arePieces_18 {d : Nat} {l2 l3 : Int} {m : w_M} {Q : Int → w_M → Prop} (h : if 0 < l3 then (xc_st_kindOf d l2 m (fun r1 m1 => if r1 = 5 then (xc_st_nextOf d l2 m1 (fun r2 m2 => xp_pa_arePieces_18 d r2 (w_32 (l3 + (-1))) m2 Q)) else (xc_st_isNumber d l2 m1 (fun r3 m3 => if r3 = 0 then (Q 0 m3) else (xc_st_nextOf d l2 m3 (fun r4 m4 => xp_pa_arePieces_18 d r4 (w_32 (l3 + (-1))) m4 Q)))))) else (Q 1 m)) : xp_pa_arePieces_18 d l2 l3 m Q := by
  refine w_iload_n rfl rfl ?_
  refine w_ifle rfl (w_ite h (fun h => ?_) (fun h => ?_))
  · refine w_aload_n rfl rfl ?_
    refine w_gfC (c := 359) rfl s_404 rfl rfl ?_
    refine w_iload_n rfl rfl ?_
    refine w_callV (t' := 0) [(0, l2)] [] rfl s_359 rfl rfl ?_
    refine w_C.more (Q := fun r1 m1 => _) h (fun r1 m1 h => ?_)
    replace h := id h
    refine w_iconst rfl (by decide) ?_
    refine w_iceq rfl (w_ite h (fun h => ?_) (fun h => ?_))
    · refine w_aload_n rfl rfl ?_
      refine w_gfC (c := 359) rfl s_404 rfl rfl ?_
      refine w_iload_n rfl rfl ?_
      refine w_callV (t' := 0) [(0, l2)] [] rfl s_359 rfl rfl ?_
      refine w_C.more (Q := fun r2 m2 => _) h (fun r2 m2 h => ?_)
      replace h := id h
      refine w_istore_n (lv' := [some (2, 404), none, some (0, r2), some (0, l3)]) rfl rfl rfl ?_
      refine w_iinc (lv' := [some (2, 404), none, some (0, r2), some (0, w_32 (l3 + (-1)))]) rfl rfl rfl rfl ?_
      refine w_goto rfl ?_
      exact w_W.less h (w_sub [true, false, true, true] rfl)
    · refine w_aload_n rfl rfl ?_
      refine w_gfC (c := 359) rfl s_404 rfl rfl ?_
      refine w_iload_n rfl rfl ?_
      refine w_callV (t' := 0) [(0, l2)] [] rfl s_359 rfl rfl ?_
      refine w_C.more (Q := fun r3 m3 => _) h (fun r3 m3 h => ?_)
      replace h := id h
      refine w_ifne rfl (w_ite h (fun h => ?_) (fun h => ?_))
      · refine w_iconst rfl (by decide) ?_
        exact w_zret rfl rfl (by decide) h
      · refine w_aload_n rfl rfl ?_
        refine w_gfC (c := 359) rfl s_404 rfl rfl ?_
        refine w_iload_n rfl rfl ?_
        refine w_callV (t' := 0) [(0, l2)] [] rfl s_359 rfl rfl ?_
        refine w_C.more (Q := fun r4 m4 => _) h (fun r4 m4 h => ?_)
        replace h := id h
        refine w_istore_n (lv' := [some (2, 404), none, some (0, r4), some (0, l3)]) rfl rfl rfl ?_
        refine w_iinc (lv' := [some (2, 404), none, some (0, r4), some (0, w_32 (l3 + (-1)))]) rfl rfl rfl rfl ?_
        refine w_goto rfl ?_
        exact w_W.less h (w_sub [true, false, true, true] rfl)
  · refine w_iconst rfl (by decide) ?_
    exact w_zret rfl rfl (by decide) h
theorem xr_pa_findsFont {d : Nat} {l1 : Int} {m : w_M} {Q : Int → w_M → Prop} (h : if l1 = 9 then (xc_pa_resources d m (fun r1 m1 => xc_st_entry d r1 12 m1 (fun r2 m2 => xc_ta_dict d r2 m2 (fun r3 m3 => xc_pa_operand d 0 m3 (fun r4 m4 => xc_st_entry d r3 r4 m4 (fun r5 m5 => xc_ta_dict d r5 m5 (fun r6 m6 => xc_pa_readFont d r6 m6 (fun r7 m7 => xc_ta_target d r5 (w_up m7 408 6 r6) (fun r8 m8 => (r7 = 0 ∨ r7 = 1) ∧ Q r7 (w_up m8 408 7 r8)))))))))) else (if l1 = 7 then (if (m 408 6) < 0 then (Q 0 m) else (Q 1 m)) else (if l1 = 8 then (xc_pa_operand d 0 m (fun r9 m9 => xc_pa_hasString d r9 m9 (fun r10 m10 => if r10 = 0 then (Q 1 m10) else (if (m10 408 6) < 0 then (Q 0 m10) else (Q 1 m10))))) else (Q 1 m)))) : xc_pa_findsFont (d + 1) l1 m Q := by
  refine w_enter (q := 4) (lv := [some (2, 404), some (0, l1), none, none, none, none]) rfl rfl rfl ?_
  refine w_iload_n rfl rfl ?_
  refine w_bipush rfl (by decide) ?_
  refine w_icne rfl (w_ite h (fun h => ?_) (fun h => ?_))
  · refine w_aload_n rfl rfl ?_
    refine w_gfC (c := 366) rfl s_404 rfl rfl ?_
    refine w_aload_n rfl rfl ?_
    refine w_gfC (c := 359) rfl s_404 rfl rfl ?_
    refine w_aload_n rfl rfl ?_
    refine w_callV (t' := 0) [] [(2, 359), (2, 366)] rfl s_404 rfl rfl ?_
    refine w_C.more (Q := fun r1 m1 => _) h (fun r1 m1 h => ?_)
    replace h := id h
    refine w_bipush rfl (by decide) ?_
    refine w_callV (t' := 0) [(0, 12), (0, r1)] [(2, 366)] rfl s_359 rfl rfl ?_
    refine w_C.more (Q := fun r2 m2 => _) h (fun r2 m2 h => ?_)
    replace h := id h
    refine w_callV (t' := 0) [(0, r2)] [] rfl s_366 rfl rfl ?_
    refine w_C.more (Q := fun r3 m3 => _) h (fun r3 m3 h => ?_)
    replace h := id h
    refine w_istore_n (lv' := [some (2, 404), some (0, l1), some (0, r3), none, none, none]) rfl rfl rfl ?_
    refine w_aload_n rfl rfl ?_
    refine w_gfC (c := 359) rfl s_404 rfl rfl ?_
    refine w_iload_n rfl rfl ?_
    refine w_aload_n rfl rfl ?_
    refine w_iconst rfl (by decide) ?_
    refine w_callV (t' := 0) [(0, 0)] [(0, r3), (2, 359)] rfl s_404 rfl rfl ?_
    refine w_C.more (Q := fun r4 m4 => _) h (fun r4 m4 h => ?_)
    replace h := id h
    refine w_callV (t' := 0) [(0, r4), (0, r3)] [] rfl s_359 rfl rfl ?_
    refine w_C.more (Q := fun r5 m5 => _) h (fun r5 m5 h => ?_)
    replace h := id h
    refine w_istore_n (lv' := [some (2, 404), some (0, l1), some (0, r3), some (0, r5), none, none]) rfl rfl rfl ?_
    refine w_aload_n rfl rfl ?_
    refine w_gfC (c := 366) rfl s_404 rfl rfl ?_
    refine w_iload_n rfl rfl ?_
    refine w_callV (t' := 0) [(0, r5)] [] rfl s_366 rfl rfl ?_
    refine w_C.more (Q := fun r6 m6 => _) h (fun r6 m6 h => ?_)
    replace h := id h
    refine w_istore (lv' := [some (2, 404), some (0, l1), some (0, r3), some (0, r5), some (0, r6), none]) rfl rfl rfl ?_
    refine w_aload_n rfl rfl ?_
    refine w_iload rfl rfl ?_
    refine w_callV (t' := 0) [(0, r6)] [] rfl s_404 rfl rfl ?_
    refine w_C.more (Q := fun r7 m7 => _) h (fun r7 m7 h => ?_)
    replace h := id h
    refine w_istore (lv' := [some (2, 404), some (0, l1), some (0, r3), some (0, r5), some (0, r6), some (0, r7)]) rfl rfl rfl ?_
    refine w_aload_n rfl rfl ?_
    refine w_gfC (c := 408) rfl s_404 rfl rfl ?_
    refine w_bipush rfl (by decide) ?_
    refine w_iload rfl rfl ?_
    refine w_iast rfl s_408 (w_EC (by decide)) (n := 12) rfl (by decide) ?_
    refine w_aload_n rfl rfl ?_
    refine w_gfC (c := 408) rfl s_404 rfl rfl ?_
    refine w_bipush rfl (by decide) ?_
    refine w_aload_n rfl rfl ?_
    refine w_gfC (c := 366) rfl s_404 rfl rfl ?_
    refine w_iload_n rfl rfl ?_
    refine w_callV (t' := 0) [(0, r5)] [(0, 7), (2, 408)] rfl s_366 rfl rfl ?_
    refine w_C.more (Q := fun r8 m8 => _) h (fun r8 m8 h => ?_)
    replace h := id h
    refine w_iast rfl s_408 (w_EC (by decide)) (n := 12) rfl (by decide) ?_
    refine w_iload rfl rfl ?_
    exact w_zret rfl rfl h.1 h.2
  · refine w_iload_n rfl rfl ?_
    refine w_bipush rfl (by decide) ?_
    refine w_iceq rfl (w_ite h (fun h => ?_) (fun h => ?_))
    · refine w_iconst rfl (by decide) ?_
      refine w_goto rfl ?_
      refine w_istore_n (lv' := [some (2, 404), some (0, l1), some (0, 1), none, none, none]) rfl rfl rfl ?_
      refine w_iload_n rfl rfl ?_
      refine w_ifeq rfl (w_iff (by decide) ?_)
      refine w_aload_n rfl rfl ?_
      refine w_gfC (c := 408) rfl s_404 rfl rfl ?_
      refine w_bipush rfl (by decide) ?_
      refine w_iald rfl s_408 (n := 12) rfl (by decide) ?_
      refine w_iflt rfl (w_ite h (fun h => ?_) (fun h => ?_))
      · refine w_iconst rfl (by decide) ?_
        exact w_zret rfl rfl (by decide) h
      · refine w_iconst rfl (by decide) ?_
        refine w_goto rfl ?_
        exact w_zret rfl rfl (by decide) h
    · refine w_iload_n rfl rfl ?_
      refine w_bipush rfl (by decide) ?_
      refine w_icne rfl (w_ite h (fun h => ?_) (fun h => ?_))
      · refine w_aload_n rfl rfl ?_
        refine w_aload_n rfl rfl ?_
        refine w_iconst rfl (by decide) ?_
        refine w_callV (t' := 0) [(0, 0)] [(2, 404)] rfl s_404 rfl rfl ?_
        refine w_C.more (Q := fun r9 m9 => _) h (fun r9 m9 h => ?_)
        replace h := id h
        refine w_callV (t' := 0) [(0, r9)] [] rfl s_404 rfl rfl ?_
        refine w_C.more (Q := fun r10 m10 => _) h (fun r10 m10 h => ?_)
        replace h := id h
        refine w_ifeq rfl (w_ite h (fun h => ?_) (fun h => ?_))
        · refine w_iconst rfl (by decide) ?_
          refine w_istore_n (lv' := [some (2, 404), some (0, l1), some (0, 0), none, none, none]) rfl rfl rfl ?_
          refine w_iload_n rfl rfl ?_
          refine w_ifeq rfl (w_ift (by decide) ?_)
          refine w_iconst rfl (by decide) ?_
          refine w_goto rfl ?_
          exact w_zret rfl rfl (by decide) h
        · refine w_iconst rfl (by decide) ?_
          refine w_goto rfl ?_
          refine w_istore_n (lv' := [some (2, 404), some (0, l1), some (0, 1), none, none, none]) rfl rfl rfl ?_
          refine w_iload_n rfl rfl ?_
          refine w_ifeq rfl (w_iff (by decide) ?_)
          refine w_aload_n rfl rfl ?_
          refine w_gfC (c := 408) rfl s_404 rfl rfl ?_
          refine w_bipush rfl (by decide) ?_
          refine w_iald rfl s_408 (n := 12) rfl (by decide) ?_
          refine w_iflt rfl (w_ite h (fun h => ?_) (fun h => ?_))
          · refine w_iconst rfl (by decide) ?_
            exact w_zret rfl rfl (by decide) h
          · refine w_iconst rfl (by decide) ?_
            refine w_goto rfl ?_
            exact w_zret rfl rfl (by decide) h
      · refine w_iconst rfl (by decide) ?_
        refine w_istore_n (lv' := [some (2, 404), some (0, l1), some (0, 0), none, none, none]) rfl rfl rfl ?_
        refine w_iload_n rfl rfl ?_
        refine w_ifeq rfl (w_ift (by decide) ?_)
        refine w_iconst rfl (by decide) ?_
        refine w_goto rfl ?_
        exact w_zret rfl rfl (by decide) h
theorem xr_pa_fits {d : Nat} {l1 : Int} {m : w_M} {Q : Int → w_M → Prop} (h : xc_pa_operand d 0 m (fun r1 m1 => xc_st_kindOf d r1 m1 (fun r2 m2 => if l1 = (-1) then (Q 0 m2) else (if l1 = 0 then (xc_pa_areNumbers d l1 m2 (fun r3 m3 => (r3 = 0 ∨ r3 = 1) ∧ Q r3 m3)) else (if l1 = 1 then (xc_pa_areNumbers d l1 m2 (fun r4 m4 => (r4 = 0 ∨ r4 = 1) ∧ Q r4 m4)) else (if l1 = 2 then (xc_pa_areNumbers d l1 m2 (fun r5 m5 => (r5 = 0 ∨ r5 = 1) ∧ Q r5 m5)) else (if l1 = 3 then (xc_pa_areNumbers d l1 m2 (fun r6 m6 => (r6 = 0 ∨ r6 = 1) ∧ Q r6 m6)) else (if l1 = 4 then (xc_pa_areNumbers d l1 m2 (fun r7 m7 => (r7 = 0 ∨ r7 = 1) ∧ Q r7 m7)) else (if l1 = 5 then (xc_pa_areNumbers d l1 m2 (fun r8 m8 => (r8 = 0 ∨ r8 = 1) ∧ Q r8 m8)) else (if l1 = 6 then (xc_pa_areNumbers d l1 m2 (fun r9 m9 => (r9 = 0 ∨ r9 = 1) ∧ Q r9 m9)) else (if l1 = 7 then (if (m2 404 14) = 1 then (if r2 = 5 then (Q 1 m2) else (Q 0 m2)) else (Q 0 m2)) else (if l1 = 8 then (if (m2 404 14) = 1 then (if r2 = 6 then (xc_pa_operand d 0 m2 (fun r10 m10 => xc_pa_arePieces d r10 m10 (fun r11 m11 => if r11 = 0 then (Q 0 m11) else (Q 1 m11)))) else (Q 0 m2)) else (Q 0 m2)) else (if l1 = 9 then (if (m2 404 14) = 2 then (if r2 = 4 then (xc_pa_operand d 1 m2 (fun r12 m12 => xc_st_isNumber d r12 m12 (fun r13 m13 => if r13 = 0 then (Q 0 m13) else (Q 1 m13)))) else (Q 0 m2)) else (Q 0 m2)) else (if l1 = 10 then (if (m2 404 14) = 2 then (if r2 = 6 then (xc_pa_operand d 1 m2 (fun r14 m14 => xc_st_isNumber d r14 m14 (fun r15 m15 => if r15 = 0 then (Q 0 m15) else (Q 1 m15)))) else (Q 0 m2)) else (Q 0 m2)) else (xc_pa_areNumbers d l1 m2 (fun r16 m16 => (r16 = 0 ∨ r16 = 1) ∧ Q r16 m16)))))))))))))))) : xc_pa_fits (d + 1) l1 m Q := by
  refine w_enter (q := 1) (lv := [some (2, 404), some (0, l1), none]) rfl rfl rfl ?_
  refine w_aload_n rfl rfl ?_
  refine w_gfC (c := 359) rfl s_404 rfl rfl ?_
  refine w_aload_n rfl rfl ?_
  refine w_iconst rfl (by decide) ?_
  refine w_callV (t' := 0) [(0, 0)] [(2, 359)] rfl s_404 rfl rfl ?_
  refine w_C.more (Q := fun r1 m1 => _) h (fun r1 m1 h => ?_)
  replace h := id h
  refine w_callV (t' := 0) [(0, r1)] [] rfl s_359 rfl rfl ?_
  refine w_C.more (Q := fun r2 m2 => _) h (fun r2 m2 h => ?_)
  replace h := id h
  refine w_istore_n (lv' := [some (2, 404), some (0, l1), some (0, r2)]) rfl rfl rfl ?_
  refine w_iload_n rfl rfl ?_
  refine w_tswitch (pd := 198) [((-1), 76), (0, 198), (1, 198), (2, 198), (3, 198), (4, 198), (5, 198), (6, 198), (7, 78), (8, 97), (9, 129), (10, 163)] rfl rfl (by decide) (w_tsw_ok _ _ (by decide)) (by decide) ?_
  refine w_ite h (fun h => ?_) (fun h => ?_)
  · refine w_iconst rfl (by decide) ?_
    exact w_zret rfl rfl (by decide) h
  ·
    refine w_ite h (fun h => ?_) (fun h => ?_)
    · refine w_aload_n rfl rfl ?_
      refine w_iload_n rfl rfl ?_
      refine w_callV (t' := 0) [(0, l1)] [] rfl s_404 rfl rfl ?_
      refine w_C.more (Q := fun r3 m3 => _) h (fun r3 m3 h => ?_)
      replace h := id h
      exact w_zret rfl rfl h.1 h.2
    ·
      refine w_ite h (fun h => ?_) (fun h => ?_)
      · refine w_aload_n rfl rfl ?_
        refine w_iload_n rfl rfl ?_
        refine w_callV (t' := 0) [(0, l1)] [] rfl s_404 rfl rfl ?_
        refine w_C.more (Q := fun r4 m4 => _) h (fun r4 m4 h => ?_)
        replace h := id h
        exact w_zret rfl rfl h.1 h.2
      ·
        refine w_ite h (fun h => ?_) (fun h => ?_)
        · refine w_aload_n rfl rfl ?_
          refine w_iload_n rfl rfl ?_
          refine w_callV (t' := 0) [(0, l1)] [] rfl s_404 rfl rfl ?_
          refine w_C.more (Q := fun r5 m5 => _) h (fun r5 m5 h => ?_)
          replace h := id h
          exact w_zret rfl rfl h.1 h.2
        ·
          refine w_ite h (fun h => ?_) (fun h => ?_)
          · refine w_aload_n rfl rfl ?_
            refine w_iload_n rfl rfl ?_
            refine w_callV (t' := 0) [(0, l1)] [] rfl s_404 rfl rfl ?_
            refine w_C.more (Q := fun r6 m6 => _) h (fun r6 m6 h => ?_)
            replace h := id h
            exact w_zret rfl rfl h.1 h.2
          ·
            refine w_ite h (fun h => ?_) (fun h => ?_)
            · refine w_aload_n rfl rfl ?_
              refine w_iload_n rfl rfl ?_
              refine w_callV (t' := 0) [(0, l1)] [] rfl s_404 rfl rfl ?_
              refine w_C.more (Q := fun r7 m7 => _) h (fun r7 m7 h => ?_)
              replace h := id h
              exact w_zret rfl rfl h.1 h.2
            ·
              refine w_ite h (fun h => ?_) (fun h => ?_)
              · refine w_aload_n rfl rfl ?_
                refine w_iload_n rfl rfl ?_
                refine w_callV (t' := 0) [(0, l1)] [] rfl s_404 rfl rfl ?_
                refine w_C.more (Q := fun r8 m8 => _) h (fun r8 m8 h => ?_)
                replace h := id h
                exact w_zret rfl rfl h.1 h.2
              ·
                refine w_ite h (fun h => ?_) (fun h => ?_)
                · refine w_aload_n rfl rfl ?_
                  refine w_iload_n rfl rfl ?_
                  refine w_callV (t' := 0) [(0, l1)] [] rfl s_404 rfl rfl ?_
                  refine w_C.more (Q := fun r9 m9 => _) h (fun r9 m9 h => ?_)
                  replace h := id h
                  exact w_zret rfl rfl h.1 h.2
                ·
                  refine w_ite h (fun h => ?_) (fun h => ?_)
                  · refine w_aload_n rfl rfl ?_
                    refine x_gfI rfl s_404 rfl (kk := 14) rfl rfl ?_
                    refine w_iconst rfl (by decide) ?_
                    refine w_icne rfl (w_ite h (fun h => ?_) (fun h => ?_))
                    · refine w_iload_n rfl rfl ?_
                      refine w_iconst rfl (by decide) ?_
                      refine w_icne rfl (w_ite h (fun h => ?_) (fun h => ?_))
                      · refine w_iconst rfl (by decide) ?_
                        refine w_goto rfl ?_
                        exact w_zret rfl rfl (by decide) h
                      · refine w_iconst rfl (by decide) ?_
                        exact w_zret rfl rfl (by decide) h
                    · refine w_iconst rfl (by decide) ?_
                      exact w_zret rfl rfl (by decide) h
                  ·
                    refine w_ite h (fun h => ?_) (fun h => ?_)
                    · refine w_aload_n rfl rfl ?_
                      refine x_gfI rfl s_404 rfl (kk := 14) rfl rfl ?_
                      refine w_iconst rfl (by decide) ?_
                      refine w_icne rfl (w_ite h (fun h => ?_) (fun h => ?_))
                      · refine w_iload_n rfl rfl ?_
                        refine w_bipush rfl (by decide) ?_
                        refine w_icne rfl (w_ite h (fun h => ?_) (fun h => ?_))
                        · refine w_aload_n rfl rfl ?_
                          refine w_aload_n rfl rfl ?_
                          refine w_iconst rfl (by decide) ?_
                          refine w_callV (t' := 0) [(0, 0)] [(2, 404)] rfl s_404 rfl rfl ?_
                          refine w_C.more (Q := fun r10 m10 => _) h (fun r10 m10 h => ?_)
                          replace h := id h
                          refine w_callV (t' := 0) [(0, r10)] [] rfl s_404 rfl rfl ?_
                          refine w_C.more (Q := fun r11 m11 => _) h (fun r11 m11 h => ?_)
                          replace h := id h
                          refine w_ifeq rfl (w_ite h (fun h => ?_) (fun h => ?_))
                          · refine w_iconst rfl (by decide) ?_
                            exact w_zret rfl rfl (by decide) h
                          · refine w_iconst rfl (by decide) ?_
                            refine w_goto rfl ?_
                            exact w_zret rfl rfl (by decide) h
                        · refine w_iconst rfl (by decide) ?_
                          exact w_zret rfl rfl (by decide) h
                      · refine w_iconst rfl (by decide) ?_
                        exact w_zret rfl rfl (by decide) h
                    ·
                      refine w_ite h (fun h => ?_) (fun h => ?_)
                      · refine w_aload_n rfl rfl ?_
                        refine x_gfI rfl s_404 rfl (kk := 14) rfl rfl ?_
                        refine w_iconst rfl (by decide) ?_
                        refine w_icne rfl (w_ite h (fun h => ?_) (fun h => ?_))
                        · refine w_iload_n rfl rfl ?_
                          refine w_iconst rfl (by decide) ?_
                          refine w_icne rfl (w_ite h (fun h => ?_) (fun h => ?_))
                          · refine w_aload_n rfl rfl ?_
                            refine w_gfC (c := 359) rfl s_404 rfl rfl ?_
                            refine w_aload_n rfl rfl ?_
                            refine w_iconst rfl (by decide) ?_
                            refine w_callV (t' := 0) [(0, 1)] [(2, 359)] rfl s_404 rfl rfl ?_
                            refine w_C.more (Q := fun r12 m12 => _) h (fun r12 m12 h => ?_)
                            replace h := id h
                            refine w_callV (t' := 0) [(0, r12)] [] rfl s_359 rfl rfl ?_
                            refine w_C.more (Q := fun r13 m13 => _) h (fun r13 m13 h => ?_)
                            replace h := id h
                            refine w_ifeq rfl (w_ite h (fun h => ?_) (fun h => ?_))
                            · refine w_iconst rfl (by decide) ?_
                              exact w_zret rfl rfl (by decide) h
                            · refine w_iconst rfl (by decide) ?_
                              refine w_goto rfl ?_
                              exact w_zret rfl rfl (by decide) h
                          · refine w_iconst rfl (by decide) ?_
                            exact w_zret rfl rfl (by decide) h
                        · refine w_iconst rfl (by decide) ?_
                          exact w_zret rfl rfl (by decide) h
                      ·
                        refine w_ite h (fun h => ?_) (fun h => ?_)
                        · refine w_aload_n rfl rfl ?_
                          refine x_gfI rfl s_404 rfl (kk := 14) rfl rfl ?_
                          refine w_iconst rfl (by decide) ?_
                          refine w_icne rfl (w_ite h (fun h => ?_) (fun h => ?_))
                          · refine w_iload_n rfl rfl ?_
                            refine w_bipush rfl (by decide) ?_
                            refine w_icne rfl (w_ite h (fun h => ?_) (fun h => ?_))
                            · refine w_aload_n rfl rfl ?_
                              refine w_gfC (c := 359) rfl s_404 rfl rfl ?_
                              refine w_aload_n rfl rfl ?_
                              refine w_iconst rfl (by decide) ?_
                              refine w_callV (t' := 0) [(0, 1)] [(2, 359)] rfl s_404 rfl rfl ?_
                              refine w_C.more (Q := fun r14 m14 => _) h (fun r14 m14 h => ?_)
                              replace h := id h
                              refine w_callV (t' := 0) [(0, r14)] [] rfl s_359 rfl rfl ?_
                              refine w_C.more (Q := fun r15 m15 => _) h (fun r15 m15 h => ?_)
                              replace h := id h
                              refine w_ifeq rfl (w_ite h (fun h => ?_) (fun h => ?_))
                              · refine w_iconst rfl (by decide) ?_
                                exact w_zret rfl rfl (by decide) h
                              · refine w_iconst rfl (by decide) ?_
                                refine w_goto rfl ?_
                                exact w_zret rfl rfl (by decide) h
                            · refine w_iconst rfl (by decide) ?_
                              exact w_zret rfl rfl (by decide) h
                          · refine w_iconst rfl (by decide) ?_
                            exact w_zret rfl rfl (by decide) h
                        · refine w_aload_n rfl rfl ?_
                          refine w_iload_n rfl rfl ?_
                          refine w_callV (t' := 0) [(0, l1)] [] rfl s_404 rfl rfl ?_
                          refine w_C.more (Q := fun r16 m16 => _) h (fun r16 m16 h => ?_)
                          replace h := id h
                          exact w_zret rfl rfl h.1 h.2
theorem xr_pa_forget {d : Nat} {m : w_M} {Q : Int → w_M → Prop} (h : Q 0 (w_up m 404 18 0)) : xc_pa_forget (d + 1) m Q := by
  refine w_enter (q := 0) (lv := [some (2, 404)]) rfl rfl rfl ?_
  refine w_aload_n rfl rfl ?_
  refine w_iconst rfl (by decide) ?_
  refine w_pfI rfl s_404 rfl (w_EC (by decide)) rfl (kk := 18) rfl ?_
  exact w_vret rfl rfl h
theorem xr_pa_form {d : Nat} {l0 : Int} {m : w_M} {Q : Int → w_M → Prop} (h : if l0 = 39 then (Q 7 m) else (if l0 = 66 then (Q 0 m) else (if l0 = 70 then (Q 0 m) else (if l0 = 71 then (Q 1 m) else (if l0 = 74 then (Q 1 m) else (if l0 = 75 then (Q 4 m) else (if l0 = 77 then (Q 1 m) else (if l0 = 81 then (Q 0 m) else (if l0 = 83 then (Q 0 m) else (if l0 = 87 then (Q 0 m) else (if l0 = 98 then (Q 0 m) else (if l0 = 99 then (Q 6 m) else (if l0 = 100 then (Q 10 m) else (if l0 = 102 then (Q 0 m) else (if l0 = 103 then (Q 1 m) else (if l0 = 104 then (Q 0 m) else (if l0 = 105 then (Q 1 m) else (if l0 = 106 then (Q 1 m) else (if l0 = 107 then (Q 4 m) else (if l0 = 108 then (Q 2 m) else (if l0 = 109 then (Q 2 m) else (if l0 = 110 then (Q 0 m) else (if l0 = 113 then (Q 0 m) else (if l0 = 115 then (Q 0 m) else (if l0 = 118 then (Q 4 m) else (if l0 = 119 then (Q 1 m) else (if l0 = 121 then (Q 4 m) else (if l0 = 16938 then (Q 0 m) else (if l0 = 16980 then (Q 0 m) else (if l0 = 17748 then (Q 0 m) else (if l0 = 21063 then (Q 3 m) else (if l0 = 21546 then (Q 0 m) else (if l0 = 21572 then (Q 2 m) else (if l0 = 21578 then (Q 8 m) else (if l0 = 21580 then (Q 1 m) else (if l0 = 21603 then (Q 1 m) else (if l0 = 21604 then (Q 2 m) else (if l0 = 21606 then (Q 9 m) else (if l0 = 21610 then (Q 7 m) else (if l0 = 21613 then (Q 6 m) else (if l0 = 21623 then (Q 1 m) else (if l0 = 22314 then (Q 0 m) else (if l0 = 25130 then (Q 0 m) else (if l0 = 25453 then (Q 6 m) else (if l0 = 26154 then (Q 0 m) else (if l0 = 29285 then (Q 4 m) else (if l0 = 29287 then (Q 3 m) else (Q (-1) m)))))))))))))))))))))))))))))))))))))))))))))))) : xc_pa_form (d + 1) l0 m Q := by
  refine w_enter (q := 0) (lv := [some (0, l0)]) rfl rfl rfl ?_
  refine w_iload_n rfl rfl ?_
  refine w_lswitch (pd := 413) [(39, 401), (66, 388), (70, 388), (71, 390), (74, 390), (75, 396), (77, 390), (81, 388), (83, 388), (87, 388), (98, 388), (99, 398), (100, 410), (102, 388), (103, 390), (104, 388), (105, 390), (106, 390), (107, 396), (108, 392), (109, 392), (110, 388), (113, 388), (115, 388), (118, 396), (119, 390), (121, 396), (16938, 388), (16980, 388), (17748, 388), (21063, 394), (21546, 388), (21572, 392), (21578, 404), (21580, 390), (21603, 390), (21604, 392), (21606, 407), (21610, 401), (21613, 398), (21623, 390), (22314, 388), (25130, 388), (25453, 398), (26154, 388), (29285, 396), (29287, 394)] rfl rfl rfl ?_
  refine w_ite h (fun h => ?_) (fun h => ?_)
  · refine w_bipush rfl (by decide) ?_
    exact w_iret rfl rfl h
  ·
    refine w_ite h (fun h => ?_) (fun h => ?_)
    · refine w_iconst rfl (by decide) ?_
      exact w_iret rfl rfl h
    ·
      refine w_ite h (fun h => ?_) (fun h => ?_)
      · refine w_iconst rfl (by decide) ?_
        exact w_iret rfl rfl h
      ·
        refine w_ite h (fun h => ?_) (fun h => ?_)
        · refine w_iconst rfl (by decide) ?_
          exact w_iret rfl rfl h
        ·
          refine w_ite h (fun h => ?_) (fun h => ?_)
          · refine w_iconst rfl (by decide) ?_
            exact w_iret rfl rfl h
          ·
            refine w_ite h (fun h => ?_) (fun h => ?_)
            · refine w_iconst rfl (by decide) ?_
              exact w_iret rfl rfl h
            ·
              refine w_ite h (fun h => ?_) (fun h => ?_)
              · refine w_iconst rfl (by decide) ?_
                exact w_iret rfl rfl h
              ·
                refine w_ite h (fun h => ?_) (fun h => ?_)
                · refine w_iconst rfl (by decide) ?_
                  exact w_iret rfl rfl h
                ·
                  refine w_ite h (fun h => ?_) (fun h => ?_)
                  · refine w_iconst rfl (by decide) ?_
                    exact w_iret rfl rfl h
                  ·
                    refine w_ite h (fun h => ?_) (fun h => ?_)
                    · refine w_iconst rfl (by decide) ?_
                      exact w_iret rfl rfl h
                    ·
                      refine w_ite h (fun h => ?_) (fun h => ?_)
                      · refine w_iconst rfl (by decide) ?_
                        exact w_iret rfl rfl h
                      ·
                        refine w_ite h (fun h => ?_) (fun h => ?_)
                        · refine w_bipush rfl (by decide) ?_
                          exact w_iret rfl rfl h
                        ·
                          refine w_ite h (fun h => ?_) (fun h => ?_)
                          · refine w_bipush rfl (by decide) ?_
                            exact w_iret rfl rfl h
                          ·
                            refine w_ite h (fun h => ?_) (fun h => ?_)
                            · refine w_iconst rfl (by decide) ?_
                              exact w_iret rfl rfl h
                            ·
                              refine w_ite h (fun h => ?_) (fun h => ?_)
                              · refine w_iconst rfl (by decide) ?_
                                exact w_iret rfl rfl h
                              ·
                                refine w_ite h (fun h => ?_) (fun h => ?_)
                                · refine w_iconst rfl (by decide) ?_
                                  exact w_iret rfl rfl h
                                ·
                                  refine w_ite h (fun h => ?_) (fun h => ?_)
                                  · refine w_iconst rfl (by decide) ?_
                                    exact w_iret rfl rfl h
                                  ·
                                    refine w_ite h (fun h => ?_) (fun h => ?_)
                                    · refine w_iconst rfl (by decide) ?_
                                      exact w_iret rfl rfl h
                                    ·
                                      refine w_ite h (fun h => ?_) (fun h => ?_)
                                      · refine w_iconst rfl (by decide) ?_
                                        exact w_iret rfl rfl h
                                      ·
                                        refine w_ite h (fun h => ?_) (fun h => ?_)
                                        · refine w_iconst rfl (by decide) ?_
                                          exact w_iret rfl rfl h
                                        ·
                                          refine w_ite h (fun h => ?_) (fun h => ?_)
                                          · refine w_iconst rfl (by decide) ?_
                                            exact w_iret rfl rfl h
                                          ·
                                            refine w_ite h (fun h => ?_) (fun h => ?_)
                                            · refine w_iconst rfl (by decide) ?_
                                              exact w_iret rfl rfl h
                                            ·
                                              refine w_ite h (fun h => ?_) (fun h => ?_)
                                              · refine w_iconst rfl (by decide) ?_
                                                exact w_iret rfl rfl h
                                              ·
                                                refine w_ite h (fun h => ?_) (fun h => ?_)
                                                · refine w_iconst rfl (by decide) ?_
                                                  exact w_iret rfl rfl h
                                                ·
                                                  refine w_ite h (fun h => ?_) (fun h => ?_)
                                                  · refine w_iconst rfl (by decide) ?_
                                                    exact w_iret rfl rfl h
                                                  ·
                                                    refine w_ite h (fun h => ?_) (fun h => ?_)
                                                    · refine w_iconst rfl (by decide) ?_
                                                      exact w_iret rfl rfl h
                                                    ·
                                                      refine w_ite h (fun h => ?_) (fun h => ?_)
                                                      · refine w_iconst rfl (by decide) ?_
                                                        exact w_iret rfl rfl h
                                                      ·
                                                        refine w_ite h (fun h => ?_) (fun h => ?_)
                                                        · refine w_iconst rfl (by decide) ?_
                                                          exact w_iret rfl rfl h
                                                        ·
                                                          refine w_ite h (fun h => ?_) (fun h => ?_)
                                                          · refine w_iconst rfl (by decide) ?_
                                                            exact w_iret rfl rfl h
                                                          ·
                                                            refine w_ite h (fun h => ?_) (fun h => ?_)
                                                            · refine w_iconst rfl (by decide) ?_
                                                              exact w_iret rfl rfl h
                                                            ·
                                                              refine w_ite h (fun h => ?_) (fun h => ?_)
                                                              · refine w_iconst rfl (by decide) ?_
                                                                exact w_iret rfl rfl h
                                                              ·
                                                                refine w_ite h (fun h => ?_) (fun h => ?_)
                                                                · refine w_iconst rfl (by decide) ?_
                                                                  exact w_iret rfl rfl h
                                                                ·
                                                                  refine w_ite h (fun h => ?_) (fun h => ?_)
                                                                  · refine w_iconst rfl (by decide) ?_
                                                                    exact w_iret rfl rfl h
                                                                  ·
                                                                    refine w_ite h (fun h => ?_) (fun h => ?_)
                                                                    · refine w_bipush rfl (by decide) ?_
                                                                      exact w_iret rfl rfl h
                                                                    ·
                                                                      refine w_ite h (fun h => ?_) (fun h => ?_)
                                                                      · refine w_iconst rfl (by decide) ?_
                                                                        exact w_iret rfl rfl h
                                                                      ·
                                                                        refine w_ite h (fun h => ?_) (fun h => ?_)
                                                                        · refine w_iconst rfl (by decide) ?_
                                                                          exact w_iret rfl rfl h
                                                                        ·
                                                                          refine w_ite h (fun h => ?_) (fun h => ?_)
                                                                          · refine w_iconst rfl (by decide) ?_
                                                                            exact w_iret rfl rfl h
                                                                          ·
                                                                            refine w_ite h (fun h => ?_) (fun h => ?_)
                                                                            · refine w_bipush rfl (by decide) ?_
                                                                              exact w_iret rfl rfl h
                                                                            ·
                                                                              refine w_ite h (fun h => ?_) (fun h => ?_)
                                                                              · refine w_bipush rfl (by decide) ?_
                                                                                exact w_iret rfl rfl h
                                                                              ·
                                                                                refine w_ite h (fun h => ?_) (fun h => ?_)
                                                                                · refine w_bipush rfl (by decide) ?_
                                                                                  exact w_iret rfl rfl h
                                                                                ·
                                                                                  refine w_ite h (fun h => ?_) (fun h => ?_)
                                                                                  · refine w_iconst rfl (by decide) ?_
                                                                                    exact w_iret rfl rfl h
                                                                                  ·
                                                                                    refine w_ite h (fun h => ?_) (fun h => ?_)
                                                                                    · refine w_iconst rfl (by decide) ?_
                                                                                      exact w_iret rfl rfl h
                                                                                    ·
                                                                                      refine w_ite h (fun h => ?_) (fun h => ?_)
                                                                                      · refine w_iconst rfl (by decide) ?_
                                                                                        exact w_iret rfl rfl h
                                                                                      ·
                                                                                        refine w_ite h (fun h => ?_) (fun h => ?_)
                                                                                        · refine w_bipush rfl (by decide) ?_
                                                                                          exact w_iret rfl rfl h
                                                                                        ·
                                                                                          refine w_ite h (fun h => ?_) (fun h => ?_)
                                                                                          · refine w_iconst rfl (by decide) ?_
                                                                                            exact w_iret rfl rfl h
                                                                                          ·
                                                                                            refine w_ite h (fun h => ?_) (fun h => ?_)
                                                                                            · refine w_iconst rfl (by decide) ?_
                                                                                              exact w_iret rfl rfl h
                                                                                            ·
                                                                                              refine w_ite h (fun h => ?_) (fun h => ?_)
                                                                                              · refine w_iconst rfl (by decide) ?_
                                                                                                exact w_iret rfl rfl h
                                                                                              · refine w_iconst rfl (by decide) ?_
                                                                                                exact w_iret rfl rfl h
theorem xr_pa_give {d : Nat} {l1 l2 l3 l4 l5 l6 : Int} {m : w_M} {Q : Int → w_M → Prop} (h : Q 0 (w_up (w_up (w_up (w_up (w_up (w_up m 412 0 l1) 412 1 l2) 412 2 l3) 412 3 l4) 412 4 l5) 412 5 l6)) : xc_pa_give (d + 1) l1 l2 l3 l4 l5 l6 m Q := by
  refine w_enter (q := 0) (lv := [some (2, 404), some (0, l1), some (0, l2), some (0, l3), some (0, l4), some (0, l5), some (0, l6)]) rfl rfl rfl ?_
  refine w_aload_n rfl rfl ?_
  refine w_gfC (c := 412) rfl s_404 rfl rfl ?_
  refine w_iconst rfl (by decide) ?_
  refine w_iload_n rfl rfl ?_
  refine w_iast rfl s_412 (w_EC (by decide)) (n := 6) rfl (by decide) ?_
  refine w_aload_n rfl rfl ?_
  refine w_gfC (c := 412) rfl s_404 rfl rfl ?_
  refine w_iconst rfl (by decide) ?_
  refine w_iload_n rfl rfl ?_
  refine w_iast rfl s_412 (w_EC (by decide)) (n := 6) rfl (by decide) ?_
  refine w_aload_n rfl rfl ?_
  refine w_gfC (c := 412) rfl s_404 rfl rfl ?_
  refine w_iconst rfl (by decide) ?_
  refine w_iload_n rfl rfl ?_
  refine w_iast rfl s_412 (w_EC (by decide)) (n := 6) rfl (by decide) ?_
  refine w_aload_n rfl rfl ?_
  refine w_gfC (c := 412) rfl s_404 rfl rfl ?_
  refine w_iconst rfl (by decide) ?_
  refine w_iload rfl rfl ?_
  refine w_iast rfl s_412 (w_EC (by decide)) (n := 6) rfl (by decide) ?_
  refine w_aload_n rfl rfl ?_
  refine w_gfC (c := 412) rfl s_404 rfl rfl ?_
  refine w_iconst rfl (by decide) ?_
  refine w_iload rfl rfl ?_
  refine w_iast rfl s_412 (w_EC (by decide)) (n := 6) rfl (by decide) ?_
  refine w_aload_n rfl rfl ?_
  refine w_gfC (c := 412) rfl s_404 rfl rfl ?_
  refine w_iconst rfl (by decide) ?_
  refine w_iload rfl rfl ?_
  refine w_iast rfl s_412 (w_EC (by decide)) (n := 6) rfl (by decide) ?_
  exact w_vret rfl rfl h
theorem xr_pa_giveOperands {d : Nat} {m : w_M} {Q : Int → w_M → Prop} (h : xp_pa_giveOperands_2 d 0 m Q) : xc_pa_giveOperands (d + 1) m Q := by
  refine w_enter (q := 1) (lv := [some (2, 404), none]) rfl rfl rfl ?_
  refine w_iconst rfl (by decide) ?_
  refine w_istore_n (lv' := [some (2, 404), some (0, 0)]) rfl rfl rfl ?_
  exact w_W.less h (w_sub [true, true] rfl)
theorem xr_pa_giveOperands_2 {d : Nat} {l1 : Int} {m : w_M} {Q : Int → w_M → Prop} (h : if l1 < 6 then (xc_pa_operand d l1 m (fun r1 m1 => xc_st_units d r1 m1 (fun r2 m2 => ((0 : Int) ≤ l1 ∧ l1 < 6) ∧ (xp_pa_giveOperands_2 d (w_32 (l1 + 1)) (w_up m2 412 l1 r2) Q)))) else (Q 0 m)) : xp_pa_giveOperands_2 d l1 m Q := by
  refine w_iload_n rfl rfl ?_
  refine w_bipush rfl (by decide) ?_
  refine w_icge rfl (w_ite h (fun h => ?_) (fun h => ?_))
  · refine w_aload_n rfl rfl ?_
    refine w_gfC (c := 412) rfl s_404 rfl rfl ?_
    refine w_iload_n rfl rfl ?_
    refine w_aload_n rfl rfl ?_
    refine w_gfC (c := 359) rfl s_404 rfl rfl ?_
    refine w_aload_n rfl rfl ?_
    refine w_iload_n rfl rfl ?_
    refine w_callV (t' := 0) [(0, l1)] [(2, 359), (0, l1), (2, 412)] rfl s_404 rfl rfl ?_
    refine w_C.more (Q := fun r1 m1 => _) h (fun r1 m1 h => ?_)
    replace h := id h
    refine w_callV (t' := 0) [(0, r1)] [(0, l1), (2, 412)] rfl s_359 rfl rfl ?_
    refine w_C.more (Q := fun r2 m2 => _) h (fun r2 m2 h => ?_)
    replace h := id h
    refine w_iast rfl s_412 (w_EC (by decide)) (n := 6) rfl h.1 ?_
    replace h := h.2
    refine w_iinc (lv' := [some (2, 404), some (0, w_32 (l1 + 1))]) rfl rfl rfl rfl ?_
    refine w_goto rfl ?_
    exact w_W.less h (w_sub [true, true] rfl)
  · exact w_vret rfl rfl h
theorem xr_pa_glyphAt {d : Nat} {l1 l2 : Int} {m : w_M} {Q : Int → w_M → Prop} (h : if l1 < 0 then (Q (-1) m) else (if l1 < (m 404 18) then (if l2 < 0 then (Q (-1) m) else (if l2 < 5 then (if (w_32 ((w_32 (l1 * 5)) + l2)) < 7500 then (((0 : Int) ≤ (w_32 ((w_32 (l1 * 5)) + l2)) ∧ (w_32 ((w_32 (l1 * 5)) + l2)) < 7500) ∧ (Q (m 416 (w_32 ((w_32 (l1 * 5)) + l2))) m)) else (Q (-1) m)) else (Q (-1) m))) else (Q (-1) m))) : xc_pa_glyphAt (d + 1) l1 l2 m Q := by
  refine w_enter (q := 1) (lv := [some (2, 404), some (0, l1), some (0, l2), none]) rfl rfl rfl ?_
  refine w_iload_n rfl rfl ?_
  refine w_iflt rfl (w_ite h (fun h => ?_) (fun h => ?_))
  · refine w_iconst rfl (by decide) ?_
    exact w_iret rfl rfl h
  · refine w_iload_n rfl rfl ?_
    refine w_aload_n rfl rfl ?_
    refine x_gfI rfl s_404 rfl (kk := 18) rfl rfl ?_
    refine w_icge rfl (w_ite h (fun h => ?_) (fun h => ?_))
    · refine w_iload_n rfl rfl ?_
      refine w_iflt rfl (w_ite h (fun h => ?_) (fun h => ?_))
      · refine w_iconst rfl (by decide) ?_
        exact w_iret rfl rfl h
      · refine w_iload_n rfl rfl ?_
        refine w_iconst rfl (by decide) ?_
        refine w_iclt rfl (w_ite h (fun h => ?_) (fun h => ?_))
        · refine w_iload_n rfl rfl ?_
          refine w_iconst rfl (by decide) ?_
          refine w_imul rfl ?_
          refine w_iload_n rfl rfl ?_
          refine w_iadd rfl ?_
          refine w_istore_n (lv' := [some (2, 404), some (0, l1), some (0, l2), some (0, w_32 ((w_32 (l1 * 5)) + l2))]) rfl rfl rfl ?_
          refine w_iload_n rfl rfl ?_
          refine w_aload_n rfl rfl ?_
          refine w_gfC (c := 416) rfl s_404 rfl rfl ?_
          refine w_len rfl s_416 (by decide) (n := 7500) rfl (by decide) ?_
          refine w_icge rfl (w_ite h (fun h => ?_) (fun h => ?_))
          · refine w_aload_n rfl rfl ?_
            refine w_gfC (c := 416) rfl s_404 rfl rfl ?_
            refine w_iload_n rfl rfl ?_
            refine w_iald rfl s_416 (n := 7500) rfl h.1 ?_
            replace h := h.2
            refine w_goto rfl ?_
            exact w_iret rfl rfl h
          · refine w_iconst rfl (by decide) ?_
            exact w_iret rfl rfl h
        · refine w_iconst rfl (by decide) ?_
          exact w_iret rfl rfl h
    · refine w_iconst rfl (by decide) ?_
      exact w_iret rfl rfl h
theorem xr_pa_hasString {d : Nat} {l1 : Int} {m : w_M} {Q : Int → w_M → Prop} (h : xc_st_firstPart d l1 m (fun r1 m1 => xc_st_parts d l1 m1 (fun r2 m2 => xp_pa_hasString_18 d r1 r2 m2 Q))) : xc_pa_hasString (d + 1) l1 m Q := by
  refine w_enter (q := 2) (lv := [some (2, 404), some (0, l1), none, none]) rfl rfl rfl ?_
  refine w_aload_n rfl rfl ?_
  refine w_gfC (c := 359) rfl s_404 rfl rfl ?_
  refine w_iload_n rfl rfl ?_
  refine w_callV (t' := 0) [(0, l1)] [] rfl s_359 rfl rfl ?_
  refine w_C.more (Q := fun r1 m1 => _) h (fun r1 m1 h => ?_)
  replace h := id h
  refine w_istore_n (lv' := [some (2, 404), some (0, l1), some (0, r1), none]) rfl rfl rfl ?_
  refine w_aload_n rfl rfl ?_
  refine w_gfC (c := 359) rfl s_404 rfl rfl ?_
  refine w_iload_n rfl rfl ?_
  refine w_callV (t' := 0) [(0, l1)] [] rfl s_359 rfl rfl ?_
  refine w_C.more (Q := fun r2 m2 => _) h (fun r2 m2 h => ?_)
  replace h := id h
  refine w_istore_n (lv' := [some (2, 404), some (0, l1), some (0, r1), some (0, r2)]) rfl rfl rfl ?_
  exact w_W.less h (w_sub [true, false, true, true] rfl)
theorem xr_pa_hasString_18 {d : Nat} {l2 l3 : Int} {m : w_M} {Q : Int → w_M → Prop} (h : if 0 < l3 then (xc_st_kindOf d l2 m (fun r1 m1 => if r1 = 5 then (Q 1 m1) else (xc_st_nextOf d l2 m1 (fun r2 m2 => xp_pa_hasString_18 d r2 (w_32 (l3 + (-1))) m2 Q)))) else (Q 0 m)) : xp_pa_hasString_18 d l2 l3 m Q := by
  refine w_iload_n rfl rfl ?_
  refine w_ifle rfl (w_ite h (fun h => ?_) (fun h => ?_))
  · refine w_aload_n rfl rfl ?_
    refine w_gfC (c := 359) rfl s_404 rfl rfl ?_
    refine w_iload_n rfl rfl ?_
    refine w_callV (t' := 0) [(0, l2)] [] rfl s_359 rfl rfl ?_
    refine w_C.more (Q := fun r1 m1 => _) h (fun r1 m1 h => ?_)
    replace h := id h
    refine w_iconst rfl (by decide) ?_
    refine w_icne rfl (w_ite h (fun h => ?_) (fun h => ?_))
    · refine w_iconst rfl (by decide) ?_
      exact w_zret rfl rfl (by decide) h
    · refine w_aload_n rfl rfl ?_
      refine w_gfC (c := 359) rfl s_404 rfl rfl ?_
      refine w_iload_n rfl rfl ?_
      refine w_callV (t' := 0) [(0, l2)] [] rfl s_359 rfl rfl ?_
      refine w_C.more (Q := fun r2 m2 => _) h (fun r2 m2 h => ?_)
      replace h := id h
      refine w_istore_n (lv' := [some (2, 404), none, some (0, r2), some (0, l3)]) rfl rfl rfl ?_
      refine w_iinc (lv' := [some (2, 404), none, some (0, r2), some (0, w_32 (l3 + (-1)))]) rfl rfl rfl rfl ?_
      refine w_goto rfl ?_
      exact w_W.less h (w_sub [true, false, true, true] rfl)
  · refine w_iconst rfl (by decide) ?_
    exact w_zret rfl rfl (by decide) h
theorem xr_pa_isInOrder {d : Nat} {l1 : Int} {m : w_M} {Q : Int → w_M → Prop} (h : if l1 = 39 then (((m 404 16) = 0 ∨ (m 404 16) = 1) ∧ Q (m 404 16) m) else (if l1 = 81 then (if (m 404 16) = 0 then (if 0 < (m 404 15) then (Q 1 m) else (Q 0 m)) else (Q 0 m)) else (if l1 = 113 then (if (m 404 16) = 0 then (if (m 404 15) < 20 then (Q 1 m) else (Q 0 m)) else (Q 0 m)) else (if l1 = 16980 then (if (m 404 16) = 0 then (Q 1 m) else (Q 0 m)) else (if l1 = 17748 then (((m 404 16) = 0 ∨ (m 404 16) = 1) ∧ Q (m 404 16) m) else (if l1 = 21546 then (((m 404 16) = 0 ∨ (m 404 16) = 1) ∧ Q (m 404 16) m) else (if l1 = 21572 then (((m 404 16) = 0 ∨ (m 404 16) = 1) ∧ Q (m 404 16) m) else (if l1 = 21578 then (((m 404 16) = 0 ∨ (m 404 16) = 1) ∧ Q (m 404 16) m) else (if l1 = 21604 then (((m 404 16) = 0 ∨ (m 404 16) = 1) ∧ Q (m 404 16) m) else (if l1 = 21610 then (((m 404 16) = 0 ∨ (m 404 16) = 1) ∧ Q (m 404 16) m) else (if l1 = 21613 then (((m 404 16) = 0 ∨ (m 404 16) = 1) ∧ Q (m 404 16) m) else (if l1 = 25453 then (if (m 404 16) = 0 then (Q 1 m) else (Q 0 m)) else (Q 1 m))))))))))))) : xc_pa_isInOrder (d + 1) l1 m Q := by
  refine w_enter (q := 0) (lv := [some (2, 404), some (0, l1)]) rfl rfl rfl ?_
  refine w_iload_n rfl rfl ?_
  refine w_lswitch (pd := 168) [(39, 163), (81, 130), (113, 108), (16980, 150), (17748, 163), (21546, 163), (21572, 163), (21578, 163), (21604, 163), (21610, 163), (21613, 163), (25453, 150)] rfl rfl rfl ?_
  refine w_ite h (fun h => ?_) (fun h => ?_)
  · refine w_aload_n rfl rfl ?_
    refine x_gfZ rfl s_404 rfl (kk := 16) rfl rfl ?_
    exact w_zret rfl rfl h.1 h.2
  ·
    refine w_ite h (fun h => ?_) (fun h => ?_)
    · refine w_aload_n rfl rfl ?_
      refine x_gfZ rfl s_404 rfl (kk := 16) rfl rfl ?_
      refine w_ifne rfl (w_ite h (fun h => ?_) (fun h => ?_))
      · refine w_aload_n rfl rfl ?_
        refine x_gfI rfl s_404 rfl (kk := 15) rfl rfl ?_
        refine w_ifle rfl (w_ite h (fun h => ?_) (fun h => ?_))
        · refine w_iconst rfl (by decide) ?_
          refine w_goto rfl ?_
          exact w_zret rfl rfl (by decide) h
        · refine w_iconst rfl (by decide) ?_
          exact w_zret rfl rfl (by decide) h
      · refine w_iconst rfl (by decide) ?_
        exact w_zret rfl rfl (by decide) h
    ·
      refine w_ite h (fun h => ?_) (fun h => ?_)
      · refine w_aload_n rfl rfl ?_
        refine x_gfZ rfl s_404 rfl (kk := 16) rfl rfl ?_
        refine w_ifne rfl (w_ite h (fun h => ?_) (fun h => ?_))
        · refine w_aload_n rfl rfl ?_
          refine x_gfI rfl s_404 rfl (kk := 15) rfl rfl ?_
          refine w_bipush rfl (by decide) ?_
          refine w_icge rfl (w_ite h (fun h => ?_) (fun h => ?_))
          · refine w_iconst rfl (by decide) ?_
            refine w_goto rfl ?_
            exact w_zret rfl rfl (by decide) h
          · refine w_iconst rfl (by decide) ?_
            exact w_zret rfl rfl (by decide) h
        · refine w_iconst rfl (by decide) ?_
          exact w_zret rfl rfl (by decide) h
      ·
        refine w_ite h (fun h => ?_) (fun h => ?_)
        · refine w_aload_n rfl rfl ?_
          refine x_gfZ rfl s_404 rfl (kk := 16) rfl rfl ?_
          refine w_ifne rfl (w_ite h (fun h => ?_) (fun h => ?_))
          · refine w_iconst rfl (by decide) ?_
            refine w_goto rfl ?_
            exact w_zret rfl rfl (by decide) h
          · refine w_iconst rfl (by decide) ?_
            exact w_zret rfl rfl (by decide) h
        ·
          refine w_ite h (fun h => ?_) (fun h => ?_)
          · refine w_aload_n rfl rfl ?_
            refine x_gfZ rfl s_404 rfl (kk := 16) rfl rfl ?_
            exact w_zret rfl rfl h.1 h.2
          ·
            refine w_ite h (fun h => ?_) (fun h => ?_)
            · refine w_aload_n rfl rfl ?_
              refine x_gfZ rfl s_404 rfl (kk := 16) rfl rfl ?_
              exact w_zret rfl rfl h.1 h.2
            ·
              refine w_ite h (fun h => ?_) (fun h => ?_)
              · refine w_aload_n rfl rfl ?_
                refine x_gfZ rfl s_404 rfl (kk := 16) rfl rfl ?_
                exact w_zret rfl rfl h.1 h.2
              ·
                refine w_ite h (fun h => ?_) (fun h => ?_)
                · refine w_aload_n rfl rfl ?_
                  refine x_gfZ rfl s_404 rfl (kk := 16) rfl rfl ?_
                  exact w_zret rfl rfl h.1 h.2
                ·
                  refine w_ite h (fun h => ?_) (fun h => ?_)
                  · refine w_aload_n rfl rfl ?_
                    refine x_gfZ rfl s_404 rfl (kk := 16) rfl rfl ?_
                    exact w_zret rfl rfl h.1 h.2
                  ·
                    refine w_ite h (fun h => ?_) (fun h => ?_)
                    · refine w_aload_n rfl rfl ?_
                      refine x_gfZ rfl s_404 rfl (kk := 16) rfl rfl ?_
                      exact w_zret rfl rfl h.1 h.2
                    ·
                      refine w_ite h (fun h => ?_) (fun h => ?_)
                      · refine w_aload_n rfl rfl ?_
                        refine x_gfZ rfl s_404 rfl (kk := 16) rfl rfl ?_
                        exact w_zret rfl rfl h.1 h.2
                      ·
                        refine w_ite h (fun h => ?_) (fun h => ?_)
                        · refine w_aload_n rfl rfl ?_
                          refine x_gfZ rfl s_404 rfl (kk := 16) rfl rfl ?_
                          refine w_ifne rfl (w_ite h (fun h => ?_) (fun h => ?_))
                          · refine w_iconst rfl (by decide) ?_
                            refine w_goto rfl ?_
                            exact w_zret rfl rfl (by decide) h
                          · refine w_iconst rfl (by decide) ?_
                            exact w_zret rfl rfl (by decide) h
                        · refine w_iconst rfl (by decide) ?_
                          exact w_zret rfl rfl (by decide) h
theorem xr_pa_keepGlyph {d : Nat} {l1 : Int} {m : w_M} {Q : Int → w_M → Prop} (h : if (w_32 ((m 404 18) * 5)) < 0 then (Q 0 m) else (if (w_32 ((w_32 ((m 404 18) * 5)) + 4)) < 7500 then (((0 : Int) ≤ (w_32 ((m 404 18) * 5)) ∧ (w_32 ((m 404 18) * 5)) < 7500) ∧ (((0 : Int) ≤ (w_32 ((w_32 ((m 404 18) * 5)) + 1)) ∧ (w_32 ((w_32 ((m 404 18) * 5)) + 1)) < 7500) ∧ (((0 : Int) ≤ (w_32 ((w_32 ((m 404 18) * 5)) + 2)) ∧ (w_32 ((w_32 ((m 404 18) * 5)) + 2)) < 7500) ∧ (((0 : Int) ≤ (w_32 ((w_32 ((m 404 18) * 5)) + 3)) ∧ (w_32 ((w_32 ((m 404 18) * 5)) + 3)) < 7500) ∧ (((0 : Int) ≤ (w_32 ((w_32 ((m 404 18) * 5)) + 4)) ∧ (w_32 ((w_32 ((m 404 18) * 5)) + 4)) < 7500) ∧ (Q 0 (w_up (w_up (w_up (w_up (w_up (w_up m 416 (w_32 ((m 404 18) * 5)) l1) 416 (w_32 ((w_32 ((m 404 18) * 5)) + 1)) ((w_up m 416 (w_32 ((m 404 18) * 5)) l1) 413 4)) 416 (w_32 ((w_32 ((m 404 18) * 5)) + 2)) ((w_up (w_up m 416 (w_32 ((m 404 18) * 5)) l1) 416 (w_32 ((w_32 ((m 404 18) * 5)) + 1)) ((w_up m 416 (w_32 ((m 404 18) * 5)) l1) 413 4)) 413 5)) 416 (w_32 ((w_32 ((m 404 18) * 5)) + 3)) ((w_up (w_up (w_up m 416 (w_32 ((m 404 18) * 5)) l1) 416 (w_32 ((w_32 ((m 404 18) * 5)) + 1)) ((w_up m 416 (w_32 ((m 404 18) * 5)) l1) 413 4)) 416 (w_32 ((w_32 ((m 404 18) * 5)) + 2)) ((w_up (w_up m 416 (w_32 ((m 404 18) * 5)) l1) 416 (w_32 ((w_32 ((m 404 18) * 5)) + 1)) ((w_up m 416 (w_32 ((m 404 18) * 5)) l1) 413 4)) 413 5)) 408 8)) 416 (w_32 ((w_32 ((m 404 18) * 5)) + 4)) ((w_up (w_up (w_up (w_up m 416 (w_32 ((m 404 18) * 5)) l1) 416 (w_32 ((w_32 ((m 404 18) * 5)) + 1)) ((w_up m 416 (w_32 ((m 404 18) * 5)) l1) 413 4)) 416 (w_32 ((w_32 ((m 404 18) * 5)) + 2)) ((w_up (w_up m 416 (w_32 ((m 404 18) * 5)) l1) 416 (w_32 ((w_32 ((m 404 18) * 5)) + 1)) ((w_up m 416 (w_32 ((m 404 18) * 5)) l1) 413 4)) 413 5)) 416 (w_32 ((w_32 ((m 404 18) * 5)) + 3)) ((w_up (w_up (w_up m 416 (w_32 ((m 404 18) * 5)) l1) 416 (w_32 ((w_32 ((m 404 18) * 5)) + 1)) ((w_up m 416 (w_32 ((m 404 18) * 5)) l1) 413 4)) 416 (w_32 ((w_32 ((m 404 18) * 5)) + 2)) ((w_up (w_up m 416 (w_32 ((m 404 18) * 5)) l1) 416 (w_32 ((w_32 ((m 404 18) * 5)) + 1)) ((w_up m 416 (w_32 ((m 404 18) * 5)) l1) 413 4)) 413 5)) 408 8)) 408 7)) 404 18 (w_32 ((m 404 18) + 1))))))))) else (Q 0 m))) : xc_pa_keepGlyph (d + 1) l1 m Q := by
  refine w_enter (q := 1) (lv := [some (2, 404), some (0, l1), none]) rfl rfl rfl ?_
  refine w_aload_n rfl rfl ?_
  refine x_gfI rfl s_404 rfl (kk := 18) rfl rfl ?_
  refine w_iconst rfl (by decide) ?_
  refine w_imul rfl ?_
  refine w_istore_n (lv' := [some (2, 404), some (0, l1), some (0, w_32 ((m 404 18) * 5))]) rfl rfl rfl ?_
  refine w_iload_n rfl rfl ?_
  refine w_iflt rfl (w_ite h (fun h => ?_) (fun h => ?_))
  · exact w_vret rfl rfl h
  · refine w_iload_n rfl rfl ?_
    refine w_iconst rfl (by decide) ?_
    refine w_iadd rfl ?_
    refine w_aload_n rfl rfl ?_
    refine w_gfC (c := 416) rfl s_404 rfl rfl ?_
    refine w_len rfl s_416 (by decide) (n := 7500) rfl (by decide) ?_
    refine w_icge rfl (w_ite h (fun h => ?_) (fun h => ?_))
    · refine w_aload_n rfl rfl ?_
      refine w_gfC (c := 416) rfl s_404 rfl rfl ?_
      refine w_iload_n rfl rfl ?_
      refine w_iload_n rfl rfl ?_
      refine w_iast rfl s_416 (w_EC (by decide)) (n := 7500) rfl h.1 ?_
      replace h := h.2
      refine w_aload_n rfl rfl ?_
      refine w_gfC (c := 416) rfl s_404 rfl rfl ?_
      refine w_iload_n rfl rfl ?_
      refine w_iconst rfl (by decide) ?_
      refine w_iadd rfl ?_
      refine w_aload_n rfl rfl ?_
      refine w_gfC (c := 413) rfl s_404 rfl rfl ?_
      refine w_iconst rfl (by decide) ?_
      refine w_iald rfl s_413 (n := 6) rfl (by decide) ?_
      refine w_iast rfl s_416 (w_EC (by decide)) (n := 7500) rfl h.1 ?_
      replace h := h.2
      refine w_aload_n rfl rfl ?_
      refine w_gfC (c := 416) rfl s_404 rfl rfl ?_
      refine w_iload_n rfl rfl ?_
      refine w_iconst rfl (by decide) ?_
      refine w_iadd rfl ?_
      refine w_aload_n rfl rfl ?_
      refine w_gfC (c := 413) rfl s_404 rfl rfl ?_
      refine w_iconst rfl (by decide) ?_
      refine w_iald rfl s_413 (n := 6) rfl (by decide) ?_
      refine w_iast rfl s_416 (w_EC (by decide)) (n := 7500) rfl h.1 ?_
      replace h := h.2
      refine w_aload_n rfl rfl ?_
      refine w_gfC (c := 416) rfl s_404 rfl rfl ?_
      refine w_iload_n rfl rfl ?_
      refine w_iconst rfl (by decide) ?_
      refine w_iadd rfl ?_
      refine w_aload_n rfl rfl ?_
      refine w_gfC (c := 408) rfl s_404 rfl rfl ?_
      refine w_bipush rfl (by decide) ?_
      refine w_iald rfl s_408 (n := 12) rfl (by decide) ?_
      refine w_iast rfl s_416 (w_EC (by decide)) (n := 7500) rfl h.1 ?_
      replace h := h.2
      refine w_aload_n rfl rfl ?_
      refine w_gfC (c := 416) rfl s_404 rfl rfl ?_
      refine w_iload_n rfl rfl ?_
      refine w_iconst rfl (by decide) ?_
      refine w_iadd rfl ?_
      refine w_aload_n rfl rfl ?_
      refine w_gfC (c := 408) rfl s_404 rfl rfl ?_
      refine w_bipush rfl (by decide) ?_
      refine w_iald rfl s_408 (n := 12) rfl (by decide) ?_
      refine w_iast rfl s_416 (w_EC (by decide)) (n := 7500) rfl h.1 ?_
      replace h := h.2
      refine w_aload_n rfl rfl ?_
      refine w_dup rfl (show (2 : Nat) ≠ 1 by decide) ?_
      refine x_gfI rfl s_404 rfl (kk := 18) rfl ((w_up_ne (by decide)).trans ((w_up_ne (by decide)).trans ((w_up_ne (by decide)).trans ((w_up_ne (by decide)).trans (w_up_ne (by decide)))))) ?_
      refine w_iconst rfl (by decide) ?_
      refine w_iadd rfl ?_
      refine w_pfI rfl s_404 rfl (w_EC (by decide)) rfl (kk := 18) rfl ?_
      exact w_vret rfl rfl h
    · exact w_vret rfl rfl h
theorem xr_pa_multiply {d : Nat} {l0 l1 l2 : Int} {m : w_M} {Q : Int → w_M → Prop} (h : w_isR l0 ∧ (if (w_ln l0) < 6 then (Q 0 m) else (w_isR l1 ∧ (if (w_ln l1) < 6 then (Q 0 m) else (w_isR l2 ∧ (if (w_ln l2) < 6 then (Q 0 m) else (w_isA 0 l1 ∧ ((0 : Int) ≤ 0 ∧ 0 < w_ln l1) ∧ (w_isA 0 l1 ∧ ((0 : Int) ≤ 1 ∧ 1 < w_ln l1) ∧ (w_isA 0 l1 ∧ ((0 : Int) ≤ 2 ∧ 2 < w_ln l1) ∧ (w_isA 0 l1 ∧ ((0 : Int) ≤ 3 ∧ 3 < w_ln l1) ∧ (xp_pa_multiply_48 d l0 l1 l2 (m l1 0) (m l1 1) (m l1 2) (m l1 3) 1 0 m Q))))))))))) : xc_pa_multiply (d + 1) l0 l1 l2 m Q := by
  refine w_enter (q := 12) (lv := [some (2, l0), some (2, l1), some (2, l2), none, none, none, none, none, none, none, none, none, none, none, none]) rfl rfl rfl ?_
  refine w_aload_n rfl rfl ?_
  refine x_len rfl h.1 ?_
  replace h := h.2
  refine w_bipush rfl (by decide) ?_
  refine w_iclt rfl (w_ite h (fun h => ?_) (fun h => ?_))
  · refine w_iconst rfl (by decide) ?_
    exact w_zret rfl rfl (by decide) h
  · refine w_aload_n rfl rfl ?_
    refine x_len rfl h.1 ?_
    replace h := h.2
    refine w_bipush rfl (by decide) ?_
    refine w_iclt rfl (w_ite h (fun h => ?_) (fun h => ?_))
    · refine w_iconst rfl (by decide) ?_
      exact w_zret rfl rfl (by decide) h
    · refine w_aload_n rfl rfl ?_
      refine x_len rfl h.1 ?_
      replace h := h.2
      refine w_bipush rfl (by decide) ?_
      refine w_icge rfl (w_ite h (fun h => ?_) (fun h => ?_))
      · refine w_iconst rfl (by decide) ?_
        exact w_zret rfl rfl (by decide) h
      · refine w_aload_n rfl rfl ?_
        refine w_iconst rfl (by decide) ?_
        refine x_iald rfl h.1 h.2.1 ?_
        replace h := h.2.2
        refine w_istore_n (lv' := [some (2, l0), some (2, l1), some (2, l2), some (0, m l1 0), none, none, none, none, none, none, none, none, none, none, none]) rfl rfl rfl ?_
        refine w_aload_n rfl rfl ?_
        refine w_iconst rfl (by decide) ?_
        refine x_iald rfl h.1 h.2.1 ?_
        replace h := h.2.2
        refine w_istore (lv' := [some (2, l0), some (2, l1), some (2, l2), some (0, m l1 0), some (0, m l1 1), none, none, none, none, none, none, none, none, none, none]) rfl rfl rfl ?_
        refine w_aload_n rfl rfl ?_
        refine w_iconst rfl (by decide) ?_
        refine x_iald rfl h.1 h.2.1 ?_
        replace h := h.2.2
        refine w_istore (lv' := [some (2, l0), some (2, l1), some (2, l2), some (0, m l1 0), some (0, m l1 1), some (0, m l1 2), none, none, none, none, none, none, none, none, none]) rfl rfl rfl ?_
        refine w_aload_n rfl rfl ?_
        refine w_iconst rfl (by decide) ?_
        refine x_iald rfl h.1 h.2.1 ?_
        replace h := h.2.2
        refine w_istore (lv' := [some (2, l0), some (2, l1), some (2, l2), some (0, m l1 0), some (0, m l1 1), some (0, m l1 2), some (0, m l1 3), none, none, none, none, none, none, none, none]) rfl rfl rfl ?_
        refine w_iconst rfl (by decide) ?_
        refine w_istore (lv' := [some (2, l0), some (2, l1), some (2, l2), some (0, m l1 0), some (0, m l1 1), some (0, m l1 2), some (0, m l1 3), some (0, 1), none, none, none, none, none, none, none]) rfl rfl rfl ?_
        refine w_iconst rfl (by decide) ?_
        refine w_istore (lv' := [some (2, l0), some (2, l1), some (2, l2), some (0, m l1 0), some (0, m l1 1), some (0, m l1 2), some (0, m l1 3), some (0, 1), some (0, 0), none, none, none, none, none, none]) rfl rfl rfl ?_
        exact w_W.less h (w_sub [true, true, true, true, true, true, true, true, true, false, false, false, false, false, false] rfl)
theorem xr_pa_multiply_48 {d : Nat} {l0 l1 l2 l3 l4 l5 l6 l7 l8 : Int} {m : w_M} {Q : Int → w_M → Prop} (h : if l8 < 6 then (w_isA 0 l0 ∧ ((0 : Int) ≤ l8 ∧ l8 < w_ln l0) ∧ (w_isA 0 l0 ∧ ((0 : Int) ≤ (w_32 (l8 + 1)) ∧ (w_32 (l8 + 1)) < w_ln l0) ∧ (xc_pa_times d (m l0 l8) l3 m (fun r1 m1 => xc_pa_times d (m l0 (w_32 (l8 + 1))) l5 m1 (fun r2 m2 => if l8 = 4 then (w_isA 0 l1 ∧ ((0 : Int) ≤ 4 ∧ 4 < w_ln l1) ∧ (xp_pa_multiply_100 d l0 l1 l2 l3 l4 l5 l6 l7 l8 (m l0 l8) (m l0 (w_32 (l8 + 1))) (w_64 (r1 + r2)) (m2 l1 4) m2 Q)) else (xp_pa_multiply_100 d l0 l1 l2 l3 l4 l5 l6 l7 l8 (m l0 l8) (m l0 (w_32 (l8 + 1))) (w_64 (r1 + r2)) 0 m2 Q)))))) else ((l7 = 0 ∨ l7 = 1) ∧ Q l7 m)) : xp_pa_multiply_48 d l0 l1 l2 l3 l4 l5 l6 l7 l8 m Q := by
  refine w_iload rfl rfl ?_
  refine w_bipush rfl (by decide) ?_
  refine w_icge rfl (w_ite h (fun h => ?_) (fun h => ?_))
  · refine w_aload_n rfl rfl ?_
    refine w_iload rfl rfl ?_
    refine x_iald rfl h.1 h.2.1 ?_
    replace h := h.2.2
    refine w_istore (lv' := [some (2, l0), some (2, l1), some (2, l2), some (0, l3), some (0, l4), some (0, l5), some (0, l6), some (0, l7), some (0, l8), some (0, m l0 l8), none, none, none, none, none]) rfl rfl rfl ?_
    refine w_aload_n rfl rfl ?_
    refine w_iload rfl rfl ?_
    refine w_iconst rfl (by decide) ?_
    refine w_iadd rfl ?_
    refine x_iald rfl h.1 h.2.1 ?_
    replace h := h.2.2
    refine w_istore (lv' := [some (2, l0), some (2, l1), some (2, l2), some (0, l3), some (0, l4), some (0, l5), some (0, l6), some (0, l7), some (0, l8), some (0, m l0 l8), some (0, m l0 (w_32 (l8 + 1))), none, none, none, none]) rfl rfl rfl ?_
    refine w_iload rfl rfl ?_
    refine w_i2l rfl ?_
    refine w_iload_n rfl rfl ?_
    refine w_i2l rfl ?_
    refine w_callS (t' := 1) [(1, l3), (1, m l0 l8)] [] rfl (by decide) rfl rfl ?_
    refine w_C.more (Q := fun r1 m1 => _) h (fun r1 m1 h => ?_)
    replace h := id h
    refine w_iload rfl rfl ?_
    refine w_i2l rfl ?_
    refine w_iload rfl rfl ?_
    refine w_i2l rfl ?_
    refine w_callS (t' := 1) [(1, l5), (1, m l0 (w_32 (l8 + 1)))] [(1, r1)] rfl (by decide) rfl rfl ?_
    refine w_C.more (Q := fun r2 m2 => _) h (fun r2 m2 h => ?_)
    replace h := id h
    refine w_ladd' rfl ?_
    refine w_iload rfl rfl ?_
    refine w_iconst rfl (by decide) ?_
    refine w_icne rfl (w_ite h (fun h => ?_) (fun h => ?_))
    · refine w_aload_n rfl rfl ?_
      refine w_iconst rfl (by decide) ?_
      refine x_iald rfl h.1 h.2.1 ?_
      replace h := h.2.2
      refine w_goto rfl ?_
      exact w_W.less h (w_sub [true, true, true, true, true, true, true, true, true, true, true, false, false, false, false] rfl)
    · refine w_iconst rfl (by decide) ?_
      exact w_W.less h (w_sub [true, true, true, true, true, true, true, true, true, true, true, false, false, false, false] rfl)
  · refine w_iload rfl rfl ?_
    exact w_zret rfl rfl h.1 h.2
theorem xr_pa_multiply_100 {d : Nat} {l0 l1 l2 l3 l4 l5 l6 l7 l8 l9 l10 s0 s1 : Int} {m : w_M} {Q : Int → w_M → Prop} (h : xc_pa_times d l9 l4 m (fun r1 m1 => xc_pa_times d l10 l6 m1 (fun r2 m2 => if l8 = 4 then (w_isA 0 l1 ∧ ((0 : Int) ≤ 5 ∧ 5 < w_ln l1) ∧ (xp_pa_multiply_136 d l0 l1 l2 l3 l4 l5 l6 l7 l8 (w_64 (s0 + s1)) (w_64 (r1 + r2)) (m2 l1 5) m2 Q)) else (xp_pa_multiply_136 d l0 l1 l2 l3 l4 l5 l6 l7 l8 (w_64 (s0 + s1)) (w_64 (r1 + r2)) 0 m2 Q)))) : xp_pa_multiply_100 d l0 l1 l2 l3 l4 l5 l6 l7 l8 l9 l10 s0 s1 m Q := by
  refine w_i2l rfl ?_
  refine w_ladd' rfl ?_
  refine w_lstore (lv' := [some (2, l0), some (2, l1), some (2, l2), some (0, l3), some (0, l4), some (0, l5), some (0, l6), some (0, l7), some (0, l8), some (0, l9), some (0, l10), some (1, w_64 (s0 + s1)), none, none, none]) rfl rfl rfl ?_
  refine w_iload rfl rfl ?_
  refine w_i2l rfl ?_
  refine w_iload rfl rfl ?_
  refine w_i2l rfl ?_
  refine w_callS (t' := 1) [(1, l4), (1, l9)] [] rfl (by decide) rfl rfl ?_
  refine w_C.more (Q := fun r1 m1 => _) h (fun r1 m1 h => ?_)
  replace h := id h
  refine w_iload rfl rfl ?_
  refine w_i2l rfl ?_
  refine w_iload rfl rfl ?_
  refine w_i2l rfl ?_
  refine w_callS (t' := 1) [(1, l6), (1, l10)] [(1, r1)] rfl (by decide) rfl rfl ?_
  refine w_C.more (Q := fun r2 m2 => _) h (fun r2 m2 h => ?_)
  replace h := id h
  refine w_ladd' rfl ?_
  refine w_iload rfl rfl ?_
  refine w_iconst rfl (by decide) ?_
  refine w_icne rfl (w_ite h (fun h => ?_) (fun h => ?_))
  · refine w_aload_n rfl rfl ?_
    refine w_iconst rfl (by decide) ?_
    refine x_iald rfl h.1 h.2.1 ?_
    replace h := h.2.2
    refine w_goto rfl ?_
    exact w_W.less h (w_sub [true, true, true, true, true, true, true, true, true, false, false, true, false, false, false] rfl)
  · refine w_iconst rfl (by decide) ?_
    exact w_W.less h (w_sub [true, true, true, true, true, true, true, true, true, false, false, true, false, false, false] rfl)
theorem xr_pa_multiply_136 {d : Nat} {l0 l1 l2 l3 l4 l5 l6 l7 l8 l11 s0 s1 : Int} {m : w_M} {Q : Int → w_M → Prop} (h : if l7 = 0 then (w_isA 0 l2 ∧ w_wr (w_G0 sC) (Int.toNat l2) ∧ ((0 : Int) ≤ l8 ∧ l8 < w_ln l2) ∧ (w_isA 0 l2 ∧ w_wr (w_G0 sC) (Int.toNat l2) ∧ ((0 : Int) ≤ (w_32 (l8 + 1)) ∧ (w_32 (l8 + 1)) < w_ln l2) ∧ (xp_pa_multiply_48 d l0 l1 l2 l3 l4 l5 l6 0 (w_32 (l8 + 2)) (w_up (w_up m l2 l8 (w_32 l11)) l2 (w_32 (l8 + 1)) (w_32 (w_64 (s0 + s1)))) Q))) else (if l11 = (w_32 l11) then (if (w_64 (s0 + s1)) = (w_32 (w_64 (s0 + s1))) then (w_isA 0 l2 ∧ w_wr (w_G0 sC) (Int.toNat l2) ∧ ((0 : Int) ≤ l8 ∧ l8 < w_ln l2) ∧ (w_isA 0 l2 ∧ w_wr (w_G0 sC) (Int.toNat l2) ∧ ((0 : Int) ≤ (w_32 (l8 + 1)) ∧ (w_32 (l8 + 1)) < w_ln l2) ∧ (xp_pa_multiply_48 d l0 l1 l2 l3 l4 l5 l6 1 (w_32 (l8 + 2)) (w_up (w_up m l2 l8 (w_32 l11)) l2 (w_32 (l8 + 1)) (w_32 (w_64 (s0 + s1)))) Q))) else (w_isA 0 l2 ∧ w_wr (w_G0 sC) (Int.toNat l2) ∧ ((0 : Int) ≤ l8 ∧ l8 < w_ln l2) ∧ (w_isA 0 l2 ∧ w_wr (w_G0 sC) (Int.toNat l2) ∧ ((0 : Int) ≤ (w_32 (l8 + 1)) ∧ (w_32 (l8 + 1)) < w_ln l2) ∧ (xp_pa_multiply_48 d l0 l1 l2 l3 l4 l5 l6 0 (w_32 (l8 + 2)) (w_up (w_up m l2 l8 (w_32 l11)) l2 (w_32 (l8 + 1)) (w_32 (w_64 (s0 + s1)))) Q)))) else (w_isA 0 l2 ∧ w_wr (w_G0 sC) (Int.toNat l2) ∧ ((0 : Int) ≤ l8 ∧ l8 < w_ln l2) ∧ (w_isA 0 l2 ∧ w_wr (w_G0 sC) (Int.toNat l2) ∧ ((0 : Int) ≤ (w_32 (l8 + 1)) ∧ (w_32 (l8 + 1)) < w_ln l2) ∧ (xp_pa_multiply_48 d l0 l1 l2 l3 l4 l5 l6 0 (w_32 (l8 + 2)) (w_up (w_up m l2 l8 (w_32 l11)) l2 (w_32 (l8 + 1)) (w_32 (w_64 (s0 + s1)))) Q))))) : xp_pa_multiply_136 d l0 l1 l2 l3 l4 l5 l6 l7 l8 l11 s0 s1 m Q := by
  refine w_i2l rfl ?_
  refine w_ladd' rfl ?_
  refine w_lstore (lv' := [some (2, l0), some (2, l1), some (2, l2), some (0, l3), some (0, l4), some (0, l5), some (0, l6), some (0, l7), some (0, l8), none, none, some (1, l11), none, some (1, w_64 (s0 + s1)), none]) rfl rfl rfl ?_
  refine w_iload rfl rfl ?_
  refine w_ifeq rfl (w_ite h (fun h => ?_) (fun h => ?_))
  · refine w_iconst rfl (by decide) ?_
    refine w_istore (lv' := [some (2, l0), some (2, l1), some (2, l2), some (0, l3), some (0, l4), some (0, l5), some (0, l6), some (0, 0), some (0, l8), none, none, some (1, l11), none, some (1, w_64 (s0 + s1)), none]) rfl rfl rfl ?_
    refine w_aload_n rfl rfl ?_
    refine w_iload rfl rfl ?_
    refine w_lload rfl rfl ?_
    refine w_l2i rfl ?_
    refine x_iast rfl h.1 h.2.1 h.2.2.1 ?_
    replace h := h.2.2.2
    refine w_aload_n rfl rfl ?_
    refine w_iload rfl rfl ?_
    refine w_iconst rfl (by decide) ?_
    refine w_iadd rfl ?_
    refine w_lload rfl rfl ?_
    refine w_l2i rfl ?_
    refine x_iast rfl h.1 h.2.1 h.2.2.1 ?_
    replace h := h.2.2.2
    refine w_iinc (lv' := [some (2, l0), some (2, l1), some (2, l2), some (0, l3), some (0, l4), some (0, l5), some (0, l6), some (0, 0), some (0, w_32 (l8 + 2)), none, none, some (1, l11), none, some (1, w_64 (s0 + s1)), none]) rfl rfl rfl rfl ?_
    refine w_goto rfl ?_
    exact w_W.less h (w_sub [true, true, true, true, true, true, true, true, true, false, false, false, false, false, false] rfl)
  · refine w_lload rfl rfl ?_
    refine w_lload rfl rfl ?_
    refine w_l2i rfl ?_
    refine w_i2l rfl ?_
    refine w_lcne rfl rfl (w_ite h (fun h => ?_) (fun h => ?_))
    · refine w_lload rfl rfl ?_
      refine w_lload rfl rfl ?_
      refine w_l2i rfl ?_
      refine w_i2l rfl ?_
      refine w_lcne rfl rfl (w_ite h (fun h => ?_) (fun h => ?_))
      · refine w_iconst rfl (by decide) ?_
        refine w_goto rfl ?_
        refine w_istore (lv' := [some (2, l0), some (2, l1), some (2, l2), some (0, l3), some (0, l4), some (0, l5), some (0, l6), some (0, 1), some (0, l8), none, none, some (1, l11), none, some (1, w_64 (s0 + s1)), none]) rfl rfl rfl ?_
        refine w_aload_n rfl rfl ?_
        refine w_iload rfl rfl ?_
        refine w_lload rfl rfl ?_
        refine w_l2i rfl ?_
        refine x_iast rfl h.1 h.2.1 h.2.2.1 ?_
        replace h := h.2.2.2
        refine w_aload_n rfl rfl ?_
        refine w_iload rfl rfl ?_
        refine w_iconst rfl (by decide) ?_
        refine w_iadd rfl ?_
        refine w_lload rfl rfl ?_
        refine w_l2i rfl ?_
        refine x_iast rfl h.1 h.2.1 h.2.2.1 ?_
        replace h := h.2.2.2
        refine w_iinc (lv' := [some (2, l0), some (2, l1), some (2, l2), some (0, l3), some (0, l4), some (0, l5), some (0, l6), some (0, 1), some (0, w_32 (l8 + 2)), none, none, some (1, l11), none, some (1, w_64 (s0 + s1)), none]) rfl rfl rfl rfl ?_
        refine w_goto rfl ?_
        exact w_W.less h (w_sub [true, true, true, true, true, true, true, true, true, false, false, false, false, false, false] rfl)
      · refine w_iconst rfl (by decide) ?_
        refine w_istore (lv' := [some (2, l0), some (2, l1), some (2, l2), some (0, l3), some (0, l4), some (0, l5), some (0, l6), some (0, 0), some (0, l8), none, none, some (1, l11), none, some (1, w_64 (s0 + s1)), none]) rfl rfl rfl ?_
        refine w_aload_n rfl rfl ?_
        refine w_iload rfl rfl ?_
        refine w_lload rfl rfl ?_
        refine w_l2i rfl ?_
        refine x_iast rfl h.1 h.2.1 h.2.2.1 ?_
        replace h := h.2.2.2
        refine w_aload_n rfl rfl ?_
        refine w_iload rfl rfl ?_
        refine w_iconst rfl (by decide) ?_
        refine w_iadd rfl ?_
        refine w_lload rfl rfl ?_
        refine w_l2i rfl ?_
        refine x_iast rfl h.1 h.2.1 h.2.2.1 ?_
        replace h := h.2.2.2
        refine w_iinc (lv' := [some (2, l0), some (2, l1), some (2, l2), some (0, l3), some (0, l4), some (0, l5), some (0, l6), some (0, 0), some (0, w_32 (l8 + 2)), none, none, some (1, l11), none, some (1, w_64 (s0 + s1)), none]) rfl rfl rfl rfl ?_
        refine w_goto rfl ?_
        exact w_W.less h (w_sub [true, true, true, true, true, true, true, true, true, false, false, false, false, false, false] rfl)
    · refine w_iconst rfl (by decide) ?_
      refine w_istore (lv' := [some (2, l0), some (2, l1), some (2, l2), some (0, l3), some (0, l4), some (0, l5), some (0, l6), some (0, 0), some (0, l8), none, none, some (1, l11), none, some (1, w_64 (s0 + s1)), none]) rfl rfl rfl ?_
      refine w_aload_n rfl rfl ?_
      refine w_iload rfl rfl ?_
      refine w_lload rfl rfl ?_
      refine w_l2i rfl ?_
      refine x_iast rfl h.1 h.2.1 h.2.2.1 ?_
      replace h := h.2.2.2
      refine w_aload_n rfl rfl ?_
      refine w_iload rfl rfl ?_
      refine w_iconst rfl (by decide) ?_
      refine w_iadd rfl ?_
      refine w_lload rfl rfl ?_
      refine w_l2i rfl ?_
      refine x_iast rfl h.1 h.2.1 h.2.2.1 ?_
      replace h := h.2.2.2
      refine w_iinc (lv' := [some (2, l0), some (2, l1), some (2, l2), some (0, l3), some (0, l4), some (0, l5), some (0, l6), some (0, 0), some (0, w_32 (l8 + 2)), none, none, some (1, l11), none, some (1, w_64 (s0 + s1)), none]) rfl rfl rfl rfl ?_
      refine w_goto rfl ?_
      exact w_W.less h (w_sub [true, true, true, true, true, true, true, true, true, false, false, false, false, false, false] rfl)
theorem xr_pa_nextLine {d : Nat} {l1 l2 : Int} {m : w_M} {Q : Int → w_M → Prop} (h : xc_pa_give d 65536 0 0 65536 l1 l2 m (fun r1 m1 => xc_pa_multiply d 412 411 411 m1 (fun r2 m2 => ((0 : Int) ≤ 6 ∧ (0 : Int) ≤ 0 ∧ (0 : Int) ≤ 0 ∧ (0 + 6 : Int) ≤ 6 ∧ (0 + 6 : Int) ≤ 6) ∧ ((r2 = 0 ∨ r2 = 1) ∧ Q r2 (w_cpy m2 411 0 410 0 6))))) : xc_pa_nextLine (d + 1) l1 l2 m Q := by
  refine w_enter (q := 1) (lv := [some (2, 404), some (0, l1), some (0, l2), none]) rfl rfl rfl ?_
  refine w_aload_n rfl rfl ?_
  refine w_ldc (a := 65536) rfl (by decide +kernel) (by decide) ?_
  refine w_iconst rfl (by decide) ?_
  refine w_iconst rfl (by decide) ?_
  refine w_ldc (a := 65536) rfl (by decide +kernel) (by decide) ?_
  refine w_iload_n rfl rfl ?_
  refine w_iload_n rfl rfl ?_
  refine w_callV (t' := 3) [(0, l2), (0, l1), (0, 65536), (0, 0), (0, 0), (0, 65536)] [] rfl s_404 rfl rfl ?_
  refine w_C.more (Q := fun r1 m1 => _) h (fun r1 m1 h => ?_)
  replace h := id h
  refine w_aload_n rfl rfl ?_
  refine w_gfC (c := 412) rfl s_404 rfl rfl ?_
  refine w_aload_n rfl rfl ?_
  refine w_gfC (c := 411) rfl s_404 rfl rfl ?_
  refine w_aload_n rfl rfl ?_
  refine w_gfC (c := 411) rfl s_404 rfl rfl ?_
  refine w_callS (t' := 0) [(2, 411), (2, 411), (2, 412)] [] rfl (by decide) rfl rfl ?_
  refine w_C.more (Q := fun r2 m2 => _) h (fun r2 m2 h => ?_)
  replace h := id h
  refine w_istore_n (lv' := [some (2, 404), some (0, l1), some (0, l2), some (0, r2)]) rfl rfl rfl ?_
  refine w_aload_n rfl rfl ?_
  refine w_gfC (c := 411) rfl s_404 rfl rfl ?_
  refine w_iconst rfl (by decide) ?_
  refine w_aload_n rfl rfl ?_
  refine w_gfC (c := 410) rfl s_404 rfl rfl ?_
  refine w_iconst rfl (by decide) ?_
  refine w_bipush rfl (by decide) ?_
  refine w_acopy rfl s_411 s_410 (w_E1 (by decide)) (w_EC (by decide)) (by decide) rfl h.1 ?_
  replace h := h.2
  refine w_iload_n rfl rfl ?_
  exact w_zret rfl rfl h.1 h.2
theorem xr_pa_operand {d : Nat} {l1 : Int} {m : w_M} {Q : Int → w_M → Prop} (h : if l1 < 0 then (Q (-1) m) else (if l1 < (m 404 14) then (if l1 < 40 then (((0 : Int) ≤ l1 ∧ l1 < 40) ∧ (Q (m 415 l1) m)) else (Q (-1) m)) else (Q (-1) m))) : xc_pa_operand (d + 1) l1 m Q := by
  refine w_enter (q := 0) (lv := [some (2, 404), some (0, l1)]) rfl rfl rfl ?_
  refine w_iload_n rfl rfl ?_
  refine w_iflt rfl (w_ite h (fun h => ?_) (fun h => ?_))
  · refine w_iconst rfl (by decide) ?_
    exact w_iret rfl rfl h
  · refine w_iload_n rfl rfl ?_
    refine w_aload_n rfl rfl ?_
    refine x_gfI rfl s_404 rfl (kk := 14) rfl rfl ?_
    refine w_icge rfl (w_ite h (fun h => ?_) (fun h => ?_))
    · refine w_iload_n rfl rfl ?_
      refine w_aload_n rfl rfl ?_
      refine w_gfC (c := 415) rfl s_404 rfl rfl ?_
      refine w_len rfl s_415 (by decide) (n := 40) rfl (by decide) ?_
      refine w_icge rfl (w_ite h (fun h => ?_) (fun h => ?_))
      · refine w_aload_n rfl rfl ?_
        refine w_gfC (c := 415) rfl s_404 rfl rfl ?_
        refine w_iload_n rfl rfl ?_
        refine w_iald rfl s_415 (n := 40) rfl h.1 ?_
        replace h := h.2
        refine w_goto rfl ?_
        exact w_iret rfl rfl h
      · refine w_iconst rfl (by decide) ?_
        exact w_iret rfl rfl h
    · refine w_iconst rfl (by decide) ?_
      exact w_iret rfl rfl h
theorem xr_pa_operate {d : Nat} {l1 l2 : Int} {m : w_M} {Q : Int → w_M → Prop} (h : xc_pa_form d l1 m (fun r1 m1 => xc_pa_fits d r1 m1 (fun r2 m2 => if r2 = 0 then (xp_pa_operate_45 d l1 l2 r1 11 m2 Q) else (xc_pa_isInOrder d l1 m2 (fun r3 m3 => if r3 = 0 then (xp_pa_operate_45 d l1 l2 r1 12 m3 Q) else (xc_pa_findsFont d r1 m3 (fun r4 m4 => if r4 = 0 then (xp_pa_operate_45 d l1 l2 r1 13 m4 Q) else (xp_pa_operate_45 d l1 l2 r1 0 m4 Q)))))))) : xc_pa_operate (d + 1) l1 l2 m Q := by
  refine w_enter (q := 2) (lv := [some (2, 404), some (0, l1), some (0, l2), none, none]) rfl rfl rfl ?_
  refine w_iload_n rfl rfl ?_
  refine w_callS (t' := 0) [(0, l1)] [] rfl (by decide) rfl rfl ?_
  refine w_C.more (Q := fun r1 m1 => _) h (fun r1 m1 h => ?_)
  replace h := id h
  refine w_istore_n (lv' := [some (2, 404), some (0, l1), some (0, l2), some (0, r1), none]) rfl rfl rfl ?_
  refine w_aload_n rfl rfl ?_
  refine w_iload_n rfl rfl ?_
  refine w_callV (t' := 0) [(0, r1)] [] rfl s_404 rfl rfl ?_
  refine w_C.more (Q := fun r2 m2 => _) h (fun r2 m2 h => ?_)
  replace h := id h
  refine w_ifne rfl (w_ite h (fun h => ?_) (fun h => ?_))
  · refine w_bipush rfl (by decide) ?_
    refine w_goto rfl ?_
    exact w_W.less h (w_sub [true, true, true, true, false] rfl)
  · refine w_aload_n rfl rfl ?_
    refine w_iload_n rfl rfl ?_
    refine w_callV (t' := 0) [(0, l1)] [] rfl s_404 rfl rfl ?_
    refine w_C.more (Q := fun r3 m3 => _) h (fun r3 m3 h => ?_)
    replace h := id h
    refine w_ifne rfl (w_ite h (fun h => ?_) (fun h => ?_))
    · refine w_bipush rfl (by decide) ?_
      refine w_goto rfl ?_
      exact w_W.less h (w_sub [true, true, true, true, false] rfl)
    · refine w_aload_n rfl rfl ?_
      refine w_iload_n rfl rfl ?_
      refine w_callV (t' := 0) [(0, r1)] [] rfl s_404 rfl rfl ?_
      refine w_C.more (Q := fun r4 m4 => _) h (fun r4 m4 h => ?_)
      replace h := id h
      refine w_ifne rfl (w_ite h (fun h => ?_) (fun h => ?_))
      · refine w_bipush rfl (by decide) ?_
        refine w_goto rfl ?_
        exact w_W.less h (w_sub [true, true, true, true, false] rfl)
      · refine w_iconst rfl (by decide) ?_
        exact w_W.less h (w_sub [true, true, true, true, false] rfl)
theorem xr_pa_operate_45 {d : Nat} {l1 l2 l3 s0 : Int} {m : w_M} {Q : Int → w_M → Prop} (h : if s0 = 0 then (if l3 = 7 then (xc_pa_showText d l1 l3 m (fun r1 m1 => if r1 = 0 then (Q 0 m1) else (xc_ps_fail d 405 r1 l2 m1 (fun r2 m2 => Q 0 m2)))) else (if l3 = 8 then (xc_pa_showText d l1 l3 m (fun r3 m3 => if r3 = 0 then (Q 0 m3) else (xc_ps_fail d 405 r3 l2 m3 (fun r4 m4 => Q 0 m4)))) else (xc_pa_work d l1 m (fun r5 m5 => if r5 = 0 then (Q 0 m5) else (xc_ps_fail d 405 r5 l2 m5 (fun r6 m6 => Q 0 m6)))))) else (if s0 = 0 then (Q 0 m) else (xc_ps_fail d 405 s0 l2 m (fun r7 m7 => Q 0 m7)))) : xp_pa_operate_45 d l1 l2 l3 s0 m Q := by
  refine w_istore (lv' := [some (2, 404), some (0, l1), some (0, l2), some (0, l3), some (0, s0)]) rfl rfl rfl ?_
  refine w_iload rfl rfl ?_
  refine w_ifne rfl (w_ite h (fun h => ?_) (fun h => ?_))
  · refine w_iload_n rfl rfl ?_
    refine w_bipush rfl (by decide) ?_
    refine w_iceq rfl (w_ite h (fun h => ?_) (fun h => ?_))
    · refine w_aload_n rfl rfl ?_
      refine w_iload_n rfl rfl ?_
      refine w_iload_n rfl rfl ?_
      refine w_callV (t' := 0) [(0, l3), (0, l1)] [] rfl s_404 rfl rfl ?_
      refine w_C.more (Q := fun r1 m1 => _) h (fun r1 m1 h => ?_)
      replace h := id h
      refine w_goto rfl ?_
      refine w_istore (lv' := [some (2, 404), some (0, l1), some (0, l2), some (0, l3), some (0, r1)]) rfl rfl rfl ?_
      refine w_iload rfl rfl ?_
      refine w_ifeq rfl (w_ite h (fun h => ?_) (fun h => ?_))
      · exact w_vret rfl rfl h
      · refine w_aload_n rfl rfl ?_
        refine w_gfC (c := 405) rfl s_404 rfl rfl ?_
        refine w_iload rfl rfl ?_
        refine w_iload_n rfl rfl ?_
        refine w_callV (t' := 0) [(0, l2), (0, r1)] [] rfl s_405 rfl rfl ?_
        refine w_C.more (Q := fun r2 m2 => _) h (fun r2 m2 h => ?_)
        replace h := id h
        refine w_pop rfl (show (0 : Nat) ≠ 1 by decide) ?_
        exact w_vret rfl rfl h
    · refine w_iload_n rfl rfl ?_
      refine w_bipush rfl (by decide) ?_
      refine w_icne rfl (w_ite h (fun h => ?_) (fun h => ?_))
      · refine w_aload_n rfl rfl ?_
        refine w_iload_n rfl rfl ?_
        refine w_iload_n rfl rfl ?_
        refine w_callV (t' := 0) [(0, l3), (0, l1)] [] rfl s_404 rfl rfl ?_
        refine w_C.more (Q := fun r3 m3 => _) h (fun r3 m3 h => ?_)
        replace h := id h
        refine w_goto rfl ?_
        refine w_istore (lv' := [some (2, 404), some (0, l1), some (0, l2), some (0, l3), some (0, r3)]) rfl rfl rfl ?_
        refine w_iload rfl rfl ?_
        refine w_ifeq rfl (w_ite h (fun h => ?_) (fun h => ?_))
        · exact w_vret rfl rfl h
        · refine w_aload_n rfl rfl ?_
          refine w_gfC (c := 405) rfl s_404 rfl rfl ?_
          refine w_iload rfl rfl ?_
          refine w_iload_n rfl rfl ?_
          refine w_callV (t' := 0) [(0, l2), (0, r3)] [] rfl s_405 rfl rfl ?_
          refine w_C.more (Q := fun r4 m4 => _) h (fun r4 m4 h => ?_)
          replace h := id h
          refine w_pop rfl (show (0 : Nat) ≠ 1 by decide) ?_
          exact w_vret rfl rfl h
      · refine w_aload_n rfl rfl ?_
        refine w_iload_n rfl rfl ?_
        refine w_callV (t' := 0) [(0, l1)] [] rfl s_404 rfl rfl ?_
        refine w_C.more (Q := fun r5 m5 => _) h (fun r5 m5 h => ?_)
        replace h := id h
        refine w_istore (lv' := [some (2, 404), some (0, l1), some (0, l2), some (0, l3), some (0, r5)]) rfl rfl rfl ?_
        refine w_iload rfl rfl ?_
        refine w_ifeq rfl (w_ite h (fun h => ?_) (fun h => ?_))
        · exact w_vret rfl rfl h
        · refine w_aload_n rfl rfl ?_
          refine w_gfC (c := 405) rfl s_404 rfl rfl ?_
          refine w_iload rfl rfl ?_
          refine w_iload_n rfl rfl ?_
          refine w_callV (t' := 0) [(0, l2), (0, r5)] [] rfl s_405 rfl rfl ?_
          refine w_C.more (Q := fun r6 m6 => _) h (fun r6 m6 h => ?_)
          replace h := id h
          refine w_pop rfl (show (0 : Nat) ≠ 1 by decide) ?_
          exact w_vret rfl rfl h
  · refine w_iload rfl rfl ?_
    refine w_ifeq rfl (w_ite h (fun h => ?_) (fun h => ?_))
    · exact w_vret rfl rfl h
    · refine w_aload_n rfl rfl ?_
      refine w_gfC (c := 405) rfl s_404 rfl rfl ?_
      refine w_iload rfl rfl ?_
      refine w_iload_n rfl rfl ?_
      refine w_callV (t' := 0) [(0, l2), (0, s0)] [] rfl s_405 rfl rfl ?_
      refine w_C.more (Q := fun r7 m7 => _) h (fun r7 m7 h => ?_)
      replace h := id h
      refine w_pop rfl (show (0 : Nat) ≠ 1 by decide) ?_
      exact w_vret rfl rfl h
theorem xr_pa_paint {d : Nat} {l1 : Int} {m : w_M} {Q : Int → w_M → Prop} (h : xc_ja_fill sC d 408 0 (w_up (w_up (w_up (w_up (w_up m 404 17 l1) 404 18 0) 404 14 0) 404 15 0) 404 16 0) (fun r1 m1 => xc_ps_restart d 405 0 (w_up (w_up (w_up m1 408 0 65536) 408 3 65536) 408 6 (-1)) (fun r2 m2 => xc_tr_gather d (m2 404 17) 407 m2 (fun r3 m3 => xc_ps_open d 405 407 0 (min r3 40000) m3 (fun r4 m4 => xc_ps_skipWhite d 405 m4 (fun r5 m5 => xp_pa_paint_130 d (m 359 6) (m 359 7) (min r3 40000) 0 m5 Q)))))) : xc_pa_paint (d + 1) l1 m Q := by
  refine w_enter (q := 6) (lv := [some (2, 404), some (0, l1), none, none, none, none, none, none]) rfl rfl rfl ?_
  refine w_aload_n rfl rfl ?_
  refine w_gfC (c := 359) rfl s_404 rfl rfl ?_
  refine x_gfI rfl s_359 rfl (kk := 6) rfl rfl ?_
  refine w_istore_n (lv' := [some (2, 404), some (0, l1), some (0, m 359 6), none, none, none, none, none]) rfl rfl rfl ?_
  refine w_aload_n rfl rfl ?_
  refine w_gfC (c := 359) rfl s_404 rfl rfl ?_
  refine x_gfI rfl s_359 rfl (kk := 7) rfl rfl ?_
  refine w_istore_n (lv' := [some (2, 404), some (0, l1), some (0, m 359 6), some (0, m 359 7), none, none, none, none]) rfl rfl rfl ?_
  refine w_aload_n rfl rfl ?_
  refine w_iload_n rfl rfl ?_
  refine w_pfI rfl s_404 rfl (w_EC (by decide)) rfl (kk := 17) rfl ?_
  refine w_aload_n rfl rfl ?_
  refine w_iconst rfl (by decide) ?_
  refine w_pfI rfl s_404 rfl (w_EC (by decide)) rfl (kk := 18) rfl ?_
  refine w_aload_n rfl rfl ?_
  refine w_iconst rfl (by decide) ?_
  refine w_pfI rfl s_404 rfl (w_EC (by decide)) rfl (kk := 14) rfl ?_
  refine w_aload_n rfl rfl ?_
  refine w_iconst rfl (by decide) ?_
  refine w_pfI rfl s_404 rfl (w_EC (by decide)) rfl (kk := 15) rfl ?_
  refine w_aload_n rfl rfl ?_
  refine w_iconst rfl (by decide) ?_
  refine w_pfZ rfl s_404 rfl (w_EC (by decide)) rfl (kk := 16) rfl (by decide) ?_
  refine w_aload_n rfl rfl ?_
  refine w_gfC (c := 408) rfl s_404 rfl rfl ?_
  refine w_iconst rfl (by decide) ?_
  refine w_callS (t' := 3) [(0, 0), (2, 408)] [] rfl (by decide) rfl rfl ?_
  refine w_C.more (Q := fun r1 m1 => _) h (fun r1 m1 h => ?_)
  replace h := id h
  refine w_aload_n rfl rfl ?_
  refine w_gfC (c := 408) rfl s_404 rfl rfl ?_
  refine w_iconst rfl (by decide) ?_
  refine w_ldc (a := 65536) rfl (by decide +kernel) (by decide) ?_
  refine w_iast rfl s_408 (w_EC (by decide)) (n := 12) rfl (by decide) ?_
  refine w_aload_n rfl rfl ?_
  refine w_gfC (c := 408) rfl s_404 rfl rfl ?_
  refine w_iconst rfl (by decide) ?_
  refine w_ldc (a := 65536) rfl (by decide +kernel) (by decide) ?_
  refine w_iast rfl s_408 (w_EC (by decide)) (n := 12) rfl (by decide) ?_
  refine w_aload_n rfl rfl ?_
  refine w_gfC (c := 408) rfl s_404 rfl rfl ?_
  refine w_bipush rfl (by decide) ?_
  refine w_iconst rfl (by decide) ?_
  refine w_iast rfl s_408 (w_EC (by decide)) (n := 12) rfl (by decide) ?_
  refine w_aload_n rfl rfl ?_
  refine w_gfC (c := 405) rfl s_404 rfl rfl ?_
  refine w_iconst rfl (by decide) ?_
  refine w_callV (t' := 3) [(0, 0)] [] rfl s_405 rfl rfl ?_
  refine w_C.more (Q := fun r2 m2 => _) h (fun r2 m2 h => ?_)
  replace h := id h
  refine w_aload_n rfl rfl ?_
  refine w_gfC (c := 399) rfl s_404 rfl rfl ?_
  refine w_aload_n rfl rfl ?_
  refine x_gfI rfl s_404 rfl (kk := 17) rfl rfl ?_
  refine w_aload_n rfl rfl ?_
  refine w_gfC (c := 407) rfl s_404 rfl rfl ?_
  refine w_callV (t' := 0) [(2, 407), (0, m2 404 17)] [] rfl s_399 rfl rfl ?_
  refine w_C.more (Q := fun r3 m3 => _) h (fun r3 m3 h => ?_)
  replace h := id h
  refine w_aload_n rfl rfl ?_
  refine w_gfC (c := 407) rfl s_404 rfl rfl ?_
  refine w_len rfl s_407 (by decide) (n := 40000) rfl (by decide) ?_
  refine w_min rfl rfl ?_
  refine w_istore (lv' := [some (2, 404), some (0, l1), some (0, m 359 6), some (0, m 359 7), some (0, min r3 40000), none, none, none]) rfl rfl rfl ?_
  refine w_aload_n rfl rfl ?_
  refine w_gfC (c := 405) rfl s_404 rfl rfl ?_
  refine w_aload_n rfl rfl ?_
  refine w_gfC (c := 407) rfl s_404 rfl rfl ?_
  refine w_iconst rfl (by decide) ?_
  refine w_iload rfl rfl ?_
  refine w_callV (t' := 3) [(0, min r3 40000), (0, 0), (2, 407)] [] rfl s_405 rfl rfl ?_
  refine w_C.more (Q := fun r4 m4 => _) h (fun r4 m4 h => ?_)
  replace h := id h
  refine w_aload_n rfl rfl ?_
  refine w_gfC (c := 405) rfl s_404 rfl rfl ?_
  refine w_callV (t' := 3) [] [] rfl s_405 rfl rfl ?_
  refine w_C.more (Q := fun r5 m5 => _) h (fun r5 m5 h => ?_)
  replace h := id h
  refine w_iconst rfl (by decide) ?_
  refine w_istore (lv' := [some (2, 404), some (0, l1), some (0, m 359 6), some (0, m 359 7), some (0, min r3 40000), some (0, 0), none, none]) rfl rfl rfl ?_
  exact w_W.less h (w_sub [true, false, true, true, true, true, false, false] rfl)
theorem xr_pa_paint_130 {d : Nat} {l2 l3 l4 l5 : Int} {m : w_M} {Q : Int → w_M → Prop} (h : if l5 < l4 then (if (m 405 4) < l4 then (if (m 405 6) = 0 then (xc_ps_operator d 405 m (fun r1 m1 => if r1 < 0 then (if (m1 404 14) < 40 then (xc_ps_object d 405 0 m1 (fun r2 m2 => ((0 : Int) ≤ (m1 404 14) ∧ (m1 404 14) < 40) ∧ (xc_ps_skipWhite d 405 (w_up (w_up m2 415 (m1 404 14) r2) 404 14 (w_32 ((m2 404 14) + 1))) (fun r3 m3 => xp_pa_paint_130 d l2 l3 l4 (w_32 (l5 + 1)) m3 Q)))) else (xc_ps_fail d 405 11 (m 405 4) m1 (fun r4 m4 => xc_ps_skipWhite d 405 m4 (fun r5 m5 => xp_pa_paint_130 d l2 l3 l4 (w_32 (l5 + 1)) m5 Q)))) else (xc_pa_operate d r1 (m 405 4) m1 (fun r6 m6 => xc_st_release d l2 l3 m6 (fun r7 m7 => xc_ps_countAnew d 405 (w_up m7 404 14 0) (fun r8 m8 => xc_ps_skipWhite d 405 m8 (fun r9 m9 => xp_pa_paint_130 d l2 l3 l4 (w_32 (l5 + 1)) m9 Q))))))) else (xp_pa_paint_281 d l2 l3 l4 m Q)) else (xp_pa_paint_281 d l2 l3 l4 m Q)) else (xp_pa_paint_281 d l2 l3 l4 m Q)) : xp_pa_paint_130 d l2 l3 l4 l5 m Q := by
  refine w_iload rfl rfl ?_
  refine w_iload rfl rfl ?_
  refine w_icge rfl (w_ite h (fun h => ?_) (fun h => ?_))
  · refine w_aload_n rfl rfl ?_
    refine w_gfC (c := 405) rfl s_404 rfl rfl ?_
    refine x_gfI rfl s_405 rfl (kk := 4) rfl rfl ?_
    refine w_iload rfl rfl ?_
    refine w_icge rfl (w_ite h (fun h => ?_) (fun h => ?_))
    · refine w_aload_n rfl rfl ?_
      refine w_gfC (c := 405) rfl s_404 rfl rfl ?_
      refine x_gfI rfl s_405 rfl (kk := 6) rfl rfl ?_
      refine w_ifne rfl (w_ite h (fun h => ?_) (fun h => ?_))
      · refine w_aload_n rfl rfl ?_
        refine w_gfC (c := 405) rfl s_404 rfl rfl ?_
        refine x_gfI rfl s_405 rfl (kk := 4) rfl rfl ?_
        refine w_istore (lv' := [some (2, 404), none, some (0, l2), some (0, l3), some (0, l4), some (0, l5), some (0, m 405 4), none]) rfl rfl rfl ?_
        refine w_aload_n rfl rfl ?_
        refine w_gfC (c := 405) rfl s_404 rfl rfl ?_
        refine w_callV (t' := 0) [] [] rfl s_405 rfl rfl ?_
        refine w_C.more (Q := fun r1 m1 => _) h (fun r1 m1 h => ?_)
        replace h := id h
        refine w_istore (lv' := [some (2, 404), none, some (0, l2), some (0, l3), some (0, l4), some (0, l5), some (0, m 405 4), some (0, r1)]) rfl rfl rfl ?_
        refine w_iload rfl rfl ?_
        refine w_iflt rfl (w_ite h (fun h => ?_) (fun h => ?_))
        · refine w_aload_n rfl rfl ?_
          refine x_gfI rfl s_404 rfl (kk := 14) rfl rfl ?_
          refine w_aload_n rfl rfl ?_
          refine w_gfC (c := 415) rfl s_404 rfl rfl ?_
          refine w_len rfl s_415 (by decide) (n := 40) rfl (by decide) ?_
          refine w_iclt rfl (w_ite h (fun h => ?_) (fun h => ?_))
          · refine w_aload_n rfl rfl ?_
            refine w_gfC (c := 415) rfl s_404 rfl rfl ?_
            refine w_aload_n rfl rfl ?_
            refine x_gfI rfl s_404 rfl (kk := 14) rfl rfl ?_
            refine w_aload_n rfl rfl ?_
            refine w_gfC (c := 405) rfl s_404 rfl rfl ?_
            refine w_iconst rfl (by decide) ?_
            refine w_callV (t' := 0) [(0, 0)] [(0, m1 404 14), (2, 415)] rfl s_405 rfl rfl ?_
            refine w_C.more (Q := fun r2 m2 => _) h (fun r2 m2 h => ?_)
            replace h := id h
            refine w_iast rfl s_415 (w_EC (by decide)) (n := 40) rfl h.1 ?_
            replace h := h.2
            refine w_aload_n rfl rfl ?_
            refine w_dup rfl (show (2 : Nat) ≠ 1 by decide) ?_
            refine x_gfI rfl s_404 rfl (kk := 14) rfl (w_up_ne (by decide)) ?_
            refine w_iconst rfl (by decide) ?_
            refine w_iadd rfl ?_
            refine w_pfI rfl s_404 rfl (w_EC (by decide)) rfl (kk := 14) rfl ?_
            refine w_aload_n rfl rfl ?_
            refine w_gfC (c := 405) rfl s_404 rfl rfl ?_
            refine w_callV (t' := 3) [] [] rfl s_405 rfl rfl ?_
            refine w_C.more (Q := fun r3 m3 => _) h (fun r3 m3 h => ?_)
            replace h := id h
            refine w_iinc (lv' := [some (2, 404), none, some (0, l2), some (0, l3), some (0, l4), some (0, w_32 (l5 + 1)), some (0, m 405 4), some (0, r1)]) rfl rfl rfl rfl ?_
            refine w_goto rfl ?_
            exact w_W.less h (w_sub [true, false, true, true, true, true, false, false] rfl)
          · refine w_aload_n rfl rfl ?_
            refine w_gfC (c := 405) rfl s_404 rfl rfl ?_
            refine w_bipush rfl (by decide) ?_
            refine w_iload rfl rfl ?_
            refine w_callV (t' := 0) [(0, m 405 4), (0, 11)] [] rfl s_405 rfl rfl ?_
            refine w_C.more (Q := fun r4 m4 => _) h (fun r4 m4 h => ?_)
            replace h := id h
            refine w_pop rfl (show (0 : Nat) ≠ 1 by decide) ?_
            refine w_goto rfl ?_
            refine w_aload_n rfl rfl ?_
            refine w_gfC (c := 405) rfl s_404 rfl rfl ?_
            refine w_callV (t' := 3) [] [] rfl s_405 rfl rfl ?_
            refine w_C.more (Q := fun r5 m5 => _) h (fun r5 m5 h => ?_)
            replace h := id h
            refine w_iinc (lv' := [some (2, 404), none, some (0, l2), some (0, l3), some (0, l4), some (0, w_32 (l5 + 1)), some (0, m 405 4), some (0, r1)]) rfl rfl rfl rfl ?_
            refine w_goto rfl ?_
            exact w_W.less h (w_sub [true, false, true, true, true, true, false, false] rfl)
        · refine w_aload_n rfl rfl ?_
          refine w_iload rfl rfl ?_
          refine w_iload rfl rfl ?_
          refine w_callV (t' := 3) [(0, m 405 4), (0, r1)] [] rfl s_404 rfl rfl ?_
          refine w_C.more (Q := fun r6 m6 => _) h (fun r6 m6 h => ?_)
          replace h := id h
          refine w_aload_n rfl rfl ?_
          refine w_gfC (c := 359) rfl s_404 rfl rfl ?_
          refine w_iload_n rfl rfl ?_
          refine w_iload_n rfl rfl ?_
          refine w_callV (t' := 3) [(0, l3), (0, l2)] [] rfl s_359 rfl rfl ?_
          refine w_C.more (Q := fun r7 m7 => _) h (fun r7 m7 h => ?_)
          replace h := id h
          refine w_aload_n rfl rfl ?_
          refine w_iconst rfl (by decide) ?_
          refine w_pfI rfl s_404 rfl (w_EC (by decide)) rfl (kk := 14) rfl ?_
          refine w_aload_n rfl rfl ?_
          refine w_gfC (c := 405) rfl s_404 rfl rfl ?_
          refine w_callV (t' := 3) [] [] rfl s_405 rfl rfl ?_
          refine w_C.more (Q := fun r8 m8 => _) h (fun r8 m8 h => ?_)
          replace h := id h
          refine w_goto rfl ?_
          refine w_aload_n rfl rfl ?_
          refine w_gfC (c := 405) rfl s_404 rfl rfl ?_
          refine w_callV (t' := 3) [] [] rfl s_405 rfl rfl ?_
          refine w_C.more (Q := fun r9 m9 => _) h (fun r9 m9 h => ?_)
          replace h := id h
          refine w_iinc (lv' := [some (2, 404), none, some (0, l2), some (0, l3), some (0, l4), some (0, w_32 (l5 + 1)), some (0, m 405 4), some (0, r1)]) rfl rfl rfl rfl ?_
          refine w_goto rfl ?_
          exact w_W.less h (w_sub [true, false, true, true, true, true, false, false] rfl)
      · exact w_W.less h (w_sub [true, false, true, true, true, false, false, false] rfl)
    · exact w_W.less h (w_sub [true, false, true, true, true, false, false, false] rfl)
  · exact w_W.less h (w_sub [true, false, true, true, true, false, false, false] rfl)
theorem xr_pa_paint_281 {d : Nat} {l2 l3 l4 : Int} {m : w_M} {Q : Int → w_M → Prop} (h : if (m 404 16) = 0 then (if 0 < (m 404 15) then (xp_pa_paint_295 d l2 l3 l4 m Q) else (xc_st_release d l2 l3 m (fun r1 m1 => if (m1 405 6) = 0 then (Q 0 (w_up m1 404 18 (m1 404 18))) else (Q 0 (w_up m1 404 18 0))))) else (xp_pa_paint_295 d l2 l3 l4 m Q)) : xp_pa_paint_281 d l2 l3 l4 m Q := by
  refine w_aload_n rfl rfl ?_
  refine x_gfZ rfl s_404 rfl (kk := 16) rfl rfl ?_
  refine w_ifne rfl (w_ite h (fun h => ?_) (fun h => ?_))
  · refine w_aload_n rfl rfl ?_
    refine x_gfI rfl s_404 rfl (kk := 15) rfl rfl ?_
    refine w_ifle rfl (w_ite h (fun h => ?_) (fun h => ?_))
    · exact w_W.less h (w_sub [true, false, true, true, true, false, false, false] rfl)
    · refine w_aload_n rfl rfl ?_
      refine w_gfC (c := 359) rfl s_404 rfl rfl ?_
      refine w_iload_n rfl rfl ?_
      refine w_iload_n rfl rfl ?_
      refine w_callV (t' := 3) [(0, l3), (0, l2)] [] rfl s_359 rfl rfl ?_
      refine w_C.more (Q := fun r1 m1 => _) h (fun r1 m1 h => ?_)
      replace h := id h
      refine w_aload_n rfl rfl ?_
      refine w_aload_n rfl rfl ?_
      refine w_gfC (c := 405) rfl s_404 rfl rfl ?_
      refine x_gfI rfl s_405 rfl (kk := 6) rfl rfl ?_
      refine w_ifne rfl (w_ite h (fun h => ?_) (fun h => ?_))
      · refine w_aload_n rfl rfl ?_
        refine x_gfI rfl s_404 rfl (kk := 18) rfl rfl ?_
        refine w_goto rfl ?_
        refine w_pfI rfl s_404 rfl (w_EC (by decide)) rfl (kk := 18) rfl ?_
        exact w_vret rfl rfl h
      · refine w_iconst rfl (by decide) ?_
        refine w_pfI rfl s_404 rfl (w_EC (by decide)) rfl (kk := 18) rfl ?_
        exact w_vret rfl rfl h
  · exact w_W.less h (w_sub [true, false, true, true, true, false, false, false] rfl)
theorem xr_pa_paint_295 {d : Nat} {l2 l3 l4 : Int} {m : w_M} {Q : Int → w_M → Prop} (h : xc_ps_fail d 405 12 l4 m (fun r1 m1 => xc_st_release d l2 l3 m1 (fun r2 m2 => if (m2 405 6) = 0 then (Q 0 (w_up m2 404 18 (m2 404 18))) else (Q 0 (w_up m2 404 18 0))))) : xp_pa_paint_295 d l2 l3 l4 m Q := by
  refine w_aload_n rfl rfl ?_
  refine w_gfC (c := 405) rfl s_404 rfl rfl ?_
  refine w_bipush rfl (by decide) ?_
  refine w_iload rfl rfl ?_
  refine w_callV (t' := 0) [(0, l4), (0, 12)] [] rfl s_405 rfl rfl ?_
  refine w_C.more (Q := fun r1 m1 => _) h (fun r1 m1 h => ?_)
  replace h := id h
  refine w_pop rfl (show (0 : Nat) ≠ 1 by decide) ?_
  refine w_aload_n rfl rfl ?_
  refine w_gfC (c := 359) rfl s_404 rfl rfl ?_
  refine w_iload_n rfl rfl ?_
  refine w_iload_n rfl rfl ?_
  refine w_callV (t' := 3) [(0, l3), (0, l2)] [] rfl s_359 rfl rfl ?_
  refine w_C.more (Q := fun r2 m2 => _) h (fun r2 m2 h => ?_)
  replace h := id h
  refine w_aload_n rfl rfl ?_
  refine w_aload_n rfl rfl ?_
  refine w_gfC (c := 405) rfl s_404 rfl rfl ?_
  refine x_gfI rfl s_405 rfl (kk := 6) rfl rfl ?_
  refine w_ifne rfl (w_ite h (fun h => ?_) (fun h => ?_))
  · refine w_aload_n rfl rfl ?_
    refine x_gfI rfl s_404 rfl (kk := 18) rfl rfl ?_
    refine w_goto rfl ?_
    refine w_pfI rfl s_404 rfl (w_EC (by decide)) rfl (kk := 18) rfl ?_
    exact w_vret rfl rfl h
  · refine w_iconst rfl (by decide) ?_
    refine w_pfI rfl s_404 rfl (w_EC (by decide)) rfl (kk := 18) rfl ?_
    exact w_vret rfl rfl h
theorem xr_pa_readFont {d : Nat} {l1 : Int} {m : w_M} {Q : Int → w_M → Prop} (h : xc_ta_entry d l1 13 m (fun r1 m1 => xc_ta_entry d l1 14 m1 (fun r2 m2 => xc_ta_entry d l1 15 m2 (fun r3 m3 => xc_st_oneOf d r1 m3 (fun r4 m4 => xc_st_oneOf d r2 m4 (fun r5 m5 => xc_ta_entry d l1 1 m5 (fun r6 m6 => xc_st_isName d r6 12 m6 (fun r7 m7 => if r7 = 0 then (Q 0 m7) else (xc_st_kindOf d r1 m7 (fun r8 m8 => if r8 = 2 then (xc_st_kindOf d r2 m8 (fun r9 m9 => if r9 = 2 then (if r4 < 0 then (Q 0 m9) else (if r5 < r4 then (Q 0 m9) else (if r5 < 256 then (xc_st_kindOf d r3 m9 (fun r10 m10 => if r10 = 6 then (xc_st_parts d r3 m10 (fun r11 m11 => if r11 = (w_32 ((w_32 (r5 - r4)) + 1)) then (xc_st_firstPart d r3 m11 (fun r12 m12 => xp_pa_readFont_170 d r4 r5 r12 0 m12 Q)) else (Q 0 m11))) else (Q 0 m10))) else (Q 0 m9)))) else (Q 0 m9))) else (Q 0 m8))))))))))) : xc_pa_readFont (d + 1) l1 m Q := by
  refine w_enter (q := 8) (lv := [some (2, 404), some (0, l1), none, none, none, none, none, none, none, none]) rfl rfl rfl ?_
  refine w_aload_n rfl rfl ?_
  refine w_gfC (c := 366) rfl s_404 rfl rfl ?_
  refine w_iload_n rfl rfl ?_
  refine w_bipush rfl (by decide) ?_
  refine w_callV (t' := 0) [(0, 13), (0, l1)] [] rfl s_366 rfl rfl ?_
  refine w_C.more (Q := fun r1 m1 => _) h (fun r1 m1 h => ?_)
  replace h := id h
  refine w_istore_n (lv' := [some (2, 404), some (0, l1), some (0, r1), none, none, none, none, none, none, none]) rfl rfl rfl ?_
  refine w_aload_n rfl rfl ?_
  refine w_gfC (c := 366) rfl s_404 rfl rfl ?_
  refine w_iload_n rfl rfl ?_
  refine w_bipush rfl (by decide) ?_
  refine w_callV (t' := 0) [(0, 14), (0, l1)] [] rfl s_366 rfl rfl ?_
  refine w_C.more (Q := fun r2 m2 => _) h (fun r2 m2 h => ?_)
  replace h := id h
  refine w_istore_n (lv' := [some (2, 404), some (0, l1), some (0, r1), some (0, r2), none, none, none, none, none, none]) rfl rfl rfl ?_
  refine w_aload_n rfl rfl ?_
  refine w_gfC (c := 366) rfl s_404 rfl rfl ?_
  refine w_iload_n rfl rfl ?_
  refine w_bipush rfl (by decide) ?_
  refine w_callV (t' := 0) [(0, 15), (0, l1)] [] rfl s_366 rfl rfl ?_
  refine w_C.more (Q := fun r3 m3 => _) h (fun r3 m3 h => ?_)
  replace h := id h
  refine w_istore (lv' := [some (2, 404), some (0, l1), some (0, r1), some (0, r2), some (0, r3), none, none, none, none, none]) rfl rfl rfl ?_
  refine w_aload_n rfl rfl ?_
  refine w_gfC (c := 359) rfl s_404 rfl rfl ?_
  refine w_iload_n rfl rfl ?_
  refine w_callV (t' := 0) [(0, r1)] [] rfl s_359 rfl rfl ?_
  refine w_C.more (Q := fun r4 m4 => _) h (fun r4 m4 h => ?_)
  replace h := id h
  refine w_istore (lv' := [some (2, 404), some (0, l1), some (0, r1), some (0, r2), some (0, r3), some (0, r4), none, none, none, none]) rfl rfl rfl ?_
  refine w_aload_n rfl rfl ?_
  refine w_gfC (c := 359) rfl s_404 rfl rfl ?_
  refine w_iload_n rfl rfl ?_
  refine w_callV (t' := 0) [(0, r2)] [] rfl s_359 rfl rfl ?_
  refine w_C.more (Q := fun r5 m5 => _) h (fun r5 m5 h => ?_)
  replace h := id h
  refine w_istore (lv' := [some (2, 404), some (0, l1), some (0, r1), some (0, r2), some (0, r3), some (0, r4), some (0, r5), none, none, none]) rfl rfl rfl ?_
  refine w_aload_n rfl rfl ?_
  refine w_gfC (c := 359) rfl s_404 rfl rfl ?_
  refine w_aload_n rfl rfl ?_
  refine w_gfC (c := 366) rfl s_404 rfl rfl ?_
  refine w_iload_n rfl rfl ?_
  refine w_iconst rfl (by decide) ?_
  refine w_callV (t' := 0) [(0, 1), (0, l1)] [(2, 359)] rfl s_366 rfl rfl ?_
  refine w_C.more (Q := fun r6 m6 => _) h (fun r6 m6 h => ?_)
  replace h := id h
  refine w_bipush rfl (by decide) ?_
  refine w_callV (t' := 0) [(0, 12), (0, r6)] [] rfl s_359 rfl rfl ?_
  refine w_C.more (Q := fun r7 m7 => _) h (fun r7 m7 h => ?_)
  replace h := id h
  refine w_ifeq rfl (w_ite h (fun h => ?_) (fun h => ?_))
  · refine w_iconst rfl (by decide) ?_
    exact w_zret rfl rfl (by decide) h
  · refine w_aload_n rfl rfl ?_
    refine w_gfC (c := 359) rfl s_404 rfl rfl ?_
    refine w_iload_n rfl rfl ?_
    refine w_callV (t' := 0) [(0, r1)] [] rfl s_359 rfl rfl ?_
    refine w_C.more (Q := fun r8 m8 => _) h (fun r8 m8 h => ?_)
    replace h := id h
    refine w_iconst rfl (by decide) ?_
    refine w_icne rfl (w_ite h (fun h => ?_) (fun h => ?_))
    · refine w_aload_n rfl rfl ?_
      refine w_gfC (c := 359) rfl s_404 rfl rfl ?_
      refine w_iload_n rfl rfl ?_
      refine w_callV (t' := 0) [(0, r2)] [] rfl s_359 rfl rfl ?_
      refine w_C.more (Q := fun r9 m9 => _) h (fun r9 m9 h => ?_)
      replace h := id h
      refine w_iconst rfl (by decide) ?_
      refine w_icne rfl (w_ite h (fun h => ?_) (fun h => ?_))
      · refine w_iload rfl rfl ?_
        refine w_iflt rfl (w_ite h (fun h => ?_) (fun h => ?_))
        · refine w_iconst rfl (by decide) ?_
          exact w_zret rfl rfl (by decide) h
        · refine w_iload rfl rfl ?_
          refine w_iload rfl rfl ?_
          refine w_iclt rfl (w_ite h (fun h => ?_) (fun h => ?_))
          · refine w_iconst rfl (by decide) ?_
            exact w_zret rfl rfl (by decide) h
          · refine w_iload rfl rfl ?_
            refine w_aload_n rfl rfl ?_
            refine w_gfC (c := 414) rfl s_404 rfl rfl ?_
            refine w_len rfl s_414 (by decide) (n := 256) rfl (by decide) ?_
            refine w_icge rfl (w_ite h (fun h => ?_) (fun h => ?_))
            · refine w_aload_n rfl rfl ?_
              refine w_gfC (c := 359) rfl s_404 rfl rfl ?_
              refine w_iload rfl rfl ?_
              refine w_callV (t' := 0) [(0, r3)] [] rfl s_359 rfl rfl ?_
              refine w_C.more (Q := fun r10 m10 => _) h (fun r10 m10 h => ?_)
              replace h := id h
              refine w_bipush rfl (by decide) ?_
              refine w_icne rfl (w_ite h (fun h => ?_) (fun h => ?_))
              · refine w_aload_n rfl rfl ?_
                refine w_gfC (c := 359) rfl s_404 rfl rfl ?_
                refine w_iload rfl rfl ?_
                refine w_callV (t' := 0) [(0, r3)] [] rfl s_359 rfl rfl ?_
                refine w_C.more (Q := fun r11 m11 => _) h (fun r11 m11 h => ?_)
                replace h := id h
                refine w_iload rfl rfl ?_
                refine w_iload rfl rfl ?_
                refine w_isub rfl ?_
                refine w_iconst rfl (by decide) ?_
                refine w_iadd rfl ?_
                refine w_iceq rfl (w_ite h (fun h => ?_) (fun h => ?_))
                · refine w_aload_n rfl rfl ?_
                  refine w_gfC (c := 359) rfl s_404 rfl rfl ?_
                  refine w_iload rfl rfl ?_
                  refine w_callV (t' := 0) [(0, r3)] [] rfl s_359 rfl rfl ?_
                  refine w_C.more (Q := fun r12 m12 => _) h (fun r12 m12 h => ?_)
                  replace h := id h
                  refine w_istore (lv' := [some (2, 404), some (0, l1), some (0, r1), some (0, r2), some (0, r3), some (0, r4), some (0, r5), some (0, r12), none, none]) rfl rfl rfl ?_
                  refine w_iconst rfl (by decide) ?_
                  refine w_istore (lv' := [some (2, 404), some (0, l1), some (0, r1), some (0, r2), some (0, r3), some (0, r4), some (0, r5), some (0, r12), some (0, 0), none]) rfl rfl rfl ?_
                  exact w_W.less h (w_sub [true, false, false, false, false, true, true, true, true, false] rfl)
                · refine w_iconst rfl (by decide) ?_
                  exact w_zret rfl rfl (by decide) h
              · refine w_iconst rfl (by decide) ?_
                exact w_zret rfl rfl (by decide) h
            · refine w_iconst rfl (by decide) ?_
              exact w_zret rfl rfl (by decide) h
      · refine w_iconst rfl (by decide) ?_
        exact w_zret rfl rfl (by decide) h
    · refine w_iconst rfl (by decide) ?_
      exact w_zret rfl rfl (by decide) h
theorem xr_pa_readFont_170 {d : Nat} {l5 l6 l7 l8 : Int} {m : w_M} {Q : Int → w_M → Prop} (h : if l8 < 256 then (((0 : Int) ≤ l8 ∧ l8 < 256) ∧ (if l8 < l5 then (xp_pa_readFont_170 d l5 l6 l7 (w_32 (l8 + 1)) (w_up m 414 l8 0) Q) else (if l6 < l8 then (xp_pa_readFont_170 d l5 l6 l7 (w_32 (l8 + 1)) (w_up m 414 l8 0) Q) else (xc_ta_value d l7 (w_up m 414 l8 0) (fun r1 m1 => xc_st_isNumber d r1 m1 (fun r2 m2 => if r2 = 0 then (Q 0 m2) else (xc_st_units d r1 m2 (fun r3 m3 => ((0 : Int) ≤ l8 ∧ l8 < 256) ∧ (xc_st_nextOf d l7 (w_up m3 414 l8 r3) (fun r4 m4 => xp_pa_readFont_170 d l5 l6 r4 (w_32 (l8 + 1)) m4 Q)))))))))) else (Q 1 m)) : xp_pa_readFont_170 d l5 l6 l7 l8 m Q := by
  refine w_iload rfl rfl ?_
  refine w_aload_n rfl rfl ?_
  refine w_gfC (c := 414) rfl s_404 rfl rfl ?_
  refine w_len rfl s_414 (by decide) (n := 256) rfl (by decide) ?_
  refine w_icge rfl (w_ite h (fun h => ?_) (fun h => ?_))
  · refine w_aload_n rfl rfl ?_
    refine w_gfC (c := 414) rfl s_404 rfl rfl ?_
    refine w_iload rfl rfl ?_
    refine w_iconst rfl (by decide) ?_
    refine w_iast rfl s_414 (w_EC (by decide)) (n := 256) rfl h.1 ?_
    replace h := h.2
    refine w_iload rfl rfl ?_
    refine w_iload rfl rfl ?_
    refine w_iclt rfl (w_ite h (fun h => ?_) (fun h => ?_))
    · refine w_iinc (lv' := [some (2, 404), none, none, none, none, some (0, l5), some (0, l6), some (0, l7), some (0, w_32 (l8 + 1)), none]) rfl rfl rfl rfl ?_
      refine w_goto rfl ?_
      exact w_W.less h (w_sub [true, false, false, false, false, true, true, true, true, false] rfl)
    · refine w_iload rfl rfl ?_
      refine w_iload rfl rfl ?_
      refine w_icgt rfl (w_ite h (fun h => ?_) (fun h => ?_))
      · refine w_iinc (lv' := [some (2, 404), none, none, none, none, some (0, l5), some (0, l6), some (0, l7), some (0, w_32 (l8 + 1)), none]) rfl rfl rfl rfl ?_
        refine w_goto rfl ?_
        exact w_W.less h (w_sub [true, false, false, false, false, true, true, true, true, false] rfl)
      · refine w_aload_n rfl rfl ?_
        refine w_gfC (c := 366) rfl s_404 rfl rfl ?_
        refine w_iload rfl rfl ?_
        refine w_callV (t' := 0) [(0, l7)] [] rfl s_366 rfl rfl ?_
        refine w_C.more (Q := fun r1 m1 => _) h (fun r1 m1 h => ?_)
        replace h := id h
        refine w_istore (lv' := [some (2, 404), none, none, none, none, some (0, l5), some (0, l6), some (0, l7), some (0, l8), some (0, r1)]) rfl rfl rfl ?_
        refine w_aload_n rfl rfl ?_
        refine w_gfC (c := 359) rfl s_404 rfl rfl ?_
        refine w_iload rfl rfl ?_
        refine w_callV (t' := 0) [(0, r1)] [] rfl s_359 rfl rfl ?_
        refine w_C.more (Q := fun r2 m2 => _) h (fun r2 m2 h => ?_)
        replace h := id h
        refine w_ifne rfl (w_ite h (fun h => ?_) (fun h => ?_))
        · refine w_iconst rfl (by decide) ?_
          exact w_zret rfl rfl (by decide) h
        · refine w_aload_n rfl rfl ?_
          refine w_gfC (c := 414) rfl s_404 rfl rfl ?_
          refine w_iload rfl rfl ?_
          refine w_aload_n rfl rfl ?_
          refine w_gfC (c := 359) rfl s_404 rfl rfl ?_
          refine w_iload rfl rfl ?_
          refine w_callV (t' := 0) [(0, r1)] [(0, l8), (2, 414)] rfl s_359 rfl rfl ?_
          refine w_C.more (Q := fun r3 m3 => _) h (fun r3 m3 h => ?_)
          replace h := id h
          refine w_iast rfl s_414 (w_EC (by decide)) (n := 256) rfl h.1 ?_
          replace h := h.2
          refine w_aload_n rfl rfl ?_
          refine w_gfC (c := 359) rfl s_404 rfl rfl ?_
          refine w_iload rfl rfl ?_
          refine w_callV (t' := 0) [(0, l7)] [] rfl s_359 rfl rfl ?_
          refine w_C.more (Q := fun r4 m4 => _) h (fun r4 m4 h => ?_)
          replace h := id h
          refine w_istore (lv' := [some (2, 404), none, none, none, none, some (0, l5), some (0, l6), some (0, r4), some (0, l8), some (0, r1)]) rfl rfl rfl ?_
          refine w_iinc (lv' := [some (2, 404), none, none, none, none, some (0, l5), some (0, l6), some (0, r4), some (0, w_32 (l8 + 1)), some (0, r1)]) rfl rfl rfl rfl ?_
          refine w_goto rfl ?_
          exact w_W.less h (w_sub [true, false, false, false, false, true, true, true, true, false] rfl)
  · refine w_iconst rfl (by decide) ?_
    exact w_zret rfl rfl (by decide) h
theorem xr_pa_resources {d : Nat} {m : w_M} {Q : Int → w_M → Prop} (h : xc_tr_attribute d (m 404 17) 9 m (fun r1 m1 => xc_ta_dict d r1 m1 (fun r2 m2 => Q r2 m2))) : xc_pa_resources (d + 1) m Q := by
  refine w_enter (q := 0) (lv := [some (2, 404)]) rfl rfl rfl ?_
  refine w_aload_n rfl rfl ?_
  refine w_gfC (c := 366) rfl s_404 rfl rfl ?_
  refine w_aload_n rfl rfl ?_
  refine w_gfC (c := 399) rfl s_404 rfl rfl ?_
  refine w_aload_n rfl rfl ?_
  refine x_gfI rfl s_404 rfl (kk := 17) rfl rfl ?_
  refine w_bipush rfl (by decide) ?_
  refine w_callV (t' := 0) [(0, 9), (0, m 404 17)] [(2, 366)] rfl s_399 rfl rfl ?_
  refine w_C.more (Q := fun r1 m1 => _) h (fun r1 m1 h => ?_)
  replace h := id h
  refine w_callV (t' := 0) [(0, r1)] [] rfl s_366 rfl rfl ?_
  refine w_C.more (Q := fun r2 m2 => _) h (fun r2 m2 h => ?_)
  replace h := id h
  exact w_iret rfl rfl h
theorem xr_pa_scaled {d : Nat} {l1 : Int} {m : w_M} {Q : Int → w_M → Prop} (h : xc_jm_floorDiv sC d (w_64 ((w_64 (l1 * (m 408 8))) + 32768000)) 65536000 m (fun r1 m1 => Q r1 m1)) : xc_pa_scaled (d + 1) l1 m Q := by
  refine w_enter (q := 0) (lv := [some (2, 404), some (1, l1), none]) rfl rfl rfl ?_
  refine w_lload_n rfl rfl ?_
  refine w_aload_n rfl rfl ?_
  refine w_gfC (c := 408) rfl s_404 rfl rfl ?_
  refine w_bipush rfl (by decide) ?_
  refine w_iald rfl s_408 (n := 12) rfl (by decide) ?_
  refine w_i2l rfl ?_
  refine w_lmul' rfl ?_
  refine w_ldc2 (a := 32768000) rfl (by decide +kernel) (by decide) ?_
  refine w_ladd' rfl ?_
  refine w_ldc2 (a := 65536000) rfl (by decide +kernel) (by decide) ?_
  refine w_callS (t' := 1) [(1, 65536000), (1, w_64 ((w_64 (l1 * (m 408 8))) + 32768000))] [] rfl (by decide) rfl rfl ?_
  refine w_C.more (Q := fun r1 m1 => _) h (fun r1 m1 h => ?_)
  replace h := id h
  exact w_lret rfl rfl h
theorem xr_pa_showString {d : Nat} {l1 : Int} {m : w_M} {Q : Int → w_M → Prop} (h : xp_pa_showString_2 d l1 0 m Q) : xc_pa_showString (d + 1) l1 m Q := by
  refine w_enter (q := 4) (lv := [some (2, 404), some (0, l1), none, none, none, none]) rfl rfl rfl ?_
  refine w_iconst rfl (by decide) ?_
  refine w_istore_n (lv' := [some (2, 404), some (0, l1), some (0, 0), none, none, none]) rfl rfl rfl ?_
  exact w_W.less h (w_sub [true, true, true, false, false, false] rfl)
theorem xr_pa_showString_2 {d : Nat} {l1 l2 : Int} {m : w_M} {Q : Int → w_M → Prop} (h : xc_st_letters d l1 m (fun r1 m1 => if l2 < r1 then (xc_st_letterOf d l1 l2 m1 (fun r2 m2 => if (m2 404 18) < 1500 then (if r2 < 0 then (Q 14 m2) else (if r2 < 256 then (xc_pa_multiply d 410 408 413 m2 (fun r3 m3 => if r3 = 0 then (Q 14 m3) else (xc_pa_keepGlyph d r2 m3 (fun r4 m4 => ((0 : Int) ≤ r2 ∧ r2 < 256) ∧ (xc_pa_scaled d (m4 414 r2) m4 (fun r5 m5 => if r2 = 32 then (xc_pa_advance d (w_64 ((w_64 (r5 + (m5 408 9))) + (m5 408 10))) m5 (fun r6 m6 => if r6 = 0 then (Q 14 m6) else (xp_pa_showString_2 d l1 (w_32 (l2 + 1)) m6 Q))) else (xc_pa_advance d (w_64 ((w_64 (r5 + (m5 408 9))) + 0)) m5 (fun r7 m7 => if r7 = 0 then (Q 14 m7) else (xp_pa_showString_2 d l1 (w_32 (l2 + 1)) m7 Q))))))))) else (Q 14 m2))) else (Q 5 m2))) else (Q 0 m1))) : xp_pa_showString_2 d l1 l2 m Q := by
  refine w_iload_n rfl rfl ?_
  refine w_aload_n rfl rfl ?_
  refine w_gfC (c := 359) rfl s_404 rfl rfl ?_
  refine w_iload_n rfl rfl ?_
  refine w_callV (t' := 0) [(0, l1)] [(0, l2)] rfl s_359 rfl rfl ?_
  refine w_C.more (Q := fun r1 m1 => _) h (fun r1 m1 h => ?_)
  replace h := id h
  refine w_icge rfl (w_ite h (fun h => ?_) (fun h => ?_))
  · refine w_aload_n rfl rfl ?_
    refine w_gfC (c := 359) rfl s_404 rfl rfl ?_
    refine w_iload_n rfl rfl ?_
    refine w_iload_n rfl rfl ?_
    refine w_callV (t' := 0) [(0, l2), (0, l1)] [] rfl s_359 rfl rfl ?_
    refine w_C.more (Q := fun r2 m2 => _) h (fun r2 m2 h => ?_)
    replace h := id h
    refine w_istore_n (lv' := [some (2, 404), some (0, l1), some (0, l2), some (0, r2), none, none]) rfl rfl rfl ?_
    refine w_aload_n rfl rfl ?_
    refine x_gfI rfl s_404 rfl (kk := 18) rfl rfl ?_
    refine w_sipush rfl (by decide) ?_
    refine w_iclt rfl (w_ite h (fun h => ?_) (fun h => ?_))
    · refine w_iload_n rfl rfl ?_
      refine w_iflt rfl (w_ite h (fun h => ?_) (fun h => ?_))
      · refine w_bipush rfl (by decide) ?_
        exact w_iret rfl rfl h
      · refine w_iload_n rfl rfl ?_
        refine w_aload_n rfl rfl ?_
        refine w_gfC (c := 414) rfl s_404 rfl rfl ?_
        refine w_len rfl s_414 (by decide) (n := 256) rfl (by decide) ?_
        refine w_icge rfl (w_ite h (fun h => ?_) (fun h => ?_))
        · refine w_aload_n rfl rfl ?_
          refine w_gfC (c := 410) rfl s_404 rfl rfl ?_
          refine w_aload_n rfl rfl ?_
          refine w_gfC (c := 408) rfl s_404 rfl rfl ?_
          refine w_aload_n rfl rfl ?_
          refine w_gfC (c := 413) rfl s_404 rfl rfl ?_
          refine w_callS (t' := 0) [(2, 413), (2, 408), (2, 410)] [] rfl (by decide) rfl rfl ?_
          refine w_C.more (Q := fun r3 m3 => _) h (fun r3 m3 h => ?_)
          replace h := id h
          refine w_ifne rfl (w_ite h (fun h => ?_) (fun h => ?_))
          · refine w_bipush rfl (by decide) ?_
            exact w_iret rfl rfl h
          · refine w_aload_n rfl rfl ?_
            refine w_iload_n rfl rfl ?_
            refine w_callV (t' := 3) [(0, r2)] [] rfl s_404 rfl rfl ?_
            refine w_C.more (Q := fun r4 m4 => _) h (fun r4 m4 h => ?_)
            replace h := id h
            refine w_aload_n rfl rfl ?_
            refine w_aload_n rfl rfl ?_
            refine w_gfC (c := 414) rfl s_404 rfl rfl ?_
            refine w_iload_n rfl rfl ?_
            refine w_iald rfl s_414 (n := 256) rfl h.1 ?_
            replace h := h.2
            refine w_i2l rfl ?_
            refine w_callV (t' := 1) [(1, m4 414 r2)] [] rfl s_404 rfl rfl ?_
            refine w_C.more (Q := fun r5 m5 => _) h (fun r5 m5 h => ?_)
            replace h := id h
            refine w_aload_n rfl rfl ?_
            refine w_gfC (c := 408) rfl s_404 rfl rfl ?_
            refine w_bipush rfl (by decide) ?_
            refine w_iald rfl s_408 (n := 12) rfl (by decide) ?_
            refine w_i2l rfl ?_
            refine w_ladd' rfl ?_
            refine w_iload_n rfl rfl ?_
            refine w_bipush rfl (by decide) ?_
            refine w_icne rfl (w_ite h (fun h => ?_) (fun h => ?_))
            · refine w_aload_n rfl rfl ?_
              refine w_gfC (c := 408) rfl s_404 rfl rfl ?_
              refine w_bipush rfl (by decide) ?_
              refine w_iald rfl s_408 (n := 12) rfl (by decide) ?_
              refine w_goto rfl ?_
              refine w_i2l rfl ?_
              refine w_ladd' rfl ?_
              refine w_lstore (lv' := [some (2, 404), some (0, l1), some (0, l2), some (0, r2), some (1, w_64 ((w_64 (r5 + (m5 408 9))) + (m5 408 10))), none]) rfl rfl rfl ?_
              refine w_aload_n rfl rfl ?_
              refine w_lload rfl rfl ?_
              refine w_callV (t' := 0) [(1, w_64 ((w_64 (r5 + (m5 408 9))) + (m5 408 10)))] [] rfl s_404 rfl rfl ?_
              refine w_C.more (Q := fun r6 m6 => _) h (fun r6 m6 h => ?_)
              replace h := id h
              refine w_ifne rfl (w_ite h (fun h => ?_) (fun h => ?_))
              · refine w_bipush rfl (by decide) ?_
                exact w_iret rfl rfl h
              · refine w_iinc (lv' := [some (2, 404), some (0, l1), some (0, w_32 (l2 + 1)), some (0, r2), some (1, w_64 ((w_64 (r5 + (m5 408 9))) + (m5 408 10))), none]) rfl rfl rfl rfl ?_
                refine w_goto rfl ?_
                exact w_W.less h (w_sub [true, true, true, false, false, false] rfl)
            · refine w_iconst rfl (by decide) ?_
              refine w_i2l rfl ?_
              refine w_ladd' rfl ?_
              refine w_lstore (lv' := [some (2, 404), some (0, l1), some (0, l2), some (0, r2), some (1, w_64 ((w_64 (r5 + (m5 408 9))) + 0)), none]) rfl rfl rfl ?_
              refine w_aload_n rfl rfl ?_
              refine w_lload rfl rfl ?_
              refine w_callV (t' := 0) [(1, w_64 ((w_64 (r5 + (m5 408 9))) + 0))] [] rfl s_404 rfl rfl ?_
              refine w_C.more (Q := fun r7 m7 => _) h (fun r7 m7 h => ?_)
              replace h := id h
              refine w_ifne rfl (w_ite h (fun h => ?_) (fun h => ?_))
              · refine w_bipush rfl (by decide) ?_
                exact w_iret rfl rfl h
              · refine w_iinc (lv' := [some (2, 404), some (0, l1), some (0, w_32 (l2 + 1)), some (0, r2), some (1, w_64 ((w_64 (r5 + (m5 408 9))) + 0)), none]) rfl rfl rfl rfl ?_
                refine w_goto rfl ?_
                exact w_W.less h (w_sub [true, true, true, false, false, false] rfl)
        · refine w_bipush rfl (by decide) ?_
          exact w_iret rfl rfl h
    · refine w_iconst rfl (by decide) ?_
      exact w_iret rfl rfl h
  · refine w_iconst rfl (by decide) ?_
    exact w_iret rfl rfl h
theorem xr_pa_showText {d : Nat} {l1 l2 : Int} {m : w_M} {Q : Int → w_M → Prop} (h : if l1 = 39 then (xc_pa_workInText d 21546 m (fun r1 m1 => if r1 = 0 then (xp_pa_showText_19 d l2 m1 Q) else (Q 14 m1))) else (xp_pa_showText_19 d l2 m Q)) : xc_pa_showText (d + 1) l1 l2 m Q := by
  refine w_enter (q := 3) (lv := [some (2, 404), some (0, l1), some (0, l2), none, none, none]) rfl rfl rfl ?_
  refine w_iload_n rfl rfl ?_
  refine w_bipush rfl (by decide) ?_
  refine w_icne rfl (w_ite h (fun h => ?_) (fun h => ?_))
  · refine w_aload_n rfl rfl ?_
    refine w_sipush rfl (by decide) ?_
    refine w_callV (t' := 0) [(0, 21546)] [] rfl s_404 rfl rfl ?_
    refine w_C.more (Q := fun r1 m1 => _) h (fun r1 m1 h => ?_)
    replace h := id h
    refine w_ifeq rfl (w_ite h (fun h => ?_) (fun h => ?_))
    · exact w_W.less h (w_sub [true, false, true, false, false, false] rfl)
    · refine w_bipush rfl (by decide) ?_
      exact w_iret rfl rfl h
  · exact w_W.less h (w_sub [true, false, true, false, false, false] rfl)
theorem xr_pa_showText_19 {d : Nat} {l2 : Int} {m : w_M} {Q : Int → w_M → Prop} (h : if l2 = 7 then (xc_pa_operand d 0 m (fun r1 m1 => xc_pa_showString d r1 m1 (fun r2 m2 => Q r2 m2))) else (xc_pa_operand d 0 m (fun r3 m3 => xc_st_firstPart d r3 m3 (fun r4 m4 => xc_pa_operand d 0 m4 (fun r5 m5 => xc_st_parts d r5 m5 (fun r6 m6 => xp_pa_showText_65 d r4 0 r6 m6 Q)))))) : xp_pa_showText_19 d l2 m Q := by
  refine w_iload_n rfl rfl ?_
  refine w_bipush rfl (by decide) ?_
  refine w_icne rfl (w_ite h (fun h => ?_) (fun h => ?_))
  · refine w_aload_n rfl rfl ?_
    refine w_aload_n rfl rfl ?_
    refine w_iconst rfl (by decide) ?_
    refine w_callV (t' := 0) [(0, 0)] [(2, 404)] rfl s_404 rfl rfl ?_
    refine w_C.more (Q := fun r1 m1 => _) h (fun r1 m1 h => ?_)
    replace h := id h
    refine w_callV (t' := 0) [(0, r1)] [] rfl s_404 rfl rfl ?_
    refine w_C.more (Q := fun r2 m2 => _) h (fun r2 m2 h => ?_)
    replace h := id h
    exact w_iret rfl rfl h
  · refine w_aload_n rfl rfl ?_
    refine w_gfC (c := 359) rfl s_404 rfl rfl ?_
    refine w_aload_n rfl rfl ?_
    refine w_iconst rfl (by decide) ?_
    refine w_callV (t' := 0) [(0, 0)] [(2, 359)] rfl s_404 rfl rfl ?_
    refine w_C.more (Q := fun r3 m3 => _) h (fun r3 m3 h => ?_)
    replace h := id h
    refine w_callV (t' := 0) [(0, r3)] [] rfl s_359 rfl rfl ?_
    refine w_C.more (Q := fun r4 m4 => _) h (fun r4 m4 h => ?_)
    replace h := id h
    refine w_istore_n (lv' := [some (2, 404), none, some (0, l2), some (0, r4), none, none]) rfl rfl rfl ?_
    refine w_iconst rfl (by decide) ?_
    refine w_istore (lv' := [some (2, 404), none, some (0, l2), some (0, r4), some (0, 0), none]) rfl rfl rfl ?_
    refine w_aload_n rfl rfl ?_
    refine w_gfC (c := 359) rfl s_404 rfl rfl ?_
    refine w_aload_n rfl rfl ?_
    refine w_iconst rfl (by decide) ?_
    refine w_callV (t' := 0) [(0, 0)] [(2, 359)] rfl s_404 rfl rfl ?_
    refine w_C.more (Q := fun r5 m5 => _) h (fun r5 m5 h => ?_)
    replace h := id h
    refine w_callV (t' := 0) [(0, r5)] [] rfl s_359 rfl rfl ?_
    refine w_C.more (Q := fun r6 m6 => _) h (fun r6 m6 h => ?_)
    replace h := id h
    refine w_istore (lv' := [some (2, 404), none, some (0, l2), some (0, r4), some (0, 0), some (0, r6)]) rfl rfl rfl ?_
    exact w_W.less h (w_sub [true, false, false, true, true, true] rfl)
theorem xr_pa_showText_65 {d : Nat} {l3 l4 l5 : Int} {m : w_M} {Q : Int → w_M → Prop} (h : if 0 < l5 then (if l4 = 0 then (xc_st_kindOf d l3 m (fun r1 m1 => if r1 = 5 then (xc_pa_showString d l3 m1 (fun r2 m2 => xc_st_nextOf d l3 m2 (fun r3 m3 => xp_pa_showText_65 d r3 r2 (w_32 (l5 + (-1))) m3 Q))) else (xc_st_units d l3 m1 (fun r4 m4 => xc_pa_scaled d (w_64 (-r4)) m4 (fun r5 m5 => xc_pa_advance d r5 m5 (fun r6 m6 => if r6 = 0 then (xc_st_nextOf d l3 m6 (fun r7 m7 => xp_pa_showText_65 d r7 14 (w_32 (l5 + (-1))) m7 Q)) else (xc_st_nextOf d l3 m6 (fun r8 m8 => xp_pa_showText_65 d r8 0 (w_32 (l5 + (-1))) m8 Q)))))))) else (Q l4 m)) else (Q l4 m)) : xp_pa_showText_65 d l3 l4 l5 m Q := by
  refine w_iload rfl rfl ?_
  refine w_ifle rfl (w_ite h (fun h => ?_) (fun h => ?_))
  · refine w_iload rfl rfl ?_
    refine w_ifne rfl (w_ite h (fun h => ?_) (fun h => ?_))
    · refine w_aload_n rfl rfl ?_
      refine w_gfC (c := 359) rfl s_404 rfl rfl ?_
      refine w_iload_n rfl rfl ?_
      refine w_callV (t' := 0) [(0, l3)] [] rfl s_359 rfl rfl ?_
      refine w_C.more (Q := fun r1 m1 => _) h (fun r1 m1 h => ?_)
      replace h := id h
      refine w_iconst rfl (by decide) ?_
      refine w_icne rfl (w_ite h (fun h => ?_) (fun h => ?_))
      · refine w_aload_n rfl rfl ?_
        refine w_iload_n rfl rfl ?_
        refine w_callV (t' := 0) [(0, l3)] [] rfl s_404 rfl rfl ?_
        refine w_C.more (Q := fun r2 m2 => _) h (fun r2 m2 h => ?_)
        replace h := id h
        refine w_istore (lv' := [some (2, 404), none, none, some (0, l3), some (0, r2), some (0, l5)]) rfl rfl rfl ?_
        refine w_goto rfl ?_
        refine w_aload_n rfl rfl ?_
        refine w_gfC (c := 359) rfl s_404 rfl rfl ?_
        refine w_iload_n rfl rfl ?_
        refine w_callV (t' := 0) [(0, l3)] [] rfl s_359 rfl rfl ?_
        refine w_C.more (Q := fun r3 m3 => _) h (fun r3 m3 h => ?_)
        replace h := id h
        refine w_istore_n (lv' := [some (2, 404), none, none, some (0, r3), some (0, r2), some (0, l5)]) rfl rfl rfl ?_
        refine w_iinc (lv' := [some (2, 404), none, none, some (0, r3), some (0, r2), some (0, w_32 (l5 + (-1)))]) rfl rfl rfl rfl ?_
        refine w_goto rfl ?_
        exact w_W.less h (w_sub [true, false, false, true, true, true] rfl)
      · refine w_aload_n rfl rfl ?_
        refine w_aload_n rfl rfl ?_
        refine w_aload_n rfl rfl ?_
        refine w_gfC (c := 359) rfl s_404 rfl rfl ?_
        refine w_iload_n rfl rfl ?_
        refine w_callV (t' := 0) [(0, l3)] [(2, 404), (2, 404)] rfl s_359 rfl rfl ?_
        refine w_C.more (Q := fun r4 m4 => _) h (fun r4 m4 h => ?_)
        replace h := id h
        refine w_i2l rfl ?_
        refine w_lneg rfl ?_
        refine w_callV (t' := 1) [(1, w_64 (-r4))] [(2, 404)] rfl s_404 rfl rfl ?_
        refine w_C.more (Q := fun r5 m5 => _) h (fun r5 m5 h => ?_)
        replace h := id h
        refine w_callV (t' := 0) [(1, r5)] [] rfl s_404 rfl rfl ?_
        refine w_C.more (Q := fun r6 m6 => _) h (fun r6 m6 h => ?_)
        replace h := id h
        refine w_ifeq rfl (w_ite h (fun h => ?_) (fun h => ?_))
        · refine w_bipush rfl (by decide) ?_
          refine w_istore (lv' := [some (2, 404), none, none, some (0, l3), some (0, 14), some (0, l5)]) rfl rfl rfl ?_
          refine w_aload_n rfl rfl ?_
          refine w_gfC (c := 359) rfl s_404 rfl rfl ?_
          refine w_iload_n rfl rfl ?_
          refine w_callV (t' := 0) [(0, l3)] [] rfl s_359 rfl rfl ?_
          refine w_C.more (Q := fun r7 m7 => _) h (fun r7 m7 h => ?_)
          replace h := id h
          refine w_istore_n (lv' := [some (2, 404), none, none, some (0, r7), some (0, 14), some (0, l5)]) rfl rfl rfl ?_
          refine w_iinc (lv' := [some (2, 404), none, none, some (0, r7), some (0, 14), some (0, w_32 (l5 + (-1)))]) rfl rfl rfl rfl ?_
          refine w_goto rfl ?_
          exact w_W.less h (w_sub [true, false, false, true, true, true] rfl)
        · refine w_iconst rfl (by decide) ?_
          refine w_goto rfl ?_
          refine w_istore (lv' := [some (2, 404), none, none, some (0, l3), some (0, 0), some (0, l5)]) rfl rfl rfl ?_
          refine w_aload_n rfl rfl ?_
          refine w_gfC (c := 359) rfl s_404 rfl rfl ?_
          refine w_iload_n rfl rfl ?_
          refine w_callV (t' := 0) [(0, l3)] [] rfl s_359 rfl rfl ?_
          refine w_C.more (Q := fun r8 m8 => _) h (fun r8 m8 h => ?_)
          replace h := id h
          refine w_istore_n (lv' := [some (2, 404), none, none, some (0, r8), some (0, 0), some (0, l5)]) rfl rfl rfl ?_
          refine w_iinc (lv' := [some (2, 404), none, none, some (0, r8), some (0, 0), some (0, w_32 (l5 + (-1)))]) rfl rfl rfl rfl ?_
          refine w_goto rfl ?_
          exact w_W.less h (w_sub [true, false, false, true, true, true] rfl)
    · refine w_iload rfl rfl ?_
      exact w_iret rfl rfl h
  · refine w_iload rfl rfl ?_
    exact w_iret rfl rfl h
theorem xr_pa_times {d : Nat} {l0 l2 : Int} {m : w_M} {Q : Int → w_M → Prop} (h : Q ((w_64 ((w_64 (l0 * l2)) + 32768)) / 65536) m) : xc_pa_times (d + 1) l0 l2 m Q := by
  refine w_enter (q := 0) (lv := [some (1, l0), none, some (1, l2), none]) rfl rfl rfl ?_
  refine w_lload_n rfl rfl ?_
  refine w_lload_n rfl rfl ?_
  refine w_lmul' rfl ?_
  refine w_ldc2 (a := 32768) rfl (by decide +kernel) (by decide) ?_
  refine w_ladd' rfl ?_
  refine w_bipush rfl (by decide) ?_
  refine w_lshrk (c := 65536) rfl (by decide) (by decide) rfl ?_
  exact w_lret rfl rfl h
theorem xr_pa_work {d : Nat} {l1 : Int} {m : w_M} {Q : Int → w_M → Prop} (h : xc_pa_operand d 0 m (fun r1 m1 => xc_st_units d r1 m1 (fun r2 m2 => if l1 = 81 then (((0 : Int) ≤ 12 ∧ (0 : Int) ≤ (w_32 ((w_32 ((m2 404 15) - 1)) * 12)) ∧ (0 : Int) ≤ 0 ∧ ((w_32 ((w_32 ((m2 404 15) - 1)) * 12)) + 12 : Int) ≤ 240 ∧ (0 + 12 : Int) ≤ 12) ∧ (xc_pa_readFont d ((w_cpy (w_up m2 404 15 (w_32 ((m2 404 15) - 1))) 409 (w_32 ((w_32 ((m2 404 15) - 1)) * 12)) 408 0 12) 408 6) (w_cpy (w_up m2 404 15 (w_32 ((m2 404 15) - 1))) 409 (w_32 ((w_32 ((m2 404 15) - 1)) * 12)) 408 0 12) (fun r3 m3 => Q 0 m3))) else (if l1 = 113 then (((0 : Int) ≤ 12 ∧ (0 : Int) ≤ 0 ∧ (0 : Int) ≤ (w_32 ((m2 404 15) * 12)) ∧ (0 + 12 : Int) ≤ 12 ∧ ((w_32 ((m2 404 15) * 12)) + 12 : Int) ≤ 240) ∧ (Q 0 (w_up (w_cpy m2 408 0 409 (w_32 ((m2 404 15) * 12)) 12) 404 15 (w_32 ((m2 404 15) + 1))))) else (if l1 = 16980 then (xc_pa_give d 65536 0 0 65536 0 0 (w_up m2 404 16 1) (fun r4 m4 => ((0 : Int) ≤ 6 ∧ (0 : Int) ≤ 0 ∧ (0 : Int) ≤ 0 ∧ (0 + 6 : Int) ≤ 6 ∧ (0 + 6 : Int) ≤ 6) ∧ (((0 : Int) ≤ 6 ∧ (0 : Int) ≤ 0 ∧ (0 : Int) ≤ 0 ∧ (0 + 6 : Int) ≤ 6 ∧ (0 + 6 : Int) ≤ 6) ∧ (Q 0 (w_cpy (w_cpy m4 412 0 410 0 6) 412 0 411 0 6))))) else (if l1 = 17748 then (Q 0 (w_up m2 404 16 0)) else (if l1 = 21580 then (Q 0 (w_up m2 408 11 r2)) else (if l1 = 21603 then (Q 0 (w_up m2 408 9 r2)) else (if l1 = 21606 then (xc_pa_operand d 1 m2 (fun r5 m5 => xc_st_units d r5 m5 (fun r6 m6 => Q 0 (w_up m6 408 8 r6)))) else (if l1 = 21623 then (Q 0 (w_up m2 408 10 r2)) else (if l1 = 25453 then (xc_pa_giveOperands d m2 (fun r7 m7 => xc_pa_multiply d 412 408 408 m7 (fun r8 m8 => if r8 = 0 then (Q 14 m8) else (Q 0 m8)))) else (xc_pa_workInText d l1 m2 (fun r9 m9 => Q r9 m9))))))))))))) : xc_pa_work (d + 1) l1 m Q := by
  refine w_enter (q := 1) (lv := [some (2, 404), some (0, l1), none]) rfl rfl rfl ?_
  refine w_aload_n rfl rfl ?_
  refine w_gfC (c := 359) rfl s_404 rfl rfl ?_
  refine w_aload_n rfl rfl ?_
  refine w_iconst rfl (by decide) ?_
  refine w_callV (t' := 0) [(0, 0)] [(2, 359)] rfl s_404 rfl rfl ?_
  refine w_C.more (Q := fun r1 m1 => _) h (fun r1 m1 h => ?_)
  replace h := id h
  refine w_callV (t' := 0) [(0, r1)] [] rfl s_359 rfl rfl ?_
  refine w_C.more (Q := fun r2 m2 => _) h (fun r2 m2 h => ?_)
  replace h := id h
  refine w_istore_n (lv' := [some (2, 404), some (0, l1), some (0, r2)]) rfl rfl rfl ?_
  refine w_iload_n rfl rfl ?_
  refine w_lswitch (pd := 310) [(81, 129), (113, 96), (16980, 203), (17748, 252), (21580, 300), (21603, 280), (21606, 259), (21623, 290), (25453, 174)] rfl rfl rfl ?_
  refine w_ite h (fun h => ?_) (fun h => ?_)
  · refine w_aload_n rfl rfl ?_
    refine w_dup rfl (show (2 : Nat) ≠ 1 by decide) ?_
    refine x_gfI rfl s_404 rfl (kk := 15) rfl rfl ?_
    refine w_iconst rfl (by decide) ?_
    refine w_isub rfl ?_
    refine w_pfI rfl s_404 rfl (w_EC (by decide)) rfl (kk := 15) rfl ?_
    refine w_aload_n rfl rfl ?_
    refine w_gfC (c := 409) rfl s_404 rfl rfl ?_
    refine w_aload_n rfl rfl ?_
    refine x_gfI rfl s_404 rfl (kk := 15) rfl (w_up_eq) ?_
    refine w_bipush rfl (by decide) ?_
    refine w_imul rfl ?_
    refine w_aload_n rfl rfl ?_
    refine w_gfC (c := 408) rfl s_404 rfl rfl ?_
    refine w_iconst rfl (by decide) ?_
    refine w_bipush rfl (by decide) ?_
    refine w_acopy rfl s_409 s_408 (w_E1 (by decide)) (w_EC (by decide)) (by decide) rfl h.1 ?_
    replace h := h.2
    refine w_aload_n rfl rfl ?_
    refine w_aload_n rfl rfl ?_
    refine w_gfC (c := 408) rfl s_404 rfl rfl ?_
    refine w_bipush rfl (by decide) ?_
    refine w_iald rfl s_408 (n := 12) rfl (by decide) ?_
    refine w_callV (t' := 0) [(0, (w_cpy (w_up m2 404 15 (w_32 ((m2 404 15) - 1))) 409 (w_32 ((w_32 ((m2 404 15) - 1)) * 12)) 408 0 12) 408 6)] [] rfl s_404 rfl rfl ?_
    refine w_C.more (Q := fun r3 m3 => _) h (fun r3 m3 h => ?_)
    replace h := id h
    refine w_pop rfl (show (0 : Nat) ≠ 1 by decide) ?_
    refine w_iconst rfl (by decide) ?_
    exact w_iret rfl rfl h
  ·
    refine w_ite h (fun h => ?_) (fun h => ?_)
    · refine w_aload_n rfl rfl ?_
      refine w_gfC (c := 408) rfl s_404 rfl rfl ?_
      refine w_iconst rfl (by decide) ?_
      refine w_aload_n rfl rfl ?_
      refine w_gfC (c := 409) rfl s_404 rfl rfl ?_
      refine w_aload_n rfl rfl ?_
      refine x_gfI rfl s_404 rfl (kk := 15) rfl rfl ?_
      refine w_bipush rfl (by decide) ?_
      refine w_imul rfl ?_
      refine w_bipush rfl (by decide) ?_
      refine w_acopy rfl s_408 s_409 (w_E1 (by decide)) (w_EC (by decide)) (by decide) rfl h.1 ?_
      replace h := h.2
      refine w_aload_n rfl rfl ?_
      refine w_dup rfl (show (2 : Nat) ≠ 1 by decide) ?_
      refine x_gfI rfl s_404 rfl (kk := 15) rfl (w_cpy_ne (by decide)) ?_
      refine w_iconst rfl (by decide) ?_
      refine w_iadd rfl ?_
      refine w_pfI rfl s_404 rfl (w_EC (by decide)) rfl (kk := 15) rfl ?_
      refine w_iconst rfl (by decide) ?_
      exact w_iret rfl rfl h
    ·
      refine w_ite h (fun h => ?_) (fun h => ?_)
      · refine w_aload_n rfl rfl ?_
        refine w_iconst rfl (by decide) ?_
        refine w_pfZ rfl s_404 rfl (w_EC (by decide)) rfl (kk := 16) rfl (by decide) ?_
        refine w_aload_n rfl rfl ?_
        refine w_ldc (a := 65536) rfl (by decide +kernel) (by decide) ?_
        refine w_iconst rfl (by decide) ?_
        refine w_iconst rfl (by decide) ?_
        refine w_ldc (a := 65536) rfl (by decide +kernel) (by decide) ?_
        refine w_iconst rfl (by decide) ?_
        refine w_iconst rfl (by decide) ?_
        refine w_callV (t' := 3) [(0, 0), (0, 0), (0, 65536), (0, 0), (0, 0), (0, 65536)] [] rfl s_404 rfl rfl ?_
        refine w_C.more (Q := fun r4 m4 => _) h (fun r4 m4 h => ?_)
        replace h := id h
        refine w_aload_n rfl rfl ?_
        refine w_gfC (c := 412) rfl s_404 rfl rfl ?_
        refine w_iconst rfl (by decide) ?_
        refine w_aload_n rfl rfl ?_
        refine w_gfC (c := 410) rfl s_404 rfl rfl ?_
        refine w_iconst rfl (by decide) ?_
        refine w_bipush rfl (by decide) ?_
        refine w_acopy rfl s_412 s_410 (w_E1 (by decide)) (w_EC (by decide)) (by decide) rfl h.1 ?_
        replace h := h.2
        refine w_aload_n rfl rfl ?_
        refine w_gfC (c := 412) rfl s_404 rfl rfl ?_
        refine w_iconst rfl (by decide) ?_
        refine w_aload_n rfl rfl ?_
        refine w_gfC (c := 411) rfl s_404 rfl rfl ?_
        refine w_iconst rfl (by decide) ?_
        refine w_bipush rfl (by decide) ?_
        refine w_acopy rfl s_412 s_411 (w_E1 (by decide)) (w_EC (by decide)) (by decide) rfl h.1 ?_
        replace h := h.2
        refine w_iconst rfl (by decide) ?_
        exact w_iret rfl rfl h
      ·
        refine w_ite h (fun h => ?_) (fun h => ?_)
        · refine w_aload_n rfl rfl ?_
          refine w_iconst rfl (by decide) ?_
          refine w_pfZ rfl s_404 rfl (w_EC (by decide)) rfl (kk := 16) rfl (by decide) ?_
          refine w_iconst rfl (by decide) ?_
          exact w_iret rfl rfl h
        ·
          refine w_ite h (fun h => ?_) (fun h => ?_)
          · refine w_aload_n rfl rfl ?_
            refine w_gfC (c := 408) rfl s_404 rfl rfl ?_
            refine w_bipush rfl (by decide) ?_
            refine w_iload_n rfl rfl ?_
            refine w_iast rfl s_408 (w_EC (by decide)) (n := 12) rfl (by decide) ?_
            refine w_iconst rfl (by decide) ?_
            exact w_iret rfl rfl h
          ·
            refine w_ite h (fun h => ?_) (fun h => ?_)
            · refine w_aload_n rfl rfl ?_
              refine w_gfC (c := 408) rfl s_404 rfl rfl ?_
              refine w_bipush rfl (by decide) ?_
              refine w_iload_n rfl rfl ?_
              refine w_iast rfl s_408 (w_EC (by decide)) (n := 12) rfl (by decide) ?_
              refine w_iconst rfl (by decide) ?_
              exact w_iret rfl rfl h
            ·
              refine w_ite h (fun h => ?_) (fun h => ?_)
              · refine w_aload_n rfl rfl ?_
                refine w_gfC (c := 408) rfl s_404 rfl rfl ?_
                refine w_bipush rfl (by decide) ?_
                refine w_aload_n rfl rfl ?_
                refine w_gfC (c := 359) rfl s_404 rfl rfl ?_
                refine w_aload_n rfl rfl ?_
                refine w_iconst rfl (by decide) ?_
                refine w_callV (t' := 0) [(0, 1)] [(2, 359), (0, 8), (2, 408)] rfl s_404 rfl rfl ?_
                refine w_C.more (Q := fun r5 m5 => _) h (fun r5 m5 h => ?_)
                replace h := id h
                refine w_callV (t' := 0) [(0, r5)] [(0, 8), (2, 408)] rfl s_359 rfl rfl ?_
                refine w_C.more (Q := fun r6 m6 => _) h (fun r6 m6 h => ?_)
                replace h := id h
                refine w_iast rfl s_408 (w_EC (by decide)) (n := 12) rfl (by decide) ?_
                refine w_iconst rfl (by decide) ?_
                exact w_iret rfl rfl h
              ·
                refine w_ite h (fun h => ?_) (fun h => ?_)
                · refine w_aload_n rfl rfl ?_
                  refine w_gfC (c := 408) rfl s_404 rfl rfl ?_
                  refine w_bipush rfl (by decide) ?_
                  refine w_iload_n rfl rfl ?_
                  refine w_iast rfl s_408 (w_EC (by decide)) (n := 12) rfl (by decide) ?_
                  refine w_iconst rfl (by decide) ?_
                  exact w_iret rfl rfl h
                ·
                  refine w_ite h (fun h => ?_) (fun h => ?_)
                  · refine w_aload_n rfl rfl ?_
                    refine w_callV (t' := 3) [] [] rfl s_404 rfl rfl ?_
                    refine w_C.more (Q := fun r7 m7 => _) h (fun r7 m7 h => ?_)
                    replace h := id h
                    refine w_aload_n rfl rfl ?_
                    refine w_gfC (c := 412) rfl s_404 rfl rfl ?_
                    refine w_aload_n rfl rfl ?_
                    refine w_gfC (c := 408) rfl s_404 rfl rfl ?_
                    refine w_aload_n rfl rfl ?_
                    refine w_gfC (c := 408) rfl s_404 rfl rfl ?_
                    refine w_callS (t' := 0) [(2, 408), (2, 408), (2, 412)] [] rfl (by decide) rfl rfl ?_
                    refine w_C.more (Q := fun r8 m8 => _) h (fun r8 m8 h => ?_)
                    replace h := id h
                    refine w_ifeq rfl (w_ite h (fun h => ?_) (fun h => ?_))
                    · refine w_bipush rfl (by decide) ?_
                      exact w_iret rfl rfl h
                    · refine w_iconst rfl (by decide) ?_
                      refine w_goto rfl ?_
                      exact w_iret rfl rfl h
                  · refine w_aload_n rfl rfl ?_
                    refine w_iload_n rfl rfl ?_
                    refine w_callV (t' := 0) [(0, l1)] [] rfl s_404 rfl rfl ?_
                    refine w_C.more (Q := fun r9 m9 => _) h (fun r9 m9 h => ?_)
                    replace h := id h
                    exact w_iret rfl rfl h
theorem xr_pa_workInText {d : Nat} {l1 : Int} {m : w_M} {Q : Int → w_M → Prop} (h : xc_pa_operand d 0 m (fun r1 m1 => xc_st_units d r1 m1 (fun r2 m2 => xc_pa_operand d 1 m2 (fun r3 m3 => xc_st_units d r3 m3 (fun r4 m4 => if l1 = 21546 then (if (m4 408 11) = (-2147483648) then (Q 14 m4) else (xc_pa_nextLine d 0 (w_32 (-(m4 408 11))) m4 (fun r5 m5 => if r5 = 0 then (Q 14 m5) else (Q 0 m5)))) else (if l1 = 21572 then (if r4 = (-2147483648) then (Q 14 (w_up m4 408 11 (w_32 (-r4)))) else (xc_pa_nextLine d r2 r4 (w_up m4 408 11 (w_32 (-r4))) (fun r6 m6 => if r6 = 0 then (Q 14 m6) else (Q 0 m6)))) else (if l1 = 21604 then (xc_pa_nextLine d r2 r4 m4 (fun r7 m7 => if r7 = 0 then (Q 14 m7) else (Q 0 m7))) else (if l1 = 21613 then (xc_pa_giveOperands d m4 (fun r8 m8 => ((0 : Int) ≤ 6 ∧ (0 : Int) ≤ 0 ∧ (0 : Int) ≤ 0 ∧ (0 + 6 : Int) ≤ 6 ∧ (0 + 6 : Int) ≤ 6) ∧ (((0 : Int) ≤ 6 ∧ (0 : Int) ≤ 0 ∧ (0 : Int) ≤ 0 ∧ (0 + 6 : Int) ≤ 6 ∧ (0 + 6 : Int) ≤ 6) ∧ (Q 0 (w_cpy (w_cpy m8 412 0 410 0 6) 412 0 411 0 6))))) else (Q 0 m4))))))))) : xc_pa_workInText (d + 1) l1 m Q := by
  refine w_enter (q := 2) (lv := [some (2, 404), some (0, l1), none, none]) rfl rfl rfl ?_
  refine w_aload_n rfl rfl ?_
  refine w_gfC (c := 359) rfl s_404 rfl rfl ?_
  refine w_aload_n rfl rfl ?_
  refine w_iconst rfl (by decide) ?_
  refine w_callV (t' := 0) [(0, 0)] [(2, 359)] rfl s_404 rfl rfl ?_
  refine w_C.more (Q := fun r1 m1 => _) h (fun r1 m1 h => ?_)
  replace h := id h
  refine w_callV (t' := 0) [(0, r1)] [] rfl s_359 rfl rfl ?_
  refine w_C.more (Q := fun r2 m2 => _) h (fun r2 m2 h => ?_)
  replace h := id h
  refine w_istore_n (lv' := [some (2, 404), some (0, l1), some (0, r2), none]) rfl rfl rfl ?_
  refine w_aload_n rfl rfl ?_
  refine w_gfC (c := 359) rfl s_404 rfl rfl ?_
  refine w_aload_n rfl rfl ?_
  refine w_iconst rfl (by decide) ?_
  refine w_callV (t' := 0) [(0, 1)] [(2, 359)] rfl s_404 rfl rfl ?_
  refine w_C.more (Q := fun r3 m3 => _) h (fun r3 m3 h => ?_)
  replace h := id h
  refine w_callV (t' := 0) [(0, r3)] [] rfl s_359 rfl rfl ?_
  refine w_C.more (Q := fun r4 m4 => _) h (fun r4 m4 h => ?_)
  replace h := id h
  refine w_istore_n (lv' := [some (2, 404), some (0, l1), some (0, r2), some (0, r4)]) rfl rfl rfl ?_
  refine w_iload_n rfl rfl ?_
  refine w_lswitch (pd := 186) [(21546, 115), (21572, 84), (21604, 68), (21613, 150)] rfl rfl rfl ?_
  refine w_ite h (fun h => ?_) (fun h => ?_)
  · refine w_aload_n rfl rfl ?_
    refine w_gfC (c := 408) rfl s_404 rfl rfl ?_
    refine w_bipush rfl (by decide) ?_
    refine w_iald rfl s_408 (n := 12) rfl (by decide) ?_
    refine w_ldc (a := (-2147483648)) rfl (by decide +kernel) (by decide) ?_
    refine w_iceq rfl (w_ite h (fun h => ?_) (fun h => ?_))
    · refine w_bipush rfl (by decide) ?_
      exact w_iret rfl rfl h
    · refine w_aload_n rfl rfl ?_
      refine w_iconst rfl (by decide) ?_
      refine w_aload_n rfl rfl ?_
      refine w_gfC (c := 408) rfl s_404 rfl rfl ?_
      refine w_bipush rfl (by decide) ?_
      refine w_iald rfl s_408 (n := 12) rfl (by decide) ?_
      refine w_ineg rfl ?_
      refine w_callV (t' := 0) [(0, w_32 (-(m4 408 11))), (0, 0)] [] rfl s_404 rfl rfl ?_
      refine w_C.more (Q := fun r5 m5 => _) h (fun r5 m5 h => ?_)
      replace h := id h
      refine w_ifeq rfl (w_ite h (fun h => ?_) (fun h => ?_))
      · refine w_bipush rfl (by decide) ?_
        exact w_iret rfl rfl h
      · refine w_iconst rfl (by decide) ?_
        refine w_goto rfl ?_
        exact w_iret rfl rfl h
  ·
    refine w_ite h (fun h => ?_) (fun h => ?_)
    · refine w_aload_n rfl rfl ?_
      refine w_gfC (c := 408) rfl s_404 rfl rfl ?_
      refine w_bipush rfl (by decide) ?_
      refine w_iload_n rfl rfl ?_
      refine w_ineg rfl ?_
      refine w_iast rfl s_408 (w_EC (by decide)) (n := 12) rfl (by decide) ?_
      refine w_iload_n rfl rfl ?_
      refine w_ldc (a := (-2147483648)) rfl (by decide +kernel) (by decide) ?_
      refine w_iceq rfl (w_ite h (fun h => ?_) (fun h => ?_))
      · refine w_bipush rfl (by decide) ?_
        exact w_iret rfl rfl h
      · refine w_aload_n rfl rfl ?_
        refine w_iload_n rfl rfl ?_
        refine w_iload_n rfl rfl ?_
        refine w_callV (t' := 0) [(0, r4), (0, r2)] [] rfl s_404 rfl rfl ?_
        refine w_C.more (Q := fun r6 m6 => _) h (fun r6 m6 h => ?_)
        replace h := id h
        refine w_ifeq rfl (w_ite h (fun h => ?_) (fun h => ?_))
        · refine w_bipush rfl (by decide) ?_
          exact w_iret rfl rfl h
        · refine w_iconst rfl (by decide) ?_
          refine w_goto rfl ?_
          exact w_iret rfl rfl h
    ·
      refine w_ite h (fun h => ?_) (fun h => ?_)
      · refine w_aload_n rfl rfl ?_
        refine w_iload_n rfl rfl ?_
        refine w_iload_n rfl rfl ?_
        refine w_callV (t' := 0) [(0, r4), (0, r2)] [] rfl s_404 rfl rfl ?_
        refine w_C.more (Q := fun r7 m7 => _) h (fun r7 m7 h => ?_)
        replace h := id h
        refine w_ifeq rfl (w_ite h (fun h => ?_) (fun h => ?_))
        · refine w_bipush rfl (by decide) ?_
          exact w_iret rfl rfl h
        · refine w_iconst rfl (by decide) ?_
          refine w_goto rfl ?_
          exact w_iret rfl rfl h
      ·
        refine w_ite h (fun h => ?_) (fun h => ?_)
        · refine w_aload_n rfl rfl ?_
          refine w_callV (t' := 3) [] [] rfl s_404 rfl rfl ?_
          refine w_C.more (Q := fun r8 m8 => _) h (fun r8 m8 h => ?_)
          replace h := id h
          refine w_aload_n rfl rfl ?_
          refine w_gfC (c := 412) rfl s_404 rfl rfl ?_
          refine w_iconst rfl (by decide) ?_
          refine w_aload_n rfl rfl ?_
          refine w_gfC (c := 410) rfl s_404 rfl rfl ?_
          refine w_iconst rfl (by decide) ?_
          refine w_bipush rfl (by decide) ?_
          refine w_acopy rfl s_412 s_410 (w_E1 (by decide)) (w_EC (by decide)) (by decide) rfl h.1 ?_
          replace h := h.2
          refine w_aload_n rfl rfl ?_
          refine w_gfC (c := 412) rfl s_404 rfl rfl ?_
          refine w_iconst rfl (by decide) ?_
          refine w_aload_n rfl rfl ?_
          refine w_gfC (c := 411) rfl s_404 rfl rfl ?_
          refine w_iconst rfl (by decide) ?_
          refine w_bipush rfl (by decide) ?_
          refine w_acopy rfl s_412 s_411 (w_E1 (by decide)) (w_EC (by decide)) (by decide) rfl h.1 ?_
          replace h := h.2
          refine w_iconst rfl (by decide) ?_
          exact w_iret rfl rfl h
        · refine w_iconst rfl (by decide) ?_
          exact w_iret rfl rfl h
theorem xr_pa_wrong {d : Nat} {m : w_M} {Q : Int → w_M → Prop} (h : Q (m 405 6) m) : xc_pa_wrong (d + 1) m Q := by
  refine w_enter (q := 0) (lv := [some (2, 404)]) rfl rfl rfl ?_
  refine w_aload_n rfl rfl ?_
  refine w_gfC (c := 405) rfl s_404 rfl rfl ?_
  refine x_gfI rfl s_405 rfl (kk := 6) rfl rfl ?_
  exact w_iret rfl rfl h
theorem xr_pa_wrongAt {d : Nat} {m : w_M} {Q : Int → w_M → Prop} (h : Q (m 405 7) m) : xc_pa_wrongAt (d + 1) m Q := by
  refine w_enter (q := 0) (lv := [some (2, 404)]) rfl rfl rfl ?_
  refine w_aload_n rfl rfl ?_
  refine w_gfC (c := 405) rfl s_404 rfl rfl ?_
  refine x_gfI rfl s_405 rfl (kk := 7) rfl rfl ?_
  exact w_iret rfl rfl h
