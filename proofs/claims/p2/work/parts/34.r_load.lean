/-! ===== regions (printed by program): se_.*|lo_.* ===== -/
set_option maxRecDepth 100000
theorem xr_lo_begin {d : Nat} {l1 l2 : Int} {m : w_M} {Q : Int → w_M → Prop} (h : w_isR l1 ∧ ((w_isA 1 l1 ∧ w_isA 1 395 ∧ (357 : Int) ≤ l1 ∧ w_wr (w_G0 sC) (Int.toNat 395) ∧ (0 : Int) ≤ (max 0 (min l2 (min (w_ln l1) 8000))) ∧ (0 : Int) ≤ 0 ∧ (0 : Int) ≤ 0 ∧ (0 + (max 0 (min l2 (min (w_ln l1) 8000))) : Int) ≤ w_ln l1 ∧ (0 + (max 0 (min l2 (min (w_ln l1) 8000))) : Int) ≤ w_ln 395) ∧ (xc_st_clear d (w_cpy (w_up m 394 1 (max 0 (min l2 (min (w_ln l1) 8000)))) l1 0 395 0 (max 0 (min l2 (min (w_ln l1) 8000)))) (fun r1 m1 => xc_ta_clear d m1 (fun r2 m2 => xc_ps_restart d 376 1 (w_up m2 394 9 0) (fun r3 m3 => xc_ps_open d 376 395 0 (m3 394 1) m3 (fun r4 m4 => xc_lo_passes d 0 1 m4 (fun r5 m5 => if r5 = 0 then (Q (-1) m5) else (xc_ps_at d 376 (m5 376 4) m5 (fun r6 m6 => if r6 < 48 then (xc_ps_fail d 376 1 (m6 376 4) m6 (fun r7 m7 => Q r7 m7)) else (if 55 < r6 then (xc_ps_fail d 376 1 (m6 376 4) m6 (fun r8 m8 => Q r8 m8)) else (xc_lo_lastStart d m6 (fun r9 m9 => if r9 < 0 then (xc_ps_fail d 376 2 (m9 394 1) m9 (fun r10 m10 => Q r10 m10)) else (xc_js_length sC d 2 m9 (fun r11 m11 => xc_lo_readStart d (w_up m11 376 4 (w_32 (r9 + r11))) (fun r12 m12 => Q r12 m12)))))))))))))))) : xc_lo_begin (d + 1) l1 l2 m Q := by
  refine w_enter (q := 2) (lv := [some (2, 394), some (2, l1), some (0, l2), none, none]) rfl rfl rfl ?_
  refine w_aload_n rfl rfl ?_
  refine w_iconst rfl (by decide) ?_
  refine w_iload_n rfl rfl ?_
  refine w_aload_n rfl rfl ?_
  refine x_len rfl h.1 ?_
  replace h := h.2
  refine w_aload_n rfl rfl ?_
  refine w_gfC (c := 395) rfl s_394 rfl rfl ?_
  refine w_len rfl s_395 (by decide) (n := 8000) rfl (by decide) ?_
  refine w_min rfl rfl ?_
  refine w_min rfl rfl ?_
  refine w_max rfl rfl ?_
  refine w_pfI rfl s_394 rfl (w_EC (by decide)) rfl (kk := 1) rfl ?_
  refine w_aload_n rfl rfl ?_
  refine w_iconst rfl (by decide) ?_
  refine w_aload_n rfl rfl ?_
  refine w_gfC (c := 395) rfl s_394 rfl rfl ?_
  refine w_iconst rfl (by decide) ?_
  refine w_aload_n rfl rfl ?_
  refine x_gfI rfl s_394 rfl (kk := 1) rfl (w_up_eq) ?_
  refine x_acopy rfl h.1.1 h.1.2.1 h.1.2.2.1 h.1.2.2.2.1 rfl h.1.2.2.2.2 ?_
  replace h := h.2
  refine w_aload_n rfl rfl ?_
  refine w_gfC (c := 359) rfl s_394 rfl rfl ?_
  refine w_callV (t' := 3) [] [] rfl s_359 rfl rfl ?_
  refine w_C.more (Q := fun r1 m1 => _) h (fun r1 m1 h => ?_)
  replace h := id h
  refine w_aload_n rfl rfl ?_
  refine w_gfC (c := 366) rfl s_394 rfl rfl ?_
  refine w_callV (t' := 3) [] [] rfl s_366 rfl rfl ?_
  refine w_C.more (Q := fun r2 m2 => _) h (fun r2 m2 h => ?_)
  replace h := id h
  refine w_aload_n rfl rfl ?_
  refine w_iconst rfl (by decide) ?_
  refine w_pfI rfl s_394 rfl (w_EC (by decide)) rfl (kk := 9) rfl ?_
  refine w_aload_n rfl rfl ?_
  refine w_gfC (c := 376) rfl s_394 rfl rfl ?_
  refine w_iconst rfl (by decide) ?_
  refine w_callV (t' := 3) [(0, 1)] [] rfl s_376 rfl rfl ?_
  refine w_C.more (Q := fun r3 m3 => _) h (fun r3 m3 h => ?_)
  replace h := id h
  refine w_aload_n rfl rfl ?_
  refine w_gfC (c := 376) rfl s_394 rfl rfl ?_
  refine w_aload_n rfl rfl ?_
  refine w_gfC (c := 395) rfl s_394 rfl rfl ?_
  refine w_iconst rfl (by decide) ?_
  refine w_aload_n rfl rfl ?_
  refine x_gfI rfl s_394 rfl (kk := 1) rfl rfl ?_
  refine w_callV (t' := 3) [(0, m3 394 1), (0, 0), (2, 395)] [] rfl s_376 rfl rfl ?_
  refine w_C.more (Q := fun r4 m4 => _) h (fun r4 m4 h => ?_)
  replace h := id h
  refine w_aload_n rfl rfl ?_
  refine w_ldcR rfl ?_
  refine w_iconst rfl (by decide) ?_
  refine w_callV (t' := 0) [(0, 1), (2, 0)] [] rfl s_394 rfl rfl ?_
  refine w_C.more (Q := fun r5 m5 => _) h (fun r5 m5 h => ?_)
  replace h := id h
  refine w_ifne rfl (w_ite h (fun h => ?_) (fun h => ?_))
  · refine w_iconst rfl (by decide) ?_
    exact w_iret rfl rfl h
  · refine w_aload_n rfl rfl ?_
    refine w_gfC (c := 376) rfl s_394 rfl rfl ?_
    refine w_aload_n rfl rfl ?_
    refine w_gfC (c := 376) rfl s_394 rfl rfl ?_
    refine x_gfI rfl s_376 rfl (kk := 4) rfl rfl ?_
    refine w_callV (t' := 0) [(0, m5 376 4)] [] rfl s_376 rfl rfl ?_
    refine w_C.more (Q := fun r6 m6 => _) h (fun r6 m6 h => ?_)
    replace h := id h
    refine w_istore_n (lv' := [some (2, 394), some (2, l1), some (0, l2), some (0, r6), none]) rfl rfl rfl ?_
    refine w_iload_n rfl rfl ?_
    refine w_bipush rfl (by decide) ?_
    refine w_iclt rfl (w_ite h (fun h => ?_) (fun h => ?_))
    · refine w_aload_n rfl rfl ?_
      refine w_gfC (c := 376) rfl s_394 rfl rfl ?_
      refine w_iconst rfl (by decide) ?_
      refine w_aload_n rfl rfl ?_
      refine w_gfC (c := 376) rfl s_394 rfl rfl ?_
      refine x_gfI rfl s_376 rfl (kk := 4) rfl rfl ?_
      refine w_callV (t' := 0) [(0, m6 376 4), (0, 1)] [] rfl s_376 rfl rfl ?_
      refine w_C.more (Q := fun r7 m7 => _) h (fun r7 m7 h => ?_)
      replace h := id h
      exact w_iret rfl rfl h
    · refine w_iload_n rfl rfl ?_
      refine w_bipush rfl (by decide) ?_
      refine w_icle rfl (w_ite h (fun h => ?_) (fun h => ?_))
      · refine w_aload_n rfl rfl ?_
        refine w_gfC (c := 376) rfl s_394 rfl rfl ?_
        refine w_iconst rfl (by decide) ?_
        refine w_aload_n rfl rfl ?_
        refine w_gfC (c := 376) rfl s_394 rfl rfl ?_
        refine x_gfI rfl s_376 rfl (kk := 4) rfl rfl ?_
        refine w_callV (t' := 0) [(0, m6 376 4), (0, 1)] [] rfl s_376 rfl rfl ?_
        refine w_C.more (Q := fun r8 m8 => _) h (fun r8 m8 h => ?_)
        replace h := id h
        exact w_iret rfl rfl h
      · refine w_aload_n rfl rfl ?_
        refine w_callV (t' := 0) [] [] rfl s_394 rfl rfl ?_
        refine w_C.more (Q := fun r9 m9 => _) h (fun r9 m9 h => ?_)
        replace h := id h
        refine w_istore (lv' := [some (2, 394), some (2, l1), some (0, l2), some (0, r6), some (0, r9)]) rfl rfl rfl ?_
        refine w_iload rfl rfl ?_
        refine w_ifge rfl (w_ite h (fun h => ?_) (fun h => ?_))
        · refine w_aload_n rfl rfl ?_
          refine w_gfC (c := 376) rfl s_394 rfl rfl ?_
          refine w_iconst rfl (by decide) ?_
          refine w_aload_n rfl rfl ?_
          refine x_gfI rfl s_394 rfl (kk := 1) rfl rfl ?_
          refine w_callV (t' := 0) [(0, m9 394 1), (0, 2)] [] rfl s_376 rfl rfl ?_
          refine w_C.more (Q := fun r10 m10 => _) h (fun r10 m10 h => ?_)
          replace h := id h
          exact w_iret rfl rfl h
        · refine w_aload_n rfl rfl ?_
          refine w_gfC (c := 376) rfl s_394 rfl rfl ?_
          refine w_iload rfl rfl ?_
          refine w_ldcR rfl ?_
          refine w_callV (t' := 0) [] [(0, r9), (2, 376)] rfl (w_isS_s (a := 2) ⟨by decide, rfl⟩) rfl rfl ?_
          refine w_C.more (Q := fun r11 m11 => _) h (fun r11 m11 h => ?_)
          replace h := id h
          refine w_iadd rfl ?_
          refine w_pfI rfl s_376 rfl (w_EC (by decide)) rfl (kk := 4) rfl ?_
          refine w_aload_n rfl rfl ?_
          refine w_callV (t' := 0) [] [] rfl s_394 rfl rfl ?_
          refine w_C.more (Q := fun r12 m12 => _) h (fun r12 m12 h => ?_)
          replace h := id h
          exact w_iret rfl rfl h
theorem xr_lo_clip {d : Nat} {l1 : Int} {m : w_M} {Q : Int → w_M → Prop} (h : if l1 < 0 then (Q (m 394 1) m) else (if (m 394 1) < l1 then (Q (m 394 1) m) else (Q l1 m))) : xc_lo_clip (d + 1) l1 m Q := by
  refine w_enter (q := 0) (lv := [some (2, 394), some (0, l1)]) rfl rfl rfl ?_
  refine w_iload_n rfl rfl ?_
  refine w_iflt rfl (w_ite h (fun h => ?_) (fun h => ?_))
  · refine w_aload_n rfl rfl ?_
    refine x_gfI rfl s_394 rfl (kk := 1) rfl rfl ?_
    refine w_goto rfl ?_
    exact w_iret rfl rfl h
  · refine w_iload_n rfl rfl ?_
    refine w_aload_n rfl rfl ?_
    refine x_gfI rfl s_394 rfl (kk := 1) rfl rfl ?_
    refine w_icle rfl (w_ite h (fun h => ?_) (fun h => ?_))
    · refine w_aload_n rfl rfl ?_
      refine x_gfI rfl s_394 rfl (kk := 1) rfl rfl ?_
      refine w_goto rfl ?_
      exact w_iret rfl rfl h
    · refine w_iload_n rfl rfl ?_
      exact w_iret rfl rfl h
theorem xr_lo_failObject {d : Nat} {l1 : Int} {m : w_M} {Q : Int → w_M → Prop} (h : xc_ta_howOf d l1 m (fun r1 m1 => if r1 = 2 then (xc_ta_placeOf d l1 m1 (fun r2 m2 => xc_lo_clip d r2 m2 (fun r3 m3 => xc_ps_fail d 376 6 r3 m3 (fun r4 m4 => Q r4 m4)))) else (xc_ps_fail d 376 6 (m1 394 1) m1 (fun r5 m5 => Q r5 m5)))) : xc_lo_failObject (d + 1) l1 m Q := by
  refine w_enter (q := 0) (lv := [some (2, 394), some (0, l1)]) rfl rfl rfl ?_
  refine w_aload_n rfl rfl ?_
  refine w_gfC (c := 376) rfl s_394 rfl rfl ?_
  refine w_bipush rfl (by decide) ?_
  refine w_aload_n rfl rfl ?_
  refine w_gfC (c := 366) rfl s_394 rfl rfl ?_
  refine w_iload_n rfl rfl ?_
  refine w_callV (t' := 0) [(0, l1)] [(0, 6), (2, 376)] rfl s_366 rfl rfl ?_
  refine w_C.more (Q := fun r1 m1 => _) h (fun r1 m1 h => ?_)
  replace h := id h
  refine w_iconst rfl (by decide) ?_
  refine w_icne rfl (w_ite h (fun h => ?_) (fun h => ?_))
  · refine w_aload_n rfl rfl ?_
    refine w_aload_n rfl rfl ?_
    refine w_gfC (c := 366) rfl s_394 rfl rfl ?_
    refine w_iload_n rfl rfl ?_
    refine w_callV (t' := 0) [(0, l1)] [(2, 394), (0, 6), (2, 376)] rfl s_366 rfl rfl ?_
    refine w_C.more (Q := fun r2 m2 => _) h (fun r2 m2 h => ?_)
    replace h := id h
    refine w_callV (t' := 0) [(0, r2)] [(0, 6), (2, 376)] rfl s_394 rfl rfl ?_
    refine w_C.more (Q := fun r3 m3 => _) h (fun r3 m3 h => ?_)
    replace h := id h
    refine w_goto rfl ?_
    refine w_callV (t' := 0) [(0, r3), (0, 6)] [] rfl s_376 rfl rfl ?_
    refine w_C.more (Q := fun r4 m4 => _) h (fun r4 m4 h => ?_)
    replace h := id h
    exact w_iret rfl rfl h
  · refine w_aload_n rfl rfl ?_
    refine x_gfI rfl s_394 rfl (kk := 1) rfl rfl ?_
    refine w_callV (t' := 0) [(0, m1 394 1), (0, 6)] [] rfl s_376 rfl rfl ?_
    refine w_C.more (Q := fun r5 m5 => _) h (fun r5 m5 h => ?_)
    replace h := id h
    exact w_iret rfl rfl h
theorem xr_lo_findInside {d : Nat} {l1 : Int} {m : w_M} {Q : Int → w_M → Prop} (h : xc_ta_placeOf d l1 m (fun r1 m1 => xc_ta_rootOf d r1 m1 (fun r2 m2 => xc_st_wholeEntry d r2 39 m2 (fun r3 m3 => xc_st_wholeEntry d r2 40 m3 (fun r4 m4 => xc_ta_isStream d r1 m4 (fun r5 m5 => if r5 = 0 then (xp_lo_findInside_97 d l1 r1 r3 r4 0 m5 Q) else (if r3 < 0 then (xp_lo_findInside_97 d l1 r1 r3 r4 0 m5 Q) else (if 200 < r3 then (xp_lo_findInside_97 d l1 r1 r3 r4 0 m5 Q) else (if r4 < 0 then (xp_lo_findInside_97 d l1 r1 r3 r4 0 m5 Q) else (xc_st_entry d r2 1 m5 (fun r6 m6 => xc_st_isName d r6 38 m6 (fun r7 m7 => if r7 = 0 then (xp_lo_findInside_97 d l1 r1 r3 r4 0 m7 Q) else (xp_lo_findInside_97 d l1 r1 r3 r4 1 m7 Q))))))))))))) : xc_lo_findInside (d + 1) l1 m Q := by
  refine w_enter (q := 12) (lv := [some (2, 394), some (0, l1), none, none, none, none, none, none, none, none, none, none, none, none]) rfl rfl rfl ?_
  refine w_aload_n rfl rfl ?_
  refine w_gfC (c := 366) rfl s_394 rfl rfl ?_
  refine w_iload_n rfl rfl ?_
  refine w_callV (t' := 0) [(0, l1)] [] rfl s_366 rfl rfl ?_
  refine w_C.more (Q := fun r1 m1 => _) h (fun r1 m1 h => ?_)
  replace h := id h
  refine w_istore_n (lv' := [some (2, 394), some (0, l1), some (0, r1), none, none, none, none, none, none, none, none, none, none, none]) rfl rfl rfl ?_
  refine w_aload_n rfl rfl ?_
  refine w_gfC (c := 366) rfl s_394 rfl rfl ?_
  refine w_iload_n rfl rfl ?_
  refine w_callV (t' := 0) [(0, r1)] [] rfl s_366 rfl rfl ?_
  refine w_C.more (Q := fun r2 m2 => _) h (fun r2 m2 h => ?_)
  replace h := id h
  refine w_istore_n (lv' := [some (2, 394), some (0, l1), some (0, r1), some (0, r2), none, none, none, none, none, none, none, none, none, none]) rfl rfl rfl ?_
  refine w_aload_n rfl rfl ?_
  refine w_gfC (c := 359) rfl s_394 rfl rfl ?_
  refine w_iload_n rfl rfl ?_
  refine w_bipush rfl (by decide) ?_
  refine w_callV (t' := 0) [(0, 39), (0, r2)] [] rfl s_359 rfl rfl ?_
  refine w_C.more (Q := fun r3 m3 => _) h (fun r3 m3 h => ?_)
  replace h := id h
  refine w_istore (lv' := [some (2, 394), some (0, l1), some (0, r1), some (0, r2), some (0, r3), none, none, none, none, none, none, none, none, none]) rfl rfl rfl ?_
  refine w_aload_n rfl rfl ?_
  refine w_gfC (c := 359) rfl s_394 rfl rfl ?_
  refine w_iload_n rfl rfl ?_
  refine w_bipush rfl (by decide) ?_
  refine w_callV (t' := 0) [(0, 40), (0, r2)] [] rfl s_359 rfl rfl ?_
  refine w_C.more (Q := fun r4 m4 => _) h (fun r4 m4 h => ?_)
  replace h := id h
  refine w_istore (lv' := [some (2, 394), some (0, l1), some (0, r1), some (0, r2), some (0, r3), some (0, r4), none, none, none, none, none, none, none, none]) rfl rfl rfl ?_
  refine w_aload_n rfl rfl ?_
  refine w_gfC (c := 366) rfl s_394 rfl rfl ?_
  refine w_iload_n rfl rfl ?_
  refine w_callV (t' := 0) [(0, r1)] [] rfl s_366 rfl rfl ?_
  refine w_C.more (Q := fun r5 m5 => _) h (fun r5 m5 h => ?_)
  replace h := id h
  refine w_ifeq rfl (w_ite h (fun h => ?_) (fun h => ?_))
  · refine w_iconst rfl (by decide) ?_
    exact w_W.less h (w_sub [true, true, true, false, true, true, false, false, false, false, false, false, false, false] rfl)
  · refine w_iload rfl rfl ?_
    refine w_iflt rfl (w_ite h (fun h => ?_) (fun h => ?_))
    · refine w_iconst rfl (by decide) ?_
      exact w_W.less h (w_sub [true, true, true, false, true, true, false, false, false, false, false, false, false, false] rfl)
    · refine w_iload rfl rfl ?_
      refine w_sipush rfl (by decide) ?_
      refine w_icgt rfl (w_ite h (fun h => ?_) (fun h => ?_))
      · refine w_iconst rfl (by decide) ?_
        exact w_W.less h (w_sub [true, true, true, false, true, true, false, false, false, false, false, false, false, false] rfl)
      · refine w_iload rfl rfl ?_
        refine w_iflt rfl (w_ite h (fun h => ?_) (fun h => ?_))
        · refine w_iconst rfl (by decide) ?_
          exact w_W.less h (w_sub [true, true, true, false, true, true, false, false, false, false, false, false, false, false] rfl)
        · refine w_aload_n rfl rfl ?_
          refine w_gfC (c := 359) rfl s_394 rfl rfl ?_
          refine w_aload_n rfl rfl ?_
          refine w_gfC (c := 359) rfl s_394 rfl rfl ?_
          refine w_iload_n rfl rfl ?_
          refine w_iconst rfl (by decide) ?_
          refine w_callV (t' := 0) [(0, 1), (0, r2)] [(2, 359)] rfl s_359 rfl rfl ?_
          refine w_C.more (Q := fun r6 m6 => _) h (fun r6 m6 h => ?_)
          replace h := id h
          refine w_bipush rfl (by decide) ?_
          refine w_callV (t' := 0) [(0, 38), (0, r6)] [] rfl s_359 rfl rfl ?_
          refine w_C.more (Q := fun r7 m7 => _) h (fun r7 m7 h => ?_)
          replace h := id h
          refine w_ifeq rfl (w_ite h (fun h => ?_) (fun h => ?_))
          · refine w_iconst rfl (by decide) ?_
            exact w_W.less h (w_sub [true, true, true, false, true, true, false, false, false, false, false, false, false, false] rfl)
          · refine w_iconst rfl (by decide) ?_
            refine w_goto rfl ?_
            exact w_W.less h (w_sub [true, true, true, false, true, true, false, false, false, false, false, false, false, false] rfl)
theorem xr_lo_findInside_97 {d : Nat} {l1 l2 l4 l5 s0 : Int} {m : w_M} {Q : Int → w_M → Prop} (h : xc_ta_beginOf d l2 m (fun r1 m1 => xc_ta_lengthOf d l2 m1 (fun r2 m2 => xc_ps_open d 376 375 r1 (w_32 (r1 + r2)) m2 (fun r3 m3 => xp_lo_findInside_148 d l1 l2 l4 l5 s0 r1 (w_32 (r1 + r2)) (-1) 0 m3 Q)))) : xp_lo_findInside_97 d l1 l2 l4 l5 s0 m Q := by
  refine w_istore (lv' := [some (2, 394), some (0, l1), some (0, l2), none, some (0, l4), some (0, l5), some (0, s0), none, none, none, none, none, none, none]) rfl rfl rfl ?_
  refine w_aload_n rfl rfl ?_
  refine w_gfC (c := 366) rfl s_394 rfl rfl ?_
  refine w_iload_n rfl rfl ?_
  refine w_callV (t' := 0) [(0, l2)] [] rfl s_366 rfl rfl ?_
  refine w_C.more (Q := fun r1 m1 => _) h (fun r1 m1 h => ?_)
  replace h := id h
  refine w_istore (lv' := [some (2, 394), some (0, l1), some (0, l2), none, some (0, l4), some (0, l5), some (0, s0), some (0, r1), none, none, none, none, none, none]) rfl rfl rfl ?_
  refine w_iload rfl rfl ?_
  refine w_aload_n rfl rfl ?_
  refine w_gfC (c := 366) rfl s_394 rfl rfl ?_
  refine w_iload_n rfl rfl ?_
  refine w_callV (t' := 0) [(0, l2)] [(0, r1)] rfl s_366 rfl rfl ?_
  refine w_C.more (Q := fun r2 m2 => _) h (fun r2 m2 h => ?_)
  replace h := id h
  refine w_iadd rfl ?_
  refine w_istore (lv' := [some (2, 394), some (0, l1), some (0, l2), none, some (0, l4), some (0, l5), some (0, s0), some (0, r1), some (0, w_32 (r1 + r2)), none, none, none, none, none]) rfl rfl rfl ?_
  refine w_aload_n rfl rfl ?_
  refine w_gfC (c := 376) rfl s_394 rfl rfl ?_
  refine w_aload_n rfl rfl ?_
  refine w_gfC (c := 366) rfl s_394 rfl rfl ?_
  refine w_gfC (c := 375) rfl s_366 rfl rfl ?_
  refine w_iload rfl rfl ?_
  refine w_iload rfl rfl ?_
  refine w_callV (t' := 3) [(0, w_32 (r1 + r2)), (0, r1), (2, 375)] [] rfl s_376 rfl rfl ?_
  refine w_C.more (Q := fun r3 m3 => _) h (fun r3 m3 h => ?_)
  replace h := id h
  refine w_ldc2 (a := (-1)) rfl (by decide +kernel) (by decide) ?_
  refine w_lstore (lv' := [some (2, 394), some (0, l1), some (0, l2), none, some (0, l4), some (0, l5), some (0, s0), some (0, r1), some (0, w_32 (r1 + r2)), some (1, (-1)), none, none, none, none]) rfl rfl rfl ?_
  refine w_iconst rfl (by decide) ?_
  refine w_istore (lv' := [some (2, 394), some (0, l1), some (0, l2), none, some (0, l4), some (0, l5), some (0, s0), some (0, r1), some (0, w_32 (r1 + r2)), some (1, (-1)), none, some (0, 0), none, none]) rfl rfl rfl ?_
  exact w_W.less h (w_sub [true, true, true, false, true, true, true, true, true, true, false, true, false, false] rfl)
theorem xr_lo_findInside_148 {d : Nat} {l1 l2 l4 l5 l6 l7 l8 l9 l11 : Int} {m : w_M} {Q : Int → w_M → Prop} (h : if l11 < l4 then (if l6 = 0 then (xp_lo_findInside_237 d l2 l6 l8 l9 m Q) else (xc_ps_unsigned d 376 m (fun r1 m1 => if r1 < 0 then (xp_lo_findInside_197 d l1 l2 l4 l5 l7 l8 l9 l11 r1 (-1) 0 m1 Q) else (xc_ps_unsigned d 376 m1 (fun r2 m2 => if r2 < 0 then (xp_lo_findInside_197 d l1 l2 l4 l5 l7 l8 l9 l11 r1 r2 0 m2 Q) else (xp_lo_findInside_197 d l1 l2 l4 l5 l7 l8 l9 l11 r1 r2 1 m2 Q)))))) else (xp_lo_findInside_237 d l2 l6 l8 l9 m Q)) : xp_lo_findInside_148 d l1 l2 l4 l5 l6 l7 l8 l9 l11 m Q := by
  refine w_iload rfl rfl ?_
  refine w_iload rfl rfl ?_
  refine w_icge rfl (w_ite h (fun h => ?_) (fun h => ?_))
  · refine w_iload rfl rfl ?_
    refine w_ifeq rfl (w_ite h (fun h => ?_) (fun h => ?_))
    · exact w_W.less h (w_sub [true, false, true, false, false, false, true, false, true, true, false, false, false, false] rfl)
    · refine w_aload_n rfl rfl ?_
      refine w_gfC (c := 376) rfl s_394 rfl rfl ?_
      refine w_callV (t' := 0) [] [] rfl s_376 rfl rfl ?_
      refine w_C.more (Q := fun r1 m1 => _) h (fun r1 m1 h => ?_)
      replace h := id h
      refine w_istore (lv' := [some (2, 394), some (0, l1), some (0, l2), none, some (0, l4), some (0, l5), some (0, l6), some (0, l7), some (0, l8), some (1, l9), none, some (0, l11), some (0, r1), none]) rfl rfl rfl ?_
      refine w_iload rfl rfl ?_
      refine w_ifge rfl (w_ite h (fun h => ?_) (fun h => ?_))
      · refine w_iconst rfl (by decide) ?_
        refine w_goto rfl ?_
        refine w_istore (lv' := [some (2, 394), some (0, l1), some (0, l2), none, some (0, l4), some (0, l5), some (0, l6), some (0, l7), some (0, l8), some (1, l9), none, some (0, l11), some (0, r1), some (0, (-1))]) rfl rfl rfl ?_
        refine w_iload rfl rfl ?_
        refine w_iflt rfl (w_ift (by decide) ?_)
        refine w_iconst rfl (by decide) ?_
        exact w_W.less h (w_sub [true, true, true, false, true, true, false, true, true, true, false, true, true, true] rfl)
      · refine w_aload_n rfl rfl ?_
        refine w_gfC (c := 376) rfl s_394 rfl rfl ?_
        refine w_callV (t' := 0) [] [] rfl s_376 rfl rfl ?_
        refine w_C.more (Q := fun r2 m2 => _) h (fun r2 m2 h => ?_)
        replace h := id h
        refine w_istore (lv' := [some (2, 394), some (0, l1), some (0, l2), none, some (0, l4), some (0, l5), some (0, l6), some (0, l7), some (0, l8), some (1, l9), none, some (0, l11), some (0, r1), some (0, r2)]) rfl rfl rfl ?_
        refine w_iload rfl rfl ?_
        refine w_iflt rfl (w_ite h (fun h => ?_) (fun h => ?_))
        · refine w_iconst rfl (by decide) ?_
          exact w_W.less h (w_sub [true, true, true, false, true, true, false, true, true, true, false, true, true, true] rfl)
        · refine w_iconst rfl (by decide) ?_
          refine w_goto rfl ?_
          exact w_W.less h (w_sub [true, true, true, false, true, true, false, true, true, true, false, true, true, true] rfl)
  · exact w_W.less h (w_sub [true, false, true, false, false, false, true, false, true, true, false, false, false, false] rfl)
theorem xr_lo_findInside_197 {d : Nat} {l1 l2 l4 l5 l7 l8 l9 l11 l12 l13 s0 : Int} {m : w_M} {Q : Int → w_M → Prop} (h : xc_ta_generationOf d l1 m (fun r1 m1 => if l11 = r1 then (if l12 = l1 then (xp_lo_findInside_148 d l1 l2 l4 l5 s0 l7 l8 (w_64 ((w_64 (l7 + l5)) + l13)) (w_32 (l11 + 1)) m1 Q) else (xp_lo_findInside_148 d l1 l2 l4 l5 s0 l7 l8 l9 (w_32 (l11 + 1)) m1 Q)) else (xp_lo_findInside_148 d l1 l2 l4 l5 s0 l7 l8 l9 (w_32 (l11 + 1)) m1 Q))) : xp_lo_findInside_197 d l1 l2 l4 l5 l7 l8 l9 l11 l12 l13 s0 m Q := by
  refine w_istore (lv' := [some (2, 394), some (0, l1), some (0, l2), none, some (0, l4), some (0, l5), some (0, s0), some (0, l7), some (0, l8), some (1, l9), none, some (0, l11), some (0, l12), some (0, l13)]) rfl rfl rfl ?_
  refine w_iload rfl rfl ?_
  refine w_aload_n rfl rfl ?_
  refine w_gfC (c := 366) rfl s_394 rfl rfl ?_
  refine w_iload_n rfl rfl ?_
  refine w_callV (t' := 0) [(0, l1)] [(0, l11)] rfl s_366 rfl rfl ?_
  refine w_C.more (Q := fun r1 m1 => _) h (fun r1 m1 h => ?_)
  replace h := id h
  refine w_icne rfl (w_ite h (fun h => ?_) (fun h => ?_))
  · refine w_iload rfl rfl ?_
    refine w_iload_n rfl rfl ?_
    refine w_icne rfl (w_ite h (fun h => ?_) (fun h => ?_))
    · refine w_iload rfl rfl ?_
      refine w_i2l rfl ?_
      refine w_iload rfl rfl ?_
      refine w_i2l rfl ?_
      refine w_ladd' rfl ?_
      refine w_iload rfl rfl ?_
      refine w_i2l rfl ?_
      refine w_ladd' rfl ?_
      refine w_lstore (lv' := [some (2, 394), some (0, l1), some (0, l2), none, some (0, l4), some (0, l5), some (0, s0), some (0, l7), some (0, l8), some (1, w_64 ((w_64 (l7 + l5)) + l13)), none, some (0, l11), some (0, l12), some (0, l13)]) rfl rfl rfl ?_
      refine w_iinc (lv' := [some (2, 394), some (0, l1), some (0, l2), none, some (0, l4), some (0, l5), some (0, s0), some (0, l7), some (0, l8), some (1, w_64 ((w_64 (l7 + l5)) + l13)), none, some (0, w_32 (l11 + 1)), some (0, l12), some (0, l13)]) rfl rfl rfl rfl ?_
      refine w_goto rfl ?_
      exact w_W.less h (w_sub [true, true, true, false, true, true, true, true, true, true, false, true, false, false] rfl)
    · refine w_iinc (lv' := [some (2, 394), some (0, l1), some (0, l2), none, some (0, l4), some (0, l5), some (0, s0), some (0, l7), some (0, l8), some (1, l9), none, some (0, w_32 (l11 + 1)), some (0, l12), some (0, l13)]) rfl rfl rfl rfl ?_
      refine w_goto rfl ?_
      exact w_W.less h (w_sub [true, true, true, false, true, true, true, true, true, true, false, true, false, false] rfl)
  · refine w_iinc (lv' := [some (2, 394), some (0, l1), some (0, l2), none, some (0, l4), some (0, l5), some (0, s0), some (0, l7), some (0, l8), some (1, l9), none, some (0, w_32 (l11 + 1)), some (0, l12), some (0, l13)]) rfl rfl rfl rfl ?_
    refine w_goto rfl ?_
    exact w_W.less h (w_sub [true, true, true, false, true, true, true, true, true, true, false, true, false, false] rfl)
theorem xr_lo_findInside_237 {d : Nat} {l2 l6 l8 l9 : Int} {m : w_M} {Q : Int → w_M → Prop} (h : if l6 = 0 then (xc_lo_failObject d l2 m (fun r1 m1 => Q 0 m1)) else (if l9 < 0 then (xc_lo_failObject d l2 m (fun r2 m2 => Q 0 m2)) else (Q 1 (w_up m 376 4 (w_32 (min l9 l8)))))) : xp_lo_findInside_237 d l2 l6 l8 l9 m Q := by
  refine w_iload rfl rfl ?_
  refine w_ifeq rfl (w_ite h (fun h => ?_) (fun h => ?_))
  · refine w_aload_n rfl rfl ?_
    refine w_iload_n rfl rfl ?_
    refine w_callV (t' := 0) [(0, l2)] [] rfl s_394 rfl rfl ?_
    refine w_C.more (Q := fun r1 m1 => _) h (fun r1 m1 h => ?_)
    replace h := id h
    refine w_pop rfl (show (0 : Nat) ≠ 1 by decide) ?_
    refine w_iconst rfl (by decide) ?_
    exact w_zret rfl rfl (by decide) h
  · refine w_lload rfl rfl ?_
    refine w_lconst rfl rfl ?_
    refine w_lcge rfl rfl (w_ite h (fun h => ?_) (fun h => ?_))
    · refine w_aload_n rfl rfl ?_
      refine w_iload_n rfl rfl ?_
      refine w_callV (t' := 0) [(0, l2)] [] rfl s_394 rfl rfl ?_
      refine w_C.more (Q := fun r2 m2 => _) h (fun r2 m2 h => ?_)
      replace h := id h
      refine w_pop rfl (show (0 : Nat) ≠ 1 by decide) ?_
      refine w_iconst rfl (by decide) ?_
      exact w_zret rfl rfl (by decide) h
    · refine w_aload_n rfl rfl ?_
      refine w_gfC (c := 376) rfl s_394 rfl rfl ?_
      refine w_lload rfl rfl ?_
      refine w_iload rfl rfl ?_
      refine w_i2l rfl ?_
      refine w_lmin rfl rfl ?_
      refine w_l2i rfl ?_
      refine w_pfI rfl s_376 rfl (w_EC (by decide)) rfl (kk := 4) rfl ?_
      refine w_iconst rfl (by decide) ?_
      exact w_zret rfl rfl (by decide) h
theorem xr_lo_findPlaced {d : Nat} {l1 : Int} {m : w_M} {Q : Int → w_M → Prop} (h : xc_ps_open d 376 395 0 (m 394 1) m (fun r1 m1 => xc_ta_placeOf d l1 m1 (fun r2 m2 => xc_lo_clip d r2 m2 (fun r3 m3 => xc_ps_unsigned d 376 (w_up m3 376 4 r3) (fun r4 m4 => if r4 < 0 then (xp_lo_findPlaced_58 d l1 r4 (-1) m4 Q) else (xc_ps_unsigned d 376 m4 (fun r5 m5 => xp_lo_findPlaced_58 d l1 r4 r5 m5 Q))))))) : xc_lo_findPlaced (d + 1) l1 m Q := by
  refine w_enter (q := 2) (lv := [some (2, 394), some (0, l1), none, none]) rfl rfl rfl ?_
  refine w_aload_n rfl rfl ?_
  refine w_gfC (c := 376) rfl s_394 rfl rfl ?_
  refine w_aload_n rfl rfl ?_
  refine w_gfC (c := 395) rfl s_394 rfl rfl ?_
  refine w_iconst rfl (by decide) ?_
  refine w_aload_n rfl rfl ?_
  refine x_gfI rfl s_394 rfl (kk := 1) rfl rfl ?_
  refine w_callV (t' := 3) [(0, m 394 1), (0, 0), (2, 395)] [] rfl s_376 rfl rfl ?_
  refine w_C.more (Q := fun r1 m1 => _) h (fun r1 m1 h => ?_)
  replace h := id h
  refine w_aload_n rfl rfl ?_
  refine w_gfC (c := 376) rfl s_394 rfl rfl ?_
  refine w_aload_n rfl rfl ?_
  refine w_aload_n rfl rfl ?_
  refine w_gfC (c := 366) rfl s_394 rfl rfl ?_
  refine w_iload_n rfl rfl ?_
  refine w_callV (t' := 0) [(0, l1)] [(2, 394), (2, 376)] rfl s_366 rfl rfl ?_
  refine w_C.more (Q := fun r2 m2 => _) h (fun r2 m2 h => ?_)
  replace h := id h
  refine w_callV (t' := 0) [(0, r2)] [(2, 376)] rfl s_394 rfl rfl ?_
  refine w_C.more (Q := fun r3 m3 => _) h (fun r3 m3 h => ?_)
  replace h := id h
  refine w_pfI rfl s_376 rfl (w_EC (by decide)) rfl (kk := 4) rfl ?_
  refine w_aload_n rfl rfl ?_
  refine w_gfC (c := 376) rfl s_394 rfl rfl ?_
  refine w_callV (t' := 0) [] [] rfl s_376 rfl rfl ?_
  refine w_C.more (Q := fun r4 m4 => _) h (fun r4 m4 h => ?_)
  replace h := id h
  refine w_istore_n (lv' := [some (2, 394), some (0, l1), some (0, r4), none]) rfl rfl rfl ?_
  refine w_iload_n rfl rfl ?_
  refine w_ifge rfl (w_ite h (fun h => ?_) (fun h => ?_))
  · refine w_iconst rfl (by decide) ?_
    refine w_goto rfl ?_
    exact w_W.less h (w_sub [true, true, true, false] rfl)
  · refine w_aload_n rfl rfl ?_
    refine w_gfC (c := 376) rfl s_394 rfl rfl ?_
    refine w_callV (t' := 0) [] [] rfl s_376 rfl rfl ?_
    refine w_C.more (Q := fun r5 m5 => _) h (fun r5 m5 h => ?_)
    replace h := id h
    exact w_W.less h (w_sub [true, true, true, false] rfl)
theorem xr_lo_findPlaced_58 {d : Nat} {l1 l2 s0 : Int} {m : w_M} {Q : Int → w_M → Prop} (h : if l2 = l1 then (if s0 < 0 then (xc_lo_failObject d l1 m (fun r1 m1 => Q 0 m1)) else (xc_ta_generationOf d l1 m (fun r2 m2 => if s0 = r2 then (xc_ps_word d 376 4 m2 (fun r3 m3 => if r3 = 0 then (xc_lo_failObject d l1 m3 (fun r4 m4 => Q 0 m4)) else (Q 1 m3))) else (xc_lo_failObject d l1 m2 (fun r5 m5 => Q 0 m5))))) else (xc_lo_failObject d l1 m (fun r6 m6 => Q 0 m6))) : xp_lo_findPlaced_58 d l1 l2 s0 m Q := by
  refine w_istore_n (lv' := [some (2, 394), some (0, l1), some (0, l2), some (0, s0)]) rfl rfl rfl ?_
  refine w_iload_n rfl rfl ?_
  refine w_iload_n rfl rfl ?_
  refine w_icne rfl (w_ite h (fun h => ?_) (fun h => ?_))
  · refine w_iload_n rfl rfl ?_
    refine w_iflt rfl (w_ite h (fun h => ?_) (fun h => ?_))
    · refine w_aload_n rfl rfl ?_
      refine w_iload_n rfl rfl ?_
      refine w_callV (t' := 0) [(0, l1)] [] rfl s_394 rfl rfl ?_
      refine w_C.more (Q := fun r1 m1 => _) h (fun r1 m1 h => ?_)
      replace h := id h
      refine w_pop rfl (show (0 : Nat) ≠ 1 by decide) ?_
      refine w_iconst rfl (by decide) ?_
      exact w_zret rfl rfl (by decide) h
    · refine w_iload_n rfl rfl ?_
      refine w_aload_n rfl rfl ?_
      refine w_gfC (c := 366) rfl s_394 rfl rfl ?_
      refine w_iload_n rfl rfl ?_
      refine w_callV (t' := 0) [(0, l1)] [(0, s0)] rfl s_366 rfl rfl ?_
      refine w_C.more (Q := fun r2 m2 => _) h (fun r2 m2 h => ?_)
      replace h := id h
      refine w_icne rfl (w_ite h (fun h => ?_) (fun h => ?_))
      · refine w_aload_n rfl rfl ?_
        refine w_gfC (c := 376) rfl s_394 rfl rfl ?_
        refine w_ldcR rfl ?_
        refine w_callV (t' := 0) [(2, 4)] [] rfl s_376 rfl rfl ?_
        refine w_C.more (Q := fun r3 m3 => _) h (fun r3 m3 h => ?_)
        replace h := id h
        refine w_ifne rfl (w_ite h (fun h => ?_) (fun h => ?_))
        · refine w_aload_n rfl rfl ?_
          refine w_iload_n rfl rfl ?_
          refine w_callV (t' := 0) [(0, l1)] [] rfl s_394 rfl rfl ?_
          refine w_C.more (Q := fun r4 m4 => _) h (fun r4 m4 h => ?_)
          replace h := id h
          refine w_pop rfl (show (0 : Nat) ≠ 1 by decide) ?_
          refine w_iconst rfl (by decide) ?_
          exact w_zret rfl rfl (by decide) h
        · refine w_iconst rfl (by decide) ?_
          exact w_zret rfl rfl (by decide) h
      · refine w_aload_n rfl rfl ?_
        refine w_iload_n rfl rfl ?_
        refine w_callV (t' := 0) [(0, l1)] [] rfl s_394 rfl rfl ?_
        refine w_C.more (Q := fun r5 m5 => _) h (fun r5 m5 h => ?_)
        replace h := id h
        refine w_pop rfl (show (0 : Nat) ≠ 1 by decide) ?_
        refine w_iconst rfl (by decide) ?_
        exact w_zret rfl rfl (by decide) h
  · refine w_aload_n rfl rfl ?_
    refine w_iload_n rfl rfl ?_
    refine w_callV (t' := 0) [(0, l1)] [] rfl s_394 rfl rfl ?_
    refine w_C.more (Q := fun r6 m6 => _) h (fun r6 m6 h => ?_)
    replace h := id h
    refine w_pop rfl (show (0 : Nat) ≠ 1 by decide) ?_
    refine w_iconst rfl (by decide) ?_
    exact w_zret rfl rfl (by decide) h
theorem xr_lo_isWaiting {d : Nat} {m : w_M} {Q : Int → w_M → Prop} (h : if 0 < (m 394 9) then (Q 1 m) else (Q 0 m)) : xc_lo_isWaiting (d + 1) m Q := by
  refine w_enter (q := 0) (lv := [some (2, 394)]) rfl rfl rfl ?_
  refine w_aload_n rfl rfl ?_
  refine x_gfI rfl s_394 rfl (kk := 9) rfl rfl ?_
  refine w_ifle rfl (w_ite h (fun h => ?_) (fun h => ?_))
  · refine w_iconst rfl (by decide) ?_
    refine w_goto rfl ?_
    exact w_zret rfl rfl (by decide) h
  · refine w_iconst rfl (by decide) ?_
    exact w_zret rfl rfl (by decide) h
theorem xr_lo_lastStart {d : Nat} {m : w_M} {Q : Int → w_M → Prop} (h : xc_js_length sC d 2 m (fun r1 m1 => xp_lo_lastStart_11 d (w_32 ((m 394 1) - r1)) m1 Q)) : xc_lo_lastStart (d + 1) m Q := by
  refine w_enter (q := 2) (lv := [some (2, 394), none, none]) rfl rfl rfl ?_
  refine w_aload_n rfl rfl ?_
  refine x_gfI rfl s_394 rfl (kk := 1) rfl rfl ?_
  refine w_ldcR rfl ?_
  refine w_callV (t' := 0) [] [(0, m 394 1)] rfl (w_isS_s (a := 2) ⟨by decide, rfl⟩) rfl rfl ?_
  refine w_C.more (Q := fun r1 m1 => _) h (fun r1 m1 h => ?_)
  replace h := id h
  refine w_isub rfl ?_
  refine w_istore_n (lv' := [some (2, 394), some (0, w_32 ((m 394 1) - r1)), none]) rfl rfl rfl ?_
  exact w_W.less h (w_sub [true, true, false] rfl)
theorem xr_lo_lastStart_11 {d : Nat} {l1 : Int} {m : w_M} {Q : Int → w_M → Prop} (h : if l1 < 0 then (Q (-1) m) else (xp_lo_lastStart_17 d l1 0 m Q)) : xp_lo_lastStart_11 d l1 m Q := by
  refine w_iload_n rfl rfl ?_
  refine w_iflt rfl (w_ite h (fun h => ?_) (fun h => ?_))
  · refine w_iconst rfl (by decide) ?_
    exact w_iret rfl rfl h
  · refine w_iconst rfl (by decide) ?_
    refine w_istore_n (lv' := [some (2, 394), some (0, l1), some (0, 0)]) rfl rfl rfl ?_
    exact w_W.less h (w_sub [true, true, true] rfl)
theorem xr_lo_lastStart_17 {d : Nat} {l1 l2 : Int} {m : w_M} {Q : Int → w_M → Prop} (h : xc_js_length sC d 2 m (fun r1 m1 => if l2 < r1 then (xc_ps_at d 376 (w_32 (l1 + l2)) m1 (fun r2 m2 => xc_js_charAt sC d 2 l2 m2 (fun r3 m3 => if r2 = r3 then (xp_lo_lastStart_17 d l1 (w_32 (l2 + 1)) m3 Q) else (xc_js_length sC d 2 m3 (fun r4 m4 => if l2 = r4 then (Q l1 m4) else (xp_lo_lastStart_11 d (w_32 (l1 + (-1))) m4 Q)))))) else (xc_js_length sC d 2 m1 (fun r5 m5 => if l2 = r5 then (Q l1 m5) else (xp_lo_lastStart_11 d (w_32 (l1 + (-1))) m5 Q))))) : xp_lo_lastStart_17 d l1 l2 m Q := by
  refine w_iload_n rfl rfl ?_
  refine w_ldcR rfl ?_
  refine w_callV (t' := 0) [] [(0, l2)] rfl (w_isS_s (a := 2) ⟨by decide, rfl⟩) rfl rfl ?_
  refine w_C.more (Q := fun r1 m1 => _) h (fun r1 m1 h => ?_)
  replace h := id h
  refine w_icge rfl (w_ite h (fun h => ?_) (fun h => ?_))
  · refine w_aload_n rfl rfl ?_
    refine w_gfC (c := 376) rfl s_394 rfl rfl ?_
    refine w_iload_n rfl rfl ?_
    refine w_iload_n rfl rfl ?_
    refine w_iadd rfl ?_
    refine w_callV (t' := 0) [(0, w_32 (l1 + l2))] [] rfl s_376 rfl rfl ?_
    refine w_C.more (Q := fun r2 m2 => _) h (fun r2 m2 h => ?_)
    replace h := id h
    refine w_ldcR rfl ?_
    refine w_iload_n rfl rfl ?_
    refine w_callV (t' := 0) [(0, l2)] [(0, r2)] rfl (w_isS_s (a := 2) ⟨by decide, rfl⟩) rfl rfl ?_
    refine w_C.more (Q := fun r3 m3 => _) h (fun r3 m3 h => ?_)
    replace h := id h
    refine w_icne rfl (w_ite h (fun h => ?_) (fun h => ?_))
    · refine w_iinc (lv' := [some (2, 394), some (0, l1), some (0, w_32 (l2 + 1))]) rfl rfl rfl rfl ?_
      refine w_goto rfl ?_
      exact w_W.less h (w_sub [true, true, true] rfl)
    · refine w_iload_n rfl rfl ?_
      refine w_ldcR rfl ?_
      refine w_callV (t' := 0) [] [(0, l2)] rfl (w_isS_s (a := 2) ⟨by decide, rfl⟩) rfl rfl ?_
      refine w_C.more (Q := fun r4 m4 => _) h (fun r4 m4 h => ?_)
      replace h := id h
      refine w_icne rfl (w_ite h (fun h => ?_) (fun h => ?_))
      · refine w_iload_n rfl rfl ?_
        exact w_iret rfl rfl h
      · refine w_iinc (lv' := [some (2, 394), some (0, w_32 (l1 + (-1))), some (0, l2)]) rfl rfl rfl rfl ?_
        refine w_goto rfl ?_
        exact w_W.less h (w_sub [true, true, false] rfl)
  · refine w_iload_n rfl rfl ?_
    refine w_ldcR rfl ?_
    refine w_callV (t' := 0) [] [(0, l2)] rfl (w_isS_s (a := 2) ⟨by decide, rfl⟩) rfl rfl ?_
    refine w_C.more (Q := fun r5 m5 => _) h (fun r5 m5 h => ?_)
    replace h := id h
    refine w_icne rfl (w_ite h (fun h => ?_) (fun h => ?_))
    · refine w_iload_n rfl rfl ?_
      exact w_iret rfl rfl h
    · refine w_iinc (lv' := [some (2, 394), some (0, w_32 (l1 + (-1))), some (0, l2)]) rfl rfl rfl rfl ?_
      refine w_goto rfl ?_
      exact w_W.less h (w_sub [true, true, false] rfl)
theorem xr_lo_nextUnread {d : Nat} {m : w_M} {Q : Int → w_M → Prop} (h : xp_lo_nextUnread_2 d 1 m Q) : xc_lo_nextUnread (d + 1) m Q := by
  refine w_enter (q := 2) (lv := [some (2, 394), none, none]) rfl rfl rfl ?_
  refine w_iconst rfl (by decide) ?_
  refine w_istore_n (lv' := [some (2, 394), some (0, 1), none]) rfl rfl rfl ?_
  exact w_W.less h (w_sub [true, true, false] rfl)
theorem xr_lo_nextUnread_2 {d : Nat} {l1 : Int} {m : w_M} {Q : Int → w_M → Prop} (h : if l1 < (m 366 11) then (xc_ta_isFree d l1 m (fun r1 m1 => if r1 = 0 then (xc_ta_rootOf d l1 m1 (fun r2 m2 => if r2 < 0 then (xc_ta_howOf d l1 m2 (fun r3 m3 => if r3 = 3 then (xc_ta_placeOf d l1 m3 (fun r4 m4 => xc_ta_howOf d r4 m4 (fun r5 m5 => if r5 = 2 then (xc_ta_generationOf d r4 m5 (fun r6 m6 => if r6 = 0 then (xc_ta_rootOf d r4 m6 (fun r7 m7 => if r7 < 0 then (Q r4 m7) else (Q l1 m7))) else (xc_lo_failObject d r4 m6 (fun r8 m8 => Q r8 m8)))) else (xc_lo_failObject d r4 m5 (fun r9 m9 => Q r9 m9))))) else (Q l1 m3))) else (xp_lo_nextUnread_2 d (w_32 (l1 + 1)) m2 Q))) else (xp_lo_nextUnread_2 d (w_32 (l1 + 1)) m1 Q))) else (Q 0 m)) : xp_lo_nextUnread_2 d l1 m Q := by
  refine w_iload_n rfl rfl ?_
  refine w_aload_n rfl rfl ?_
  refine w_gfC (c := 366) rfl s_394 rfl rfl ?_
  refine x_gfI rfl s_366 rfl (kk := 11) rfl rfl ?_
  refine w_icge rfl (w_ite h (fun h => ?_) (fun h => ?_))
  · refine w_aload_n rfl rfl ?_
    refine w_gfC (c := 366) rfl s_394 rfl rfl ?_
    refine w_iload_n rfl rfl ?_
    refine w_callV (t' := 0) [(0, l1)] [] rfl s_366 rfl rfl ?_
    refine w_C.more (Q := fun r1 m1 => _) h (fun r1 m1 h => ?_)
    replace h := id h
    refine w_ifne rfl (w_ite h (fun h => ?_) (fun h => ?_))
    · refine w_aload_n rfl rfl ?_
      refine w_gfC (c := 366) rfl s_394 rfl rfl ?_
      refine w_iload_n rfl rfl ?_
      refine w_callV (t' := 0) [(0, l1)] [] rfl s_366 rfl rfl ?_
      refine w_C.more (Q := fun r2 m2 => _) h (fun r2 m2 h => ?_)
      replace h := id h
      refine w_ifge rfl (w_ite h (fun h => ?_) (fun h => ?_))
      · refine w_aload_n rfl rfl ?_
        refine w_gfC (c := 366) rfl s_394 rfl rfl ?_
        refine w_iload_n rfl rfl ?_
        refine w_callV (t' := 0) [(0, l1)] [] rfl s_366 rfl rfl ?_
        refine w_C.more (Q := fun r3 m3 => _) h (fun r3 m3 h => ?_)
        replace h := id h
        refine w_iconst rfl (by decide) ?_
        refine w_iceq rfl (w_ite h (fun h => ?_) (fun h => ?_))
        · refine w_aload_n rfl rfl ?_
          refine w_gfC (c := 366) rfl s_394 rfl rfl ?_
          refine w_iload_n rfl rfl ?_
          refine w_callV (t' := 0) [(0, l1)] [] rfl s_366 rfl rfl ?_
          refine w_C.more (Q := fun r4 m4 => _) h (fun r4 m4 h => ?_)
          replace h := id h
          refine w_istore_n (lv' := [some (2, 394), some (0, l1), some (0, r4)]) rfl rfl rfl ?_
          refine w_aload_n rfl rfl ?_
          refine w_gfC (c := 366) rfl s_394 rfl rfl ?_
          refine w_iload_n rfl rfl ?_
          refine w_callV (t' := 0) [(0, r4)] [] rfl s_366 rfl rfl ?_
          refine w_C.more (Q := fun r5 m5 => _) h (fun r5 m5 h => ?_)
          replace h := id h
          refine w_iconst rfl (by decide) ?_
          refine w_icne rfl (w_ite h (fun h => ?_) (fun h => ?_))
          · refine w_aload_n rfl rfl ?_
            refine w_gfC (c := 366) rfl s_394 rfl rfl ?_
            refine w_iload_n rfl rfl ?_
            refine w_callV (t' := 0) [(0, r4)] [] rfl s_366 rfl rfl ?_
            refine w_C.more (Q := fun r6 m6 => _) h (fun r6 m6 h => ?_)
            replace h := id h
            refine w_ifeq rfl (w_ite h (fun h => ?_) (fun h => ?_))
            · refine w_aload_n rfl rfl ?_
              refine w_gfC (c := 366) rfl s_394 rfl rfl ?_
              refine w_iload_n rfl rfl ?_
              refine w_callV (t' := 0) [(0, r4)] [] rfl s_366 rfl rfl ?_
              refine w_C.more (Q := fun r7 m7 => _) h (fun r7 m7 h => ?_)
              replace h := id h
              refine w_ifge rfl (w_ite h (fun h => ?_) (fun h => ?_))
              · refine w_iload_n rfl rfl ?_
                refine w_goto rfl ?_
                exact w_iret rfl rfl h
              · refine w_iload_n rfl rfl ?_
                exact w_iret rfl rfl h
            · refine w_aload_n rfl rfl ?_
              refine w_iload_n rfl rfl ?_
              refine w_callV (t' := 0) [(0, r4)] [] rfl s_394 rfl rfl ?_
              refine w_C.more (Q := fun r8 m8 => _) h (fun r8 m8 h => ?_)
              replace h := id h
              exact w_iret rfl rfl h
          · refine w_aload_n rfl rfl ?_
            refine w_iload_n rfl rfl ?_
            refine w_callV (t' := 0) [(0, r4)] [] rfl s_394 rfl rfl ?_
            refine w_C.more (Q := fun r9 m9 => _) h (fun r9 m9 h => ?_)
            replace h := id h
            exact w_iret rfl rfl h
        · refine w_iload_n rfl rfl ?_
          exact w_iret rfl rfl h
      · refine w_iinc (lv' := [some (2, 394), some (0, w_32 (l1 + 1)), none]) rfl rfl rfl rfl ?_
        refine w_goto rfl ?_
        exact w_W.less h (w_sub [true, true, false] rfl)
    · refine w_iinc (lv' := [some (2, 394), some (0, w_32 (l1 + 1)), none]) rfl rfl rfl rfl ?_
      refine w_goto rfl ?_
      exact w_W.less h (w_sub [true, true, false] rfl)
  · refine w_iconst rfl (by decide) ?_
    exact w_iret rfl rfl h
theorem xr_lo_passes {d : Nat} {l1 l2 : Int} {m : w_M} {Q : Int → w_M → Prop} (h : xp_lo_passes_2 d l1 l2 0 m Q) : xc_lo_passes (d + 1) l1 l2 m Q := by
  refine w_enter (q := 1) (lv := [some (2, 394), some (2, l1), some (0, l2), none]) rfl rfl rfl ?_
  refine w_iconst rfl (by decide) ?_
  refine w_istore_n (lv' := [some (2, 394), some (2, l1), some (0, l2), some (0, 0)]) rfl rfl rfl ?_
  exact w_W.less h (w_sub [true, true, true, true] rfl)
theorem xr_lo_passes_2 {d : Nat} {l1 l2 l3 : Int} {m : w_M} {Q : Int → w_M → Prop} (h : w_isS l1 ∧ (xc_js_length sC d l1 m (fun r1 m1 => if l3 < r1 then (xc_ps_at d 376 (m1 376 4) m1 (fun r2 m2 => w_isS l1 ∧ (xc_js_charAt sC d l1 l3 m2 (fun r3 m3 => if r2 = r3 then (xp_lo_passes_2 d l1 l2 (w_32 (l3 + 1)) (w_up m3 376 4 (w_32 ((m3 376 4) + 1))) Q) else (xc_ps_fail d 376 l2 (m3 376 4) m3 (fun r4 m4 => Q 0 m4)))))) else (Q 1 m1)))) : xp_lo_passes_2 d l1 l2 l3 m Q := by
  refine w_iload_n rfl rfl ?_
  refine w_aload_n rfl rfl ?_
  refine w_callV (t' := 0) [] [(0, l3)] rfl (w_isS_s h.1) rfl rfl ?_
  replace h := h.2
  refine w_C.more (Q := fun r1 m1 => _) h (fun r1 m1 h => ?_)
  replace h := id h
  refine w_icge rfl (w_ite h (fun h => ?_) (fun h => ?_))
  · refine w_aload_n rfl rfl ?_
    refine w_gfC (c := 376) rfl s_394 rfl rfl ?_
    refine w_aload_n rfl rfl ?_
    refine w_gfC (c := 376) rfl s_394 rfl rfl ?_
    refine x_gfI rfl s_376 rfl (kk := 4) rfl rfl ?_
    refine w_callV (t' := 0) [(0, m1 376 4)] [] rfl s_376 rfl rfl ?_
    refine w_C.more (Q := fun r2 m2 => _) h (fun r2 m2 h => ?_)
    replace h := id h
    refine w_aload_n rfl rfl ?_
    refine w_iload_n rfl rfl ?_
    refine w_callV (t' := 0) [(0, l3)] [(0, r2)] rfl (w_isS_s h.1) rfl rfl ?_
    replace h := h.2
    refine w_C.more (Q := fun r3 m3 => _) h (fun r3 m3 h => ?_)
    replace h := id h
    refine w_iceq rfl (w_ite h (fun h => ?_) (fun h => ?_))
    · refine w_aload_n rfl rfl ?_
      refine w_gfC (c := 376) rfl s_394 rfl rfl ?_
      refine w_dup rfl (show (2 : Nat) ≠ 1 by decide) ?_
      refine x_gfI rfl s_376 rfl (kk := 4) rfl rfl ?_
      refine w_iconst rfl (by decide) ?_
      refine w_iadd rfl ?_
      refine w_pfI rfl s_376 rfl (w_EC (by decide)) rfl (kk := 4) rfl ?_
      refine w_iinc (lv' := [some (2, 394), some (2, l1), some (0, l2), some (0, w_32 (l3 + 1))]) rfl rfl rfl rfl ?_
      refine w_goto rfl ?_
      exact w_W.less h (w_sub [true, true, true, true] rfl)
    · refine w_aload_n rfl rfl ?_
      refine w_gfC (c := 376) rfl s_394 rfl rfl ?_
      refine w_iload_n rfl rfl ?_
      refine w_aload_n rfl rfl ?_
      refine w_gfC (c := 376) rfl s_394 rfl rfl ?_
      refine x_gfI rfl s_376 rfl (kk := 4) rfl rfl ?_
      refine w_callV (t' := 0) [(0, m3 376 4), (0, l2)] [] rfl s_376 rfl rfl ?_
      refine w_C.more (Q := fun r4 m4 => _) h (fun r4 m4 h => ?_)
      replace h := id h
      refine w_pop rfl (show (0 : Nat) ≠ 1 by decide) ?_
      refine w_iconst rfl (by decide) ?_
      exact w_zret rfl rfl (by decide) h
  · refine w_iconst rfl (by decide) ?_
    exact w_zret rfl rfl (by decide) h
theorem xr_lo_passesBlanks {d : Nat} {m : w_M} {Q : Int → w_M → Prop} (h : xc_ps_skipBlanks d 376 m (fun r1 m1 => if (m1 376 4) = (m 376 4) then (xc_ps_fail d 376 2 (m 376 4) m1 (fun r2 m2 => Q 0 m2)) else (Q 1 m1))) : xc_lo_passesBlanks (d + 1) m Q := by
  refine w_enter (q := 1) (lv := [some (2, 394), none]) rfl rfl rfl ?_
  refine w_aload_n rfl rfl ?_
  refine w_gfC (c := 376) rfl s_394 rfl rfl ?_
  refine x_gfI rfl s_376 rfl (kk := 4) rfl rfl ?_
  refine w_istore_n (lv' := [some (2, 394), some (0, m 376 4)]) rfl rfl rfl ?_
  refine w_aload_n rfl rfl ?_
  refine w_gfC (c := 376) rfl s_394 rfl rfl ?_
  refine w_callV (t' := 3) [] [] rfl s_376 rfl rfl ?_
  refine w_C.more (Q := fun r1 m1 => _) h (fun r1 m1 h => ?_)
  replace h := id h
  refine w_aload_n rfl rfl ?_
  refine w_gfC (c := 376) rfl s_394 rfl rfl ?_
  refine x_gfI rfl s_376 rfl (kk := 4) rfl rfl ?_
  refine w_iload_n rfl rfl ?_
  refine w_icne rfl (w_ite h (fun h => ?_) (fun h => ?_))
  · refine w_aload_n rfl rfl ?_
    refine w_gfC (c := 376) rfl s_394 rfl rfl ?_
    refine w_iconst rfl (by decide) ?_
    refine w_iload_n rfl rfl ?_
    refine w_callV (t' := 0) [(0, m 376 4), (0, 2)] [] rfl s_376 rfl rfl ?_
    refine w_C.more (Q := fun r2 m2 => _) h (fun r2 m2 h => ?_)
    replace h := id h
    refine w_pop rfl (show (0 : Nat) ≠ 1 by decide) ?_
    refine w_iconst rfl (by decide) ?_
    exact w_zret rfl rfl (by decide) h
  · refine w_iconst rfl (by decide) ?_
    exact w_zret rfl rfl (by decide) h
theorem xr_lo_readBehind {d : Nat} {l1 l2 : Int} {m : w_M} {Q : Int → w_M → Prop} (h : xc_st_kindOf d l2 m (fun r1 m1 => if r1 = 7 then (xc_ps_word d 376 6 m1 (fun r2 m2 => if r2 = 0 then (xc_ps_word d 376 8 m2 (fun r3 m3 => if r3 = 0 then (xc_lo_failObject d l1 m3 (fun r4 m4 => Q 0 m4)) else (xc_ta_setRoot d l1 l2 m3 (fun r5 m5 => Q 0 m5)))) else (xc_ps_body d 376 m2 (fun r6 m6 => if r6 < 0 then (xc_lo_failObject d l1 m6 (fun r7 m7 => Q 0 m7)) else (if (m6 394 9) < 0 then (xc_lo_failObject d l1 m6 (fun r8 m8 => Q 0 m8)) else (if (m6 394 9) < 200 then (((0 : Int) ≤ (m6 394 9) ∧ (m6 394 9) < 200) ∧ (((0 : Int) ≤ (m6 394 9) ∧ (m6 394 9) < 200) ∧ (((0 : Int) ≤ (m6 394 9) ∧ (m6 394 9) < 200) ∧ (Q 0 (w_up (w_up (w_up (w_up m6 396 (m6 394 9) l1) 397 (m6 394 9) r6) 398 (m6 394 9) l2) 394 9 (w_32 ((m6 394 9) + 1))))))) else (xc_lo_failObject d l1 m6 (fun r9 m9 => Q 0 m9)))))))) else (xc_ps_word d 376 8 m1 (fun r10 m10 => if r10 = 0 then (xc_lo_failObject d l1 m10 (fun r11 m11 => Q 0 m11)) else (xc_ta_setRoot d l1 l2 m10 (fun r12 m12 => Q 0 m12)))))) : xc_lo_readBehind (d + 1) l1 l2 m Q := by
  refine w_enter (q := 1) (lv := [some (2, 394), some (0, l1), some (0, l2), none]) rfl rfl rfl ?_
  refine w_aload_n rfl rfl ?_
  refine w_gfC (c := 359) rfl s_394 rfl rfl ?_
  refine w_iload_n rfl rfl ?_
  refine w_callV (t' := 0) [(0, l2)] [] rfl s_359 rfl rfl ?_
  refine w_C.more (Q := fun r1 m1 => _) h (fun r1 m1 h => ?_)
  replace h := id h
  refine w_bipush rfl (by decide) ?_
  refine w_icne rfl (w_ite h (fun h => ?_) (fun h => ?_))
  · refine w_aload_n rfl rfl ?_
    refine w_gfC (c := 376) rfl s_394 rfl rfl ?_
    refine w_ldcR rfl ?_
    refine w_callV (t' := 0) [(2, 6)] [] rfl s_376 rfl rfl ?_
    refine w_C.more (Q := fun r2 m2 => _) h (fun r2 m2 h => ?_)
    replace h := id h
    refine w_ifeq rfl (w_ite h (fun h => ?_) (fun h => ?_))
    · refine w_aload_n rfl rfl ?_
      refine w_gfC (c := 376) rfl s_394 rfl rfl ?_
      refine w_ldcR rfl ?_
      refine w_callV (t' := 0) [(2, 8)] [] rfl s_376 rfl rfl ?_
      refine w_C.more (Q := fun r3 m3 => _) h (fun r3 m3 h => ?_)
      replace h := id h
      refine w_ifeq rfl (w_ite h (fun h => ?_) (fun h => ?_))
      · refine w_aload_n rfl rfl ?_
        refine w_iload_n rfl rfl ?_
        refine w_callV (t' := 0) [(0, l1)] [] rfl s_394 rfl rfl ?_
        refine w_C.more (Q := fun r4 m4 => _) h (fun r4 m4 h => ?_)
        replace h := id h
        refine w_pop rfl (show (0 : Nat) ≠ 1 by decide) ?_
        exact w_vret rfl rfl h
      · refine w_aload_n rfl rfl ?_
        refine w_gfC (c := 366) rfl s_394 rfl rfl ?_
        refine w_iload_n rfl rfl ?_
        refine w_iload_n rfl rfl ?_
        refine w_callV (t' := 3) [(0, l2), (0, l1)] [] rfl s_366 rfl rfl ?_
        refine w_C.more (Q := fun r5 m5 => _) h (fun r5 m5 h => ?_)
        replace h := id h
        refine w_goto rfl ?_
        exact w_vret rfl rfl h
    · refine w_aload_n rfl rfl ?_
      refine w_gfC (c := 376) rfl s_394 rfl rfl ?_
      refine w_callV (t' := 0) [] [] rfl s_376 rfl rfl ?_
      refine w_C.more (Q := fun r6 m6 => _) h (fun r6 m6 h => ?_)
      replace h := id h
      refine w_istore_n (lv' := [some (2, 394), some (0, l1), some (0, l2), some (0, r6)]) rfl rfl rfl ?_
      refine w_iload_n rfl rfl ?_
      refine w_iflt rfl (w_ite h (fun h => ?_) (fun h => ?_))
      · refine w_aload_n rfl rfl ?_
        refine w_iload_n rfl rfl ?_
        refine w_callV (t' := 0) [(0, l1)] [] rfl s_394 rfl rfl ?_
        refine w_C.more (Q := fun r7 m7 => _) h (fun r7 m7 h => ?_)
        replace h := id h
        refine w_pop rfl (show (0 : Nat) ≠ 1 by decide) ?_
        exact w_vret rfl rfl h
      · refine w_aload_n rfl rfl ?_
        refine x_gfI rfl s_394 rfl (kk := 9) rfl rfl ?_
        refine w_iflt rfl (w_ite h (fun h => ?_) (fun h => ?_))
        · refine w_aload_n rfl rfl ?_
          refine w_iload_n rfl rfl ?_
          refine w_callV (t' := 0) [(0, l1)] [] rfl s_394 rfl rfl ?_
          refine w_C.more (Q := fun r8 m8 => _) h (fun r8 m8 h => ?_)
          replace h := id h
          refine w_pop rfl (show (0 : Nat) ≠ 1 by decide) ?_
          exact w_vret rfl rfl h
        · refine w_aload_n rfl rfl ?_
          refine x_gfI rfl s_394 rfl (kk := 9) rfl rfl ?_
          refine w_aload_n rfl rfl ?_
          refine w_gfC (c := 396) rfl s_394 rfl rfl ?_
          refine w_len rfl s_396 (by decide) (n := 200) rfl (by decide) ?_
          refine w_iclt rfl (w_ite h (fun h => ?_) (fun h => ?_))
          · refine w_aload_n rfl rfl ?_
            refine w_gfC (c := 396) rfl s_394 rfl rfl ?_
            refine w_aload_n rfl rfl ?_
            refine x_gfI rfl s_394 rfl (kk := 9) rfl rfl ?_
            refine w_iload_n rfl rfl ?_
            refine w_iast rfl s_396 (w_EC (by decide)) (n := 200) rfl h.1 ?_
            replace h := h.2
            refine w_aload_n rfl rfl ?_
            refine w_gfC (c := 397) rfl s_394 rfl rfl ?_
            refine w_aload_n rfl rfl ?_
            refine x_gfI rfl s_394 rfl (kk := 9) rfl (w_up_ne (by decide)) ?_
            refine w_iload_n rfl rfl ?_
            refine w_iast rfl s_397 (w_EC (by decide)) (n := 200) rfl h.1 ?_
            replace h := h.2
            refine w_aload_n rfl rfl ?_
            refine w_gfC (c := 398) rfl s_394 rfl rfl ?_
            refine w_aload_n rfl rfl ?_
            refine x_gfI rfl s_394 rfl (kk := 9) rfl ((w_up_ne (by decide)).trans (w_up_ne (by decide))) ?_
            refine w_iload_n rfl rfl ?_
            refine w_iast rfl s_398 (w_EC (by decide)) (n := 200) rfl h.1 ?_
            replace h := h.2
            refine w_aload_n rfl rfl ?_
            refine w_dup rfl (show (2 : Nat) ≠ 1 by decide) ?_
            refine x_gfI rfl s_394 rfl (kk := 9) rfl ((w_up_ne (by decide)).trans ((w_up_ne (by decide)).trans (w_up_ne (by decide)))) ?_
            refine w_iconst rfl (by decide) ?_
            refine w_iadd rfl ?_
            refine w_pfI rfl s_394 rfl (w_EC (by decide)) rfl (kk := 9) rfl ?_
            refine w_goto rfl ?_
            exact w_vret rfl rfl h
          · refine w_aload_n rfl rfl ?_
            refine w_iload_n rfl rfl ?_
            refine w_callV (t' := 0) [(0, l1)] [] rfl s_394 rfl rfl ?_
            refine w_C.more (Q := fun r9 m9 => _) h (fun r9 m9 h => ?_)
            replace h := id h
            refine w_pop rfl (show (0 : Nat) ≠ 1 by decide) ?_
            exact w_vret rfl rfl h
  · refine w_aload_n rfl rfl ?_
    refine w_gfC (c := 376) rfl s_394 rfl rfl ?_
    refine w_ldcR rfl ?_
    refine w_callV (t' := 0) [(2, 8)] [] rfl s_376 rfl rfl ?_
    refine w_C.more (Q := fun r10 m10 => _) h (fun r10 m10 h => ?_)
    replace h := id h
    refine w_ifeq rfl (w_ite h (fun h => ?_) (fun h => ?_))
    · refine w_aload_n rfl rfl ?_
      refine w_iload_n rfl rfl ?_
      refine w_callV (t' := 0) [(0, l1)] [] rfl s_394 rfl rfl ?_
      refine w_C.more (Q := fun r11 m11 => _) h (fun r11 m11 h => ?_)
      replace h := id h
      refine w_pop rfl (show (0 : Nat) ≠ 1 by decide) ?_
      exact w_vret rfl rfl h
    · refine w_aload_n rfl rfl ?_
      refine w_gfC (c := 366) rfl s_394 rfl rfl ?_
      refine w_iload_n rfl rfl ?_
      refine w_iload_n rfl rfl ?_
      refine w_callV (t' := 3) [(0, l2), (0, l1)] [] rfl s_366 rfl rfl ?_
      refine w_C.more (Q := fun r12 m12 => _) h (fun r12 m12 h => ?_)
      replace h := id h
      refine w_goto rfl ?_
      exact w_vret rfl rfl h
theorem xr_lo_readBody {d : Nat} {m : w_M} {Q : Int → w_M → Prop} (h : if (w_32 ((m 394 9) - 1)) < 0 then (Q 0 m) else (if (w_32 ((m 394 9) - 1)) < 200 then (((0 : Int) ≤ (w_32 ((m 394 9) - 1)) ∧ (w_32 ((m 394 9) - 1)) < 200) ∧ (((0 : Int) ≤ (w_32 ((m 394 9) - 1)) ∧ (w_32 ((m 394 9) - 1)) < 200) ∧ (xc_st_entry d (m 398 (w_32 ((m 394 9) - 1))) 20 m (fun r1 m1 => xc_st_kindOf d r1 m1 (fun r2 m2 => if r2 = 8 then (xc_st_oneOf d r1 m2 (fun r3 m3 => xc_ta_howOf d r3 m3 (fun r4 m4 => if r4 = 2 then (xc_ta_generationOf d r3 m4 (fun r5 m5 => xc_st_twoOf d r1 m5 (fun r6 m6 => if r5 = r6 then (xc_lo_waits d r3 m6 (fun r7 m7 => if r7 = 0 then (xc_ta_rootOf d r3 m7 (fun r8 m8 => if r8 < 0 then (Q r3 m8) else (xc_ta_rootOf d r3 m8 (fun r9 m9 => xp_lo_readBody_141 d (w_32 ((m 394 9) - 1)) (m 396 (w_32 ((m 394 9) - 1))) r9 m9 Q)))) else (xc_lo_failObject d (m 396 (w_32 ((m 394 9) - 1))) m7 (fun r10 m10 => Q r10 m10)))) else (xc_lo_failObject d (m 396 (w_32 ((m 394 9) - 1))) m6 (fun r11 m11 => Q r11 m11))))) else (xc_lo_failObject d (m 396 (w_32 ((m 394 9) - 1))) m4 (fun r12 m12 => Q r12 m12))))) else (xp_lo_readBody_141 d (w_32 ((m 394 9) - 1)) (m 396 (w_32 ((m 394 9) - 1))) r1 m2 Q)))))) else (Q 0 m))) : xc_lo_readBody (d + 1) m Q := by
  refine w_enter (q := 4) (lv := [some (2, 394), none, none, none, none]) rfl rfl rfl ?_
  refine w_aload_n rfl rfl ?_
  refine x_gfI rfl s_394 rfl (kk := 9) rfl rfl ?_
  refine w_iconst rfl (by decide) ?_
  refine w_isub rfl ?_
  refine w_istore_n (lv' := [some (2, 394), some (0, w_32 ((m 394 9) - 1)), none, none, none]) rfl rfl rfl ?_
  refine w_iload_n rfl rfl ?_
  refine w_iflt rfl (w_ite h (fun h => ?_) (fun h => ?_))
  · refine w_iconst rfl (by decide) ?_
    exact w_iret rfl rfl h
  · refine w_iload_n rfl rfl ?_
    refine w_aload_n rfl rfl ?_
    refine w_gfC (c := 396) rfl s_394 rfl rfl ?_
    refine w_len rfl s_396 (by decide) (n := 200) rfl (by decide) ?_
    refine w_iclt rfl (w_ite h (fun h => ?_) (fun h => ?_))
    · refine w_aload_n rfl rfl ?_
      refine w_gfC (c := 396) rfl s_394 rfl rfl ?_
      refine w_iload_n rfl rfl ?_
      refine w_iald rfl s_396 (n := 200) rfl h.1 ?_
      replace h := h.2
      refine w_istore_n (lv' := [some (2, 394), some (0, w_32 ((m 394 9) - 1)), some (0, m 396 (w_32 ((m 394 9) - 1))), none, none]) rfl rfl rfl ?_
      refine w_aload_n rfl rfl ?_
      refine w_gfC (c := 359) rfl s_394 rfl rfl ?_
      refine w_aload_n rfl rfl ?_
      refine w_gfC (c := 398) rfl s_394 rfl rfl ?_
      refine w_iload_n rfl rfl ?_
      refine w_iald rfl s_398 (n := 200) rfl h.1 ?_
      replace h := h.2
      refine w_bipush rfl (by decide) ?_
      refine w_callV (t' := 0) [(0, 20), (0, m 398 (w_32 ((m 394 9) - 1)))] [] rfl s_359 rfl rfl ?_
      refine w_C.more (Q := fun r1 m1 => _) h (fun r1 m1 h => ?_)
      replace h := id h
      refine w_istore_n (lv' := [some (2, 394), some (0, w_32 ((m 394 9) - 1)), some (0, m 396 (w_32 ((m 394 9) - 1))), some (0, r1), none]) rfl rfl rfl ?_
      refine w_aload_n rfl rfl ?_
      refine w_gfC (c := 359) rfl s_394 rfl rfl ?_
      refine w_iload_n rfl rfl ?_
      refine w_callV (t' := 0) [(0, r1)] [] rfl s_359 rfl rfl ?_
      refine w_C.more (Q := fun r2 m2 => _) h (fun r2 m2 h => ?_)
      replace h := id h
      refine w_bipush rfl (by decide) ?_
      refine w_icne rfl (w_ite h (fun h => ?_) (fun h => ?_))
      · refine w_aload_n rfl rfl ?_
        refine w_gfC (c := 359) rfl s_394 rfl rfl ?_
        refine w_iload_n rfl rfl ?_
        refine w_callV (t' := 0) [(0, r1)] [] rfl s_359 rfl rfl ?_
        refine w_C.more (Q := fun r3 m3 => _) h (fun r3 m3 h => ?_)
        replace h := id h
        refine w_istore (lv' := [some (2, 394), some (0, w_32 ((m 394 9) - 1)), some (0, m 396 (w_32 ((m 394 9) - 1))), some (0, r1), some (0, r3)]) rfl rfl rfl ?_
        refine w_aload_n rfl rfl ?_
        refine w_gfC (c := 366) rfl s_394 rfl rfl ?_
        refine w_iload rfl rfl ?_
        refine w_callV (t' := 0) [(0, r3)] [] rfl s_366 rfl rfl ?_
        refine w_C.more (Q := fun r4 m4 => _) h (fun r4 m4 h => ?_)
        replace h := id h
        refine w_iconst rfl (by decide) ?_
        refine w_icne rfl (w_ite h (fun h => ?_) (fun h => ?_))
        · refine w_aload_n rfl rfl ?_
          refine w_gfC (c := 366) rfl s_394 rfl rfl ?_
          refine w_iload rfl rfl ?_
          refine w_callV (t' := 0) [(0, r3)] [] rfl s_366 rfl rfl ?_
          refine w_C.more (Q := fun r5 m5 => _) h (fun r5 m5 h => ?_)
          replace h := id h
          refine w_aload_n rfl rfl ?_
          refine w_gfC (c := 359) rfl s_394 rfl rfl ?_
          refine w_iload_n rfl rfl ?_
          refine w_callV (t' := 0) [(0, r1)] [(0, r5)] rfl s_359 rfl rfl ?_
          refine w_C.more (Q := fun r6 m6 => _) h (fun r6 m6 h => ?_)
          replace h := id h
          refine w_icne rfl (w_ite h (fun h => ?_) (fun h => ?_))
          · refine w_aload_n rfl rfl ?_
            refine w_iload rfl rfl ?_
            refine w_callV (t' := 0) [(0, r3)] [] rfl s_394 rfl rfl ?_
            refine w_C.more (Q := fun r7 m7 => _) h (fun r7 m7 h => ?_)
            replace h := id h
            refine w_ifeq rfl (w_ite h (fun h => ?_) (fun h => ?_))
            · refine w_aload_n rfl rfl ?_
              refine w_gfC (c := 366) rfl s_394 rfl rfl ?_
              refine w_iload rfl rfl ?_
              refine w_callV (t' := 0) [(0, r3)] [] rfl s_366 rfl rfl ?_
              refine w_C.more (Q := fun r8 m8 => _) h (fun r8 m8 h => ?_)
              replace h := id h
              refine w_ifge rfl (w_ite h (fun h => ?_) (fun h => ?_))
              · refine w_iload rfl rfl ?_
                exact w_iret rfl rfl h
              · refine w_aload_n rfl rfl ?_
                refine w_gfC (c := 366) rfl s_394 rfl rfl ?_
                refine w_iload rfl rfl ?_
                refine w_callV (t' := 0) [(0, r3)] [] rfl s_366 rfl rfl ?_
                refine w_C.more (Q := fun r9 m9 => _) h (fun r9 m9 h => ?_)
                replace h := id h
                refine w_istore_n (lv' := [some (2, 394), some (0, w_32 ((m 394 9) - 1)), some (0, m 396 (w_32 ((m 394 9) - 1))), some (0, r9), some (0, r3)]) rfl rfl rfl ?_
                exact w_W.less h (w_sub [true, true, true, true, false] rfl)
            · refine w_aload_n rfl rfl ?_
              refine w_iload_n rfl rfl ?_
              refine w_callV (t' := 0) [(0, m 396 (w_32 ((m 394 9) - 1)))] [] rfl s_394 rfl rfl ?_
              refine w_C.more (Q := fun r10 m10 => _) h (fun r10 m10 h => ?_)
              replace h := id h
              exact w_iret rfl rfl h
          · refine w_aload_n rfl rfl ?_
            refine w_iload_n rfl rfl ?_
            refine w_callV (t' := 0) [(0, m 396 (w_32 ((m 394 9) - 1)))] [] rfl s_394 rfl rfl ?_
            refine w_C.more (Q := fun r11 m11 => _) h (fun r11 m11 h => ?_)
            replace h := id h
            exact w_iret rfl rfl h
        · refine w_aload_n rfl rfl ?_
          refine w_iload_n rfl rfl ?_
          refine w_callV (t' := 0) [(0, m 396 (w_32 ((m 394 9) - 1)))] [] rfl s_394 rfl rfl ?_
          refine w_C.more (Q := fun r12 m12 => _) h (fun r12 m12 h => ?_)
          replace h := id h
          exact w_iret rfl rfl h
      · exact w_W.less h (w_sub [true, true, true, true, false] rfl)
    · refine w_iconst rfl (by decide) ?_
      exact w_iret rfl rfl h
theorem xr_lo_readBody_141 {d : Nat} {l1 l2 l3 : Int} {m : w_M} {Q : Int → w_M → Prop} (h : xc_st_kindOf d l3 m (fun r1 m1 => if r1 = 2 then (((0 : Int) ≤ l1 ∧ l1 < 200) ∧ (xc_st_oneOf d l3 m1 (fun r2 m2 => xc_ps_closes d 376 (m1 397 l1) r2 m2 (fun r3 m3 => if r3 = 0 then (xc_lo_failObject d l2 m3 (fun r4 m4 => Q r4 m4)) else (((0 : Int) ≤ l1 ∧ l1 < 200) ∧ (((0 : Int) ≤ l1 ∧ l1 < 200) ∧ (xc_st_oneOf d l3 m3 (fun r5 m5 => xc_fi_decode d (m3 398 l1) 395 (m3 397 l1) r5 m5 (fun r6 m6 => ((0 : Int) ≤ l1 ∧ l1 < 200) ∧ (xc_ta_setRoot d l2 (m6 398 l1) m6 (fun r7 m7 => if r6 = 0 then ((0 : Int) ≤ (m7 378 7) ∧ (xc_ta_setStream d l2 (m7 378 7) (m7 378 8) m7 (fun r8 m8 => if r8 = 0 then (xc_ta_placeOf d l2 m8 (fun r9 m9 => xc_ps_fail d 376 8 r9 m9 (fun r10 m10 => Q r10 m10))) else (if r6 = 0 then (Q 0 (w_up m8 394 9 (w_32 ((m8 394 9) - 1)))) else (xc_ta_placeOf d l2 m8 (fun r11 m11 => xc_ps_fail d 376 r6 r11 m11 (fun r12 m12 => Q r12 m12))))))) else (if r6 = 0 then (Q 0 (w_up m7 394 9 (w_32 ((m7 394 9) - 1)))) else (xc_ta_placeOf d l2 m7 (fun r13 m13 => xc_ps_fail d 376 r6 r13 m13 (fun r14 m14 => Q r14 m14))))))))))))))) else (xc_lo_failObject d l2 m1 (fun r15 m15 => Q r15 m15)))) : xp_lo_readBody_141 d l1 l2 l3 m Q := by
  refine w_aload_n rfl rfl ?_
  refine w_gfC (c := 359) rfl s_394 rfl rfl ?_
  refine w_iload_n rfl rfl ?_
  refine w_callV (t' := 0) [(0, l3)] [] rfl s_359 rfl rfl ?_
  refine w_C.more (Q := fun r1 m1 => _) h (fun r1 m1 h => ?_)
  replace h := id h
  refine w_iconst rfl (by decide) ?_
  refine w_icne rfl (w_ite h (fun h => ?_) (fun h => ?_))
  · refine w_aload_n rfl rfl ?_
    refine w_gfC (c := 376) rfl s_394 rfl rfl ?_
    refine w_aload_n rfl rfl ?_
    refine w_gfC (c := 397) rfl s_394 rfl rfl ?_
    refine w_iload_n rfl rfl ?_
    refine w_iald rfl s_397 (n := 200) rfl h.1 ?_
    replace h := h.2
    refine w_aload_n rfl rfl ?_
    refine w_gfC (c := 359) rfl s_394 rfl rfl ?_
    refine w_iload_n rfl rfl ?_
    refine w_callV (t' := 0) [(0, l3)] [(0, m1 397 l1), (2, 376)] rfl s_359 rfl rfl ?_
    refine w_C.more (Q := fun r2 m2 => _) h (fun r2 m2 h => ?_)
    replace h := id h
    refine w_callV (t' := 0) [(0, r2), (0, m1 397 l1)] [] rfl s_376 rfl rfl ?_
    refine w_C.more (Q := fun r3 m3 => _) h (fun r3 m3 h => ?_)
    replace h := id h
    refine w_ifne rfl (w_ite h (fun h => ?_) (fun h => ?_))
    · refine w_aload_n rfl rfl ?_
      refine w_iload_n rfl rfl ?_
      refine w_callV (t' := 0) [(0, l2)] [] rfl s_394 rfl rfl ?_
      refine w_C.more (Q := fun r4 m4 => _) h (fun r4 m4 h => ?_)
      replace h := id h
      exact w_iret rfl rfl h
    · refine w_aload_n rfl rfl ?_
      refine w_gfC (c := 378) rfl s_394 rfl rfl ?_
      refine w_aload_n rfl rfl ?_
      refine w_gfC (c := 398) rfl s_394 rfl rfl ?_
      refine w_iload_n rfl rfl ?_
      refine w_iald rfl s_398 (n := 200) rfl h.1 ?_
      replace h := h.2
      refine w_aload_n rfl rfl ?_
      refine w_gfC (c := 395) rfl s_394 rfl rfl ?_
      refine w_aload_n rfl rfl ?_
      refine w_gfC (c := 397) rfl s_394 rfl rfl ?_
      refine w_iload_n rfl rfl ?_
      refine w_iald rfl s_397 (n := 200) rfl h.1 ?_
      replace h := h.2
      refine w_aload_n rfl rfl ?_
      refine w_gfC (c := 359) rfl s_394 rfl rfl ?_
      refine w_iload_n rfl rfl ?_
      refine w_callV (t' := 0) [(0, l3)] [(0, m3 397 l1), (2, 395), (0, m3 398 l1), (2, 378)] rfl s_359 rfl rfl ?_
      refine w_C.more (Q := fun r5 m5 => _) h (fun r5 m5 h => ?_)
      replace h := id h
      refine w_callV (t' := 0) [(0, r5), (0, m3 397 l1), (2, 395), (0, m3 398 l1)] [] rfl s_378 rfl rfl ?_
      refine w_C.more (Q := fun r6 m6 => _) h (fun r6 m6 h => ?_)
      replace h := id h
      refine w_istore (lv' := [some (2, 394), some (0, l1), some (0, l2), some (0, l3), some (0, r6)]) rfl rfl rfl ?_
      refine w_aload_n rfl rfl ?_
      refine w_gfC (c := 366) rfl s_394 rfl rfl ?_
      refine w_iload_n rfl rfl ?_
      refine w_aload_n rfl rfl ?_
      refine w_gfC (c := 398) rfl s_394 rfl rfl ?_
      refine w_iload_n rfl rfl ?_
      refine w_iald rfl s_398 (n := 200) rfl h.1 ?_
      replace h := h.2
      refine w_callV (t' := 3) [(0, m6 398 l1), (0, l2)] [] rfl s_366 rfl rfl ?_
      refine w_C.more (Q := fun r7 m7 => _) h (fun r7 m7 h => ?_)
      replace h := id h
      refine w_iload rfl rfl ?_
      refine w_ifne rfl (w_ite h (fun h => ?_) (fun h => ?_))
      · refine w_aload_n rfl rfl ?_
        refine w_gfC (c := 366) rfl s_394 rfl rfl ?_
        refine w_iload_n rfl rfl ?_
        refine w_aload_n rfl rfl ?_
        refine w_gfC (c := 378) rfl s_394 rfl rfl ?_
        refine x_gfR rfl s_378 rfl (kk := 7) rfl rfl h.1 ?_
        replace h := h.2
        refine w_aload_n rfl rfl ?_
        refine w_gfC (c := 378) rfl s_394 rfl rfl ?_
        refine x_gfI rfl s_378 rfl (kk := 8) rfl rfl ?_
        refine w_callV (t' := 0) [(0, m7 378 8), (2, m7 378 7), (0, l2)] [] rfl s_366 rfl rfl ?_
        refine w_C.more (Q := fun r8 m8 => _) h (fun r8 m8 h => ?_)
        replace h := id h
        refine w_ifne rfl (w_ite h (fun h => ?_) (fun h => ?_))
        · refine w_bipush rfl (by decide) ?_
          refine w_istore (lv' := [some (2, 394), some (0, l1), some (0, l2), some (0, l3), some (0, 8)]) rfl rfl rfl ?_
          refine w_iload rfl rfl ?_
          refine w_ifeq rfl (w_iff (by decide) ?_)
          refine w_aload_n rfl rfl ?_
          refine w_gfC (c := 376) rfl s_394 rfl rfl ?_
          refine w_iload rfl rfl ?_
          refine w_aload_n rfl rfl ?_
          refine w_gfC (c := 366) rfl s_394 rfl rfl ?_
          refine w_iload_n rfl rfl ?_
          refine w_callV (t' := 0) [(0, l2)] [(0, 8), (2, 376)] rfl s_366 rfl rfl ?_
          refine w_C.more (Q := fun r9 m9 => _) h (fun r9 m9 h => ?_)
          replace h := id h
          refine w_callV (t' := 0) [(0, r9), (0, 8)] [] rfl s_376 rfl rfl ?_
          refine w_C.more (Q := fun r10 m10 => _) h (fun r10 m10 h => ?_)
          replace h := id h
          exact w_iret rfl rfl h
        · refine w_iload rfl rfl ?_
          refine w_ifeq rfl (w_ite h (fun h => ?_) (fun h => ?_))
          · refine w_aload_n rfl rfl ?_
            refine w_dup rfl (show (2 : Nat) ≠ 1 by decide) ?_
            refine x_gfI rfl s_394 rfl (kk := 9) rfl rfl ?_
            refine w_iconst rfl (by decide) ?_
            refine w_isub rfl ?_
            refine w_pfI rfl s_394 rfl (w_EC (by decide)) rfl (kk := 9) rfl ?_
            refine w_iconst rfl (by decide) ?_
            exact w_iret rfl rfl h
          · refine w_aload_n rfl rfl ?_
            refine w_gfC (c := 376) rfl s_394 rfl rfl ?_
            refine w_iload rfl rfl ?_
            refine w_aload_n rfl rfl ?_
            refine w_gfC (c := 366) rfl s_394 rfl rfl ?_
            refine w_iload_n rfl rfl ?_
            refine w_callV (t' := 0) [(0, l2)] [(0, r6), (2, 376)] rfl s_366 rfl rfl ?_
            refine w_C.more (Q := fun r11 m11 => _) h (fun r11 m11 h => ?_)
            replace h := id h
            refine w_callV (t' := 0) [(0, r11), (0, r6)] [] rfl s_376 rfl rfl ?_
            refine w_C.more (Q := fun r12 m12 => _) h (fun r12 m12 h => ?_)
            replace h := id h
            exact w_iret rfl rfl h
      · refine w_iload rfl rfl ?_
        refine w_ifeq rfl (w_ite h (fun h => ?_) (fun h => ?_))
        · refine w_aload_n rfl rfl ?_
          refine w_dup rfl (show (2 : Nat) ≠ 1 by decide) ?_
          refine x_gfI rfl s_394 rfl (kk := 9) rfl rfl ?_
          refine w_iconst rfl (by decide) ?_
          refine w_isub rfl ?_
          refine w_pfI rfl s_394 rfl (w_EC (by decide)) rfl (kk := 9) rfl ?_
          refine w_iconst rfl (by decide) ?_
          exact w_iret rfl rfl h
        · refine w_aload_n rfl rfl ?_
          refine w_gfC (c := 376) rfl s_394 rfl rfl ?_
          refine w_iload rfl rfl ?_
          refine w_aload_n rfl rfl ?_
          refine w_gfC (c := 366) rfl s_394 rfl rfl ?_
          refine w_iload_n rfl rfl ?_
          refine w_callV (t' := 0) [(0, l2)] [(0, r6), (2, 376)] rfl s_366 rfl rfl ?_
          refine w_C.more (Q := fun r13 m13 => _) h (fun r13 m13 h => ?_)
          replace h := id h
          refine w_callV (t' := 0) [(0, r13), (0, r6)] [] rfl s_376 rfl rfl ?_
          refine w_C.more (Q := fun r14 m14 => _) h (fun r14 m14 h => ?_)
          replace h := id h
          exact w_iret rfl rfl h
  · refine w_aload_n rfl rfl ?_
    refine w_iload_n rfl rfl ?_
    refine w_callV (t' := 0) [(0, l2)] [] rfl s_394 rfl rfl ?_
    refine w_C.more (Q := fun r15 m15 => _) h (fun r15 m15 h => ?_)
    replace h := id h
    exact w_iret rfl rfl h
theorem xr_lo_readObject {d : Nat} {l1 : Int} {m : w_M} {Q : Int → w_M → Prop} (h : xc_ta_howOf d l1 m (fun r1 m1 => if r1 = 3 then (xp_lo_readObject_17 d l1 1 m1 Q) else (xp_lo_readObject_17 d l1 0 m1 Q))) : xc_lo_readObject (d + 1) l1 m Q := by
  refine w_enter (q := 3) (lv := [some (2, 394), some (0, l1), none, none, none]) rfl rfl rfl ?_
  refine w_aload_n rfl rfl ?_
  refine w_gfC (c := 366) rfl s_394 rfl rfl ?_
  refine w_iload_n rfl rfl ?_
  refine w_callV (t' := 0) [(0, l1)] [] rfl s_366 rfl rfl ?_
  refine w_C.more (Q := fun r1 m1 => _) h (fun r1 m1 h => ?_)
  replace h := id h
  refine w_iconst rfl (by decide) ?_
  refine w_icne rfl (w_ite h (fun h => ?_) (fun h => ?_))
  · refine w_iconst rfl (by decide) ?_
    refine w_goto rfl ?_
    exact w_W.less h (w_sub [true, true, false, false, false] rfl)
  · refine w_iconst rfl (by decide) ?_
    exact w_W.less h (w_sub [true, true, false, false, false] rfl)
theorem xr_lo_readObject_17 {d : Nat} {l1 s0 : Int} {m : w_M} {Q : Int → w_M → Prop} (h : if s0 = 0 then (xc_lo_findPlaced d l1 m (fun r1 m1 => if r1 = 0 then (xp_lo_readObject_52 d l1 s0 (-1) m1 Q) else (xc_ps_object d 376 0 m1 (fun r2 m2 => xp_lo_readObject_52 d l1 s0 r2 m2 Q)))) else (xc_lo_findInside d l1 m (fun r3 m3 => if r3 = 0 then (xp_lo_readObject_52 d l1 s0 (-1) m3 Q) else (xc_ps_object d 376 0 m3 (fun r4 m4 => xp_lo_readObject_52 d l1 s0 r4 m4 Q))))) : xp_lo_readObject_17 d l1 s0 m Q := by
  refine w_istore_n (lv' := [some (2, 394), some (0, l1), some (0, s0), none, none]) rfl rfl rfl ?_
  refine w_iload_n rfl rfl ?_
  refine w_ifeq rfl (w_ite h (fun h => ?_) (fun h => ?_))
  · refine w_aload_n rfl rfl ?_
    refine w_iload_n rfl rfl ?_
    refine w_callV (t' := 0) [(0, l1)] [] rfl s_394 rfl rfl ?_
    refine w_C.more (Q := fun r1 m1 => _) h (fun r1 m1 h => ?_)
    replace h := id h
    refine w_istore_n (lv' := [some (2, 394), some (0, l1), some (0, s0), some (0, r1), none]) rfl rfl rfl ?_
    refine w_iload_n rfl rfl ?_
    refine w_ifeq rfl (w_ite h (fun h => ?_) (fun h => ?_))
    · refine w_iconst rfl (by decide) ?_
      exact w_W.less h (w_sub [true, true, true, false, false] rfl)
    · refine w_aload_n rfl rfl ?_
      refine w_gfC (c := 376) rfl s_394 rfl rfl ?_
      refine w_iconst rfl (by decide) ?_
      refine w_callV (t' := 0) [(0, 0)] [] rfl s_376 rfl rfl ?_
      refine w_C.more (Q := fun r2 m2 => _) h (fun r2 m2 h => ?_)
      replace h := id h
      refine w_goto rfl ?_
      exact w_W.less h (w_sub [true, true, true, false, false] rfl)
  · refine w_aload_n rfl rfl ?_
    refine w_iload_n rfl rfl ?_
    refine w_callV (t' := 0) [(0, l1)] [] rfl s_394 rfl rfl ?_
    refine w_C.more (Q := fun r3 m3 => _) h (fun r3 m3 h => ?_)
    replace h := id h
    refine w_goto rfl ?_
    refine w_istore_n (lv' := [some (2, 394), some (0, l1), some (0, s0), some (0, r3), none]) rfl rfl rfl ?_
    refine w_iload_n rfl rfl ?_
    refine w_ifeq rfl (w_ite h (fun h => ?_) (fun h => ?_))
    · refine w_iconst rfl (by decide) ?_
      exact w_W.less h (w_sub [true, true, true, false, false] rfl)
    · refine w_aload_n rfl rfl ?_
      refine w_gfC (c := 376) rfl s_394 rfl rfl ?_
      refine w_iconst rfl (by decide) ?_
      refine w_callV (t' := 0) [(0, 0)] [] rfl s_376 rfl rfl ?_
      refine w_C.more (Q := fun r4 m4 => _) h (fun r4 m4 h => ?_)
      replace h := id h
      refine w_goto rfl ?_
      exact w_W.less h (w_sub [true, true, true, false, false] rfl)
theorem xr_lo_readObject_52 {d : Nat} {l1 l2 s0 : Int} {m : w_M} {Q : Int → w_M → Prop} (h : if s0 < 0 then (if s0 < 0 then (Q 0 m) else (xc_lo_readBehind d l1 s0 m (fun r1 m1 => Q 0 m1))) else (if l2 = 0 then (if s0 < 0 then (Q 0 m) else (xc_lo_readBehind d l1 s0 m (fun r2 m2 => Q 0 m2))) else (xc_ta_settle d l1 s0 m (fun r3 m3 => Q 0 m3)))) : xp_lo_readObject_52 d l1 l2 s0 m Q := by
  refine w_istore (lv' := [some (2, 394), some (0, l1), some (0, l2), none, some (0, s0)]) rfl rfl rfl ?_
  refine w_iload rfl rfl ?_
  refine w_iflt rfl (w_ite h (fun h => ?_) (fun h => ?_))
  · refine w_iload rfl rfl ?_
    refine w_iflt rfl (w_ite h (fun h => ?_) (fun h => ?_))
    · exact w_vret rfl rfl h
    · refine w_aload_n rfl rfl ?_
      refine w_iload_n rfl rfl ?_
      refine w_iload rfl rfl ?_
      refine w_callV (t' := 3) [(0, s0), (0, l1)] [] rfl s_394 rfl rfl ?_
      refine w_C.more (Q := fun r1 m1 => _) h (fun r1 m1 h => ?_)
      replace h := id h
      exact w_vret rfl rfl h
  · refine w_iload_n rfl rfl ?_
    refine w_ifeq rfl (w_ite h (fun h => ?_) (fun h => ?_))
    · refine w_iload rfl rfl ?_
      refine w_iflt rfl (w_ite h (fun h => ?_) (fun h => ?_))
      · exact w_vret rfl rfl h
      · refine w_aload_n rfl rfl ?_
        refine w_iload_n rfl rfl ?_
        refine w_iload rfl rfl ?_
        refine w_callV (t' := 3) [(0, s0), (0, l1)] [] rfl s_394 rfl rfl ?_
        refine w_C.more (Q := fun r2 m2 => _) h (fun r2 m2 h => ?_)
        replace h := id h
        exact w_vret rfl rfl h
    · refine w_aload_n rfl rfl ?_
      refine w_gfC (c := 366) rfl s_394 rfl rfl ?_
      refine w_iload_n rfl rfl ?_
      refine w_iload rfl rfl ?_
      refine w_callV (t' := 3) [(0, s0), (0, l1)] [] rfl s_366 rfl rfl ?_
      refine w_C.more (Q := fun r3 m3 => _) h (fun r3 m3 h => ?_)
      replace h := id h
      refine w_goto rfl ?_
      exact w_vret rfl rfl h
theorem xr_lo_readStart {d : Nat} {m : w_M} {Q : Int → w_M → Prop} (h : xc_lo_passesBlanks d m (fun r1 m1 => if r1 = 0 then (Q (-1) m1) else (xc_ps_digits d 376 m1 (fun r2 m2 => if r2 < 0 then (xc_ps_fail d 376 2 (m1 376 4) m2 (fun r3 m3 => Q r3 m3)) else (if 2147483647 < r2 then (xc_ps_fail d 376 2 (m1 376 4) m2 (fun r4 m4 => Q r4 m4)) else (xc_lo_passesBlanks d m2 (fun r5 m5 => if r5 = 0 then (Q (-1) m5) else (xc_lo_passes d 10 2 m5 (fun r6 m6 => if r6 = 0 then (Q (-1) m6) else (xc_ps_skipBlanks d 376 m6 (fun r7 m7 => if (m7 376 4) = (m7 394 1) then (Q (w_32 r2) m7) else (xc_ps_fail d 376 2 (m7 376 4) m7 (fun r8 m8 => Q r8 m8))))))))))))) : xc_lo_readStart (d + 1) m Q := by
  refine w_enter (q := 3) (lv := [some (2, 394), none, none, none]) rfl rfl rfl ?_
  refine w_aload_n rfl rfl ?_
  refine w_callV (t' := 0) [] [] rfl s_394 rfl rfl ?_
  refine w_C.more (Q := fun r1 m1 => _) h (fun r1 m1 h => ?_)
  replace h := id h
  refine w_ifne rfl (w_ite h (fun h => ?_) (fun h => ?_))
  · refine w_iconst rfl (by decide) ?_
    exact w_iret rfl rfl h
  · refine w_aload_n rfl rfl ?_
    refine w_gfC (c := 376) rfl s_394 rfl rfl ?_
    refine x_gfI rfl s_376 rfl (kk := 4) rfl rfl ?_
    refine w_istore_n (lv' := [some (2, 394), some (0, m1 376 4), none, none]) rfl rfl rfl ?_
    refine w_aload_n rfl rfl ?_
    refine w_gfC (c := 376) rfl s_394 rfl rfl ?_
    refine w_callV (t' := 1) [] [] rfl s_376 rfl rfl ?_
    refine w_C.more (Q := fun r2 m2 => _) h (fun r2 m2 h => ?_)
    replace h := id h
    refine w_lstore_n (lv' := [some (2, 394), some (0, m1 376 4), some (1, r2), none]) rfl rfl rfl ?_
    refine w_lload_n rfl rfl ?_
    refine w_lconst rfl rfl ?_
    refine w_lclt rfl rfl (w_ite h (fun h => ?_) (fun h => ?_))
    · refine w_aload_n rfl rfl ?_
      refine w_gfC (c := 376) rfl s_394 rfl rfl ?_
      refine w_iconst rfl (by decide) ?_
      refine w_iload_n rfl rfl ?_
      refine w_callV (t' := 0) [(0, m1 376 4), (0, 2)] [] rfl s_376 rfl rfl ?_
      refine w_C.more (Q := fun r3 m3 => _) h (fun r3 m3 h => ?_)
      replace h := id h
      exact w_iret rfl rfl h
    · refine w_lload_n rfl rfl ?_
      refine w_ldc2 (a := 2147483647) rfl (by decide +kernel) (by decide) ?_
      refine w_lcle rfl rfl (w_ite h (fun h => ?_) (fun h => ?_))
      · refine w_aload_n rfl rfl ?_
        refine w_gfC (c := 376) rfl s_394 rfl rfl ?_
        refine w_iconst rfl (by decide) ?_
        refine w_iload_n rfl rfl ?_
        refine w_callV (t' := 0) [(0, m1 376 4), (0, 2)] [] rfl s_376 rfl rfl ?_
        refine w_C.more (Q := fun r4 m4 => _) h (fun r4 m4 h => ?_)
        replace h := id h
        exact w_iret rfl rfl h
      · refine w_aload_n rfl rfl ?_
        refine w_callV (t' := 0) [] [] rfl s_394 rfl rfl ?_
        refine w_C.more (Q := fun r5 m5 => _) h (fun r5 m5 h => ?_)
        replace h := id h
        refine w_ifeq rfl (w_ite h (fun h => ?_) (fun h => ?_))
        · refine w_iconst rfl (by decide) ?_
          exact w_iret rfl rfl h
        · refine w_aload_n rfl rfl ?_
          refine w_ldcR rfl ?_
          refine w_iconst rfl (by decide) ?_
          refine w_callV (t' := 0) [(0, 2), (2, 10)] [] rfl s_394 rfl rfl ?_
          refine w_C.more (Q := fun r6 m6 => _) h (fun r6 m6 h => ?_)
          replace h := id h
          refine w_ifne rfl (w_ite h (fun h => ?_) (fun h => ?_))
          · refine w_iconst rfl (by decide) ?_
            exact w_iret rfl rfl h
          · refine w_aload_n rfl rfl ?_
            refine w_gfC (c := 376) rfl s_394 rfl rfl ?_
            refine w_callV (t' := 3) [] [] rfl s_376 rfl rfl ?_
            refine w_C.more (Q := fun r7 m7 => _) h (fun r7 m7 h => ?_)
            replace h := id h
            refine w_aload_n rfl rfl ?_
            refine w_gfC (c := 376) rfl s_394 rfl rfl ?_
            refine x_gfI rfl s_376 rfl (kk := 4) rfl rfl ?_
            refine w_aload_n rfl rfl ?_
            refine x_gfI rfl s_394 rfl (kk := 1) rfl rfl ?_
            refine w_icne rfl (w_ite h (fun h => ?_) (fun h => ?_))
            · refine w_lload_n rfl rfl ?_
              refine w_l2i rfl ?_
              refine w_goto rfl ?_
              exact w_iret rfl rfl h
            · refine w_aload_n rfl rfl ?_
              refine w_gfC (c := 376) rfl s_394 rfl rfl ?_
              refine w_iconst rfl (by decide) ?_
              refine w_aload_n rfl rfl ?_
              refine w_gfC (c := 376) rfl s_394 rfl rfl ?_
              refine x_gfI rfl s_376 rfl (kk := 4) rfl rfl ?_
              refine w_callV (t' := 0) [(0, m7 376 4), (0, 2)] [] rfl s_376 rfl rfl ?_
              refine w_C.more (Q := fun r8 m8 => _) h (fun r8 m8 h => ?_)
              replace h := id h
              exact w_iret rfl rfl h
theorem xr_lo_waits {d : Nat} {l1 : Int} {m : w_M} {Q : Int → w_M → Prop} (h : xp_lo_waits_2 d l1 0 m Q) : xc_lo_waits (d + 1) l1 m Q := by
  refine w_enter (q := 1) (lv := [some (2, 394), some (0, l1), none]) rfl rfl rfl ?_
  refine w_iconst rfl (by decide) ?_
  refine w_istore_n (lv' := [some (2, 394), some (0, l1), some (0, 0)]) rfl rfl rfl ?_
  exact w_W.less h (w_sub [true, true, true] rfl)
theorem xr_lo_waits_2 {d : Nat} {l1 l2 : Int} {m : w_M} {Q : Int → w_M → Prop} (h : if l2 < (m 394 9) then (if l2 < 200 then (((0 : Int) ≤ l2 ∧ l2 < 200) ∧ (if (m 396 l2) = l1 then (Q 1 m) else (xp_lo_waits_2 d l1 (w_32 (l2 + 1)) m Q))) else (Q 0 m)) else (Q 0 m)) : xp_lo_waits_2 d l1 l2 m Q := by
  refine w_iload_n rfl rfl ?_
  refine w_aload_n rfl rfl ?_
  refine x_gfI rfl s_394 rfl (kk := 9) rfl rfl ?_
  refine w_icge rfl (w_ite h (fun h => ?_) (fun h => ?_))
  · refine w_iload_n rfl rfl ?_
    refine w_aload_n rfl rfl ?_
    refine w_gfC (c := 396) rfl s_394 rfl rfl ?_
    refine w_len rfl s_396 (by decide) (n := 200) rfl (by decide) ?_
    refine w_icge rfl (w_ite h (fun h => ?_) (fun h => ?_))
    · refine w_aload_n rfl rfl ?_
      refine w_gfC (c := 396) rfl s_394 rfl rfl ?_
      refine w_iload_n rfl rfl ?_
      refine w_iald rfl s_396 (n := 200) rfl h.1 ?_
      replace h := h.2
      refine w_iload_n rfl rfl ?_
      refine w_icne rfl (w_ite h (fun h => ?_) (fun h => ?_))
      · refine w_iconst rfl (by decide) ?_
        exact w_zret rfl rfl (by decide) h
      · refine w_iinc (lv' := [some (2, 394), some (0, l1), some (0, w_32 (l2 + 1))]) rfl rfl rfl rfl ?_
        refine w_goto rfl ?_
        exact w_W.less h (w_sub [true, true, true] rfl)
    · refine w_iconst rfl (by decide) ?_
      exact w_zret rfl rfl (by decide) h
  · refine w_iconst rfl (by decide) ?_
    exact w_zret rfl rfl (by decide) h
theorem xr_se_clear {d : Nat} {m : w_M} {Q : Int → w_M → Prop} (h : Q 0 (w_up (w_up (w_up m 391 6 0) 391 7 (-1)) 391 10 0)) : xc_se_clear (d + 1) m Q := by
  refine w_enter (q := 0) (lv := [some (2, 391)]) rfl rfl rfl ?_
  refine w_aload_n rfl rfl ?_
  refine w_iconst rfl (by decide) ?_
  refine w_pfI rfl s_391 rfl (w_EC (by decide)) rfl (kk := 6) rfl ?_
  refine w_aload_n rfl rfl ?_
  refine w_iconst rfl (by decide) ?_
  refine w_pfI rfl s_391 rfl (w_EC (by decide)) rfl (kk := 7) rfl ?_
  refine w_aload_n rfl rfl ?_
  refine w_iconst rfl (by decide) ?_
  refine w_pfZ rfl s_391 rfl (w_EC (by decide)) rfl (kk := 10) rfl (by decide) ?_
  exact w_vret rfl rfl h
theorem xr_se_headsRows {d : Nat} {l1 : Int} {m : w_M} {Q : Int → w_M → Prop} (h : xc_ps_unsigned d 376 (w_up m 376 4 l1) (fun r1 m1 => if r1 < 0 then (xp_se_headsRows_31 d r1 (-1) m1 Q) else (xc_ps_unsigned d 376 m1 (fun r2 m2 => xp_se_headsRows_31 d r1 r2 m2 Q)))) : xc_se_headsRows (d + 1) l1 m Q := by
  refine w_enter (q := 2) (lv := [some (2, 391), some (0, l1), none, none]) rfl rfl rfl ?_
  refine w_aload_n rfl rfl ?_
  refine w_gfC (c := 376) rfl s_391 rfl rfl ?_
  refine w_iload_n rfl rfl ?_
  refine w_pfI rfl s_376 rfl (w_EC (by decide)) rfl (kk := 4) rfl ?_
  refine w_aload_n rfl rfl ?_
  refine w_gfC (c := 376) rfl s_391 rfl rfl ?_
  refine w_callV (t' := 0) [] [] rfl s_376 rfl rfl ?_
  refine w_C.more (Q := fun r1 m1 => _) h (fun r1 m1 h => ?_)
  replace h := id h
  refine w_istore_n (lv' := [some (2, 391), some (0, l1), some (0, r1), none]) rfl rfl rfl ?_
  refine w_iload_n rfl rfl ?_
  refine w_ifge rfl (w_ite h (fun h => ?_) (fun h => ?_))
  · refine w_iconst rfl (by decide) ?_
    refine w_goto rfl ?_
    exact w_W.less h (w_sub [true, false, true, false] rfl)
  · refine w_aload_n rfl rfl ?_
    refine w_gfC (c := 376) rfl s_391 rfl rfl ?_
    refine w_callV (t' := 0) [] [] rfl s_376 rfl rfl ?_
    refine w_C.more (Q := fun r2 m2 => _) h (fun r2 m2 h => ?_)
    replace h := id h
    exact w_W.less h (w_sub [true, false, true, false] rfl)
theorem xr_se_headsRows_31 {d : Nat} {l2 s0 : Int} {m : w_M} {Q : Int → w_M → Prop} (h : if l2 < 1 then (Q 0 m) else (if l2 < 200 then (if s0 = 0 then (xc_ps_word d 376 24 m (fun r1 m1 => if r1 = 0 then (Q 0 m1) else (Q 1 m1))) else (Q 0 m)) else (Q 0 m))) : xp_se_headsRows_31 d l2 s0 m Q := by
  refine w_istore_n (lv' := [some (2, 391), none, some (0, l2), some (0, s0)]) rfl rfl rfl ?_
  refine w_iload_n rfl rfl ?_
  refine w_iconst rfl (by decide) ?_
  refine w_iclt rfl (w_ite h (fun h => ?_) (fun h => ?_))
  · refine w_iconst rfl (by decide) ?_
    exact w_zret rfl rfl (by decide) h
  · refine w_iload_n rfl rfl ?_
    refine w_sipush rfl (by decide) ?_
    refine w_icge rfl (w_ite h (fun h => ?_) (fun h => ?_))
    · refine w_iload_n rfl rfl ?_
      refine w_ifne rfl (w_ite h (fun h => ?_) (fun h => ?_))
      · refine w_aload_n rfl rfl ?_
        refine w_gfC (c := 376) rfl s_391 rfl rfl ?_
        refine w_ldcR rfl ?_
        refine w_callV (t' := 0) [(2, 24)] [] rfl s_376 rfl rfl ?_
        refine w_C.more (Q := fun r1 m1 => _) h (fun r1 m1 h => ?_)
        replace h := id h
        refine w_ifeq rfl (w_ite h (fun h => ?_) (fun h => ?_))
        · refine w_iconst rfl (by decide) ?_
          exact w_zret rfl rfl (by decide) h
        · refine w_iconst rfl (by decide) ?_
          refine w_goto rfl ?_
          exact w_zret rfl rfl (by decide) h
      · refine w_iconst rfl (by decide) ?_
        exact w_zret rfl rfl (by decide) h
    · refine w_iconst rfl (by decide) ?_
      exact w_zret rfl rfl (by decide) h
theorem xr_se_isEntry {d : Nat} {l1 : Int} {m : w_M} {Q : Int → w_M → Prop} (h : xp_se_isEntry_2 d l1 0 m Q) : xc_se_isEntry (d + 1) l1 m Q := by
  refine w_enter (q := 3) (lv := [some (2, 391), some (0, l1), none, none, none]) rfl rfl rfl ?_
  refine w_iconst rfl (by decide) ?_
  refine w_istore_n (lv' := [some (2, 391), some (0, l1), some (0, 0), none, none]) rfl rfl rfl ?_
  exact w_W.less h (w_sub [true, true, true, false, false] rfl)
theorem xr_se_isEntry_2 {d : Nat} {l1 l2 : Int} {m : w_M} {Q : Int → w_M → Prop} (h : if l2 < 16 then (xc_ps_at d 376 (w_32 (l1 + l2)) m (fun r1 m1 => if l2 = 10 then (if r1 = 32 then (xp_se_isEntry_2 d l1 (w_32 (l2 + 1)) m1 Q) else (Q 0 m1)) else (xc_ps_isDigit d r1 m1 (fun r2 m2 => if r2 = 0 then (Q 0 m2) else (xp_se_isEntry_2 d l1 (w_32 (l2 + 1)) m2 Q))))) else (xc_ps_at d 376 (w_32 (l1 + 17)) m (fun r3 m3 => xc_ps_at d 376 (w_32 (l1 + 18)) m3 (fun r4 m4 => xc_ps_at d 376 (w_32 (l1 + 19)) m4 (fun r5 m5 => xc_ps_at d 376 (w_32 (l1 + 16)) m5 (fun r6 m6 => if r6 = 32 then (if r3 = 110 then (xp_se_isEntry_114 d r4 r5 m6 Q) else (if r3 = 102 then (xp_se_isEntry_114 d r4 r5 m6 Q) else (Q 0 m6))) else (Q 0 m6))))))) : xp_se_isEntry_2 d l1 l2 m Q := by
  refine w_iload_n rfl rfl ?_
  refine w_bipush rfl (by decide) ?_
  refine w_icge rfl (w_ite h (fun h => ?_) (fun h => ?_))
  · refine w_aload_n rfl rfl ?_
    refine w_gfC (c := 376) rfl s_391 rfl rfl ?_
    refine w_iload_n rfl rfl ?_
    refine w_iload_n rfl rfl ?_
    refine w_iadd rfl ?_
    refine w_callV (t' := 0) [(0, w_32 (l1 + l2))] [] rfl s_376 rfl rfl ?_
    refine w_C.more (Q := fun r1 m1 => _) h (fun r1 m1 h => ?_)
    replace h := id h
    refine w_istore_n (lv' := [some (2, 391), some (0, l1), some (0, l2), some (0, r1), none]) rfl rfl rfl ?_
    refine w_iload_n rfl rfl ?_
    refine w_bipush rfl (by decide) ?_
    refine w_icne rfl (w_ite h (fun h => ?_) (fun h => ?_))
    · refine w_iload_n rfl rfl ?_
      refine w_bipush rfl (by decide) ?_
      refine w_iceq rfl (w_ite h (fun h => ?_) (fun h => ?_))
      · refine w_iinc (lv' := [some (2, 391), some (0, l1), some (0, w_32 (l2 + 1)), some (0, r1), none]) rfl rfl rfl rfl ?_
        refine w_goto rfl ?_
        exact w_W.less h (w_sub [true, true, true, false, false] rfl)
      · refine w_goto rfl ?_
        refine w_iconst rfl (by decide) ?_
        exact w_zret rfl rfl (by decide) h
    · refine w_iload_n rfl rfl ?_
      refine w_callS (t' := 0) [(0, r1)] [] rfl (by decide) rfl rfl ?_
      refine w_C.more (Q := fun r2 m2 => _) h (fun r2 m2 h => ?_)
      replace h := id h
      refine w_ifne rfl (w_ite h (fun h => ?_) (fun h => ?_))
      · refine w_iconst rfl (by decide) ?_
        exact w_zret rfl rfl (by decide) h
      · refine w_iinc (lv' := [some (2, 391), some (0, l1), some (0, w_32 (l2 + 1)), some (0, r1), none]) rfl rfl rfl rfl ?_
        refine w_goto rfl ?_
        exact w_W.less h (w_sub [true, true, true, false, false] rfl)
  · refine w_aload_n rfl rfl ?_
    refine w_gfC (c := 376) rfl s_391 rfl rfl ?_
    refine w_iload_n rfl rfl ?_
    refine w_bipush rfl (by decide) ?_
    refine w_iadd rfl ?_
    refine w_callV (t' := 0) [(0, w_32 (l1 + 17))] [] rfl s_376 rfl rfl ?_
    refine w_C.more (Q := fun r3 m3 => _) h (fun r3 m3 h => ?_)
    replace h := id h
    refine w_istore_n (lv' := [some (2, 391), some (0, l1), some (0, r3), none, none]) rfl rfl rfl ?_
    refine w_aload_n rfl rfl ?_
    refine w_gfC (c := 376) rfl s_391 rfl rfl ?_
    refine w_iload_n rfl rfl ?_
    refine w_bipush rfl (by decide) ?_
    refine w_iadd rfl ?_
    refine w_callV (t' := 0) [(0, w_32 (l1 + 18))] [] rfl s_376 rfl rfl ?_
    refine w_C.more (Q := fun r4 m4 => _) h (fun r4 m4 h => ?_)
    replace h := id h
    refine w_istore_n (lv' := [some (2, 391), some (0, l1), some (0, r3), some (0, r4), none]) rfl rfl rfl ?_
    refine w_aload_n rfl rfl ?_
    refine w_gfC (c := 376) rfl s_391 rfl rfl ?_
    refine w_iload_n rfl rfl ?_
    refine w_bipush rfl (by decide) ?_
    refine w_iadd rfl ?_
    refine w_callV (t' := 0) [(0, w_32 (l1 + 19))] [] rfl s_376 rfl rfl ?_
    refine w_C.more (Q := fun r5 m5 => _) h (fun r5 m5 h => ?_)
    replace h := id h
    refine w_istore (lv' := [some (2, 391), some (0, l1), some (0, r3), some (0, r4), some (0, r5)]) rfl rfl rfl ?_
    refine w_aload_n rfl rfl ?_
    refine w_gfC (c := 376) rfl s_391 rfl rfl ?_
    refine w_iload_n rfl rfl ?_
    refine w_bipush rfl (by decide) ?_
    refine w_iadd rfl ?_
    refine w_callV (t' := 0) [(0, w_32 (l1 + 16))] [] rfl s_376 rfl rfl ?_
    refine w_C.more (Q := fun r6 m6 => _) h (fun r6 m6 h => ?_)
    replace h := id h
    refine w_bipush rfl (by decide) ?_
    refine w_icne rfl (w_ite h (fun h => ?_) (fun h => ?_))
    · refine w_iload_n rfl rfl ?_
      refine w_bipush rfl (by decide) ?_
      refine w_iceq rfl (w_ite h (fun h => ?_) (fun h => ?_))
      · exact w_W.less h (w_sub [false, false, false, true, true] rfl)
      · refine w_iload_n rfl rfl ?_
        refine w_bipush rfl (by decide) ?_
        refine w_icne rfl (w_ite h (fun h => ?_) (fun h => ?_))
        · exact w_W.less h (w_sub [false, false, false, true, true] rfl)
        · refine w_iconst rfl (by decide) ?_
          exact w_zret rfl rfl (by decide) h
    · refine w_iconst rfl (by decide) ?_
      exact w_zret rfl rfl (by decide) h
theorem xr_se_isEntry_114 {d : Nat} {l3 l4 : Int} {m : w_M} {Q : Int → w_M → Prop} (h : if l3 = 32 then (if l4 = 13 then (Q 1 m) else (if l4 = 10 then (Q 1 m) else (if l3 = 13 then (if l4 = 10 then (Q 1 m) else (Q 0 m)) else (Q 0 m)))) else (if l3 = 13 then (if l4 = 10 then (Q 1 m) else (Q 0 m)) else (Q 0 m))) : xp_se_isEntry_114 d l3 l4 m Q := by
  refine w_iload_n rfl rfl ?_
  refine w_bipush rfl (by decide) ?_
  refine w_icne rfl (w_ite h (fun h => ?_) (fun h => ?_))
  · refine w_iload rfl rfl ?_
    refine w_bipush rfl (by decide) ?_
    refine w_iceq rfl (w_ite h (fun h => ?_) (fun h => ?_))
    · refine w_iconst rfl (by decide) ?_
      refine w_goto rfl ?_
      exact w_zret rfl rfl (by decide) h
    · refine w_iload rfl rfl ?_
      refine w_bipush rfl (by decide) ?_
      refine w_iceq rfl (w_ite h (fun h => ?_) (fun h => ?_))
      · refine w_iconst rfl (by decide) ?_
        refine w_goto rfl ?_
        exact w_zret rfl rfl (by decide) h
      · refine w_iload_n rfl rfl ?_
        refine w_bipush rfl (by decide) ?_
        refine w_icne rfl (w_ite h (fun h => ?_) (fun h => ?_))
        · refine w_iload rfl rfl ?_
          refine w_bipush rfl (by decide) ?_
          refine w_icne rfl (w_ite h (fun h => ?_) (fun h => ?_))
          · refine w_iconst rfl (by decide) ?_
            refine w_goto rfl ?_
            exact w_zret rfl rfl (by decide) h
          · refine w_iconst rfl (by decide) ?_
            exact w_zret rfl rfl (by decide) h
        · refine w_iconst rfl (by decide) ?_
          exact w_zret rfl rfl (by decide) h
  · refine w_iload_n rfl rfl ?_
    refine w_bipush rfl (by decide) ?_
    refine w_icne rfl (w_ite h (fun h => ?_) (fun h => ?_))
    · refine w_iload rfl rfl ?_
      refine w_bipush rfl (by decide) ?_
      refine w_icne rfl (w_ite h (fun h => ?_) (fun h => ?_))
      · refine w_iconst rfl (by decide) ?_
        refine w_goto rfl ?_
        exact w_zret rfl rfl (by decide) h
      · refine w_iconst rfl (by decide) ?_
        exact w_zret rfl rfl (by decide) h
    · refine w_iconst rfl (by decide) ?_
      exact w_zret rfl rfl (by decide) h
theorem xr_se_newest {d : Nat} {m : w_M} {Q : Int → w_M → Prop} (h : if 0 < (m 391 6) then (Q (m 392 0) m) else (Q (-1) m)) : xc_se_newest (d + 1) m Q := by
  refine w_enter (q := 0) (lv := [some (2, 391)]) rfl rfl rfl ?_
  refine w_aload_n rfl rfl ?_
  refine x_gfI rfl s_391 rfl (kk := 6) rfl rfl ?_
  refine w_ifle rfl (w_ite h (fun h => ?_) (fun h => ?_))
  · refine w_aload_n rfl rfl ?_
    refine w_gfC (c := 392) rfl s_391 rfl rfl ?_
    refine w_len rfl s_392 (by decide) (n := 10) rfl (by decide) ?_
    refine w_ifle rfl (w_ift (by decide) ?_)
    refine w_aload_n rfl rfl ?_
    refine w_gfC (c := 392) rfl s_391 rfl rfl ?_
    refine w_iconst rfl (by decide) ?_
    refine w_iald rfl s_392 (n := 10) rfl (by decide) ?_
    refine w_goto rfl ?_
    exact w_iret rfl rfl h
  · refine w_iconst rfl (by decide) ?_
    exact w_iret rfl rfl h
theorem xr_se_number {d : Nat} {l1 : Int} {m : w_M} {Q : Int → w_M → Prop} (h : xp_se_number_5 d l1 0 0 m Q) : xc_se_number (d + 1) l1 m Q := by
  refine w_enter (q := 4) (lv := [some (2, 391), some (0, l1), none, none, none, none]) rfl rfl rfl ?_
  refine w_lconst rfl rfl ?_
  refine w_lstore_n (lv' := [some (2, 391), some (0, l1), some (1, 0), none, none, none]) rfl rfl rfl ?_
  refine w_iconst rfl (by decide) ?_
  refine w_istore (lv' := [some (2, 391), some (0, l1), some (1, 0), none, some (0, 0), none]) rfl rfl rfl ?_
  exact w_W.less h (w_sub [true, true, true, false, true, false] rfl)
theorem xr_se_number_5 {d : Nat} {l1 l2 l4 : Int} {m : w_M} {Q : Int → w_M → Prop} (h : if l4 < l1 then (if (m 391 12) < 0 then (xp_se_number_5 d l1 (w_64 ((w_64 (l2 * 256)) + 0)) (w_32 (l4 + 1)) (w_up m 391 12 (w_32 ((m 391 12) + 1))) Q) else ((0 : Int) ≤ (m 378 7) ∧ (w_isR (m 378 7) ∧ (if (m 391 12) < (w_ln (m 378 7)) then ((0 : Int) ≤ (m 378 7) ∧ (w_isA 1 (m 378 7) ∧ ((0 : Int) ≤ (m 391 12) ∧ (m 391 12) < w_ln (m 378 7)) ∧ (xp_se_number_5 d l1 (w_64 ((w_64 (l2 * 256)) + ((m (m 378 7) (m 391 12)) % 256))) (w_32 (l4 + 1)) (w_up m 391 12 (w_32 ((m 391 12) + 1))) Q))) else (xp_se_number_5 d l1 (w_64 ((w_64 (l2 * 256)) + 0)) (w_32 (l4 + 1)) (w_up m 391 12 (w_32 ((m 391 12) + 1))) Q))))) else (Q l2 m)) : xp_se_number_5 d l1 l2 l4 m Q := by
  refine w_iload rfl rfl ?_
  refine w_iload_n rfl rfl ?_
  refine w_icge rfl (w_ite h (fun h => ?_) (fun h => ?_))
  · refine w_aload_n rfl rfl ?_
    refine x_gfI rfl s_391 rfl (kk := 12) rfl rfl ?_
    refine w_iflt rfl (w_ite h (fun h => ?_) (fun h => ?_))
    · refine w_iconst rfl (by decide) ?_
      refine w_istore (lv' := [some (2, 391), some (0, l1), some (1, l2), none, some (0, l4), some (0, 0)]) rfl rfl rfl ?_
      refine w_lload_n rfl rfl ?_
      refine w_ldc2 (a := 256) rfl (by decide +kernel) (by decide) ?_
      refine w_lmul' rfl ?_
      refine w_iload rfl rfl ?_
      refine w_i2l rfl ?_
      refine w_ladd' rfl ?_
      refine w_lstore_n (lv' := [some (2, 391), some (0, l1), some (1, w_64 ((w_64 (l2 * 256)) + 0)), none, some (0, l4), some (0, 0)]) rfl rfl rfl ?_
      refine w_aload_n rfl rfl ?_
      refine w_dup rfl (show (2 : Nat) ≠ 1 by decide) ?_
      refine x_gfI rfl s_391 rfl (kk := 12) rfl rfl ?_
      refine w_iconst rfl (by decide) ?_
      refine w_iadd rfl ?_
      refine w_pfI rfl s_391 rfl (w_EC (by decide)) rfl (kk := 12) rfl ?_
      refine w_iinc (lv' := [some (2, 391), some (0, l1), some (1, w_64 ((w_64 (l2 * 256)) + 0)), none, some (0, w_32 (l4 + 1)), some (0, 0)]) rfl rfl rfl rfl ?_
      refine w_goto rfl ?_
      exact w_W.less h (w_sub [true, true, true, false, true, false] rfl)
    · refine w_aload_n rfl rfl ?_
      refine x_gfI rfl s_391 rfl (kk := 12) rfl rfl ?_
      refine w_aload_n rfl rfl ?_
      refine w_gfC (c := 378) rfl s_391 rfl rfl ?_
      refine x_gfR rfl s_378 rfl (kk := 7) rfl rfl h.1 ?_
      replace h := h.2
      refine x_len rfl h.1 ?_
      replace h := h.2
      refine w_icge rfl (w_ite h (fun h => ?_) (fun h => ?_))
      · refine w_aload_n rfl rfl ?_
        refine w_gfC (c := 378) rfl s_391 rfl rfl ?_
        refine x_gfR rfl s_378 rfl (kk := 7) rfl rfl h.1 ?_
        replace h := h.2
        refine w_aload_n rfl rfl ?_
        refine x_gfI rfl s_391 rfl (kk := 12) rfl rfl ?_
        refine x_bald rfl h.1 h.2.1 ?_
        replace h := h.2.2
        refine w_sipush rfl (by decide) ?_
        refine w_iandm 8 (c := 256) rfl (by decide) rfl rfl ?_
        refine w_goto rfl ?_
        refine w_istore (lv' := [some (2, 391), some (0, l1), some (1, l2), none, some (0, l4), some (0, (m (m 378 7) (m 391 12)) % 256)]) rfl rfl rfl ?_
        refine w_lload_n rfl rfl ?_
        refine w_ldc2 (a := 256) rfl (by decide +kernel) (by decide) ?_
        refine w_lmul' rfl ?_
        refine w_iload rfl rfl ?_
        refine w_i2l rfl ?_
        refine w_ladd' rfl ?_
        refine w_lstore_n (lv' := [some (2, 391), some (0, l1), some (1, w_64 ((w_64 (l2 * 256)) + ((m (m 378 7) (m 391 12)) % 256))), none, some (0, l4), some (0, (m (m 378 7) (m 391 12)) % 256)]) rfl rfl rfl ?_
        refine w_aload_n rfl rfl ?_
        refine w_dup rfl (show (2 : Nat) ≠ 1 by decide) ?_
        refine x_gfI rfl s_391 rfl (kk := 12) rfl rfl ?_
        refine w_iconst rfl (by decide) ?_
        refine w_iadd rfl ?_
        refine w_pfI rfl s_391 rfl (w_EC (by decide)) rfl (kk := 12) rfl ?_
        refine w_iinc (lv' := [some (2, 391), some (0, l1), some (1, w_64 ((w_64 (l2 * 256)) + ((m (m 378 7) (m 391 12)) % 256))), none, some (0, w_32 (l4 + 1)), some (0, (m (m 378 7) (m 391 12)) % 256)]) rfl rfl rfl rfl ?_
        refine w_goto rfl ?_
        exact w_W.less h (w_sub [true, true, true, false, true, false] rfl)
      · refine w_iconst rfl (by decide) ?_
        refine w_istore (lv' := [some (2, 391), some (0, l1), some (1, l2), none, some (0, l4), some (0, 0)]) rfl rfl rfl ?_
        refine w_lload_n rfl rfl ?_
        refine w_ldc2 (a := 256) rfl (by decide +kernel) (by decide) ?_
        refine w_lmul' rfl ?_
        refine w_iload rfl rfl ?_
        refine w_i2l rfl ?_
        refine w_ladd' rfl ?_
        refine w_lstore_n (lv' := [some (2, 391), some (0, l1), some (1, w_64 ((w_64 (l2 * 256)) + 0)), none, some (0, l4), some (0, 0)]) rfl rfl rfl ?_
        refine w_aload_n rfl rfl ?_
        refine w_dup rfl (show (2 : Nat) ≠ 1 by decide) ?_
        refine x_gfI rfl s_391 rfl (kk := 12) rfl rfl ?_
        refine w_iconst rfl (by decide) ?_
        refine w_iadd rfl ?_
        refine w_pfI rfl s_391 rfl (w_EC (by decide)) rfl (kk := 12) rfl ?_
        refine w_iinc (lv' := [some (2, 391), some (0, l1), some (1, w_64 ((w_64 (l2 * 256)) + 0)), none, some (0, w_32 (l4 + 1)), some (0, 0)]) rfl rfl rfl rfl ?_
        refine w_goto rfl ?_
        exact w_W.less h (w_sub [true, true, true, false, true, false] rfl)
  · refine w_lload_n rfl rfl ?_
    exact w_lret rfl rfl h
theorem xr_se_read {d : Nat} {l1 l2 : Int} {m : w_M} {Q : Int → w_M → Prop} (h : xp_se_read_2 d l1 l2 0 m Q) : xc_se_read (d + 1) l1 l2 m Q := by
  refine w_enter (q := 4) (lv := [some (2, 391), some (0, l1), some (2, l2), none, none, none, none]) rfl rfl rfl ?_
  refine w_iconst rfl (by decide) ?_
  refine w_istore_n (lv' := [some (2, 391), some (0, l1), some (2, l2), some (0, 0), none, none, none]) rfl rfl rfl ?_
  exact w_W.less h (w_sub [true, true, true, true, false, false, false] rfl)
theorem xr_se_read_2 {d : Nat} {l1 l2 l3 : Int} {m : w_M} {Q : Int → w_M → Prop} (h : if l3 < (m 391 6) then (if l3 < 10 then (((0 : Int) ≤ l3 ∧ l3 < 10) ∧ (if (m 392 l3) = l1 then (xc_ps_fail d 376 3 l1 m (fun r1 m1 => Q r1 m1)) else (xp_se_read_2 d l1 l2 (w_32 (l3 + 1)) m Q))) else (xp_se_read_42 d l1 l2 m Q)) else (xp_se_read_42 d l1 l2 m Q)) : xp_se_read_2 d l1 l2 l3 m Q := by
  refine w_iload_n rfl rfl ?_
  refine w_aload_n rfl rfl ?_
  refine x_gfI rfl s_391 rfl (kk := 6) rfl rfl ?_
  refine w_icge rfl (w_ite h (fun h => ?_) (fun h => ?_))
  · refine w_iload_n rfl rfl ?_
    refine w_bipush rfl (by decide) ?_
    refine w_icge rfl (w_ite h (fun h => ?_) (fun h => ?_))
    · refine w_aload_n rfl rfl ?_
      refine w_gfC (c := 392) rfl s_391 rfl rfl ?_
      refine w_iload_n rfl rfl ?_
      refine w_iald rfl s_392 (n := 10) rfl h.1 ?_
      replace h := h.2
      refine w_iload_n rfl rfl ?_
      refine w_icne rfl (w_ite h (fun h => ?_) (fun h => ?_))
      · refine w_aload_n rfl rfl ?_
        refine w_gfC (c := 376) rfl s_391 rfl rfl ?_
        refine w_iconst rfl (by decide) ?_
        refine w_iload_n rfl rfl ?_
        refine w_callV (t' := 0) [(0, l1), (0, 3)] [] rfl s_376 rfl rfl ?_
        refine w_C.more (Q := fun r1 m1 => _) h (fun r1 m1 h => ?_)
        replace h := id h
        exact w_iret rfl rfl h
      · refine w_iinc (lv' := [some (2, 391), some (0, l1), some (2, l2), some (0, w_32 (l3 + 1)), none, none, none]) rfl rfl rfl rfl ?_
        refine w_goto rfl ?_
        exact w_W.less h (w_sub [true, true, true, true, false, false, false] rfl)
    · exact w_W.less h (w_sub [true, true, true, false, false, false, false] rfl)
  · exact w_W.less h (w_sub [true, true, true, false, false, false, false] rfl)
theorem xr_se_read_42 {d : Nat} {l1 l2 : Int} {m : w_M} {Q : Int → w_M → Prop} (h : if (m 391 6) < 10 then (if l1 < 0 then (xc_ps_fail d 376 3 (m 376 5) m (fun r1 m1 => Q r1 m1)) else (if l1 < (m 376 5) then (((0 : Int) ≤ (m 391 6) ∧ (m 391 6) < 10) ∧ (xc_ps_wordHere d 376 26 (w_up (w_up (w_up (w_up m 392 (m 391 6) l1) 391 6 (w_32 ((m 391 6) + 1))) 391 11 (-1)) 376 4 l1) (fun r2 m2 => if r2 = 0 then (xp_se_read_152 d l1 l2 1 m2 Q) else (xp_se_read_152 d l1 l2 0 m2 Q)))) else (xc_ps_fail d 376 3 (m 376 5) m (fun r3 m3 => Q r3 m3)))) else (xc_ps_fail d 376 5 (min l1 (m 376 5)) m (fun r4 m4 => Q r4 m4))) : xp_se_read_42 d l1 l2 m Q := by
  refine w_aload_n rfl rfl ?_
  refine x_gfI rfl s_391 rfl (kk := 6) rfl rfl ?_
  refine w_bipush rfl (by decide) ?_
  refine w_iclt rfl (w_ite h (fun h => ?_) (fun h => ?_))
  · refine w_iload_n rfl rfl ?_
    refine w_iflt rfl (w_ite h (fun h => ?_) (fun h => ?_))
    · refine w_aload_n rfl rfl ?_
      refine w_gfC (c := 376) rfl s_391 rfl rfl ?_
      refine w_iconst rfl (by decide) ?_
      refine w_aload_n rfl rfl ?_
      refine w_gfC (c := 376) rfl s_391 rfl rfl ?_
      refine x_gfI rfl s_376 rfl (kk := 5) rfl rfl ?_
      refine w_callV (t' := 0) [(0, m 376 5), (0, 3)] [] rfl s_376 rfl rfl ?_
      refine w_C.more (Q := fun r1 m1 => _) h (fun r1 m1 h => ?_)
      replace h := id h
      exact w_iret rfl rfl h
    · refine w_iload_n rfl rfl ?_
      refine w_aload_n rfl rfl ?_
      refine w_gfC (c := 376) rfl s_391 rfl rfl ?_
      refine x_gfI rfl s_376 rfl (kk := 5) rfl rfl ?_
      refine w_iclt rfl (w_ite h (fun h => ?_) (fun h => ?_))
      · refine w_aload_n rfl rfl ?_
        refine w_gfC (c := 392) rfl s_391 rfl rfl ?_
        refine w_aload_n rfl rfl ?_
        refine x_gfI rfl s_391 rfl (kk := 6) rfl rfl ?_
        refine w_iload_n rfl rfl ?_
        refine w_iast rfl s_392 (w_EC (by decide)) (n := 10) rfl h.1 ?_
        replace h := h.2
        refine w_aload_n rfl rfl ?_
        refine w_dup rfl (show (2 : Nat) ≠ 1 by decide) ?_
        refine x_gfI rfl s_391 rfl (kk := 6) rfl (w_up_ne (by decide)) ?_
        refine w_iconst rfl (by decide) ?_
        refine w_iadd rfl ?_
        refine w_pfI rfl s_391 rfl (w_EC (by decide)) rfl (kk := 6) rfl ?_
        refine w_aload_n rfl rfl ?_
        refine w_iconst rfl (by decide) ?_
        refine w_pfI rfl s_391 rfl (w_EC (by decide)) rfl (kk := 11) rfl ?_
        refine w_aload_n rfl rfl ?_
        refine w_gfC (c := 376) rfl s_391 rfl rfl ?_
        refine w_iload_n rfl rfl ?_
        refine w_pfI rfl s_376 rfl (w_EC (by decide)) rfl (kk := 4) rfl ?_
        refine w_aload_n rfl rfl ?_
        refine w_gfC (c := 376) rfl s_391 rfl rfl ?_
        refine w_ldcR rfl ?_
        refine w_callV (t' := 0) [(2, 26)] [] rfl s_376 rfl rfl ?_
        refine w_C.more (Q := fun r2 m2 => _) h (fun r2 m2 h => ?_)
        replace h := id h
        refine w_ifne rfl (w_ite h (fun h => ?_) (fun h => ?_))
        · refine w_iconst rfl (by decide) ?_
          refine w_goto rfl ?_
          exact w_W.less h (w_sub [true, true, true, false, false, false, false] rfl)
        · refine w_iconst rfl (by decide) ?_
          exact w_W.less h (w_sub [true, true, true, false, false, false, false] rfl)
      · refine w_aload_n rfl rfl ?_
        refine w_gfC (c := 376) rfl s_391 rfl rfl ?_
        refine w_iconst rfl (by decide) ?_
        refine w_aload_n rfl rfl ?_
        refine w_gfC (c := 376) rfl s_391 rfl rfl ?_
        refine x_gfI rfl s_376 rfl (kk := 5) rfl rfl ?_
        refine w_callV (t' := 0) [(0, m 376 5), (0, 3)] [] rfl s_376 rfl rfl ?_
        refine w_C.more (Q := fun r3 m3 => _) h (fun r3 m3 h => ?_)
        replace h := id h
        exact w_iret rfl rfl h
  · refine w_aload_n rfl rfl ?_
    refine w_gfC (c := 376) rfl s_391 rfl rfl ?_
    refine w_iconst rfl (by decide) ?_
    refine w_iload_n rfl rfl ?_
    refine w_aload_n rfl rfl ?_
    refine w_gfC (c := 376) rfl s_391 rfl rfl ?_
    refine x_gfI rfl s_376 rfl (kk := 5) rfl rfl ?_
    refine w_min rfl rfl ?_
    refine w_callV (t' := 0) [(0, min l1 (m 376 5)), (0, 5)] [] rfl s_376 rfl rfl ?_
    refine w_C.more (Q := fun r4 m4 => _) h (fun r4 m4 h => ?_)
    replace h := id h
    exact w_iret rfl rfl h
theorem xr_se_read_152 {d : Nat} {l1 l2 s0 : Int} {m : w_M} {Q : Int → w_M → Prop} (h : if s0 = 0 then (xc_se_readTable d l1 m (fun r1 m1 => if r1 = 0 then (xp_se_read_198 d l1 l2 s0 (m1 359 6) (-1) m1 Q) else (xc_ps_object d 376 0 m1 (fun r2 m2 => xp_se_read_198 d l1 l2 s0 (m1 359 6) r2 m2 Q)))) else (xc_se_headsRows d l1 m (fun r3 m3 => if r3 = 0 then (xp_se_read_198 d l1 l2 s0 (m3 359 6) (-1) m3 Q) else (xc_ps_object d 376 0 m3 (fun r4 m4 => xp_se_read_198 d l1 l2 s0 (m3 359 6) r4 m4 Q))))) : xp_se_read_152 d l1 l2 s0 m Q := by
  refine w_istore_n (lv' := [some (2, 391), some (0, l1), some (2, l2), some (0, s0), none, none, none]) rfl rfl rfl ?_
  refine w_iload_n rfl rfl ?_
  refine w_ifeq rfl (w_ite h (fun h => ?_) (fun h => ?_))
  · refine w_aload_n rfl rfl ?_
    refine w_iload_n rfl rfl ?_
    refine w_callV (t' := 0) [(0, l1)] [] rfl s_391 rfl rfl ?_
    refine w_C.more (Q := fun r1 m1 => _) h (fun r1 m1 h => ?_)
    replace h := id h
    refine w_istore (lv' := [some (2, 391), some (0, l1), some (2, l2), some (0, s0), some (0, r1), none, none]) rfl rfl rfl ?_
    refine w_aload_n rfl rfl ?_
    refine w_gfC (c := 359) rfl s_391 rfl rfl ?_
    refine x_gfI rfl s_359 rfl (kk := 6) rfl rfl ?_
    refine w_istore (lv' := [some (2, 391), some (0, l1), some (2, l2), some (0, s0), some (0, r1), some (0, m1 359 6), none]) rfl rfl rfl ?_
    refine w_iload rfl rfl ?_
    refine w_ifeq rfl (w_ite h (fun h => ?_) (fun h => ?_))
    · refine w_iconst rfl (by decide) ?_
      exact w_W.less h (w_sub [true, true, true, true, false, true, false] rfl)
    · refine w_aload_n rfl rfl ?_
      refine w_gfC (c := 376) rfl s_391 rfl rfl ?_
      refine w_iconst rfl (by decide) ?_
      refine w_callV (t' := 0) [(0, 0)] [] rfl s_376 rfl rfl ?_
      refine w_C.more (Q := fun r2 m2 => _) h (fun r2 m2 h => ?_)
      replace h := id h
      refine w_goto rfl ?_
      exact w_W.less h (w_sub [true, true, true, true, false, true, false] rfl)
  · refine w_aload_n rfl rfl ?_
    refine w_iload_n rfl rfl ?_
    refine w_callV (t' := 0) [(0, l1)] [] rfl s_391 rfl rfl ?_
    refine w_C.more (Q := fun r3 m3 => _) h (fun r3 m3 h => ?_)
    replace h := id h
    refine w_goto rfl ?_
    refine w_istore (lv' := [some (2, 391), some (0, l1), some (2, l2), some (0, s0), some (0, r3), none, none]) rfl rfl rfl ?_
    refine w_aload_n rfl rfl ?_
    refine w_gfC (c := 359) rfl s_391 rfl rfl ?_
    refine x_gfI rfl s_359 rfl (kk := 6) rfl rfl ?_
    refine w_istore (lv' := [some (2, 391), some (0, l1), some (2, l2), some (0, s0), some (0, r3), some (0, m3 359 6), none]) rfl rfl rfl ?_
    refine w_iload rfl rfl ?_
    refine w_ifeq rfl (w_ite h (fun h => ?_) (fun h => ?_))
    · refine w_iconst rfl (by decide) ?_
      exact w_W.less h (w_sub [true, true, true, true, false, true, false] rfl)
    · refine w_aload_n rfl rfl ?_
      refine w_gfC (c := 376) rfl s_391 rfl rfl ?_
      refine w_iconst rfl (by decide) ?_
      refine w_callV (t' := 0) [(0, 0)] [] rfl s_376 rfl rfl ?_
      refine w_C.more (Q := fun r4 m4 => _) h (fun r4 m4 h => ?_)
      replace h := id h
      refine w_goto rfl ?_
      exact w_W.less h (w_sub [true, true, true, true, false, true, false] rfl)
theorem xr_se_read_198 {d : Nat} {l1 l2 l3 l5 s0 : Int} {m : w_M} {Q : Int → w_M → Prop} (h : if s0 < 0 then (xc_ps_fail d 376 3 l1 m (fun r1 m1 => Q r1 m1)) else (if l3 = 0 then (xc_st_kindOf d s0 m (fun r2 m2 => if r2 = 7 then (xp_se_read_247 d l1 l3 l5 s0 m2 Q) else (xc_ps_fail d 376 3 l1 m2 (fun r3 m3 => Q r3 m3)))) else (xc_se_readRows d s0 l1 l2 m (fun r4 m4 => if r4 = 0 then (xc_ps_fail d 376 3 l1 m4 (fun r5 m5 => Q r5 m5)) else (xp_se_read_247 d l1 l3 l5 s0 m4 Q))))) : xp_se_read_198 d l1 l2 l3 l5 s0 m Q := by
  refine w_istore (lv' := [some (2, 391), some (0, l1), some (2, l2), some (0, l3), none, some (0, l5), some (0, s0)]) rfl rfl rfl ?_
  refine w_iload rfl rfl ?_
  refine w_iflt rfl (w_ite h (fun h => ?_) (fun h => ?_))
  · refine w_aload_n rfl rfl ?_
    refine w_gfC (c := 376) rfl s_391 rfl rfl ?_
    refine w_iconst rfl (by decide) ?_
    refine w_iload_n rfl rfl ?_
    refine w_callV (t' := 0) [(0, l1), (0, 3)] [] rfl s_376 rfl rfl ?_
    refine w_C.more (Q := fun r1 m1 => _) h (fun r1 m1 h => ?_)
    replace h := id h
    exact w_iret rfl rfl h
  · refine w_iload_n rfl rfl ?_
    refine w_ifeq rfl (w_ite h (fun h => ?_) (fun h => ?_))
    · refine w_aload_n rfl rfl ?_
      refine w_gfC (c := 359) rfl s_391 rfl rfl ?_
      refine w_iload rfl rfl ?_
      refine w_callV (t' := 0) [(0, s0)] [] rfl s_359 rfl rfl ?_
      refine w_C.more (Q := fun r2 m2 => _) h (fun r2 m2 h => ?_)
      replace h := id h
      refine w_bipush rfl (by decide) ?_
      refine w_iceq rfl (w_ite h (fun h => ?_) (fun h => ?_))
      · exact w_W.less h (w_sub [true, true, false, true, false, true, true] rfl)
      · refine w_aload_n rfl rfl ?_
        refine w_gfC (c := 376) rfl s_391 rfl rfl ?_
        refine w_iconst rfl (by decide) ?_
        refine w_iload_n rfl rfl ?_
        refine w_callV (t' := 0) [(0, l1), (0, 3)] [] rfl s_376 rfl rfl ?_
        refine w_C.more (Q := fun r3 m3 => _) h (fun r3 m3 h => ?_)
        replace h := id h
        exact w_iret rfl rfl h
    · refine w_aload_n rfl rfl ?_
      refine w_iload rfl rfl ?_
      refine w_iload_n rfl rfl ?_
      refine w_aload_n rfl rfl ?_
      refine w_callV (t' := 0) [(2, l2), (0, l1), (0, s0)] [] rfl s_391 rfl rfl ?_
      refine w_C.more (Q := fun r4 m4 => _) h (fun r4 m4 h => ?_)
      replace h := id h
      refine w_ifeq rfl (w_ite h (fun h => ?_) (fun h => ?_))
      · refine w_aload_n rfl rfl ?_
        refine w_gfC (c := 376) rfl s_391 rfl rfl ?_
        refine w_iconst rfl (by decide) ?_
        refine w_iload_n rfl rfl ?_
        refine w_callV (t' := 0) [(0, l1), (0, 3)] [] rfl s_376 rfl rfl ?_
        refine w_C.more (Q := fun r5 m5 => _) h (fun r5 m5 h => ?_)
        replace h := id h
        exact w_iret rfl rfl h
      · refine w_goto rfl ?_
        exact w_W.less h (w_sub [true, true, false, true, false, true, true] rfl)
theorem xr_se_read_247 {d : Nat} {l1 l3 l5 l6 : Int} {m : w_M} {Q : Int → w_M → Prop} (h : if (m 391 6) = 1 then ((l3 = 0 ∨ l3 = 1) ∧ (xc_se_readTrailer d l6 l1 (w_up (w_up (w_up (w_up m 391 7 l6) 391 8 l5) 391 9 (m 359 6)) 391 10 l3) (fun r1 m1 => Q r1 m1))) else (xc_se_readTrailer d l6 l1 m (fun r2 m2 => Q r2 m2))) : xp_se_read_247 d l1 l3 l5 l6 m Q := by
  refine w_aload_n rfl rfl ?_
  refine x_gfI rfl s_391 rfl (kk := 6) rfl rfl ?_
  refine w_iconst rfl (by decide) ?_
  refine w_icne rfl (w_ite h (fun h => ?_) (fun h => ?_))
  · refine w_aload_n rfl rfl ?_
    refine w_iload rfl rfl ?_
    refine w_pfI rfl s_391 rfl (w_EC (by decide)) rfl (kk := 7) rfl ?_
    refine w_aload_n rfl rfl ?_
    refine w_iload rfl rfl ?_
    refine w_pfI rfl s_391 rfl (w_EC (by decide)) rfl (kk := 8) rfl ?_
    refine w_aload_n rfl rfl ?_
    refine w_aload_n rfl rfl ?_
    refine w_gfC (c := 359) rfl s_391 rfl rfl ?_
    refine x_gfI rfl s_359 rfl (kk := 6) rfl ((w_up_ne (by decide)).trans (w_up_ne (by decide))) ?_
    refine w_pfI rfl s_391 rfl (w_EC (by decide)) rfl (kk := 9) rfl ?_
    refine w_aload_n rfl rfl ?_
    refine w_iload_n rfl rfl ?_
    refine w_pfZ rfl s_391 rfl (w_EC (by decide)) rfl (kk := 10) rfl h.1 ?_
    replace h := h.2
    refine w_aload_n rfl rfl ?_
    refine w_iload rfl rfl ?_
    refine w_iload_n rfl rfl ?_
    refine w_callV (t' := 0) [(0, l1), (0, l6)] [] rfl s_391 rfl rfl ?_
    refine w_C.more (Q := fun r1 m1 => _) h (fun r1 m1 h => ?_)
    replace h := id h
    exact w_iret rfl rfl h
  · refine w_aload_n rfl rfl ?_
    refine w_iload rfl rfl ?_
    refine w_iload_n rfl rfl ?_
    refine w_callV (t' := 0) [(0, l1), (0, l6)] [] rfl s_391 rfl rfl ?_
    refine w_C.more (Q := fun r2 m2 => _) h (fun r2 m2 h => ?_)
    replace h := id h
    exact w_iret rfl rfl h
theorem xr_se_readEntries {d : Nat} {l1 l2 : Int} {m : w_M} {Q : Int → w_M → Prop} (h : xp_se_readEntries_2 d l1 l2 0 m Q) : xc_se_readEntries (d + 1) l1 l2 m Q := by
  refine w_enter (q := 5) (lv := [some (2, 391), some (0, l1), some (0, l2), none, none, none, none, none]) rfl rfl rfl ?_
  refine w_iconst rfl (by decide) ?_
  refine w_istore_n (lv' := [some (2, 391), some (0, l1), some (0, l2), some (0, 0), none, none, none, none]) rfl rfl rfl ?_
  exact w_W.less h (w_sub [true, true, true, true, false, false, false, false] rfl)
theorem xr_se_readEntries_2 {d : Nat} {l1 l2 l3 : Int} {m : w_M} {Q : Int → w_M → Prop} (h : if l3 < l2 then (xc_se_isEntry d (m 376 4) m (fun r1 m1 => if r1 = 0 then (xc_ps_fail d 376 3 (m 376 4) m1 (fun r2 m2 => Q 0 m2)) else (xc_ps_digits d 376 m1 (fun r3 m3 => xc_ps_digits d 376 (w_up m3 376 4 (w_32 ((m 376 4) + 11))) (fun r4 m4 => xc_ps_at d 376 (w_32 ((m 376 4) + 17)) m4 (fun r5 m5 => if r5 = 102 then (xp_se_readEntries_98 d l1 l2 l3 (m 376 4) (w_32 (min r3 2147483647)) (w_32 r4) 1 m5 Q) else (xp_se_readEntries_98 d l1 l2 l3 (m 376 4) (w_32 (min r3 2147483647)) (w_32 r4) 0 m5 Q))))))) else (Q 1 m)) : xp_se_readEntries_2 d l1 l2 l3 m Q := by
  refine w_iload_n rfl rfl ?_
  refine w_iload_n rfl rfl ?_
  refine w_icge rfl (w_ite h (fun h => ?_) (fun h => ?_))
  · refine w_aload_n rfl rfl ?_
    refine w_gfC (c := 376) rfl s_391 rfl rfl ?_
    refine x_gfI rfl s_376 rfl (kk := 4) rfl rfl ?_
    refine w_istore (lv' := [some (2, 391), some (0, l1), some (0, l2), some (0, l3), some (0, m 376 4), none, none, none]) rfl rfl rfl ?_
    refine w_aload_n rfl rfl ?_
    refine w_iload rfl rfl ?_
    refine w_callV (t' := 0) [(0, m 376 4)] [] rfl s_391 rfl rfl ?_
    refine w_C.more (Q := fun r1 m1 => _) h (fun r1 m1 h => ?_)
    replace h := id h
    refine w_ifne rfl (w_ite h (fun h => ?_) (fun h => ?_))
    · refine w_aload_n rfl rfl ?_
      refine w_gfC (c := 376) rfl s_391 rfl rfl ?_
      refine w_iconst rfl (by decide) ?_
      refine w_iload rfl rfl ?_
      refine w_callV (t' := 0) [(0, m 376 4), (0, 3)] [] rfl s_376 rfl rfl ?_
      refine w_C.more (Q := fun r2 m2 => _) h (fun r2 m2 h => ?_)
      replace h := id h
      refine w_pop rfl (show (0 : Nat) ≠ 1 by decide) ?_
      refine w_iconst rfl (by decide) ?_
      exact w_zret rfl rfl (by decide) h
    · refine w_aload_n rfl rfl ?_
      refine w_gfC (c := 376) rfl s_391 rfl rfl ?_
      refine w_callV (t' := 1) [] [] rfl s_376 rfl rfl ?_
      refine w_C.more (Q := fun r3 m3 => _) h (fun r3 m3 h => ?_)
      replace h := id h
      refine w_ldc2 (a := 2147483647) rfl (by decide +kernel) (by decide) ?_
      refine w_lmin rfl rfl ?_
      refine w_l2i rfl ?_
      refine w_istore (lv' := [some (2, 391), some (0, l1), some (0, l2), some (0, l3), some (0, m 376 4), some (0, w_32 (min r3 2147483647)), none, none]) rfl rfl rfl ?_
      refine w_aload_n rfl rfl ?_
      refine w_gfC (c := 376) rfl s_391 rfl rfl ?_
      refine w_iload rfl rfl ?_
      refine w_bipush rfl (by decide) ?_
      refine w_iadd rfl ?_
      refine w_pfI rfl s_376 rfl (w_EC (by decide)) rfl (kk := 4) rfl ?_
      refine w_aload_n rfl rfl ?_
      refine w_gfC (c := 376) rfl s_391 rfl rfl ?_
      refine w_callV (t' := 1) [] [] rfl s_376 rfl rfl ?_
      refine w_C.more (Q := fun r4 m4 => _) h (fun r4 m4 h => ?_)
      replace h := id h
      refine w_l2i rfl ?_
      refine w_istore (lv' := [some (2, 391), some (0, l1), some (0, l2), some (0, l3), some (0, m 376 4), some (0, w_32 (min r3 2147483647)), some (0, w_32 r4), none]) rfl rfl rfl ?_
      refine w_aload_n rfl rfl ?_
      refine w_gfC (c := 376) rfl s_391 rfl rfl ?_
      refine w_iload rfl rfl ?_
      refine w_bipush rfl (by decide) ?_
      refine w_iadd rfl ?_
      refine w_callV (t' := 0) [(0, w_32 ((m 376 4) + 17))] [] rfl s_376 rfl rfl ?_
      refine w_C.more (Q := fun r5 m5 => _) h (fun r5 m5 h => ?_)
      replace h := id h
      refine w_bipush rfl (by decide) ?_
      refine w_icne rfl (w_ite h (fun h => ?_) (fun h => ?_))
      · refine w_iconst rfl (by decide) ?_
        refine w_goto rfl ?_
        exact w_W.less h (w_sub [true, true, true, true, true, true, true, false] rfl)
      · refine w_iconst rfl (by decide) ?_
        exact w_W.less h (w_sub [true, true, true, true, true, true, true, false] rfl)
  · refine w_iconst rfl (by decide) ?_
    exact w_zret rfl rfl (by decide) h
theorem xr_se_readEntries_98 {d : Nat} {l1 l2 l3 l4 l5 l6 s0 : Int} {m : w_M} {Q : Int → w_M → Prop} (h : if s0 = 0 then (xc_ta_tell d (w_32 (l1 + l3)) 2 l5 l6 m (fun r1 m1 => xp_se_readEntries_2 d l1 l2 (w_32 (l3 + 1)) (w_up (w_up m1 391 11 (max (m1 391 11) (w_32 (l1 + l3)))) 376 4 (w_32 (l4 + 20))) Q)) else (xc_ta_tell d (w_32 (l1 + l3)) 1 l5 l6 m (fun r2 m2 => xp_se_readEntries_2 d l1 l2 (w_32 (l3 + 1)) (w_up (w_up m2 391 11 (max (m2 391 11) (w_32 (l1 + l3)))) 376 4 (w_32 (l4 + 20))) Q))) : xp_se_readEntries_98 d l1 l2 l3 l4 l5 l6 s0 m Q := by
  refine w_istore (lv' := [some (2, 391), some (0, l1), some (0, l2), some (0, l3), some (0, l4), some (0, l5), some (0, l6), some (0, s0)]) rfl rfl rfl ?_
  refine w_aload_n rfl rfl ?_
  refine w_gfC (c := 366) rfl s_391 rfl rfl ?_
  refine w_iload_n rfl rfl ?_
  refine w_iload_n rfl rfl ?_
  refine w_iadd rfl ?_
  refine w_iload rfl rfl ?_
  refine w_ifeq rfl (w_ite h (fun h => ?_) (fun h => ?_))
  · refine w_iconst rfl (by decide) ?_
    refine w_iload rfl rfl ?_
    refine w_iload rfl rfl ?_
    refine w_callV (t' := 3) [(0, l6), (0, l5), (0, 2), (0, w_32 (l1 + l3))] [] rfl s_366 rfl rfl ?_
    refine w_C.more (Q := fun r1 m1 => _) h (fun r1 m1 h => ?_)
    replace h := id h
    refine w_aload_n rfl rfl ?_
    refine w_aload_n rfl rfl ?_
    refine x_gfI rfl s_391 rfl (kk := 11) rfl rfl ?_
    refine w_iload_n rfl rfl ?_
    refine w_iload_n rfl rfl ?_
    refine w_iadd rfl ?_
    refine w_max rfl rfl ?_
    refine w_pfI rfl s_391 rfl (w_EC (by decide)) rfl (kk := 11) rfl ?_
    refine w_aload_n rfl rfl ?_
    refine w_gfC (c := 376) rfl s_391 rfl rfl ?_
    refine w_iload rfl rfl ?_
    refine w_bipush rfl (by decide) ?_
    refine w_iadd rfl ?_
    refine w_pfI rfl s_376 rfl (w_EC (by decide)) rfl (kk := 4) rfl ?_
    refine w_iinc (lv' := [some (2, 391), some (0, l1), some (0, l2), some (0, w_32 (l3 + 1)), some (0, l4), some (0, l5), some (0, l6), some (0, s0)]) rfl rfl rfl rfl ?_
    refine w_goto rfl ?_
    exact w_W.less h (w_sub [true, true, true, true, false, false, false, false] rfl)
  · refine w_iconst rfl (by decide) ?_
    refine w_goto rfl ?_
    refine w_iload rfl rfl ?_
    refine w_iload rfl rfl ?_
    refine w_callV (t' := 3) [(0, l6), (0, l5), (0, 1), (0, w_32 (l1 + l3))] [] rfl s_366 rfl rfl ?_
    refine w_C.more (Q := fun r2 m2 => _) h (fun r2 m2 h => ?_)
    replace h := id h
    refine w_aload_n rfl rfl ?_
    refine w_aload_n rfl rfl ?_
    refine x_gfI rfl s_391 rfl (kk := 11) rfl rfl ?_
    refine w_iload_n rfl rfl ?_
    refine w_iload_n rfl rfl ?_
    refine w_iadd rfl ?_
    refine w_max rfl rfl ?_
    refine w_pfI rfl s_391 rfl (w_EC (by decide)) rfl (kk := 11) rfl ?_
    refine w_aload_n rfl rfl ?_
    refine w_gfC (c := 376) rfl s_391 rfl rfl ?_
    refine w_iload rfl rfl ?_
    refine w_bipush rfl (by decide) ?_
    refine w_iadd rfl ?_
    refine w_pfI rfl s_376 rfl (w_EC (by decide)) rfl (kk := 4) rfl ?_
    refine w_iinc (lv' := [some (2, 391), some (0, l1), some (0, l2), some (0, w_32 (l3 + 1)), some (0, l4), some (0, l5), some (0, l6), some (0, s0)]) rfl rfl rfl rfl ?_
    refine w_goto rfl ?_
    exact w_W.less h (w_sub [true, true, true, true, false, false, false, false] rfl)
theorem xr_se_readPair {d : Nat} {l1 l2 l3 : Int} {m : w_M} {Q : Int → w_M → Prop} (h : if 200 < (w_64 (l1 + l2)) then (xc_ps_fail d 376 5 l3 m (fun r1 m1 => Q 0 m1)) else (xp_se_readPair_27 d l1 l2 0 m Q)) : xc_se_readPair (d + 1) l1 l2 l3 m Q := by
  refine w_enter (q := 9) (lv := [some (2, 391), some (0, l1), some (0, l2), some (0, l3), none, none, none, none, none, none, none, none, none]) rfl rfl rfl ?_
  refine w_iload_n rfl rfl ?_
  refine w_i2l rfl ?_
  refine w_iload_n rfl rfl ?_
  refine w_i2l rfl ?_
  refine w_ladd' rfl ?_
  refine w_ldc2 (a := 200) rfl (by decide +kernel) (by decide) ?_
  refine w_lcle rfl rfl (w_ite h (fun h => ?_) (fun h => ?_))
  · refine w_aload_n rfl rfl ?_
    refine w_gfC (c := 376) rfl s_391 rfl rfl ?_
    refine w_iconst rfl (by decide) ?_
    refine w_iload_n rfl rfl ?_
    refine w_callV (t' := 0) [(0, l3), (0, 5)] [] rfl s_376 rfl rfl ?_
    refine w_C.more (Q := fun r1 m1 => _) h (fun r1 m1 h => ?_)
    replace h := id h
    refine w_pop rfl (show (0 : Nat) ≠ 1 by decide) ?_
    refine w_iconst rfl (by decide) ?_
    exact w_zret rfl rfl (by decide) h
  · refine w_iconst rfl (by decide) ?_
    refine w_istore (lv' := [some (2, 391), some (0, l1), some (0, l2), some (0, l3), some (0, 0), none, none, none, none, none, none, none, none]) rfl rfl rfl ?_
    exact w_W.less h (w_sub [true, true, true, false, true, false, false, false, false, false, false, false, false] rfl)
theorem xr_se_readPair_27 {d : Nat} {l1 l2 l4 : Int} {m : w_M} {Q : Int → w_M → Prop} (h : if l4 < l2 then (if (m 378 8) < (w_32 ((w_32 ((w_32 ((m 391 12) + (m 393 0))) + (m 393 1))) + (m 393 2))) then (Q 0 m) else (if (m 393 0) = 0 then (xp_se_readPair_93 d l1 l2 l4 1 m Q) else (xc_se_number d (m 393 0) m (fun r1 m1 => xp_se_readPair_93 d l1 l2 l4 r1 m1 Q)))) else (Q 1 m)) : xp_se_readPair_27 d l1 l2 l4 m Q := by
  refine w_iload rfl rfl ?_
  refine w_iload_n rfl rfl ?_
  refine w_icge rfl (w_ite h (fun h => ?_) (fun h => ?_))
  · refine w_aload_n rfl rfl ?_
    refine x_gfI rfl s_391 rfl (kk := 12) rfl rfl ?_
    refine w_aload_n rfl rfl ?_
    refine w_gfC (c := 393) rfl s_391 rfl rfl ?_
    refine w_iconst rfl (by decide) ?_
    refine w_iald rfl s_393 (n := 3) rfl (by decide) ?_
    refine w_iadd rfl ?_
    refine w_aload_n rfl rfl ?_
    refine w_gfC (c := 393) rfl s_391 rfl rfl ?_
    refine w_iconst rfl (by decide) ?_
    refine w_iald rfl s_393 (n := 3) rfl (by decide) ?_
    refine w_iadd rfl ?_
    refine w_aload_n rfl rfl ?_
    refine w_gfC (c := 393) rfl s_391 rfl rfl ?_
    refine w_iconst rfl (by decide) ?_
    refine w_iald rfl s_393 (n := 3) rfl (by decide) ?_
    refine w_iadd rfl ?_
    refine w_aload_n rfl rfl ?_
    refine w_gfC (c := 378) rfl s_391 rfl rfl ?_
    refine x_gfI rfl s_378 rfl (kk := 8) rfl rfl ?_
    refine w_icle rfl (w_ite h (fun h => ?_) (fun h => ?_))
    · refine w_iconst rfl (by decide) ?_
      exact w_zret rfl rfl (by decide) h
    · refine w_aload_n rfl rfl ?_
      refine w_gfC (c := 393) rfl s_391 rfl rfl ?_
      refine w_iconst rfl (by decide) ?_
      refine w_iald rfl s_393 (n := 3) rfl (by decide) ?_
      refine w_ifne rfl (w_ite h (fun h => ?_) (fun h => ?_))
      · refine w_lconst rfl rfl ?_
        refine w_goto rfl ?_
        exact w_W.less h (w_sub [true, true, true, false, true, false, false, false, false, false, false, false, false] rfl)
      · refine w_aload_n rfl rfl ?_
        refine w_aload_n rfl rfl ?_
        refine w_gfC (c := 393) rfl s_391 rfl rfl ?_
        refine w_iconst rfl (by decide) ?_
        refine w_iald rfl s_393 (n := 3) rfl (by decide) ?_
        refine w_callV (t' := 1) [(0, m 393 0)] [] rfl s_391 rfl rfl ?_
        refine w_C.more (Q := fun r1 m1 => _) h (fun r1 m1 h => ?_)
        replace h := id h
        exact w_W.less h (w_sub [true, true, true, false, true, false, false, false, false, false, false, false, false] rfl)
  · refine w_iconst rfl (by decide) ?_
    exact w_zret rfl rfl (by decide) h
theorem xr_se_readPair_93 {d : Nat} {l1 l2 l4 s0 : Int} {m : w_M} {Q : Int → w_M → Prop} (h : xc_se_number d (m 393 1) m (fun r1 m1 => xc_se_number d (m1 393 2) m1 (fun r2 m2 => if 2 < s0 then (Q 0 m2) else (if 2147483647 < r2 then (xp_se_readPair_157 d l1 l2 l4 s0 (w_32 (min r1 2147483647)) (-1) m2 Q) else (xp_se_readPair_157 d l1 l2 l4 s0 (w_32 (min r1 2147483647)) (w_32 r2) m2 Q))))) : xp_se_readPair_93 d l1 l2 l4 s0 m Q := by
  refine w_lstore (lv' := [some (2, 391), some (0, l1), some (0, l2), none, some (0, l4), some (1, s0), none, none, none, none, none, none, none]) rfl rfl rfl ?_
  refine w_aload_n rfl rfl ?_
  refine w_aload_n rfl rfl ?_
  refine w_gfC (c := 393) rfl s_391 rfl rfl ?_
  refine w_iconst rfl (by decide) ?_
  refine w_iald rfl s_393 (n := 3) rfl (by decide) ?_
  refine w_callV (t' := 1) [(0, m 393 1)] [] rfl s_391 rfl rfl ?_
  refine w_C.more (Q := fun r1 m1 => _) h (fun r1 m1 h => ?_)
  replace h := id h
  refine w_lstore (lv' := [some (2, 391), some (0, l1), some (0, l2), none, some (0, l4), some (1, s0), none, some (1, r1), none, none, none, none, none]) rfl rfl rfl ?_
  refine w_aload_n rfl rfl ?_
  refine w_aload_n rfl rfl ?_
  refine w_gfC (c := 393) rfl s_391 rfl rfl ?_
  refine w_iconst rfl (by decide) ?_
  refine w_iald rfl s_393 (n := 3) rfl (by decide) ?_
  refine w_callV (t' := 1) [(0, m1 393 2)] [] rfl s_391 rfl rfl ?_
  refine w_C.more (Q := fun r2 m2 => _) h (fun r2 m2 h => ?_)
  replace h := id h
  refine w_lstore (lv' := [some (2, 391), some (0, l1), some (0, l2), none, some (0, l4), some (1, s0), none, some (1, r1), none, some (1, r2), none, none, none]) rfl rfl rfl ?_
  refine w_lload rfl rfl ?_
  refine w_ldc2 (a := 2) rfl (by decide +kernel) (by decide) ?_
  refine w_lcle rfl rfl (w_ite h (fun h => ?_) (fun h => ?_))
  · refine w_iconst rfl (by decide) ?_
    exact w_zret rfl rfl (by decide) h
  · refine w_lload rfl rfl ?_
    refine w_ldc2 (a := 2147483647) rfl (by decide +kernel) (by decide) ?_
    refine w_lmin rfl rfl ?_
    refine w_l2i rfl ?_
    refine w_istore (lv' := [some (2, 391), some (0, l1), some (0, l2), none, some (0, l4), some (1, s0), none, some (1, r1), none, some (1, r2), none, some (0, w_32 (min r1 2147483647)), none]) rfl rfl rfl ?_
    refine w_lload rfl rfl ?_
    refine w_ldc2 (a := 2147483647) rfl (by decide +kernel) (by decide) ?_
    refine w_lcle rfl rfl (w_ite h (fun h => ?_) (fun h => ?_))
    · refine w_iconst rfl (by decide) ?_
      refine w_goto rfl ?_
      exact w_W.less h (w_sub [true, true, true, false, true, true, false, false, false, false, false, true, false] rfl)
    · refine w_lload rfl rfl ?_
      refine w_l2i rfl ?_
      exact w_W.less h (w_sub [true, true, true, false, true, true, false, false, false, false, false, true, false] rfl)
theorem xr_se_readPair_157 {d : Nat} {l1 l2 l4 l5 l11 s0 : Int} {m : w_M} {Q : Int → w_M → Prop} (h : if l5 = 0 then (xc_ta_tell d (w_32 (l1 + l4)) 1 l11 s0 m (fun r1 m1 => xp_se_readPair_27 d l1 l2 (w_32 (l4 + 1)) (w_up m1 391 11 (max (m1 391 11) (w_32 (l1 + l4)))) Q)) else (if l5 = 1 then (xc_ta_tell d (w_32 (l1 + l4)) 2 l11 s0 m (fun r2 m2 => xp_se_readPair_27 d l1 l2 (w_32 (l4 + 1)) (w_up m2 391 11 (max (m2 391 11) (w_32 (l1 + l4)))) Q)) else (xc_ta_tell d (w_32 (l1 + l4)) 3 l11 s0 m (fun r3 m3 => xp_se_readPair_27 d l1 l2 (w_32 (l4 + 1)) (w_up m3 391 11 (max (m3 391 11) (w_32 (l1 + l4)))) Q)))) : xp_se_readPair_157 d l1 l2 l4 l5 l11 s0 m Q := by
  refine w_istore (lv' := [some (2, 391), some (0, l1), some (0, l2), none, some (0, l4), some (1, l5), none, none, none, none, none, some (0, l11), some (0, s0)]) rfl rfl rfl ?_
  refine w_aload_n rfl rfl ?_
  refine w_gfC (c := 366) rfl s_391 rfl rfl ?_
  refine w_iload_n rfl rfl ?_
  refine w_iload rfl rfl ?_
  refine w_iadd rfl ?_
  refine w_lload rfl rfl ?_
  refine w_lconst rfl rfl ?_
  refine w_lcne rfl rfl (w_ite h (fun h => ?_) (fun h => ?_))
  · refine w_iconst rfl (by decide) ?_
    refine w_goto rfl ?_
    refine w_iload rfl rfl ?_
    refine w_iload rfl rfl ?_
    refine w_callV (t' := 3) [(0, s0), (0, l11), (0, 1), (0, w_32 (l1 + l4))] [] rfl s_366 rfl rfl ?_
    refine w_C.more (Q := fun r1 m1 => _) h (fun r1 m1 h => ?_)
    replace h := id h
    refine w_aload_n rfl rfl ?_
    refine w_aload_n rfl rfl ?_
    refine x_gfI rfl s_391 rfl (kk := 11) rfl rfl ?_
    refine w_iload_n rfl rfl ?_
    refine w_iload rfl rfl ?_
    refine w_iadd rfl ?_
    refine w_max rfl rfl ?_
    refine w_pfI rfl s_391 rfl (w_EC (by decide)) rfl (kk := 11) rfl ?_
    refine w_iinc (lv' := [some (2, 391), some (0, l1), some (0, l2), none, some (0, w_32 (l4 + 1)), some (1, l5), none, none, none, none, none, some (0, l11), some (0, s0)]) rfl rfl rfl rfl ?_
    refine w_goto rfl ?_
    exact w_W.less h (w_sub [true, true, true, false, true, false, false, false, false, false, false, false, false] rfl)
  · refine w_lload rfl rfl ?_
    refine w_lconst rfl rfl ?_
    refine w_lcne rfl rfl (w_ite h (fun h => ?_) (fun h => ?_))
    · refine w_iconst rfl (by decide) ?_
      refine w_goto rfl ?_
      refine w_iload rfl rfl ?_
      refine w_iload rfl rfl ?_
      refine w_callV (t' := 3) [(0, s0), (0, l11), (0, 2), (0, w_32 (l1 + l4))] [] rfl s_366 rfl rfl ?_
      refine w_C.more (Q := fun r2 m2 => _) h (fun r2 m2 h => ?_)
      replace h := id h
      refine w_aload_n rfl rfl ?_
      refine w_aload_n rfl rfl ?_
      refine x_gfI rfl s_391 rfl (kk := 11) rfl rfl ?_
      refine w_iload_n rfl rfl ?_
      refine w_iload rfl rfl ?_
      refine w_iadd rfl ?_
      refine w_max rfl rfl ?_
      refine w_pfI rfl s_391 rfl (w_EC (by decide)) rfl (kk := 11) rfl ?_
      refine w_iinc (lv' := [some (2, 391), some (0, l1), some (0, l2), none, some (0, w_32 (l4 + 1)), some (1, l5), none, none, none, none, none, some (0, l11), some (0, s0)]) rfl rfl rfl rfl ?_
      refine w_goto rfl ?_
      exact w_W.less h (w_sub [true, true, true, false, true, false, false, false, false, false, false, false, false] rfl)
    · refine w_iconst rfl (by decide) ?_
      refine w_iload rfl rfl ?_
      refine w_iload rfl rfl ?_
      refine w_callV (t' := 3) [(0, s0), (0, l11), (0, 3), (0, w_32 (l1 + l4))] [] rfl s_366 rfl rfl ?_
      refine w_C.more (Q := fun r3 m3 => _) h (fun r3 m3 h => ?_)
      replace h := id h
      refine w_aload_n rfl rfl ?_
      refine w_aload_n rfl rfl ?_
      refine x_gfI rfl s_391 rfl (kk := 11) rfl rfl ?_
      refine w_iload_n rfl rfl ?_
      refine w_iload rfl rfl ?_
      refine w_iadd rfl ?_
      refine w_max rfl rfl ?_
      refine w_pfI rfl s_391 rfl (w_EC (by decide)) rfl (kk := 11) rfl ?_
      refine w_iinc (lv' := [some (2, 391), some (0, l1), some (0, l2), none, some (0, w_32 (l4 + 1)), some (1, l5), none, none, none, none, none, some (0, l11), some (0, s0)]) rfl rfl rfl rfl ?_
      refine w_goto rfl ?_
      exact w_W.less h (w_sub [true, true, true, false, true, false, false, false, false, false, false, false, false] rfl)
theorem xr_se_readPairs {d : Nat} {l1 l2 : Int} {m : w_M} {Q : Int → w_M → Prop} (h : xc_st_entry d l1 31 (w_up m 391 12 0) (fun r1 m1 => if r1 < 0 then (xc_st_wholeEntry d l1 32 m1 (fun r2 m2 => if r2 < 0 then (Q 0 m2) else (xc_se_readPair d 0 r2 l2 m2 (fun r3 m3 => if r3 = 0 then (Q 0 m3) else (if (m3 391 12) = (m3 378 8) then (Q 1 m3) else (Q 0 m3)))))) else (xc_st_kindOf d r1 m1 (fun r4 m4 => if r4 = 6 then (xc_st_parts d r1 m4 (fun r5 m5 => if (Int.tmod r5 2) = 0 then (xc_st_firstPart d r1 m5 (fun r6 m6 => xc_st_parts d r1 m6 (fun r7 m7 => xp_se_readPairs_116 d l2 r1 r6 r7 m7 Q))) else (Q 0 m5))) else (Q 0 m4))))) : xc_se_readPairs (d + 1) l1 l2 m Q := by
  refine w_enter (q := 4) (lv := [some (2, 391), some (0, l1), some (0, l2), none, none, none, none]) rfl rfl rfl ?_
  refine w_aload_n rfl rfl ?_
  refine w_iconst rfl (by decide) ?_
  refine w_pfI rfl s_391 rfl (w_EC (by decide)) rfl (kk := 12) rfl ?_
  refine w_aload_n rfl rfl ?_
  refine w_gfC (c := 359) rfl s_391 rfl rfl ?_
  refine w_iload_n rfl rfl ?_
  refine w_bipush rfl (by decide) ?_
  refine w_callV (t' := 0) [(0, 31), (0, l1)] [] rfl s_359 rfl rfl ?_
  refine w_C.more (Q := fun r1 m1 => _) h (fun r1 m1 h => ?_)
  replace h := id h
  refine w_istore_n (lv' := [some (2, 391), some (0, l1), some (0, l2), some (0, r1), none, none, none]) rfl rfl rfl ?_
  refine w_iload_n rfl rfl ?_
  refine w_ifge rfl (w_ite h (fun h => ?_) (fun h => ?_))
  · refine w_aload_n rfl rfl ?_
    refine w_gfC (c := 359) rfl s_391 rfl rfl ?_
    refine w_iload_n rfl rfl ?_
    refine w_bipush rfl (by decide) ?_
    refine w_callV (t' := 0) [(0, 32), (0, l1)] [] rfl s_359 rfl rfl ?_
    refine w_C.more (Q := fun r2 m2 => _) h (fun r2 m2 h => ?_)
    replace h := id h
    refine w_istore (lv' := [some (2, 391), some (0, l1), some (0, l2), some (0, r1), some (0, r2), none, none]) rfl rfl rfl ?_
    refine w_iload rfl rfl ?_
    refine w_iflt rfl (w_ite h (fun h => ?_) (fun h => ?_))
    · refine w_iconst rfl (by decide) ?_
      exact w_zret rfl rfl (by decide) h
    · refine w_aload_n rfl rfl ?_
      refine w_iconst rfl (by decide) ?_
      refine w_iload rfl rfl ?_
      refine w_iload_n rfl rfl ?_
      refine w_callV (t' := 0) [(0, l2), (0, r2), (0, 0)] [] rfl s_391 rfl rfl ?_
      refine w_C.more (Q := fun r3 m3 => _) h (fun r3 m3 h => ?_)
      replace h := id h
      refine w_ifeq rfl (w_ite h (fun h => ?_) (fun h => ?_))
      · refine w_iconst rfl (by decide) ?_
        exact w_zret rfl rfl (by decide) h
      · refine w_aload_n rfl rfl ?_
        refine x_gfI rfl s_391 rfl (kk := 12) rfl rfl ?_
        refine w_aload_n rfl rfl ?_
        refine w_gfC (c := 378) rfl s_391 rfl rfl ?_
        refine x_gfI rfl s_378 rfl (kk := 8) rfl rfl ?_
        refine w_icne rfl (w_ite h (fun h => ?_) (fun h => ?_))
        · refine w_iconst rfl (by decide) ?_
          refine w_goto rfl ?_
          exact w_zret rfl rfl (by decide) h
        · refine w_iconst rfl (by decide) ?_
          exact w_zret rfl rfl (by decide) h
  · refine w_aload_n rfl rfl ?_
    refine w_gfC (c := 359) rfl s_391 rfl rfl ?_
    refine w_iload_n rfl rfl ?_
    refine w_callV (t' := 0) [(0, r1)] [] rfl s_359 rfl rfl ?_
    refine w_C.more (Q := fun r4 m4 => _) h (fun r4 m4 h => ?_)
    replace h := id h
    refine w_bipush rfl (by decide) ?_
    refine w_icne rfl (w_ite h (fun h => ?_) (fun h => ?_))
    · refine w_aload_n rfl rfl ?_
      refine w_gfC (c := 359) rfl s_391 rfl rfl ?_
      refine w_iload_n rfl rfl ?_
      refine w_callV (t' := 0) [(0, r1)] [] rfl s_359 rfl rfl ?_
      refine w_C.more (Q := fun r5 m5 => _) h (fun r5 m5 h => ?_)
      replace h := id h
      refine w_iconst rfl (by decide) ?_
      refine w_iremk rfl (by decide) ?_
      refine w_ifeq rfl (w_ite h (fun h => ?_) (fun h => ?_))
      · refine w_aload_n rfl rfl ?_
        refine w_gfC (c := 359) rfl s_391 rfl rfl ?_
        refine w_iload_n rfl rfl ?_
        refine w_callV (t' := 0) [(0, r1)] [] rfl s_359 rfl rfl ?_
        refine w_C.more (Q := fun r6 m6 => _) h (fun r6 m6 h => ?_)
        replace h := id h
        refine w_istore (lv' := [some (2, 391), some (0, l1), some (0, l2), some (0, r1), some (0, r6), none, none]) rfl rfl rfl ?_
        refine w_aload_n rfl rfl ?_
        refine w_gfC (c := 359) rfl s_391 rfl rfl ?_
        refine w_iload_n rfl rfl ?_
        refine w_callV (t' := 0) [(0, r1)] [] rfl s_359 rfl rfl ?_
        refine w_C.more (Q := fun r7 m7 => _) h (fun r7 m7 h => ?_)
        replace h := id h
        refine w_istore (lv' := [some (2, 391), some (0, l1), some (0, l2), some (0, r1), some (0, r6), some (0, r7), none]) rfl rfl rfl ?_
        exact w_W.less h (w_sub [true, false, true, true, true, true, false] rfl)
      · refine w_iconst rfl (by decide) ?_
        exact w_zret rfl rfl (by decide) h
    · refine w_iconst rfl (by decide) ?_
      exact w_zret rfl rfl (by decide) h
theorem xr_se_readPairs_116 {d : Nat} {l2 l3 l4 l5 : Int} {m : w_M} {Q : Int → w_M → Prop} (h : if 0 < l5 then (if l4 < 0 then (xc_st_firstPart d l3 m (fun r1 m1 => xc_st_parts d l3 m1 (fun r2 m2 => xp_se_readPairs_190 d l2 r1 r2 m2 Q))) else (xc_st_kindOf d l4 m (fun r3 m3 => if r3 = 2 then (xc_st_oneOf d l4 m3 (fun r4 m4 => if r4 < 0 then (Q 0 m4) else (xc_st_nextOf d l4 m4 (fun r5 m5 => xp_se_readPairs_116 d l2 l3 r5 (w_32 (l5 + (-1))) m5 Q)))) else (Q 0 m3)))) else (xc_st_firstPart d l3 m (fun r6 m6 => xc_st_parts d l3 m6 (fun r7 m7 => xp_se_readPairs_190 d l2 r6 r7 m7 Q)))) : xp_se_readPairs_116 d l2 l3 l4 l5 m Q := by
  refine w_iload rfl rfl ?_
  refine w_ifle rfl (w_ite h (fun h => ?_) (fun h => ?_))
  · refine w_iload rfl rfl ?_
    refine w_iflt rfl (w_ite h (fun h => ?_) (fun h => ?_))
    · refine w_aload_n rfl rfl ?_
      refine w_gfC (c := 359) rfl s_391 rfl rfl ?_
      refine w_iload_n rfl rfl ?_
      refine w_callV (t' := 0) [(0, l3)] [] rfl s_359 rfl rfl ?_
      refine w_C.more (Q := fun r1 m1 => _) h (fun r1 m1 h => ?_)
      replace h := id h
      refine w_istore (lv' := [some (2, 391), none, some (0, l2), some (0, l3), some (0, r1), some (0, l5), none]) rfl rfl rfl ?_
      refine w_aload_n rfl rfl ?_
      refine w_gfC (c := 359) rfl s_391 rfl rfl ?_
      refine w_iload_n rfl rfl ?_
      refine w_callV (t' := 0) [(0, l3)] [] rfl s_359 rfl rfl ?_
      refine w_C.more (Q := fun r2 m2 => _) h (fun r2 m2 h => ?_)
      replace h := id h
      refine w_istore (lv' := [some (2, 391), none, some (0, l2), some (0, l3), some (0, r1), some (0, r2), none]) rfl rfl rfl ?_
      exact w_W.less h (w_sub [true, false, true, false, true, true, false] rfl)
    · refine w_aload_n rfl rfl ?_
      refine w_gfC (c := 359) rfl s_391 rfl rfl ?_
      refine w_iload rfl rfl ?_
      refine w_callV (t' := 0) [(0, l4)] [] rfl s_359 rfl rfl ?_
      refine w_C.more (Q := fun r3 m3 => _) h (fun r3 m3 h => ?_)
      replace h := id h
      refine w_iconst rfl (by decide) ?_
      refine w_icne rfl (w_ite h (fun h => ?_) (fun h => ?_))
      · refine w_aload_n rfl rfl ?_
        refine w_gfC (c := 359) rfl s_391 rfl rfl ?_
        refine w_iload rfl rfl ?_
        refine w_callV (t' := 0) [(0, l4)] [] rfl s_359 rfl rfl ?_
        refine w_C.more (Q := fun r4 m4 => _) h (fun r4 m4 h => ?_)
        replace h := id h
        refine w_ifge rfl (w_ite h (fun h => ?_) (fun h => ?_))
        · refine w_iconst rfl (by decide) ?_
          exact w_zret rfl rfl (by decide) h
        · refine w_aload_n rfl rfl ?_
          refine w_gfC (c := 359) rfl s_391 rfl rfl ?_
          refine w_iload rfl rfl ?_
          refine w_callV (t' := 0) [(0, l4)] [] rfl s_359 rfl rfl ?_
          refine w_C.more (Q := fun r5 m5 => _) h (fun r5 m5 h => ?_)
          replace h := id h
          refine w_istore (lv' := [some (2, 391), none, some (0, l2), some (0, l3), some (0, r5), some (0, l5), none]) rfl rfl rfl ?_
          refine w_iinc (lv' := [some (2, 391), none, some (0, l2), some (0, l3), some (0, r5), some (0, w_32 (l5 + (-1))), none]) rfl rfl rfl rfl ?_
          refine w_goto rfl ?_
          exact w_W.less h (w_sub [true, false, true, true, true, true, false] rfl)
      · refine w_iconst rfl (by decide) ?_
        exact w_zret rfl rfl (by decide) h
  · refine w_aload_n rfl rfl ?_
    refine w_gfC (c := 359) rfl s_391 rfl rfl ?_
    refine w_iload_n rfl rfl ?_
    refine w_callV (t' := 0) [(0, l3)] [] rfl s_359 rfl rfl ?_
    refine w_C.more (Q := fun r6 m6 => _) h (fun r6 m6 h => ?_)
    replace h := id h
    refine w_istore (lv' := [some (2, 391), none, some (0, l2), some (0, l3), some (0, r6), some (0, l5), none]) rfl rfl rfl ?_
    refine w_aload_n rfl rfl ?_
    refine w_gfC (c := 359) rfl s_391 rfl rfl ?_
    refine w_iload_n rfl rfl ?_
    refine w_callV (t' := 0) [(0, l3)] [] rfl s_359 rfl rfl ?_
    refine w_C.more (Q := fun r7 m7 => _) h (fun r7 m7 h => ?_)
    replace h := id h
    refine w_istore (lv' := [some (2, 391), none, some (0, l2), some (0, l3), some (0, r6), some (0, r7), none]) rfl rfl rfl ?_
    exact w_W.less h (w_sub [true, false, true, false, true, true, false] rfl)
theorem xr_se_readPairs_190 {d : Nat} {l2 l4 l5 : Int} {m : w_M} {Q : Int → w_M → Prop} (h : if 0 < l5 then (if l4 < 0 then (if (m 391 12) = (m 378 8) then (Q 1 m) else (Q 0 m)) else (xc_st_nextOf d l4 m (fun r1 m1 => xc_st_oneOf d l4 m1 (fun r2 m2 => xc_st_oneOf d r1 m2 (fun r3 m3 => xc_se_readPair d r2 r3 l2 m3 (fun r4 m4 => if r4 = 0 then (Q 0 m4) else (xc_st_nextOf d r1 m4 (fun r5 m5 => xp_se_readPairs_190 d l2 r5 (w_32 (l5 + (-2))) m5 Q)))))))) else (if (m 391 12) = (m 378 8) then (Q 1 m) else (Q 0 m))) : xp_se_readPairs_190 d l2 l4 l5 m Q := by
  refine w_iload rfl rfl ?_
  refine w_ifle rfl (w_ite h (fun h => ?_) (fun h => ?_))
  · refine w_iload rfl rfl ?_
    refine w_iflt rfl (w_ite h (fun h => ?_) (fun h => ?_))
    · refine w_aload_n rfl rfl ?_
      refine x_gfI rfl s_391 rfl (kk := 12) rfl rfl ?_
      refine w_aload_n rfl rfl ?_
      refine w_gfC (c := 378) rfl s_391 rfl rfl ?_
      refine x_gfI rfl s_378 rfl (kk := 8) rfl rfl ?_
      refine w_icne rfl (w_ite h (fun h => ?_) (fun h => ?_))
      · refine w_iconst rfl (by decide) ?_
        refine w_goto rfl ?_
        exact w_zret rfl rfl (by decide) h
      · refine w_iconst rfl (by decide) ?_
        exact w_zret rfl rfl (by decide) h
    · refine w_aload_n rfl rfl ?_
      refine w_gfC (c := 359) rfl s_391 rfl rfl ?_
      refine w_iload rfl rfl ?_
      refine w_callV (t' := 0) [(0, l4)] [] rfl s_359 rfl rfl ?_
      refine w_C.more (Q := fun r1 m1 => _) h (fun r1 m1 h => ?_)
      replace h := id h
      refine w_istore (lv' := [some (2, 391), none, some (0, l2), none, some (0, l4), some (0, l5), some (0, r1)]) rfl rfl rfl ?_
      refine w_aload_n rfl rfl ?_
      refine w_aload_n rfl rfl ?_
      refine w_gfC (c := 359) rfl s_391 rfl rfl ?_
      refine w_iload rfl rfl ?_
      refine w_callV (t' := 0) [(0, l4)] [(2, 391)] rfl s_359 rfl rfl ?_
      refine w_C.more (Q := fun r2 m2 => _) h (fun r2 m2 h => ?_)
      replace h := id h
      refine w_aload_n rfl rfl ?_
      refine w_gfC (c := 359) rfl s_391 rfl rfl ?_
      refine w_iload rfl rfl ?_
      refine w_callV (t' := 0) [(0, r1)] [(0, r2), (2, 391)] rfl s_359 rfl rfl ?_
      refine w_C.more (Q := fun r3 m3 => _) h (fun r3 m3 h => ?_)
      replace h := id h
      refine w_iload_n rfl rfl ?_
      refine w_callV (t' := 0) [(0, l2), (0, r3), (0, r2)] [] rfl s_391 rfl rfl ?_
      refine w_C.more (Q := fun r4 m4 => _) h (fun r4 m4 h => ?_)
      replace h := id h
      refine w_ifne rfl (w_ite h (fun h => ?_) (fun h => ?_))
      · refine w_iconst rfl (by decide) ?_
        exact w_zret rfl rfl (by decide) h
      · refine w_aload_n rfl rfl ?_
        refine w_gfC (c := 359) rfl s_391 rfl rfl ?_
        refine w_iload rfl rfl ?_
        refine w_callV (t' := 0) [(0, r1)] [] rfl s_359 rfl rfl ?_
        refine w_C.more (Q := fun r5 m5 => _) h (fun r5 m5 h => ?_)
        replace h := id h
        refine w_istore (lv' := [some (2, 391), none, some (0, l2), none, some (0, r5), some (0, l5), some (0, r1)]) rfl rfl rfl ?_
        refine w_iinc (lv' := [some (2, 391), none, some (0, l2), none, some (0, r5), some (0, w_32 (l5 + (-2))), some (0, r1)]) rfl rfl rfl rfl ?_
        refine w_goto rfl ?_
        exact w_W.less h (w_sub [true, false, true, false, true, true, false] rfl)
  · refine w_aload_n rfl rfl ?_
    refine x_gfI rfl s_391 rfl (kk := 12) rfl rfl ?_
    refine w_aload_n rfl rfl ?_
    refine w_gfC (c := 378) rfl s_391 rfl rfl ?_
    refine x_gfI rfl s_378 rfl (kk := 8) rfl rfl ?_
    refine w_icne rfl (w_ite h (fun h => ?_) (fun h => ?_))
    · refine w_iconst rfl (by decide) ?_
      refine w_goto rfl ?_
      exact w_zret rfl rfl (by decide) h
    · refine w_iconst rfl (by decide) ?_
      exact w_zret rfl rfl (by decide) h
theorem xr_se_readRows {d : Nat} {l1 l2 l3 : Int} {m : w_M} {Q : Int → w_M → Prop} (h : xc_st_kindOf d l1 m (fun r1 m1 => if r1 = 7 then (xc_ps_word d 376 28 m1 (fun r2 m2 => if r2 = 0 then (Q 0 m2) else (xc_ps_body d 376 m2 (fun r3 m3 => xc_st_wholeEntry d l1 20 m3 (fun r4 m4 => xc_ps_closes d 376 r3 r4 m4 (fun r5 m5 => if r5 = 0 then (Q 0 m5) else (xc_st_entry d l1 1 m5 (fun r6 m6 => xc_st_isName d r6 29 m6 (fun r7 m7 => if r7 = 0 then (Q 0 m7) else (xc_fi_decode d l1 l3 r3 r4 m7 (fun r8 m8 => if r8 = 0 then (xc_st_entry d l1 30 m8 (fun r9 m9 => xc_se_readWidths d r9 m9 (fun r10 m10 => if r10 = 0 then (Q 0 m10) else (xc_se_readPairs d l1 l2 m10 (fun r11 m11 => if r11 = 0 then (Q 0 m11) else (Q 1 m11)))))) else (xc_ps_fail d 376 r8 l2 m8 (fun r12 m12 => Q 0 m12))))))))))))) else (Q 0 m1))) : xc_se_readRows (d + 1) l1 l2 l3 m Q := by
  refine w_enter (q := 3) (lv := [some (2, 391), some (0, l1), some (0, l2), some (2, l3), none, none, none]) rfl rfl rfl ?_
  refine w_aload_n rfl rfl ?_
  refine w_gfC (c := 359) rfl s_391 rfl rfl ?_
  refine w_iload_n rfl rfl ?_
  refine w_callV (t' := 0) [(0, l1)] [] rfl s_359 rfl rfl ?_
  refine w_C.more (Q := fun r1 m1 => _) h (fun r1 m1 h => ?_)
  replace h := id h
  refine w_bipush rfl (by decide) ?_
  refine w_icne rfl (w_ite h (fun h => ?_) (fun h => ?_))
  · refine w_aload_n rfl rfl ?_
    refine w_gfC (c := 376) rfl s_391 rfl rfl ?_
    refine w_ldcR rfl ?_
    refine w_callV (t' := 0) [(2, 28)] [] rfl s_376 rfl rfl ?_
    refine w_C.more (Q := fun r2 m2 => _) h (fun r2 m2 h => ?_)
    replace h := id h
    refine w_ifne rfl (w_ite h (fun h => ?_) (fun h => ?_))
    · refine w_iconst rfl (by decide) ?_
      exact w_zret rfl rfl (by decide) h
    · refine w_aload_n rfl rfl ?_
      refine w_gfC (c := 376) rfl s_391 rfl rfl ?_
      refine w_callV (t' := 0) [] [] rfl s_376 rfl rfl ?_
      refine w_C.more (Q := fun r3 m3 => _) h (fun r3 m3 h => ?_)
      replace h := id h
      refine w_istore (lv' := [some (2, 391), some (0, l1), some (0, l2), some (2, l3), some (0, r3), none, none]) rfl rfl rfl ?_
      refine w_aload_n rfl rfl ?_
      refine w_gfC (c := 359) rfl s_391 rfl rfl ?_
      refine w_iload_n rfl rfl ?_
      refine w_bipush rfl (by decide) ?_
      refine w_callV (t' := 0) [(0, 20), (0, l1)] [] rfl s_359 rfl rfl ?_
      refine w_C.more (Q := fun r4 m4 => _) h (fun r4 m4 h => ?_)
      replace h := id h
      refine w_istore (lv' := [some (2, 391), some (0, l1), some (0, l2), some (2, l3), some (0, r3), some (0, r4), none]) rfl rfl rfl ?_
      refine w_aload_n rfl rfl ?_
      refine w_gfC (c := 376) rfl s_391 rfl rfl ?_
      refine w_iload rfl rfl ?_
      refine w_iload rfl rfl ?_
      refine w_callV (t' := 0) [(0, r4), (0, r3)] [] rfl s_376 rfl rfl ?_
      refine w_C.more (Q := fun r5 m5 => _) h (fun r5 m5 h => ?_)
      replace h := id h
      refine w_ifeq rfl (w_ite h (fun h => ?_) (fun h => ?_))
      · refine w_iconst rfl (by decide) ?_
        exact w_zret rfl rfl (by decide) h
      · refine w_aload_n rfl rfl ?_
        refine w_gfC (c := 359) rfl s_391 rfl rfl ?_
        refine w_aload_n rfl rfl ?_
        refine w_gfC (c := 359) rfl s_391 rfl rfl ?_
        refine w_iload_n rfl rfl ?_
        refine w_iconst rfl (by decide) ?_
        refine w_callV (t' := 0) [(0, 1), (0, l1)] [(2, 359)] rfl s_359 rfl rfl ?_
        refine w_C.more (Q := fun r6 m6 => _) h (fun r6 m6 h => ?_)
        replace h := id h
        refine w_bipush rfl (by decide) ?_
        refine w_callV (t' := 0) [(0, 29), (0, r6)] [] rfl s_359 rfl rfl ?_
        refine w_C.more (Q := fun r7 m7 => _) h (fun r7 m7 h => ?_)
        replace h := id h
        refine w_ifne rfl (w_ite h (fun h => ?_) (fun h => ?_))
        · refine w_iconst rfl (by decide) ?_
          exact w_zret rfl rfl (by decide) h
        · refine w_aload_n rfl rfl ?_
          refine w_gfC (c := 378) rfl s_391 rfl rfl ?_
          refine w_iload_n rfl rfl ?_
          refine w_aload_n rfl rfl ?_
          refine w_iload rfl rfl ?_
          refine w_iload rfl rfl ?_
          refine w_callV (t' := 0) [(0, r4), (0, r3), (2, l3), (0, l1)] [] rfl s_378 rfl rfl ?_
          refine w_C.more (Q := fun r8 m8 => _) h (fun r8 m8 h => ?_)
          replace h := id h
          refine w_istore (lv' := [some (2, 391), some (0, l1), some (0, l2), some (2, l3), some (0, r3), some (0, r4), some (0, r8)]) rfl rfl rfl ?_
          refine w_iload rfl rfl ?_
          refine w_ifeq rfl (w_ite h (fun h => ?_) (fun h => ?_))
          · refine w_aload_n rfl rfl ?_
            refine w_aload_n rfl rfl ?_
            refine w_gfC (c := 359) rfl s_391 rfl rfl ?_
            refine w_iload_n rfl rfl ?_
            refine w_bipush rfl (by decide) ?_
            refine w_callV (t' := 0) [(0, 30), (0, l1)] [(2, 391)] rfl s_359 rfl rfl ?_
            refine w_C.more (Q := fun r9 m9 => _) h (fun r9 m9 h => ?_)
            replace h := id h
            refine w_callV (t' := 0) [(0, r9)] [] rfl s_391 rfl rfl ?_
            refine w_C.more (Q := fun r10 m10 => _) h (fun r10 m10 h => ?_)
            replace h := id h
            refine w_ifeq rfl (w_ite h (fun h => ?_) (fun h => ?_))
            · refine w_iconst rfl (by decide) ?_
              exact w_zret rfl rfl (by decide) h
            · refine w_aload_n rfl rfl ?_
              refine w_iload_n rfl rfl ?_
              refine w_iload_n rfl rfl ?_
              refine w_callV (t' := 0) [(0, l2), (0, l1)] [] rfl s_391 rfl rfl ?_
              refine w_C.more (Q := fun r11 m11 => _) h (fun r11 m11 h => ?_)
              replace h := id h
              refine w_ifeq rfl (w_ite h (fun h => ?_) (fun h => ?_))
              · refine w_iconst rfl (by decide) ?_
                exact w_zret rfl rfl (by decide) h
              · refine w_iconst rfl (by decide) ?_
                refine w_goto rfl ?_
                exact w_zret rfl rfl (by decide) h
          · refine w_aload_n rfl rfl ?_
            refine w_gfC (c := 376) rfl s_391 rfl rfl ?_
            refine w_iload rfl rfl ?_
            refine w_iload_n rfl rfl ?_
            refine w_callV (t' := 0) [(0, l2), (0, r8)] [] rfl s_376 rfl rfl ?_
            refine w_C.more (Q := fun r12 m12 => _) h (fun r12 m12 h => ?_)
            replace h := id h
            refine w_pop rfl (show (0 : Nat) ≠ 1 by decide) ?_
            refine w_iconst rfl (by decide) ?_
            exact w_zret rfl rfl (by decide) h
  · refine w_iconst rfl (by decide) ?_
    exact w_zret rfl rfl (by decide) h
theorem xr_se_readTable {d : Nat} {l1 : Int} {m : w_M} {Q : Int → w_M → Prop} (h : xp_se_readTable_2 d l1 0 m Q) : xc_se_readTable (d + 1) l1 m Q := by
  refine w_enter (q := 5) (lv := [some (2, 391), some (0, l1), none, none, none, none, none]) rfl rfl rfl ?_
  refine w_iconst rfl (by decide) ?_
  refine w_istore_n (lv' := [some (2, 391), some (0, l1), some (0, 0), none, none, none, none]) rfl rfl rfl ?_
  exact w_W.less h (w_sub [true, true, true, false, false, false, false] rfl)
theorem xr_se_readTable_2 {d : Nat} {l1 l2 : Int} {m : w_M} {Q : Int → w_M → Prop} (h : if (m 376 5) < l2 then (Q 0 m) else (xc_ps_skipBlanks d 376 m (fun r1 m1 => xc_ps_rowOfDigits d 376 m1 (fun r2 m2 => if r2 < 0 then (if 0 < l2 then (xc_ps_word d 376 30 m2 (fun r3 m3 => (r3 = 0 ∨ r3 = 1) ∧ Q r3 m3)) else (xp_se_readTable_48 d l1 l2 r2 m2 Q)) else (xp_se_readTable_48 d l1 l2 r2 m2 Q))))) : xp_se_readTable_2 d l1 l2 m Q := by
  refine w_iload_n rfl rfl ?_
  refine w_aload_n rfl rfl ?_
  refine w_gfC (c := 376) rfl s_391 rfl rfl ?_
  refine x_gfI rfl s_376 rfl (kk := 5) rfl rfl ?_
  refine w_icgt rfl (w_ite h (fun h => ?_) (fun h => ?_))
  · refine w_iconst rfl (by decide) ?_
    exact w_zret rfl rfl (by decide) h
  · refine w_aload_n rfl rfl ?_
    refine w_gfC (c := 376) rfl s_391 rfl rfl ?_
    refine w_callV (t' := 3) [] [] rfl s_376 rfl rfl ?_
    refine w_C.more (Q := fun r1 m1 => _) h (fun r1 m1 h => ?_)
    replace h := id h
    refine w_aload_n rfl rfl ?_
    refine w_gfC (c := 376) rfl s_391 rfl rfl ?_
    refine w_callV (t' := 1) [] [] rfl s_376 rfl rfl ?_
    refine w_C.more (Q := fun r2 m2 => _) h (fun r2 m2 h => ?_)
    replace h := id h
    refine w_lstore_n (lv' := [some (2, 391), some (0, l1), some (0, l2), some (1, r2), none, none, none]) rfl rfl rfl ?_
    refine w_lload_n rfl rfl ?_
    refine w_lconst rfl rfl ?_
    refine w_lcge rfl rfl (w_ite h (fun h => ?_) (fun h => ?_))
    · refine w_iload_n rfl rfl ?_
      refine w_ifle rfl (w_ite h (fun h => ?_) (fun h => ?_))
      · refine w_aload_n rfl rfl ?_
        refine w_gfC (c := 376) rfl s_391 rfl rfl ?_
        refine w_ldcR rfl ?_
        refine w_callV (t' := 0) [(2, 30)] [] rfl s_376 rfl rfl ?_
        refine w_C.more (Q := fun r3 m3 => _) h (fun r3 m3 h => ?_)
        replace h := id h
        exact w_zret rfl rfl h.1 h.2
      · exact w_W.less h (w_sub [true, true, true, true, false, false, false] rfl)
    · exact w_W.less h (w_sub [true, true, true, true, false, false, false] rfl)
theorem xr_se_readTable_48 {d : Nat} {l1 l2 l3 : Int} {m : w_M} {Q : Int → w_M → Prop} (h : xc_ps_skipBlanks d 376 m (fun r1 m1 => xc_ps_rowOfDigits d 376 m1 (fun r2 m2 => if l3 < 0 then (Q 0 m2) else (if r2 < 0 then (Q 0 m2) else (if 200 < (w_64 (l3 + r2)) then (xc_ps_fail d 376 5 l1 m2 (fun r3 m3 => Q 0 m3)) else (xc_ps_at d 376 (m2 376 4) m2 (fun r4 m4 => if r4 = 32 then (xc_ps_skipLineEnd d 376 (w_up m4 376 4 (w_32 ((m4 376 4) + 1))) (fun r5 m5 => if r5 = 0 then (Q 0 m5) else (xc_se_readEntries d (w_32 l3) (w_32 r2) m5 (fun r6 m6 => if r6 = 0 then (Q 0 m6) else (xp_se_readTable_2 d l1 (w_32 (l2 + 1)) m6 Q))))) else (xc_ps_skipLineEnd d 376 m4 (fun r7 m7 => if r7 = 0 then (Q 0 m7) else (xc_se_readEntries d (w_32 l3) (w_32 r2) m7 (fun r8 m8 => if r8 = 0 then (Q 0 m8) else (xp_se_readTable_2 d l1 (w_32 (l2 + 1)) m8 Q)))))))))))) : xp_se_readTable_48 d l1 l2 l3 m Q := by
  refine w_aload_n rfl rfl ?_
  refine w_gfC (c := 376) rfl s_391 rfl rfl ?_
  refine w_callV (t' := 3) [] [] rfl s_376 rfl rfl ?_
  refine w_C.more (Q := fun r1 m1 => _) h (fun r1 m1 h => ?_)
  replace h := id h
  refine w_aload_n rfl rfl ?_
  refine w_gfC (c := 376) rfl s_391 rfl rfl ?_
  refine w_callV (t' := 1) [] [] rfl s_376 rfl rfl ?_
  refine w_C.more (Q := fun r2 m2 => _) h (fun r2 m2 h => ?_)
  replace h := id h
  refine w_lstore (lv' := [some (2, 391), some (0, l1), some (0, l2), some (1, l3), none, some (1, r2), none]) rfl rfl rfl ?_
  refine w_lload_n rfl rfl ?_
  refine w_lconst rfl rfl ?_
  refine w_lclt rfl rfl (w_ite h (fun h => ?_) (fun h => ?_))
  · refine w_iconst rfl (by decide) ?_
    exact w_zret rfl rfl (by decide) h
  · refine w_lload rfl rfl ?_
    refine w_lconst rfl rfl ?_
    refine w_lcge rfl rfl (w_ite h (fun h => ?_) (fun h => ?_))
    · refine w_iconst rfl (by decide) ?_
      exact w_zret rfl rfl (by decide) h
    · refine w_lload_n rfl rfl ?_
      refine w_lload rfl rfl ?_
      refine w_ladd' rfl ?_
      refine w_ldc2 (a := 200) rfl (by decide +kernel) (by decide) ?_
      refine w_lcle rfl rfl (w_ite h (fun h => ?_) (fun h => ?_))
      · refine w_aload_n rfl rfl ?_
        refine w_gfC (c := 376) rfl s_391 rfl rfl ?_
        refine w_iconst rfl (by decide) ?_
        refine w_iload_n rfl rfl ?_
        refine w_callV (t' := 0) [(0, l1), (0, 5)] [] rfl s_376 rfl rfl ?_
        refine w_C.more (Q := fun r3 m3 => _) h (fun r3 m3 h => ?_)
        replace h := id h
        refine w_pop rfl (show (0 : Nat) ≠ 1 by decide) ?_
        refine w_iconst rfl (by decide) ?_
        exact w_zret rfl rfl (by decide) h
      · refine w_aload_n rfl rfl ?_
        refine w_gfC (c := 376) rfl s_391 rfl rfl ?_
        refine w_aload_n rfl rfl ?_
        refine w_gfC (c := 376) rfl s_391 rfl rfl ?_
        refine x_gfI rfl s_376 rfl (kk := 4) rfl rfl ?_
        refine w_callV (t' := 0) [(0, m2 376 4)] [] rfl s_376 rfl rfl ?_
        refine w_C.more (Q := fun r4 m4 => _) h (fun r4 m4 h => ?_)
        replace h := id h
        refine w_bipush rfl (by decide) ?_
        refine w_icne rfl (w_ite h (fun h => ?_) (fun h => ?_))
        · refine w_aload_n rfl rfl ?_
          refine w_gfC (c := 376) rfl s_391 rfl rfl ?_
          refine w_dup rfl (show (2 : Nat) ≠ 1 by decide) ?_
          refine x_gfI rfl s_376 rfl (kk := 4) rfl rfl ?_
          refine w_iconst rfl (by decide) ?_
          refine w_iadd rfl ?_
          refine w_pfI rfl s_376 rfl (w_EC (by decide)) rfl (kk := 4) rfl ?_
          refine w_aload_n rfl rfl ?_
          refine w_gfC (c := 376) rfl s_391 rfl rfl ?_
          refine w_callV (t' := 0) [] [] rfl s_376 rfl rfl ?_
          refine w_C.more (Q := fun r5 m5 => _) h (fun r5 m5 h => ?_)
          replace h := id h
          refine w_ifeq rfl (w_ite h (fun h => ?_) (fun h => ?_))
          · refine w_iconst rfl (by decide) ?_
            exact w_zret rfl rfl (by decide) h
          · refine w_aload_n rfl rfl ?_
            refine w_lload_n rfl rfl ?_
            refine w_l2i rfl ?_
            refine w_lload rfl rfl ?_
            refine w_l2i rfl ?_
            refine w_callV (t' := 0) [(0, w_32 r2), (0, w_32 l3)] [] rfl s_391 rfl rfl ?_
            refine w_C.more (Q := fun r6 m6 => _) h (fun r6 m6 h => ?_)
            replace h := id h
            refine w_ifne rfl (w_ite h (fun h => ?_) (fun h => ?_))
            · refine w_iconst rfl (by decide) ?_
              exact w_zret rfl rfl (by decide) h
            · refine w_iinc (lv' := [some (2, 391), some (0, l1), some (0, w_32 (l2 + 1)), some (1, l3), none, some (1, r2), none]) rfl rfl rfl rfl ?_
              refine w_goto rfl ?_
              exact w_W.less h (w_sub [true, true, true, false, false, false, false] rfl)
        · refine w_aload_n rfl rfl ?_
          refine w_gfC (c := 376) rfl s_391 rfl rfl ?_
          refine w_callV (t' := 0) [] [] rfl s_376 rfl rfl ?_
          refine w_C.more (Q := fun r7 m7 => _) h (fun r7 m7 h => ?_)
          replace h := id h
          refine w_ifeq rfl (w_ite h (fun h => ?_) (fun h => ?_))
          · refine w_iconst rfl (by decide) ?_
            exact w_zret rfl rfl (by decide) h
          · refine w_aload_n rfl rfl ?_
            refine w_lload_n rfl rfl ?_
            refine w_l2i rfl ?_
            refine w_lload rfl rfl ?_
            refine w_l2i rfl ?_
            refine w_callV (t' := 0) [(0, w_32 r2), (0, w_32 l3)] [] rfl s_391 rfl rfl ?_
            refine w_C.more (Q := fun r8 m8 => _) h (fun r8 m8 h => ?_)
            replace h := id h
            refine w_ifne rfl (w_ite h (fun h => ?_) (fun h => ?_))
            · refine w_iconst rfl (by decide) ?_
              exact w_zret rfl rfl (by decide) h
            · refine w_iinc (lv' := [some (2, 391), some (0, l1), some (0, w_32 (l2 + 1)), some (1, l3), none, some (1, r2), none]) rfl rfl rfl rfl ?_
              refine w_goto rfl ?_
              exact w_W.less h (w_sub [true, true, true, false, false, false, false] rfl)
theorem xr_se_readTrailer {d : Nat} {l1 l2 : Int} {m : w_M} {Q : Int → w_M → Prop} (h : xc_st_entry d l1 34 m (fun r1 m1 => if r1 < 0 then (xc_st_entry d l1 35 m1 (fun r2 m2 => if r2 < 0 then (xc_st_wholeEntry d l1 32 m2 (fun r3 m3 => if 200 < r3 then (xc_ps_fail d 376 5 l2 m3 (fun r4 m4 => Q r4 m4)) else (xc_st_wholeEntry d l1 33 m3 (fun r5 m5 => if r3 < 1 then (xc_ps_fail d 376 3 l2 m5 (fun r6 m6 => Q r6 m6)) else (if (m5 391 11) < r3 then (if r5 < 0 then (xc_st_entry d l1 33 m5 (fun r7 m7 => if r7 < 0 then (Q r5 m7) else (xc_ps_fail d 376 3 l2 m7 (fun r8 m8 => Q r8 m8)))) else (Q r5 m5)) else (xc_ps_fail d 376 3 l2 m5 (fun r9 m9 => Q r9 m9))))))) else (xc_ps_fail d 376 9 l2 m2 (fun r10 m10 => Q r10 m10)))) else (xc_ps_fail d 376 9 l2 m1 (fun r11 m11 => Q r11 m11)))) : xc_se_readTrailer (d + 1) l1 l2 m Q := by
  refine w_enter (q := 2) (lv := [some (2, 391), some (0, l1), some (0, l2), none, none]) rfl rfl rfl ?_
  refine w_aload_n rfl rfl ?_
  refine w_gfC (c := 359) rfl s_391 rfl rfl ?_
  refine w_iload_n rfl rfl ?_
  refine w_bipush rfl (by decide) ?_
  refine w_callV (t' := 0) [(0, 34), (0, l1)] [] rfl s_359 rfl rfl ?_
  refine w_C.more (Q := fun r1 m1 => _) h (fun r1 m1 h => ?_)
  replace h := id h
  refine w_ifge rfl (w_ite h (fun h => ?_) (fun h => ?_))
  · refine w_aload_n rfl rfl ?_
    refine w_gfC (c := 359) rfl s_391 rfl rfl ?_
    refine w_iload_n rfl rfl ?_
    refine w_bipush rfl (by decide) ?_
    refine w_callV (t' := 0) [(0, 35), (0, l1)] [] rfl s_359 rfl rfl ?_
    refine w_C.more (Q := fun r2 m2 => _) h (fun r2 m2 h => ?_)
    replace h := id h
    refine w_iflt rfl (w_ite h (fun h => ?_) (fun h => ?_))
    · refine w_aload_n rfl rfl ?_
      refine w_gfC (c := 359) rfl s_391 rfl rfl ?_
      refine w_iload_n rfl rfl ?_
      refine w_bipush rfl (by decide) ?_
      refine w_callV (t' := 0) [(0, 32), (0, l1)] [] rfl s_359 rfl rfl ?_
      refine w_C.more (Q := fun r3 m3 => _) h (fun r3 m3 h => ?_)
      replace h := id h
      refine w_istore_n (lv' := [some (2, 391), some (0, l1), some (0, l2), some (0, r3), none]) rfl rfl rfl ?_
      refine w_iload_n rfl rfl ?_
      refine w_sipush rfl (by decide) ?_
      refine w_icle rfl (w_ite h (fun h => ?_) (fun h => ?_))
      · refine w_aload_n rfl rfl ?_
        refine w_gfC (c := 376) rfl s_391 rfl rfl ?_
        refine w_iconst rfl (by decide) ?_
        refine w_iload_n rfl rfl ?_
        refine w_callV (t' := 0) [(0, l2), (0, 5)] [] rfl s_376 rfl rfl ?_
        refine w_C.more (Q := fun r4 m4 => _) h (fun r4 m4 h => ?_)
        replace h := id h
        exact w_iret rfl rfl h
      · refine w_aload_n rfl rfl ?_
        refine w_gfC (c := 359) rfl s_391 rfl rfl ?_
        refine w_iload_n rfl rfl ?_
        refine w_bipush rfl (by decide) ?_
        refine w_callV (t' := 0) [(0, 33), (0, l1)] [] rfl s_359 rfl rfl ?_
        refine w_C.more (Q := fun r5 m5 => _) h (fun r5 m5 h => ?_)
        replace h := id h
        refine w_istore (lv' := [some (2, 391), some (0, l1), some (0, l2), some (0, r3), some (0, r5)]) rfl rfl rfl ?_
        refine w_iload_n rfl rfl ?_
        refine w_iconst rfl (by decide) ?_
        refine w_iclt rfl (w_ite h (fun h => ?_) (fun h => ?_))
        · refine w_aload_n rfl rfl ?_
          refine w_gfC (c := 376) rfl s_391 rfl rfl ?_
          refine w_iconst rfl (by decide) ?_
          refine w_iload_n rfl rfl ?_
          refine w_callV (t' := 0) [(0, l2), (0, 3)] [] rfl s_376 rfl rfl ?_
          refine w_C.more (Q := fun r6 m6 => _) h (fun r6 m6 h => ?_)
          replace h := id h
          exact w_iret rfl rfl h
        · refine w_aload_n rfl rfl ?_
          refine x_gfI rfl s_391 rfl (kk := 11) rfl rfl ?_
          refine w_iload_n rfl rfl ?_
          refine w_icge rfl (w_ite h (fun h => ?_) (fun h => ?_))
          · refine w_iload rfl rfl ?_
            refine w_ifge rfl (w_ite h (fun h => ?_) (fun h => ?_))
            · refine w_aload_n rfl rfl ?_
              refine w_gfC (c := 359) rfl s_391 rfl rfl ?_
              refine w_iload_n rfl rfl ?_
              refine w_bipush rfl (by decide) ?_
              refine w_callV (t' := 0) [(0, 33), (0, l1)] [] rfl s_359 rfl rfl ?_
              refine w_C.more (Q := fun r7 m7 => _) h (fun r7 m7 h => ?_)
              replace h := id h
              refine w_iflt rfl (w_ite h (fun h => ?_) (fun h => ?_))
              · refine w_iload rfl rfl ?_
                exact w_iret rfl rfl h
              · refine w_aload_n rfl rfl ?_
                refine w_gfC (c := 376) rfl s_391 rfl rfl ?_
                refine w_iconst rfl (by decide) ?_
                refine w_iload_n rfl rfl ?_
                refine w_callV (t' := 0) [(0, l2), (0, 3)] [] rfl s_376 rfl rfl ?_
                refine w_C.more (Q := fun r8 m8 => _) h (fun r8 m8 h => ?_)
                replace h := id h
                exact w_iret rfl rfl h
            · refine w_iload rfl rfl ?_
              exact w_iret rfl rfl h
          · refine w_aload_n rfl rfl ?_
            refine w_gfC (c := 376) rfl s_391 rfl rfl ?_
            refine w_iconst rfl (by decide) ?_
            refine w_iload_n rfl rfl ?_
            refine w_callV (t' := 0) [(0, l2), (0, 3)] [] rfl s_376 rfl rfl ?_
            refine w_C.more (Q := fun r9 m9 => _) h (fun r9 m9 h => ?_)
            replace h := id h
            exact w_iret rfl rfl h
    · refine w_aload_n rfl rfl ?_
      refine w_gfC (c := 376) rfl s_391 rfl rfl ?_
      refine w_bipush rfl (by decide) ?_
      refine w_iload_n rfl rfl ?_
      refine w_callV (t' := 0) [(0, l2), (0, 9)] [] rfl s_376 rfl rfl ?_
      refine w_C.more (Q := fun r10 m10 => _) h (fun r10 m10 h => ?_)
      replace h := id h
      exact w_iret rfl rfl h
  · refine w_aload_n rfl rfl ?_
    refine w_gfC (c := 376) rfl s_391 rfl rfl ?_
    refine w_bipush rfl (by decide) ?_
    refine w_iload_n rfl rfl ?_
    refine w_callV (t' := 0) [(0, l2), (0, 9)] [] rfl s_376 rfl rfl ?_
    refine w_C.more (Q := fun r11 m11 => _) h (fun r11 m11 h => ?_)
    replace h := id h
    exact w_iret rfl rfl h
theorem xr_se_readWidths {d : Nat} {l1 : Int} {m : w_M} {Q : Int → w_M → Prop} (h : xc_st_kindOf d l1 m (fun r1 m1 => if r1 = 6 then (xc_st_parts d l1 m1 (fun r2 m2 => if r2 = 3 then (xp_se_readWidths_33 d l1 0 m2 Q) else (Q 0 m2))) else (Q 0 m1))) : xc_se_readWidths (d + 1) l1 m Q := by
  refine w_enter (q := 2) (lv := [some (2, 391), some (0, l1), none, none]) rfl rfl rfl ?_
  refine w_aload_n rfl rfl ?_
  refine w_gfC (c := 359) rfl s_391 rfl rfl ?_
  refine w_iload_n rfl rfl ?_
  refine w_callV (t' := 0) [(0, l1)] [] rfl s_359 rfl rfl ?_
  refine w_C.more (Q := fun r1 m1 => _) h (fun r1 m1 h => ?_)
  replace h := id h
  refine w_bipush rfl (by decide) ?_
  refine w_icne rfl (w_ite h (fun h => ?_) (fun h => ?_))
  · refine w_aload_n rfl rfl ?_
    refine w_gfC (c := 359) rfl s_391 rfl rfl ?_
    refine w_iload_n rfl rfl ?_
    refine w_callV (t' := 0) [(0, l1)] [] rfl s_359 rfl rfl ?_
    refine w_C.more (Q := fun r2 m2 => _) h (fun r2 m2 h => ?_)
    replace h := id h
    refine w_aload_n rfl rfl ?_
    refine w_gfC (c := 393) rfl s_391 rfl rfl ?_
    refine w_len rfl s_393 (by decide) (n := 3) rfl (by decide) ?_
    refine w_iceq rfl (w_ite h (fun h => ?_) (fun h => ?_))
    · refine w_iconst rfl (by decide) ?_
      refine w_istore_n (lv' := [some (2, 391), some (0, l1), some (0, 0), none]) rfl rfl rfl ?_
      exact w_W.less h (w_sub [true, true, true, false] rfl)
    · refine w_iconst rfl (by decide) ?_
      exact w_zret rfl rfl (by decide) h
  · refine w_iconst rfl (by decide) ?_
    exact w_zret rfl rfl (by decide) h
theorem xr_se_readWidths_33 {d : Nat} {l1 l2 : Int} {m : w_M} {Q : Int → w_M → Prop} (h : if l2 < 3 then (xc_st_part d l1 l2 m (fun r1 m1 => xc_st_kindOf d r1 m1 (fun r2 m2 => if r2 = 2 then (xc_st_oneOf d r1 m2 (fun r3 m3 => if r3 < 0 then (Q 0 m3) else (xc_st_oneOf d r1 m3 (fun r4 m4 => if 4 < r4 then (Q 0 m4) else (xc_st_oneOf d r1 m4 (fun r5 m5 => ((0 : Int) ≤ l2 ∧ l2 < 3) ∧ (xp_se_readWidths_33 d l1 (w_32 (l2 + 1)) (w_up m5 393 l2 r5) Q))))))) else (Q 0 m2)))) else (Q 1 m)) : xp_se_readWidths_33 d l1 l2 m Q := by
  refine w_iload_n rfl rfl ?_
  refine w_aload_n rfl rfl ?_
  refine w_gfC (c := 393) rfl s_391 rfl rfl ?_
  refine w_len rfl s_393 (by decide) (n := 3) rfl (by decide) ?_
  refine w_icge rfl (w_ite h (fun h => ?_) (fun h => ?_))
  · refine w_aload_n rfl rfl ?_
    refine w_gfC (c := 359) rfl s_391 rfl rfl ?_
    refine w_iload_n rfl rfl ?_
    refine w_iload_n rfl rfl ?_
    refine w_callV (t' := 0) [(0, l2), (0, l1)] [] rfl s_359 rfl rfl ?_
    refine w_C.more (Q := fun r1 m1 => _) h (fun r1 m1 h => ?_)
    replace h := id h
    refine w_istore_n (lv' := [some (2, 391), some (0, l1), some (0, l2), some (0, r1)]) rfl rfl rfl ?_
    refine w_aload_n rfl rfl ?_
    refine w_gfC (c := 359) rfl s_391 rfl rfl ?_
    refine w_iload_n rfl rfl ?_
    refine w_callV (t' := 0) [(0, r1)] [] rfl s_359 rfl rfl ?_
    refine w_C.more (Q := fun r2 m2 => _) h (fun r2 m2 h => ?_)
    replace h := id h
    refine w_iconst rfl (by decide) ?_
    refine w_icne rfl (w_ite h (fun h => ?_) (fun h => ?_))
    · refine w_aload_n rfl rfl ?_
      refine w_gfC (c := 359) rfl s_391 rfl rfl ?_
      refine w_iload_n rfl rfl ?_
      refine w_callV (t' := 0) [(0, r1)] [] rfl s_359 rfl rfl ?_
      refine w_C.more (Q := fun r3 m3 => _) h (fun r3 m3 h => ?_)
      replace h := id h
      refine w_iflt rfl (w_ite h (fun h => ?_) (fun h => ?_))
      · refine w_iconst rfl (by decide) ?_
        exact w_zret rfl rfl (by decide) h
      · refine w_aload_n rfl rfl ?_
        refine w_gfC (c := 359) rfl s_391 rfl rfl ?_
        refine w_iload_n rfl rfl ?_
        refine w_callV (t' := 0) [(0, r1)] [] rfl s_359 rfl rfl ?_
        refine w_C.more (Q := fun r4 m4 => _) h (fun r4 m4 h => ?_)
        replace h := id h
        refine w_iconst rfl (by decide) ?_
        refine w_icle rfl (w_ite h (fun h => ?_) (fun h => ?_))
        · refine w_iconst rfl (by decide) ?_
          exact w_zret rfl rfl (by decide) h
        · refine w_aload_n rfl rfl ?_
          refine w_gfC (c := 393) rfl s_391 rfl rfl ?_
          refine w_iload_n rfl rfl ?_
          refine w_aload_n rfl rfl ?_
          refine w_gfC (c := 359) rfl s_391 rfl rfl ?_
          refine w_iload_n rfl rfl ?_
          refine w_callV (t' := 0) [(0, r1)] [(0, l2), (2, 393)] rfl s_359 rfl rfl ?_
          refine w_C.more (Q := fun r5 m5 => _) h (fun r5 m5 h => ?_)
          replace h := id h
          refine w_iast rfl s_393 (w_EC (by decide)) (n := 3) rfl h.1 ?_
          replace h := h.2
          refine w_iinc (lv' := [some (2, 391), some (0, l1), some (0, w_32 (l2 + 1)), some (0, r1)]) rfl rfl rfl rfl ?_
          refine w_goto rfl ?_
          exact w_W.less h (w_sub [true, true, true, false] rfl)
    · refine w_iconst rfl (by decide) ?_
      exact w_zret rfl rfl (by decide) h
  · refine w_iconst rfl (by decide) ?_
    exact w_zret rfl rfl (by decide) h
