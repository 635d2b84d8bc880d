/-! ===== regions (printed by program): in_.*|fi_.* ===== -/
set_option maxRecDepth 100000
theorem xr_fi_areRight {d : Nat} {l1 l2 : Int} {m : w_M} {Q : Int → w_M → Prop} (h : xc_st_kindOf d l1 m (fun r1 m1 => if r1 = 7 then (xc_fi_wholeOr d l1 25 1 m1 (fun r2 m2 => if l2 = 0 then (Q 1 m2) else (if r2 = 1 then (Q 1 m2) else (xc_fi_wholeOr d l1 26 1 m2 (fun r3 m3 => if r2 < 10 then (Q 0 m3) else (if 15 < r2 then (Q 0 m3) else (if r3 < 1 then (Q 0 m3) else (if 200 < r3 then (Q 0 m3) else (xc_fi_wholeOr d l1 27 1 m3 (fun r4 m4 => if r4 = 1 then (xc_fi_wholeOr d l1 28 8 m4 (fun r5 m5 => if r5 = 8 then (Q 1 m5) else (Q 0 m5))) else (Q 0 m4))))))))))) else (if r1 = 0 then (Q 1 m1) else (Q 0 m1)))) : xc_fi_areRight (d + 1) l1 l2 m Q := by
  refine w_enter (q := 3) (lv := [some (2, 378), some (0, l1), some (0, l2), none, none, none]) rfl rfl rfl ?_
  refine w_aload_n rfl rfl ?_
  refine w_gfC (c := 359) rfl s_378 rfl rfl ?_
  refine w_iload_n rfl rfl ?_
  refine w_callV (t' := 0) [(0, l1)] [] rfl s_359 rfl rfl ?_
  refine w_C.more (Q := fun r1 m1 => _) h (fun r1 m1 h => ?_)
  replace h := id h
  refine w_istore_n (lv' := [some (2, 378), some (0, l1), some (0, l2), some (0, r1), none, none]) rfl rfl rfl ?_
  refine w_iload_n rfl rfl ?_
  refine w_bipush rfl (by decide) ?_
  refine w_iceq rfl (w_ite h (fun h => ?_) (fun h => ?_))
  · refine w_aload_n rfl rfl ?_
    refine w_iload_n rfl rfl ?_
    refine w_bipush rfl (by decide) ?_
    refine w_iconst rfl (by decide) ?_
    refine w_callV (t' := 0) [(0, 1), (0, 25), (0, l1)] [] rfl s_378 rfl rfl ?_
    refine w_C.more (Q := fun r2 m2 => _) h (fun r2 m2 h => ?_)
    replace h := id h
    refine w_istore (lv' := [some (2, 378), some (0, l1), some (0, l2), some (0, r1), some (0, r2), none]) rfl rfl rfl ?_
    refine w_iload_n rfl rfl ?_
    refine w_ifeq rfl (w_ite h (fun h => ?_) (fun h => ?_))
    · refine w_iconst rfl (by decide) ?_
      exact w_zret rfl rfl (by decide) h
    · refine w_iload rfl rfl ?_
      refine w_iconst rfl (by decide) ?_
      refine w_icne rfl (w_ite h (fun h => ?_) (fun h => ?_))
      · refine w_iconst rfl (by decide) ?_
        exact w_zret rfl rfl (by decide) h
      · refine w_aload_n rfl rfl ?_
        refine w_iload_n rfl rfl ?_
        refine w_bipush rfl (by decide) ?_
        refine w_iconst rfl (by decide) ?_
        refine w_callV (t' := 0) [(0, 1), (0, 26), (0, l1)] [] rfl s_378 rfl rfl ?_
        refine w_C.more (Q := fun r3 m3 => _) h (fun r3 m3 h => ?_)
        replace h := id h
        refine w_istore (lv' := [some (2, 378), some (0, l1), some (0, l2), some (0, r1), some (0, r2), some (0, r3)]) rfl rfl rfl ?_
        refine w_iload rfl rfl ?_
        refine w_bipush rfl (by decide) ?_
        refine w_iclt rfl (w_ite h (fun h => ?_) (fun h => ?_))
        · refine w_iconst rfl (by decide) ?_
          exact w_zret rfl rfl (by decide) h
        · refine w_iload rfl rfl ?_
          refine w_bipush rfl (by decide) ?_
          refine w_icgt rfl (w_ite h (fun h => ?_) (fun h => ?_))
          · refine w_iconst rfl (by decide) ?_
            exact w_zret rfl rfl (by decide) h
          · refine w_iload rfl rfl ?_
            refine w_iconst rfl (by decide) ?_
            refine w_iclt rfl (w_ite h (fun h => ?_) (fun h => ?_))
            · refine w_iconst rfl (by decide) ?_
              exact w_zret rfl rfl (by decide) h
            · refine w_iload rfl rfl ?_
              refine w_sipush rfl (by decide) ?_
              refine w_icgt rfl (w_ite h (fun h => ?_) (fun h => ?_))
              · refine w_iconst rfl (by decide) ?_
                exact w_zret rfl rfl (by decide) h
              · refine w_aload_n rfl rfl ?_
                refine w_iload_n rfl rfl ?_
                refine w_bipush rfl (by decide) ?_
                refine w_iconst rfl (by decide) ?_
                refine w_callV (t' := 0) [(0, 1), (0, 27), (0, l1)] [] rfl s_378 rfl rfl ?_
                refine w_C.more (Q := fun r4 m4 => _) h (fun r4 m4 h => ?_)
                replace h := id h
                refine w_iconst rfl (by decide) ?_
                refine w_icne rfl (w_ite h (fun h => ?_) (fun h => ?_))
                · refine w_aload_n rfl rfl ?_
                  refine w_iload_n rfl rfl ?_
                  refine w_bipush rfl (by decide) ?_
                  refine w_bipush rfl (by decide) ?_
                  refine w_callV (t' := 0) [(0, 8), (0, 28), (0, l1)] [] rfl s_378 rfl rfl ?_
                  refine w_C.more (Q := fun r5 m5 => _) h (fun r5 m5 h => ?_)
                  replace h := id h
                  refine w_bipush rfl (by decide) ?_
                  refine w_icne rfl (w_ite h (fun h => ?_) (fun h => ?_))
                  · refine w_iconst rfl (by decide) ?_
                    refine w_goto rfl ?_
                    exact w_zret rfl rfl (by decide) h
                  · refine w_iconst rfl (by decide) ?_
                    exact w_zret rfl rfl (by decide) h
                · refine w_iconst rfl (by decide) ?_
                  exact w_zret rfl rfl (by decide) h
  · refine w_iload_n rfl rfl ?_
    refine w_ifne rfl (w_ite h (fun h => ?_) (fun h => ?_))
    · refine w_iconst rfl (by decide) ?_
      refine w_goto rfl ?_
      exact w_zret rfl rfl (by decide) h
    · refine w_iconst rfl (by decide) ?_
      exact w_zret rfl rfl (by decide) h
theorem xr_fi_columns {d : Nat} {l1 : Int} {m : w_M} {Q : Int → w_M → Prop} (h : xc_fi_wholeOr d l1 25 1 m (fun r1 m1 => if r1 < 10 then (Q 0 m1) else (xc_fi_wholeOr d l1 26 1 m1 (fun r2 m2 => Q r2 m2)))) : xc_fi_columns (d + 1) l1 m Q := by
  refine w_enter (q := 0) (lv := [some (2, 378), some (0, l1)]) rfl rfl rfl ?_
  refine w_aload_n rfl rfl ?_
  refine w_iload_n rfl rfl ?_
  refine w_bipush rfl (by decide) ?_
  refine w_iconst rfl (by decide) ?_
  refine w_callV (t' := 0) [(0, 1), (0, 25), (0, l1)] [] rfl s_378 rfl rfl ?_
  refine w_C.more (Q := fun r1 m1 => _) h (fun r1 m1 h => ?_)
  replace h := id h
  refine w_bipush rfl (by decide) ?_
  refine w_iclt rfl (w_ite h (fun h => ?_) (fun h => ?_))
  · refine w_iconst rfl (by decide) ?_
    exact w_iret rfl rfl h
  · refine w_aload_n rfl rfl ?_
    refine w_iload_n rfl rfl ?_
    refine w_bipush rfl (by decide) ?_
    refine w_iconst rfl (by decide) ?_
    refine w_callV (t' := 0) [(0, 1), (0, 26), (0, l1)] [] rfl s_378 rfl rfl ?_
    refine w_C.more (Q := fun r2 m2 => _) h (fun r2 m2 h => ?_)
    replace h := id h
    refine w_goto rfl ?_
    exact w_iret rfl rfl h
theorem xr_fi_decode {d : Nat} {l1 l2 l3 l4 : Int} {m : w_M} {Q : Int → w_M → Prop} (h : xc_fi_readNames d l1 (w_up (w_up (w_up m 378 6 0) 378 8 0) 378 7 387) (fun r1 m1 => if r1 = 0 then (xp_fi_decode_44 d l2 l3 l4 0 0 m1 Q) else (xc_fi_readParms d l1 m1 (fun r2 m2 => if r2 = 0 then (xp_fi_decode_44 d l2 l3 l4 0 0 m2 Q) else (xp_fi_decode_44 d l2 l3 l4 1 0 m2 Q))))) : xc_fi_decode (d + 1) l1 l2 l3 l4 m Q := by
  refine w_enter (q := 6) (lv := [some (2, 378), some (0, l1), some (2, l2), some (0, l3), some (0, l4), none, none, none, none, none, none]) rfl rfl rfl ?_
  refine w_aload_n rfl rfl ?_
  refine w_iconst rfl (by decide) ?_
  refine w_pfI rfl s_378 rfl (w_EC (by decide)) rfl (kk := 6) rfl ?_
  refine w_aload_n rfl rfl ?_
  refine w_iconst rfl (by decide) ?_
  refine w_pfI rfl s_378 rfl (w_EC (by decide)) rfl (kk := 8) rfl ?_
  refine w_aload_n rfl rfl ?_
  refine w_aload_n rfl rfl ?_
  refine w_gfC (c := 387) rfl s_378 rfl rfl ?_
  refine w_pfR rfl s_378 rfl (w_EC (by decide)) rfl (fun _ => rfl) (kk := 7) rfl ?_
  refine w_aload_n rfl rfl ?_
  refine w_iload_n rfl rfl ?_
  refine w_callV (t' := 0) [(0, l1)] [] rfl s_378 rfl rfl ?_
  refine w_C.more (Q := fun r1 m1 => _) h (fun r1 m1 h => ?_)
  replace h := id h
  refine w_ifeq rfl (w_ite h (fun h => ?_) (fun h => ?_))
  · refine w_iconst rfl (by decide) ?_
    refine w_istore (lv' := [some (2, 378), some (0, l1), some (2, l2), some (0, l3), some (0, l4), some (0, 0), none, none, none, none, none]) rfl rfl rfl ?_
    refine w_iconst rfl (by decide) ?_
    refine w_istore (lv' := [some (2, 378), some (0, l1), some (2, l2), some (0, l3), some (0, l4), some (0, 0), some (0, 0), none, none, none, none]) rfl rfl rfl ?_
    exact w_W.less h (w_sub [true, false, true, true, true, true, true, false, false, false, false] rfl)
  · refine w_aload_n rfl rfl ?_
    refine w_iload_n rfl rfl ?_
    refine w_callV (t' := 0) [(0, l1)] [] rfl s_378 rfl rfl ?_
    refine w_C.more (Q := fun r2 m2 => _) h (fun r2 m2 h => ?_)
    replace h := id h
    refine w_ifeq rfl (w_ite h (fun h => ?_) (fun h => ?_))
    · refine w_iconst rfl (by decide) ?_
      refine w_istore (lv' := [some (2, 378), some (0, l1), some (2, l2), some (0, l3), some (0, l4), some (0, 0), none, none, none, none, none]) rfl rfl rfl ?_
      refine w_iconst rfl (by decide) ?_
      refine w_istore (lv' := [some (2, 378), some (0, l1), some (2, l2), some (0, l3), some (0, l4), some (0, 0), some (0, 0), none, none, none, none]) rfl rfl rfl ?_
      exact w_W.less h (w_sub [true, false, true, true, true, true, true, false, false, false, false] rfl)
    · refine w_iconst rfl (by decide) ?_
      refine w_goto rfl ?_
      refine w_istore (lv' := [some (2, 378), some (0, l1), some (2, l2), some (0, l3), some (0, l4), some (0, 1), none, none, none, none, none]) rfl rfl rfl ?_
      refine w_iconst rfl (by decide) ?_
      refine w_istore (lv' := [some (2, 378), some (0, l1), some (2, l2), some (0, l3), some (0, l4), some (0, 1), some (0, 0), none, none, none, none]) rfl rfl rfl ?_
      exact w_W.less h (w_sub [true, false, true, true, true, true, true, false, false, false, false] rfl)
theorem xr_fi_decode_44 {d : Nat} {l2 l3 l4 l5 l6 : Int} {m : w_M} {Q : Int → w_M → Prop} (h : if l6 < (m 378 6) then (if l5 = 0 then (xp_fi_decode_84 d l2 l3 l4 l5 m Q) else (((0 : Int) ≤ l6 ∧ l6 < 3) ∧ (((0 : Int) ≤ l6 ∧ l6 < 3) ∧ (xc_fi_areRight d (m 390 l6) (m 389 l6) m (fun r1 m1 => xp_fi_decode_44 d l2 l3 l4 r1 (w_32 (l6 + 1)) m1 Q))))) else (xp_fi_decode_84 d l2 l3 l4 l5 m Q)) : xp_fi_decode_44 d l2 l3 l4 l5 l6 m Q := by
  refine w_iload rfl rfl ?_
  refine w_aload_n rfl rfl ?_
  refine x_gfI rfl s_378 rfl (kk := 6) rfl rfl ?_
  refine w_icge rfl (w_ite h (fun h => ?_) (fun h => ?_))
  · refine w_iload rfl rfl ?_
    refine w_ifeq rfl (w_ite h (fun h => ?_) (fun h => ?_))
    · exact w_W.less h (w_sub [true, false, true, true, true, true, false, false, false, false, false] rfl)
    · refine w_aload_n rfl rfl ?_
      refine w_aload_n rfl rfl ?_
      refine w_gfC (c := 390) rfl s_378 rfl rfl ?_
      refine w_iload rfl rfl ?_
      refine w_iald rfl s_390 (n := 3) rfl h.1 ?_
      replace h := h.2
      refine w_aload_n rfl rfl ?_
      refine w_gfC (c := 389) rfl s_378 rfl rfl ?_
      refine w_iload rfl rfl ?_
      refine w_zald rfl s_389 (n := 3) rfl h.1 ?_
      replace h := h.2
      refine w_callV (t' := 0) [(0, m 389 l6), (0, m 390 l6)] [] rfl s_378 rfl rfl ?_
      refine w_C.more (Q := fun r1 m1 => _) h (fun r1 m1 h => ?_)
      replace h := id h
      refine w_istore (lv' := [some (2, 378), none, some (2, l2), some (0, l3), some (0, l4), some (0, r1), some (0, l6), none, none, none, none]) rfl rfl rfl ?_
      refine w_iinc (lv' := [some (2, 378), none, some (2, l2), some (0, l3), some (0, l4), some (0, r1), some (0, w_32 (l6 + 1)), none, none, none, none]) rfl rfl rfl rfl ?_
      refine w_goto rfl ?_
      exact w_W.less h (w_sub [true, false, true, true, true, true, true, false, false, false, false] rfl)
  · exact w_W.less h (w_sub [true, false, true, true, true, true, false, false, false, false, false] rfl)
theorem xr_fi_decode_84 {d : Nat} {l2 l3 l4 l5 : Int} {m : w_M} {Q : Int → w_M → Prop} (h : if l5 = 0 then (Q 7 m) else (if l3 < 0 then (Q 8 m) else (if l4 < 0 then (Q 8 m) else (w_isR l2 ∧ (if (w_32 ((w_ln l2) - l3)) < l4 then (Q 8 m) else (xp_fi_decode_126 d l2 l3 l2 l3 l4 0 m Q)))))) : xp_fi_decode_84 d l2 l3 l4 l5 m Q := by
  refine w_iload rfl rfl ?_
  refine w_ifne rfl (w_ite h (fun h => ?_) (fun h => ?_))
  · refine w_bipush rfl (by decide) ?_
    exact w_iret rfl rfl h
  · refine w_iload_n rfl rfl ?_
    refine w_iflt rfl (w_ite h (fun h => ?_) (fun h => ?_))
    · refine w_bipush rfl (by decide) ?_
      exact w_iret rfl rfl h
    · refine w_iload rfl rfl ?_
      refine w_iflt rfl (w_ite h (fun h => ?_) (fun h => ?_))
      · refine w_bipush rfl (by decide) ?_
        exact w_iret rfl rfl h
      · refine w_iload rfl rfl ?_
        refine w_aload_n rfl rfl ?_
        refine x_len rfl h.1 ?_
        replace h := h.2
        refine w_iload_n rfl rfl ?_
        refine w_isub rfl ?_
        refine w_icle rfl (w_ite h (fun h => ?_) (fun h => ?_))
        · refine w_bipush rfl (by decide) ?_
          exact w_iret rfl rfl h
        · refine w_aload_n rfl rfl ?_
          refine w_astore (lv' := [some (2, 378), none, some (2, l2), some (0, l3), some (0, l4), some (0, l5), some (2, l2), none, none, none, none]) rfl rfl rfl ?_
          refine w_iload_n rfl rfl ?_
          refine w_istore (lv' := [some (2, 378), none, some (2, l2), some (0, l3), some (0, l4), some (0, l5), some (2, l2), some (0, l3), none, none, none]) rfl rfl rfl ?_
          refine w_iload rfl rfl ?_
          refine w_istore (lv' := [some (2, 378), none, some (2, l2), some (0, l3), some (0, l4), some (0, l5), some (2, l2), some (0, l3), some (0, l4), none, none]) rfl rfl rfl ?_
          refine w_iconst rfl (by decide) ?_
          refine w_istore (lv' := [some (2, 378), none, some (2, l2), some (0, l3), some (0, l4), some (0, l5), some (2, l2), some (0, l3), some (0, l4), some (0, 0), none]) rfl rfl rfl ?_
          exact w_W.less h (w_sub [true, false, true, true, false, false, true, true, true, true, false] rfl)
theorem xr_fi_decode_126 {d : Nat} {l2 l3 l6 l7 l8 l9 : Int} {m : w_M} {Q : Int → w_M → Prop} (h : if l9 < (m 378 6) then (if l9 < 3 then (if (l9 % 2) = 0 then (((0 : Int) ≤ l9 ∧ l9 < 3) ∧ (if (m 389 l9) = 0 then (xc_fi_fromHex d l6 l7 l8 387 m (fun r1 m1 => xp_fi_decode_200 d l2 l3 l9 387 r1 m1 Q)) else (xc_in_run d l6 l7 l8 387 m (fun r2 m2 => xp_fi_decode_200 d l2 l3 l9 387 r2 m2 Q)))) else (((0 : Int) ≤ l9 ∧ l9 < 3) ∧ (if (m 389 l9) = 0 then (xc_fi_fromHex d l6 l7 l8 388 m (fun r3 m3 => xp_fi_decode_200 d l2 l3 l9 388 r3 m3 Q)) else (xc_in_run d l6 l7 l8 388 m (fun r4 m4 => xp_fi_decode_200 d l2 l3 l9 388 r4 m4 Q))))) else (xp_fi_decode_272 d l2 l3 l6 l8 m Q)) else (xp_fi_decode_272 d l2 l3 l6 l8 m Q)) : xp_fi_decode_126 d l2 l3 l6 l7 l8 l9 m Q := by
  refine w_iload rfl rfl ?_
  refine w_aload_n rfl rfl ?_
  refine x_gfI rfl s_378 rfl (kk := 6) rfl rfl ?_
  refine w_icge rfl (w_ite h (fun h => ?_) (fun h => ?_))
  · refine w_iload rfl rfl ?_
    refine w_iconst rfl (by decide) ?_
    refine w_icge rfl (w_ite h (fun h => ?_) (fun h => ?_))
    · refine w_iload rfl rfl ?_
      refine w_iconst rfl (by decide) ?_
      refine w_iandm 1 (c := 2) rfl (by decide) rfl rfl ?_
      refine w_ifne rfl (w_ite h (fun h => ?_) (fun h => ?_))
      · refine w_aload_n rfl rfl ?_
        refine w_gfC (c := 387) rfl s_378 rfl rfl ?_
        refine w_goto rfl ?_
        refine w_astore (lv' := [some (2, 378), none, some (2, l2), some (0, l3), none, none, some (2, l6), some (0, l7), some (0, l8), some (0, l9), some (2, 387)]) rfl rfl rfl ?_
        refine w_aload_n rfl rfl ?_
        refine w_gfC (c := 389) rfl s_378 rfl rfl ?_
        refine w_iload rfl rfl ?_
        refine w_zald rfl s_389 (n := 3) rfl h.1 ?_
        replace h := h.2
        refine w_ifeq rfl (w_ite h (fun h => ?_) (fun h => ?_))
        · refine w_aload rfl rfl ?_
          refine w_iload rfl rfl ?_
          refine w_iload rfl rfl ?_
          refine w_aload rfl rfl ?_
          refine w_callS (t' := 0) [(2, 387), (0, l8), (0, l7), (2, l6)] [] rfl (by decide) rfl rfl ?_
          refine w_C.more (Q := fun r1 m1 => _) h (fun r1 m1 h => ?_)
          replace h := id h
          exact w_W.less h (w_sub [true, false, true, true, false, false, false, false, false, true, true] rfl)
        · refine w_aload_n rfl rfl ?_
          refine w_gfC (c := 379) rfl s_378 rfl rfl ?_
          refine w_aload rfl rfl ?_
          refine w_iload rfl rfl ?_
          refine w_iload rfl rfl ?_
          refine w_aload rfl rfl ?_
          refine w_callV (t' := 0) [(2, 387), (0, l8), (0, l7), (2, l6)] [] rfl s_379 rfl rfl ?_
          refine w_C.more (Q := fun r2 m2 => _) h (fun r2 m2 h => ?_)
          replace h := id h
          refine w_goto rfl ?_
          exact w_W.less h (w_sub [true, false, true, true, false, false, false, false, false, true, true] rfl)
      · refine w_aload_n rfl rfl ?_
        refine w_gfC (c := 388) rfl s_378 rfl rfl ?_
        refine w_astore (lv' := [some (2, 378), none, some (2, l2), some (0, l3), none, none, some (2, l6), some (0, l7), some (0, l8), some (0, l9), some (2, 388)]) rfl rfl rfl ?_
        refine w_aload_n rfl rfl ?_
        refine w_gfC (c := 389) rfl s_378 rfl rfl ?_
        refine w_iload rfl rfl ?_
        refine w_zald rfl s_389 (n := 3) rfl h.1 ?_
        replace h := h.2
        refine w_ifeq rfl (w_ite h (fun h => ?_) (fun h => ?_))
        · refine w_aload rfl rfl ?_
          refine w_iload rfl rfl ?_
          refine w_iload rfl rfl ?_
          refine w_aload rfl rfl ?_
          refine w_callS (t' := 0) [(2, 388), (0, l8), (0, l7), (2, l6)] [] rfl (by decide) rfl rfl ?_
          refine w_C.more (Q := fun r3 m3 => _) h (fun r3 m3 h => ?_)
          replace h := id h
          exact w_W.less h (w_sub [true, false, true, true, false, false, false, false, false, true, true] rfl)
        · refine w_aload_n rfl rfl ?_
          refine w_gfC (c := 379) rfl s_378 rfl rfl ?_
          refine w_aload rfl rfl ?_
          refine w_iload rfl rfl ?_
          refine w_iload rfl rfl ?_
          refine w_aload rfl rfl ?_
          refine w_callV (t' := 0) [(2, 388), (0, l8), (0, l7), (2, l6)] [] rfl s_379 rfl rfl ?_
          refine w_C.more (Q := fun r4 m4 => _) h (fun r4 m4 h => ?_)
          replace h := id h
          refine w_goto rfl ?_
          exact w_W.less h (w_sub [true, false, true, true, false, false, false, false, false, true, true] rfl)
    · exact w_W.less h (w_sub [true, false, true, true, false, false, true, false, true, false, false] rfl)
  · exact w_W.less h (w_sub [true, false, true, true, false, false, true, false, true, false, false] rfl)
theorem xr_fi_decode_200 {d : Nat} {l2 l3 l9 l10 s0 : Int} {m : w_M} {Q : Int → w_M → Prop} (h : ((0 : Int) ≤ l9 ∧ l9 < 3) ∧ (if (m 389 l9) = 0 then (if s0 < 0 then (Q 8 m) else (xp_fi_decode_126 d l2 l3 l10 0 s0 (w_32 (l9 + 1)) m Q)) else (if s0 < 0 then (if s0 < 0 then (Q 8 m) else (xp_fi_decode_126 d l2 l3 l10 0 s0 (w_32 (l9 + 1)) m Q)) else (((0 : Int) ≤ l9 ∧ l9 < 3) ∧ (xc_fi_columns d (m 390 l9) m (fun r1 m1 => if 0 < r1 then (((0 : Int) ≤ l9 ∧ l9 < 3) ∧ (xc_fi_columns d (m1 390 l9) m1 (fun r2 m2 => xc_fi_unpredict d l10 s0 r2 m2 (fun r3 m3 => if r3 < 0 then (Q 8 m3) else (xp_fi_decode_126 d l2 l3 l10 0 r3 (w_32 (l9 + 1)) m3 Q))))) else (if s0 < 0 then (Q 8 m1) else (xp_fi_decode_126 d l2 l3 l10 0 s0 (w_32 (l9 + 1)) m1 Q)))))))) : xp_fi_decode_200 d l2 l3 l9 l10 s0 m Q := by
  refine w_istore (lv' := [some (2, 378), none, some (2, l2), some (0, l3), none, none, none, none, some (0, s0), some (0, l9), some (2, l10)]) rfl rfl rfl ?_
  refine w_aload_n rfl rfl ?_
  refine w_gfC (c := 389) rfl s_378 rfl rfl ?_
  refine w_iload rfl rfl ?_
  refine w_zald rfl s_389 (n := 3) rfl h.1 ?_
  replace h := h.2
  refine w_ifeq rfl (w_ite h (fun h => ?_) (fun h => ?_))
  · refine w_iload rfl rfl ?_
    refine w_ifge rfl (w_ite h (fun h => ?_) (fun h => ?_))
    · refine w_bipush rfl (by decide) ?_
      exact w_iret rfl rfl h
    · refine w_aload rfl rfl ?_
      refine w_astore (lv' := [some (2, 378), none, some (2, l2), some (0, l3), none, none, some (2, l10), none, some (0, s0), some (0, l9), some (2, l10)]) rfl rfl rfl ?_
      refine w_iconst rfl (by decide) ?_
      refine w_istore (lv' := [some (2, 378), none, some (2, l2), some (0, l3), none, none, some (2, l10), some (0, 0), some (0, s0), some (0, l9), some (2, l10)]) rfl rfl rfl ?_
      refine w_iinc (lv' := [some (2, 378), none, some (2, l2), some (0, l3), none, none, some (2, l10), some (0, 0), some (0, s0), some (0, w_32 (l9 + 1)), some (2, l10)]) rfl rfl rfl rfl ?_
      refine w_goto rfl ?_
      exact w_W.less h (w_sub [true, false, true, true, false, false, true, true, true, true, false] rfl)
  · refine w_iload rfl rfl ?_
    refine w_iflt rfl (w_ite h (fun h => ?_) (fun h => ?_))
    · refine w_iload rfl rfl ?_
      refine w_ifge rfl (w_ite h (fun h => ?_) (fun h => ?_))
      · refine w_bipush rfl (by decide) ?_
        exact w_iret rfl rfl h
      · refine w_aload rfl rfl ?_
        refine w_astore (lv' := [some (2, 378), none, some (2, l2), some (0, l3), none, none, some (2, l10), none, some (0, s0), some (0, l9), some (2, l10)]) rfl rfl rfl ?_
        refine w_iconst rfl (by decide) ?_
        refine w_istore (lv' := [some (2, 378), none, some (2, l2), some (0, l3), none, none, some (2, l10), some (0, 0), some (0, s0), some (0, l9), some (2, l10)]) rfl rfl rfl ?_
        refine w_iinc (lv' := [some (2, 378), none, some (2, l2), some (0, l3), none, none, some (2, l10), some (0, 0), some (0, s0), some (0, w_32 (l9 + 1)), some (2, l10)]) rfl rfl rfl rfl ?_
        refine w_goto rfl ?_
        exact w_W.less h (w_sub [true, false, true, true, false, false, true, true, true, true, false] rfl)
    · refine w_aload_n rfl rfl ?_
      refine w_aload_n rfl rfl ?_
      refine w_gfC (c := 390) rfl s_378 rfl rfl ?_
      refine w_iload rfl rfl ?_
      refine w_iald rfl s_390 (n := 3) rfl h.1 ?_
      replace h := h.2
      refine w_callV (t' := 0) [(0, m 390 l9)] [] rfl s_378 rfl rfl ?_
      refine w_C.more (Q := fun r1 m1 => _) h (fun r1 m1 h => ?_)
      replace h := id h
      refine w_ifle rfl (w_ite h (fun h => ?_) (fun h => ?_))
      · refine w_aload rfl rfl ?_
        refine w_iload rfl rfl ?_
        refine w_aload_n rfl rfl ?_
        refine w_aload_n rfl rfl ?_
        refine w_gfC (c := 390) rfl s_378 rfl rfl ?_
        refine w_iload rfl rfl ?_
        refine w_iald rfl s_390 (n := 3) rfl h.1 ?_
        replace h := h.2
        refine w_callV (t' := 0) [(0, m1 390 l9)] [(0, s0), (2, l10)] rfl s_378 rfl rfl ?_
        refine w_C.more (Q := fun r2 m2 => _) h (fun r2 m2 h => ?_)
        replace h := id h
        refine w_callS (t' := 0) [(0, r2), (0, s0), (2, l10)] [] rfl (by decide) rfl rfl ?_
        refine w_C.more (Q := fun r3 m3 => _) h (fun r3 m3 h => ?_)
        replace h := id h
        refine w_istore (lv' := [some (2, 378), none, some (2, l2), some (0, l3), none, none, none, none, some (0, r3), some (0, l9), some (2, l10)]) rfl rfl rfl ?_
        refine w_iload rfl rfl ?_
        refine w_ifge rfl (w_ite h (fun h => ?_) (fun h => ?_))
        · refine w_bipush rfl (by decide) ?_
          exact w_iret rfl rfl h
        · refine w_aload rfl rfl ?_
          refine w_astore (lv' := [some (2, 378), none, some (2, l2), some (0, l3), none, none, some (2, l10), none, some (0, r3), some (0, l9), some (2, l10)]) rfl rfl rfl ?_
          refine w_iconst rfl (by decide) ?_
          refine w_istore (lv' := [some (2, 378), none, some (2, l2), some (0, l3), none, none, some (2, l10), some (0, 0), some (0, r3), some (0, l9), some (2, l10)]) rfl rfl rfl ?_
          refine w_iinc (lv' := [some (2, 378), none, some (2, l2), some (0, l3), none, none, some (2, l10), some (0, 0), some (0, r3), some (0, w_32 (l9 + 1)), some (2, l10)]) rfl rfl rfl rfl ?_
          refine w_goto rfl ?_
          exact w_W.less h (w_sub [true, false, true, true, false, false, true, true, true, true, false] rfl)
      · refine w_iload rfl rfl ?_
        refine w_ifge rfl (w_ite h (fun h => ?_) (fun h => ?_))
        · refine w_bipush rfl (by decide) ?_
          exact w_iret rfl rfl h
        · refine w_aload rfl rfl ?_
          refine w_astore (lv' := [some (2, 378), none, some (2, l2), some (0, l3), none, none, some (2, l10), none, some (0, s0), some (0, l9), some (2, l10)]) rfl rfl rfl ?_
          refine w_iconst rfl (by decide) ?_
          refine w_istore (lv' := [some (2, 378), none, some (2, l2), some (0, l3), none, none, some (2, l10), some (0, 0), some (0, s0), some (0, l9), some (2, l10)]) rfl rfl rfl ?_
          refine w_iinc (lv' := [some (2, 378), none, some (2, l2), some (0, l3), none, none, some (2, l10), some (0, 0), some (0, s0), some (0, w_32 (l9 + 1)), some (2, l10)]) rfl rfl rfl rfl ?_
          refine w_goto rfl ?_
          exact w_W.less h (w_sub [true, false, true, true, false, false, true, true, true, true, false] rfl)
theorem xr_fi_decode_272 {d : Nat} {l2 l3 l6 l8 : Int} {m : w_M} {Q : Int → w_M → Prop} (h : if (m 378 6) = 0 then (if 8000 < l8 then (Q 8 m) else ((w_isA 1 l2 ∧ w_isA 1 387 ∧ (357 : Int) ≤ l2 ∧ w_wr (w_G0 sC) (Int.toNat 387) ∧ (0 : Int) ≤ l8 ∧ (0 : Int) ≤ l3 ∧ (0 : Int) ≤ 0 ∧ (l3 + l8 : Int) ≤ w_ln l2 ∧ (0 + l8 : Int) ≤ w_ln 387) ∧ (Q 0 (w_up (w_up (w_cpy m l2 l3 387 0 l8) 378 7 387) 378 8 l8)))) else (Q 0 (w_up (w_up m 378 7 l6) 378 8 l8))) : xp_fi_decode_272 d l2 l3 l6 l8 m Q := by
  refine w_aload_n rfl rfl ?_
  refine x_gfI rfl s_378 rfl (kk := 6) rfl rfl ?_
  refine w_ifne rfl (w_ite h (fun h => ?_) (fun h => ?_))
  · refine w_iload rfl rfl ?_
    refine w_aload_n rfl rfl ?_
    refine w_gfC (c := 387) rfl s_378 rfl rfl ?_
    refine w_len rfl s_387 (by decide) (n := 8000) rfl (by decide) ?_
    refine w_icle rfl (w_ite h (fun h => ?_) (fun h => ?_))
    · refine w_bipush rfl (by decide) ?_
      exact w_iret rfl rfl h
    · refine w_aload_n rfl rfl ?_
      refine w_iload_n rfl rfl ?_
      refine w_aload_n rfl rfl ?_
      refine w_gfC (c := 387) rfl s_378 rfl rfl ?_
      refine w_iconst rfl (by decide) ?_
      refine w_iload rfl rfl ?_
      refine x_acopy rfl h.1.1 h.1.2.1 h.1.2.2.1 h.1.2.2.2.1 rfl h.1.2.2.2.2 ?_
      replace h := h.2
      refine w_aload_n rfl rfl ?_
      refine w_gfC (c := 387) rfl s_378 rfl rfl ?_
      refine w_astore (lv' := [some (2, 378), none, some (2, l2), some (0, l3), none, none, some (2, 387), none, some (0, l8), none, none]) rfl rfl rfl ?_
      refine w_aload_n rfl rfl ?_
      refine w_aload rfl rfl ?_
      refine w_pfR rfl s_378 rfl (w_EC (by decide)) rfl (fun _ => rfl) (kk := 7) rfl ?_
      refine w_aload_n rfl rfl ?_
      refine w_iload rfl rfl ?_
      refine w_pfI rfl s_378 rfl (w_EC (by decide)) rfl (kk := 8) rfl ?_
      refine w_iconst rfl (by decide) ?_
      exact w_iret rfl rfl h
  · refine w_aload_n rfl rfl ?_
    refine w_aload rfl rfl ?_
    refine w_pfR rfl s_378 rfl (w_EC (by decide)) rfl (fun _ => rfl) (kk := 7) rfl ?_
    refine w_aload_n rfl rfl ?_
    refine w_iload rfl rfl ?_
    refine w_pfI rfl s_378 rfl (w_EC (by decide)) rfl (kk := 8) rfl ?_
    refine w_iconst rfl (by decide) ?_
    exact w_iret rfl rfl h
theorem xr_fi_fromHex {d : Nat} {l0 l1 l2 l3 : Int} {m : w_M} {Q : Int → w_M → Prop} (h : xp_fi_fromHex_12 d l0 l1 l2 l3 0 (-1) 0 l1 m Q) : xc_fi_fromHex (d + 1) l0 l1 l2 l3 m Q := by
  refine w_enter (q := 6) (lv := [some (2, l0), some (0, l1), some (0, l2), some (2, l3), none, none, none, none, none, none]) rfl rfl rfl ?_
  refine w_iconst rfl (by decide) ?_
  refine w_istore (lv' := [some (2, l0), some (0, l1), some (0, l2), some (2, l3), some (0, 0), none, none, none, none, none]) rfl rfl rfl ?_
  refine w_iconst rfl (by decide) ?_
  refine w_istore (lv' := [some (2, l0), some (0, l1), some (0, l2), some (2, l3), some (0, 0), some (0, (-1)), none, none, none, none]) rfl rfl rfl ?_
  refine w_iconst rfl (by decide) ?_
  refine w_istore (lv' := [some (2, l0), some (0, l1), some (0, l2), some (2, l3), some (0, 0), some (0, (-1)), some (0, 0), none, none, none]) rfl rfl rfl ?_
  refine w_iload_n rfl rfl ?_
  refine w_istore (lv' := [some (2, l0), some (0, l1), some (0, l2), some (2, l3), some (0, 0), some (0, (-1)), some (0, 0), some (0, l1), none, none]) rfl rfl rfl ?_
  exact w_W.less h (w_sub [true, true, true, true, true, true, true, true, false, false] rfl)
theorem xr_fi_fromHex_12 {d : Nat} {l0 l1 l2 l3 l4 l5 l6 l7 : Int} {m : w_M} {Q : Int → w_M → Prop} (h : if l7 < (w_32 (l1 + l2)) then (if l7 < 0 then (if l6 = 0 then (Q (-1) m) else (Q l4 m)) else (w_isR l0 ∧ (if l7 < (w_ln l0) then (w_isA 1 l0 ∧ ((0 : Int) ≤ l7 ∧ l7 < w_ln l0) ∧ (xc_ps_hex d ((m l0 l7) % 256) m (fun r1 m1 => xc_ps_isWhite d ((m l0 l7) % 256) m1 (fun r2 m2 => if r2 = 0 then (if l6 = 0 then (if r1 < 0 then (if ((m l0 l7) % 256) = 62 then (xp_fi_fromHex_79 d l0 l1 l2 l3 l4 l5 l7 ((m l0 l7) % 256) r1 m2 Q) else (Q (-1) m2)) else (xp_fi_fromHex_79 d l0 l1 l2 l3 l4 l5 l7 ((m l0 l7) % 256) r1 m2 Q)) else (Q (-1) m2)) else (xp_fi_fromHex_12 d l0 l1 l2 l3 l4 l5 l6 (w_32 (l7 + 1)) m2 Q))))) else (if l6 = 0 then (Q (-1) m) else (Q l4 m))))) else (if l6 = 0 then (Q (-1) m) else (Q l4 m))) : xp_fi_fromHex_12 d l0 l1 l2 l3 l4 l5 l6 l7 m Q := by
  refine w_iload rfl rfl ?_
  refine w_iload_n rfl rfl ?_
  refine w_iload_n rfl rfl ?_
  refine w_iadd rfl ?_
  refine w_icge rfl (w_ite h (fun h => ?_) (fun h => ?_))
  · refine w_iload rfl rfl ?_
    refine w_iflt rfl (w_ite h (fun h => ?_) (fun h => ?_))
    · refine w_iload rfl rfl ?_
      refine w_ifeq rfl (w_ite h (fun h => ?_) (fun h => ?_))
      · refine w_iconst rfl (by decide) ?_
        exact w_iret rfl rfl h
      · refine w_iload rfl rfl ?_
        refine w_goto rfl ?_
        exact w_iret rfl rfl h
    · refine w_iload rfl rfl ?_
      refine w_aload_n rfl rfl ?_
      refine x_len rfl h.1 ?_
      replace h := h.2
      refine w_icge rfl (w_ite h (fun h => ?_) (fun h => ?_))
      · refine w_aload_n rfl rfl ?_
        refine w_iload rfl rfl ?_
        refine x_bald rfl h.1 h.2.1 ?_
        replace h := h.2.2
        refine w_sipush rfl (by decide) ?_
        refine w_iandm 8 (c := 256) rfl (by decide) rfl rfl ?_
        refine w_istore (lv' := [some (2, l0), some (0, l1), some (0, l2), some (2, l3), some (0, l4), some (0, l5), some (0, l6), some (0, l7), some (0, (m l0 l7) % 256), none]) rfl rfl rfl ?_
        refine w_iload rfl rfl ?_
        refine w_callS (t' := 0) [(0, (m l0 l7) % 256)] [] rfl (by decide) rfl rfl ?_
        refine w_C.more (Q := fun r1 m1 => _) h (fun r1 m1 h => ?_)
        replace h := id h
        refine w_istore (lv' := [some (2, l0), some (0, l1), some (0, l2), some (2, l3), some (0, l4), some (0, l5), some (0, l6), some (0, l7), some (0, (m l0 l7) % 256), some (0, r1)]) rfl rfl rfl ?_
        refine w_iload rfl rfl ?_
        refine w_callS (t' := 0) [(0, (m l0 l7) % 256)] [] rfl (by decide) rfl rfl ?_
        refine w_C.more (Q := fun r2 m2 => _) h (fun r2 m2 h => ?_)
        replace h := id h
        refine w_ifeq rfl (w_ite h (fun h => ?_) (fun h => ?_))
        · refine w_iload rfl rfl ?_
          refine w_ifne rfl (w_ite h (fun h => ?_) (fun h => ?_))
          · refine w_iload rfl rfl ?_
            refine w_ifge rfl (w_ite h (fun h => ?_) (fun h => ?_))
            · refine w_iload rfl rfl ?_
              refine w_bipush rfl (by decide) ?_
              refine w_iceq rfl (w_ite h (fun h => ?_) (fun h => ?_))
              · exact w_W.less h (w_sub [true, true, true, true, true, true, false, true, true, true] rfl)
              · refine w_iconst rfl (by decide) ?_
                exact w_iret rfl rfl h
            · exact w_W.less h (w_sub [true, true, true, true, true, true, false, true, true, true] rfl)
          · refine w_iconst rfl (by decide) ?_
            exact w_iret rfl rfl h
        · refine w_goto rfl ?_
          refine w_iinc (lv' := [some (2, l0), some (0, l1), some (0, l2), some (2, l3), some (0, l4), some (0, l5), some (0, l6), some (0, w_32 (l7 + 1)), some (0, (m l0 l7) % 256), some (0, r1)]) rfl rfl rfl rfl ?_
          refine w_goto rfl ?_
          exact w_W.less h (w_sub [true, true, true, true, true, true, true, true, false, false] rfl)
      · refine w_iload rfl rfl ?_
        refine w_ifeq rfl (w_ite h (fun h => ?_) (fun h => ?_))
        · refine w_iconst rfl (by decide) ?_
          exact w_iret rfl rfl h
        · refine w_iload rfl rfl ?_
          refine w_goto rfl ?_
          exact w_iret rfl rfl h
  · refine w_iload rfl rfl ?_
    refine w_ifeq rfl (w_ite h (fun h => ?_) (fun h => ?_))
    · refine w_iconst rfl (by decide) ?_
      exact w_iret rfl rfl h
    · refine w_iload rfl rfl ?_
      refine w_goto rfl ?_
      exact w_iret rfl rfl h
theorem xr_fi_fromHex_79 {d : Nat} {l0 l1 l2 l3 l4 l5 l7 l8 l9 : Int} {m : w_M} {Q : Int → w_M → Prop} (h : if l8 = 62 then (if l5 < 0 then (xp_fi_fromHex_110 d l0 l1 l2 l3 l4 l5 1 l7 l9 m Q) else (xp_fi_fromHex_110 d l0 l1 l2 l3 l4 l5 1 l7 l9 m Q)) else (if l5 < 0 then (xp_fi_fromHex_12 d l0 l1 l2 l3 l4 l9 0 (w_32 (l7 + 1)) m Q) else (xp_fi_fromHex_110 d l0 l1 l2 l3 l4 l5 0 l7 l9 m Q))) : xp_fi_fromHex_79 d l0 l1 l2 l3 l4 l5 l7 l8 l9 m Q := by
  refine w_iload rfl rfl ?_
  refine w_bipush rfl (by decide) ?_
  refine w_icne rfl (w_ite h (fun h => ?_) (fun h => ?_))
  · refine w_iconst rfl (by decide) ?_
    refine w_goto rfl ?_
    refine w_istore (lv' := [some (2, l0), some (0, l1), some (0, l2), some (2, l3), some (0, l4), some (0, l5), some (0, 1), some (0, l7), some (0, l8), some (0, l9)]) rfl rfl rfl ?_
    refine w_iload rfl rfl ?_
    refine w_ifge rfl (w_ite h (fun h => ?_) (fun h => ?_))
    · refine w_iload rfl rfl ?_
      refine w_ifne rfl (w_iff (by decide) ?_)
      exact w_W.less h (w_sub [true, true, true, true, true, true, true, true, false, true] rfl)
    · exact w_W.less h (w_sub [true, true, true, true, true, true, true, true, false, true] rfl)
  · refine w_iconst rfl (by decide) ?_
    refine w_istore (lv' := [some (2, l0), some (0, l1), some (0, l2), some (2, l3), some (0, l4), some (0, l5), some (0, 0), some (0, l7), some (0, l8), some (0, l9)]) rfl rfl rfl ?_
    refine w_iload rfl rfl ?_
    refine w_ifge rfl (w_ite h (fun h => ?_) (fun h => ?_))
    · refine w_iload rfl rfl ?_
      refine w_ifne rfl (w_ift (by decide) ?_)
      refine w_iload rfl rfl ?_
      refine w_istore (lv' := [some (2, l0), some (0, l1), some (0, l2), some (2, l3), some (0, l4), some (0, l9), some (0, 0), some (0, l7), some (0, l8), some (0, l9)]) rfl rfl rfl ?_
      refine w_goto rfl ?_
      refine w_iinc (lv' := [some (2, l0), some (0, l1), some (0, l2), some (2, l3), some (0, l4), some (0, l9), some (0, 0), some (0, w_32 (l7 + 1)), some (0, l8), some (0, l9)]) rfl rfl rfl rfl ?_
      refine w_goto rfl ?_
      exact w_W.less h (w_sub [true, true, true, true, true, true, true, true, false, false] rfl)
    · exact w_W.less h (w_sub [true, true, true, true, true, true, true, true, false, true] rfl)
theorem xr_fi_fromHex_110 {d : Nat} {l0 l1 l2 l3 l4 l5 l6 l7 l9 : Int} {m : w_M} {Q : Int → w_M → Prop} (h : if l5 < 0 then (xp_fi_fromHex_12 d l0 l1 l2 l3 l4 l5 l6 (w_32 (l7 + 1)) m Q) else (w_isR l3 ∧ (if l4 < (w_ln l3) then (w_isA 1 l3 ∧ w_wr (w_G0 sC) (Int.toNat l3) ∧ ((0 : Int) ≤ l4 ∧ l4 < w_ln l3) ∧ (xp_fi_fromHex_12 d l0 l1 l2 l3 (w_32 (l4 + 1)) (-1) l6 (w_32 (l7 + 1)) (w_up m l3 l4 (w_8 (w_8 (w_32 ((w_32 (l5 * 16)) + (max 0 l9)))))) Q)) else (Q (-1) m)))) : xp_fi_fromHex_110 d l0 l1 l2 l3 l4 l5 l6 l7 l9 m Q := by
  refine w_iload rfl rfl ?_
  refine w_iflt rfl (w_ite h (fun h => ?_) (fun h => ?_))
  · refine w_iinc (lv' := [some (2, l0), some (0, l1), some (0, l2), some (2, l3), some (0, l4), some (0, l5), some (0, l6), some (0, w_32 (l7 + 1)), none, some (0, l9)]) rfl rfl rfl rfl ?_
    refine w_goto rfl ?_
    exact w_W.less h (w_sub [true, true, true, true, true, true, true, true, false, false] rfl)
  · refine w_iload rfl rfl ?_
    refine w_aload_n rfl rfl ?_
    refine x_len rfl h.1 ?_
    replace h := h.2
    refine w_iclt rfl (w_ite h (fun h => ?_) (fun h => ?_))
    · refine w_aload_n rfl rfl ?_
      refine w_iload rfl rfl ?_
      refine w_iload rfl rfl ?_
      refine w_bipush rfl (by decide) ?_
      refine w_imul rfl ?_
      refine w_iconst rfl (by decide) ?_
      refine w_iload rfl rfl ?_
      refine w_max rfl rfl ?_
      refine w_iadd rfl ?_
      refine w_i2b rfl ?_
      refine x_bast rfl h.1 h.2.1 h.2.2.1 ?_
      replace h := h.2.2.2
      refine w_iinc (lv' := [some (2, l0), some (0, l1), some (0, l2), some (2, l3), some (0, w_32 (l4 + 1)), some (0, l5), some (0, l6), some (0, l7), none, some (0, l9)]) rfl rfl rfl rfl ?_
      refine w_iconst rfl (by decide) ?_
      refine w_istore (lv' := [some (2, l0), some (0, l1), some (0, l2), some (2, l3), some (0, w_32 (l4 + 1)), some (0, (-1)), some (0, l6), some (0, l7), none, some (0, l9)]) rfl rfl rfl ?_
      refine w_iinc (lv' := [some (2, l0), some (0, l1), some (0, l2), some (2, l3), some (0, w_32 (l4 + 1)), some (0, (-1)), some (0, l6), some (0, w_32 (l7 + 1)), none, some (0, l9)]) rfl rfl rfl rfl ?_
      refine w_goto rfl ?_
      exact w_W.less h (w_sub [true, true, true, true, true, true, true, true, false, false] rfl)
    · refine w_iconst rfl (by decide) ?_
      exact w_iret rfl rfl h
theorem xr_fi_guess {d : Nat} {l0 l1 l2 l3 : Int} {m : w_M} {Q : Int → w_M → Prop} (h : if l0 = 1 then (Q l1 m) else (if l0 = 2 then (Q l2 m) else (if l0 = 3 then (Q (Int.tdiv (w_32 (l1 + l2)) 2) m) else (if l0 = 4 then (if (if w_32 (l1 - l3) < 0 then w_32 (-(w_32 (l1 - l3))) else w_32 (l1 - l3)) < (if w_32 (l2 - l3) < 0 then w_32 (-(w_32 (l2 - l3))) else w_32 (l2 - l3)) then (if (if w_32 ((w_32 (l1 + l2)) - (w_32 (2 * l3))) < 0 then w_32 (-(w_32 ((w_32 (l1 + l2)) - (w_32 (2 * l3))))) else w_32 ((w_32 (l1 + l2)) - (w_32 (2 * l3)))) < (if w_32 (l1 - l3) < 0 then w_32 (-(w_32 (l1 - l3))) else w_32 (l1 - l3)) then (Q l3 m) else (Q l2 m)) else (if (if w_32 ((w_32 (l1 + l2)) - (w_32 (2 * l3))) < 0 then w_32 (-(w_32 ((w_32 (l1 + l2)) - (w_32 (2 * l3))))) else w_32 ((w_32 (l1 + l2)) - (w_32 (2 * l3)))) < (if w_32 (l2 - l3) < 0 then w_32 (-(w_32 (l2 - l3))) else w_32 (l2 - l3)) then (if (if w_32 ((w_32 (l1 + l2)) - (w_32 (2 * l3))) < 0 then w_32 (-(w_32 ((w_32 (l1 + l2)) - (w_32 (2 * l3))))) else w_32 ((w_32 (l1 + l2)) - (w_32 (2 * l3)))) < (if w_32 (l1 - l3) < 0 then w_32 (-(w_32 (l1 - l3))) else w_32 (l1 - l3)) then (Q l3 m) else (Q l2 m)) else (Q l1 m))) else (Q 0 m))))) : xc_fi_guess (d + 1) l0 l1 l2 l3 m Q := by
  refine w_enter (q := 3) (lv := [some (0, l0), some (0, l1), some (0, l2), some (0, l3), none, none, none]) rfl rfl rfl ?_
  refine w_iload_n rfl rfl ?_
  refine w_tswitch (pd := 99) [(1, 32), (2, 34), (3, 36), (4, 42)] rfl rfl (by decide) (w_tsw_ok _ _ (by decide)) (by decide) ?_
  refine w_ite h (fun h => ?_) (fun h => ?_)
  · refine w_iload_n rfl rfl ?_
    exact w_iret rfl rfl h
  ·
    refine w_ite h (fun h => ?_) (fun h => ?_)
    · refine w_iload_n rfl rfl ?_
      exact w_iret rfl rfl h
    ·
      refine w_ite h (fun h => ?_) (fun h => ?_)
      · refine w_iload_n rfl rfl ?_
        refine w_iload_n rfl rfl ?_
        refine w_iadd rfl ?_
        refine w_iconst rfl (by decide) ?_
        refine w_idivk rfl (by decide) ?_
        exact w_iret rfl rfl h
      ·
        refine w_ite h (fun h => ?_) (fun h => ?_)
        · refine w_iload_n rfl rfl ?_
          refine w_iload_n rfl rfl ?_
          refine w_isub rfl ?_
          refine w_abs rfl rfl ?_
          refine w_istore (lv' := [some (0, l0), some (0, l1), some (0, l2), some (0, l3), some (0, if w_32 (l2 - l3) < 0 then w_32 (-(w_32 (l2 - l3))) else w_32 (l2 - l3)), none, none]) rfl rfl rfl ?_
          refine w_iload_n rfl rfl ?_
          refine w_iload_n rfl rfl ?_
          refine w_isub rfl ?_
          refine w_abs rfl rfl ?_
          refine w_istore (lv' := [some (0, l0), some (0, l1), some (0, l2), some (0, l3), some (0, if w_32 (l2 - l3) < 0 then w_32 (-(w_32 (l2 - l3))) else w_32 (l2 - l3)), some (0, if w_32 (l1 - l3) < 0 then w_32 (-(w_32 (l1 - l3))) else w_32 (l1 - l3)), none]) rfl rfl rfl ?_
          refine w_iload_n rfl rfl ?_
          refine w_iload_n rfl rfl ?_
          refine w_iadd rfl ?_
          refine w_iconst rfl (by decide) ?_
          refine w_iload_n rfl rfl ?_
          refine w_imul rfl ?_
          refine w_isub rfl ?_
          refine w_abs rfl rfl ?_
          refine w_istore (lv' := [some (0, l0), some (0, l1), some (0, l2), some (0, l3), some (0, if w_32 (l2 - l3) < 0 then w_32 (-(w_32 (l2 - l3))) else w_32 (l2 - l3)), some (0, if w_32 (l1 - l3) < 0 then w_32 (-(w_32 (l1 - l3))) else w_32 (l1 - l3)), some (0, if w_32 ((w_32 (l1 + l2)) - (w_32 (2 * l3))) < 0 then w_32 (-(w_32 ((w_32 (l1 + l2)) - (w_32 (2 * l3))))) else w_32 ((w_32 (l1 + l2)) - (w_32 (2 * l3))))]) rfl rfl rfl ?_
          refine w_iload rfl rfl ?_
          refine w_iload rfl rfl ?_
          refine w_icgt rfl (w_ite h (fun h => ?_) (fun h => ?_))
          · refine w_iload rfl rfl ?_
            refine w_iload rfl rfl ?_
            refine w_icgt rfl (w_ite h (fun h => ?_) (fun h => ?_))
            · refine w_iload_n rfl rfl ?_
              exact w_iret rfl rfl h
            · refine w_iload_n rfl rfl ?_
              refine w_goto rfl ?_
              exact w_iret rfl rfl h
          · refine w_iload rfl rfl ?_
            refine w_iload rfl rfl ?_
            refine w_icgt rfl (w_ite h (fun h => ?_) (fun h => ?_))
            · refine w_iload rfl rfl ?_
              refine w_iload rfl rfl ?_
              refine w_icgt rfl (w_ite h (fun h => ?_) (fun h => ?_))
              · refine w_iload_n rfl rfl ?_
                exact w_iret rfl rfl h
              · refine w_iload_n rfl rfl ?_
                refine w_goto rfl ?_
                exact w_iret rfl rfl h
            · refine w_iload_n rfl rfl ?_
              exact w_iret rfl rfl h
        · refine w_iconst rfl (by decide) ?_
          exact w_iret rfl rfl h
theorem xr_fi_readName {d : Nat} {l1 : Int} {m : w_M} {Q : Int → w_M → Prop} (h : xc_st_isName d l1 23 m (fun r1 m1 => if (m1 378 6) < 3 then (if r1 = 0 then (xc_st_isName d l1 24 m1 (fun r2 m2 => if r2 = 0 then (Q 0 m2) else (((0 : Int) ≤ (m2 378 6) ∧ (m2 378 6) < 3) ∧ (r1 = 0 ∨ r1 = 1) ∧ (((0 : Int) ≤ (m2 378 6) ∧ (m2 378 6) < 3) ∧ (Q 1 (w_up (w_up (w_up m2 389 (m2 378 6) r1) 390 (m2 378 6) 0) 378 6 (w_32 ((m2 378 6) + 1)))))))) else (((0 : Int) ≤ (m1 378 6) ∧ (m1 378 6) < 3) ∧ (r1 = 0 ∨ r1 = 1) ∧ (((0 : Int) ≤ (m1 378 6) ∧ (m1 378 6) < 3) ∧ (Q 1 (w_up (w_up (w_up m1 389 (m1 378 6) r1) 390 (m1 378 6) 0) 378 6 (w_32 ((m1 378 6) + 1))))))) else (Q 0 m1))) : xc_fi_readName (d + 1) l1 m Q := by
  refine w_enter (q := 1) (lv := [some (2, 378), some (0, l1), none]) rfl rfl rfl ?_
  refine w_aload_n rfl rfl ?_
  refine w_gfC (c := 359) rfl s_378 rfl rfl ?_
  refine w_iload_n rfl rfl ?_
  refine w_bipush rfl (by decide) ?_
  refine w_callV (t' := 0) [(0, 23), (0, l1)] [] rfl s_359 rfl rfl ?_
  refine w_C.more (Q := fun r1 m1 => _) h (fun r1 m1 h => ?_)
  replace h := id h
  refine w_istore_n (lv' := [some (2, 378), some (0, l1), some (0, r1)]) rfl rfl rfl ?_
  refine w_aload_n rfl rfl ?_
  refine x_gfI rfl s_378 rfl (kk := 6) rfl rfl ?_
  refine w_iconst rfl (by decide) ?_
  refine w_icge rfl (w_ite h (fun h => ?_) (fun h => ?_))
  · refine w_iload_n rfl rfl ?_
    refine w_ifne rfl (w_ite h (fun h => ?_) (fun h => ?_))
    · refine w_aload_n rfl rfl ?_
      refine w_gfC (c := 359) rfl s_378 rfl rfl ?_
      refine w_iload_n rfl rfl ?_
      refine w_bipush rfl (by decide) ?_
      refine w_callV (t' := 0) [(0, 24), (0, l1)] [] rfl s_359 rfl rfl ?_
      refine w_C.more (Q := fun r2 m2 => _) h (fun r2 m2 h => ?_)
      replace h := id h
      refine w_ifne rfl (w_ite h (fun h => ?_) (fun h => ?_))
      · refine w_iconst rfl (by decide) ?_
        exact w_zret rfl rfl (by decide) h
      · refine w_aload_n rfl rfl ?_
        refine w_gfC (c := 389) rfl s_378 rfl rfl ?_
        refine w_aload_n rfl rfl ?_
        refine x_gfI rfl s_378 rfl (kk := 6) rfl rfl ?_
        refine w_iload_n rfl rfl ?_
        refine w_zast rfl s_389 (w_EC (by decide)) (n := 3) rfl h.1 h.2.1 ?_
        replace h := h.2.2
        refine w_aload_n rfl rfl ?_
        refine w_gfC (c := 390) rfl s_378 rfl rfl ?_
        refine w_aload_n rfl rfl ?_
        refine x_gfI rfl s_378 rfl (kk := 6) rfl (w_up_ne (by decide)) ?_
        refine w_iconst rfl (by decide) ?_
        refine w_iast rfl s_390 (w_EC (by decide)) (n := 3) rfl h.1 ?_
        replace h := h.2
        refine w_aload_n rfl rfl ?_
        refine w_dup rfl (show (2 : Nat) ≠ 1 by decide) ?_
        refine x_gfI rfl s_378 rfl (kk := 6) rfl ((w_up_ne (by decide)).trans (w_up_ne (by decide))) ?_
        refine w_iconst rfl (by decide) ?_
        refine w_iadd rfl ?_
        refine w_pfI rfl s_378 rfl (w_EC (by decide)) rfl (kk := 6) rfl ?_
        refine w_iconst rfl (by decide) ?_
        exact w_zret rfl rfl (by decide) h
    · refine w_aload_n rfl rfl ?_
      refine w_gfC (c := 389) rfl s_378 rfl rfl ?_
      refine w_aload_n rfl rfl ?_
      refine x_gfI rfl s_378 rfl (kk := 6) rfl rfl ?_
      refine w_iload_n rfl rfl ?_
      refine w_zast rfl s_389 (w_EC (by decide)) (n := 3) rfl h.1 h.2.1 ?_
      replace h := h.2.2
      refine w_aload_n rfl rfl ?_
      refine w_gfC (c := 390) rfl s_378 rfl rfl ?_
      refine w_aload_n rfl rfl ?_
      refine x_gfI rfl s_378 rfl (kk := 6) rfl (w_up_ne (by decide)) ?_
      refine w_iconst rfl (by decide) ?_
      refine w_iast rfl s_390 (w_EC (by decide)) (n := 3) rfl h.1 ?_
      replace h := h.2
      refine w_aload_n rfl rfl ?_
      refine w_dup rfl (show (2 : Nat) ≠ 1 by decide) ?_
      refine x_gfI rfl s_378 rfl (kk := 6) rfl ((w_up_ne (by decide)).trans (w_up_ne (by decide))) ?_
      refine w_iconst rfl (by decide) ?_
      refine w_iadd rfl ?_
      refine w_pfI rfl s_378 rfl (w_EC (by decide)) rfl (kk := 6) rfl ?_
      refine w_iconst rfl (by decide) ?_
      exact w_zret rfl rfl (by decide) h
  · refine w_iconst rfl (by decide) ?_
    exact w_zret rfl rfl (by decide) h
theorem xr_fi_readNames {d : Nat} {l1 : Int} {m : w_M} {Q : Int → w_M → Prop} (h : xc_st_entry d l1 21 m (fun r1 m1 => xc_st_kindOf d r1 m1 (fun r2 m2 => if r1 < 0 then (Q 1 m2) else (if r2 = 4 then (xc_fi_readName d r1 m2 (fun r3 m3 => (r3 = 0 ∨ r3 = 1) ∧ Q r3 m3)) else (if r2 = 6 then (xc_st_parts d r1 m2 (fun r4 m4 => if 3 < r4 then (Q 0 m4) else (xp_fi_readNames_60 d r1 0 m4 Q))) else (Q 0 m2)))))) : xc_fi_readNames (d + 1) l1 m Q := by
  refine w_enter (q := 3) (lv := [some (2, 378), some (0, l1), none, none, none]) rfl rfl rfl ?_
  refine w_aload_n rfl rfl ?_
  refine w_gfC (c := 359) rfl s_378 rfl rfl ?_
  refine w_iload_n rfl rfl ?_
  refine w_bipush rfl (by decide) ?_
  refine w_callV (t' := 0) [(0, 21), (0, l1)] [] rfl s_359 rfl rfl ?_
  refine w_C.more (Q := fun r1 m1 => _) h (fun r1 m1 h => ?_)
  replace h := id h
  refine w_istore_n (lv' := [some (2, 378), some (0, l1), some (0, r1), none, none]) rfl rfl rfl ?_
  refine w_aload_n rfl rfl ?_
  refine w_gfC (c := 359) rfl s_378 rfl rfl ?_
  refine w_iload_n rfl rfl ?_
  refine w_callV (t' := 0) [(0, r1)] [] rfl s_359 rfl rfl ?_
  refine w_C.more (Q := fun r2 m2 => _) h (fun r2 m2 h => ?_)
  replace h := id h
  refine w_istore_n (lv' := [some (2, 378), some (0, l1), some (0, r1), some (0, r2), none]) rfl rfl rfl ?_
  refine w_iload_n rfl rfl ?_
  refine w_ifge rfl (w_ite h (fun h => ?_) (fun h => ?_))
  · refine w_iconst rfl (by decide) ?_
    exact w_zret rfl rfl (by decide) h
  · refine w_iload_n rfl rfl ?_
    refine w_iconst rfl (by decide) ?_
    refine w_icne rfl (w_ite h (fun h => ?_) (fun h => ?_))
    · refine w_aload_n rfl rfl ?_
      refine w_iload_n rfl rfl ?_
      refine w_callV (t' := 0) [(0, r1)] [] rfl s_378 rfl rfl ?_
      refine w_C.more (Q := fun r3 m3 => _) h (fun r3 m3 h => ?_)
      replace h := id h
      exact w_zret rfl rfl h.1 h.2
    · refine w_iload_n rfl rfl ?_
      refine w_bipush rfl (by decide) ?_
      refine w_icne rfl (w_ite h (fun h => ?_) (fun h => ?_))
      · refine w_aload_n rfl rfl ?_
        refine w_gfC (c := 359) rfl s_378 rfl rfl ?_
        refine w_iload_n rfl rfl ?_
        refine w_callV (t' := 0) [(0, r1)] [] rfl s_359 rfl rfl ?_
        refine w_C.more (Q := fun r4 m4 => _) h (fun r4 m4 h => ?_)
        replace h := id h
        refine w_iconst rfl (by decide) ?_
        refine w_icle rfl (w_ite h (fun h => ?_) (fun h => ?_))
        · refine w_iconst rfl (by decide) ?_
          exact w_zret rfl rfl (by decide) h
        · refine w_iconst rfl (by decide) ?_
          refine w_istore (lv' := [some (2, 378), some (0, l1), some (0, r1), some (0, r2), some (0, 0)]) rfl rfl rfl ?_
          exact w_W.less h (w_sub [true, false, true, false, true] rfl)
      · refine w_iconst rfl (by decide) ?_
        exact w_zret rfl rfl (by decide) h
theorem xr_fi_readNames_60 {d : Nat} {l2 l4 : Int} {m : w_M} {Q : Int → w_M → Prop} (h : xc_st_parts d l2 m (fun r1 m1 => if l4 < r1 then (xc_st_part d l2 l4 m1 (fun r2 m2 => xc_fi_readName d r2 m2 (fun r3 m3 => if r3 = 0 then (Q 0 m3) else (xp_fi_readNames_60 d l2 (w_32 (l4 + 1)) m3 Q)))) else (Q 1 m1))) : xp_fi_readNames_60 d l2 l4 m Q := by
  refine w_iload rfl rfl ?_
  refine w_aload_n rfl rfl ?_
  refine w_gfC (c := 359) rfl s_378 rfl rfl ?_
  refine w_iload_n rfl rfl ?_
  refine w_callV (t' := 0) [(0, l2)] [(0, l4)] rfl s_359 rfl rfl ?_
  refine w_C.more (Q := fun r1 m1 => _) h (fun r1 m1 h => ?_)
  replace h := id h
  refine w_icge rfl (w_ite h (fun h => ?_) (fun h => ?_))
  · refine w_aload_n rfl rfl ?_
    refine w_aload_n rfl rfl ?_
    refine w_gfC (c := 359) rfl s_378 rfl rfl ?_
    refine w_iload_n rfl rfl ?_
    refine w_iload rfl rfl ?_
    refine w_callV (t' := 0) [(0, l4), (0, l2)] [(2, 378)] rfl s_359 rfl rfl ?_
    refine w_C.more (Q := fun r2 m2 => _) h (fun r2 m2 h => ?_)
    replace h := id h
    refine w_callV (t' := 0) [(0, r2)] [] rfl s_378 rfl rfl ?_
    refine w_C.more (Q := fun r3 m3 => _) h (fun r3 m3 h => ?_)
    replace h := id h
    refine w_ifne rfl (w_ite h (fun h => ?_) (fun h => ?_))
    · refine w_iconst rfl (by decide) ?_
      exact w_zret rfl rfl (by decide) h
    · refine w_iinc (lv' := [some (2, 378), none, some (0, l2), none, some (0, w_32 (l4 + 1))]) rfl rfl rfl rfl ?_
      refine w_goto rfl ?_
      exact w_W.less h (w_sub [true, false, true, false, true] rfl)
  · refine w_iconst rfl (by decide) ?_
    exact w_zret rfl rfl (by decide) h
theorem xr_fi_readParms {d : Nat} {l1 : Int} {m : w_M} {Q : Int → w_M → Prop} (h : xc_st_entry d l1 22 m (fun r1 m1 => xc_st_kindOf d r1 m1 (fun r2 m2 => if r1 < 0 then (Q 1 m2) else (xc_st_entry d l1 21 m2 (fun r3 m3 => if r3 < 0 then (Q 1 m3) else (if r2 = 0 then (Q 1 m3) else (if r2 = 7 then (if (m3 378 6) = 1 then (Q 1 (w_up m3 390 0 r1)) else (if r2 = 6 then (xc_st_parts d r1 m3 (fun r4 m4 => if r4 = (m4 378 6) then (xp_fi_readParms_91 d r1 0 m4 Q) else (Q 0 m4))) else (Q 0 m3))) else (if r2 = 6 then (xc_st_parts d r1 m3 (fun r5 m5 => if r5 = (m5 378 6) then (xp_fi_readParms_91 d r1 0 m5 Q) else (Q 0 m5))) else (Q 0 m3))))))))) : xc_fi_readParms (d + 1) l1 m Q := by
  refine w_enter (q := 3) (lv := [some (2, 378), some (0, l1), none, none, none]) rfl rfl rfl ?_
  refine w_aload_n rfl rfl ?_
  refine w_gfC (c := 359) rfl s_378 rfl rfl ?_
  refine w_iload_n rfl rfl ?_
  refine w_bipush rfl (by decide) ?_
  refine w_callV (t' := 0) [(0, 22), (0, l1)] [] rfl s_359 rfl rfl ?_
  refine w_C.more (Q := fun r1 m1 => _) h (fun r1 m1 h => ?_)
  replace h := id h
  refine w_istore_n (lv' := [some (2, 378), some (0, l1), some (0, r1), none, none]) rfl rfl rfl ?_
  refine w_aload_n rfl rfl ?_
  refine w_gfC (c := 359) rfl s_378 rfl rfl ?_
  refine w_iload_n rfl rfl ?_
  refine w_callV (t' := 0) [(0, r1)] [] rfl s_359 rfl rfl ?_
  refine w_C.more (Q := fun r2 m2 => _) h (fun r2 m2 h => ?_)
  replace h := id h
  refine w_istore_n (lv' := [some (2, 378), some (0, l1), some (0, r1), some (0, r2), none]) rfl rfl rfl ?_
  refine w_iload_n rfl rfl ?_
  refine w_iflt rfl (w_ite h (fun h => ?_) (fun h => ?_))
  · refine w_iconst rfl (by decide) ?_
    exact w_zret rfl rfl (by decide) h
  · refine w_aload_n rfl rfl ?_
    refine w_gfC (c := 359) rfl s_378 rfl rfl ?_
    refine w_iload_n rfl rfl ?_
    refine w_bipush rfl (by decide) ?_
    refine w_callV (t' := 0) [(0, 21), (0, l1)] [] rfl s_359 rfl rfl ?_
    refine w_C.more (Q := fun r3 m3 => _) h (fun r3 m3 h => ?_)
    replace h := id h
    refine w_iflt rfl (w_ite h (fun h => ?_) (fun h => ?_))
    · refine w_iconst rfl (by decide) ?_
      exact w_zret rfl rfl (by decide) h
    · refine w_iload_n rfl rfl ?_
      refine w_ifne rfl (w_ite h (fun h => ?_) (fun h => ?_))
      · refine w_iconst rfl (by decide) ?_
        exact w_zret rfl rfl (by decide) h
      · refine w_iload_n rfl rfl ?_
        refine w_bipush rfl (by decide) ?_
        refine w_icne rfl (w_ite h (fun h => ?_) (fun h => ?_))
        · refine w_aload_n rfl rfl ?_
          refine x_gfI rfl s_378 rfl (kk := 6) rfl rfl ?_
          refine w_iconst rfl (by decide) ?_
          refine w_icne rfl (w_ite h (fun h => ?_) (fun h => ?_))
          · refine w_aload_n rfl rfl ?_
            refine w_gfC (c := 390) rfl s_378 rfl rfl ?_
            refine w_iconst rfl (by decide) ?_
            refine w_iload_n rfl rfl ?_
            refine w_iast rfl s_390 (w_EC (by decide)) (n := 3) rfl (by decide) ?_
            refine w_goto rfl ?_
            refine w_iconst rfl (by decide) ?_
            exact w_zret rfl rfl (by decide) h
          · refine w_iload_n rfl rfl ?_
            refine w_bipush rfl (by decide) ?_
            refine w_icne rfl (w_ite h (fun h => ?_) (fun h => ?_))
            · refine w_aload_n rfl rfl ?_
              refine w_gfC (c := 359) rfl s_378 rfl rfl ?_
              refine w_iload_n rfl rfl ?_
              refine w_callV (t' := 0) [(0, r1)] [] rfl s_359 rfl rfl ?_
              refine w_C.more (Q := fun r4 m4 => _) h (fun r4 m4 h => ?_)
              replace h := id h
              refine w_aload_n rfl rfl ?_
              refine x_gfI rfl s_378 rfl (kk := 6) rfl rfl ?_
              refine w_icne rfl (w_ite h (fun h => ?_) (fun h => ?_))
              · refine w_iconst rfl (by decide) ?_
                refine w_istore (lv' := [some (2, 378), some (0, l1), some (0, r1), some (0, r2), some (0, 0)]) rfl rfl rfl ?_
                exact w_W.less h (w_sub [true, false, true, false, true] rfl)
              · refine w_iconst rfl (by decide) ?_
                exact w_zret rfl rfl (by decide) h
            · refine w_iconst rfl (by decide) ?_
              exact w_zret rfl rfl (by decide) h
        · refine w_iload_n rfl rfl ?_
          refine w_bipush rfl (by decide) ?_
          refine w_icne rfl (w_ite h (fun h => ?_) (fun h => ?_))
          · refine w_aload_n rfl rfl ?_
            refine w_gfC (c := 359) rfl s_378 rfl rfl ?_
            refine w_iload_n rfl rfl ?_
            refine w_callV (t' := 0) [(0, r1)] [] rfl s_359 rfl rfl ?_
            refine w_C.more (Q := fun r5 m5 => _) h (fun r5 m5 h => ?_)
            replace h := id h
            refine w_aload_n rfl rfl ?_
            refine x_gfI rfl s_378 rfl (kk := 6) rfl rfl ?_
            refine w_icne rfl (w_ite h (fun h => ?_) (fun h => ?_))
            · refine w_iconst rfl (by decide) ?_
              refine w_istore (lv' := [some (2, 378), some (0, l1), some (0, r1), some (0, r2), some (0, 0)]) rfl rfl rfl ?_
              exact w_W.less h (w_sub [true, false, true, false, true] rfl)
            · refine w_iconst rfl (by decide) ?_
              exact w_zret rfl rfl (by decide) h
          · refine w_iconst rfl (by decide) ?_
            exact w_zret rfl rfl (by decide) h
theorem xr_fi_readParms_91 {d : Nat} {l2 l4 : Int} {m : w_M} {Q : Int → w_M → Prop} (h : if l4 < (m 378 6) then (if l4 < 3 then (xc_st_part d l2 l4 m (fun r1 m1 => ((0 : Int) ≤ l4 ∧ l4 < 3) ∧ (xp_fi_readParms_91 d l2 (w_32 (l4 + 1)) (w_up m1 390 l4 r1) Q))) else (Q 1 m)) else (Q 1 m)) : xp_fi_readParms_91 d l2 l4 m Q := by
  refine w_iload rfl rfl ?_
  refine w_aload_n rfl rfl ?_
  refine x_gfI rfl s_378 rfl (kk := 6) rfl rfl ?_
  refine w_icge rfl (w_ite h (fun h => ?_) (fun h => ?_))
  · refine w_iload rfl rfl ?_
    refine w_iconst rfl (by decide) ?_
    refine w_icge rfl (w_ite h (fun h => ?_) (fun h => ?_))
    · refine w_aload_n rfl rfl ?_
      refine w_gfC (c := 390) rfl s_378 rfl rfl ?_
      refine w_iload rfl rfl ?_
      refine w_aload_n rfl rfl ?_
      refine w_gfC (c := 359) rfl s_378 rfl rfl ?_
      refine w_iload_n rfl rfl ?_
      refine w_iload rfl rfl ?_
      refine w_callV (t' := 0) [(0, l4), (0, l2)] [(0, l4), (2, 390)] rfl s_359 rfl rfl ?_
      refine w_C.more (Q := fun r1 m1 => _) h (fun r1 m1 h => ?_)
      replace h := id h
      refine w_iast rfl s_390 (w_EC (by decide)) (n := 3) rfl h.1 ?_
      replace h := h.2
      refine w_iinc (lv' := [some (2, 378), none, some (0, l2), none, some (0, w_32 (l4 + 1))]) rfl rfl rfl rfl ?_
      refine w_goto rfl ?_
      exact w_W.less h (w_sub [true, false, true, false, true] rfl)
    · refine w_goto rfl ?_
      refine w_iconst rfl (by decide) ?_
      exact w_zret rfl rfl (by decide) h
  · refine w_goto rfl ?_
    refine w_iconst rfl (by decide) ?_
    exact w_zret rfl rfl (by decide) h
theorem xr_fi_unpredict {d : Nat} {l0 l1 l2 : Int} {m : w_M} {Q : Int → w_M → Prop} (h : if l2 < 1 then (Q (-1) m) else (if l1 < 0 then (Q (-1) m) else (w_isR l0 ∧ (if (w_ln l0) < l1 then (Q (-1) m) else ((w_32 (l2 + 1)) ≠ 0 ∧ (if (w_rem l1 (w_32 (l2 + 1))) = 0 then (xp_fi_unpredict_33 d l0 l1 l2 (w_32 (l2 + 1)) 0 0 m Q) else (Q (-1) m))))))) : xc_fi_unpredict (d + 1) l0 l1 l2 m Q := by
  refine w_enter (q := 8) (lv := [some (2, l0), some (0, l1), some (0, l2), none, none, none, none, none, none, none, none]) rfl rfl rfl ?_
  refine w_iload_n rfl rfl ?_
  refine w_iconst rfl (by decide) ?_
  refine w_iadd rfl ?_
  refine w_istore_n (lv' := [some (2, l0), some (0, l1), some (0, l2), some (0, w_32 (l2 + 1)), none, none, none, none, none, none, none]) rfl rfl rfl ?_
  refine w_iload_n rfl rfl ?_
  refine w_iconst rfl (by decide) ?_
  refine w_iclt rfl (w_ite h (fun h => ?_) (fun h => ?_))
  · refine w_iconst rfl (by decide) ?_
    exact w_iret rfl rfl h
  · refine w_iload_n rfl rfl ?_
    refine w_iflt rfl (w_ite h (fun h => ?_) (fun h => ?_))
    · refine w_iconst rfl (by decide) ?_
      exact w_iret rfl rfl h
    · refine w_iload_n rfl rfl ?_
      refine w_aload_n rfl rfl ?_
      refine x_len rfl h.1 ?_
      replace h := h.2
      refine w_icgt rfl (w_ite h (fun h => ?_) (fun h => ?_))
      · refine w_iconst rfl (by decide) ?_
        exact w_iret rfl rfl h
      · refine w_iload_n rfl rfl ?_
        refine w_iload_n rfl rfl ?_
        refine w_irem rfl h.1 ?_
        replace h := h.2
        refine w_ifeq rfl (w_ite h (fun h => ?_) (fun h => ?_))
        · refine w_iconst rfl (by decide) ?_
          refine w_istore (lv' := [some (2, l0), some (0, l1), some (0, l2), some (0, w_32 (l2 + 1)), some (0, 0), none, none, none, none, none, none]) rfl rfl rfl ?_
          refine w_iconst rfl (by decide) ?_
          refine w_istore (lv' := [some (2, l0), some (0, l1), some (0, l2), some (0, w_32 (l2 + 1)), some (0, 0), some (0, 0), none, none, none, none, none]) rfl rfl rfl ?_
          exact w_W.less h (w_sub [true, true, true, true, true, true, false, false, false, false, false] rfl)
        · refine w_iconst rfl (by decide) ?_
          exact w_iret rfl rfl h
theorem xr_fi_unpredict_33 {d : Nat} {l0 l1 l2 l3 l4 l5 : Int} {m : w_M} {Q : Int → w_M → Prop} (h : if l5 < l1 then (w_isA 1 l0 ∧ ((0 : Int) ≤ l5 ∧ l5 < w_ln l0) ∧ (if 4 < ((m l0 l5) % 256) then (Q (-1) m) else (xp_fi_unpredict_60 d l0 l1 l2 l3 l4 l5 ((m l0 l5) % 256) 0 m Q))) else (Q l4 m)) : xp_fi_unpredict_33 d l0 l1 l2 l3 l4 l5 m Q := by
  refine w_iload rfl rfl ?_
  refine w_iload_n rfl rfl ?_
  refine w_icge rfl (w_ite h (fun h => ?_) (fun h => ?_))
  · refine w_aload_n rfl rfl ?_
    refine w_iload rfl rfl ?_
    refine x_bald rfl h.1 h.2.1 ?_
    replace h := h.2.2
    refine w_sipush rfl (by decide) ?_
    refine w_iandm 8 (c := 256) rfl (by decide) rfl rfl ?_
    refine w_istore (lv' := [some (2, l0), some (0, l1), some (0, l2), some (0, l3), some (0, l4), some (0, l5), some (0, (m l0 l5) % 256), none, none, none, none]) rfl rfl rfl ?_
    refine w_iload rfl rfl ?_
    refine w_iconst rfl (by decide) ?_
    refine w_icle rfl (w_ite h (fun h => ?_) (fun h => ?_))
    · refine w_iconst rfl (by decide) ?_
      exact w_iret rfl rfl h
    · refine w_iconst rfl (by decide) ?_
      refine w_istore (lv' := [some (2, l0), some (0, l1), some (0, l2), some (0, l3), some (0, l4), some (0, l5), some (0, (m l0 l5) % 256), some (0, 0), none, none, none]) rfl rfl rfl ?_
      exact w_W.less h (w_sub [true, true, true, true, true, true, true, true, false, false, false] rfl)
  · refine w_iload rfl rfl ?_
    exact w_iret rfl rfl h
theorem xr_fi_unpredict_60 {d : Nat} {l0 l1 l2 l3 l4 l5 l6 l7 : Int} {m : w_M} {Q : Int → w_M → Prop} (h : if l7 < l2 then (if 0 < l7 then (w_isA 1 l0 ∧ ((0 : Int) ≤ (w_32 (l4 - 1)) ∧ (w_32 (l4 - 1)) < w_ln l0) ∧ (if 0 < l5 then (w_isA 1 l0 ∧ ((0 : Int) ≤ (w_32 (l4 - l2)) ∧ (w_32 (l4 - l2)) < w_ln l0) ∧ (xp_fi_unpredict_106 d l0 l1 l2 l3 l4 l5 l6 l7 ((m l0 (w_32 (l4 - 1))) % 256) ((m l0 (w_32 (l4 - l2))) % 256) m Q)) else (xp_fi_unpredict_106 d l0 l1 l2 l3 l4 l5 l6 l7 ((m l0 (w_32 (l4 - 1))) % 256) 0 m Q))) else (if 0 < l5 then (w_isA 1 l0 ∧ ((0 : Int) ≤ (w_32 (l4 - l2)) ∧ (w_32 (l4 - l2)) < w_ln l0) ∧ (xp_fi_unpredict_106 d l0 l1 l2 l3 l4 l5 l6 l7 0 ((m l0 (w_32 (l4 - l2))) % 256) m Q)) else (xp_fi_unpredict_106 d l0 l1 l2 l3 l4 l5 l6 l7 0 0 m Q))) else (xp_fi_unpredict_33 d l0 l1 l2 l3 l4 (w_32 (l5 + l3)) m Q)) : xp_fi_unpredict_60 d l0 l1 l2 l3 l4 l5 l6 l7 m Q := by
  refine w_iload rfl rfl ?_
  refine w_iload_n rfl rfl ?_
  refine w_icge rfl (w_ite h (fun h => ?_) (fun h => ?_))
  · refine w_iload rfl rfl ?_
    refine w_ifle rfl (w_ite h (fun h => ?_) (fun h => ?_))
    · refine w_aload_n rfl rfl ?_
      refine w_iload rfl rfl ?_
      refine w_iconst rfl (by decide) ?_
      refine w_isub rfl ?_
      refine x_bald rfl h.1 h.2.1 ?_
      replace h := h.2.2
      refine w_sipush rfl (by decide) ?_
      refine w_iandm 8 (c := 256) rfl (by decide) rfl rfl ?_
      refine w_goto rfl ?_
      refine w_istore (lv' := [some (2, l0), some (0, l1), some (0, l2), some (0, l3), some (0, l4), some (0, l5), some (0, l6), some (0, l7), some (0, (m l0 (w_32 (l4 - 1))) % 256), none, none]) rfl rfl rfl ?_
      refine w_iload rfl rfl ?_
      refine w_ifle rfl (w_ite h (fun h => ?_) (fun h => ?_))
      · refine w_aload_n rfl rfl ?_
        refine w_iload rfl rfl ?_
        refine w_iload_n rfl rfl ?_
        refine w_isub rfl ?_
        refine x_bald rfl h.1 h.2.1 ?_
        replace h := h.2.2
        refine w_sipush rfl (by decide) ?_
        refine w_iandm 8 (c := 256) rfl (by decide) rfl rfl ?_
        refine w_goto rfl ?_
        exact w_W.less h (w_sub [true, true, true, true, true, true, true, true, true, false, false] rfl)
      · refine w_iconst rfl (by decide) ?_
        exact w_W.less h (w_sub [true, true, true, true, true, true, true, true, true, false, false] rfl)
    · refine w_iconst rfl (by decide) ?_
      refine w_istore (lv' := [some (2, l0), some (0, l1), some (0, l2), some (0, l3), some (0, l4), some (0, l5), some (0, l6), some (0, l7), some (0, 0), none, none]) rfl rfl rfl ?_
      refine w_iload rfl rfl ?_
      refine w_ifle rfl (w_ite h (fun h => ?_) (fun h => ?_))
      · refine w_aload_n rfl rfl ?_
        refine w_iload rfl rfl ?_
        refine w_iload_n rfl rfl ?_
        refine w_isub rfl ?_
        refine x_bald rfl h.1 h.2.1 ?_
        replace h := h.2.2
        refine w_sipush rfl (by decide) ?_
        refine w_iandm 8 (c := 256) rfl (by decide) rfl rfl ?_
        refine w_goto rfl ?_
        exact w_W.less h (w_sub [true, true, true, true, true, true, true, true, true, false, false] rfl)
      · refine w_iconst rfl (by decide) ?_
        exact w_W.less h (w_sub [true, true, true, true, true, true, true, true, true, false, false] rfl)
  · refine w_iload rfl rfl ?_
    refine w_iload_n rfl rfl ?_
    refine w_iadd rfl ?_
    refine w_istore (lv' := [some (2, l0), some (0, l1), some (0, l2), some (0, l3), some (0, l4), some (0, w_32 (l5 + l3)), some (0, l6), some (0, l7), none, none, none]) rfl rfl rfl ?_
    refine w_goto rfl ?_
    exact w_W.less h (w_sub [true, true, true, true, true, true, false, false, false, false, false] rfl)
theorem xr_fi_unpredict_106 {d : Nat} {l0 l1 l2 l3 l4 l5 l6 l7 l8 s0 : Int} {m : w_M} {Q : Int → w_M → Prop} (h : if 0 < l7 then (if 0 < l5 then (w_isA 1 l0 ∧ ((0 : Int) ≤ (w_32 ((w_32 (l4 - l2)) - 1)) ∧ (w_32 ((w_32 (l4 - l2)) - 1)) < w_ln l0) ∧ (w_isA 1 l0 ∧ ((0 : Int) ≤ (w_32 ((w_32 (l5 + 1)) + l7)) ∧ (w_32 ((w_32 (l5 + 1)) + l7)) < w_ln l0) ∧ (xc_fi_guess d l6 l8 s0 ((m l0 (w_32 ((w_32 (l4 - l2)) - 1))) % 256) m (fun r1 m1 => w_isA 1 l0 ∧ w_wr (w_G0 sC) (Int.toNat l0) ∧ ((0 : Int) ≤ l4 ∧ l4 < w_ln l0) ∧ (xp_fi_unpredict_60 d l0 l1 l2 l3 (w_32 (l4 + 1)) l5 l6 (w_32 (l7 + 1)) (w_up m1 l0 l4 (w_8 (w_8 (w_32 ((m l0 (w_32 ((w_32 (l5 + 1)) + l7))) + r1))))) Q))))) else (xp_fi_unpredict_133 d l0 l1 l2 l3 l4 l5 l6 l7 l8 s0 m Q)) else (xp_fi_unpredict_133 d l0 l1 l2 l3 l4 l5 l6 l7 l8 s0 m Q)) : xp_fi_unpredict_106 d l0 l1 l2 l3 l4 l5 l6 l7 l8 s0 m Q := by
  refine w_istore (lv' := [some (2, l0), some (0, l1), some (0, l2), some (0, l3), some (0, l4), some (0, l5), some (0, l6), some (0, l7), some (0, l8), some (0, s0), none]) rfl rfl rfl ?_
  refine w_iload rfl rfl ?_
  refine w_ifle rfl (w_ite h (fun h => ?_) (fun h => ?_))
  · refine w_iload rfl rfl ?_
    refine w_ifle rfl (w_ite h (fun h => ?_) (fun h => ?_))
    · refine w_aload_n rfl rfl ?_
      refine w_iload rfl rfl ?_
      refine w_iload_n rfl rfl ?_
      refine w_isub rfl ?_
      refine w_iconst rfl (by decide) ?_
      refine w_isub rfl ?_
      refine x_bald rfl h.1 h.2.1 ?_
      replace h := h.2.2
      refine w_sipush rfl (by decide) ?_
      refine w_iandm 8 (c := 256) rfl (by decide) rfl rfl ?_
      refine w_goto rfl ?_
      refine w_istore (lv' := [some (2, l0), some (0, l1), some (0, l2), some (0, l3), some (0, l4), some (0, l5), some (0, l6), some (0, l7), some (0, l8), some (0, s0), some (0, (m l0 (w_32 ((w_32 (l4 - l2)) - 1))) % 256)]) rfl rfl rfl ?_
      refine w_aload_n rfl rfl ?_
      refine w_iload rfl rfl ?_
      refine w_aload_n rfl rfl ?_
      refine w_iload rfl rfl ?_
      refine w_iconst rfl (by decide) ?_
      refine w_iadd rfl ?_
      refine w_iload rfl rfl ?_
      refine w_iadd rfl ?_
      refine x_bald rfl h.1 h.2.1 ?_
      replace h := h.2.2
      refine w_iload rfl rfl ?_
      refine w_iload rfl rfl ?_
      refine w_iload rfl rfl ?_
      refine w_iload rfl rfl ?_
      refine w_callS (t' := 0) [(0, (m l0 (w_32 ((w_32 (l4 - l2)) - 1))) % 256), (0, s0), (0, l8), (0, l6)] [(0, m l0 (w_32 ((w_32 (l5 + 1)) + l7))), (0, l4), (2, l0)] rfl (by decide) rfl rfl ?_
      refine w_C.more (Q := fun r1 m1 => _) h (fun r1 m1 h => ?_)
      replace h := id h
      refine w_iadd rfl ?_
      refine w_i2b rfl ?_
      refine x_bast rfl h.1 h.2.1 h.2.2.1 ?_
      replace h := h.2.2.2
      refine w_iinc (lv' := [some (2, l0), some (0, l1), some (0, l2), some (0, l3), some (0, w_32 (l4 + 1)), some (0, l5), some (0, l6), some (0, l7), some (0, l8), some (0, s0), some (0, (m l0 (w_32 ((w_32 (l4 - l2)) - 1))) % 256)]) rfl rfl rfl rfl ?_
      refine w_iinc (lv' := [some (2, l0), some (0, l1), some (0, l2), some (0, l3), some (0, w_32 (l4 + 1)), some (0, l5), some (0, l6), some (0, w_32 (l7 + 1)), some (0, l8), some (0, s0), some (0, (m l0 (w_32 ((w_32 (l4 - l2)) - 1))) % 256)]) rfl rfl rfl rfl ?_
      refine w_goto rfl ?_
      exact w_W.less h (w_sub [true, true, true, true, true, true, true, true, false, false, false] rfl)
    · exact w_W.less h (w_sub [true, true, true, true, true, true, true, true, true, true, false] rfl)
  · exact w_W.less h (w_sub [true, true, true, true, true, true, true, true, true, true, false] rfl)
theorem xr_fi_unpredict_133 {d : Nat} {l0 l1 l2 l3 l4 l5 l6 l7 l8 l9 : Int} {m : w_M} {Q : Int → w_M → Prop} (h : w_isA 1 l0 ∧ ((0 : Int) ≤ (w_32 ((w_32 (l5 + 1)) + l7)) ∧ (w_32 ((w_32 (l5 + 1)) + l7)) < w_ln l0) ∧ (xc_fi_guess d l6 l8 l9 0 m (fun r1 m1 => w_isA 1 l0 ∧ w_wr (w_G0 sC) (Int.toNat l0) ∧ ((0 : Int) ≤ l4 ∧ l4 < w_ln l0) ∧ (xp_fi_unpredict_60 d l0 l1 l2 l3 (w_32 (l4 + 1)) l5 l6 (w_32 (l7 + 1)) (w_up m1 l0 l4 (w_8 (w_8 (w_32 ((m l0 (w_32 ((w_32 (l5 + 1)) + l7))) + r1))))) Q)))) : xp_fi_unpredict_133 d l0 l1 l2 l3 l4 l5 l6 l7 l8 l9 m Q := by
  refine w_iconst rfl (by decide) ?_
  refine w_istore (lv' := [some (2, l0), some (0, l1), some (0, l2), some (0, l3), some (0, l4), some (0, l5), some (0, l6), some (0, l7), some (0, l8), some (0, l9), some (0, 0)]) rfl rfl rfl ?_
  refine w_aload_n rfl rfl ?_
  refine w_iload rfl rfl ?_
  refine w_aload_n rfl rfl ?_
  refine w_iload rfl rfl ?_
  refine w_iconst rfl (by decide) ?_
  refine w_iadd rfl ?_
  refine w_iload rfl rfl ?_
  refine w_iadd rfl ?_
  refine x_bald rfl h.1 h.2.1 ?_
  replace h := h.2.2
  refine w_iload rfl rfl ?_
  refine w_iload rfl rfl ?_
  refine w_iload rfl rfl ?_
  refine w_iload rfl rfl ?_
  refine w_callS (t' := 0) [(0, 0), (0, l9), (0, l8), (0, l6)] [(0, m l0 (w_32 ((w_32 (l5 + 1)) + l7))), (0, l4), (2, l0)] rfl (by decide) rfl rfl ?_
  refine w_C.more (Q := fun r1 m1 => _) h (fun r1 m1 h => ?_)
  replace h := id h
  refine w_iadd rfl ?_
  refine w_i2b rfl ?_
  refine x_bast rfl h.1 h.2.1 h.2.2.1 ?_
  replace h := h.2.2.2
  refine w_iinc (lv' := [some (2, l0), some (0, l1), some (0, l2), some (0, l3), some (0, w_32 (l4 + 1)), some (0, l5), some (0, l6), some (0, l7), some (0, l8), some (0, l9), some (0, 0)]) rfl rfl rfl rfl ?_
  refine w_iinc (lv' := [some (2, l0), some (0, l1), some (0, l2), some (0, l3), some (0, w_32 (l4 + 1)), some (0, l5), some (0, l6), some (0, w_32 (l7 + 1)), some (0, l8), some (0, l9), some (0, 0)]) rfl rfl rfl rfl ?_
  refine w_goto rfl ?_
  exact w_W.less h (w_sub [true, true, true, true, true, true, true, true, false, false, false] rfl)
theorem xr_fi_wholeOr {d : Nat} {l1 l2 l3 : Int} {m : w_M} {Q : Int → w_M → Prop} (h : xc_st_entry d l1 l2 m (fun r1 m1 => if r1 < 0 then (Q l3 m1) else (xc_st_kindOf d r1 m1 (fun r2 m2 => if r2 = 2 then (xc_st_oneOf d r1 m2 (fun r3 m3 => Q (max (-1) r3) m3)) else (Q (-1) m2))))) : xc_fi_wholeOr (d + 1) l1 l2 l3 m Q := by
  refine w_enter (q := 1) (lv := [some (2, 378), some (0, l1), some (0, l2), some (0, l3), none]) rfl rfl rfl ?_
  refine w_aload_n rfl rfl ?_
  refine w_gfC (c := 359) rfl s_378 rfl rfl ?_
  refine w_iload_n rfl rfl ?_
  refine w_iload_n rfl rfl ?_
  refine w_callV (t' := 0) [(0, l2), (0, l1)] [] rfl s_359 rfl rfl ?_
  refine w_C.more (Q := fun r1 m1 => _) h (fun r1 m1 h => ?_)
  replace h := id h
  refine w_istore (lv' := [some (2, 378), some (0, l1), some (0, l2), some (0, l3), some (0, r1)]) rfl rfl rfl ?_
  refine w_iload rfl rfl ?_
  refine w_ifge rfl (w_ite h (fun h => ?_) (fun h => ?_))
  · refine w_iload_n rfl rfl ?_
    exact w_iret rfl rfl h
  · refine w_aload_n rfl rfl ?_
    refine w_gfC (c := 359) rfl s_378 rfl rfl ?_
    refine w_iload rfl rfl ?_
    refine w_callV (t' := 0) [(0, r1)] [] rfl s_359 rfl rfl ?_
    refine w_C.more (Q := fun r2 m2 => _) h (fun r2 m2 h => ?_)
    replace h := id h
    refine w_iconst rfl (by decide) ?_
    refine w_icne rfl (w_ite h (fun h => ?_) (fun h => ?_))
    · refine w_iconst rfl (by decide) ?_
      refine w_aload_n rfl rfl ?_
      refine w_gfC (c := 359) rfl s_378 rfl rfl ?_
      refine w_iload rfl rfl ?_
      refine w_callV (t' := 0) [(0, r1)] [(0, (-1))] rfl s_359 rfl rfl ?_
      refine w_C.more (Q := fun r3 m3 => _) h (fun r3 m3 h => ?_)
      replace h := id h
      refine w_max rfl rfl ?_
      refine w_goto rfl ?_
      exact w_iret rfl rfl h
    · refine w_iconst rfl (by decide) ?_
      exact w_iret rfl rfl h
theorem xr_in_bits {d : Nat} {l1 : Int} {m : w_M} {Q : Int → w_M → Prop} (h : xp_in_bits_0 d l1 m Q) : xc_in_bits (d + 1) l1 m Q := by
  refine w_enter (q := 1) (lv := [some (2, 379), some (0, l1), none]) rfl rfl rfl (w_W.less h (w_sub [true, true, false] rfl))
theorem xr_in_bits_0 {d : Nat} {l1 : Int} {m : w_M} {Q : Int → w_M → Prop} (h : if (m 379 14) < l1 then (if (m 379 7) < 0 then (Q (-1) m) else (if (m 379 7) < (m 379 8) then ((0 : Int) ≤ (m 379 6) ∧ (w_isR (m 379 6) ∧ (if (m 379 7) < (w_ln (m 379 6)) then ((0 : Int) ≤ (m 379 6) ∧ (w_isA 1 (m 379 6) ∧ ((0 : Int) ≤ (m 379 7) ∧ (m 379 7) < w_ln (m 379 6)) ∧ (xp_in_bits_0 d l1 (w_up (w_up (w_up m 379 13 (w_or (m 379 13) (w_shl ((m (m 379 6) (m 379 7)) % 256) (m 379 14)))) 379 14 (w_32 ((m 379 14) + 8))) 379 7 (w_32 ((m 379 7) + 1))) Q))) else (Q (-1) m)))) else (Q (-1) m))) else (Q (w_and (m 379 13) (w_32 ((w_shl 1 l1) - 1))) (w_up (w_up m 379 13 (w_ushr (m 379 13) l1)) 379 14 (w_32 ((m 379 14) - l1))))) : xp_in_bits_0 d l1 m Q := by
  refine w_aload_n rfl rfl ?_
  refine x_gfI rfl s_379 rfl (kk := 14) rfl rfl ?_
  refine w_iload_n rfl rfl ?_
  refine w_icge rfl (w_ite h (fun h => ?_) (fun h => ?_))
  · refine w_aload_n rfl rfl ?_
    refine x_gfI rfl s_379 rfl (kk := 7) rfl rfl ?_
    refine w_iflt rfl (w_ite h (fun h => ?_) (fun h => ?_))
    · refine w_iconst rfl (by decide) ?_
      exact w_iret rfl rfl h
    · refine w_aload_n rfl rfl ?_
      refine x_gfI rfl s_379 rfl (kk := 7) rfl rfl ?_
      refine w_aload_n rfl rfl ?_
      refine x_gfI rfl s_379 rfl (kk := 8) rfl rfl ?_
      refine w_icge rfl (w_ite h (fun h => ?_) (fun h => ?_))
      · refine w_aload_n rfl rfl ?_
        refine x_gfI rfl s_379 rfl (kk := 7) rfl rfl ?_
        refine w_aload_n rfl rfl ?_
        refine x_gfR rfl s_379 rfl (kk := 6) rfl rfl h.1 ?_
        replace h := h.2
        refine x_len rfl h.1 ?_
        replace h := h.2
        refine w_iclt rfl (w_ite h (fun h => ?_) (fun h => ?_))
        · refine w_aload_n rfl rfl ?_
          refine w_dup rfl (show (2 : Nat) ≠ 1 by decide) ?_
          refine x_gfI rfl s_379 rfl (kk := 13) rfl rfl ?_
          refine w_aload_n rfl rfl ?_
          refine x_gfR rfl s_379 rfl (kk := 6) rfl rfl h.1 ?_
          replace h := h.2
          refine w_aload_n rfl rfl ?_
          refine x_gfI rfl s_379 rfl (kk := 7) rfl rfl ?_
          refine x_bald rfl h.1 h.2.1 ?_
          replace h := h.2.2
          refine w_sipush rfl (by decide) ?_
          refine w_iandm 8 (c := 256) rfl (by decide) rfl rfl ?_
          refine w_aload_n rfl rfl ?_
          refine x_gfI rfl s_379 rfl (kk := 14) rfl rfl ?_
          refine w_ishl rfl ?_
          refine w_ior rfl ?_
          refine w_pfI rfl s_379 rfl (w_EC (by decide)) rfl (kk := 13) rfl ?_
          refine w_aload_n rfl rfl ?_
          refine w_dup rfl (show (2 : Nat) ≠ 1 by decide) ?_
          refine x_gfI rfl s_379 rfl (kk := 14) rfl (w_up_nb (by decide)) ?_
          refine w_bipush rfl (by decide) ?_
          refine w_iadd rfl ?_
          refine w_pfI rfl s_379 rfl (w_EC (by decide)) rfl (kk := 14) rfl ?_
          refine w_aload_n rfl rfl ?_
          refine w_dup rfl (show (2 : Nat) ≠ 1 by decide) ?_
          refine x_gfI rfl s_379 rfl (kk := 7) rfl ((w_up_nb (by decide)).trans (w_up_nb (by decide))) ?_
          refine w_iconst rfl (by decide) ?_
          refine w_iadd rfl ?_
          refine w_pfI rfl s_379 rfl (w_EC (by decide)) rfl (kk := 7) rfl ?_
          refine w_goto rfl ?_
          exact w_W.less h (w_sub [true, true, false] rfl)
        · refine w_iconst rfl (by decide) ?_
          exact w_iret rfl rfl h
      · refine w_iconst rfl (by decide) ?_
        exact w_iret rfl rfl h
  · refine w_aload_n rfl rfl ?_
    refine x_gfI rfl s_379 rfl (kk := 13) rfl rfl ?_
    refine w_iconst rfl (by decide) ?_
    refine w_iload_n rfl rfl ?_
    refine w_ishl rfl ?_
    refine w_iconst rfl (by decide) ?_
    refine w_isub rfl ?_
    refine w_iand rfl ?_
    refine w_istore_n (lv' := [some (2, 379), some (0, l1), some (0, w_and (m 379 13) (w_32 ((w_shl 1 l1) - 1)))]) rfl rfl rfl ?_
    refine w_aload_n rfl rfl ?_
    refine w_dup rfl (show (2 : Nat) ≠ 1 by decide) ?_
    refine x_gfI rfl s_379 rfl (kk := 13) rfl rfl ?_
    refine w_iload_n rfl rfl ?_
    refine w_iushr rfl ?_
    refine w_pfI rfl s_379 rfl (w_EC (by decide)) rfl (kk := 13) rfl ?_
    refine w_aload_n rfl rfl ?_
    refine w_dup rfl (show (2 : Nat) ≠ 1 by decide) ?_
    refine x_gfI rfl s_379 rfl (kk := 14) rfl (w_up_nb (by decide)) ?_
    refine w_iload_n rfl rfl ?_
    refine w_isub rfl ?_
    refine w_pfI rfl s_379 rfl (w_EC (by decide)) rfl (kk := 14) rfl ?_
    refine w_iload_n rfl rfl ?_
    exact w_iret rfl rfl h
theorem xr_in_build {d : Nat} {l1 l2 l3 l4 : Int} {m : w_M} {Q : Int → w_M → Prop} (h : xc_ja_fill sC d l1 0 m (fun r1 m1 => xp_in_build_8 d l1 l2 l3 l4 0 m1 Q)) : xc_in_build (d + 1) l1 l2 l3 l4 m Q := by
  refine w_enter (q := 3) (lv := [some (2, 379), some (2, l1), some (2, l2), some (0, l3), some (0, l4), none, none, none]) rfl rfl rfl ?_
  refine w_aload_n rfl rfl ?_
  refine w_iconst rfl (by decide) ?_
  refine w_callS (t' := 3) [(0, 0), (2, l1)] [] rfl (by decide) rfl rfl ?_
  refine w_C.more (Q := fun r1 m1 => _) h (fun r1 m1 h => ?_)
  replace h := id h
  refine w_iconst rfl (by decide) ?_
  refine w_istore (lv' := [some (2, 379), some (2, l1), some (2, l2), some (0, l3), some (0, l4), some (0, 0), none, none]) rfl rfl rfl ?_
  exact w_W.less h (w_sub [true, true, true, true, true, true, false, false] rfl)
theorem xr_in_build_8 {d : Nat} {l1 l2 l3 l4 l5 : Int} {m : w_M} {Q : Int → w_M → Prop} (h : if l5 < l4 then (((0 : Int) ≤ (w_32 (l3 + l5)) ∧ (w_32 (l3 + l5)) < 320) ∧ (w_isA 0 l1 ∧ ((0 : Int) ≤ ((m 380 (w_32 (l3 + l5))) % 16) ∧ ((m 380 (w_32 (l3 + l5))) % 16) < w_ln l1) ∧ (w_isA 0 l1 ∧ w_wr (w_G0 sC) (Int.toNat l1) ∧ ((0 : Int) ≤ ((m 380 (w_32 (l3 + l5))) % 16) ∧ ((m 380 (w_32 (l3 + l5))) % 16) < w_ln l1) ∧ (xp_in_build_8 d l1 l2 l3 l4 (w_32 (l5 + 1)) (w_up m l1 ((m 380 (w_32 (l3 + l5))) % 16) (w_32 ((m l1 ((m 380 (w_32 (l3 + l5))) % 16)) + 1))) Q)))) else (xp_in_build_52 d l1 l2 l3 l4 1 1 (w_up m 385 1 0) Q)) : xp_in_build_8 d l1 l2 l3 l4 l5 m Q := by
  refine w_iload rfl rfl ?_
  refine w_iload rfl rfl ?_
  refine w_icge rfl (w_ite h (fun h => ?_) (fun h => ?_))
  · refine w_aload_n rfl rfl ?_
    refine w_aload_n rfl rfl ?_
    refine w_gfC (c := 380) rfl s_379 rfl rfl ?_
    refine w_iload_n rfl rfl ?_
    refine w_iload rfl rfl ?_
    refine w_iadd rfl ?_
    refine w_iald rfl s_380 (n := 320) rfl h.1 ?_
    replace h := h.2
    refine w_bipush rfl (by decide) ?_
    refine w_iandm 4 (c := 16) rfl (by decide) rfl rfl ?_
    refine w_dup2 rfl (show (0 : Nat) ≠ 1 by decide) (show (2 : Nat) ≠ 1 by decide) ?_
    refine x_iald rfl h.1 h.2.1 ?_
    replace h := h.2.2
    refine w_iconst rfl (by decide) ?_
    refine w_iadd rfl ?_
    refine x_iast rfl h.1 h.2.1 h.2.2.1 ?_
    replace h := h.2.2.2
    refine w_iinc (lv' := [some (2, 379), some (2, l1), some (2, l2), some (0, l3), some (0, l4), some (0, w_32 (l5 + 1)), none, none]) rfl rfl rfl rfl ?_
    refine w_goto rfl ?_
    exact w_W.less h (w_sub [true, true, true, true, true, true, false, false] rfl)
  · refine w_iconst rfl (by decide) ?_
    refine w_istore (lv' := [some (2, 379), some (2, l1), some (2, l2), some (0, l3), some (0, l4), some (0, 1), none, none]) rfl rfl rfl ?_
    refine w_aload_n rfl rfl ?_
    refine w_gfC (c := 385) rfl s_379 rfl rfl ?_
    refine w_iconst rfl (by decide) ?_
    refine w_iconst rfl (by decide) ?_
    refine w_iast rfl s_385 (w_EC (by decide)) (n := 16) rfl (by decide) ?_
    refine w_iconst rfl (by decide) ?_
    refine w_istore (lv' := [some (2, 379), some (2, l1), some (2, l2), some (0, l3), some (0, l4), some (0, 1), some (0, 1), none]) rfl rfl rfl ?_
    exact w_W.less h (w_sub [true, true, true, true, true, true, true, false] rfl)
theorem xr_in_build_52 {d : Nat} {l1 l2 l3 l4 l5 l6 : Int} {m : w_M} {Q : Int → w_M → Prop} (h : if 15 < l6 then (xp_in_build_115 d l2 l3 l4 l5 0 m Q) else (w_isA 0 l1 ∧ ((0 : Int) ≤ l6 ∧ l6 < w_ln l1) ∧ (if (w_32 ((w_32 (l5 * 2)) - (m l1 l6))) < 0 then (Q (w_32 ((w_32 (l5 * 2)) - (m l1 l6))) m) else (if l6 < 15 then (((0 : Int) ≤ l6 ∧ l6 < 16) ∧ (w_isA 0 l1 ∧ ((0 : Int) ≤ l6 ∧ l6 < w_ln l1) ∧ (((0 : Int) ≤ (w_32 (l6 + 1)) ∧ (w_32 (l6 + 1)) < 16) ∧ (xp_in_build_52 d l1 l2 l3 l4 (w_32 ((w_32 (l5 * 2)) - (m l1 l6))) (w_32 (l6 + 1)) (w_up m 385 (w_32 (l6 + 1)) (w_32 ((m 385 l6) + (m l1 l6)))) Q)))) else (xp_in_build_52 d l1 l2 l3 l4 (w_32 ((w_32 (l5 * 2)) - (m l1 l6))) (w_32 (l6 + 1)) m Q))))) : xp_in_build_52 d l1 l2 l3 l4 l5 l6 m Q := by
  refine w_iload rfl rfl ?_
  refine w_bipush rfl (by decide) ?_
  refine w_icgt rfl (w_ite h (fun h => ?_) (fun h => ?_))
  · refine w_iconst rfl (by decide) ?_
    refine w_istore (lv' := [some (2, 379), some (2, l1), some (2, l2), some (0, l3), some (0, l4), some (0, l5), some (0, 0), none]) rfl rfl rfl ?_
    exact w_W.less h (w_sub [true, false, true, true, true, true, true, false] rfl)
  · refine w_iload rfl rfl ?_
    refine w_iconst rfl (by decide) ?_
    refine w_imul rfl ?_
    refine w_aload_n rfl rfl ?_
    refine w_iload rfl rfl ?_
    refine x_iald rfl h.1 h.2.1 ?_
    replace h := h.2.2
    refine w_isub rfl ?_
    refine w_istore (lv' := [some (2, 379), some (2, l1), some (2, l2), some (0, l3), some (0, l4), some (0, w_32 ((w_32 (l5 * 2)) - (m l1 l6))), some (0, l6), none]) rfl rfl rfl ?_
    refine w_iload rfl rfl ?_
    refine w_ifge rfl (w_ite h (fun h => ?_) (fun h => ?_))
    · refine w_iload rfl rfl ?_
      exact w_iret rfl rfl h
    · refine w_iload rfl rfl ?_
      refine w_bipush rfl (by decide) ?_
      refine w_icge rfl (w_ite h (fun h => ?_) (fun h => ?_))
      · refine w_aload_n rfl rfl ?_
        refine w_gfC (c := 385) rfl s_379 rfl rfl ?_
        refine w_iload rfl rfl ?_
        refine w_iconst rfl (by decide) ?_
        refine w_iadd rfl ?_
        refine w_aload_n rfl rfl ?_
        refine w_gfC (c := 385) rfl s_379 rfl rfl ?_
        refine w_iload rfl rfl ?_
        refine w_iald rfl s_385 (n := 16) rfl h.1 ?_
        replace h := h.2
        refine w_aload_n rfl rfl ?_
        refine w_iload rfl rfl ?_
        refine x_iald rfl h.1 h.2.1 ?_
        replace h := h.2.2
        refine w_iadd rfl ?_
        refine w_iast rfl s_385 (w_EC (by decide)) (n := 16) rfl h.1 ?_
        replace h := h.2
        refine w_iinc (lv' := [some (2, 379), some (2, l1), some (2, l2), some (0, l3), some (0, l4), some (0, w_32 ((w_32 (l5 * 2)) - (m l1 l6))), some (0, w_32 (l6 + 1)), none]) rfl rfl rfl rfl ?_
        refine w_goto rfl ?_
        exact w_W.less h (w_sub [true, true, true, true, true, true, true, false] rfl)
      · refine w_iinc (lv' := [some (2, 379), some (2, l1), some (2, l2), some (0, l3), some (0, l4), some (0, w_32 ((w_32 (l5 * 2)) - (m l1 l6))), some (0, w_32 (l6 + 1)), none]) rfl rfl rfl rfl ?_
        refine w_goto rfl ?_
        exact w_W.less h (w_sub [true, true, true, true, true, true, true, false] rfl)
theorem xr_in_build_115 {d : Nat} {l2 l3 l4 l5 l6 : Int} {m : w_M} {Q : Int → w_M → Prop} (h : if l6 < l4 then (((0 : Int) ≤ (w_32 (l3 + l6)) ∧ (w_32 (l3 + l6)) < 320) ∧ (if ((m 380 (w_32 (l3 + l6))) % 16) = 0 then (xp_in_build_115 d l2 l3 l4 l5 (w_32 (l6 + 1)) m Q) else (((0 : Int) ≤ ((m 380 (w_32 (l3 + l6))) % 16) ∧ ((m 380 (w_32 (l3 + l6))) % 16) < 16) ∧ (w_isR l2 ∧ (if (m 385 ((m 380 (w_32 (l3 + l6))) % 16)) < (w_ln l2) then (((0 : Int) ≤ ((m 380 (w_32 (l3 + l6))) % 16) ∧ ((m 380 (w_32 (l3 + l6))) % 16) < 16) ∧ (w_isA 0 l2 ∧ w_wr (w_G0 sC) (Int.toNat l2) ∧ ((0 : Int) ≤ (m 385 ((m 380 (w_32 (l3 + l6))) % 16)) ∧ (m 385 ((m 380 (w_32 (l3 + l6))) % 16)) < w_ln l2) ∧ (((0 : Int) ≤ ((m 380 (w_32 (l3 + l6))) % 16) ∧ ((m 380 (w_32 (l3 + l6))) % 16) < 16) ∧ (((0 : Int) ≤ ((m 380 (w_32 (l3 + l6))) % 16) ∧ ((m 380 (w_32 (l3 + l6))) % 16) < 16) ∧ (xp_in_build_115 d l2 l3 l4 l5 (w_32 (l6 + 1)) (w_up (w_up m l2 (m 385 ((m 380 (w_32 (l3 + l6))) % 16)) l6) 385 ((m 380 (w_32 (l3 + l6))) % 16) (w_32 (((w_up m l2 (m 385 ((m 380 (w_32 (l3 + l6))) % 16)) l6) 385 ((m 380 (w_32 (l3 + l6))) % 16)) + 1))) Q))))) else (xp_in_build_115 d l2 l3 l4 l5 (w_32 (l6 + 1)) m Q)))))) else (Q l5 m)) : xp_in_build_115 d l2 l3 l4 l5 l6 m Q := by
  refine w_iload rfl rfl ?_
  refine w_iload rfl rfl ?_
  refine w_icge rfl (w_ite h (fun h => ?_) (fun h => ?_))
  · refine w_aload_n rfl rfl ?_
    refine w_gfC (c := 380) rfl s_379 rfl rfl ?_
    refine w_iload_n rfl rfl ?_
    refine w_iload rfl rfl ?_
    refine w_iadd rfl ?_
    refine w_iald rfl s_380 (n := 320) rfl h.1 ?_
    replace h := h.2
    refine w_bipush rfl (by decide) ?_
    refine w_iandm 4 (c := 16) rfl (by decide) rfl rfl ?_
    refine w_istore (lv' := [some (2, 379), none, some (2, l2), some (0, l3), some (0, l4), some (0, l5), some (0, l6), some (0, (m 380 (w_32 (l3 + l6))) % 16)]) rfl rfl rfl ?_
    refine w_iload rfl rfl ?_
    refine w_ifeq rfl (w_ite h (fun h => ?_) (fun h => ?_))
    · refine w_iinc (lv' := [some (2, 379), none, some (2, l2), some (0, l3), some (0, l4), some (0, l5), some (0, w_32 (l6 + 1)), some (0, (m 380 (w_32 (l3 + l6))) % 16)]) rfl rfl rfl rfl ?_
      refine w_goto rfl ?_
      exact w_W.less h (w_sub [true, false, true, true, true, true, true, false] rfl)
    · refine w_aload_n rfl rfl ?_
      refine w_gfC (c := 385) rfl s_379 rfl rfl ?_
      refine w_iload rfl rfl ?_
      refine w_iald rfl s_385 (n := 16) rfl h.1 ?_
      replace h := h.2
      refine w_aload_n rfl rfl ?_
      refine x_len rfl h.1 ?_
      replace h := h.2
      refine w_icge rfl (w_ite h (fun h => ?_) (fun h => ?_))
      · refine w_aload_n rfl rfl ?_
        refine w_aload_n rfl rfl ?_
        refine w_gfC (c := 385) rfl s_379 rfl rfl ?_
        refine w_iload rfl rfl ?_
        refine w_iald rfl s_385 (n := 16) rfl h.1 ?_
        replace h := h.2
        refine w_iload rfl rfl ?_
        refine x_iast rfl h.1 h.2.1 h.2.2.1 ?_
        replace h := h.2.2.2
        refine w_aload_n rfl rfl ?_
        refine w_gfC (c := 385) rfl s_379 rfl rfl ?_
        refine w_iload rfl rfl ?_
        refine w_dup2 rfl (show (0 : Nat) ≠ 1 by decide) (show (2 : Nat) ≠ 1 by decide) ?_
        refine w_iald rfl s_385 (n := 16) rfl h.1 ?_
        replace h := h.2
        refine w_iconst rfl (by decide) ?_
        refine w_iadd rfl ?_
        refine w_iast rfl s_385 (w_EC (by decide)) (n := 16) rfl h.1 ?_
        replace h := h.2
        refine w_iinc (lv' := [some (2, 379), none, some (2, l2), some (0, l3), some (0, l4), some (0, l5), some (0, w_32 (l6 + 1)), some (0, (m 380 (w_32 (l3 + l6))) % 16)]) rfl rfl rfl rfl ?_
        refine w_goto rfl ?_
        exact w_W.less h (w_sub [true, false, true, true, true, true, true, false] rfl)
      · refine w_iinc (lv' := [some (2, 379), none, some (2, l2), some (0, l3), some (0, l4), some (0, l5), some (0, w_32 (l6 + 1)), some (0, (m 380 (w_32 (l3 + l6))) % 16)]) rfl rfl rfl rfl ?_
        refine w_goto rfl ?_
        exact w_W.less h (w_sub [true, false, true, true, true, true, true, false] rfl)
  · refine w_iload rfl rfl ?_
    exact w_iret rfl rfl h
theorem xr_in_decode {d : Nat} {m : w_M} {Q : Int → w_M → Prop} (h : xp_in_decode_2 d 0 m Q) : xc_in_decode (d + 1) m Q := by
  refine w_enter (q := 3) (lv := [some (2, 379), none, none, none]) rfl rfl rfl ?_
  refine w_iconst rfl (by decide) ?_
  refine w_istore_n (lv' := [some (2, 379), some (0, 0), none, none]) rfl rfl rfl ?_
  exact w_W.less h (w_sub [true, true, false, false] rfl)
theorem xr_in_decode_2 {d : Nat} {l1 : Int} {m : w_M} {Q : Int → w_M → Prop} (h : if 8000 < l1 then (Q 0 m) else (xc_in_symbol d 381 382 m (fun r1 m1 => if r1 = 256 then (Q 1 m1) else (if r1 < 0 then (Q 0 m1) else (if r1 < 256 then (xc_in_write d r1 m1 (fun r2 m2 => if r2 = 0 then (Q 0 m2) else (xp_in_decode_2 d (w_32 (l1 + 1)) m2 Q))) else (xc_in_row d (w_32 (r1 - 257)) m1 (fun r3 m3 => if r3 = 0 then (Q 0 m3) else (xp_in_decode_2 d (w_32 (l1 + 1)) m3 Q)))))))) : xp_in_decode_2 d l1 m Q := by
  refine w_iload_n rfl rfl ?_
  refine w_sipush rfl (by decide) ?_
  refine w_icgt rfl (w_ite h (fun h => ?_) (fun h => ?_))
  · refine w_iconst rfl (by decide) ?_
    exact w_zret rfl rfl (by decide) h
  · refine w_aload_n rfl rfl ?_
    refine w_aload_n rfl rfl ?_
    refine w_gfC (c := 381) rfl s_379 rfl rfl ?_
    refine w_aload_n rfl rfl ?_
    refine w_gfC (c := 382) rfl s_379 rfl rfl ?_
    refine w_callV (t' := 0) [(2, 382), (2, 381)] [] rfl s_379 rfl rfl ?_
    refine w_C.more (Q := fun r1 m1 => _) h (fun r1 m1 h => ?_)
    replace h := id h
    refine w_istore_n (lv' := [some (2, 379), some (0, l1), some (0, r1), none]) rfl rfl rfl ?_
    refine w_iload_n rfl rfl ?_
    refine w_sipush rfl (by decide) ?_
    refine w_icne rfl (w_ite h (fun h => ?_) (fun h => ?_))
    · refine w_iconst rfl (by decide) ?_
      exact w_zret rfl rfl (by decide) h
    · refine w_iload_n rfl rfl ?_
      refine w_iflt rfl (w_ite h (fun h => ?_) (fun h => ?_))
      · refine w_iconst rfl (by decide) ?_
        refine w_istore_n (lv' := [some (2, 379), some (0, l1), some (0, r1), some (0, 0)]) rfl rfl rfl ?_
        refine w_iload_n rfl rfl ?_
        refine w_ifne rfl (w_ift (by decide) ?_)
        refine w_iconst rfl (by decide) ?_
        exact w_zret rfl rfl (by decide) h
      · refine w_iload_n rfl rfl ?_
        refine w_sipush rfl (by decide) ?_
        refine w_icge rfl (w_ite h (fun h => ?_) (fun h => ?_))
        · refine w_aload_n rfl rfl ?_
          refine w_iload_n rfl rfl ?_
          refine w_callV (t' := 0) [(0, r1)] [] rfl s_379 rfl rfl ?_
          refine w_C.more (Q := fun r2 m2 => _) h (fun r2 m2 h => ?_)
          replace h := id h
          refine w_ifeq rfl (w_ite h (fun h => ?_) (fun h => ?_))
          · refine w_iconst rfl (by decide) ?_
            refine w_istore_n (lv' := [some (2, 379), some (0, l1), some (0, r1), some (0, 0)]) rfl rfl rfl ?_
            refine w_iload_n rfl rfl ?_
            refine w_ifne rfl (w_ift (by decide) ?_)
            refine w_iconst rfl (by decide) ?_
            exact w_zret rfl rfl (by decide) h
          · refine w_goto rfl ?_
            refine w_iconst rfl (by decide) ?_
            refine w_goto rfl ?_
            refine w_istore_n (lv' := [some (2, 379), some (0, l1), some (0, r1), some (0, 1)]) rfl rfl rfl ?_
            refine w_iload_n rfl rfl ?_
            refine w_ifne rfl (w_iff (by decide) ?_)
            refine w_iinc (lv' := [some (2, 379), some (0, w_32 (l1 + 1)), some (0, r1), some (0, 1)]) rfl rfl rfl rfl ?_
            refine w_goto rfl ?_
            exact w_W.less h (w_sub [true, true, false, false] rfl)
        · refine w_aload_n rfl rfl ?_
          refine w_iload_n rfl rfl ?_
          refine w_sipush rfl (by decide) ?_
          refine w_isub rfl ?_
          refine w_callV (t' := 0) [(0, w_32 (r1 - 257))] [] rfl s_379 rfl rfl ?_
          refine w_C.more (Q := fun r3 m3 => _) h (fun r3 m3 h => ?_)
          replace h := id h
          refine w_ifeq rfl (w_ite h (fun h => ?_) (fun h => ?_))
          · refine w_iconst rfl (by decide) ?_
            refine w_istore_n (lv' := [some (2, 379), some (0, l1), some (0, r1), some (0, 0)]) rfl rfl rfl ?_
            refine w_iload_n rfl rfl ?_
            refine w_ifne rfl (w_ift (by decide) ?_)
            refine w_iconst rfl (by decide) ?_
            exact w_zret rfl rfl (by decide) h
          · refine w_iconst rfl (by decide) ?_
            refine w_goto rfl ?_
            refine w_istore_n (lv' := [some (2, 379), some (0, l1), some (0, r1), some (0, 1)]) rfl rfl rfl ?_
            refine w_iload_n rfl rfl ?_
            refine w_ifne rfl (w_iff (by decide) ?_)
            refine w_iinc (lv' := [some (2, 379), some (0, w_32 (l1 + 1)), some (0, r1), some (0, 1)]) rfl rfl rfl rfl ?_
            refine w_goto rfl ?_
            exact w_W.less h (w_sub [true, true, false, false] rfl)
theorem xr_in_dynamicCodes {d : Nat} {m : w_M} {Q : Int → w_M → Prop} (h : if (m 380 256) = 0 then (Q 0 m) else (xc_in_build d 381 382 0 (m 379 11) m (fun r1 m1 => if r1 = 0 then (xc_in_build d 383 384 (m1 379 11) (m1 379 12) m1 (fun r2 m2 => if r2 = 0 then (Q 1 m2) else (if 0 < r2 then (if (m2 383 0) = (m2 379 12) then (Q 1 m2) else (if (m2 383 0) = (w_32 ((m2 379 12) - 1)) then (if (m2 383 1) = 1 then (Q 1 m2) else (Q 0 m2)) else (Q 0 m2))) else (Q 0 m2)))) else (Q 0 m1)))) : xc_in_dynamicCodes (d + 1) m Q := by
  refine w_enter (q := 1) (lv := [some (2, 379), none]) rfl rfl rfl ?_
  refine w_aload_n rfl rfl ?_
  refine w_gfC (c := 380) rfl s_379 rfl rfl ?_
  refine w_sipush rfl (by decide) ?_
  refine w_iald rfl s_380 (n := 320) rfl (by decide) ?_
  refine w_ifeq rfl (w_ite h (fun h => ?_) (fun h => ?_))
  · refine w_iconst rfl (by decide) ?_
    exact w_zret rfl rfl (by decide) h
  · refine w_aload_n rfl rfl ?_
    refine w_aload_n rfl rfl ?_
    refine w_gfC (c := 381) rfl s_379 rfl rfl ?_
    refine w_aload_n rfl rfl ?_
    refine w_gfC (c := 382) rfl s_379 rfl rfl ?_
    refine w_iconst rfl (by decide) ?_
    refine w_aload_n rfl rfl ?_
    refine x_gfI rfl s_379 rfl (kk := 11) rfl rfl ?_
    refine w_callV (t' := 0) [(0, m 379 11), (0, 0), (2, 382), (2, 381)] [] rfl s_379 rfl rfl ?_
    refine w_C.more (Q := fun r1 m1 => _) h (fun r1 m1 h => ?_)
    replace h := id h
    refine w_ifeq rfl (w_ite h (fun h => ?_) (fun h => ?_))
    · refine w_aload_n rfl rfl ?_
      refine w_aload_n rfl rfl ?_
      refine w_gfC (c := 383) rfl s_379 rfl rfl ?_
      refine w_aload_n rfl rfl ?_
      refine w_gfC (c := 384) rfl s_379 rfl rfl ?_
      refine w_aload_n rfl rfl ?_
      refine x_gfI rfl s_379 rfl (kk := 11) rfl rfl ?_
      refine w_aload_n rfl rfl ?_
      refine x_gfI rfl s_379 rfl (kk := 12) rfl rfl ?_
      refine w_callV (t' := 0) [(0, m1 379 12), (0, m1 379 11), (2, 384), (2, 383)] [] rfl s_379 rfl rfl ?_
      refine w_C.more (Q := fun r2 m2 => _) h (fun r2 m2 h => ?_)
      replace h := id h
      refine w_istore_n (lv' := [some (2, 379), some (0, r2)]) rfl rfl rfl ?_
      refine w_iload_n rfl rfl ?_
      refine w_ifeq rfl (w_ite h (fun h => ?_) (fun h => ?_))
      · refine w_iconst rfl (by decide) ?_
        refine w_goto rfl ?_
        exact w_zret rfl rfl (by decide) h
      · refine w_iload_n rfl rfl ?_
        refine w_ifle rfl (w_ite h (fun h => ?_) (fun h => ?_))
        · refine w_aload_n rfl rfl ?_
          refine w_gfC (c := 383) rfl s_379 rfl rfl ?_
          refine w_iconst rfl (by decide) ?_
          refine w_iald rfl s_383 (n := 16) rfl (by decide) ?_
          refine w_aload_n rfl rfl ?_
          refine x_gfI rfl s_379 rfl (kk := 12) rfl rfl ?_
          refine w_iceq rfl (w_ite h (fun h => ?_) (fun h => ?_))
          · refine w_iconst rfl (by decide) ?_
            refine w_goto rfl ?_
            exact w_zret rfl rfl (by decide) h
          · refine w_aload_n rfl rfl ?_
            refine w_gfC (c := 383) rfl s_379 rfl rfl ?_
            refine w_iconst rfl (by decide) ?_
            refine w_iald rfl s_383 (n := 16) rfl (by decide) ?_
            refine w_aload_n rfl rfl ?_
            refine x_gfI rfl s_379 rfl (kk := 12) rfl rfl ?_
            refine w_iconst rfl (by decide) ?_
            refine w_isub rfl ?_
            refine w_icne rfl (w_ite h (fun h => ?_) (fun h => ?_))
            · refine w_aload_n rfl rfl ?_
              refine w_gfC (c := 383) rfl s_379 rfl rfl ?_
              refine w_iconst rfl (by decide) ?_
              refine w_iald rfl s_383 (n := 16) rfl (by decide) ?_
              refine w_iconst rfl (by decide) ?_
              refine w_icne rfl (w_ite h (fun h => ?_) (fun h => ?_))
              · refine w_iconst rfl (by decide) ?_
                refine w_goto rfl ?_
                exact w_zret rfl rfl (by decide) h
              · refine w_iconst rfl (by decide) ?_
                exact w_zret rfl rfl (by decide) h
            · refine w_iconst rfl (by decide) ?_
              exact w_zret rfl rfl (by decide) h
        · refine w_iconst rfl (by decide) ?_
          exact w_zret rfl rfl (by decide) h
    · refine w_iconst rfl (by decide) ?_
      exact w_zret rfl rfl (by decide) h
theorem xr_in_endsWell {d : Nat} {m : w_M} {Q : Int → w_M → Prop} (h : xc_in_toWholeByte d m (fun r1 m1 => (0 : Int) ≤ (m1 379 9) ∧ (xc_wr_adler d (m1 379 9) 0 (m1 379 10) m1 (fun r2 m2 => xp_in_endsWell_20 d r2 24 m2 Q)))) : xc_in_endsWell (d + 1) m Q := by
  refine w_enter (q := 2) (lv := [some (2, 379), none, none]) rfl rfl rfl ?_
  refine w_aload_n rfl rfl ?_
  refine w_callV (t' := 3) [] [] rfl s_379 rfl rfl ?_
  refine w_C.more (Q := fun r1 m1 => _) h (fun r1 m1 h => ?_)
  replace h := id h
  refine w_aload_n rfl rfl ?_
  refine x_gfR rfl s_379 rfl (kk := 9) rfl rfl h.1 ?_
  replace h := h.2
  refine w_iconst rfl (by decide) ?_
  refine w_aload_n rfl rfl ?_
  refine x_gfI rfl s_379 rfl (kk := 10) rfl rfl ?_
  refine w_callS (t' := 0) [(0, m1 379 10), (0, 0), (2, m1 379 9)] [] rfl (by decide) rfl rfl ?_
  refine w_C.more (Q := fun r2 m2 => _) h (fun r2 m2 h => ?_)
  replace h := id h
  refine w_istore_n (lv' := [some (2, 379), some (0, r2), none]) rfl rfl rfl ?_
  refine w_bipush rfl (by decide) ?_
  refine w_istore_n (lv' := [some (2, 379), some (0, r2), some (0, 24)]) rfl rfl rfl ?_
  exact w_W.less h (w_sub [true, true, true] rfl)
theorem xr_in_endsWell_20 {d : Nat} {l1 l2 : Int} {m : w_M} {Q : Int → w_M → Prop} (h : if l2 < 0 then (if (m 379 7) = (m 379 8) then (Q 1 m) else (Q 0 m)) else (xc_in_bits d 8 m (fun r1 m1 => if r1 = ((w_shr l1 l2) % 256) then (xp_in_endsWell_20 d l1 (w_32 (l2 + (-8))) m1 Q) else (Q 0 m1)))) : xp_in_endsWell_20 d l1 l2 m Q := by
  refine w_iload_n rfl rfl ?_
  refine w_iflt rfl (w_ite h (fun h => ?_) (fun h => ?_))
  · refine w_aload_n rfl rfl ?_
    refine x_gfI rfl s_379 rfl (kk := 7) rfl rfl ?_
    refine w_aload_n rfl rfl ?_
    refine x_gfI rfl s_379 rfl (kk := 8) rfl rfl ?_
    refine w_icne rfl (w_ite h (fun h => ?_) (fun h => ?_))
    · refine w_iconst rfl (by decide) ?_
      refine w_goto rfl ?_
      exact w_zret rfl rfl (by decide) h
    · refine w_iconst rfl (by decide) ?_
      exact w_zret rfl rfl (by decide) h
  · refine w_aload_n rfl rfl ?_
    refine w_bipush rfl (by decide) ?_
    refine w_callV (t' := 0) [(0, 8)] [] rfl s_379 rfl rfl ?_
    refine w_C.more (Q := fun r1 m1 => _) h (fun r1 m1 h => ?_)
    replace h := id h
    refine w_iload_n rfl rfl ?_
    refine w_iload_n rfl rfl ?_
    refine w_ishr rfl ?_
    refine w_sipush rfl (by decide) ?_
    refine w_iandm 8 (c := 256) rfl (by decide) rfl rfl ?_
    refine w_iceq rfl (w_ite h (fun h => ?_) (fun h => ?_))
    · refine w_iinc (lv' := [some (2, 379), some (0, l1), some (0, w_32 (l2 + (-8)))]) rfl rfl rfl rfl ?_
      refine w_goto rfl ?_
      exact w_W.less h (w_sub [true, true, true] rfl)
    · refine w_iconst rfl (by decide) ?_
      exact w_zret rfl rfl (by decide) h
theorem xr_in_fixedCodes {d : Nat} {m : w_M} {Q : Int → w_M → Prop} (h : xp_in_fixedCodes_2 d 0 m Q) : xc_in_fixedCodes (d + 1) m Q := by
  refine w_enter (q := 1) (lv := [some (2, 379), none]) rfl rfl rfl ?_
  refine w_iconst rfl (by decide) ?_
  refine w_istore_n (lv' := [some (2, 379), some (0, 0)]) rfl rfl rfl ?_
  exact w_W.less h (w_sub [true, true] rfl)
theorem xr_in_fixedCodes_2 {d : Nat} {l1 : Int} {m : w_M} {Q : Int → w_M → Prop} (h : if l1 < 288 then (if l1 < 144 then (((0 : Int) ≤ l1 ∧ l1 < 320) ∧ (xp_in_fixedCodes_2 d (w_32 (l1 + 1)) (w_up m 380 l1 8) Q)) else (if l1 < 256 then (((0 : Int) ≤ l1 ∧ l1 < 320) ∧ (xp_in_fixedCodes_2 d (w_32 (l1 + 1)) (w_up m 380 l1 9) Q)) else (if l1 < 280 then (((0 : Int) ≤ l1 ∧ l1 < 320) ∧ (xp_in_fixedCodes_2 d (w_32 (l1 + 1)) (w_up m 380 l1 7) Q)) else (((0 : Int) ≤ l1 ∧ l1 < 320) ∧ (xp_in_fixedCodes_2 d (w_32 (l1 + 1)) (w_up m 380 l1 8) Q))))) else (xc_in_build d 381 382 0 288 m (fun r1 m1 => xp_in_fixedCodes_78 d 0 m1 Q))) : xp_in_fixedCodes_2 d l1 m Q := by
  refine w_iload_n rfl rfl ?_
  refine w_sipush rfl (by decide) ?_
  refine w_icge rfl (w_ite h (fun h => ?_) (fun h => ?_))
  · refine w_aload_n rfl rfl ?_
    refine w_gfC (c := 380) rfl s_379 rfl rfl ?_
    refine w_iload_n rfl rfl ?_
    refine w_iload_n rfl rfl ?_
    refine w_sipush rfl (by decide) ?_
    refine w_icge rfl (w_ite h (fun h => ?_) (fun h => ?_))
    · refine w_bipush rfl (by decide) ?_
      refine w_goto rfl ?_
      refine w_iast rfl s_380 (w_EC (by decide)) (n := 320) rfl h.1 ?_
      replace h := h.2
      refine w_iinc (lv' := [some (2, 379), some (0, w_32 (l1 + 1))]) rfl rfl rfl rfl ?_
      refine w_goto rfl ?_
      exact w_W.less h (w_sub [true, true] rfl)
    · refine w_iload_n rfl rfl ?_
      refine w_sipush rfl (by decide) ?_
      refine w_icge rfl (w_ite h (fun h => ?_) (fun h => ?_))
      · refine w_bipush rfl (by decide) ?_
        refine w_goto rfl ?_
        refine w_iast rfl s_380 (w_EC (by decide)) (n := 320) rfl h.1 ?_
        replace h := h.2
        refine w_iinc (lv' := [some (2, 379), some (0, w_32 (l1 + 1))]) rfl rfl rfl rfl ?_
        refine w_goto rfl ?_
        exact w_W.less h (w_sub [true, true] rfl)
      · refine w_iload_n rfl rfl ?_
        refine w_sipush rfl (by decide) ?_
        refine w_icge rfl (w_ite h (fun h => ?_) (fun h => ?_))
        · refine w_bipush rfl (by decide) ?_
          refine w_goto rfl ?_
          refine w_iast rfl s_380 (w_EC (by decide)) (n := 320) rfl h.1 ?_
          replace h := h.2
          refine w_iinc (lv' := [some (2, 379), some (0, w_32 (l1 + 1))]) rfl rfl rfl rfl ?_
          refine w_goto rfl ?_
          exact w_W.less h (w_sub [true, true] rfl)
        · refine w_bipush rfl (by decide) ?_
          refine w_iast rfl s_380 (w_EC (by decide)) (n := 320) rfl h.1 ?_
          replace h := h.2
          refine w_iinc (lv' := [some (2, 379), some (0, w_32 (l1 + 1))]) rfl rfl rfl rfl ?_
          refine w_goto rfl ?_
          exact w_W.less h (w_sub [true, true] rfl)
  · refine w_aload_n rfl rfl ?_
    refine w_aload_n rfl rfl ?_
    refine w_gfC (c := 381) rfl s_379 rfl rfl ?_
    refine w_aload_n rfl rfl ?_
    refine w_gfC (c := 382) rfl s_379 rfl rfl ?_
    refine w_iconst rfl (by decide) ?_
    refine w_sipush rfl (by decide) ?_
    refine w_callV (t' := 0) [(0, 288), (0, 0), (2, 382), (2, 381)] [] rfl s_379 rfl rfl ?_
    refine w_C.more (Q := fun r1 m1 => _) h (fun r1 m1 h => ?_)
    replace h := id h
    refine w_pop rfl (show (0 : Nat) ≠ 1 by decide) ?_
    refine w_iconst rfl (by decide) ?_
    refine w_istore_n (lv' := [some (2, 379), some (0, 0)]) rfl rfl rfl ?_
    exact w_W.less h (w_sub [true, true] rfl)
theorem xr_in_fixedCodes_78 {d : Nat} {l1 : Int} {m : w_M} {Q : Int → w_M → Prop} (h : if l1 < 30 then (((0 : Int) ≤ l1 ∧ l1 < 320) ∧ (xp_in_fixedCodes_78 d (w_32 (l1 + 1)) (w_up m 380 l1 5) Q)) else (xc_in_build d 383 384 0 30 m (fun r1 m1 => Q 0 m1))) : xp_in_fixedCodes_78 d l1 m Q := by
  refine w_iload_n rfl rfl ?_
  refine w_bipush rfl (by decide) ?_
  refine w_icge rfl (w_ite h (fun h => ?_) (fun h => ?_))
  · refine w_aload_n rfl rfl ?_
    refine w_gfC (c := 380) rfl s_379 rfl rfl ?_
    refine w_iload_n rfl rfl ?_
    refine w_iconst rfl (by decide) ?_
    refine w_iast rfl s_380 (w_EC (by decide)) (n := 320) rfl h.1 ?_
    replace h := h.2
    refine w_iinc (lv' := [some (2, 379), some (0, w_32 (l1 + 1))]) rfl rfl rfl rfl ?_
    refine w_goto rfl ?_
    exact w_W.less h (w_sub [true, true] rfl)
  · refine w_aload_n rfl rfl ?_
    refine w_aload_n rfl rfl ?_
    refine w_gfC (c := 383) rfl s_379 rfl rfl ?_
    refine w_aload_n rfl rfl ?_
    refine w_gfC (c := 384) rfl s_379 rfl rfl ?_
    refine w_iconst rfl (by decide) ?_
    refine w_bipush rfl (by decide) ?_
    refine w_callV (t' := 0) [(0, 30), (0, 0), (2, 384), (2, 383)] [] rfl s_379 rfl rfl ?_
    refine w_C.more (Q := fun r1 m1 => _) h (fun r1 m1 h => ?_)
    replace h := id h
    refine w_pop rfl (show (0 : Nat) ≠ 1 by decide) ?_
    exact w_vret rfl rfl h
theorem xr_in_readCodes {d : Nat} {m : w_M} {Q : Int → w_M → Prop} (h : xc_in_bits d 5 m (fun r1 m1 => xc_in_bits d 5 (w_up m1 379 11 (w_32 (r1 + 257))) (fun r2 m2 => xc_in_bits d 4 (w_up m2 379 12 (w_32 (r2 + 1))) (fun r3 m3 => if (m3 379 11) < 257 then (Q 0 m3) else (if 286 < (m3 379 11) then (Q 0 m3) else (if (m3 379 12) < 1 then (Q 0 m3) else (if 30 < (m3 379 12) then (Q 0 m3) else (if (w_32 (r3 + 4)) < 4 then (Q 0 m3) else (xc_ja_fill sC d 380 0 m3 (fun r4 m4 => xp_in_readCodes_86 d (w_32 (r3 + 4)) 0 m4 Q)))))))))) : xc_in_readCodes (d + 1) m Q := by
  refine w_enter (q := 3) (lv := [some (2, 379), none, none, none]) rfl rfl rfl ?_
  refine w_aload_n rfl rfl ?_
  refine w_aload_n rfl rfl ?_
  refine w_iconst rfl (by decide) ?_
  refine w_callV (t' := 0) [(0, 5)] [(2, 379)] rfl s_379 rfl rfl ?_
  refine w_C.more (Q := fun r1 m1 => _) h (fun r1 m1 h => ?_)
  replace h := id h
  refine w_sipush rfl (by decide) ?_
  refine w_iadd rfl ?_
  refine w_pfI rfl s_379 rfl (w_EC (by decide)) rfl (kk := 11) rfl ?_
  refine w_aload_n rfl rfl ?_
  refine w_aload_n rfl rfl ?_
  refine w_iconst rfl (by decide) ?_
  refine w_callV (t' := 0) [(0, 5)] [(2, 379)] rfl s_379 rfl rfl ?_
  refine w_C.more (Q := fun r2 m2 => _) h (fun r2 m2 h => ?_)
  replace h := id h
  refine w_iconst rfl (by decide) ?_
  refine w_iadd rfl ?_
  refine w_pfI rfl s_379 rfl (w_EC (by decide)) rfl (kk := 12) rfl ?_
  refine w_aload_n rfl rfl ?_
  refine w_iconst rfl (by decide) ?_
  refine w_callV (t' := 0) [(0, 4)] [] rfl s_379 rfl rfl ?_
  refine w_C.more (Q := fun r3 m3 => _) h (fun r3 m3 h => ?_)
  replace h := id h
  refine w_iconst rfl (by decide) ?_
  refine w_iadd rfl ?_
  refine w_istore_n (lv' := [some (2, 379), some (0, w_32 (r3 + 4)), none, none]) rfl rfl rfl ?_
  refine w_aload_n rfl rfl ?_
  refine x_gfI rfl s_379 rfl (kk := 11) rfl rfl ?_
  refine w_sipush rfl (by decide) ?_
  refine w_iclt rfl (w_ite h (fun h => ?_) (fun h => ?_))
  · refine w_iconst rfl (by decide) ?_
    exact w_zret rfl rfl (by decide) h
  · refine w_aload_n rfl rfl ?_
    refine x_gfI rfl s_379 rfl (kk := 11) rfl rfl ?_
    refine w_sipush rfl (by decide) ?_
    refine w_icgt rfl (w_ite h (fun h => ?_) (fun h => ?_))
    · refine w_iconst rfl (by decide) ?_
      exact w_zret rfl rfl (by decide) h
    · refine w_aload_n rfl rfl ?_
      refine x_gfI rfl s_379 rfl (kk := 12) rfl rfl ?_
      refine w_iconst rfl (by decide) ?_
      refine w_iclt rfl (w_ite h (fun h => ?_) (fun h => ?_))
      · refine w_iconst rfl (by decide) ?_
        exact w_zret rfl rfl (by decide) h
      · refine w_aload_n rfl rfl ?_
        refine x_gfI rfl s_379 rfl (kk := 12) rfl rfl ?_
        refine w_bipush rfl (by decide) ?_
        refine w_icgt rfl (w_ite h (fun h => ?_) (fun h => ?_))
        · refine w_iconst rfl (by decide) ?_
          exact w_zret rfl rfl (by decide) h
        · refine w_iload_n rfl rfl ?_
          refine w_iconst rfl (by decide) ?_
          refine w_icge rfl (w_ite h (fun h => ?_) (fun h => ?_))
          · refine w_iconst rfl (by decide) ?_
            exact w_zret rfl rfl (by decide) h
          · refine w_aload_n rfl rfl ?_
            refine w_gfC (c := 380) rfl s_379 rfl rfl ?_
            refine w_iconst rfl (by decide) ?_
            refine w_callS (t' := 3) [(0, 0), (2, 380)] [] rfl (by decide) rfl rfl ?_
            refine w_C.more (Q := fun r4 m4 => _) h (fun r4 m4 h => ?_)
            replace h := id h
            refine w_iconst rfl (by decide) ?_
            refine w_istore_n (lv' := [some (2, 379), some (0, w_32 (r3 + 4)), some (0, 0), none]) rfl rfl rfl ?_
            exact w_W.less h (w_sub [true, true, true, false] rfl)
theorem xr_in_readCodes_86 {d : Nat} {l1 l2 : Int} {m : w_M} {Q : Int → w_M → Prop} (h : if l2 < l1 then (if l2 < 19 then (xc_in_bits d 3 m (fun r1 m1 => if r1 < 0 then (Q 0 m1) else (((0 : Int) ≤ l2 ∧ l2 < 19) ∧ (((0 : Int) ≤ (m1 352 l2) ∧ (m1 352 l2) < 320) ∧ (xp_in_readCodes_86 d l1 (w_32 (l2 + 1)) (w_up m1 380 (m1 352 l2) r1) Q))))) else (xc_in_build d 381 382 0 19 m (fun r2 m2 => if r2 = 0 then (Q 1 m2) else (Q 0 m2)))) else (xc_in_build d 381 382 0 19 m (fun r3 m3 => if r3 = 0 then (Q 1 m3) else (Q 0 m3)))) : xp_in_readCodes_86 d l1 l2 m Q := by
  refine w_iload_n rfl rfl ?_
  refine w_iload_n rfl rfl ?_
  refine w_icge rfl (w_ite h (fun h => ?_) (fun h => ?_))
  · refine w_iload_n rfl rfl ?_
    refine w_getsR rfl ?_
    refine w_len rfl s_352 (by decide) (n := 19) rfl (by decide) ?_
    refine w_icge rfl (w_ite h (fun h => ?_) (fun h => ?_))
    · refine w_aload_n rfl rfl ?_
      refine w_iconst rfl (by decide) ?_
      refine w_callV (t' := 0) [(0, 3)] [] rfl s_379 rfl rfl ?_
      refine w_C.more (Q := fun r1 m1 => _) h (fun r1 m1 h => ?_)
      replace h := id h
      refine w_istore_n (lv' := [some (2, 379), some (0, l1), some (0, l2), some (0, r1)]) rfl rfl rfl ?_
      refine w_iload_n rfl rfl ?_
      refine w_ifge rfl (w_ite h (fun h => ?_) (fun h => ?_))
      · refine w_iconst rfl (by decide) ?_
        exact w_zret rfl rfl (by decide) h
      · refine w_aload_n rfl rfl ?_
        refine w_gfC (c := 380) rfl s_379 rfl rfl ?_
        refine w_getsR rfl ?_
        refine w_iload_n rfl rfl ?_
        refine w_bald rfl s_352 (n := 19) rfl h.1 ?_
        replace h := h.2
        refine w_iload_n rfl rfl ?_
        refine w_iast rfl s_380 (w_EC (by decide)) (n := 320) rfl h.1 ?_
        replace h := h.2
        refine w_iinc (lv' := [some (2, 379), some (0, l1), some (0, w_32 (l2 + 1)), some (0, r1)]) rfl rfl rfl rfl ?_
        refine w_goto rfl ?_
        exact w_W.less h (w_sub [true, true, true, false] rfl)
    · refine w_aload_n rfl rfl ?_
      refine w_aload_n rfl rfl ?_
      refine w_gfC (c := 381) rfl s_379 rfl rfl ?_
      refine w_aload_n rfl rfl ?_
      refine w_gfC (c := 382) rfl s_379 rfl rfl ?_
      refine w_iconst rfl (by decide) ?_
      refine w_bipush rfl (by decide) ?_
      refine w_callV (t' := 0) [(0, 19), (0, 0), (2, 382), (2, 381)] [] rfl s_379 rfl rfl ?_
      refine w_C.more (Q := fun r2 m2 => _) h (fun r2 m2 h => ?_)
      replace h := id h
      refine w_ifne rfl (w_ite h (fun h => ?_) (fun h => ?_))
      · refine w_iconst rfl (by decide) ?_
        refine w_goto rfl ?_
        exact w_zret rfl rfl (by decide) h
      · refine w_iconst rfl (by decide) ?_
        exact w_zret rfl rfl (by decide) h
  · refine w_aload_n rfl rfl ?_
    refine w_aload_n rfl rfl ?_
    refine w_gfC (c := 381) rfl s_379 rfl rfl ?_
    refine w_aload_n rfl rfl ?_
    refine w_gfC (c := 382) rfl s_379 rfl rfl ?_
    refine w_iconst rfl (by decide) ?_
    refine w_bipush rfl (by decide) ?_
    refine w_callV (t' := 0) [(0, 19), (0, 0), (2, 382), (2, 381)] [] rfl s_379 rfl rfl ?_
    refine w_C.more (Q := fun r3 m3 => _) h (fun r3 m3 h => ?_)
    replace h := id h
    refine w_ifne rfl (w_ite h (fun h => ?_) (fun h => ?_))
    · refine w_iconst rfl (by decide) ?_
      refine w_goto rfl ?_
      exact w_zret rfl rfl (by decide) h
    · refine w_iconst rfl (by decide) ?_
      exact w_zret rfl rfl (by decide) h
theorem xr_in_readSizes {d : Nat} {m : w_M} {Q : Int → w_M → Prop} (h : xp_in_readSizes_12 d (w_32 ((m 379 11) + (m 379 12))) 0 m Q) : xc_in_readSizes (d + 1) m Q := by
  refine w_enter (q := 6) (lv := [some (2, 379), none, none, none, none, none, none]) rfl rfl rfl ?_
  refine w_aload_n rfl rfl ?_
  refine x_gfI rfl s_379 rfl (kk := 11) rfl rfl ?_
  refine w_aload_n rfl rfl ?_
  refine x_gfI rfl s_379 rfl (kk := 12) rfl rfl ?_
  refine w_iadd rfl ?_
  refine w_istore_n (lv' := [some (2, 379), some (0, w_32 ((m 379 11) + (m 379 12))), none, none, none, none, none]) rfl rfl rfl ?_
  refine w_iconst rfl (by decide) ?_
  refine w_istore_n (lv' := [some (2, 379), some (0, w_32 ((m 379 11) + (m 379 12))), some (0, 0), none, none, none, none]) rfl rfl rfl ?_
  exact w_W.less h (w_sub [true, true, true, false, false, false, false] rfl)
theorem xr_in_readSizes_12 {d : Nat} {l1 l2 : Int} {m : w_M} {Q : Int → w_M → Prop} (h : if l2 < l1 then (if l2 < 320 then (xc_in_symbol d 381 382 m (fun r1 m1 => if r1 < 0 then (Q 0 m1) else (if r1 = 16 then (if l2 = 0 then (Q 0 m1) else (((0 : Int) ≤ (w_32 (l2 - 1)) ∧ (w_32 (l2 - 1)) < 320) ∧ (xc_in_bits d 2 m1 (fun r2 m2 => xp_in_readSizes_127 d l1 l2 r1 (w_32 (3 + r2)) (m1 380 (w_32 (l2 - 1))) m2 Q)))) else (if r1 = 17 then (if r1 = 17 then (xc_in_bits d 3 m1 (fun r3 m3 => xp_in_readSizes_127 d l1 l2 r1 (w_32 (3 + r3)) 0 m3 Q)) else (xc_in_bits d 7 m1 (fun r4 m4 => xp_in_readSizes_127 d l1 l2 r1 (w_32 (11 + r4)) 0 m4 Q))) else (if r1 = 18 then (if r1 = 17 then (xc_in_bits d 3 m1 (fun r5 m5 => xp_in_readSizes_127 d l1 l2 r1 (w_32 (3 + r5)) 0 m5 Q)) else (xc_in_bits d 7 m1 (fun r6 m6 => xp_in_readSizes_127 d l1 l2 r1 (w_32 (11 + r6)) 0 m6 Q))) else (xp_in_readSizes_127 d l1 l2 r1 1 r1 m1 Q)))))) else (Q 1 m)) else (Q 1 m)) : xp_in_readSizes_12 d l1 l2 m Q := by
  refine w_iload_n rfl rfl ?_
  refine w_iload_n rfl rfl ?_
  refine w_icge rfl (w_ite h (fun h => ?_) (fun h => ?_))
  · refine w_iload_n rfl rfl ?_
    refine w_aload_n rfl rfl ?_
    refine w_gfC (c := 380) rfl s_379 rfl rfl ?_
    refine w_len rfl s_380 (by decide) (n := 320) rfl (by decide) ?_
    refine w_icge rfl (w_ite h (fun h => ?_) (fun h => ?_))
    · refine w_aload_n rfl rfl ?_
      refine w_aload_n rfl rfl ?_
      refine w_gfC (c := 381) rfl s_379 rfl rfl ?_
      refine w_aload_n rfl rfl ?_
      refine w_gfC (c := 382) rfl s_379 rfl rfl ?_
      refine w_callV (t' := 0) [(2, 382), (2, 381)] [] rfl s_379 rfl rfl ?_
      refine w_C.more (Q := fun r1 m1 => _) h (fun r1 m1 h => ?_)
      replace h := id h
      refine w_istore_n (lv' := [some (2, 379), some (0, l1), some (0, l2), some (0, r1), none, none, none]) rfl rfl rfl ?_
      refine w_iload_n rfl rfl ?_
      refine w_ifge rfl (w_ite h (fun h => ?_) (fun h => ?_))
      · refine w_iconst rfl (by decide) ?_
        exact w_zret rfl rfl (by decide) h
      · refine w_iconst rfl (by decide) ?_
        refine w_istore (lv' := [some (2, 379), some (0, l1), some (0, l2), some (0, r1), some (0, 1), none, none]) rfl rfl rfl ?_
        refine w_iload_n rfl rfl ?_
        refine w_istore (lv' := [some (2, 379), some (0, l1), some (0, l2), some (0, r1), some (0, 1), some (0, r1), none]) rfl rfl rfl ?_
        refine w_iload_n rfl rfl ?_
        refine w_bipush rfl (by decide) ?_
        refine w_icne rfl (w_ite h (fun h => ?_) (fun h => ?_))
        · refine w_iload_n rfl rfl ?_
          refine w_ifne rfl (w_ite h (fun h => ?_) (fun h => ?_))
          · refine w_iconst rfl (by decide) ?_
            exact w_zret rfl rfl (by decide) h
          · refine w_aload_n rfl rfl ?_
            refine w_gfC (c := 380) rfl s_379 rfl rfl ?_
            refine w_iload_n rfl rfl ?_
            refine w_iconst rfl (by decide) ?_
            refine w_isub rfl ?_
            refine w_iald rfl s_380 (n := 320) rfl h.1 ?_
            replace h := h.2
            refine w_istore (lv' := [some (2, 379), some (0, l1), some (0, l2), some (0, r1), some (0, 1), some (0, m1 380 (w_32 (l2 - 1))), none]) rfl rfl rfl ?_
            refine w_iconst rfl (by decide) ?_
            refine w_aload_n rfl rfl ?_
            refine w_iconst rfl (by decide) ?_
            refine w_callV (t' := 0) [(0, 2)] [(0, 3)] rfl s_379 rfl rfl ?_
            refine w_C.more (Q := fun r2 m2 => _) h (fun r2 m2 h => ?_)
            replace h := id h
            refine w_iadd rfl ?_
            refine w_istore (lv' := [some (2, 379), some (0, l1), some (0, l2), some (0, r1), some (0, w_32 (3 + r2)), some (0, m1 380 (w_32 (l2 - 1))), none]) rfl rfl rfl ?_
            refine w_goto rfl ?_
            exact w_W.less h (w_sub [true, true, true, true, true, true, false] rfl)
        · refine w_iload_n rfl rfl ?_
          refine w_bipush rfl (by decide) ?_
          refine w_iceq rfl (w_ite h (fun h => ?_) (fun h => ?_))
          · refine w_iconst rfl (by decide) ?_
            refine w_istore (lv' := [some (2, 379), some (0, l1), some (0, l2), some (0, r1), some (0, 1), some (0, 0), none]) rfl rfl rfl ?_
            refine w_iload_n rfl rfl ?_
            refine w_bipush rfl (by decide) ?_
            refine w_icne rfl (w_ite h (fun h => ?_) (fun h => ?_))
            · refine w_iconst rfl (by decide) ?_
              refine w_aload_n rfl rfl ?_
              refine w_iconst rfl (by decide) ?_
              refine w_callV (t' := 0) [(0, 3)] [(0, 3)] rfl s_379 rfl rfl ?_
              refine w_C.more (Q := fun r3 m3 => _) h (fun r3 m3 h => ?_)
              replace h := id h
              refine w_iadd rfl ?_
              refine w_goto rfl ?_
              refine w_istore (lv' := [some (2, 379), some (0, l1), some (0, l2), some (0, r1), some (0, w_32 (3 + r3)), some (0, 0), none]) rfl rfl rfl ?_
              exact w_W.less h (w_sub [true, true, true, true, true, true, false] rfl)
            · refine w_bipush rfl (by decide) ?_
              refine w_aload_n rfl rfl ?_
              refine w_bipush rfl (by decide) ?_
              refine w_callV (t' := 0) [(0, 7)] [(0, 11)] rfl s_379 rfl rfl ?_
              refine w_C.more (Q := fun r4 m4 => _) h (fun r4 m4 h => ?_)
              replace h := id h
              refine w_iadd rfl ?_
              refine w_istore (lv' := [some (2, 379), some (0, l1), some (0, l2), some (0, r1), some (0, w_32 (11 + r4)), some (0, 0), none]) rfl rfl rfl ?_
              exact w_W.less h (w_sub [true, true, true, true, true, true, false] rfl)
          · refine w_iload_n rfl rfl ?_
            refine w_bipush rfl (by decide) ?_
            refine w_icne rfl (w_ite h (fun h => ?_) (fun h => ?_))
            · refine w_iconst rfl (by decide) ?_
              refine w_istore (lv' := [some (2, 379), some (0, l1), some (0, l2), some (0, r1), some (0, 1), some (0, 0), none]) rfl rfl rfl ?_
              refine w_iload_n rfl rfl ?_
              refine w_bipush rfl (by decide) ?_
              refine w_icne rfl (w_ite h (fun h => ?_) (fun h => ?_))
              · refine w_iconst rfl (by decide) ?_
                refine w_aload_n rfl rfl ?_
                refine w_iconst rfl (by decide) ?_
                refine w_callV (t' := 0) [(0, 3)] [(0, 3)] rfl s_379 rfl rfl ?_
                refine w_C.more (Q := fun r5 m5 => _) h (fun r5 m5 h => ?_)
                replace h := id h
                refine w_iadd rfl ?_
                refine w_goto rfl ?_
                refine w_istore (lv' := [some (2, 379), some (0, l1), some (0, l2), some (0, r1), some (0, w_32 (3 + r5)), some (0, 0), none]) rfl rfl rfl ?_
                exact w_W.less h (w_sub [true, true, true, true, true, true, false] rfl)
              · refine w_bipush rfl (by decide) ?_
                refine w_aload_n rfl rfl ?_
                refine w_bipush rfl (by decide) ?_
                refine w_callV (t' := 0) [(0, 7)] [(0, 11)] rfl s_379 rfl rfl ?_
                refine w_C.more (Q := fun r6 m6 => _) h (fun r6 m6 h => ?_)
                replace h := id h
                refine w_iadd rfl ?_
                refine w_istore (lv' := [some (2, 379), some (0, l1), some (0, l2), some (0, r1), some (0, w_32 (11 + r6)), some (0, 0), none]) rfl rfl rfl ?_
                exact w_W.less h (w_sub [true, true, true, true, true, true, false] rfl)
            · exact w_W.less h (w_sub [true, true, true, true, true, true, false] rfl)
    · refine w_iconst rfl (by decide) ?_
      exact w_zret rfl rfl (by decide) h
  · refine w_iconst rfl (by decide) ?_
    exact w_zret rfl rfl (by decide) h
theorem xr_in_readSizes_127 {d : Nat} {l1 l2 l3 l4 l5 : Int} {m : w_M} {Q : Int → w_M → Prop} (h : if l4 = 2 then (Q 0 m) else (if l4 = 10 then (if l3 = 18 then (Q 0 m) else (if l1 < (w_32 (l2 + l4)) then (Q 0 m) else (xp_in_readSizes_159 d l1 l2 l4 l5 0 m Q))) else (if l1 < (w_32 (l2 + l4)) then (Q 0 m) else (xp_in_readSizes_159 d l1 l2 l4 l5 0 m Q)))) : xp_in_readSizes_127 d l1 l2 l3 l4 l5 m Q := by
  refine w_iload rfl rfl ?_
  refine w_iconst rfl (by decide) ?_
  refine w_iceq rfl (w_ite h (fun h => ?_) (fun h => ?_))
  · refine w_iconst rfl (by decide) ?_
    exact w_zret rfl rfl (by decide) h
  · refine w_iload rfl rfl ?_
    refine w_bipush rfl (by decide) ?_
    refine w_icne rfl (w_ite h (fun h => ?_) (fun h => ?_))
    · refine w_iload_n rfl rfl ?_
      refine w_bipush rfl (by decide) ?_
      refine w_iceq rfl (w_ite h (fun h => ?_) (fun h => ?_))
      · refine w_iconst rfl (by decide) ?_
        exact w_zret rfl rfl (by decide) h
      · refine w_iload_n rfl rfl ?_
        refine w_iload rfl rfl ?_
        refine w_iadd rfl ?_
        refine w_iload_n rfl rfl ?_
        refine w_icle rfl (w_ite h (fun h => ?_) (fun h => ?_))
        · refine w_iconst rfl (by decide) ?_
          exact w_zret rfl rfl (by decide) h
        · refine w_iconst rfl (by decide) ?_
          refine w_istore (lv' := [some (2, 379), some (0, l1), some (0, l2), some (0, l3), some (0, l4), some (0, l5), some (0, 0)]) rfl rfl rfl ?_
          exact w_W.less h (w_sub [true, true, true, false, true, true, true] rfl)
    · refine w_iload_n rfl rfl ?_
      refine w_iload rfl rfl ?_
      refine w_iadd rfl ?_
      refine w_iload_n rfl rfl ?_
      refine w_icle rfl (w_ite h (fun h => ?_) (fun h => ?_))
      · refine w_iconst rfl (by decide) ?_
        exact w_zret rfl rfl (by decide) h
      · refine w_iconst rfl (by decide) ?_
        refine w_istore (lv' := [some (2, 379), some (0, l1), some (0, l2), some (0, l3), some (0, l4), some (0, l5), some (0, 0)]) rfl rfl rfl ?_
        exact w_W.less h (w_sub [true, true, true, false, true, true, true] rfl)
theorem xr_in_readSizes_159 {d : Nat} {l1 l2 l4 l5 l6 : Int} {m : w_M} {Q : Int → w_M → Prop} (h : if l6 < l4 then (if l2 < 320 then (((0 : Int) ≤ l2 ∧ l2 < 320) ∧ (xp_in_readSizes_159 d l1 (w_32 (l2 + 1)) l4 l5 (w_32 (l6 + 1)) (w_up m 380 l2 l5) Q)) else (xp_in_readSizes_12 d l1 l2 m Q)) else (xp_in_readSizes_12 d l1 l2 m Q)) : xp_in_readSizes_159 d l1 l2 l4 l5 l6 m Q := by
  refine w_iload rfl rfl ?_
  refine w_iload rfl rfl ?_
  refine w_icge rfl (w_ite h (fun h => ?_) (fun h => ?_))
  · refine w_iload_n rfl rfl ?_
    refine w_aload_n rfl rfl ?_
    refine w_gfC (c := 380) rfl s_379 rfl rfl ?_
    refine w_len rfl s_380 (by decide) (n := 320) rfl (by decide) ?_
    refine w_icge rfl (w_ite h (fun h => ?_) (fun h => ?_))
    · refine w_aload_n rfl rfl ?_
      refine w_gfC (c := 380) rfl s_379 rfl rfl ?_
      refine w_iload_n rfl rfl ?_
      refine w_iload rfl rfl ?_
      refine w_iast rfl s_380 (w_EC (by decide)) (n := 320) rfl h.1 ?_
      replace h := h.2
      refine w_iinc (lv' := [some (2, 379), some (0, l1), some (0, w_32 (l2 + 1)), none, some (0, l4), some (0, l5), some (0, l6)]) rfl rfl rfl rfl ?_
      refine w_iinc (lv' := [some (2, 379), some (0, l1), some (0, w_32 (l2 + 1)), none, some (0, l4), some (0, l5), some (0, w_32 (l6 + 1))]) rfl rfl rfl rfl ?_
      refine w_goto rfl ?_
      exact w_W.less h (w_sub [true, true, true, false, true, true, true] rfl)
    · refine w_goto rfl ?_
      exact w_W.less h (w_sub [true, true, true, false, false, false, false] rfl)
  · refine w_goto rfl ?_
    exact w_W.less h (w_sub [true, true, true, false, false, false, false] rfl)
theorem xr_in_row {d : Nat} {l1 : Int} {m : w_M} {Q : Int → w_M → Prop} (h : if l1 < 0 then (Q 0 m) else (if l1 < 29 then (if l1 < 29 then (((0 : Int) ≤ l1 ∧ l1 < 29) ∧ (xc_in_bits d (m 354 l1) m (fun r1 m1 => xc_in_symbol d 383 384 m1 (fun r2 m2 => if r1 < 0 then (Q 0 m2) else (if r2 < 0 then (Q 0 m2) else (if r2 < 30 then (if r2 < 30 then (((0 : Int) ≤ l1 ∧ l1 < 29) ∧ (((0 : Int) ≤ r2 ∧ r2 < 30) ∧ (xc_in_bits d (m2 356 r2) m2 (fun r3 m3 => ((0 : Int) ≤ r2 ∧ r2 < 30) ∧ (if r3 < 0 then (Q 0 m3) else (if (m3 379 10) < (w_32 ((m3 355 r2) + r3)) then (Q 0 m3) else (xp_in_row_120 d (w_32 ((m2 353 l1) + r1)) (w_32 ((m3 355 r2) + r3)) 0 m3 Q))))))) else (Q 0 m2)) else (Q 0 m2))))))) else (Q 0 m)) else (Q 0 m))) : xc_in_row (d + 1) l1 m Q := by
  refine w_enter (q := 7) (lv := [some (2, 379), some (0, l1), none, none, none, none, none, none, none]) rfl rfl rfl ?_
  refine w_iload_n rfl rfl ?_
  refine w_iflt rfl (w_ite h (fun h => ?_) (fun h => ?_))
  · refine w_iconst rfl (by decide) ?_
    exact w_zret rfl rfl (by decide) h
  · refine w_iload_n rfl rfl ?_
    refine w_getsR rfl ?_
    refine w_len rfl s_353 (by decide) (n := 29) rfl (by decide) ?_
    refine w_icge rfl (w_ite h (fun h => ?_) (fun h => ?_))
    · refine w_iload_n rfl rfl ?_
      refine w_getsR rfl ?_
      refine w_len rfl s_354 (by decide) (n := 29) rfl (by decide) ?_
      refine w_iclt rfl (w_ite h (fun h => ?_) (fun h => ?_))
      · refine w_aload_n rfl rfl ?_
        refine w_getsR rfl ?_
        refine w_iload_n rfl rfl ?_
        refine w_bald rfl s_354 (n := 29) rfl h.1 ?_
        replace h := h.2
        refine w_callV (t' := 0) [(0, m 354 l1)] [] rfl s_379 rfl rfl ?_
        refine w_C.more (Q := fun r1 m1 => _) h (fun r1 m1 h => ?_)
        replace h := id h
        refine w_istore_n (lv' := [some (2, 379), some (0, l1), some (0, r1), none, none, none, none, none, none]) rfl rfl rfl ?_
        refine w_aload_n rfl rfl ?_
        refine w_aload_n rfl rfl ?_
        refine w_gfC (c := 383) rfl s_379 rfl rfl ?_
        refine w_aload_n rfl rfl ?_
        refine w_gfC (c := 384) rfl s_379 rfl rfl ?_
        refine w_callV (t' := 0) [(2, 384), (2, 383)] [] rfl s_379 rfl rfl ?_
        refine w_C.more (Q := fun r2 m2 => _) h (fun r2 m2 h => ?_)
        replace h := id h
        refine w_istore_n (lv' := [some (2, 379), some (0, l1), some (0, r1), some (0, r2), none, none, none, none, none]) rfl rfl rfl ?_
        refine w_iload_n rfl rfl ?_
        refine w_iflt rfl (w_ite h (fun h => ?_) (fun h => ?_))
        · refine w_iconst rfl (by decide) ?_
          exact w_zret rfl rfl (by decide) h
        · refine w_iload_n rfl rfl ?_
          refine w_iflt rfl (w_ite h (fun h => ?_) (fun h => ?_))
          · refine w_iconst rfl (by decide) ?_
            exact w_zret rfl rfl (by decide) h
          · refine w_iload_n rfl rfl ?_
            refine w_getsR rfl ?_
            refine w_len rfl s_355 (by decide) (n := 30) rfl (by decide) ?_
            refine w_icge rfl (w_ite h (fun h => ?_) (fun h => ?_))
            · refine w_iload_n rfl rfl ?_
              refine w_getsR rfl ?_
              refine w_len rfl s_356 (by decide) (n := 30) rfl (by decide) ?_
              refine w_iclt rfl (w_ite h (fun h => ?_) (fun h => ?_))
              · refine w_getsR rfl ?_
                refine w_iload_n rfl rfl ?_
                refine w_iald rfl s_353 (n := 29) rfl h.1 ?_
                replace h := h.2
                refine w_iload_n rfl rfl ?_
                refine w_iadd rfl ?_
                refine w_istore (lv' := [some (2, 379), some (0, l1), some (0, r1), some (0, r2), some (0, w_32 ((m2 353 l1) + r1)), none, none, none, none]) rfl rfl rfl ?_
                refine w_aload_n rfl rfl ?_
                refine w_getsR rfl ?_
                refine w_iload_n rfl rfl ?_
                refine w_bald rfl s_356 (n := 30) rfl h.1 ?_
                replace h := h.2
                refine w_callV (t' := 0) [(0, m2 356 r2)] [] rfl s_379 rfl rfl ?_
                refine w_C.more (Q := fun r3 m3 => _) h (fun r3 m3 h => ?_)
                replace h := id h
                refine w_istore (lv' := [some (2, 379), some (0, l1), some (0, r1), some (0, r2), some (0, w_32 ((m2 353 l1) + r1)), some (0, r3), none, none, none]) rfl rfl rfl ?_
                refine w_getsR rfl ?_
                refine w_iload_n rfl rfl ?_
                refine w_iald rfl s_355 (n := 30) rfl h.1 ?_
                replace h := h.2
                refine w_iload rfl rfl ?_
                refine w_iadd rfl ?_
                refine w_istore (lv' := [some (2, 379), some (0, l1), some (0, r1), some (0, r2), some (0, w_32 ((m2 353 l1) + r1)), some (0, r3), some (0, w_32 ((m3 355 r2) + r3)), none, none]) rfl rfl rfl ?_
                refine w_iload rfl rfl ?_
                refine w_iflt rfl (w_ite h (fun h => ?_) (fun h => ?_))
                · refine w_iconst rfl (by decide) ?_
                  exact w_zret rfl rfl (by decide) h
                · refine w_iload rfl rfl ?_
                  refine w_aload_n rfl rfl ?_
                  refine x_gfI rfl s_379 rfl (kk := 10) rfl rfl ?_
                  refine w_icle rfl (w_ite h (fun h => ?_) (fun h => ?_))
                  · refine w_iconst rfl (by decide) ?_
                    exact w_zret rfl rfl (by decide) h
                  · refine w_iconst rfl (by decide) ?_
                    refine w_istore (lv' := [some (2, 379), some (0, l1), some (0, r1), some (0, r2), some (0, w_32 ((m2 353 l1) + r1)), some (0, r3), some (0, w_32 ((m3 355 r2) + r3)), some (0, 0), none]) rfl rfl rfl ?_
                    exact w_W.less h (w_sub [true, false, false, false, true, false, true, true, false] rfl)
              · refine w_iconst rfl (by decide) ?_
                exact w_zret rfl rfl (by decide) h
            · refine w_iconst rfl (by decide) ?_
              exact w_zret rfl rfl (by decide) h
      · refine w_iconst rfl (by decide) ?_
        exact w_zret rfl rfl (by decide) h
    · refine w_iconst rfl (by decide) ?_
      exact w_zret rfl rfl (by decide) h
theorem xr_in_row_120 {d : Nat} {l4 l6 l7 : Int} {m : w_M} {Q : Int → w_M → Prop} (h : if l7 < l4 then (if (w_32 ((m 379 10) - l6)) < 0 then (Q 0 m) else ((0 : Int) ≤ (m 379 9) ∧ (w_isR (m 379 9) ∧ (if (w_32 ((m 379 10) - l6)) < (w_ln (m 379 9)) then ((0 : Int) ≤ (m 379 9) ∧ (w_isA 1 (m 379 9) ∧ ((0 : Int) ≤ (w_32 ((m 379 10) - l6)) ∧ (w_32 ((m 379 10) - l6)) < w_ln (m 379 9)) ∧ (xc_in_write d (m (m 379 9) (w_32 ((m 379 10) - l6))) m (fun r1 m1 => if r1 = 0 then (Q 0 m1) else (xp_in_row_120 d l4 l6 (w_32 (l7 + 1)) m1 Q))))) else (Q 0 m))))) else (Q 1 m)) : xp_in_row_120 d l4 l6 l7 m Q := by
  refine w_iload rfl rfl ?_
  refine w_iload rfl rfl ?_
  refine w_icge rfl (w_ite h (fun h => ?_) (fun h => ?_))
  · refine w_aload_n rfl rfl ?_
    refine x_gfI rfl s_379 rfl (kk := 10) rfl rfl ?_
    refine w_iload rfl rfl ?_
    refine w_isub rfl ?_
    refine w_istore (lv' := [some (2, 379), none, none, none, some (0, l4), none, some (0, l6), some (0, l7), some (0, w_32 ((m 379 10) - l6))]) rfl rfl rfl ?_
    refine w_iload rfl rfl ?_
    refine w_iflt rfl (w_ite h (fun h => ?_) (fun h => ?_))
    · refine w_iconst rfl (by decide) ?_
      exact w_zret rfl rfl (by decide) h
    · refine w_iload rfl rfl ?_
      refine w_aload_n rfl rfl ?_
      refine x_gfR rfl s_379 rfl (kk := 9) rfl rfl h.1 ?_
      replace h := h.2
      refine x_len rfl h.1 ?_
      replace h := h.2
      refine w_icge rfl (w_ite h (fun h => ?_) (fun h => ?_))
      · refine w_aload_n rfl rfl ?_
        refine w_aload_n rfl rfl ?_
        refine x_gfR rfl s_379 rfl (kk := 9) rfl rfl h.1 ?_
        replace h := h.2
        refine w_iload rfl rfl ?_
        refine x_bald rfl h.1 h.2.1 ?_
        replace h := h.2.2
        refine w_callV (t' := 0) [(0, m (m 379 9) (w_32 ((m 379 10) - l6)))] [] rfl s_379 rfl rfl ?_
        refine w_C.more (Q := fun r1 m1 => _) h (fun r1 m1 h => ?_)
        replace h := id h
        refine w_ifne rfl (w_ite h (fun h => ?_) (fun h => ?_))
        · refine w_iconst rfl (by decide) ?_
          exact w_zret rfl rfl (by decide) h
        · refine w_iinc (lv' := [some (2, 379), none, none, none, some (0, l4), none, some (0, l6), some (0, w_32 (l7 + 1)), some (0, w_32 ((m 379 10) - l6))]) rfl rfl rfl rfl ?_
          refine w_goto rfl ?_
          exact w_W.less h (w_sub [true, false, false, false, true, false, true, true, false] rfl)
      · refine w_iconst rfl (by decide) ?_
        exact w_zret rfl rfl (by decide) h
  · refine w_iconst rfl (by decide) ?_
    exact w_zret rfl rfl (by decide) h
theorem xr_in_run {d : Nat} {l1 l2 l3 l4 : Int} {m : w_M} {Q : Int → w_M → Prop} (h : w_isR l1 ∧ (xc_in_bits d 8 (w_up (w_up (w_up (w_up (w_up (w_up (w_up m 379 6 l1) 379 9 l4) 379 7 (max 0 l2)) 379 8 (min (w_32 ((max 0 l2) + (max 0 l3))) (w_ln l1))) 379 10 0) 379 13 0) 379 14 0) (fun r1 m1 => xc_in_bits d 8 m1 (fun r2 m2 => if r2 < 0 then (Q (-1) m2) else (if (r1 % 16) = 8 then (if 7 < (r1 / 16) then (Q (-1) m2) else (if (w_and r2 32) = 0 then (if (Int.tmod (w_32 ((w_32 (r1 * 256)) + r2)) 31) = 0 then (xp_in_run_125 d l1 0 0 m2 Q) else (Q (-1) m2)) else (Q (-1) m2))) else (Q (-1) m2)))))) : xc_in_run (d + 1) l1 l2 l3 l4 m Q := by
  refine w_enter (q := 6) (lv := [some (2, 379), some (2, l1), some (0, l2), some (0, l3), some (2, l4), none, none, none, none, none, none]) rfl rfl rfl ?_
  refine w_aload_n rfl rfl ?_
  refine w_aload_n rfl rfl ?_
  refine w_pfR rfl s_379 rfl (w_EC (by decide)) rfl (fun _ => rfl) (kk := 6) rfl ?_
  refine w_aload_n rfl rfl ?_
  refine w_aload rfl rfl ?_
  refine w_pfR rfl s_379 rfl (w_EC (by decide)) rfl (fun _ => rfl) (kk := 9) rfl ?_
  refine w_aload_n rfl rfl ?_
  refine w_iconst rfl (by decide) ?_
  refine w_iload_n rfl rfl ?_
  refine w_max rfl rfl ?_
  refine w_pfI rfl s_379 rfl (w_EC (by decide)) rfl (kk := 7) rfl ?_
  refine w_aload_n rfl rfl ?_
  refine w_aload_n rfl rfl ?_
  refine x_gfI rfl s_379 rfl (kk := 7) rfl (w_up_eq) ?_
  refine w_iconst rfl (by decide) ?_
  refine w_iload_n rfl rfl ?_
  refine w_max rfl rfl ?_
  refine w_iadd rfl ?_
  refine w_aload_n rfl rfl ?_
  refine x_len rfl h.1 ?_
  replace h := h.2
  refine w_min rfl rfl ?_
  refine w_pfI rfl s_379 rfl (w_EC (by decide)) rfl (kk := 8) rfl ?_
  refine w_aload_n rfl rfl ?_
  refine w_iconst rfl (by decide) ?_
  refine w_pfI rfl s_379 rfl (w_EC (by decide)) rfl (kk := 10) rfl ?_
  refine w_aload_n rfl rfl ?_
  refine w_iconst rfl (by decide) ?_
  refine w_pfI rfl s_379 rfl (w_EC (by decide)) rfl (kk := 13) rfl ?_
  refine w_aload_n rfl rfl ?_
  refine w_iconst rfl (by decide) ?_
  refine w_pfI rfl s_379 rfl (w_EC (by decide)) rfl (kk := 14) rfl ?_
  refine w_aload_n rfl rfl ?_
  refine w_bipush rfl (by decide) ?_
  refine w_callV (t' := 0) [(0, 8)] [] rfl s_379 rfl rfl ?_
  refine w_C.more (Q := fun r1 m1 => _) h (fun r1 m1 h => ?_)
  replace h := id h
  refine w_istore (lv' := [some (2, 379), some (2, l1), some (0, l2), some (0, l3), some (2, l4), some (0, r1), none, none, none, none, none]) rfl rfl rfl ?_
  refine w_aload_n rfl rfl ?_
  refine w_bipush rfl (by decide) ?_
  refine w_callV (t' := 0) [(0, 8)] [] rfl s_379 rfl rfl ?_
  refine w_C.more (Q := fun r2 m2 => _) h (fun r2 m2 h => ?_)
  replace h := id h
  refine w_istore (lv' := [some (2, 379), some (2, l1), some (0, l2), some (0, l3), some (2, l4), some (0, r1), some (0, r2), none, none, none, none]) rfl rfl rfl ?_
  refine w_iload rfl rfl ?_
  refine w_iflt rfl (w_ite h (fun h => ?_) (fun h => ?_))
  · refine w_iconst rfl (by decide) ?_
    exact w_iret rfl rfl h
  · refine w_iload rfl rfl ?_
    refine w_bipush rfl (by decide) ?_
    refine w_iandm 4 (c := 16) rfl (by decide) rfl rfl ?_
    refine w_bipush rfl (by decide) ?_
    refine w_icne rfl (w_ite h (fun h => ?_) (fun h => ?_))
    · refine w_iload rfl rfl ?_
      refine w_iconst rfl (by decide) ?_
      refine w_ishrk (c := 16) rfl (by decide) (by decide) rfl ?_
      refine w_bipush rfl (by decide) ?_
      refine w_icgt rfl (w_ite h (fun h => ?_) (fun h => ?_))
      · refine w_iconst rfl (by decide) ?_
        exact w_iret rfl rfl h
      · refine w_iload rfl rfl ?_
        refine w_bipush rfl (by decide) ?_
        refine w_iand rfl ?_
        refine w_ifne rfl (w_ite h (fun h => ?_) (fun h => ?_))
        · refine w_iload rfl rfl ?_
          refine w_sipush rfl (by decide) ?_
          refine w_imul rfl ?_
          refine w_iload rfl rfl ?_
          refine w_iadd rfl ?_
          refine w_bipush rfl (by decide) ?_
          refine w_iremk rfl (by decide) ?_
          refine w_ifeq rfl (w_ite h (fun h => ?_) (fun h => ?_))
          · refine w_iconst rfl (by decide) ?_
            refine w_istore (lv' := [some (2, 379), some (2, l1), some (0, l2), some (0, l3), some (2, l4), some (0, r1), some (0, r2), some (0, 0), none, none, none]) rfl rfl rfl ?_
            refine w_iconst rfl (by decide) ?_
            refine w_istore (lv' := [some (2, 379), some (2, l1), some (0, l2), some (0, l3), some (2, l4), some (0, r1), some (0, r2), some (0, 0), some (0, 0), none, none]) rfl rfl rfl ?_
            exact w_W.less h (w_sub [true, true, false, false, false, false, false, true, true, false, false] rfl)
          · refine w_iconst rfl (by decide) ?_
            exact w_iret rfl rfl h
        · refine w_iconst rfl (by decide) ?_
          exact w_iret rfl rfl h
    · refine w_iconst rfl (by decide) ?_
      exact w_iret rfl rfl h
theorem xr_in_run_125 {d : Nat} {l1 l7 l8 : Int} {m : w_M} {Q : Int → w_M → Prop} (h : w_isR l1 ∧ (if (w_32 ((w_ln l1) * 8)) < l8 then (if l7 = 1 then (xc_in_endsWell d m (fun r1 m1 => if r1 = 0 then (Q (-1) m1) else (Q (m1 379 10) m1))) else (Q (-1) m)) else (if l7 = 0 then (xc_in_bits d 1 m (fun r2 m2 => xc_in_bits d 2 m2 (fun r3 m3 => if r3 = 0 then (xc_in_stored d m3 (fun r4 m4 => if r2 < 0 then (Q (-1) m4) else (if r4 = 0 then (Q (-1) m4) else (xp_in_run_125 d l1 r2 (w_32 (l8 + 1)) m4 Q)))) else (if r3 = 1 then (xc_in_fixedCodes d m3 (fun r5 m5 => xc_in_decode d m5 (fun r6 m6 => if r2 < 0 then (Q (-1) m6) else (if r6 = 0 then (Q (-1) m6) else (xp_in_run_125 d l1 r2 (w_32 (l8 + 1)) m6 Q))))) else (if r3 = 2 then (xc_in_readCodes d m3 (fun r7 m7 => if r7 = 0 then (if r2 < 0 then (Q (-1) m7) else (Q (-1) m7)) else (xc_in_readSizes d m7 (fun r8 m8 => if r8 = 0 then (if r2 < 0 then (Q (-1) m8) else (Q (-1) m8)) else (xc_in_dynamicCodes d m8 (fun r9 m9 => if r9 = 0 then (if r2 < 0 then (Q (-1) m9) else (Q (-1) m9)) else (xc_in_decode d m9 (fun r10 m10 => if r10 = 0 then (if r2 < 0 then (Q (-1) m10) else (Q (-1) m10)) else (if r2 < 0 then (Q (-1) m10) else (xp_in_run_125 d l1 r2 (w_32 (l8 + 1)) m10 Q)))))))))) else (if r2 < 0 then (Q (-1) m3) else (Q (-1) m3))))))) else (if l7 = 1 then (xc_in_endsWell d m (fun r11 m11 => if r11 = 0 then (Q (-1) m11) else (Q (m11 379 10) m11))) else (Q (-1) m))))) : xp_in_run_125 d l1 l7 l8 m Q := by
  refine w_iload rfl rfl ?_
  refine w_aload_n rfl rfl ?_
  refine x_len rfl h.1 ?_
  replace h := h.2
  refine w_bipush rfl (by decide) ?_
  refine w_imul rfl ?_
  refine w_icgt rfl (w_ite h (fun h => ?_) (fun h => ?_))
  · refine w_iload rfl rfl ?_
    refine w_iconst rfl (by decide) ?_
    refine w_icne rfl (w_ite h (fun h => ?_) (fun h => ?_))
    · refine w_aload_n rfl rfl ?_
      refine w_callV (t' := 0) [] [] rfl s_379 rfl rfl ?_
      refine w_C.more (Q := fun r1 m1 => _) h (fun r1 m1 h => ?_)
      replace h := id h
      refine w_ifeq rfl (w_ite h (fun h => ?_) (fun h => ?_))
      · refine w_iconst rfl (by decide) ?_
        exact w_iret rfl rfl h
      · refine w_aload_n rfl rfl ?_
        refine x_gfI rfl s_379 rfl (kk := 10) rfl rfl ?_
        refine w_goto rfl ?_
        exact w_iret rfl rfl h
    · refine w_iconst rfl (by decide) ?_
      exact w_iret rfl rfl h
  · refine w_iload rfl rfl ?_
    refine w_ifne rfl (w_ite h (fun h => ?_) (fun h => ?_))
    · refine w_aload_n rfl rfl ?_
      refine w_iconst rfl (by decide) ?_
      refine w_callV (t' := 0) [(0, 1)] [] rfl s_379 rfl rfl ?_
      refine w_C.more (Q := fun r2 m2 => _) h (fun r2 m2 h => ?_)
      replace h := id h
      refine w_istore (lv' := [some (2, 379), some (2, l1), none, none, none, none, none, some (0, r2), some (0, l8), none, none]) rfl rfl rfl ?_
      refine w_aload_n rfl rfl ?_
      refine w_iconst rfl (by decide) ?_
      refine w_callV (t' := 0) [(0, 2)] [] rfl s_379 rfl rfl ?_
      refine w_C.more (Q := fun r3 m3 => _) h (fun r3 m3 h => ?_)
      replace h := id h
      refine w_istore (lv' := [some (2, 379), some (2, l1), none, none, none, none, none, some (0, r2), some (0, l8), some (0, r3), none]) rfl rfl rfl ?_
      refine w_iconst rfl (by decide) ?_
      refine w_istore (lv' := [some (2, 379), some (2, l1), none, none, none, none, none, some (0, r2), some (0, l8), some (0, r3), some (0, 0)]) rfl rfl rfl ?_
      refine w_iload rfl rfl ?_
      refine w_ifne rfl (w_ite h (fun h => ?_) (fun h => ?_))
      · refine w_aload_n rfl rfl ?_
        refine w_callV (t' := 0) [] [] rfl s_379 rfl rfl ?_
        refine w_C.more (Q := fun r4 m4 => _) h (fun r4 m4 h => ?_)
        replace h := id h
        refine w_istore (lv' := [some (2, 379), some (2, l1), none, none, none, none, none, some (0, r2), some (0, l8), some (0, r3), some (0, r4)]) rfl rfl rfl ?_
        refine w_goto rfl ?_
        refine w_iload rfl rfl ?_
        refine w_iflt rfl (w_ite h (fun h => ?_) (fun h => ?_))
        · refine w_iconst rfl (by decide) ?_
          exact w_iret rfl rfl h
        · refine w_iload rfl rfl ?_
          refine w_ifne rfl (w_ite h (fun h => ?_) (fun h => ?_))
          · refine w_iconst rfl (by decide) ?_
            exact w_iret rfl rfl h
          · refine w_iinc (lv' := [some (2, 379), some (2, l1), none, none, none, none, none, some (0, r2), some (0, w_32 (l8 + 1)), some (0, r3), some (0, r4)]) rfl rfl rfl rfl ?_
            refine w_goto rfl ?_
            exact w_W.less h (w_sub [true, true, false, false, false, false, false, true, true, false, false] rfl)
      · refine w_iload rfl rfl ?_
        refine w_iconst rfl (by decide) ?_
        refine w_icne rfl (w_ite h (fun h => ?_) (fun h => ?_))
        · refine w_aload_n rfl rfl ?_
          refine w_callV (t' := 3) [] [] rfl s_379 rfl rfl ?_
          refine w_C.more (Q := fun r5 m5 => _) h (fun r5 m5 h => ?_)
          replace h := id h
          refine w_aload_n rfl rfl ?_
          refine w_callV (t' := 0) [] [] rfl s_379 rfl rfl ?_
          refine w_C.more (Q := fun r6 m6 => _) h (fun r6 m6 h => ?_)
          replace h := id h
          refine w_istore (lv' := [some (2, 379), some (2, l1), none, none, none, none, none, some (0, r2), some (0, l8), some (0, r3), some (0, r6)]) rfl rfl rfl ?_
          refine w_goto rfl ?_
          refine w_iload rfl rfl ?_
          refine w_iflt rfl (w_ite h (fun h => ?_) (fun h => ?_))
          · refine w_iconst rfl (by decide) ?_
            exact w_iret rfl rfl h
          · refine w_iload rfl rfl ?_
            refine w_ifne rfl (w_ite h (fun h => ?_) (fun h => ?_))
            · refine w_iconst rfl (by decide) ?_
              exact w_iret rfl rfl h
            · refine w_iinc (lv' := [some (2, 379), some (2, l1), none, none, none, none, none, some (0, r2), some (0, w_32 (l8 + 1)), some (0, r3), some (0, r6)]) rfl rfl rfl rfl ?_
              refine w_goto rfl ?_
              exact w_W.less h (w_sub [true, true, false, false, false, false, false, true, true, false, false] rfl)
        · refine w_iload rfl rfl ?_
          refine w_iconst rfl (by decide) ?_
          refine w_icne rfl (w_ite h (fun h => ?_) (fun h => ?_))
          · refine w_aload_n rfl rfl ?_
            refine w_callV (t' := 0) [] [] rfl s_379 rfl rfl ?_
            refine w_C.more (Q := fun r7 m7 => _) h (fun r7 m7 h => ?_)
            replace h := id h
            refine w_ifeq rfl (w_ite h (fun h => ?_) (fun h => ?_))
            · refine w_iconst rfl (by decide) ?_
              refine w_istore (lv' := [some (2, 379), some (2, l1), none, none, none, none, none, some (0, r2), some (0, l8), some (0, r3), some (0, 0)]) rfl rfl rfl ?_
              refine w_iload rfl rfl ?_
              refine w_iflt rfl (w_ite h (fun h => ?_) (fun h => ?_))
              · refine w_iconst rfl (by decide) ?_
                exact w_iret rfl rfl h
              · refine w_iload rfl rfl ?_
                refine w_ifne rfl (w_ift (by decide) ?_)
                refine w_iconst rfl (by decide) ?_
                exact w_iret rfl rfl h
            · refine w_aload_n rfl rfl ?_
              refine w_callV (t' := 0) [] [] rfl s_379 rfl rfl ?_
              refine w_C.more (Q := fun r8 m8 => _) h (fun r8 m8 h => ?_)
              replace h := id h
              refine w_ifeq rfl (w_ite h (fun h => ?_) (fun h => ?_))
              · refine w_iconst rfl (by decide) ?_
                refine w_istore (lv' := [some (2, 379), some (2, l1), none, none, none, none, none, some (0, r2), some (0, l8), some (0, r3), some (0, 0)]) rfl rfl rfl ?_
                refine w_iload rfl rfl ?_
                refine w_iflt rfl (w_ite h (fun h => ?_) (fun h => ?_))
                · refine w_iconst rfl (by decide) ?_
                  exact w_iret rfl rfl h
                · refine w_iload rfl rfl ?_
                  refine w_ifne rfl (w_ift (by decide) ?_)
                  refine w_iconst rfl (by decide) ?_
                  exact w_iret rfl rfl h
              · refine w_aload_n rfl rfl ?_
                refine w_callV (t' := 0) [] [] rfl s_379 rfl rfl ?_
                refine w_C.more (Q := fun r9 m9 => _) h (fun r9 m9 h => ?_)
                replace h := id h
                refine w_ifeq rfl (w_ite h (fun h => ?_) (fun h => ?_))
                · refine w_iconst rfl (by decide) ?_
                  refine w_istore (lv' := [some (2, 379), some (2, l1), none, none, none, none, none, some (0, r2), some (0, l8), some (0, r3), some (0, 0)]) rfl rfl rfl ?_
                  refine w_iload rfl rfl ?_
                  refine w_iflt rfl (w_ite h (fun h => ?_) (fun h => ?_))
                  · refine w_iconst rfl (by decide) ?_
                    exact w_iret rfl rfl h
                  · refine w_iload rfl rfl ?_
                    refine w_ifne rfl (w_ift (by decide) ?_)
                    refine w_iconst rfl (by decide) ?_
                    exact w_iret rfl rfl h
                · refine w_aload_n rfl rfl ?_
                  refine w_callV (t' := 0) [] [] rfl s_379 rfl rfl ?_
                  refine w_C.more (Q := fun r10 m10 => _) h (fun r10 m10 h => ?_)
                  replace h := id h
                  refine w_ifeq rfl (w_ite h (fun h => ?_) (fun h => ?_))
                  · refine w_iconst rfl (by decide) ?_
                    refine w_istore (lv' := [some (2, 379), some (2, l1), none, none, none, none, none, some (0, r2), some (0, l8), some (0, r3), some (0, 0)]) rfl rfl rfl ?_
                    refine w_iload rfl rfl ?_
                    refine w_iflt rfl (w_ite h (fun h => ?_) (fun h => ?_))
                    · refine w_iconst rfl (by decide) ?_
                      exact w_iret rfl rfl h
                    · refine w_iload rfl rfl ?_
                      refine w_ifne rfl (w_ift (by decide) ?_)
                      refine w_iconst rfl (by decide) ?_
                      exact w_iret rfl rfl h
                  · refine w_iconst rfl (by decide) ?_
                    refine w_goto rfl ?_
                    refine w_istore (lv' := [some (2, 379), some (2, l1), none, none, none, none, none, some (0, r2), some (0, l8), some (0, r3), some (0, 1)]) rfl rfl rfl ?_
                    refine w_iload rfl rfl ?_
                    refine w_iflt rfl (w_ite h (fun h => ?_) (fun h => ?_))
                    · refine w_iconst rfl (by decide) ?_
                      exact w_iret rfl rfl h
                    · refine w_iload rfl rfl ?_
                      refine w_ifne rfl (w_iff (by decide) ?_)
                      refine w_iinc (lv' := [some (2, 379), some (2, l1), none, none, none, none, none, some (0, r2), some (0, w_32 (l8 + 1)), some (0, r3), some (0, 1)]) rfl rfl rfl rfl ?_
                      refine w_goto rfl ?_
                      exact w_W.less h (w_sub [true, true, false, false, false, false, false, true, true, false, false] rfl)
          · refine w_iload rfl rfl ?_
            refine w_iflt rfl (w_ite h (fun h => ?_) (fun h => ?_))
            · refine w_iconst rfl (by decide) ?_
              exact w_iret rfl rfl h
            · refine w_iload rfl rfl ?_
              refine w_ifne rfl (w_ift (by decide) ?_)
              refine w_iconst rfl (by decide) ?_
              exact w_iret rfl rfl h
    · refine w_iload rfl rfl ?_
      refine w_iconst rfl (by decide) ?_
      refine w_icne rfl (w_ite h (fun h => ?_) (fun h => ?_))
      · refine w_aload_n rfl rfl ?_
        refine w_callV (t' := 0) [] [] rfl s_379 rfl rfl ?_
        refine w_C.more (Q := fun r11 m11 => _) h (fun r11 m11 h => ?_)
        replace h := id h
        refine w_ifeq rfl (w_ite h (fun h => ?_) (fun h => ?_))
        · refine w_iconst rfl (by decide) ?_
          exact w_iret rfl rfl h
        · refine w_aload_n rfl rfl ?_
          refine x_gfI rfl s_379 rfl (kk := 10) rfl rfl ?_
          refine w_goto rfl ?_
          exact w_iret rfl rfl h
      · refine w_iconst rfl (by decide) ?_
        exact w_iret rfl rfl h
theorem xr_in_stored {d : Nat} {m : w_M} {Q : Int → w_M → Prop} (h : xc_in_toWholeByte d m (fun r1 m1 => xc_in_bits d 16 m1 (fun r2 m2 => xc_in_bits d 16 m2 (fun r3 m3 => if r2 < 0 then (Q 0 m3) else (if r3 < 0 then (Q 0 m3) else (if r2 = (w_xor r3 65535) then (xp_in_stored_38 d r2 0 m3 Q) else (Q 0 m3))))))) : xc_in_stored (d + 1) m Q := by
  refine w_enter (q := 4) (lv := [some (2, 379), none, none, none, none]) rfl rfl rfl ?_
  refine w_aload_n rfl rfl ?_
  refine w_callV (t' := 3) [] [] rfl s_379 rfl rfl ?_
  refine w_C.more (Q := fun r1 m1 => _) h (fun r1 m1 h => ?_)
  replace h := id h
  refine w_aload_n rfl rfl ?_
  refine w_bipush rfl (by decide) ?_
  refine w_callV (t' := 0) [(0, 16)] [] rfl s_379 rfl rfl ?_
  refine w_C.more (Q := fun r2 m2 => _) h (fun r2 m2 h => ?_)
  replace h := id h
  refine w_istore_n (lv' := [some (2, 379), some (0, r2), none, none, none]) rfl rfl rfl ?_
  refine w_aload_n rfl rfl ?_
  refine w_bipush rfl (by decide) ?_
  refine w_callV (t' := 0) [(0, 16)] [] rfl s_379 rfl rfl ?_
  refine w_C.more (Q := fun r3 m3 => _) h (fun r3 m3 h => ?_)
  replace h := id h
  refine w_istore_n (lv' := [some (2, 379), some (0, r2), some (0, r3), none, none]) rfl rfl rfl ?_
  refine w_iload_n rfl rfl ?_
  refine w_iflt rfl (w_ite h (fun h => ?_) (fun h => ?_))
  · refine w_iconst rfl (by decide) ?_
    exact w_zret rfl rfl (by decide) h
  · refine w_iload_n rfl rfl ?_
    refine w_iflt rfl (w_ite h (fun h => ?_) (fun h => ?_))
    · refine w_iconst rfl (by decide) ?_
      exact w_zret rfl rfl (by decide) h
    · refine w_iload_n rfl rfl ?_
      refine w_iload_n rfl rfl ?_
      refine w_ldc (a := 65535) rfl (by decide +kernel) (by decide) ?_
      refine w_ixor rfl ?_
      refine w_iceq rfl (w_ite h (fun h => ?_) (fun h => ?_))
      · refine w_iconst rfl (by decide) ?_
        refine w_istore_n (lv' := [some (2, 379), some (0, r2), some (0, r3), some (0, 0), none]) rfl rfl rfl ?_
        exact w_W.less h (w_sub [true, true, false, true, false] rfl)
      · refine w_iconst rfl (by decide) ?_
        exact w_zret rfl rfl (by decide) h
theorem xr_in_stored_38 {d : Nat} {l1 l3 : Int} {m : w_M} {Q : Int → w_M → Prop} (h : if l3 < l1 then (xc_in_bits d 8 m (fun r1 m1 => if r1 < 0 then (Q 0 m1) else (xc_in_write d r1 m1 (fun r2 m2 => if r2 = 0 then (Q 0 m2) else (xp_in_stored_38 d l1 (w_32 (l3 + 1)) m2 Q))))) else (Q 1 m)) : xp_in_stored_38 d l1 l3 m Q := by
  refine w_iload_n rfl rfl ?_
  refine w_iload_n rfl rfl ?_
  refine w_icge rfl (w_ite h (fun h => ?_) (fun h => ?_))
  · refine w_aload_n rfl rfl ?_
    refine w_bipush rfl (by decide) ?_
    refine w_callV (t' := 0) [(0, 8)] [] rfl s_379 rfl rfl ?_
    refine w_C.more (Q := fun r1 m1 => _) h (fun r1 m1 h => ?_)
    replace h := id h
    refine w_istore (lv' := [some (2, 379), some (0, l1), none, some (0, l3), some (0, r1)]) rfl rfl rfl ?_
    refine w_iload rfl rfl ?_
    refine w_iflt rfl (w_ite h (fun h => ?_) (fun h => ?_))
    · refine w_iconst rfl (by decide) ?_
      exact w_zret rfl rfl (by decide) h
    · refine w_aload_n rfl rfl ?_
      refine w_iload rfl rfl ?_
      refine w_callV (t' := 0) [(0, r1)] [] rfl s_379 rfl rfl ?_
      refine w_C.more (Q := fun r2 m2 => _) h (fun r2 m2 h => ?_)
      replace h := id h
      refine w_ifne rfl (w_ite h (fun h => ?_) (fun h => ?_))
      · refine w_iconst rfl (by decide) ?_
        exact w_zret rfl rfl (by decide) h
      · refine w_iinc (lv' := [some (2, 379), some (0, l1), none, some (0, w_32 (l3 + 1)), some (0, r1)]) rfl rfl rfl rfl ?_
        refine w_goto rfl ?_
        exact w_W.less h (w_sub [true, true, false, true, false] rfl)
  · refine w_iconst rfl (by decide) ?_
    exact w_zret rfl rfl (by decide) h
theorem xr_in_symbol {d : Nat} {l1 l2 : Int} {m : w_M} {Q : Int → w_M → Prop} (h : xp_in_symbol_11 d l1 l2 0 0 0 1 m Q) : xc_in_symbol (d + 1) l1 l2 m Q := by
  refine w_enter (q := 6) (lv := [some (2, 379), some (2, l1), some (2, l2), none, none, none, none, none, none]) rfl rfl rfl ?_
  refine w_iconst rfl (by decide) ?_
  refine w_istore_n (lv' := [some (2, 379), some (2, l1), some (2, l2), some (0, 0), none, none, none, none, none]) rfl rfl rfl ?_
  refine w_iconst rfl (by decide) ?_
  refine w_istore (lv' := [some (2, 379), some (2, l1), some (2, l2), some (0, 0), some (0, 0), none, none, none, none]) rfl rfl rfl ?_
  refine w_iconst rfl (by decide) ?_
  refine w_istore (lv' := [some (2, 379), some (2, l1), some (2, l2), some (0, 0), some (0, 0), some (0, 0), none, none, none]) rfl rfl rfl ?_
  refine w_iconst rfl (by decide) ?_
  refine w_istore (lv' := [some (2, 379), some (2, l1), some (2, l2), some (0, 0), some (0, 0), some (0, 0), some (0, 1), none, none]) rfl rfl rfl ?_
  exact w_W.less h (w_sub [true, true, true, true, true, true, true, false, false] rfl)
theorem xr_in_symbol_11 {d : Nat} {l1 l2 l3 l4 l5 l6 : Int} {m : w_M} {Q : Int → w_M → Prop} (h : if 15 < l6 then (Q (-1) m) else (if (m 379 14) = 0 then (if (m 379 7) < 0 then (Q (-1) m) else (if (m 379 7) < (m 379 8) then ((0 : Int) ≤ (m 379 6) ∧ (w_isR (m 379 6) ∧ (if (m 379 7) < (w_ln (m 379 6)) then ((0 : Int) ≤ (m 379 6) ∧ (w_isA 1 (m 379 6) ∧ ((0 : Int) ≤ (m 379 7) ∧ (m 379 7) < w_ln (m 379 6)) ∧ (xp_in_symbol_90 d l1 l2 l3 l4 l5 l6 (w_up (w_up (w_up m 379 13 ((m (m 379 6) (m 379 7)) % 256)) 379 14 8) 379 7 (w_32 ((m 379 7) + 1))) Q))) else (Q (-1) m)))) else (Q (-1) m))) else (xp_in_symbol_90 d l1 l2 l3 l4 l5 l6 m Q))) : xp_in_symbol_11 d l1 l2 l3 l4 l5 l6 m Q := by
  refine w_iload rfl rfl ?_
  refine w_bipush rfl (by decide) ?_
  refine w_icgt rfl (w_ite h (fun h => ?_) (fun h => ?_))
  · refine w_iconst rfl (by decide) ?_
    exact w_iret rfl rfl h
  · refine w_aload_n rfl rfl ?_
    refine x_gfI rfl s_379 rfl (kk := 14) rfl rfl ?_
    refine w_ifne rfl (w_ite h (fun h => ?_) (fun h => ?_))
    · refine w_aload_n rfl rfl ?_
      refine x_gfI rfl s_379 rfl (kk := 7) rfl rfl ?_
      refine w_iflt rfl (w_ite h (fun h => ?_) (fun h => ?_))
      · refine w_iconst rfl (by decide) ?_
        exact w_iret rfl rfl h
      · refine w_aload_n rfl rfl ?_
        refine x_gfI rfl s_379 rfl (kk := 7) rfl rfl ?_
        refine w_aload_n rfl rfl ?_
        refine x_gfI rfl s_379 rfl (kk := 8) rfl rfl ?_
        refine w_icge rfl (w_ite h (fun h => ?_) (fun h => ?_))
        · refine w_aload_n rfl rfl ?_
          refine x_gfI rfl s_379 rfl (kk := 7) rfl rfl ?_
          refine w_aload_n rfl rfl ?_
          refine x_gfR rfl s_379 rfl (kk := 6) rfl rfl h.1 ?_
          replace h := h.2
          refine x_len rfl h.1 ?_
          replace h := h.2
          refine w_iclt rfl (w_ite h (fun h => ?_) (fun h => ?_))
          · refine w_aload_n rfl rfl ?_
            refine w_aload_n rfl rfl ?_
            refine x_gfR rfl s_379 rfl (kk := 6) rfl rfl h.1 ?_
            replace h := h.2
            refine w_aload_n rfl rfl ?_
            refine x_gfI rfl s_379 rfl (kk := 7) rfl rfl ?_
            refine x_bald rfl h.1 h.2.1 ?_
            replace h := h.2.2
            refine w_sipush rfl (by decide) ?_
            refine w_iandm 8 (c := 256) rfl (by decide) rfl rfl ?_
            refine w_pfI rfl s_379 rfl (w_EC (by decide)) rfl (kk := 13) rfl ?_
            refine w_aload_n rfl rfl ?_
            refine w_bipush rfl (by decide) ?_
            refine w_pfI rfl s_379 rfl (w_EC (by decide)) rfl (kk := 14) rfl ?_
            refine w_aload_n rfl rfl ?_
            refine w_dup rfl (show (2 : Nat) ≠ 1 by decide) ?_
            refine x_gfI rfl s_379 rfl (kk := 7) rfl ((w_up_nb (by decide)).trans (w_up_nb (by decide))) ?_
            refine w_iconst rfl (by decide) ?_
            refine w_iadd rfl ?_
            refine w_pfI rfl s_379 rfl (w_EC (by decide)) rfl (kk := 7) rfl ?_
            exact w_W.less h (w_sub [true, true, true, true, true, true, true, false, false] rfl)
          · refine w_iconst rfl (by decide) ?_
            exact w_iret rfl rfl h
        · refine w_iconst rfl (by decide) ?_
          exact w_iret rfl rfl h
    · exact w_W.less h (w_sub [true, true, true, true, true, true, true, false, false] rfl)
theorem xr_in_symbol_90 {d : Nat} {l1 l2 l3 l4 l5 l6 : Int} {m : w_M} {Q : Int → w_M → Prop} (h : w_isA 0 l1 ∧ ((0 : Int) ≤ l6 ∧ l6 < w_ln l1) ∧ (if (w_32 ((w_or l3 ((m 379 13) % 2)) - ((w_up (w_up m 379 13 (w_ushr (m 379 13) 1)) 379 14 (w_32 ((m 379 14) - 1))) l1 l6))) < l4 then (if (w_32 ((w_32 (l5 + (w_or l3 ((m 379 13) % 2)))) - l4)) < 0 then (Q (-1) (w_up (w_up m 379 13 (w_ushr (m 379 13) 1)) 379 14 (w_32 ((m 379 14) - 1)))) else (w_isR l2 ∧ (if (w_32 ((w_32 (l5 + (w_or l3 ((m 379 13) % 2)))) - l4)) < (w_ln l2) then (w_isA 0 l2 ∧ ((0 : Int) ≤ (w_32 ((w_32 (l5 + (w_or l3 ((m 379 13) % 2)))) - l4)) ∧ (w_32 ((w_32 (l5 + (w_or l3 ((m 379 13) % 2)))) - l4)) < w_ln l2) ∧ (Q ((w_up (w_up m 379 13 (w_ushr (m 379 13) 1)) 379 14 (w_32 ((m 379 14) - 1))) l2 (w_32 ((w_32 (l5 + (w_or l3 ((m 379 13) % 2)))) - l4))) (w_up (w_up m 379 13 (w_ushr (m 379 13) 1)) 379 14 (w_32 ((m 379 14) - 1))))) else (Q (-1) (w_up (w_up m 379 13 (w_ushr (m 379 13) 1)) 379 14 (w_32 ((m 379 14) - 1))))))) else (xp_in_symbol_11 d l1 l2 (w_32 ((w_or l3 ((m 379 13) % 2)) * 2)) (w_32 ((w_32 (l4 + ((w_up (w_up m 379 13 (w_ushr (m 379 13) 1)) 379 14 (w_32 ((m 379 14) - 1))) l1 l6))) * 2)) (w_32 (l5 + ((w_up (w_up m 379 13 (w_ushr (m 379 13) 1)) 379 14 (w_32 ((m 379 14) - 1))) l1 l6))) (w_32 (l6 + 1)) (w_up (w_up m 379 13 (w_ushr (m 379 13) 1)) 379 14 (w_32 ((m 379 14) - 1))) Q))) : xp_in_symbol_90 d l1 l2 l3 l4 l5 l6 m Q := by
  refine w_iload_n rfl rfl ?_
  refine w_aload_n rfl rfl ?_
  refine x_gfI rfl s_379 rfl (kk := 13) rfl rfl ?_
  refine w_iconst rfl (by decide) ?_
  refine w_iandm 1 (c := 2) rfl (by decide) rfl rfl ?_
  refine w_ior rfl ?_
  refine w_istore_n (lv' := [some (2, 379), some (2, l1), some (2, l2), some (0, w_or l3 ((m 379 13) % 2)), some (0, l4), some (0, l5), some (0, l6), none, none]) rfl rfl rfl ?_
  refine w_aload_n rfl rfl ?_
  refine w_dup rfl (show (2 : Nat) ≠ 1 by decide) ?_
  refine x_gfI rfl s_379 rfl (kk := 13) rfl rfl ?_
  refine w_iconst rfl (by decide) ?_
  refine w_iushr rfl ?_
  refine w_pfI rfl s_379 rfl (w_EC (by decide)) rfl (kk := 13) rfl ?_
  refine w_aload_n rfl rfl ?_
  refine w_dup rfl (show (2 : Nat) ≠ 1 by decide) ?_
  refine x_gfI rfl s_379 rfl (kk := 14) rfl (w_up_nb (by decide)) ?_
  refine w_iconst rfl (by decide) ?_
  refine w_isub rfl ?_
  refine w_pfI rfl s_379 rfl (w_EC (by decide)) rfl (kk := 14) rfl ?_
  refine w_aload_n rfl rfl ?_
  refine w_iload rfl rfl ?_
  refine x_iald rfl h.1 h.2.1 ?_
  replace h := h.2.2
  refine w_istore (lv' := [some (2, 379), some (2, l1), some (2, l2), some (0, w_or l3 ((m 379 13) % 2)), some (0, l4), some (0, l5), some (0, l6), some (0, (w_up (w_up m 379 13 (w_ushr (m 379 13) 1)) 379 14 (w_32 ((m 379 14) - 1))) l1 l6), none]) rfl rfl rfl ?_
  refine w_iload_n rfl rfl ?_
  refine w_iload rfl rfl ?_
  refine w_isub rfl ?_
  refine w_iload rfl rfl ?_
  refine w_icge rfl (w_ite h (fun h => ?_) (fun h => ?_))
  · refine w_iload rfl rfl ?_
    refine w_iload_n rfl rfl ?_
    refine w_iadd rfl ?_
    refine w_iload rfl rfl ?_
    refine w_isub rfl ?_
    refine w_istore (lv' := [some (2, 379), some (2, l1), some (2, l2), some (0, w_or l3 ((m 379 13) % 2)), some (0, l4), some (0, l5), some (0, l6), some (0, (w_up (w_up m 379 13 (w_ushr (m 379 13) 1)) 379 14 (w_32 ((m 379 14) - 1))) l1 l6), some (0, w_32 ((w_32 (l5 + (w_or l3 ((m 379 13) % 2)))) - l4))]) rfl rfl rfl ?_
    refine w_iload rfl rfl ?_
    refine w_iflt rfl (w_ite h (fun h => ?_) (fun h => ?_))
    · refine w_iconst rfl (by decide) ?_
      exact w_iret rfl rfl h
    · refine w_iload rfl rfl ?_
      refine w_aload_n rfl rfl ?_
      refine x_len rfl h.1 ?_
      replace h := h.2
      refine w_icge rfl (w_ite h (fun h => ?_) (fun h => ?_))
      · refine w_aload_n rfl rfl ?_
        refine w_iload rfl rfl ?_
        refine x_iald rfl h.1 h.2.1 ?_
        replace h := h.2.2
        refine w_goto rfl ?_
        exact w_iret rfl rfl h
      · refine w_iconst rfl (by decide) ?_
        exact w_iret rfl rfl h
  · refine w_iload rfl rfl ?_
    refine w_iload rfl rfl ?_
    refine w_iadd rfl ?_
    refine w_istore (lv' := [some (2, 379), some (2, l1), some (2, l2), some (0, w_or l3 ((m 379 13) % 2)), some (0, l4), some (0, w_32 (l5 + ((w_up (w_up m 379 13 (w_ushr (m 379 13) 1)) 379 14 (w_32 ((m 379 14) - 1))) l1 l6))), some (0, l6), some (0, (w_up (w_up m 379 13 (w_ushr (m 379 13) 1)) 379 14 (w_32 ((m 379 14) - 1))) l1 l6), none]) rfl rfl rfl ?_
    refine w_iload rfl rfl ?_
    refine w_iload rfl rfl ?_
    refine w_iadd rfl ?_
    refine w_iconst rfl (by decide) ?_
    refine w_ishlk (c := 2) rfl (by decide) (by decide) rfl ?_
    refine w_istore (lv' := [some (2, 379), some (2, l1), some (2, l2), some (0, w_or l3 ((m 379 13) % 2)), some (0, w_32 ((w_32 (l4 + ((w_up (w_up m 379 13 (w_ushr (m 379 13) 1)) 379 14 (w_32 ((m 379 14) - 1))) l1 l6))) * 2)), some (0, w_32 (l5 + ((w_up (w_up m 379 13 (w_ushr (m 379 13) 1)) 379 14 (w_32 ((m 379 14) - 1))) l1 l6))), some (0, l6), some (0, (w_up (w_up m 379 13 (w_ushr (m 379 13) 1)) 379 14 (w_32 ((m 379 14) - 1))) l1 l6), none]) rfl rfl rfl ?_
    refine w_iload_n rfl rfl ?_
    refine w_iconst rfl (by decide) ?_
    refine w_ishlk (c := 2) rfl (by decide) (by decide) rfl ?_
    refine w_istore_n (lv' := [some (2, 379), some (2, l1), some (2, l2), some (0, w_32 ((w_or l3 ((m 379 13) % 2)) * 2)), some (0, w_32 ((w_32 (l4 + ((w_up (w_up m 379 13 (w_ushr (m 379 13) 1)) 379 14 (w_32 ((m 379 14) - 1))) l1 l6))) * 2)), some (0, w_32 (l5 + ((w_up (w_up m 379 13 (w_ushr (m 379 13) 1)) 379 14 (w_32 ((m 379 14) - 1))) l1 l6))), some (0, l6), some (0, (w_up (w_up m 379 13 (w_ushr (m 379 13) 1)) 379 14 (w_32 ((m 379 14) - 1))) l1 l6), none]) rfl rfl rfl ?_
    refine w_iinc (lv' := [some (2, 379), some (2, l1), some (2, l2), some (0, w_32 ((w_or l3 ((m 379 13) % 2)) * 2)), some (0, w_32 ((w_32 (l4 + ((w_up (w_up m 379 13 (w_ushr (m 379 13) 1)) 379 14 (w_32 ((m 379 14) - 1))) l1 l6))) * 2)), some (0, w_32 (l5 + ((w_up (w_up m 379 13 (w_ushr (m 379 13) 1)) 379 14 (w_32 ((m 379 14) - 1))) l1 l6))), some (0, w_32 (l6 + 1)), some (0, (w_up (w_up m 379 13 (w_ushr (m 379 13) 1)) 379 14 (w_32 ((m 379 14) - 1))) l1 l6), none]) rfl rfl rfl rfl ?_
    refine w_goto rfl ?_
    exact w_W.less h (w_sub [true, true, true, true, true, true, true, false, false] rfl)
theorem xr_in_toWholeByte {d : Nat} {m : w_M} {Q : Int → w_M → Prop} (h : Q 0 (w_up (w_up m 379 13 0) 379 14 0)) : xc_in_toWholeByte (d + 1) m Q := by
  refine w_enter (q := 0) (lv := [some (2, 379)]) rfl rfl rfl ?_
  refine w_aload_n rfl rfl ?_
  refine w_iconst rfl (by decide) ?_
  refine w_pfI rfl s_379 rfl (w_EC (by decide)) rfl (kk := 13) rfl ?_
  refine w_aload_n rfl rfl ?_
  refine w_iconst rfl (by decide) ?_
  refine w_pfI rfl s_379 rfl (w_EC (by decide)) rfl (kk := 14) rfl ?_
  exact w_vret rfl rfl h
theorem xr_in_write {d : Nat} {l1 : Int} {m : w_M} {Q : Int → w_M → Prop} (h : if (m 379 10) < 0 then (Q 0 m) else (if (m 379 10) < 8000 then ((0 : Int) ≤ (m 379 9) ∧ (w_isR (m 379 9) ∧ (if (m 379 10) < (w_ln (m 379 9)) then ((0 : Int) ≤ (m 379 9) ∧ (w_isA 1 (m 379 9) ∧ w_wr (w_G0 sC) (Int.toNat (m 379 9)) ∧ ((0 : Int) ≤ (m 379 10) ∧ (m 379 10) < w_ln (m 379 9)) ∧ (Q 1 (w_up (w_up m (m 379 9) (m 379 10) (w_8 (w_8 l1))) 379 10 (w_32 (((w_up m (m 379 9) (m 379 10) (w_8 (w_8 l1))) 379 10) + 1)))))) else (Q 0 m)))) else (Q 0 m))) : xc_in_write (d + 1) l1 m Q := by
  refine w_enter (q := 0) (lv := [some (2, 379), some (0, l1)]) rfl rfl rfl ?_
  refine w_aload_n rfl rfl ?_
  refine x_gfI rfl s_379 rfl (kk := 10) rfl rfl ?_
  refine w_iflt rfl (w_ite h (fun h => ?_) (fun h => ?_))
  · refine w_iconst rfl (by decide) ?_
    exact w_zret rfl rfl (by decide) h
  · refine w_aload_n rfl rfl ?_
    refine x_gfI rfl s_379 rfl (kk := 10) rfl rfl ?_
    refine w_sipush rfl (by decide) ?_
    refine w_icge rfl (w_ite h (fun h => ?_) (fun h => ?_))
    · refine w_aload_n rfl rfl ?_
      refine x_gfI rfl s_379 rfl (kk := 10) rfl rfl ?_
      refine w_aload_n rfl rfl ?_
      refine x_gfR rfl s_379 rfl (kk := 9) rfl rfl h.1 ?_
      replace h := h.2
      refine x_len rfl h.1 ?_
      replace h := h.2
      refine w_iclt rfl (w_ite h (fun h => ?_) (fun h => ?_))
      · refine w_aload_n rfl rfl ?_
        refine x_gfR rfl s_379 rfl (kk := 9) rfl rfl h.1 ?_
        replace h := h.2
        refine w_aload_n rfl rfl ?_
        refine x_gfI rfl s_379 rfl (kk := 10) rfl rfl ?_
        refine w_iload_n rfl rfl ?_
        refine w_i2b rfl ?_
        refine x_bast rfl h.1 h.2.1 h.2.2.1 ?_
        replace h := h.2.2.2
        refine w_aload_n rfl rfl ?_
        refine w_dup rfl (show (2 : Nat) ≠ 1 by decide) ?_
        refine x_gfI rfl s_379 rfl (kk := 10) rfl rfl ?_
        refine w_iconst rfl (by decide) ?_
        refine w_iadd rfl ?_
        refine w_pfI rfl s_379 rfl (w_EC (by decide)) rfl (kk := 10) rfl ?_
        refine w_iconst rfl (by decide) ?_
        exact w_zret rfl rfl (by decide) h
      · refine w_iconst rfl (by decide) ?_
        exact w_zret rfl rfl (by decide) h
    · refine w_iconst rfl (by decide) ?_
      exact w_zret rfl rfl (by decide) h
