/-! ===== regions (printed by program): tr_.*|ch_.* ===== -/
set_option maxRecDepth 100000
theorem xr_ch_countUp {d : Nat} {l1 l2 : Int} {m : w_M} {Q : Int → w_M → Prop} (h : xp_ch_countUp_5 d l2 l1 0 m Q) : xc_ch_countUp (d + 1) l1 l2 m Q := by
  refine w_enter (q := 4) (lv := [some (2, 417), some (0, l1), some (0, l2), none, none, none, none]) rfl rfl rfl ?_
  refine w_iload_n rfl rfl ?_
  refine w_istore_n (lv' := [some (2, 417), some (0, l1), some (0, l2), some (0, l1), none, none, none]) rfl rfl rfl ?_
  refine w_iconst rfl (by decide) ?_
  refine w_istore (lv' := [some (2, 417), some (0, l1), some (0, l2), some (0, l1), some (0, 0), none, none]) rfl rfl rfl ?_
  exact w_W.less h (w_sub [true, false, true, true, true, false, false] rfl)
theorem xr_ch_countUp_5 {d : Nat} {l2 l3 l4 : Int} {m : w_M} {Q : Int → w_M → Prop} (h : if l4 < 200 then (if 0 < l3 then (xc_ta_rootOf d l3 m (fun r1 m1 => xc_ta_entry d r1 6 m1 (fun r2 m2 => xc_st_oneOf d r2 m2 (fun r3 m3 => xc_ch_set d r1 6 2 (w_32 (r3 + l2)) 0 m3 (fun r4 m4 => xc_ta_touch d l3 m4 (fun r5 m5 => xc_tr_aboveOf d l3 m5 (fun r6 m6 => xp_ch_countUp_5 d l2 r6 (w_32 (l4 + 1)) m6 Q))))))) else (Q 0 m)) else (Q 0 m)) : xp_ch_countUp_5 d l2 l3 l4 m Q := by
  refine w_iload rfl rfl ?_
  refine w_sipush rfl (by decide) ?_
  refine w_icge rfl (w_ite h (fun h => ?_) (fun h => ?_))
  · refine w_iload_n rfl rfl ?_
    refine w_ifle rfl (w_ite h (fun h => ?_) (fun h => ?_))
    · refine w_aload_n rfl rfl ?_
      refine w_gfC (c := 366) rfl s_417 rfl rfl ?_
      refine w_iload_n rfl rfl ?_
      refine w_callV (t' := 0) [(0, l3)] [] rfl s_366 rfl rfl ?_
      refine w_C.more (Q := fun r1 m1 => _) h (fun r1 m1 h => ?_)
      replace h := id h
      refine w_istore (lv' := [some (2, 417), none, some (0, l2), some (0, l3), some (0, l4), some (0, r1), none]) rfl rfl rfl ?_
      refine w_aload_n rfl rfl ?_
      refine w_gfC (c := 359) rfl s_417 rfl rfl ?_
      refine w_aload_n rfl rfl ?_
      refine w_gfC (c := 366) rfl s_417 rfl rfl ?_
      refine w_iload rfl rfl ?_
      refine w_bipush rfl (by decide) ?_
      refine w_callV (t' := 0) [(0, 6), (0, r1)] [(2, 359)] rfl s_366 rfl rfl ?_
      refine w_C.more (Q := fun r2 m2 => _) h (fun r2 m2 h => ?_)
      replace h := id h
      refine w_callV (t' := 0) [(0, r2)] [] rfl s_359 rfl rfl ?_
      refine w_C.more (Q := fun r3 m3 => _) h (fun r3 m3 h => ?_)
      replace h := id h
      refine w_iload_n rfl rfl ?_
      refine w_iadd rfl ?_
      refine w_istore (lv' := [some (2, 417), none, some (0, l2), some (0, l3), some (0, l4), some (0, r1), some (0, w_32 (r3 + l2))]) rfl rfl rfl ?_
      refine w_aload_n rfl rfl ?_
      refine w_iload rfl rfl ?_
      refine w_bipush rfl (by decide) ?_
      refine w_iconst rfl (by decide) ?_
      refine w_iload rfl rfl ?_
      refine w_iconst rfl (by decide) ?_
      refine w_callV (t' := 3) [(0, 0), (0, w_32 (r3 + l2)), (0, 2), (0, 6), (0, r1)] [] rfl s_417 rfl rfl ?_
      refine w_C.more (Q := fun r4 m4 => _) h (fun r4 m4 h => ?_)
      replace h := id h
      refine w_aload_n rfl rfl ?_
      refine w_gfC (c := 366) rfl s_417 rfl rfl ?_
      refine w_iload_n rfl rfl ?_
      refine w_callV (t' := 3) [(0, l3)] [] rfl s_366 rfl rfl ?_
      refine w_C.more (Q := fun r5 m5 => _) h (fun r5 m5 h => ?_)
      replace h := id h
      refine w_aload_n rfl rfl ?_
      refine w_gfC (c := 399) rfl s_417 rfl rfl ?_
      refine w_iload_n rfl rfl ?_
      refine w_callV (t' := 0) [(0, l3)] [] rfl s_399 rfl rfl ?_
      refine w_C.more (Q := fun r6 m6 => _) h (fun r6 m6 h => ?_)
      replace h := id h
      refine w_istore_n (lv' := [some (2, 417), none, some (0, l2), some (0, r6), some (0, l4), some (0, r1), some (0, w_32 (r3 + l2))]) rfl rfl rfl ?_
      refine w_iinc (lv' := [some (2, 417), none, some (0, l2), some (0, r6), some (0, w_32 (l4 + 1)), some (0, r1), some (0, w_32 (r3 + l2))]) rfl rfl rfl rfl ?_
      refine w_goto rfl ?_
      exact w_W.less h (w_sub [true, false, true, true, true, false, false] rfl)
    · exact w_vret rfl rfl h
  · exact w_vret rfl rfl h
theorem xr_ch_deletePage {d : Nat} {l1 : Int} {m : w_M} {Q : Int → w_M → Prop} (h : xc_tr_has d l1 m (fun r1 m1 => if r1 = 0 then (Q (-1) m1) else (xc_st_hasRoom d m1 (fun r2 m2 => if r2 = 0 then (Q (-1) m2) else (xc_ch_takeOut d l1 m2 (fun r3 m3 => Q (m3 399 7) m3)))))) : xc_ch_deletePage (d + 1) l1 m Q := by
  refine w_enter (q := 0) (lv := [some (2, 417), some (0, l1)]) rfl rfl rfl ?_
  refine w_aload_n rfl rfl ?_
  refine w_gfC (c := 399) rfl s_417 rfl rfl ?_
  refine w_iload_n rfl rfl ?_
  refine w_callV (t' := 0) [(0, l1)] [] rfl s_399 rfl rfl ?_
  refine w_C.more (Q := fun r1 m1 => _) h (fun r1 m1 h => ?_)
  replace h := id h
  refine w_ifeq rfl (w_ite h (fun h => ?_) (fun h => ?_))
  · refine w_iconst rfl (by decide) ?_
    exact w_iret rfl rfl h
  · refine w_aload_n rfl rfl ?_
    refine w_gfC (c := 359) rfl s_417 rfl rfl ?_
    refine w_callV (t' := 0) [] [] rfl s_359 rfl rfl ?_
    refine w_C.more (Q := fun r2 m2 => _) h (fun r2 m2 h => ?_)
    replace h := id h
    refine w_ifne rfl (w_ite h (fun h => ?_) (fun h => ?_))
    · refine w_iconst rfl (by decide) ?_
      exact w_iret rfl rfl h
    · refine w_aload_n rfl rfl ?_
      refine w_iload_n rfl rfl ?_
      refine w_callV (t' := 3) [(0, l1)] [] rfl s_417 rfl rfl ?_
      refine w_C.more (Q := fun r3 m3 => _) h (fun r3 m3 h => ?_)
      replace h := id h
      refine w_aload_n rfl rfl ?_
      refine w_gfC (c := 399) rfl s_417 rfl rfl ?_
      refine x_gfI rfl s_399 rfl (kk := 7) rfl rfl ?_
      exact w_iret rfl rfl h
theorem xr_ch_insertPage {d : Nat} {l1 l2 l3 : Int} {m : w_M} {Q : Int → w_M → Prop} (h : xc_ta_spare d m (fun r1 m1 => if l1 < 0 then (Q (-1) m1) else (if (m1 399 7) < l1 then (Q (-1) m1) else (if l2 < 1 then (Q (-1) m1) else (if 14400 < l2 then (Q (-1) m1) else (if l3 < 1 then (Q (-1) m1) else (if 14400 < l3 then (Q (-1) m1) else (if (m1 399 7) < 60 then (if r1 < 0 then (Q (-1) m1) else (xc_st_hasRoom d m1 (fun r2 m2 => if r2 = 0 then (Q (-1) m2) else (xc_st_add d 7 (-1) 0 m2 (fun r3 m3 => xc_st_oneOf d 4 m3 (fun r4 m4 => xc_st_twoOf d 4 m4 (fun r5 m5 => xc_ch_set d r3 1 4 r4 r5 m5 (fun r6 m6 => xc_ch_set d r3 7 0 0 0 m6 (fun r7 m7 => xc_st_add d 6 (-1) 0 m7 (fun r8 m8 => xc_st_add d 2 0 0 m8 (fun r9 m9 => xc_st_append d r8 r9 m9 (fun r10 m10 => xc_st_add d 2 0 0 m10 (fun r11 m11 => xc_st_append d r8 r11 m11 (fun r12 m12 => xc_st_add d 2 l2 0 m12 (fun r13 m13 => xc_st_append d r8 r13 m13 (fun r14 m14 => xc_st_add d 2 l3 0 m14 (fun r15 m15 => xc_st_append d r8 r15 m15 (fun r16 m16 => xc_st_oneOf d r8 m16 (fun r17 m17 => xc_st_twoOf d r8 m17 (fun r18 m18 => xc_ch_set d r3 8 6 r17 r18 m18 (fun r19 m19 => xc_ta_make d r1 r3 m19 (fun r20 m20 => xc_ch_putIn d r1 l1 m20 (fun r21 m21 => Q r1 m21))))))))))))))))))))))) else (Q (-1) m1))))))))) : xc_ch_insertPage (d + 1) l1 l2 l3 m Q := by
  refine w_enter (q := 3) (lv := [some (2, 417), some (0, l1), some (0, l2), some (0, l3), none, none, none]) rfl rfl rfl ?_
  refine w_aload_n rfl rfl ?_
  refine w_gfC (c := 366) rfl s_417 rfl rfl ?_
  refine w_callV (t' := 0) [] [] rfl s_366 rfl rfl ?_
  refine w_C.more (Q := fun r1 m1 => _) h (fun r1 m1 h => ?_)
  replace h := id h
  refine w_istore (lv' := [some (2, 417), some (0, l1), some (0, l2), some (0, l3), some (0, r1), none, none]) rfl rfl rfl ?_
  refine w_iload_n rfl rfl ?_
  refine w_iflt rfl (w_ite h (fun h => ?_) (fun h => ?_))
  · refine w_iconst rfl (by decide) ?_
    exact w_iret rfl rfl h
  · refine w_iload_n rfl rfl ?_
    refine w_aload_n rfl rfl ?_
    refine w_gfC (c := 399) rfl s_417 rfl rfl ?_
    refine x_gfI rfl s_399 rfl (kk := 7) rfl rfl ?_
    refine w_icgt rfl (w_ite h (fun h => ?_) (fun h => ?_))
    · refine w_iconst rfl (by decide) ?_
      exact w_iret rfl rfl h
    · refine w_iload_n rfl rfl ?_
      refine w_iconst rfl (by decide) ?_
      refine w_iclt rfl (w_ite h (fun h => ?_) (fun h => ?_))
      · refine w_iconst rfl (by decide) ?_
        exact w_iret rfl rfl h
      · refine w_iload_n rfl rfl ?_
        refine w_sipush rfl (by decide) ?_
        refine w_icgt rfl (w_ite h (fun h => ?_) (fun h => ?_))
        · refine w_iconst rfl (by decide) ?_
          exact w_iret rfl rfl h
        · refine w_iload_n rfl rfl ?_
          refine w_iconst rfl (by decide) ?_
          refine w_iclt rfl (w_ite h (fun h => ?_) (fun h => ?_))
          · refine w_iconst rfl (by decide) ?_
            exact w_iret rfl rfl h
          · refine w_iload_n rfl rfl ?_
            refine w_sipush rfl (by decide) ?_
            refine w_icgt rfl (w_ite h (fun h => ?_) (fun h => ?_))
            · refine w_iconst rfl (by decide) ?_
              exact w_iret rfl rfl h
            · refine w_aload_n rfl rfl ?_
              refine w_gfC (c := 399) rfl s_417 rfl rfl ?_
              refine x_gfI rfl s_399 rfl (kk := 7) rfl rfl ?_
              refine w_bipush rfl (by decide) ?_
              refine w_icge rfl (w_ite h (fun h => ?_) (fun h => ?_))
              · refine w_iload rfl rfl ?_
                refine w_iflt rfl (w_ite h (fun h => ?_) (fun h => ?_))
                · refine w_iconst rfl (by decide) ?_
                  exact w_iret rfl rfl h
                · refine w_aload_n rfl rfl ?_
                  refine w_gfC (c := 359) rfl s_417 rfl rfl ?_
                  refine w_callV (t' := 0) [] [] rfl s_359 rfl rfl ?_
                  refine w_C.more (Q := fun r2 m2 => _) h (fun r2 m2 h => ?_)
                  replace h := id h
                  refine w_ifne rfl (w_ite h (fun h => ?_) (fun h => ?_))
                  · refine w_iconst rfl (by decide) ?_
                    exact w_iret rfl rfl h
                  · refine w_aload_n rfl rfl ?_
                    refine w_gfC (c := 359) rfl s_417 rfl rfl ?_
                    refine w_bipush rfl (by decide) ?_
                    refine w_iconst rfl (by decide) ?_
                    refine w_iconst rfl (by decide) ?_
                    refine w_callV (t' := 0) [(0, 0), (0, (-1)), (0, 7)] [] rfl s_359 rfl rfl ?_
                    refine w_C.more (Q := fun r3 m3 => _) h (fun r3 m3 h => ?_)
                    replace h := id h
                    refine w_istore (lv' := [some (2, 417), some (0, l1), some (0, l2), some (0, l3), some (0, r1), some (0, r3), none]) rfl rfl rfl ?_
                    refine w_aload_n rfl rfl ?_
                    refine w_iload rfl rfl ?_
                    refine w_iconst rfl (by decide) ?_
                    refine w_iconst rfl (by decide) ?_
                    refine w_aload_n rfl rfl ?_
                    refine w_gfC (c := 359) rfl s_417 rfl rfl ?_
                    refine w_iconst rfl (by decide) ?_
                    refine w_callV (t' := 0) [(0, 4)] [(0, 4), (0, 1), (0, r3), (2, 417)] rfl s_359 rfl rfl ?_
                    refine w_C.more (Q := fun r4 m4 => _) h (fun r4 m4 h => ?_)
                    replace h := id h
                    refine w_aload_n rfl rfl ?_
                    refine w_gfC (c := 359) rfl s_417 rfl rfl ?_
                    refine w_iconst rfl (by decide) ?_
                    refine w_callV (t' := 0) [(0, 4)] [(0, r4), (0, 4), (0, 1), (0, r3), (2, 417)] rfl s_359 rfl rfl ?_
                    refine w_C.more (Q := fun r5 m5 => _) h (fun r5 m5 h => ?_)
                    replace h := id h
                    refine w_callV (t' := 3) [(0, r5), (0, r4), (0, 4), (0, 1), (0, r3)] [] rfl s_417 rfl rfl ?_
                    refine w_C.more (Q := fun r6 m6 => _) h (fun r6 m6 h => ?_)
                    replace h := id h
                    refine w_aload_n rfl rfl ?_
                    refine w_iload rfl rfl ?_
                    refine w_bipush rfl (by decide) ?_
                    refine w_iconst rfl (by decide) ?_
                    refine w_iconst rfl (by decide) ?_
                    refine w_iconst rfl (by decide) ?_
                    refine w_callV (t' := 3) [(0, 0), (0, 0), (0, 0), (0, 7), (0, r3)] [] rfl s_417 rfl rfl ?_
                    refine w_C.more (Q := fun r7 m7 => _) h (fun r7 m7 h => ?_)
                    replace h := id h
                    refine w_aload_n rfl rfl ?_
                    refine w_gfC (c := 359) rfl s_417 rfl rfl ?_
                    refine w_bipush rfl (by decide) ?_
                    refine w_iconst rfl (by decide) ?_
                    refine w_iconst rfl (by decide) ?_
                    refine w_callV (t' := 0) [(0, 0), (0, (-1)), (0, 6)] [] rfl s_359 rfl rfl ?_
                    refine w_C.more (Q := fun r8 m8 => _) h (fun r8 m8 h => ?_)
                    replace h := id h
                    refine w_istore (lv' := [some (2, 417), some (0, l1), some (0, l2), some (0, l3), some (0, r1), some (0, r3), some (0, r8)]) rfl rfl rfl ?_
                    refine w_aload_n rfl rfl ?_
                    refine w_gfC (c := 359) rfl s_417 rfl rfl ?_
                    refine w_iload rfl rfl ?_
                    refine w_aload_n rfl rfl ?_
                    refine w_gfC (c := 359) rfl s_417 rfl rfl ?_
                    refine w_iconst rfl (by decide) ?_
                    refine w_iconst rfl (by decide) ?_
                    refine w_iconst rfl (by decide) ?_
                    refine w_callV (t' := 0) [(0, 0), (0, 0), (0, 2)] [(0, r8), (2, 359)] rfl s_359 rfl rfl ?_
                    refine w_C.more (Q := fun r9 m9 => _) h (fun r9 m9 h => ?_)
                    replace h := id h
                    refine w_callV (t' := 3) [(0, r9), (0, r8)] [] rfl s_359 rfl rfl ?_
                    refine w_C.more (Q := fun r10 m10 => _) h (fun r10 m10 h => ?_)
                    replace h := id h
                    refine w_aload_n rfl rfl ?_
                    refine w_gfC (c := 359) rfl s_417 rfl rfl ?_
                    refine w_iload rfl rfl ?_
                    refine w_aload_n rfl rfl ?_
                    refine w_gfC (c := 359) rfl s_417 rfl rfl ?_
                    refine w_iconst rfl (by decide) ?_
                    refine w_iconst rfl (by decide) ?_
                    refine w_iconst rfl (by decide) ?_
                    refine w_callV (t' := 0) [(0, 0), (0, 0), (0, 2)] [(0, r8), (2, 359)] rfl s_359 rfl rfl ?_
                    refine w_C.more (Q := fun r11 m11 => _) h (fun r11 m11 h => ?_)
                    replace h := id h
                    refine w_callV (t' := 3) [(0, r11), (0, r8)] [] rfl s_359 rfl rfl ?_
                    refine w_C.more (Q := fun r12 m12 => _) h (fun r12 m12 h => ?_)
                    replace h := id h
                    refine w_aload_n rfl rfl ?_
                    refine w_gfC (c := 359) rfl s_417 rfl rfl ?_
                    refine w_iload rfl rfl ?_
                    refine w_aload_n rfl rfl ?_
                    refine w_gfC (c := 359) rfl s_417 rfl rfl ?_
                    refine w_iconst rfl (by decide) ?_
                    refine w_iload_n rfl rfl ?_
                    refine w_iconst rfl (by decide) ?_
                    refine w_callV (t' := 0) [(0, 0), (0, l2), (0, 2)] [(0, r8), (2, 359)] rfl s_359 rfl rfl ?_
                    refine w_C.more (Q := fun r13 m13 => _) h (fun r13 m13 h => ?_)
                    replace h := id h
                    refine w_callV (t' := 3) [(0, r13), (0, r8)] [] rfl s_359 rfl rfl ?_
                    refine w_C.more (Q := fun r14 m14 => _) h (fun r14 m14 h => ?_)
                    replace h := id h
                    refine w_aload_n rfl rfl ?_
                    refine w_gfC (c := 359) rfl s_417 rfl rfl ?_
                    refine w_iload rfl rfl ?_
                    refine w_aload_n rfl rfl ?_
                    refine w_gfC (c := 359) rfl s_417 rfl rfl ?_
                    refine w_iconst rfl (by decide) ?_
                    refine w_iload_n rfl rfl ?_
                    refine w_iconst rfl (by decide) ?_
                    refine w_callV (t' := 0) [(0, 0), (0, l3), (0, 2)] [(0, r8), (2, 359)] rfl s_359 rfl rfl ?_
                    refine w_C.more (Q := fun r15 m15 => _) h (fun r15 m15 h => ?_)
                    replace h := id h
                    refine w_callV (t' := 3) [(0, r15), (0, r8)] [] rfl s_359 rfl rfl ?_
                    refine w_C.more (Q := fun r16 m16 => _) h (fun r16 m16 h => ?_)
                    replace h := id h
                    refine w_aload_n rfl rfl ?_
                    refine w_iload rfl rfl ?_
                    refine w_bipush rfl (by decide) ?_
                    refine w_bipush rfl (by decide) ?_
                    refine w_aload_n rfl rfl ?_
                    refine w_gfC (c := 359) rfl s_417 rfl rfl ?_
                    refine w_iload rfl rfl ?_
                    refine w_callV (t' := 0) [(0, r8)] [(0, 6), (0, 8), (0, r3), (2, 417)] rfl s_359 rfl rfl ?_
                    refine w_C.more (Q := fun r17 m17 => _) h (fun r17 m17 h => ?_)
                    replace h := id h
                    refine w_aload_n rfl rfl ?_
                    refine w_gfC (c := 359) rfl s_417 rfl rfl ?_
                    refine w_iload rfl rfl ?_
                    refine w_callV (t' := 0) [(0, r8)] [(0, r17), (0, 6), (0, 8), (0, r3), (2, 417)] rfl s_359 rfl rfl ?_
                    refine w_C.more (Q := fun r18 m18 => _) h (fun r18 m18 h => ?_)
                    replace h := id h
                    refine w_callV (t' := 3) [(0, r18), (0, r17), (0, 6), (0, 8), (0, r3)] [] rfl s_417 rfl rfl ?_
                    refine w_C.more (Q := fun r19 m19 => _) h (fun r19 m19 h => ?_)
                    replace h := id h
                    refine w_aload_n rfl rfl ?_
                    refine w_gfC (c := 366) rfl s_417 rfl rfl ?_
                    refine w_iload rfl rfl ?_
                    refine w_iload rfl rfl ?_
                    refine w_callV (t' := 3) [(0, r3), (0, r1)] [] rfl s_366 rfl rfl ?_
                    refine w_C.more (Q := fun r20 m20 => _) h (fun r20 m20 h => ?_)
                    replace h := id h
                    refine w_aload_n rfl rfl ?_
                    refine w_iload rfl rfl ?_
                    refine w_iload_n rfl rfl ?_
                    refine w_callV (t' := 3) [(0, l1), (0, r1)] [] rfl s_417 rfl rfl ?_
                    refine w_C.more (Q := fun r21 m21 => _) h (fun r21 m21 h => ?_)
                    replace h := id h
                    refine w_iload rfl rfl ?_
                    exact w_iret rfl rfl h
              · refine w_iconst rfl (by decide) ?_
                exact w_iret rfl rfl h
theorem xr_ch_movePage {d : Nat} {l1 l2 : Int} {m : w_M} {Q : Int → w_M → Prop} (h : xc_tr_has d l1 m (fun r1 m1 => if r1 = 0 then (Q (-1) m1) else (if l2 < 0 then (Q (-1) m1) else (if l2 < (m1 399 7) then (xc_st_hasRoom d m1 (fun r2 m2 => if r2 = 0 then (Q (-1) m2) else (xc_tr_leafAt d l1 m2 (fun r3 m3 => xc_ch_takeOver d r3 8 m3 (fun r4 m4 => xc_ch_takeOver d r3 9 m4 (fun r5 m5 => xc_ch_takeOver d r3 10 m5 (fun r6 m6 => xc_ch_takeOut d l1 m6 (fun r7 m7 => xc_ch_putIn d r3 l2 m7 (fun r8 m8 => Q r3 m8))))))))) else (Q (-1) m1))))) : xc_ch_movePage (d + 1) l1 l2 m Q := by
  refine w_enter (q := 1) (lv := [some (2, 417), some (0, l1), some (0, l2), none]) rfl rfl rfl ?_
  refine w_aload_n rfl rfl ?_
  refine w_gfC (c := 399) rfl s_417 rfl rfl ?_
  refine w_iload_n rfl rfl ?_
  refine w_callV (t' := 0) [(0, l1)] [] rfl s_399 rfl rfl ?_
  refine w_C.more (Q := fun r1 m1 => _) h (fun r1 m1 h => ?_)
  replace h := id h
  refine w_ifeq rfl (w_ite h (fun h => ?_) (fun h => ?_))
  · refine w_iconst rfl (by decide) ?_
    exact w_iret rfl rfl h
  · refine w_iload_n rfl rfl ?_
    refine w_iflt rfl (w_ite h (fun h => ?_) (fun h => ?_))
    · refine w_iconst rfl (by decide) ?_
      exact w_iret rfl rfl h
    · refine w_iload_n rfl rfl ?_
      refine w_aload_n rfl rfl ?_
      refine w_gfC (c := 399) rfl s_417 rfl rfl ?_
      refine x_gfI rfl s_399 rfl (kk := 7) rfl rfl ?_
      refine w_icge rfl (w_ite h (fun h => ?_) (fun h => ?_))
      · refine w_aload_n rfl rfl ?_
        refine w_gfC (c := 359) rfl s_417 rfl rfl ?_
        refine w_callV (t' := 0) [] [] rfl s_359 rfl rfl ?_
        refine w_C.more (Q := fun r2 m2 => _) h (fun r2 m2 h => ?_)
        replace h := id h
        refine w_ifne rfl (w_ite h (fun h => ?_) (fun h => ?_))
        · refine w_iconst rfl (by decide) ?_
          exact w_iret rfl rfl h
        · refine w_aload_n rfl rfl ?_
          refine w_gfC (c := 399) rfl s_417 rfl rfl ?_
          refine w_iload_n rfl rfl ?_
          refine w_callV (t' := 0) [(0, l1)] [] rfl s_399 rfl rfl ?_
          refine w_C.more (Q := fun r3 m3 => _) h (fun r3 m3 h => ?_)
          replace h := id h
          refine w_istore_n (lv' := [some (2, 417), some (0, l1), some (0, l2), some (0, r3)]) rfl rfl rfl ?_
          refine w_aload_n rfl rfl ?_
          refine w_iload_n rfl rfl ?_
          refine w_bipush rfl (by decide) ?_
          refine w_callV (t' := 3) [(0, 8), (0, r3)] [] rfl s_417 rfl rfl ?_
          refine w_C.more (Q := fun r4 m4 => _) h (fun r4 m4 h => ?_)
          replace h := id h
          refine w_aload_n rfl rfl ?_
          refine w_iload_n rfl rfl ?_
          refine w_bipush rfl (by decide) ?_
          refine w_callV (t' := 3) [(0, 9), (0, r3)] [] rfl s_417 rfl rfl ?_
          refine w_C.more (Q := fun r5 m5 => _) h (fun r5 m5 h => ?_)
          replace h := id h
          refine w_aload_n rfl rfl ?_
          refine w_iload_n rfl rfl ?_
          refine w_bipush rfl (by decide) ?_
          refine w_callV (t' := 3) [(0, 10), (0, r3)] [] rfl s_417 rfl rfl ?_
          refine w_C.more (Q := fun r6 m6 => _) h (fun r6 m6 h => ?_)
          replace h := id h
          refine w_aload_n rfl rfl ?_
          refine w_iload_n rfl rfl ?_
          refine w_callV (t' := 3) [(0, l1)] [] rfl s_417 rfl rfl ?_
          refine w_C.more (Q := fun r7 m7 => _) h (fun r7 m7 h => ?_)
          replace h := id h
          refine w_aload_n rfl rfl ?_
          refine w_iload_n rfl rfl ?_
          refine w_iload_n rfl rfl ?_
          refine w_callV (t' := 3) [(0, l2), (0, r3)] [] rfl s_417 rfl rfl ?_
          refine w_C.more (Q := fun r8 m8 => _) h (fun r8 m8 h => ?_)
          replace h := id h
          refine w_iload_n rfl rfl ?_
          exact w_iret rfl rfl h
      · refine w_iconst rfl (by decide) ?_
        exact w_iret rfl rfl h
theorem xr_ch_ownKids {d : Nat} {l1 : Int} {m : w_M} {Q : Int → w_M → Prop} (h : xc_ta_rootOf d l1 m (fun r1 m1 => xc_st_entry d r1 5 m1 (fun r2 m2 => xc_st_kindOf d r2 m2 (fun r3 m3 => if r3 = 8 then (xc_ta_value d r2 m3 (fun r4 m4 => xc_st_firstPart d r4 m4 (fun r5 m5 => xc_st_parts d r4 m5 (fun r6 m6 => xc_st_become d r2 6 (-1) 0 m6 (fun r7 m7 => xp_ch_ownKids_74 d r2 r5 r6 0 m7 Q))))) else (Q r2 m3))))) : xc_ch_ownKids (d + 1) l1 m Q := by
  refine w_enter (q := 5) (lv := [some (2, 417), some (0, l1), none, none, none, none, none]) rfl rfl rfl ?_
  refine w_aload_n rfl rfl ?_
  refine w_gfC (c := 359) rfl s_417 rfl rfl ?_
  refine w_aload_n rfl rfl ?_
  refine w_gfC (c := 366) rfl s_417 rfl rfl ?_
  refine w_iload_n rfl rfl ?_
  refine w_callV (t' := 0) [(0, l1)] [(2, 359)] rfl s_366 rfl rfl ?_
  refine w_C.more (Q := fun r1 m1 => _) h (fun r1 m1 h => ?_)
  replace h := id h
  refine w_iconst rfl (by decide) ?_
  refine w_callV (t' := 0) [(0, 5), (0, r1)] [] rfl s_359 rfl rfl ?_
  refine w_C.more (Q := fun r2 m2 => _) h (fun r2 m2 h => ?_)
  replace h := id h
  refine w_istore_n (lv' := [some (2, 417), some (0, l1), some (0, r2), none, none, none, none]) rfl rfl rfl ?_
  refine w_aload_n rfl rfl ?_
  refine w_gfC (c := 359) rfl s_417 rfl rfl ?_
  refine w_iload_n rfl rfl ?_
  refine w_callV (t' := 0) [(0, r2)] [] rfl s_359 rfl rfl ?_
  refine w_C.more (Q := fun r3 m3 => _) h (fun r3 m3 h => ?_)
  replace h := id h
  refine w_bipush rfl (by decide) ?_
  refine w_icne rfl (w_ite h (fun h => ?_) (fun h => ?_))
  · refine w_aload_n rfl rfl ?_
    refine w_gfC (c := 366) rfl s_417 rfl rfl ?_
    refine w_iload_n rfl rfl ?_
    refine w_callV (t' := 0) [(0, r2)] [] rfl s_366 rfl rfl ?_
    refine w_C.more (Q := fun r4 m4 => _) h (fun r4 m4 h => ?_)
    replace h := id h
    refine w_istore_n (lv' := [some (2, 417), some (0, l1), some (0, r2), some (0, r4), none, none, none]) rfl rfl rfl ?_
    refine w_aload_n rfl rfl ?_
    refine w_gfC (c := 359) rfl s_417 rfl rfl ?_
    refine w_iload_n rfl rfl ?_
    refine w_callV (t' := 0) [(0, r4)] [] rfl s_359 rfl rfl ?_
    refine w_C.more (Q := fun r5 m5 => _) h (fun r5 m5 h => ?_)
    replace h := id h
    refine w_istore (lv' := [some (2, 417), some (0, l1), some (0, r2), some (0, r4), some (0, r5), none, none]) rfl rfl rfl ?_
    refine w_aload_n rfl rfl ?_
    refine w_gfC (c := 359) rfl s_417 rfl rfl ?_
    refine w_iload_n rfl rfl ?_
    refine w_callV (t' := 0) [(0, r4)] [] rfl s_359 rfl rfl ?_
    refine w_C.more (Q := fun r6 m6 => _) h (fun r6 m6 h => ?_)
    replace h := id h
    refine w_istore (lv' := [some (2, 417), some (0, l1), some (0, r2), some (0, r4), some (0, r5), some (0, r6), none]) rfl rfl rfl ?_
    refine w_aload_n rfl rfl ?_
    refine w_gfC (c := 359) rfl s_417 rfl rfl ?_
    refine w_iload_n rfl rfl ?_
    refine w_bipush rfl (by decide) ?_
    refine w_iconst rfl (by decide) ?_
    refine w_iconst rfl (by decide) ?_
    refine w_callV (t' := 3) [(0, 0), (0, (-1)), (0, 6), (0, r2)] [] rfl s_359 rfl rfl ?_
    refine w_C.more (Q := fun r7 m7 => _) h (fun r7 m7 h => ?_)
    replace h := id h
    refine w_iconst rfl (by decide) ?_
    refine w_istore (lv' := [some (2, 417), some (0, l1), some (0, r2), some (0, r4), some (0, r5), some (0, r6), some (0, 0)]) rfl rfl rfl ?_
    exact w_W.less h (w_sub [true, false, true, false, true, true, true] rfl)
  · refine w_iload_n rfl rfl ?_
    exact w_iret rfl rfl h
theorem xr_ch_ownKids_74 {d : Nat} {l2 l4 l5 l6 : Int} {m : w_M} {Q : Int → w_M → Prop} (h : if l6 < l5 then (xc_st_kindOf d l4 m (fun r1 m1 => xc_st_oneOf d l4 m1 (fun r2 m2 => xc_st_twoOf d l4 m2 (fun r3 m3 => xc_st_add d r1 r2 r3 m3 (fun r4 m4 => xc_st_append d l2 r4 m4 (fun r5 m5 => xc_st_nextOf d l4 m5 (fun r6 m6 => xp_ch_ownKids_74 d l2 r6 l5 (w_32 (l6 + 1)) m6 Q))))))) else (Q l2 m)) : xp_ch_ownKids_74 d l2 l4 l5 l6 m Q := by
  refine w_iload rfl rfl ?_
  refine w_iload rfl rfl ?_
  refine w_icge rfl (w_ite h (fun h => ?_) (fun h => ?_))
  · refine w_aload_n rfl rfl ?_
    refine w_gfC (c := 359) rfl s_417 rfl rfl ?_
    refine w_iload_n rfl rfl ?_
    refine w_aload_n rfl rfl ?_
    refine w_gfC (c := 359) rfl s_417 rfl rfl ?_
    refine w_aload_n rfl rfl ?_
    refine w_gfC (c := 359) rfl s_417 rfl rfl ?_
    refine w_iload rfl rfl ?_
    refine w_callV (t' := 0) [(0, l4)] [(2, 359), (0, l2), (2, 359)] rfl s_359 rfl rfl ?_
    refine w_C.more (Q := fun r1 m1 => _) h (fun r1 m1 h => ?_)
    replace h := id h
    refine w_aload_n rfl rfl ?_
    refine w_gfC (c := 359) rfl s_417 rfl rfl ?_
    refine w_iload rfl rfl ?_
    refine w_callV (t' := 0) [(0, l4)] [(0, r1), (2, 359), (0, l2), (2, 359)] rfl s_359 rfl rfl ?_
    refine w_C.more (Q := fun r2 m2 => _) h (fun r2 m2 h => ?_)
    replace h := id h
    refine w_aload_n rfl rfl ?_
    refine w_gfC (c := 359) rfl s_417 rfl rfl ?_
    refine w_iload rfl rfl ?_
    refine w_callV (t' := 0) [(0, l4)] [(0, r2), (0, r1), (2, 359), (0, l2), (2, 359)] rfl s_359 rfl rfl ?_
    refine w_C.more (Q := fun r3 m3 => _) h (fun r3 m3 h => ?_)
    replace h := id h
    refine w_callV (t' := 0) [(0, r3), (0, r2), (0, r1)] [(0, l2), (2, 359)] rfl s_359 rfl rfl ?_
    refine w_C.more (Q := fun r4 m4 => _) h (fun r4 m4 h => ?_)
    replace h := id h
    refine w_callV (t' := 3) [(0, r4), (0, l2)] [] rfl s_359 rfl rfl ?_
    refine w_C.more (Q := fun r5 m5 => _) h (fun r5 m5 h => ?_)
    replace h := id h
    refine w_aload_n rfl rfl ?_
    refine w_gfC (c := 359) rfl s_417 rfl rfl ?_
    refine w_iload rfl rfl ?_
    refine w_callV (t' := 0) [(0, l4)] [] rfl s_359 rfl rfl ?_
    refine w_C.more (Q := fun r6 m6 => _) h (fun r6 m6 h => ?_)
    replace h := id h
    refine w_istore (lv' := [some (2, 417), none, some (0, l2), none, some (0, r6), some (0, l5), some (0, l6)]) rfl rfl rfl ?_
    refine w_iinc (lv' := [some (2, 417), none, some (0, l2), none, some (0, r6), some (0, l5), some (0, w_32 (l6 + 1))]) rfl rfl rfl rfl ?_
    refine w_goto rfl ?_
    exact w_W.less h (w_sub [true, false, true, false, true, true, true] rfl)
  · refine w_iload_n rfl rfl ?_
    exact w_iret rfl rfl h
theorem xr_ch_placeOf {d : Nat} {l1 l2 : Int} {m : w_M} {Q : Int → w_M → Prop} (h : xc_st_firstPart d l2 m (fun r1 m1 => xp_ch_placeOf_12 d l1 l2 r1 0 m1 Q)) : xc_ch_placeOf (d + 1) l1 l2 m Q := by
  refine w_enter (q := 2) (lv := [some (2, 417), some (0, l1), some (0, l2), none, none]) rfl rfl rfl ?_
  refine w_aload_n rfl rfl ?_
  refine w_gfC (c := 359) rfl s_417 rfl rfl ?_
  refine w_iload_n rfl rfl ?_
  refine w_callV (t' := 0) [(0, l2)] [] rfl s_359 rfl rfl ?_
  refine w_C.more (Q := fun r1 m1 => _) h (fun r1 m1 h => ?_)
  replace h := id h
  refine w_istore_n (lv' := [some (2, 417), some (0, l1), some (0, l2), some (0, r1), none]) rfl rfl rfl ?_
  refine w_iconst rfl (by decide) ?_
  refine w_istore (lv' := [some (2, 417), some (0, l1), some (0, l2), some (0, r1), some (0, 0)]) rfl rfl rfl ?_
  exact w_W.less h (w_sub [true, true, true, true, true] rfl)
theorem xr_ch_placeOf_12 {d : Nat} {l1 l2 l3 l4 : Int} {m : w_M} {Q : Int → w_M → Prop} (h : xc_st_parts d l2 m (fun r1 m1 => if l4 < r1 then (xc_ta_target d l3 m1 (fun r2 m2 => if r2 = l1 then (Q l4 m2) else (xc_st_nextOf d l3 m2 (fun r3 m3 => xp_ch_placeOf_12 d l1 l2 r3 (w_32 (l4 + 1)) m3 Q)))) else (Q (-1) m1))) : xp_ch_placeOf_12 d l1 l2 l3 l4 m Q := by
  refine w_iload rfl rfl ?_
  refine w_aload_n rfl rfl ?_
  refine w_gfC (c := 359) rfl s_417 rfl rfl ?_
  refine w_iload_n rfl rfl ?_
  refine w_callV (t' := 0) [(0, l2)] [(0, l4)] rfl s_359 rfl rfl ?_
  refine w_C.more (Q := fun r1 m1 => _) h (fun r1 m1 h => ?_)
  replace h := id h
  refine w_icge rfl (w_ite h (fun h => ?_) (fun h => ?_))
  · refine w_aload_n rfl rfl ?_
    refine w_gfC (c := 366) rfl s_417 rfl rfl ?_
    refine w_iload_n rfl rfl ?_
    refine w_callV (t' := 0) [(0, l3)] [] rfl s_366 rfl rfl ?_
    refine w_C.more (Q := fun r2 m2 => _) h (fun r2 m2 h => ?_)
    replace h := id h
    refine w_iload_n rfl rfl ?_
    refine w_icne rfl (w_ite h (fun h => ?_) (fun h => ?_))
    · refine w_iload rfl rfl ?_
      exact w_iret rfl rfl h
    · refine w_aload_n rfl rfl ?_
      refine w_gfC (c := 359) rfl s_417 rfl rfl ?_
      refine w_iload_n rfl rfl ?_
      refine w_callV (t' := 0) [(0, l3)] [] rfl s_359 rfl rfl ?_
      refine w_C.more (Q := fun r3 m3 => _) h (fun r3 m3 h => ?_)
      replace h := id h
      refine w_istore_n (lv' := [some (2, 417), some (0, l1), some (0, l2), some (0, r3), some (0, l4)]) rfl rfl rfl ?_
      refine w_iinc (lv' := [some (2, 417), some (0, l1), some (0, l2), some (0, r3), some (0, w_32 (l4 + 1))]) rfl rfl rfl rfl ?_
      refine w_goto rfl ?_
      exact w_W.less h (w_sub [true, true, true, true, true] rfl)
  · refine w_iconst rfl (by decide) ?_
    exact w_iret rfl rfl h
theorem xr_ch_putIn {d : Nat} {l1 l2 : Int} {m : w_M} {Q : Int → w_M → Prop} (h : if l2 < (m 399 7) then (xp_ch_putIn_16 d l1 l2 0 m Q) else (xp_ch_putIn_16 d l1 l2 1 m Q)) : xc_ch_putIn (d + 1) l1 l2 m Q := by
  refine w_enter (q := 8) (lv := [some (2, 417), some (0, l1), some (0, l2), none, none, none, none, none, none, none, none]) rfl rfl rfl ?_
  refine w_iload_n rfl rfl ?_
  refine w_aload_n rfl rfl ?_
  refine w_gfC (c := 399) rfl s_417 rfl rfl ?_
  refine x_gfI rfl s_399 rfl (kk := 7) rfl rfl ?_
  refine w_iclt rfl (w_ite h (fun h => ?_) (fun h => ?_))
  · refine w_iconst rfl (by decide) ?_
    exact w_W.less h (w_sub [true, true, true, false, false, false, false, false, false, false, false] rfl)
  · refine w_iconst rfl (by decide) ?_
    refine w_goto rfl ?_
    exact w_W.less h (w_sub [true, true, true, false, false, false, false, false, false, false, false] rfl)
theorem xr_ch_putIn_16 {d : Nat} {l1 l2 s0 : Int} {m : w_M} {Q : Int → w_M → Prop} (h : if s0 = 0 then (xc_tr_leafAt d l2 m (fun r1 m1 => if 0 < r1 then (xc_tr_aboveOf d r1 m1 (fun r2 m2 => xp_ch_putIn_67 d l1 l2 s0 r1 r2 m2 Q)) else (xp_ch_putIn_67 d l1 l2 s0 r1 (m1 399 8) m1 Q))) else (xc_tr_leafAt d (w_32 ((m 399 7) - 1)) m (fun r3 m3 => if 0 < r3 then (xc_tr_aboveOf d r3 m3 (fun r4 m4 => xp_ch_putIn_67 d l1 l2 s0 r3 r4 m4 Q)) else (xp_ch_putIn_67 d l1 l2 s0 r3 (m3 399 8) m3 Q)))) : xp_ch_putIn_16 d l1 l2 s0 m Q := by
  refine w_istore_n (lv' := [some (2, 417), some (0, l1), some (0, l2), some (0, s0), none, none, none, none, none, none, none]) rfl rfl rfl ?_
  refine w_aload_n rfl rfl ?_
  refine w_gfC (c := 399) rfl s_417 rfl rfl ?_
  refine w_iload_n rfl rfl ?_
  refine w_ifeq rfl (w_ite h (fun h => ?_) (fun h => ?_))
  · refine w_iload_n rfl rfl ?_
    refine w_callV (t' := 0) [(0, l2)] [] rfl s_399 rfl rfl ?_
    refine w_C.more (Q := fun r1 m1 => _) h (fun r1 m1 h => ?_)
    replace h := id h
    refine w_istore (lv' := [some (2, 417), some (0, l1), some (0, l2), some (0, s0), some (0, r1), none, none, none, none, none, none]) rfl rfl rfl ?_
    refine w_iload rfl rfl ?_
    refine w_ifle rfl (w_ite h (fun h => ?_) (fun h => ?_))
    · refine w_aload_n rfl rfl ?_
      refine w_gfC (c := 399) rfl s_417 rfl rfl ?_
      refine w_iload rfl rfl ?_
      refine w_callV (t' := 0) [(0, r1)] [] rfl s_399 rfl rfl ?_
      refine w_C.more (Q := fun r2 m2 => _) h (fun r2 m2 h => ?_)
      replace h := id h
      refine w_goto rfl ?_
      exact w_W.less h (w_sub [true, true, true, true, true, false, false, false, false, false, false] rfl)
    · refine w_aload_n rfl rfl ?_
      refine w_gfC (c := 399) rfl s_417 rfl rfl ?_
      refine x_gfI rfl s_399 rfl (kk := 8) rfl rfl ?_
      exact w_W.less h (w_sub [true, true, true, true, true, false, false, false, false, false, false] rfl)
  · refine w_aload_n rfl rfl ?_
    refine w_gfC (c := 399) rfl s_417 rfl rfl ?_
    refine x_gfI rfl s_399 rfl (kk := 7) rfl rfl ?_
    refine w_iconst rfl (by decide) ?_
    refine w_isub rfl ?_
    refine w_goto rfl ?_
    refine w_callV (t' := 0) [(0, w_32 ((m 399 7) - 1))] [] rfl s_399 rfl rfl ?_
    refine w_C.more (Q := fun r3 m3 => _) h (fun r3 m3 h => ?_)
    replace h := id h
    refine w_istore (lv' := [some (2, 417), some (0, l1), some (0, l2), some (0, s0), some (0, r3), none, none, none, none, none, none]) rfl rfl rfl ?_
    refine w_iload rfl rfl ?_
    refine w_ifle rfl (w_ite h (fun h => ?_) (fun h => ?_))
    · refine w_aload_n rfl rfl ?_
      refine w_gfC (c := 399) rfl s_417 rfl rfl ?_
      refine w_iload rfl rfl ?_
      refine w_callV (t' := 0) [(0, r3)] [] rfl s_399 rfl rfl ?_
      refine w_C.more (Q := fun r4 m4 => _) h (fun r4 m4 h => ?_)
      replace h := id h
      refine w_goto rfl ?_
      exact w_W.less h (w_sub [true, true, true, true, true, false, false, false, false, false, false] rfl)
    · refine w_aload_n rfl rfl ?_
      refine w_gfC (c := 399) rfl s_417 rfl rfl ?_
      refine x_gfI rfl s_399 rfl (kk := 8) rfl rfl ?_
      exact w_W.less h (w_sub [true, true, true, true, true, false, false, false, false, false, false] rfl)
theorem xr_ch_putIn_67 {d : Nat} {l1 l2 l3 l4 s0 : Int} {m : w_M} {Q : Int → w_M → Prop} (h : xc_ch_ownKids d s0 m (fun r1 m1 => if l4 = 0 then (xc_st_parts d r1 m1 (fun r2 m2 => xp_ch_putIn_112 d l1 l2 s0 r1 r2 m2 Q)) else (xc_ch_placeOf d l4 r1 m1 (fun r3 m3 => if l3 = 0 then (xp_ch_putIn_112 d l1 l2 s0 r1 (w_32 (r3 + 0)) m3 Q) else (xp_ch_putIn_112 d l1 l2 s0 r1 (w_32 (r3 + 1)) m3 Q))))) : xp_ch_putIn_67 d l1 l2 l3 l4 s0 m Q := by
  refine w_istore (lv' := [some (2, 417), some (0, l1), some (0, l2), some (0, l3), some (0, l4), some (0, s0), none, none, none, none, none]) rfl rfl rfl ?_
  refine w_aload_n rfl rfl ?_
  refine w_iload rfl rfl ?_
  refine w_callV (t' := 0) [(0, s0)] [] rfl s_417 rfl rfl ?_
  refine w_C.more (Q := fun r1 m1 => _) h (fun r1 m1 h => ?_)
  replace h := id h
  refine w_istore (lv' := [some (2, 417), some (0, l1), some (0, l2), some (0, l3), some (0, l4), some (0, s0), some (0, r1), none, none, none, none]) rfl rfl rfl ?_
  refine w_iload rfl rfl ?_
  refine w_ifne rfl (w_ite h (fun h => ?_) (fun h => ?_))
  · refine w_aload_n rfl rfl ?_
    refine w_gfC (c := 359) rfl s_417 rfl rfl ?_
    refine w_iload rfl rfl ?_
    refine w_callV (t' := 0) [(0, r1)] [] rfl s_359 rfl rfl ?_
    refine w_C.more (Q := fun r2 m2 => _) h (fun r2 m2 h => ?_)
    replace h := id h
    refine w_goto rfl ?_
    exact w_W.less h (w_sub [true, true, true, false, false, true, true, false, false, false, false] rfl)
  · refine w_aload_n rfl rfl ?_
    refine w_iload rfl rfl ?_
    refine w_iload rfl rfl ?_
    refine w_callV (t' := 0) [(0, r1), (0, l4)] [] rfl s_417 rfl rfl ?_
    refine w_C.more (Q := fun r3 m3 => _) h (fun r3 m3 h => ?_)
    replace h := id h
    refine w_iload_n rfl rfl ?_
    refine w_ifeq rfl (w_ite h (fun h => ?_) (fun h => ?_))
    · refine w_iconst rfl (by decide) ?_
      refine w_iadd rfl ?_
      exact w_W.less h (w_sub [true, true, true, false, false, true, true, false, false, false, false] rfl)
    · refine w_iconst rfl (by decide) ?_
      refine w_goto rfl ?_
      refine w_iadd rfl ?_
      exact w_W.less h (w_sub [true, true, true, false, false, true, true, false, false, false, false] rfl)
theorem xr_ch_putIn_112 {d : Nat} {l1 l2 l5 l6 s0 : Int} {m : w_M} {Q : Int → w_M → Prop} (h : xc_ta_generationOf d l1 m (fun r1 m1 => xc_st_add d 8 l1 r1 m1 (fun r2 m2 => xc_st_part d l6 (w_32 (s0 - 1)) m2 (fun r3 m3 => xc_st_firstPart d l6 m3 (fun r4 m4 => if r3 < 0 then (xc_st_link d r2 r4 m4 (fun r5 m5 => xc_st_link d r3 r2 m5 (fun r6 m6 => if r3 < 0 then (xp_ch_putIn_217 d l1 l2 l5 l6 l6 r2 m6 Q) else (xp_ch_putIn_217 d l1 l2 l5 l6 l6 r4 m6 Q)))) else (xc_st_nextOf d r3 m4 (fun r7 m7 => xc_st_link d r2 r7 m7 (fun r8 m8 => xc_st_link d r3 r2 m8 (fun r9 m9 => if r3 < 0 then (xp_ch_putIn_217 d l1 l2 l5 l6 l6 r2 m9 Q) else (xp_ch_putIn_217 d l1 l2 l5 l6 l6 r4 m9 Q)))))))))) : xp_ch_putIn_112 d l1 l2 l5 l6 s0 m Q := by
  refine w_istore (lv' := [some (2, 417), some (0, l1), some (0, l2), none, none, some (0, l5), some (0, l6), some (0, s0), none, none, none]) rfl rfl rfl ?_
  refine w_aload_n rfl rfl ?_
  refine w_gfC (c := 359) rfl s_417 rfl rfl ?_
  refine w_bipush rfl (by decide) ?_
  refine w_iload_n rfl rfl ?_
  refine w_aload_n rfl rfl ?_
  refine w_gfC (c := 366) rfl s_417 rfl rfl ?_
  refine w_iload_n rfl rfl ?_
  refine w_callV (t' := 0) [(0, l1)] [(0, l1), (0, 8), (2, 359)] rfl s_366 rfl rfl ?_
  refine w_C.more (Q := fun r1 m1 => _) h (fun r1 m1 h => ?_)
  replace h := id h
  refine w_callV (t' := 0) [(0, r1), (0, l1), (0, 8)] [] rfl s_359 rfl rfl ?_
  refine w_C.more (Q := fun r2 m2 => _) h (fun r2 m2 h => ?_)
  replace h := id h
  refine w_istore (lv' := [some (2, 417), some (0, l1), some (0, l2), none, none, some (0, l5), some (0, l6), some (0, s0), some (0, r2), none, none]) rfl rfl rfl ?_
  refine w_aload_n rfl rfl ?_
  refine w_gfC (c := 359) rfl s_417 rfl rfl ?_
  refine w_iload rfl rfl ?_
  refine w_iload rfl rfl ?_
  refine w_iconst rfl (by decide) ?_
  refine w_isub rfl ?_
  refine w_callV (t' := 0) [(0, w_32 (s0 - 1)), (0, l6)] [] rfl s_359 rfl rfl ?_
  refine w_C.more (Q := fun r3 m3 => _) h (fun r3 m3 h => ?_)
  replace h := id h
  refine w_istore (lv' := [some (2, 417), some (0, l1), some (0, l2), none, none, some (0, l5), some (0, l6), some (0, s0), some (0, r2), some (0, r3), none]) rfl rfl rfl ?_
  refine w_aload_n rfl rfl ?_
  refine w_gfC (c := 359) rfl s_417 rfl rfl ?_
  refine w_iload rfl rfl ?_
  refine w_callV (t' := 0) [(0, l6)] [] rfl s_359 rfl rfl ?_
  refine w_C.more (Q := fun r4 m4 => _) h (fun r4 m4 h => ?_)
  replace h := id h
  refine w_istore (lv' := [some (2, 417), some (0, l1), some (0, l2), none, none, some (0, l5), some (0, l6), some (0, s0), some (0, r2), some (0, r3), some (0, r4)]) rfl rfl rfl ?_
  refine w_aload_n rfl rfl ?_
  refine w_gfC (c := 359) rfl s_417 rfl rfl ?_
  refine w_iload rfl rfl ?_
  refine w_iload rfl rfl ?_
  refine w_ifge rfl (w_ite h (fun h => ?_) (fun h => ?_))
  · refine w_iload rfl rfl ?_
    refine w_goto rfl ?_
    refine w_callV (t' := 3) [(0, r4), (0, r2)] [] rfl s_359 rfl rfl ?_
    refine w_C.more (Q := fun r5 m5 => _) h (fun r5 m5 h => ?_)
    replace h := id h
    refine w_aload_n rfl rfl ?_
    refine w_gfC (c := 359) rfl s_417 rfl rfl ?_
    refine w_iload rfl rfl ?_
    refine w_iload rfl rfl ?_
    refine w_callV (t' := 3) [(0, r2), (0, r3)] [] rfl s_359 rfl rfl ?_
    refine w_C.more (Q := fun r6 m6 => _) h (fun r6 m6 h => ?_)
    replace h := id h
    refine w_aload_n rfl rfl ?_
    refine w_gfC (c := 359) rfl s_417 rfl rfl ?_
    refine w_iload rfl rfl ?_
    refine w_iload rfl rfl ?_
    refine w_ifge rfl (w_ite h (fun h => ?_) (fun h => ?_))
    · refine w_iload rfl rfl ?_
      refine w_goto rfl ?_
      exact w_W.less h (w_sub [true, true, true, false, false, true, true, false, false, false, false] rfl)
    · refine w_iload rfl rfl ?_
      exact w_W.less h (w_sub [true, true, true, false, false, true, true, false, false, false, false] rfl)
  · refine w_aload_n rfl rfl ?_
    refine w_gfC (c := 359) rfl s_417 rfl rfl ?_
    refine w_iload rfl rfl ?_
    refine w_callV (t' := 0) [(0, r3)] [(0, r2), (2, 359)] rfl s_359 rfl rfl ?_
    refine w_C.more (Q := fun r7 m7 => _) h (fun r7 m7 h => ?_)
    replace h := id h
    refine w_callV (t' := 3) [(0, r7), (0, r2)] [] rfl s_359 rfl rfl ?_
    refine w_C.more (Q := fun r8 m8 => _) h (fun r8 m8 h => ?_)
    replace h := id h
    refine w_aload_n rfl rfl ?_
    refine w_gfC (c := 359) rfl s_417 rfl rfl ?_
    refine w_iload rfl rfl ?_
    refine w_iload rfl rfl ?_
    refine w_callV (t' := 3) [(0, r2), (0, r3)] [] rfl s_359 rfl rfl ?_
    refine w_C.more (Q := fun r9 m9 => _) h (fun r9 m9 h => ?_)
    replace h := id h
    refine w_aload_n rfl rfl ?_
    refine w_gfC (c := 359) rfl s_417 rfl rfl ?_
    refine w_iload rfl rfl ?_
    refine w_iload rfl rfl ?_
    refine w_ifge rfl (w_ite h (fun h => ?_) (fun h => ?_))
    · refine w_iload rfl rfl ?_
      refine w_goto rfl ?_
      exact w_W.less h (w_sub [true, true, true, false, false, true, true, false, false, false, false] rfl)
    · refine w_iload rfl rfl ?_
      exact w_W.less h (w_sub [true, true, true, false, false, true, true, false, false, false, false] rfl)
theorem xr_ch_putIn_217 {d : Nat} {l1 l2 l5 l6 s1 s2 : Int} {m : w_M} {Q : Int → w_M → Prop} (h : xc_st_parts d l6 m (fun r1 m1 => xc_st_setParts d s1 s2 (w_32 (r1 + 1)) m1 (fun r2 m2 => xc_ta_rootOf d l1 m2 (fun r3 m3 => xc_ta_generationOf d l5 m3 (fun r4 m4 => xc_ch_set d r3 7 8 l5 r4 m4 (fun r5 m5 => xc_ta_touch d l1 m5 (fun r6 m6 => xc_tr_addLeaf d l2 l1 l5 m6 (fun r7 m7 => xc_ch_countUp d l5 1 m7 (fun r8 m8 => Q 0 m8))))))))) : xp_ch_putIn_217 d l1 l2 l5 l6 s1 s2 m Q := by
  refine w_aload_n rfl rfl ?_
  refine w_gfC (c := 359) rfl s_417 rfl rfl ?_
  refine w_iload rfl rfl ?_
  refine w_callV (t' := 0) [(0, l6)] [(0, s2), (0, s1), (2, 359)] rfl s_359 rfl rfl ?_
  refine w_C.more (Q := fun r1 m1 => _) h (fun r1 m1 h => ?_)
  replace h := id h
  refine w_iconst rfl (by decide) ?_
  refine w_iadd rfl ?_
  refine w_callV (t' := 3) [(0, w_32 (r1 + 1)), (0, s2), (0, s1)] [] rfl s_359 rfl rfl ?_
  refine w_C.more (Q := fun r2 m2 => _) h (fun r2 m2 h => ?_)
  replace h := id h
  refine w_aload_n rfl rfl ?_
  refine w_aload_n rfl rfl ?_
  refine w_gfC (c := 366) rfl s_417 rfl rfl ?_
  refine w_iload_n rfl rfl ?_
  refine w_callV (t' := 0) [(0, l1)] [(2, 417)] rfl s_366 rfl rfl ?_
  refine w_C.more (Q := fun r3 m3 => _) h (fun r3 m3 h => ?_)
  replace h := id h
  refine w_bipush rfl (by decide) ?_
  refine w_bipush rfl (by decide) ?_
  refine w_iload rfl rfl ?_
  refine w_aload_n rfl rfl ?_
  refine w_gfC (c := 366) rfl s_417 rfl rfl ?_
  refine w_iload rfl rfl ?_
  refine w_callV (t' := 0) [(0, l5)] [(0, l5), (0, 8), (0, 7), (0, r3), (2, 417)] rfl s_366 rfl rfl ?_
  refine w_C.more (Q := fun r4 m4 => _) h (fun r4 m4 h => ?_)
  replace h := id h
  refine w_callV (t' := 3) [(0, r4), (0, l5), (0, 8), (0, 7), (0, r3)] [] rfl s_417 rfl rfl ?_
  refine w_C.more (Q := fun r5 m5 => _) h (fun r5 m5 h => ?_)
  replace h := id h
  refine w_aload_n rfl rfl ?_
  refine w_gfC (c := 366) rfl s_417 rfl rfl ?_
  refine w_iload_n rfl rfl ?_
  refine w_callV (t' := 3) [(0, l1)] [] rfl s_366 rfl rfl ?_
  refine w_C.more (Q := fun r6 m6 => _) h (fun r6 m6 h => ?_)
  replace h := id h
  refine w_aload_n rfl rfl ?_
  refine w_gfC (c := 399) rfl s_417 rfl rfl ?_
  refine w_iload_n rfl rfl ?_
  refine w_iload_n rfl rfl ?_
  refine w_iload rfl rfl ?_
  refine w_callV (t' := 3) [(0, l5), (0, l1), (0, l2)] [] rfl s_399 rfl rfl ?_
  refine w_C.more (Q := fun r7 m7 => _) h (fun r7 m7 h => ?_)
  replace h := id h
  refine w_aload_n rfl rfl ?_
  refine w_iload rfl rfl ?_
  refine w_iconst rfl (by decide) ?_
  refine w_callV (t' := 3) [(0, 1), (0, l5)] [] rfl s_417 rfl rfl ?_
  refine w_C.more (Q := fun r8 m8 => _) h (fun r8 m8 h => ?_)
  replace h := id h
  exact w_vret rfl rfl h
theorem xr_ch_set {d : Nat} {l1 l2 l3 l4 l5 : Int} {m : w_M} {Q : Int → w_M → Prop} (h : xc_st_entry d l1 l2 m (fun r1 m1 => if r1 < 0 then (xc_st_add d l3 l4 l5 m1 (fun r2 m2 => xc_st_name d r2 l2 m2 (fun r3 m3 => xc_st_append d l1 r2 m3 (fun r4 m4 => Q 0 m4)))) else (xc_st_become d r1 l3 l4 l5 m1 (fun r5 m5 => Q 0 m5)))) : xc_ch_set (d + 1) l1 l2 l3 l4 l5 m Q := by
  refine w_enter (q := 2) (lv := [some (2, 417), some (0, l1), some (0, l2), some (0, l3), some (0, l4), some (0, l5), none, none]) rfl rfl rfl ?_
  refine w_aload_n rfl rfl ?_
  refine w_gfC (c := 359) rfl s_417 rfl rfl ?_
  refine w_iload_n rfl rfl ?_
  refine w_iload_n rfl rfl ?_
  refine w_callV (t' := 0) [(0, l2), (0, l1)] [] rfl s_359 rfl rfl ?_
  refine w_C.more (Q := fun r1 m1 => _) h (fun r1 m1 h => ?_)
  replace h := id h
  refine w_istore (lv' := [some (2, 417), some (0, l1), some (0, l2), some (0, l3), some (0, l4), some (0, l5), some (0, r1), none]) rfl rfl rfl ?_
  refine w_iload rfl rfl ?_
  refine w_iflt rfl (w_ite h (fun h => ?_) (fun h => ?_))
  · refine w_aload_n rfl rfl ?_
    refine w_gfC (c := 359) rfl s_417 rfl rfl ?_
    refine w_iload_n rfl rfl ?_
    refine w_iload rfl rfl ?_
    refine w_iload rfl rfl ?_
    refine w_callV (t' := 0) [(0, l5), (0, l4), (0, l3)] [] rfl s_359 rfl rfl ?_
    refine w_C.more (Q := fun r2 m2 => _) h (fun r2 m2 h => ?_)
    replace h := id h
    refine w_istore (lv' := [some (2, 417), some (0, l1), some (0, l2), some (0, l3), some (0, l4), some (0, l5), some (0, r1), some (0, r2)]) rfl rfl rfl ?_
    refine w_aload_n rfl rfl ?_
    refine w_gfC (c := 359) rfl s_417 rfl rfl ?_
    refine w_iload rfl rfl ?_
    refine w_iload_n rfl rfl ?_
    refine w_callV (t' := 3) [(0, l2), (0, r2)] [] rfl s_359 rfl rfl ?_
    refine w_C.more (Q := fun r3 m3 => _) h (fun r3 m3 h => ?_)
    replace h := id h
    refine w_aload_n rfl rfl ?_
    refine w_gfC (c := 359) rfl s_417 rfl rfl ?_
    refine w_iload_n rfl rfl ?_
    refine w_iload rfl rfl ?_
    refine w_callV (t' := 3) [(0, r2), (0, l1)] [] rfl s_359 rfl rfl ?_
    refine w_C.more (Q := fun r4 m4 => _) h (fun r4 m4 h => ?_)
    replace h := id h
    exact w_vret rfl rfl h
  · refine w_aload_n rfl rfl ?_
    refine w_gfC (c := 359) rfl s_417 rfl rfl ?_
    refine w_iload rfl rfl ?_
    refine w_iload_n rfl rfl ?_
    refine w_iload rfl rfl ?_
    refine w_iload rfl rfl ?_
    refine w_callV (t' := 3) [(0, l5), (0, l4), (0, l3), (0, r1)] [] rfl s_359 rfl rfl ?_
    refine w_C.more (Q := fun r5 m5 => _) h (fun r5 m5 h => ?_)
    replace h := id h
    exact w_vret rfl rfl h
theorem xr_ch_setContents {d : Nat} {l1 l2 l3 : Int} {m : w_M} {Q : Int → w_M → Prop} (h : xc_ta_spare d m (fun r1 m1 => xc_tr_has d l1 m1 (fun r2 m2 => if r2 = 0 then (Q (-1) m2) else (if r1 < 0 then (Q (-1) m2) else (xc_ta_fits d l3 m2 (fun r3 m3 => if r3 = 0 then (Q (-1) m3) else (xc_st_hasRoom d m3 (fun r4 m4 => if r4 = 0 then (Q (-1) m4) else (xc_st_add d 7 (-1) 0 m4 (fun r5 m5 => xc_ta_make d r1 r5 m5 (fun r6 m6 => xc_ta_setStream d r1 l2 l3 m6 (fun r7 m7 => xc_tr_leafAt d l1 m7 (fun r8 m8 => xc_ta_rootOf d r8 m8 (fun r9 m9 => xc_ch_set d r9 11 8 r1 0 m9 (fun r10 m10 => xc_ta_touch d r8 m10 (fun r11 m11 => Q r1 m11)))))))))))))))) : xc_ch_setContents (d + 1) l1 l2 l3 m Q := by
  refine w_enter (q := 2) (lv := [some (2, 417), some (0, l1), some (2, l2), some (0, l3), none, none]) rfl rfl rfl ?_
  refine w_aload_n rfl rfl ?_
  refine w_gfC (c := 366) rfl s_417 rfl rfl ?_
  refine w_callV (t' := 0) [] [] rfl s_366 rfl rfl ?_
  refine w_C.more (Q := fun r1 m1 => _) h (fun r1 m1 h => ?_)
  replace h := id h
  refine w_istore (lv' := [some (2, 417), some (0, l1), some (2, l2), some (0, l3), some (0, r1), none]) rfl rfl rfl ?_
  refine w_aload_n rfl rfl ?_
  refine w_gfC (c := 399) rfl s_417 rfl rfl ?_
  refine w_iload_n rfl rfl ?_
  refine w_callV (t' := 0) [(0, l1)] [] rfl s_399 rfl rfl ?_
  refine w_C.more (Q := fun r2 m2 => _) h (fun r2 m2 h => ?_)
  replace h := id h
  refine w_ifeq rfl (w_ite h (fun h => ?_) (fun h => ?_))
  · refine w_iconst rfl (by decide) ?_
    exact w_iret rfl rfl h
  · refine w_iload rfl rfl ?_
    refine w_iflt rfl (w_ite h (fun h => ?_) (fun h => ?_))
    · refine w_iconst rfl (by decide) ?_
      exact w_iret rfl rfl h
    · refine w_aload_n rfl rfl ?_
      refine w_gfC (c := 366) rfl s_417 rfl rfl ?_
      refine w_iload_n rfl rfl ?_
      refine w_callV (t' := 0) [(0, l3)] [] rfl s_366 rfl rfl ?_
      refine w_C.more (Q := fun r3 m3 => _) h (fun r3 m3 h => ?_)
      replace h := id h
      refine w_ifeq rfl (w_ite h (fun h => ?_) (fun h => ?_))
      · refine w_iconst rfl (by decide) ?_
        exact w_iret rfl rfl h
      · refine w_aload_n rfl rfl ?_
        refine w_gfC (c := 359) rfl s_417 rfl rfl ?_
        refine w_callV (t' := 0) [] [] rfl s_359 rfl rfl ?_
        refine w_C.more (Q := fun r4 m4 => _) h (fun r4 m4 h => ?_)
        replace h := id h
        refine w_ifne rfl (w_ite h (fun h => ?_) (fun h => ?_))
        · refine w_iconst rfl (by decide) ?_
          exact w_iret rfl rfl h
        · refine w_aload_n rfl rfl ?_
          refine w_gfC (c := 366) rfl s_417 rfl rfl ?_
          refine w_iload rfl rfl ?_
          refine w_aload_n rfl rfl ?_
          refine w_gfC (c := 359) rfl s_417 rfl rfl ?_
          refine w_bipush rfl (by decide) ?_
          refine w_iconst rfl (by decide) ?_
          refine w_iconst rfl (by decide) ?_
          refine w_callV (t' := 0) [(0, 0), (0, (-1)), (0, 7)] [(0, r1), (2, 366)] rfl s_359 rfl rfl ?_
          refine w_C.more (Q := fun r5 m5 => _) h (fun r5 m5 h => ?_)
          replace h := id h
          refine w_callV (t' := 3) [(0, r5), (0, r1)] [] rfl s_366 rfl rfl ?_
          refine w_C.more (Q := fun r6 m6 => _) h (fun r6 m6 h => ?_)
          replace h := id h
          refine w_aload_n rfl rfl ?_
          refine w_gfC (c := 366) rfl s_417 rfl rfl ?_
          refine w_iload rfl rfl ?_
          refine w_aload_n rfl rfl ?_
          refine w_iload_n rfl rfl ?_
          refine w_callV (t' := 0) [(0, l3), (2, l2), (0, r1)] [] rfl s_366 rfl rfl ?_
          refine w_C.more (Q := fun r7 m7 => _) h (fun r7 m7 h => ?_)
          replace h := id h
          refine w_pop rfl (show (0 : Nat) ≠ 1 by decide) ?_
          refine w_aload_n rfl rfl ?_
          refine w_gfC (c := 399) rfl s_417 rfl rfl ?_
          refine w_iload_n rfl rfl ?_
          refine w_callV (t' := 0) [(0, l1)] [] rfl s_399 rfl rfl ?_
          refine w_C.more (Q := fun r8 m8 => _) h (fun r8 m8 h => ?_)
          replace h := id h
          refine w_istore (lv' := [some (2, 417), some (0, l1), some (2, l2), some (0, l3), some (0, r1), some (0, r8)]) rfl rfl rfl ?_
          refine w_aload_n rfl rfl ?_
          refine w_aload_n rfl rfl ?_
          refine w_gfC (c := 366) rfl s_417 rfl rfl ?_
          refine w_iload rfl rfl ?_
          refine w_callV (t' := 0) [(0, r8)] [(2, 417)] rfl s_366 rfl rfl ?_
          refine w_C.more (Q := fun r9 m9 => _) h (fun r9 m9 h => ?_)
          replace h := id h
          refine w_bipush rfl (by decide) ?_
          refine w_bipush rfl (by decide) ?_
          refine w_iload rfl rfl ?_
          refine w_iconst rfl (by decide) ?_
          refine w_callV (t' := 3) [(0, 0), (0, r1), (0, 8), (0, 11), (0, r9)] [] rfl s_417 rfl rfl ?_
          refine w_C.more (Q := fun r10 m10 => _) h (fun r10 m10 h => ?_)
          replace h := id h
          refine w_aload_n rfl rfl ?_
          refine w_gfC (c := 366) rfl s_417 rfl rfl ?_
          refine w_iload rfl rfl ?_
          refine w_callV (t' := 3) [(0, r8)] [] rfl s_366 rfl rfl ?_
          refine w_C.more (Q := fun r11 m11 => _) h (fun r11 m11 h => ?_)
          replace h := id h
          refine w_iload rfl rfl ?_
          exact w_iret rfl rfl h
theorem xr_ch_setInfo {d : Nat} {l1 l2 l3 : Int} {m : w_M} {Q : Int → w_M → Prop} (h : if 0 < (m 366 14) then (xp_ch_setInfo_27 d l1 l2 l3 (m 366 14) m Q) else (xc_ta_spare d m (fun r1 m1 => xp_ch_setInfo_27 d l1 l2 l3 r1 m1 Q))) : xc_ch_setInfo (d + 1) l1 l2 l3 m Q := by
  refine w_enter (q := 2) (lv := [some (2, 417), some (0, l1), some (2, l2), some (0, l3), none, none]) rfl rfl rfl ?_
  refine w_aload_n rfl rfl ?_
  refine w_gfC (c := 366) rfl s_417 rfl rfl ?_
  refine x_gfI rfl s_366 rfl (kk := 14) rfl rfl ?_
  refine w_ifle rfl (w_ite h (fun h => ?_) (fun h => ?_))
  · refine w_aload_n rfl rfl ?_
    refine w_gfC (c := 366) rfl s_417 rfl rfl ?_
    refine x_gfI rfl s_366 rfl (kk := 14) rfl rfl ?_
    refine w_goto rfl ?_
    exact w_W.less h (w_sub [true, true, true, true, false, false] rfl)
  · refine w_aload_n rfl rfl ?_
    refine w_gfC (c := 366) rfl s_417 rfl rfl ?_
    refine w_callV (t' := 0) [] [] rfl s_366 rfl rfl ?_
    refine w_C.more (Q := fun r1 m1 => _) h (fun r1 m1 h => ?_)
    replace h := id h
    exact w_W.less h (w_sub [true, true, true, true, false, false] rfl)
theorem xr_ch_setInfo_27 {d : Nat} {l1 l2 l3 s0 : Int} {m : w_M} {Q : Int → w_M → Prop} (h : if l1 < 0 then (Q (-1) m) else (if 3 < l1 then (Q (-1) m) else (if l3 < 0 then (Q (-1) m) else (if 2000 < l3 then (Q (-1) m) else (if s0 < 0 then (Q (-1) m) else (xc_st_hasRoom d m (fun r1 m1 => if r1 = 0 then (Q (-1) m1) else (if (m1 366 14) = 0 then (xc_st_add d 7 (-1) 0 m1 (fun r2 m2 => xc_ta_make d s0 r2 m2 (fun r3 m3 => xp_ch_setInfo_105 d l1 l2 l3 s0 (w_up m3 366 14 s0) Q))) else (xp_ch_setInfo_105 d l1 l2 l3 s0 m1 Q))))))))) : xp_ch_setInfo_27 d l1 l2 l3 s0 m Q := by
  refine w_istore (lv' := [some (2, 417), some (0, l1), some (2, l2), some (0, l3), some (0, s0), none]) rfl rfl rfl ?_
  refine w_iload_n rfl rfl ?_
  refine w_iflt rfl (w_ite h (fun h => ?_) (fun h => ?_))
  · refine w_iconst rfl (by decide) ?_
    exact w_iret rfl rfl h
  · refine w_iload_n rfl rfl ?_
    refine w_iconst rfl (by decide) ?_
    refine w_icgt rfl (w_ite h (fun h => ?_) (fun h => ?_))
    · refine w_iconst rfl (by decide) ?_
      exact w_iret rfl rfl h
    · refine w_iload_n rfl rfl ?_
      refine w_iflt rfl (w_ite h (fun h => ?_) (fun h => ?_))
      · refine w_iconst rfl (by decide) ?_
        exact w_iret rfl rfl h
      · refine w_iload_n rfl rfl ?_
        refine w_sipush rfl (by decide) ?_
        refine w_icgt rfl (w_ite h (fun h => ?_) (fun h => ?_))
        · refine w_iconst rfl (by decide) ?_
          exact w_iret rfl rfl h
        · refine w_iload rfl rfl ?_
          refine w_iflt rfl (w_ite h (fun h => ?_) (fun h => ?_))
          · refine w_iconst rfl (by decide) ?_
            exact w_iret rfl rfl h
          · refine w_aload_n rfl rfl ?_
            refine w_gfC (c := 359) rfl s_417 rfl rfl ?_
            refine w_callV (t' := 0) [] [] rfl s_359 rfl rfl ?_
            refine w_C.more (Q := fun r1 m1 => _) h (fun r1 m1 h => ?_)
            replace h := id h
            refine w_ifne rfl (w_ite h (fun h => ?_) (fun h => ?_))
            · refine w_iconst rfl (by decide) ?_
              exact w_iret rfl rfl h
            · refine w_aload_n rfl rfl ?_
              refine w_gfC (c := 366) rfl s_417 rfl rfl ?_
              refine x_gfI rfl s_366 rfl (kk := 14) rfl rfl ?_
              refine w_ifne rfl (w_ite h (fun h => ?_) (fun h => ?_))
              · refine w_aload_n rfl rfl ?_
                refine w_gfC (c := 366) rfl s_417 rfl rfl ?_
                refine w_iload rfl rfl ?_
                refine w_aload_n rfl rfl ?_
                refine w_gfC (c := 359) rfl s_417 rfl rfl ?_
                refine w_bipush rfl (by decide) ?_
                refine w_iconst rfl (by decide) ?_
                refine w_iconst rfl (by decide) ?_
                refine w_callV (t' := 0) [(0, 0), (0, (-1)), (0, 7)] [(0, s0), (2, 366)] rfl s_359 rfl rfl ?_
                refine w_C.more (Q := fun r2 m2 => _) h (fun r2 m2 h => ?_)
                replace h := id h
                refine w_callV (t' := 3) [(0, r2), (0, s0)] [] rfl s_366 rfl rfl ?_
                refine w_C.more (Q := fun r3 m3 => _) h (fun r3 m3 h => ?_)
                replace h := id h
                refine w_aload_n rfl rfl ?_
                refine w_gfC (c := 366) rfl s_417 rfl rfl ?_
                refine w_iload rfl rfl ?_
                refine w_pfI rfl s_366 rfl (w_EC (by decide)) rfl (kk := 14) rfl ?_
                exact w_W.less h (w_sub [true, true, true, true, true, false] rfl)
              · exact w_W.less h (w_sub [true, true, true, true, true, false] rfl)
theorem xr_ch_setInfo_105 {d : Nat} {l1 l2 l3 l4 : Int} {m : w_M} {Q : Int → w_M → Prop} (h : xc_st_infoPlace d l1 m (fun r1 m1 => if 108612 < (w_32 (r1 + l3)) then (xc_ta_rootOf d l4 m1 (fun r2 m2 => xc_ch_set d r2 (w_32 (16 + l1)) 5 r1 l3 m2 (fun r3 m3 => xc_ta_touch d l4 m3 (fun r4 m4 => Q l4 m4)))) else (w_isR l2 ∧ (if (w_ln l2) < l3 then (xc_ta_rootOf d l4 m1 (fun r5 m5 => xc_ch_set d r5 (w_32 (16 + l1)) 5 r1 l3 m5 (fun r6 m6 => xc_ta_touch d l4 m6 (fun r7 m7 => Q l4 m7)))) else ((w_isA 1 l2 ∧ w_isA 1 365 ∧ (357 : Int) ≤ l2 ∧ w_wr (w_G0 sC) (Int.toNat 365) ∧ (0 : Int) ≤ l3 ∧ (0 : Int) ≤ 0 ∧ (0 : Int) ≤ r1 ∧ (0 + l3 : Int) ≤ w_ln l2 ∧ (r1 + l3 : Int) ≤ w_ln 365) ∧ (xc_ta_rootOf d l4 (w_cpy m1 l2 0 365 r1 l3) (fun r8 m8 => xc_ch_set d r8 (w_32 (16 + l1)) 5 r1 l3 m8 (fun r9 m9 => xc_ta_touch d l4 m9 (fun r10 m10 => Q l4 m10))))))))) : xp_ch_setInfo_105 d l1 l2 l3 l4 m Q := by
  refine w_aload_n rfl rfl ?_
  refine w_gfC (c := 359) rfl s_417 rfl rfl ?_
  refine w_iload_n rfl rfl ?_
  refine w_callV (t' := 0) [(0, l1)] [] rfl s_359 rfl rfl ?_
  refine w_C.more (Q := fun r1 m1 => _) h (fun r1 m1 h => ?_)
  replace h := id h
  refine w_istore (lv' := [some (2, 417), some (0, l1), some (2, l2), some (0, l3), some (0, l4), some (0, r1)]) rfl rfl rfl ?_
  refine w_iload rfl rfl ?_
  refine w_iload_n rfl rfl ?_
  refine w_iadd rfl ?_
  refine w_aload_n rfl rfl ?_
  refine w_gfC (c := 359) rfl s_417 rfl rfl ?_
  refine w_gfC (c := 365) rfl s_359 rfl rfl ?_
  refine w_len rfl s_365 (by decide) (n := 108612) rfl (by decide) ?_
  refine w_icgt rfl (w_ite h (fun h => ?_) (fun h => ?_))
  · refine w_aload_n rfl rfl ?_
    refine w_aload_n rfl rfl ?_
    refine w_gfC (c := 366) rfl s_417 rfl rfl ?_
    refine w_iload rfl rfl ?_
    refine w_callV (t' := 0) [(0, l4)] [(2, 417)] rfl s_366 rfl rfl ?_
    refine w_C.more (Q := fun r2 m2 => _) h (fun r2 m2 h => ?_)
    replace h := id h
    refine w_bipush rfl (by decide) ?_
    refine w_iload_n rfl rfl ?_
    refine w_iadd rfl ?_
    refine w_iconst rfl (by decide) ?_
    refine w_iload rfl rfl ?_
    refine w_iload_n rfl rfl ?_
    refine w_callV (t' := 3) [(0, l3), (0, r1), (0, 5), (0, w_32 (16 + l1)), (0, r2)] [] rfl s_417 rfl rfl ?_
    refine w_C.more (Q := fun r3 m3 => _) h (fun r3 m3 h => ?_)
    replace h := id h
    refine w_aload_n rfl rfl ?_
    refine w_gfC (c := 366) rfl s_417 rfl rfl ?_
    refine w_iload rfl rfl ?_
    refine w_callV (t' := 3) [(0, l4)] [] rfl s_366 rfl rfl ?_
    refine w_C.more (Q := fun r4 m4 => _) h (fun r4 m4 h => ?_)
    replace h := id h
    refine w_iload rfl rfl ?_
    exact w_iret rfl rfl h
  · refine w_iload_n rfl rfl ?_
    refine w_aload_n rfl rfl ?_
    refine x_len rfl h.1 ?_
    replace h := h.2
    refine w_icgt rfl (w_ite h (fun h => ?_) (fun h => ?_))
    · refine w_aload_n rfl rfl ?_
      refine w_aload_n rfl rfl ?_
      refine w_gfC (c := 366) rfl s_417 rfl rfl ?_
      refine w_iload rfl rfl ?_
      refine w_callV (t' := 0) [(0, l4)] [(2, 417)] rfl s_366 rfl rfl ?_
      refine w_C.more (Q := fun r5 m5 => _) h (fun r5 m5 h => ?_)
      replace h := id h
      refine w_bipush rfl (by decide) ?_
      refine w_iload_n rfl rfl ?_
      refine w_iadd rfl ?_
      refine w_iconst rfl (by decide) ?_
      refine w_iload rfl rfl ?_
      refine w_iload_n rfl rfl ?_
      refine w_callV (t' := 3) [(0, l3), (0, r1), (0, 5), (0, w_32 (16 + l1)), (0, r5)] [] rfl s_417 rfl rfl ?_
      refine w_C.more (Q := fun r6 m6 => _) h (fun r6 m6 h => ?_)
      replace h := id h
      refine w_aload_n rfl rfl ?_
      refine w_gfC (c := 366) rfl s_417 rfl rfl ?_
      refine w_iload rfl rfl ?_
      refine w_callV (t' := 3) [(0, l4)] [] rfl s_366 rfl rfl ?_
      refine w_C.more (Q := fun r7 m7 => _) h (fun r7 m7 h => ?_)
      replace h := id h
      refine w_iload rfl rfl ?_
      exact w_iret rfl rfl h
    · refine w_aload_n rfl rfl ?_
      refine w_iconst rfl (by decide) ?_
      refine w_aload_n rfl rfl ?_
      refine w_gfC (c := 359) rfl s_417 rfl rfl ?_
      refine w_gfC (c := 365) rfl s_359 rfl rfl ?_
      refine w_iload rfl rfl ?_
      refine w_iload_n rfl rfl ?_
      refine x_acopy rfl h.1.1 h.1.2.1 h.1.2.2.1 h.1.2.2.2.1 rfl h.1.2.2.2.2 ?_
      replace h := h.2
      refine w_aload_n rfl rfl ?_
      refine w_aload_n rfl rfl ?_
      refine w_gfC (c := 366) rfl s_417 rfl rfl ?_
      refine w_iload rfl rfl ?_
      refine w_callV (t' := 0) [(0, l4)] [(2, 417)] rfl s_366 rfl rfl ?_
      refine w_C.more (Q := fun r8 m8 => _) h (fun r8 m8 h => ?_)
      replace h := id h
      refine w_bipush rfl (by decide) ?_
      refine w_iload_n rfl rfl ?_
      refine w_iadd rfl ?_
      refine w_iconst rfl (by decide) ?_
      refine w_iload rfl rfl ?_
      refine w_iload_n rfl rfl ?_
      refine w_callV (t' := 3) [(0, l3), (0, r1), (0, 5), (0, w_32 (16 + l1)), (0, r8)] [] rfl s_417 rfl rfl ?_
      refine w_C.more (Q := fun r9 m9 => _) h (fun r9 m9 h => ?_)
      replace h := id h
      refine w_aload_n rfl rfl ?_
      refine w_gfC (c := 366) rfl s_417 rfl rfl ?_
      refine w_iload rfl rfl ?_
      refine w_callV (t' := 3) [(0, l4)] [] rfl s_366 rfl rfl ?_
      refine w_C.more (Q := fun r10 m10 => _) h (fun r10 m10 h => ?_)
      replace h := id h
      refine w_iload rfl rfl ?_
      exact w_iret rfl rfl h
theorem xr_ch_takeOut {d : Nat} {l1 : Int} {m : w_M} {Q : Int → w_M → Prop} (h : xc_tr_leafAt d l1 m (fun r1 m1 => xc_tr_aboveOf d r1 m1 (fun r2 m2 => xc_ch_ownKids d r2 m2 (fun r3 m3 => xc_ch_placeOf d r1 r3 m3 (fun r4 m4 => xc_st_part d r3 r4 m4 (fun r5 m5 => xc_st_part d r3 (w_32 (r4 - 1)) m5 (fun r6 m6 => if r6 < 0 then (xc_st_nextOf d r5 m6 (fun r7 m7 => xp_ch_takeOut_88 d l1 r2 r3 r5 r6 r7 m7 Q)) else (xc_st_firstPart d r3 m6 (fun r8 m8 => xp_ch_takeOut_88 d l1 r2 r3 r5 r6 r8 m8 Q))))))))) : xc_ch_takeOut (d + 1) l1 m Q := by
  refine w_enter (q := 7) (lv := [some (2, 417), some (0, l1), none, none, none, none, none, none, none]) rfl rfl rfl ?_
  refine w_aload_n rfl rfl ?_
  refine w_gfC (c := 399) rfl s_417 rfl rfl ?_
  refine w_iload_n rfl rfl ?_
  refine w_callV (t' := 0) [(0, l1)] [] rfl s_399 rfl rfl ?_
  refine w_C.more (Q := fun r1 m1 => _) h (fun r1 m1 h => ?_)
  replace h := id h
  refine w_istore_n (lv' := [some (2, 417), some (0, l1), some (0, r1), none, none, none, none, none, none]) rfl rfl rfl ?_
  refine w_aload_n rfl rfl ?_
  refine w_gfC (c := 399) rfl s_417 rfl rfl ?_
  refine w_iload_n rfl rfl ?_
  refine w_callV (t' := 0) [(0, r1)] [] rfl s_399 rfl rfl ?_
  refine w_C.more (Q := fun r2 m2 => _) h (fun r2 m2 h => ?_)
  replace h := id h
  refine w_istore_n (lv' := [some (2, 417), some (0, l1), some (0, r1), some (0, r2), none, none, none, none, none]) rfl rfl rfl ?_
  refine w_aload_n rfl rfl ?_
  refine w_iload_n rfl rfl ?_
  refine w_callV (t' := 0) [(0, r2)] [] rfl s_417 rfl rfl ?_
  refine w_C.more (Q := fun r3 m3 => _) h (fun r3 m3 h => ?_)
  replace h := id h
  refine w_istore (lv' := [some (2, 417), some (0, l1), some (0, r1), some (0, r2), some (0, r3), none, none, none, none]) rfl rfl rfl ?_
  refine w_aload_n rfl rfl ?_
  refine w_iload_n rfl rfl ?_
  refine w_iload rfl rfl ?_
  refine w_callV (t' := 0) [(0, r3), (0, r1)] [] rfl s_417 rfl rfl ?_
  refine w_C.more (Q := fun r4 m4 => _) h (fun r4 m4 h => ?_)
  replace h := id h
  refine w_istore (lv' := [some (2, 417), some (0, l1), some (0, r1), some (0, r2), some (0, r3), some (0, r4), none, none, none]) rfl rfl rfl ?_
  refine w_aload_n rfl rfl ?_
  refine w_gfC (c := 359) rfl s_417 rfl rfl ?_
  refine w_iload rfl rfl ?_
  refine w_iload rfl rfl ?_
  refine w_callV (t' := 0) [(0, r4), (0, r3)] [] rfl s_359 rfl rfl ?_
  refine w_C.more (Q := fun r5 m5 => _) h (fun r5 m5 h => ?_)
  replace h := id h
  refine w_istore (lv' := [some (2, 417), some (0, l1), some (0, r1), some (0, r2), some (0, r3), some (0, r4), some (0, r5), none, none]) rfl rfl rfl ?_
  refine w_aload_n rfl rfl ?_
  refine w_gfC (c := 359) rfl s_417 rfl rfl ?_
  refine w_iload rfl rfl ?_
  refine w_iload rfl rfl ?_
  refine w_iconst rfl (by decide) ?_
  refine w_isub rfl ?_
  refine w_callV (t' := 0) [(0, w_32 (r4 - 1)), (0, r3)] [] rfl s_359 rfl rfl ?_
  refine w_C.more (Q := fun r6 m6 => _) h (fun r6 m6 h => ?_)
  replace h := id h
  refine w_istore (lv' := [some (2, 417), some (0, l1), some (0, r1), some (0, r2), some (0, r3), some (0, r4), some (0, r5), some (0, r6), none]) rfl rfl rfl ?_
  refine w_iload rfl rfl ?_
  refine w_ifge rfl (w_ite h (fun h => ?_) (fun h => ?_))
  · refine w_aload_n rfl rfl ?_
    refine w_gfC (c := 359) rfl s_417 rfl rfl ?_
    refine w_iload rfl rfl ?_
    refine w_callV (t' := 0) [(0, r5)] [] rfl s_359 rfl rfl ?_
    refine w_C.more (Q := fun r7 m7 => _) h (fun r7 m7 h => ?_)
    replace h := id h
    refine w_goto rfl ?_
    exact w_W.less h (w_sub [true, true, false, true, true, false, true, true, false] rfl)
  · refine w_aload_n rfl rfl ?_
    refine w_gfC (c := 359) rfl s_417 rfl rfl ?_
    refine w_iload rfl rfl ?_
    refine w_callV (t' := 0) [(0, r3)] [] rfl s_359 rfl rfl ?_
    refine w_C.more (Q := fun r8 m8 => _) h (fun r8 m8 h => ?_)
    replace h := id h
    exact w_W.less h (w_sub [true, true, false, true, true, false, true, true, false] rfl)
theorem xr_ch_takeOut_88 {d : Nat} {l1 l3 l4 l6 l7 s0 : Int} {m : w_M} {Q : Int → w_M → Prop} (h : xc_st_nextOf d l6 m (fun r1 m1 => xc_st_link d l7 r1 m1 (fun r2 m2 => xc_st_parts d l4 m2 (fun r3 m3 => xc_st_setParts d l4 s0 (w_32 (r3 - 1)) m3 (fun r4 m4 => xc_tr_dropLeaf d l1 m4 (fun r5 m5 => xc_ch_countUp d l3 (-1) m5 (fun r6 m6 => Q 0 m6))))))) : xp_ch_takeOut_88 d l1 l3 l4 l6 l7 s0 m Q := by
  refine w_istore (lv' := [some (2, 417), some (0, l1), none, some (0, l3), some (0, l4), none, some (0, l6), some (0, l7), some (0, s0)]) rfl rfl rfl ?_
  refine w_aload_n rfl rfl ?_
  refine w_gfC (c := 359) rfl s_417 rfl rfl ?_
  refine w_iload rfl rfl ?_
  refine w_aload_n rfl rfl ?_
  refine w_gfC (c := 359) rfl s_417 rfl rfl ?_
  refine w_iload rfl rfl ?_
  refine w_callV (t' := 0) [(0, l6)] [(0, l7), (2, 359)] rfl s_359 rfl rfl ?_
  refine w_C.more (Q := fun r1 m1 => _) h (fun r1 m1 h => ?_)
  replace h := id h
  refine w_callV (t' := 3) [(0, r1), (0, l7)] [] rfl s_359 rfl rfl ?_
  refine w_C.more (Q := fun r2 m2 => _) h (fun r2 m2 h => ?_)
  replace h := id h
  refine w_aload_n rfl rfl ?_
  refine w_gfC (c := 359) rfl s_417 rfl rfl ?_
  refine w_iload rfl rfl ?_
  refine w_iload rfl rfl ?_
  refine w_aload_n rfl rfl ?_
  refine w_gfC (c := 359) rfl s_417 rfl rfl ?_
  refine w_iload rfl rfl ?_
  refine w_callV (t' := 0) [(0, l4)] [(0, s0), (0, l4), (2, 359)] rfl s_359 rfl rfl ?_
  refine w_C.more (Q := fun r3 m3 => _) h (fun r3 m3 h => ?_)
  replace h := id h
  refine w_iconst rfl (by decide) ?_
  refine w_isub rfl ?_
  refine w_callV (t' := 3) [(0, w_32 (r3 - 1)), (0, s0), (0, l4)] [] rfl s_359 rfl rfl ?_
  refine w_C.more (Q := fun r4 m4 => _) h (fun r4 m4 h => ?_)
  replace h := id h
  refine w_aload_n rfl rfl ?_
  refine w_gfC (c := 399) rfl s_417 rfl rfl ?_
  refine w_iload_n rfl rfl ?_
  refine w_callV (t' := 3) [(0, l1)] [] rfl s_399 rfl rfl ?_
  refine w_C.more (Q := fun r5 m5 => _) h (fun r5 m5 h => ?_)
  replace h := id h
  refine w_aload_n rfl rfl ?_
  refine w_iload_n rfl rfl ?_
  refine w_iconst rfl (by decide) ?_
  refine w_callV (t' := 3) [(0, (-1)), (0, l3)] [] rfl s_417 rfl rfl ?_
  refine w_C.more (Q := fun r6 m6 => _) h (fun r6 m6 h => ?_)
  replace h := id h
  exact w_vret rfl rfl h
theorem xr_ch_takeOver {d : Nat} {l1 l2 : Int} {m : w_M} {Q : Int → w_M → Prop} (h : xc_ta_rootOf d l1 m (fun r1 m1 => xc_tr_attribute d l1 l2 m1 (fun r2 m2 => if r2 < 0 then (Q 0 m2) else (xc_st_entry d r1 l2 m2 (fun r3 m3 => if r2 = r3 then (Q 0 m3) else (xc_st_kindOf d r2 m3 (fun r4 m4 => xc_st_oneOf d r2 m4 (fun r5 m5 => xc_st_twoOf d r2 m5 (fun r6 m6 => xc_ch_set d r1 l2 r4 r5 r6 m6 (fun r7 m7 => Q 0 m7)))))))))) : xc_ch_takeOver (d + 1) l1 l2 m Q := by
  refine w_enter (q := 2) (lv := [some (2, 417), some (0, l1), some (0, l2), none, none]) rfl rfl rfl ?_
  refine w_aload_n rfl rfl ?_
  refine w_gfC (c := 366) rfl s_417 rfl rfl ?_
  refine w_iload_n rfl rfl ?_
  refine w_callV (t' := 0) [(0, l1)] [] rfl s_366 rfl rfl ?_
  refine w_C.more (Q := fun r1 m1 => _) h (fun r1 m1 h => ?_)
  replace h := id h
  refine w_istore_n (lv' := [some (2, 417), some (0, l1), some (0, l2), some (0, r1), none]) rfl rfl rfl ?_
  refine w_aload_n rfl rfl ?_
  refine w_gfC (c := 399) rfl s_417 rfl rfl ?_
  refine w_iload_n rfl rfl ?_
  refine w_iload_n rfl rfl ?_
  refine w_callV (t' := 0) [(0, l2), (0, l1)] [] rfl s_399 rfl rfl ?_
  refine w_C.more (Q := fun r2 m2 => _) h (fun r2 m2 h => ?_)
  replace h := id h
  refine w_istore (lv' := [some (2, 417), some (0, l1), some (0, l2), some (0, r1), some (0, r2)]) rfl rfl rfl ?_
  refine w_iload rfl rfl ?_
  refine w_iflt rfl (w_ite h (fun h => ?_) (fun h => ?_))
  · exact w_vret rfl rfl h
  · refine w_iload rfl rfl ?_
    refine w_aload_n rfl rfl ?_
    refine w_gfC (c := 359) rfl s_417 rfl rfl ?_
    refine w_iload_n rfl rfl ?_
    refine w_iload_n rfl rfl ?_
    refine w_callV (t' := 0) [(0, l2), (0, r1)] [(0, r2)] rfl s_359 rfl rfl ?_
    refine w_C.more (Q := fun r3 m3 => _) h (fun r3 m3 h => ?_)
    replace h := id h
    refine w_iceq rfl (w_ite h (fun h => ?_) (fun h => ?_))
    · exact w_vret rfl rfl h
    · refine w_aload_n rfl rfl ?_
      refine w_iload_n rfl rfl ?_
      refine w_iload_n rfl rfl ?_
      refine w_aload_n rfl rfl ?_
      refine w_gfC (c := 359) rfl s_417 rfl rfl ?_
      refine w_iload rfl rfl ?_
      refine w_callV (t' := 0) [(0, r2)] [(0, l2), (0, r1), (2, 417)] rfl s_359 rfl rfl ?_
      refine w_C.more (Q := fun r4 m4 => _) h (fun r4 m4 h => ?_)
      replace h := id h
      refine w_aload_n rfl rfl ?_
      refine w_gfC (c := 359) rfl s_417 rfl rfl ?_
      refine w_iload rfl rfl ?_
      refine w_callV (t' := 0) [(0, r2)] [(0, r4), (0, l2), (0, r1), (2, 417)] rfl s_359 rfl rfl ?_
      refine w_C.more (Q := fun r5 m5 => _) h (fun r5 m5 h => ?_)
      replace h := id h
      refine w_aload_n rfl rfl ?_
      refine w_gfC (c := 359) rfl s_417 rfl rfl ?_
      refine w_iload rfl rfl ?_
      refine w_callV (t' := 0) [(0, r2)] [(0, r5), (0, r4), (0, l2), (0, r1), (2, 417)] rfl s_359 rfl rfl ?_
      refine w_C.more (Q := fun r6 m6 => _) h (fun r6 m6 h => ?_)
      replace h := id h
      refine w_callV (t' := 3) [(0, r6), (0, r5), (0, r4), (0, l2), (0, r1)] [] rfl s_417 rfl rfl ?_
      refine w_C.more (Q := fun r7 m7 => _) h (fun r7 m7 h => ?_)
      replace h := id h
      exact w_vret rfl rfl h
theorem xr_ch_turnPage {d : Nat} {l1 l2 : Int} {m : w_M} {Q : Int → w_M → Prop} (h : xc_tr_has d l1 m (fun r1 m1 => if r1 = 0 then (Q (-1) m1) else (if (Int.tmod l2 90) = 0 then (if l2 < (-360) then (Q (-1) m1) else (if 360 < l2 then (Q (-1) m1) else (xc_st_hasRoom d m1 (fun r2 m2 => if r2 = 0 then (Q (-1) m2) else (xc_tr_leafAt d l1 m2 (fun r3 m3 => xc_ta_rootOf d r3 m3 (fun r4 m4 => xc_ch_set d r4 10 2 l2 0 m4 (fun r5 m5 => xc_ta_touch d r3 m5 (fun r6 m6 => Q r3 m6))))))))) else (Q (-1) m1)))) : xc_ch_turnPage (d + 1) l1 l2 m Q := by
  refine w_enter (q := 1) (lv := [some (2, 417), some (0, l1), some (0, l2), none]) rfl rfl rfl ?_
  refine w_aload_n rfl rfl ?_
  refine w_gfC (c := 399) rfl s_417 rfl rfl ?_
  refine w_iload_n rfl rfl ?_
  refine w_callV (t' := 0) [(0, l1)] [] rfl s_399 rfl rfl ?_
  refine w_C.more (Q := fun r1 m1 => _) h (fun r1 m1 h => ?_)
  replace h := id h
  refine w_ifeq rfl (w_ite h (fun h => ?_) (fun h => ?_))
  · refine w_iconst rfl (by decide) ?_
    exact w_iret rfl rfl h
  · refine w_iload_n rfl rfl ?_
    refine w_bipush rfl (by decide) ?_
    refine w_iremk rfl (by decide) ?_
    refine w_ifne rfl (w_ite h (fun h => ?_) (fun h => ?_))
    · refine w_iload_n rfl rfl ?_
      refine w_sipush rfl (by decide) ?_
      refine w_iclt rfl (w_ite h (fun h => ?_) (fun h => ?_))
      · refine w_iconst rfl (by decide) ?_
        exact w_iret rfl rfl h
      · refine w_iload_n rfl rfl ?_
        refine w_sipush rfl (by decide) ?_
        refine w_icgt rfl (w_ite h (fun h => ?_) (fun h => ?_))
        · refine w_iconst rfl (by decide) ?_
          exact w_iret rfl rfl h
        · refine w_aload_n rfl rfl ?_
          refine w_gfC (c := 359) rfl s_417 rfl rfl ?_
          refine w_callV (t' := 0) [] [] rfl s_359 rfl rfl ?_
          refine w_C.more (Q := fun r2 m2 => _) h (fun r2 m2 h => ?_)
          replace h := id h
          refine w_ifne rfl (w_ite h (fun h => ?_) (fun h => ?_))
          · refine w_iconst rfl (by decide) ?_
            exact w_iret rfl rfl h
          · refine w_aload_n rfl rfl ?_
            refine w_gfC (c := 399) rfl s_417 rfl rfl ?_
            refine w_iload_n rfl rfl ?_
            refine w_callV (t' := 0) [(0, l1)] [] rfl s_399 rfl rfl ?_
            refine w_C.more (Q := fun r3 m3 => _) h (fun r3 m3 h => ?_)
            replace h := id h
            refine w_istore_n (lv' := [some (2, 417), some (0, l1), some (0, l2), some (0, r3)]) rfl rfl rfl ?_
            refine w_aload_n rfl rfl ?_
            refine w_aload_n rfl rfl ?_
            refine w_gfC (c := 366) rfl s_417 rfl rfl ?_
            refine w_iload_n rfl rfl ?_
            refine w_callV (t' := 0) [(0, r3)] [(2, 417)] rfl s_366 rfl rfl ?_
            refine w_C.more (Q := fun r4 m4 => _) h (fun r4 m4 h => ?_)
            replace h := id h
            refine w_bipush rfl (by decide) ?_
            refine w_iconst rfl (by decide) ?_
            refine w_iload_n rfl rfl ?_
            refine w_iconst rfl (by decide) ?_
            refine w_callV (t' := 3) [(0, 0), (0, l2), (0, 2), (0, 10), (0, r4)] [] rfl s_417 rfl rfl ?_
            refine w_C.more (Q := fun r5 m5 => _) h (fun r5 m5 h => ?_)
            replace h := id h
            refine w_aload_n rfl rfl ?_
            refine w_gfC (c := 366) rfl s_417 rfl rfl ?_
            refine w_iload_n rfl rfl ?_
            refine w_callV (t' := 3) [(0, r3)] [] rfl s_366 rfl rfl ?_
            refine w_C.more (Q := fun r6 m6 => _) h (fun r6 m6 h => ?_)
            replace h := id h
            refine w_iload_n rfl rfl ?_
            exact w_iret rfl rfl h
    · refine w_iconst rfl (by decide) ?_
      exact w_iret rfl rfl h
theorem xr_tr_aboveOf {d : Nat} {l1 : Int} {m : w_M} {Q : Int → w_M → Prop} (h : if l1 < 0 then (Q 0 m) else (if l1 < 200 then (((0 : Int) ≤ l1 ∧ l1 < 200) ∧ (Q (m 401 l1) m)) else (Q 0 m))) : xc_tr_aboveOf (d + 1) l1 m Q := by
  refine w_enter (q := 0) (lv := [some (2, 399), some (0, l1)]) rfl rfl rfl ?_
  refine w_iload_n rfl rfl ?_
  refine w_iflt rfl (w_ite h (fun h => ?_) (fun h => ?_))
  · refine w_iconst rfl (by decide) ?_
    exact w_iret rfl rfl h
  · refine w_iload_n rfl rfl ?_
    refine w_aload_n rfl rfl ?_
    refine w_gfC (c := 401) rfl s_399 rfl rfl ?_
    refine w_len rfl s_401 (by decide) (n := 200) rfl (by decide) ?_
    refine w_icge rfl (w_ite h (fun h => ?_) (fun h => ?_))
    · refine w_aload_n rfl rfl ?_
      refine w_gfC (c := 401) rfl s_399 rfl rfl ?_
      refine w_iload_n rfl rfl ?_
      refine w_iald rfl s_401 (n := 200) rfl h.1 ?_
      replace h := h.2
      refine w_goto rfl ?_
      exact w_iret rfl rfl h
    · refine w_iconst rfl (by decide) ?_
      exact w_iret rfl rfl h
theorem xr_tr_addLeaf {d : Nat} {l1 l2 l3 : Int} {m : w_M} {Q : Int → w_M → Prop} (h : if (m 399 7) < 0 then (Q 0 m) else (if (m 399 7) < 60 then (if l1 < 0 then (Q 0 m) else (if (m 399 7) < l1 then (Q 0 m) else (if 0 < l2 then (if l2 < 200 then (xp_tr_addLeaf_51 d l1 l2 l3 (m 399 7) m Q) else (Q 0 m)) else (Q 0 m)))) else (Q 0 m))) : xc_tr_addLeaf (d + 1) l1 l2 l3 m Q := by
  refine w_enter (q := 1) (lv := [some (2, 399), some (0, l1), some (0, l2), some (0, l3), none]) rfl rfl rfl ?_
  refine w_aload_n rfl rfl ?_
  refine x_gfI rfl s_399 rfl (kk := 7) rfl rfl ?_
  refine w_iflt rfl (w_ite h (fun h => ?_) (fun h => ?_))
  · exact w_vret rfl rfl h
  · refine w_aload_n rfl rfl ?_
    refine x_gfI rfl s_399 rfl (kk := 7) rfl rfl ?_
    refine w_aload_n rfl rfl ?_
    refine w_gfC (c := 400) rfl s_399 rfl rfl ?_
    refine w_len rfl s_400 (by decide) (n := 60) rfl (by decide) ?_
    refine w_icge rfl (w_ite h (fun h => ?_) (fun h => ?_))
    · refine w_iload_n rfl rfl ?_
      refine w_iflt rfl (w_ite h (fun h => ?_) (fun h => ?_))
      · exact w_vret rfl rfl h
      · refine w_iload_n rfl rfl ?_
        refine w_aload_n rfl rfl ?_
        refine x_gfI rfl s_399 rfl (kk := 7) rfl rfl ?_
        refine w_icgt rfl (w_ite h (fun h => ?_) (fun h => ?_))
        · exact w_vret rfl rfl h
        · refine w_iload_n rfl rfl ?_
          refine w_ifle rfl (w_ite h (fun h => ?_) (fun h => ?_))
          · refine w_iload_n rfl rfl ?_
            refine w_aload_n rfl rfl ?_
            refine w_gfC (c := 401) rfl s_399 rfl rfl ?_
            refine w_len rfl s_401 (by decide) (n := 200) rfl (by decide) ?_
            refine w_iclt rfl (w_ite h (fun h => ?_) (fun h => ?_))
            · refine w_aload_n rfl rfl ?_
              refine x_gfI rfl s_399 rfl (kk := 7) rfl rfl ?_
              refine w_istore (lv' := [some (2, 399), some (0, l1), some (0, l2), some (0, l3), some (0, m 399 7)]) rfl rfl rfl ?_
              exact w_W.less h (w_sub [true, true, true, true, true] rfl)
            · exact w_vret rfl rfl h
          · exact w_vret rfl rfl h
    · exact w_vret rfl rfl h
theorem xr_tr_addLeaf_51 {d : Nat} {l1 l2 l3 l4 : Int} {m : w_M} {Q : Int → w_M → Prop} (h : if l1 < l4 then (((0 : Int) ≤ (w_32 (l4 - 1)) ∧ (w_32 (l4 - 1)) < 60) ∧ (((0 : Int) ≤ l4 ∧ l4 < 60) ∧ (xp_tr_addLeaf_51 d l1 l2 l3 (w_32 (l4 + (-1))) (w_up m 400 l4 (m 400 (w_32 (l4 - 1)))) Q))) else (((0 : Int) ≤ l1 ∧ l1 < 60) ∧ (((0 : Int) ≤ l2 ∧ l2 < 200) ∧ (Q 0 (w_up (w_up (w_up m 400 l1 l2) 399 7 (w_32 ((m 399 7) + 1))) 401 l2 l3))))) : xp_tr_addLeaf_51 d l1 l2 l3 l4 m Q := by
  refine w_iload rfl rfl ?_
  refine w_iload_n rfl rfl ?_
  refine w_icle rfl (w_ite h (fun h => ?_) (fun h => ?_))
  · refine w_aload_n rfl rfl ?_
    refine w_gfC (c := 400) rfl s_399 rfl rfl ?_
    refine w_iload rfl rfl ?_
    refine w_aload_n rfl rfl ?_
    refine w_gfC (c := 400) rfl s_399 rfl rfl ?_
    refine w_iload rfl rfl ?_
    refine w_iconst rfl (by decide) ?_
    refine w_isub rfl ?_
    refine w_iald rfl s_400 (n := 60) rfl h.1 ?_
    replace h := h.2
    refine w_iast rfl s_400 (w_EC (by decide)) (n := 60) rfl h.1 ?_
    replace h := h.2
    refine w_iinc (lv' := [some (2, 399), some (0, l1), some (0, l2), some (0, l3), some (0, w_32 (l4 + (-1)))]) rfl rfl rfl rfl ?_
    refine w_goto rfl ?_
    exact w_W.less h (w_sub [true, true, true, true, true] rfl)
  · refine w_aload_n rfl rfl ?_
    refine w_gfC (c := 400) rfl s_399 rfl rfl ?_
    refine w_iload_n rfl rfl ?_
    refine w_iload_n rfl rfl ?_
    refine w_iast rfl s_400 (w_EC (by decide)) (n := 60) rfl h.1 ?_
    replace h := h.2
    refine w_aload_n rfl rfl ?_
    refine w_dup rfl (show (2 : Nat) ≠ 1 by decide) ?_
    refine x_gfI rfl s_399 rfl (kk := 7) rfl (w_up_ne (by decide)) ?_
    refine w_iconst rfl (by decide) ?_
    refine w_iadd rfl ?_
    refine w_pfI rfl s_399 rfl (w_EC (by decide)) rfl (kk := 7) rfl ?_
    refine w_aload_n rfl rfl ?_
    refine w_gfC (c := 401) rfl s_399 rfl rfl ?_
    refine w_iload_n rfl rfl ?_
    refine w_iload_n rfl rfl ?_
    refine w_iast rfl s_401 (w_EC (by decide)) (n := 200) rfl h.1 ?_
    replace h := h.2
    exact w_vret rfl rfl h
theorem xr_tr_attribute {d : Nat} {l1 l2 : Int} {m : w_M} {Q : Int → w_M → Prop} (h : xp_tr_attribute_5 d l2 l1 0 m Q) : xc_tr_attribute (d + 1) l1 l2 m Q := by
  refine w_enter (q := 3) (lv := [some (2, 399), some (0, l1), some (0, l2), none, none, none]) rfl rfl rfl ?_
  refine w_iload_n rfl rfl ?_
  refine w_istore_n (lv' := [some (2, 399), some (0, l1), some (0, l2), some (0, l1), none, none]) rfl rfl rfl ?_
  refine w_iconst rfl (by decide) ?_
  refine w_istore (lv' := [some (2, 399), some (0, l1), some (0, l2), some (0, l1), some (0, 0), none]) rfl rfl rfl ?_
  exact w_W.less h (w_sub [true, false, true, true, true, false] rfl)
theorem xr_tr_attribute_5 {d : Nat} {l2 l3 l4 : Int} {m : w_M} {Q : Int → w_M → Prop} (h : if 20 < l4 then (Q (-1) m) else (if 0 < l3 then (if l3 < 200 then (xc_ta_rootOf d l3 m (fun r1 m1 => xc_st_entry d r1 l2 m1 (fun r2 m2 => xc_ta_value d r2 m2 (fun r3 m3 => xc_st_kindOf d r3 m3 (fun r4 m4 => if r4 = 0 then (((0 : Int) ≤ l3 ∧ l3 < 200) ∧ (xp_tr_attribute_5 d l2 (m4 401 l3) (w_32 (l4 + 1)) m4 Q)) else (Q r2 m4)))))) else (Q (-1) m)) else (Q (-1) m))) : xp_tr_attribute_5 d l2 l3 l4 m Q := by
  refine w_iload rfl rfl ?_
  refine w_bipush rfl (by decide) ?_
  refine w_icgt rfl (w_ite h (fun h => ?_) (fun h => ?_))
  · refine w_iconst rfl (by decide) ?_
    exact w_iret rfl rfl h
  · refine w_iload_n rfl rfl ?_
    refine w_ifle rfl (w_ite h (fun h => ?_) (fun h => ?_))
    · refine w_iload_n rfl rfl ?_
      refine w_aload_n rfl rfl ?_
      refine w_gfC (c := 401) rfl s_399 rfl rfl ?_
      refine w_len rfl s_401 (by decide) (n := 200) rfl (by decide) ?_
      refine w_icge rfl (w_ite h (fun h => ?_) (fun h => ?_))
      · refine w_aload_n rfl rfl ?_
        refine w_gfC (c := 359) rfl s_399 rfl rfl ?_
        refine w_aload_n rfl rfl ?_
        refine w_gfC (c := 366) rfl s_399 rfl rfl ?_
        refine w_iload_n rfl rfl ?_
        refine w_callV (t' := 0) [(0, l3)] [(2, 359)] rfl s_366 rfl rfl ?_
        refine w_C.more (Q := fun r1 m1 => _) h (fun r1 m1 h => ?_)
        replace h := id h
        refine w_iload_n rfl rfl ?_
        refine w_callV (t' := 0) [(0, l2), (0, r1)] [] rfl s_359 rfl rfl ?_
        refine w_C.more (Q := fun r2 m2 => _) h (fun r2 m2 h => ?_)
        replace h := id h
        refine w_istore (lv' := [some (2, 399), none, some (0, l2), some (0, l3), some (0, l4), some (0, r2)]) rfl rfl rfl ?_
        refine w_aload_n rfl rfl ?_
        refine w_gfC (c := 359) rfl s_399 rfl rfl ?_
        refine w_aload_n rfl rfl ?_
        refine w_gfC (c := 366) rfl s_399 rfl rfl ?_
        refine w_iload rfl rfl ?_
        refine w_callV (t' := 0) [(0, r2)] [(2, 359)] rfl s_366 rfl rfl ?_
        refine w_C.more (Q := fun r3 m3 => _) h (fun r3 m3 h => ?_)
        replace h := id h
        refine w_callV (t' := 0) [(0, r3)] [] rfl s_359 rfl rfl ?_
        refine w_C.more (Q := fun r4 m4 => _) h (fun r4 m4 h => ?_)
        replace h := id h
        refine w_ifeq rfl (w_ite h (fun h => ?_) (fun h => ?_))
        · refine w_aload_n rfl rfl ?_
          refine w_gfC (c := 401) rfl s_399 rfl rfl ?_
          refine w_iload_n rfl rfl ?_
          refine w_iald rfl s_401 (n := 200) rfl h.1 ?_
          replace h := h.2
          refine w_istore_n (lv' := [some (2, 399), none, some (0, l2), some (0, m4 401 l3), some (0, l4), some (0, r2)]) rfl rfl rfl ?_
          refine w_iinc (lv' := [some (2, 399), none, some (0, l2), some (0, m4 401 l3), some (0, w_32 (l4 + 1)), some (0, r2)]) rfl rfl rfl rfl ?_
          refine w_goto rfl ?_
          exact w_W.less h (w_sub [true, false, true, true, true, false] rfl)
        · refine w_iload rfl rfl ?_
          exact w_iret rfl rfl h
      · refine w_iconst rfl (by decide) ?_
        exact w_iret rfl rfl h
    · refine w_iconst rfl (by decide) ?_
      exact w_iret rfl rfl h
theorem xr_tr_contentBytes {d : Nat} {l1 : Int} {m : w_M} {Q : Int → w_M → Prop} (h : xc_tr_gather d l1 403 m (fun r1 m1 => Q (max 0 r1) m1)) : xc_tr_contentBytes (d + 1) l1 m Q := by
  refine w_enter (q := 0) (lv := [some (2, 399), some (0, l1)]) rfl rfl rfl ?_
  refine w_iconst rfl (by decide) ?_
  refine w_aload_n rfl rfl ?_
  refine w_iload_n rfl rfl ?_
  refine w_aload_n rfl rfl ?_
  refine w_gfC (c := 403) rfl s_399 rfl rfl ?_
  refine w_callV (t' := 0) [(2, 403), (0, l1)] [(0, 0)] rfl s_399 rfl rfl ?_
  refine w_C.more (Q := fun r1 m1 => _) h (fun r1 m1 h => ?_)
  replace h := id h
  refine w_max rfl rfl ?_
  exact w_iret rfl rfl h
theorem xr_tr_dropLeaf {d : Nat} {l1 : Int} {m : w_M} {Q : Int → w_M → Prop} (h : xc_tr_has d l1 m (fun r1 m1 => if r1 = 0 then (Q 0 m1) else (xp_tr_dropLeaf_11 d l1 m1 Q))) : xc_tr_dropLeaf (d + 1) l1 m Q := by
  refine w_enter (q := 1) (lv := [some (2, 399), some (0, l1), none]) rfl rfl rfl ?_
  refine w_aload_n rfl rfl ?_
  refine w_iload_n rfl rfl ?_
  refine w_callV (t' := 0) [(0, l1)] [] rfl s_399 rfl rfl ?_
  refine w_C.more (Q := fun r1 m1 => _) h (fun r1 m1 h => ?_)
  replace h := id h
  refine w_ifne rfl (w_ite h (fun h => ?_) (fun h => ?_))
  · exact w_vret rfl rfl h
  · refine w_iload_n rfl rfl ?_
    refine w_istore_n (lv' := [some (2, 399), some (0, l1), some (0, l1)]) rfl rfl rfl ?_
    exact w_W.less h (w_sub [true, false, true] rfl)
theorem xr_tr_dropLeaf_11 {d : Nat} {l2 : Int} {m : w_M} {Q : Int → w_M → Prop} (h : if (w_32 (l2 + 1)) < (m 399 7) then (if (w_32 (l2 + 1)) < 60 then (((0 : Int) ≤ (w_32 (l2 + 1)) ∧ (w_32 (l2 + 1)) < 60) ∧ (((0 : Int) ≤ l2 ∧ l2 < 60) ∧ (xp_tr_dropLeaf_11 d (w_32 (l2 + 1)) (w_up m 400 l2 (m 400 (w_32 (l2 + 1)))) Q))) else (Q 0 (w_up m 399 7 (w_32 ((m 399 7) - 1))))) else (Q 0 (w_up m 399 7 (w_32 ((m 399 7) - 1))))) : xp_tr_dropLeaf_11 d l2 m Q := by
  refine w_iload_n rfl rfl ?_
  refine w_iconst rfl (by decide) ?_
  refine w_iadd rfl ?_
  refine w_aload_n rfl rfl ?_
  refine x_gfI rfl s_399 rfl (kk := 7) rfl rfl ?_
  refine w_icge rfl (w_ite h (fun h => ?_) (fun h => ?_))
  · refine w_iload_n rfl rfl ?_
    refine w_iconst rfl (by decide) ?_
    refine w_iadd rfl ?_
    refine w_aload_n rfl rfl ?_
    refine w_gfC (c := 400) rfl s_399 rfl rfl ?_
    refine w_len rfl s_400 (by decide) (n := 60) rfl (by decide) ?_
    refine w_icge rfl (w_ite h (fun h => ?_) (fun h => ?_))
    · refine w_aload_n rfl rfl ?_
      refine w_gfC (c := 400) rfl s_399 rfl rfl ?_
      refine w_iload_n rfl rfl ?_
      refine w_aload_n rfl rfl ?_
      refine w_gfC (c := 400) rfl s_399 rfl rfl ?_
      refine w_iload_n rfl rfl ?_
      refine w_iconst rfl (by decide) ?_
      refine w_iadd rfl ?_
      refine w_iald rfl s_400 (n := 60) rfl h.1 ?_
      replace h := h.2
      refine w_iast rfl s_400 (w_EC (by decide)) (n := 60) rfl h.1 ?_
      replace h := h.2
      refine w_iinc (lv' := [some (2, 399), none, some (0, w_32 (l2 + 1))]) rfl rfl rfl rfl ?_
      refine w_goto rfl ?_
      exact w_W.less h (w_sub [true, false, true] rfl)
    · refine w_aload_n rfl rfl ?_
      refine w_dup rfl (show (2 : Nat) ≠ 1 by decide) ?_
      refine x_gfI rfl s_399 rfl (kk := 7) rfl rfl ?_
      refine w_iconst rfl (by decide) ?_
      refine w_isub rfl ?_
      refine w_pfI rfl s_399 rfl (w_EC (by decide)) rfl (kk := 7) rfl ?_
      exact w_vret rfl rfl h
  · refine w_aload_n rfl rfl ?_
    refine w_dup rfl (show (2 : Nat) ≠ 1 by decide) ?_
    refine x_gfI rfl s_399 rfl (kk := 7) rfl rfl ?_
    refine w_iconst rfl (by decide) ?_
    refine w_isub rfl ?_
    refine w_pfI rfl s_399 rfl (w_EC (by decide)) rfl (kk := 7) rfl ?_
    exact w_vret rfl rfl h
theorem xr_tr_gather {d : Nat} {l1 l2 : Int} {m : w_M} {Q : Int → w_M → Prop} (h : xc_ta_rootOf d l1 m (fun r1 m1 => xc_st_entry d r1 11 m1 (fun r2 m2 => xc_ta_value d r2 m2 (fun r3 m3 => xc_st_kindOf d r3 m3 (fun r4 m4 => if r4 = 0 then (Q 0 m4) else (xc_st_kindOf d r3 m4 (fun r5 m5 => if r5 = 6 then (xp_tr_gather_61 d l2 r2 r3 1 m5 Q) else (xp_tr_gather_61 d l2 r2 r3 0 m5 Q)))))))) : xc_tr_gather (d + 1) l1 l2 m Q := by
  refine w_enter (q := 7) (lv := [some (2, 399), some (0, l1), some (2, l2), none, none, none, none, none, none, none]) rfl rfl rfl ?_
  refine w_aload_n rfl rfl ?_
  refine w_gfC (c := 359) rfl s_399 rfl rfl ?_
  refine w_aload_n rfl rfl ?_
  refine w_gfC (c := 366) rfl s_399 rfl rfl ?_
  refine w_iload_n rfl rfl ?_
  refine w_callV (t' := 0) [(0, l1)] [(2, 359)] rfl s_366 rfl rfl ?_
  refine w_C.more (Q := fun r1 m1 => _) h (fun r1 m1 h => ?_)
  replace h := id h
  refine w_bipush rfl (by decide) ?_
  refine w_callV (t' := 0) [(0, 11), (0, r1)] [] rfl s_359 rfl rfl ?_
  refine w_C.more (Q := fun r2 m2 => _) h (fun r2 m2 h => ?_)
  replace h := id h
  refine w_istore_n (lv' := [some (2, 399), some (0, l1), some (2, l2), some (0, r2), none, none, none, none, none, none]) rfl rfl rfl ?_
  refine w_aload_n rfl rfl ?_
  refine w_gfC (c := 366) rfl s_399 rfl rfl ?_
  refine w_iload_n rfl rfl ?_
  refine w_callV (t' := 0) [(0, r2)] [] rfl s_366 rfl rfl ?_
  refine w_C.more (Q := fun r3 m3 => _) h (fun r3 m3 h => ?_)
  replace h := id h
  refine w_istore (lv' := [some (2, 399), some (0, l1), some (2, l2), some (0, r2), some (0, r3), none, none, none, none, none]) rfl rfl rfl ?_
  refine w_aload_n rfl rfl ?_
  refine w_gfC (c := 359) rfl s_399 rfl rfl ?_
  refine w_iload rfl rfl ?_
  refine w_callV (t' := 0) [(0, r3)] [] rfl s_359 rfl rfl ?_
  refine w_C.more (Q := fun r4 m4 => _) h (fun r4 m4 h => ?_)
  replace h := id h
  refine w_ifne rfl (w_ite h (fun h => ?_) (fun h => ?_))
  · refine w_iconst rfl (by decide) ?_
    exact w_iret rfl rfl h
  · refine w_aload_n rfl rfl ?_
    refine w_gfC (c := 359) rfl s_399 rfl rfl ?_
    refine w_iload rfl rfl ?_
    refine w_callV (t' := 0) [(0, r3)] [] rfl s_359 rfl rfl ?_
    refine w_C.more (Q := fun r5 m5 => _) h (fun r5 m5 h => ?_)
    replace h := id h
    refine w_bipush rfl (by decide) ?_
    refine w_icne rfl (w_ite h (fun h => ?_) (fun h => ?_))
    · refine w_iconst rfl (by decide) ?_
      refine w_goto rfl ?_
      exact w_W.less h (w_sub [true, false, true, true, true, false, false, false, false, false] rfl)
    · refine w_iconst rfl (by decide) ?_
      exact w_W.less h (w_sub [true, false, true, true, true, false, false, false, false, false] rfl)
theorem xr_tr_gather_61 {d : Nat} {l2 l3 l4 s0 : Int} {m : w_M} {Q : Int → w_M → Prop} (h : if s0 = 0 then (if s0 = 0 then (xp_tr_gather_106 d l2 l3 0 1 m Q) else (xc_st_parts d l4 m (fun r1 m1 => xp_tr_gather_106 d l2 l3 0 r1 m1 Q))) else (xc_st_firstPart d l4 m (fun r2 m2 => if s0 = 0 then (xp_tr_gather_106 d l2 r2 0 1 m2 Q) else (xc_st_parts d l4 m2 (fun r3 m3 => xp_tr_gather_106 d l2 r2 0 r3 m3 Q))))) : xp_tr_gather_61 d l2 l3 l4 s0 m Q := by
  refine w_istore (lv' := [some (2, 399), none, some (2, l2), some (0, l3), some (0, l4), some (0, s0), none, none, none, none]) rfl rfl rfl ?_
  refine w_iload rfl rfl ?_
  refine w_ifeq rfl (w_ite h (fun h => ?_) (fun h => ?_))
  · refine w_iload_n rfl rfl ?_
    refine w_istore (lv' := [some (2, 399), none, some (2, l2), some (0, l3), some (0, l4), some (0, s0), some (0, l3), none, none, none]) rfl rfl rfl ?_
    refine w_iconst rfl (by decide) ?_
    refine w_istore (lv' := [some (2, 399), none, some (2, l2), some (0, l3), some (0, l4), some (0, s0), some (0, l3), some (0, 0), none, none]) rfl rfl rfl ?_
    refine w_iload rfl rfl ?_
    refine w_ifeq rfl (w_ite h (fun h => ?_) (fun h => ?_))
    · refine w_iconst rfl (by decide) ?_
      refine w_istore (lv' := [some (2, 399), none, some (2, l2), some (0, l3), some (0, l4), some (0, s0), some (0, l3), some (0, 0), some (0, 1), none]) rfl rfl rfl ?_
      exact w_W.less h (w_sub [true, false, true, false, false, false, true, true, true, false] rfl)
    · refine w_aload_n rfl rfl ?_
      refine w_gfC (c := 359) rfl s_399 rfl rfl ?_
      refine w_iload rfl rfl ?_
      refine w_callV (t' := 0) [(0, l4)] [] rfl s_359 rfl rfl ?_
      refine w_C.more (Q := fun r1 m1 => _) h (fun r1 m1 h => ?_)
      replace h := id h
      refine w_goto rfl ?_
      refine w_istore (lv' := [some (2, 399), none, some (2, l2), some (0, l3), some (0, l4), some (0, s0), some (0, l3), some (0, 0), some (0, r1), none]) rfl rfl rfl ?_
      exact w_W.less h (w_sub [true, false, true, false, false, false, true, true, true, false] rfl)
  · refine w_aload_n rfl rfl ?_
    refine w_gfC (c := 359) rfl s_399 rfl rfl ?_
    refine w_iload rfl rfl ?_
    refine w_callV (t' := 0) [(0, l4)] [] rfl s_359 rfl rfl ?_
    refine w_C.more (Q := fun r2 m2 => _) h (fun r2 m2 h => ?_)
    replace h := id h
    refine w_goto rfl ?_
    refine w_istore (lv' := [some (2, 399), none, some (2, l2), some (0, l3), some (0, l4), some (0, s0), some (0, r2), none, none, none]) rfl rfl rfl ?_
    refine w_iconst rfl (by decide) ?_
    refine w_istore (lv' := [some (2, 399), none, some (2, l2), some (0, l3), some (0, l4), some (0, s0), some (0, r2), some (0, 0), none, none]) rfl rfl rfl ?_
    refine w_iload rfl rfl ?_
    refine w_ifeq rfl (w_ite h (fun h => ?_) (fun h => ?_))
    · refine w_iconst rfl (by decide) ?_
      refine w_istore (lv' := [some (2, 399), none, some (2, l2), some (0, l3), some (0, l4), some (0, s0), some (0, r2), some (0, 0), some (0, 1), none]) rfl rfl rfl ?_
      exact w_W.less h (w_sub [true, false, true, false, false, false, true, true, true, false] rfl)
    · refine w_aload_n rfl rfl ?_
      refine w_gfC (c := 359) rfl s_399 rfl rfl ?_
      refine w_iload rfl rfl ?_
      refine w_callV (t' := 0) [(0, l4)] [] rfl s_359 rfl rfl ?_
      refine w_C.more (Q := fun r3 m3 => _) h (fun r3 m3 h => ?_)
      replace h := id h
      refine w_goto rfl ?_
      refine w_istore (lv' := [some (2, 399), none, some (2, l2), some (0, l3), some (0, l4), some (0, s0), some (0, r2), some (0, 0), some (0, r3), none]) rfl rfl rfl ?_
      exact w_W.less h (w_sub [true, false, true, false, false, false, true, true, true, false] rfl)
theorem xr_tr_gather_106 {d : Nat} {l2 l6 l7 l8 : Int} {m : w_M} {Q : Int → w_M → Prop} (h : if 0 < l8 then (xc_ta_target d l6 m (fun r1 m1 => xc_ta_isStream d r1 m1 (fun r2 m2 => if r2 = 0 then (Q (-1) m2) else (xc_ta_copy d r1 l2 l7 m2 (fun r3 m3 => xc_ta_lengthOf d r1 m3 (fun r4 m4 => if 1 < l8 then (w_isR l2 ∧ (if (w_32 (l7 + r4)) < (w_ln l2) then (w_isA 1 l2 ∧ w_wr (w_G0 sC) (Int.toNat l2) ∧ ((0 : Int) ≤ (w_32 (l7 + r4)) ∧ (w_32 (l7 + r4)) < w_ln l2) ∧ (xc_st_nextOf d l6 (w_up m4 l2 (w_32 (l7 + r4)) (w_8 10)) (fun r5 m5 => xp_tr_gather_106 d l2 r5 (w_32 (w_32 (l7 + r4) + 1)) (w_32 (l8 + (-1))) m5 Q))) else (xc_st_nextOf d l6 m4 (fun r6 m6 => xp_tr_gather_106 d l2 r6 (w_32 (w_32 (l7 + r4) + 1)) (w_32 (l8 + (-1))) m6 Q)))) else (xc_st_nextOf d l6 m4 (fun r7 m7 => xp_tr_gather_106 d l2 r7 (w_32 (l7 + r4)) (w_32 (l8 + (-1))) m7 Q)))))))) else (Q l7 m)) : xp_tr_gather_106 d l2 l6 l7 l8 m Q := by
  refine w_iload rfl rfl ?_
  refine w_ifle rfl (w_ite h (fun h => ?_) (fun h => ?_))
  · refine w_aload_n rfl rfl ?_
    refine w_gfC (c := 366) rfl s_399 rfl rfl ?_
    refine w_iload rfl rfl ?_
    refine w_callV (t' := 0) [(0, l6)] [] rfl s_366 rfl rfl ?_
    refine w_C.more (Q := fun r1 m1 => _) h (fun r1 m1 h => ?_)
    replace h := id h
    refine w_istore (lv' := [some (2, 399), none, some (2, l2), none, none, none, some (0, l6), some (0, l7), some (0, l8), some (0, r1)]) rfl rfl rfl ?_
    refine w_aload_n rfl rfl ?_
    refine w_gfC (c := 366) rfl s_399 rfl rfl ?_
    refine w_iload rfl rfl ?_
    refine w_callV (t' := 0) [(0, r1)] [] rfl s_366 rfl rfl ?_
    refine w_C.more (Q := fun r2 m2 => _) h (fun r2 m2 h => ?_)
    replace h := id h
    refine w_ifne rfl (w_ite h (fun h => ?_) (fun h => ?_))
    · refine w_iconst rfl (by decide) ?_
      exact w_iret rfl rfl h
    · refine w_aload_n rfl rfl ?_
      refine w_gfC (c := 366) rfl s_399 rfl rfl ?_
      refine w_iload rfl rfl ?_
      refine w_aload_n rfl rfl ?_
      refine w_iload rfl rfl ?_
      refine w_callV (t' := 3) [(0, l7), (2, l2), (0, r1)] [] rfl s_366 rfl rfl ?_
      refine w_C.more (Q := fun r3 m3 => _) h (fun r3 m3 h => ?_)
      replace h := id h
      refine w_iload rfl rfl ?_
      refine w_aload_n rfl rfl ?_
      refine w_gfC (c := 366) rfl s_399 rfl rfl ?_
      refine w_iload rfl rfl ?_
      refine w_callV (t' := 0) [(0, r1)] [(0, l7)] rfl s_366 rfl rfl ?_
      refine w_C.more (Q := fun r4 m4 => _) h (fun r4 m4 h => ?_)
      replace h := id h
      refine w_iadd rfl ?_
      refine w_istore (lv' := [some (2, 399), none, some (2, l2), none, none, none, some (0, l6), some (0, w_32 (l7 + r4)), some (0, l8), some (0, r1)]) rfl rfl rfl ?_
      refine w_iload rfl rfl ?_
      refine w_iconst rfl (by decide) ?_
      refine w_icle rfl (w_ite h (fun h => ?_) (fun h => ?_))
      · refine w_iload rfl rfl ?_
        refine w_aload_n rfl rfl ?_
        refine x_len rfl h.1 ?_
        replace h := h.2
        refine w_icge rfl (w_ite h (fun h => ?_) (fun h => ?_))
        · refine w_aload_n rfl rfl ?_
          refine w_iload rfl rfl ?_
          refine w_bipush rfl (by decide) ?_
          refine x_bast rfl h.1 h.2.1 h.2.2.1 ?_
          replace h := h.2.2.2
          refine w_iinc (lv' := [some (2, 399), none, some (2, l2), none, none, none, some (0, l6), some (0, w_32 (w_32 (l7 + r4) + 1)), some (0, l8), some (0, r1)]) rfl rfl rfl rfl ?_
          refine w_aload_n rfl rfl ?_
          refine w_gfC (c := 359) rfl s_399 rfl rfl ?_
          refine w_iload rfl rfl ?_
          refine w_callV (t' := 0) [(0, l6)] [] rfl s_359 rfl rfl ?_
          refine w_C.more (Q := fun r5 m5 => _) h (fun r5 m5 h => ?_)
          replace h := id h
          refine w_istore (lv' := [some (2, 399), none, some (2, l2), none, none, none, some (0, r5), some (0, w_32 (w_32 (l7 + r4) + 1)), some (0, l8), some (0, r1)]) rfl rfl rfl ?_
          refine w_iinc (lv' := [some (2, 399), none, some (2, l2), none, none, none, some (0, r5), some (0, w_32 (w_32 (l7 + r4) + 1)), some (0, w_32 (l8 + (-1))), some (0, r1)]) rfl rfl rfl rfl ?_
          refine w_goto rfl ?_
          exact w_W.less h (w_sub [true, false, true, false, false, false, true, true, true, false] rfl)
        · refine w_iinc (lv' := [some (2, 399), none, some (2, l2), none, none, none, some (0, l6), some (0, w_32 (w_32 (l7 + r4) + 1)), some (0, l8), some (0, r1)]) rfl rfl rfl rfl ?_
          refine w_aload_n rfl rfl ?_
          refine w_gfC (c := 359) rfl s_399 rfl rfl ?_
          refine w_iload rfl rfl ?_
          refine w_callV (t' := 0) [(0, l6)] [] rfl s_359 rfl rfl ?_
          refine w_C.more (Q := fun r6 m6 => _) h (fun r6 m6 h => ?_)
          replace h := id h
          refine w_istore (lv' := [some (2, 399), none, some (2, l2), none, none, none, some (0, r6), some (0, w_32 (w_32 (l7 + r4) + 1)), some (0, l8), some (0, r1)]) rfl rfl rfl ?_
          refine w_iinc (lv' := [some (2, 399), none, some (2, l2), none, none, none, some (0, r6), some (0, w_32 (w_32 (l7 + r4) + 1)), some (0, w_32 (l8 + (-1))), some (0, r1)]) rfl rfl rfl rfl ?_
          refine w_goto rfl ?_
          exact w_W.less h (w_sub [true, false, true, false, false, false, true, true, true, false] rfl)
      · refine w_aload_n rfl rfl ?_
        refine w_gfC (c := 359) rfl s_399 rfl rfl ?_
        refine w_iload rfl rfl ?_
        refine w_callV (t' := 0) [(0, l6)] [] rfl s_359 rfl rfl ?_
        refine w_C.more (Q := fun r7 m7 => _) h (fun r7 m7 h => ?_)
        replace h := id h
        refine w_istore (lv' := [some (2, 399), none, some (2, l2), none, none, none, some (0, r7), some (0, w_32 (l7 + r4)), some (0, l8), some (0, r1)]) rfl rfl rfl ?_
        refine w_iinc (lv' := [some (2, 399), none, some (2, l2), none, none, none, some (0, r7), some (0, w_32 (l7 + r4)), some (0, w_32 (l8 + (-1))), some (0, r1)]) rfl rfl rfl rfl ?_
        refine w_goto rfl ?_
        exact w_W.less h (w_sub [true, false, true, false, false, false, true, true, true, false] rfl)
  · refine w_iload rfl rfl ?_
    exact w_iret rfl rfl h
theorem xr_tr_has {d : Nat} {l1 : Int} {m : w_M} {Q : Int → w_M → Prop} (h : if l1 < 0 then (Q 0 m) else (if l1 < (m 399 7) then (if l1 < 60 then (Q 1 m) else (Q 0 m)) else (Q 0 m))) : xc_tr_has (d + 1) l1 m Q := by
  refine w_enter (q := 0) (lv := [some (2, 399), some (0, l1)]) rfl rfl rfl ?_
  refine w_iload_n rfl rfl ?_
  refine w_iflt rfl (w_ite h (fun h => ?_) (fun h => ?_))
  · refine w_iconst rfl (by decide) ?_
    exact w_zret rfl rfl (by decide) h
  · refine w_iload_n rfl rfl ?_
    refine w_aload_n rfl rfl ?_
    refine x_gfI rfl s_399 rfl (kk := 7) rfl rfl ?_
    refine w_icge rfl (w_ite h (fun h => ?_) (fun h => ?_))
    · refine w_iload_n rfl rfl ?_
      refine w_aload_n rfl rfl ?_
      refine w_gfC (c := 400) rfl s_399 rfl rfl ?_
      refine w_len rfl s_400 (by decide) (n := 60) rfl (by decide) ?_
      refine w_icge rfl (w_ite h (fun h => ?_) (fun h => ?_))
      · refine w_iconst rfl (by decide) ?_
        refine w_goto rfl ?_
        exact w_zret rfl rfl (by decide) h
      · refine w_iconst rfl (by decide) ?_
        exact w_zret rfl rfl (by decide) h
    · refine w_iconst rfl (by decide) ?_
      exact w_zret rfl rfl (by decide) h
theorem xr_tr_isBox {d : Nat} {l1 : Int} {m : w_M} {Q : Int → w_M → Prop} (h : xc_st_kindOf d l1 m (fun r1 m1 => if r1 = 6 then (xc_st_parts d l1 m1 (fun r2 m2 => if r2 = 4 then (xp_tr_isBox_29 d l1 0 m2 Q) else (Q 0 m2))) else (Q 0 m1))) : xc_tr_isBox (d + 1) l1 m Q := by
  refine w_enter (q := 1) (lv := [some (2, 399), some (0, l1), none]) rfl rfl rfl ?_
  refine w_aload_n rfl rfl ?_
  refine w_gfC (c := 359) rfl s_399 rfl rfl ?_
  refine w_iload_n rfl rfl ?_
  refine w_callV (t' := 0) [(0, l1)] [] rfl s_359 rfl rfl ?_
  refine w_C.more (Q := fun r1 m1 => _) h (fun r1 m1 h => ?_)
  replace h := id h
  refine w_bipush rfl (by decide) ?_
  refine w_icne rfl (w_ite h (fun h => ?_) (fun h => ?_))
  · refine w_aload_n rfl rfl ?_
    refine w_gfC (c := 359) rfl s_399 rfl rfl ?_
    refine w_iload_n rfl rfl ?_
    refine w_callV (t' := 0) [(0, l1)] [] rfl s_359 rfl rfl ?_
    refine w_C.more (Q := fun r2 m2 => _) h (fun r2 m2 h => ?_)
    replace h := id h
    refine w_iconst rfl (by decide) ?_
    refine w_iceq rfl (w_ite h (fun h => ?_) (fun h => ?_))
    · refine w_iconst rfl (by decide) ?_
      refine w_istore_n (lv' := [some (2, 399), some (0, l1), some (0, 0)]) rfl rfl rfl ?_
      exact w_W.less h (w_sub [true, true, true] rfl)
    · refine w_iconst rfl (by decide) ?_
      exact w_zret rfl rfl (by decide) h
  · refine w_iconst rfl (by decide) ?_
    exact w_zret rfl rfl (by decide) h
theorem xr_tr_isBox_29 {d : Nat} {l1 l2 : Int} {m : w_M} {Q : Int → w_M → Prop} (h : if l2 < 4 then (xc_st_part d l1 l2 m (fun r1 m1 => xc_ta_value d r1 m1 (fun r2 m2 => xc_st_isNumber d r2 m2 (fun r3 m3 => if r3 = 0 then (Q 0 m3) else (xp_tr_isBox_29 d l1 (w_32 (l2 + 1)) m3 Q))))) else (Q 1 m)) : xp_tr_isBox_29 d l1 l2 m Q := by
  refine w_iload_n rfl rfl ?_
  refine w_iconst rfl (by decide) ?_
  refine w_icge rfl (w_ite h (fun h => ?_) (fun h => ?_))
  · refine w_aload_n rfl rfl ?_
    refine w_gfC (c := 359) rfl s_399 rfl rfl ?_
    refine w_aload_n rfl rfl ?_
    refine w_gfC (c := 366) rfl s_399 rfl rfl ?_
    refine w_aload_n rfl rfl ?_
    refine w_gfC (c := 359) rfl s_399 rfl rfl ?_
    refine w_iload_n rfl rfl ?_
    refine w_iload_n rfl rfl ?_
    refine w_callV (t' := 0) [(0, l2), (0, l1)] [(2, 366), (2, 359)] rfl s_359 rfl rfl ?_
    refine w_C.more (Q := fun r1 m1 => _) h (fun r1 m1 h => ?_)
    replace h := id h
    refine w_callV (t' := 0) [(0, r1)] [(2, 359)] rfl s_366 rfl rfl ?_
    refine w_C.more (Q := fun r2 m2 => _) h (fun r2 m2 h => ?_)
    replace h := id h
    refine w_callV (t' := 0) [(0, r2)] [] rfl s_359 rfl rfl ?_
    refine w_C.more (Q := fun r3 m3 => _) h (fun r3 m3 h => ?_)
    replace h := id h
    refine w_ifne rfl (w_ite h (fun h => ?_) (fun h => ?_))
    · refine w_iconst rfl (by decide) ?_
      exact w_zret rfl rfl (by decide) h
    · refine w_iinc (lv' := [some (2, 399), some (0, l1), some (0, w_32 (l2 + 1))]) rfl rfl rfl rfl ?_
      refine w_goto rfl ?_
      exact w_W.less h (w_sub [true, true, true] rfl)
  · refine w_iconst rfl (by decide) ?_
    exact w_zret rfl rfl (by decide) h
theorem xr_tr_leafAt {d : Nat} {l1 : Int} {m : w_M} {Q : Int → w_M → Prop} (h : xc_tr_has d l1 m (fun r1 m1 => if r1 = 0 then (Q 0 m1) else (((0 : Int) ≤ l1 ∧ l1 < 60) ∧ (Q (m1 400 l1) m1)))) : xc_tr_leafAt (d + 1) l1 m Q := by
  refine w_enter (q := 0) (lv := [some (2, 399), some (0, l1)]) rfl rfl rfl ?_
  refine w_aload_n rfl rfl ?_
  refine w_iload_n rfl rfl ?_
  refine w_callV (t' := 0) [(0, l1)] [] rfl s_399 rfl rfl ?_
  refine w_C.more (Q := fun r1 m1 => _) h (fun r1 m1 h => ?_)
  replace h := id h
  refine w_ifeq rfl (w_ite h (fun h => ?_) (fun h => ?_))
  · refine w_iconst rfl (by decide) ?_
    exact w_iret rfl rfl h
  · refine w_aload_n rfl rfl ?_
    refine w_gfC (c := 400) rfl s_399 rfl rfl ?_
    refine w_iload_n rfl rfl ?_
    refine w_iald rfl s_400 (n := 60) rfl h.1 ?_
    replace h := h.2
    refine w_goto rfl ?_
    exact w_iret rfl rfl h
theorem xr_tr_looksRight {d : Nat} {l1 l2 l3 : Int} {m : w_M} {Q : Int → w_M → Prop} (h : if l3 = 0 then (xc_ta_entry d l2 1 m (fun r1 m1 => xc_st_isName d r1 3 m1 (fun r2 m2 => if r2 = 0 then (Q 0 m2) else (xp_tr_looksRight_26 d l1 l2 m2 Q)))) else (xp_tr_looksRight_26 d l1 l2 m Q)) : xc_tr_looksRight (d + 1) l1 l2 l3 m Q := by
  refine w_enter (q := 4) (lv := [some (2, 399), some (0, l1), some (0, l2), some (0, l3), none, none, none, none]) rfl rfl rfl ?_
  refine w_iload_n rfl rfl ?_
  refine w_ifne rfl (w_ite h (fun h => ?_) (fun h => ?_))
  · refine w_aload_n rfl rfl ?_
    refine w_gfC (c := 359) rfl s_399 rfl rfl ?_
    refine w_aload_n rfl rfl ?_
    refine w_gfC (c := 366) rfl s_399 rfl rfl ?_
    refine w_iload_n rfl rfl ?_
    refine w_iconst rfl (by decide) ?_
    refine w_callV (t' := 0) [(0, 1), (0, l2)] [(2, 359)] rfl s_366 rfl rfl ?_
    refine w_C.more (Q := fun r1 m1 => _) h (fun r1 m1 h => ?_)
    replace h := id h
    refine w_iconst rfl (by decide) ?_
    refine w_callV (t' := 0) [(0, 3), (0, r1)] [] rfl s_359 rfl rfl ?_
    refine w_C.more (Q := fun r2 m2 => _) h (fun r2 m2 h => ?_)
    replace h := id h
    refine w_ifne rfl (w_ite h (fun h => ?_) (fun h => ?_))
    · refine w_iconst rfl (by decide) ?_
      exact w_zret rfl rfl (by decide) h
    · exact w_W.less h (w_sub [true, true, true, false, false, false, false, false] rfl)
  · exact w_W.less h (w_sub [true, true, true, false, false, false, false, false] rfl)
theorem xr_tr_looksRight_26 {d : Nat} {l1 l2 : Int} {m : w_M} {Q : Int → w_M → Prop} (h : ((0 : Int) ≤ l1 ∧ l1 < 200) ∧ (if (m 401 l1) = 0 then (xc_ta_entry d l2 8 m (fun r1 m1 => xc_st_kindOf d r1 m1 (fun r2 m2 => if r2 = 0 then (xp_tr_looksRight_98 d l2 m2 Q) else (xc_tr_isBox d r1 m2 (fun r3 m3 => if r3 = 0 then (Q 0 m3) else (xp_tr_looksRight_98 d l2 m3 Q)))))) else (xc_st_entry d l2 7 m (fun r4 m4 => xc_ta_target d r4 m4 (fun r5 m5 => if r5 = (m 401 l1) then (xc_ta_entry d l2 8 m5 (fun r6 m6 => xc_st_kindOf d r6 m6 (fun r7 m7 => if r7 = 0 then (xp_tr_looksRight_98 d l2 m7 Q) else (xc_tr_isBox d r6 m7 (fun r8 m8 => if r8 = 0 then (Q 0 m8) else (xp_tr_looksRight_98 d l2 m8 Q)))))) else (Q 0 m5)))))) : xp_tr_looksRight_26 d l1 l2 m Q := by
  refine w_aload_n rfl rfl ?_
  refine w_gfC (c := 401) rfl s_399 rfl rfl ?_
  refine w_iload_n rfl rfl ?_
  refine w_iald rfl s_401 (n := 200) rfl h.1 ?_
  replace h := h.2
  refine w_istore (lv' := [some (2, 399), some (0, l1), some (0, l2), none, some (0, m 401 l1), none, none, none]) rfl rfl rfl ?_
  refine w_iload rfl rfl ?_
  refine w_ifeq rfl (w_ite h (fun h => ?_) (fun h => ?_))
  · refine w_aload_n rfl rfl ?_
    refine w_gfC (c := 366) rfl s_399 rfl rfl ?_
    refine w_iload_n rfl rfl ?_
    refine w_bipush rfl (by decide) ?_
    refine w_callV (t' := 0) [(0, 8), (0, l2)] [] rfl s_366 rfl rfl ?_
    refine w_C.more (Q := fun r1 m1 => _) h (fun r1 m1 h => ?_)
    replace h := id h
    refine w_istore (lv' := [some (2, 399), some (0, l1), some (0, l2), none, some (0, m 401 l1), some (0, r1), none, none]) rfl rfl rfl ?_
    refine w_aload_n rfl rfl ?_
    refine w_gfC (c := 359) rfl s_399 rfl rfl ?_
    refine w_iload rfl rfl ?_
    refine w_callV (t' := 0) [(0, r1)] [] rfl s_359 rfl rfl ?_
    refine w_C.more (Q := fun r2 m2 => _) h (fun r2 m2 h => ?_)
    replace h := id h
    refine w_ifeq rfl (w_ite h (fun h => ?_) (fun h => ?_))
    · exact w_W.less h (w_sub [true, false, true, false, false, false, false, false] rfl)
    · refine w_aload_n rfl rfl ?_
      refine w_iload rfl rfl ?_
      refine w_callV (t' := 0) [(0, r1)] [] rfl s_399 rfl rfl ?_
      refine w_C.more (Q := fun r3 m3 => _) h (fun r3 m3 h => ?_)
      replace h := id h
      refine w_ifne rfl (w_ite h (fun h => ?_) (fun h => ?_))
      · refine w_iconst rfl (by decide) ?_
        exact w_zret rfl rfl (by decide) h
      · exact w_W.less h (w_sub [true, false, true, false, false, false, false, false] rfl)
  · refine w_aload_n rfl rfl ?_
    refine w_gfC (c := 366) rfl s_399 rfl rfl ?_
    refine w_aload_n rfl rfl ?_
    refine w_gfC (c := 359) rfl s_399 rfl rfl ?_
    refine w_iload_n rfl rfl ?_
    refine w_bipush rfl (by decide) ?_
    refine w_callV (t' := 0) [(0, 7), (0, l2)] [(2, 366)] rfl s_359 rfl rfl ?_
    refine w_C.more (Q := fun r4 m4 => _) h (fun r4 m4 h => ?_)
    replace h := id h
    refine w_callV (t' := 0) [(0, r4)] [] rfl s_366 rfl rfl ?_
    refine w_C.more (Q := fun r5 m5 => _) h (fun r5 m5 h => ?_)
    replace h := id h
    refine w_iload rfl rfl ?_
    refine w_iceq rfl (w_ite h (fun h => ?_) (fun h => ?_))
    · refine w_aload_n rfl rfl ?_
      refine w_gfC (c := 366) rfl s_399 rfl rfl ?_
      refine w_iload_n rfl rfl ?_
      refine w_bipush rfl (by decide) ?_
      refine w_callV (t' := 0) [(0, 8), (0, l2)] [] rfl s_366 rfl rfl ?_
      refine w_C.more (Q := fun r6 m6 => _) h (fun r6 m6 h => ?_)
      replace h := id h
      refine w_istore (lv' := [some (2, 399), some (0, l1), some (0, l2), none, some (0, m 401 l1), some (0, r6), none, none]) rfl rfl rfl ?_
      refine w_aload_n rfl rfl ?_
      refine w_gfC (c := 359) rfl s_399 rfl rfl ?_
      refine w_iload rfl rfl ?_
      refine w_callV (t' := 0) [(0, r6)] [] rfl s_359 rfl rfl ?_
      refine w_C.more (Q := fun r7 m7 => _) h (fun r7 m7 h => ?_)
      replace h := id h
      refine w_ifeq rfl (w_ite h (fun h => ?_) (fun h => ?_))
      · exact w_W.less h (w_sub [true, false, true, false, false, false, false, false] rfl)
      · refine w_aload_n rfl rfl ?_
        refine w_iload rfl rfl ?_
        refine w_callV (t' := 0) [(0, r6)] [] rfl s_399 rfl rfl ?_
        refine w_C.more (Q := fun r8 m8 => _) h (fun r8 m8 h => ?_)
        replace h := id h
        refine w_ifne rfl (w_ite h (fun h => ?_) (fun h => ?_))
        · refine w_iconst rfl (by decide) ?_
          exact w_zret rfl rfl (by decide) h
        · exact w_W.less h (w_sub [true, false, true, false, false, false, false, false] rfl)
    · refine w_iconst rfl (by decide) ?_
      exact w_zret rfl rfl (by decide) h
theorem xr_tr_looksRight_98 {d : Nat} {l2 : Int} {m : w_M} {Q : Int → w_M → Prop} (h : xc_st_entry d l2 9 m (fun r1 m1 => xc_ta_value d r1 m1 (fun r2 m2 => xc_st_kindOf d r2 m2 (fun r3 m3 => if r3 = 0 then (xp_tr_looksRight_143 d l2 m3 Q) else (xc_ta_dict d r1 m3 (fun r4 m4 => if r4 < 0 then (Q 0 m4) else (xp_tr_looksRight_143 d l2 m4 Q))))))) : xp_tr_looksRight_98 d l2 m Q := by
  refine w_aload_n rfl rfl ?_
  refine w_gfC (c := 359) rfl s_399 rfl rfl ?_
  refine w_iload_n rfl rfl ?_
  refine w_bipush rfl (by decide) ?_
  refine w_callV (t' := 0) [(0, 9), (0, l2)] [] rfl s_359 rfl rfl ?_
  refine w_C.more (Q := fun r1 m1 => _) h (fun r1 m1 h => ?_)
  replace h := id h
  refine w_istore (lv' := [some (2, 399), none, some (0, l2), none, none, none, some (0, r1), none]) rfl rfl rfl ?_
  refine w_aload_n rfl rfl ?_
  refine w_gfC (c := 359) rfl s_399 rfl rfl ?_
  refine w_aload_n rfl rfl ?_
  refine w_gfC (c := 366) rfl s_399 rfl rfl ?_
  refine w_iload rfl rfl ?_
  refine w_callV (t' := 0) [(0, r1)] [(2, 359)] rfl s_366 rfl rfl ?_
  refine w_C.more (Q := fun r2 m2 => _) h (fun r2 m2 h => ?_)
  replace h := id h
  refine w_callV (t' := 0) [(0, r2)] [] rfl s_359 rfl rfl ?_
  refine w_C.more (Q := fun r3 m3 => _) h (fun r3 m3 h => ?_)
  replace h := id h
  refine w_ifeq rfl (w_ite h (fun h => ?_) (fun h => ?_))
  · exact w_W.less h (w_sub [true, false, true, false, false, false, false, false] rfl)
  · refine w_aload_n rfl rfl ?_
    refine w_gfC (c := 366) rfl s_399 rfl rfl ?_
    refine w_iload rfl rfl ?_
    refine w_callV (t' := 0) [(0, r1)] [] rfl s_366 rfl rfl ?_
    refine w_C.more (Q := fun r4 m4 => _) h (fun r4 m4 h => ?_)
    replace h := id h
    refine w_ifge rfl (w_ite h (fun h => ?_) (fun h => ?_))
    · refine w_iconst rfl (by decide) ?_
      exact w_zret rfl rfl (by decide) h
    · exact w_W.less h (w_sub [true, false, true, false, false, false, false, false] rfl)
theorem xr_tr_looksRight_143 {d : Nat} {l2 : Int} {m : w_M} {Q : Int → w_M → Prop} (h : xc_ta_entry d l2 10 m (fun r1 m1 => xc_st_kindOf d r1 m1 (fun r2 m2 => if r2 = 0 then (Q 1 m2) else (xc_st_kindOf d r1 m2 (fun r3 m3 => if r3 = 2 then (xc_st_oneOf d r1 m3 (fun r4 m4 => if (Int.tmod r4 90) = 0 then (Q 1 m4) else (Q 0 m4))) else (Q 0 m3)))))) : xp_tr_looksRight_143 d l2 m Q := by
  refine w_aload_n rfl rfl ?_
  refine w_gfC (c := 366) rfl s_399 rfl rfl ?_
  refine w_iload_n rfl rfl ?_
  refine w_bipush rfl (by decide) ?_
  refine w_callV (t' := 0) [(0, 10), (0, l2)] [] rfl s_366 rfl rfl ?_
  refine w_C.more (Q := fun r1 m1 => _) h (fun r1 m1 h => ?_)
  replace h := id h
  refine w_istore (lv' := [some (2, 399), none, some (0, l2), none, none, none, none, some (0, r1)]) rfl rfl rfl ?_
  refine w_aload_n rfl rfl ?_
  refine w_gfC (c := 359) rfl s_399 rfl rfl ?_
  refine w_iload rfl rfl ?_
  refine w_callV (t' := 0) [(0, r1)] [] rfl s_359 rfl rfl ?_
  refine w_C.more (Q := fun r2 m2 => _) h (fun r2 m2 h => ?_)
  replace h := id h
  refine w_ifeq rfl (w_ite h (fun h => ?_) (fun h => ?_))
  · refine w_iconst rfl (by decide) ?_
    refine w_goto rfl ?_
    exact w_zret rfl rfl (by decide) h
  · refine w_aload_n rfl rfl ?_
    refine w_gfC (c := 359) rfl s_399 rfl rfl ?_
    refine w_iload rfl rfl ?_
    refine w_callV (t' := 0) [(0, r1)] [] rfl s_359 rfl rfl ?_
    refine w_C.more (Q := fun r3 m3 => _) h (fun r3 m3 h => ?_)
    replace h := id h
    refine w_iconst rfl (by decide) ?_
    refine w_icne rfl (w_ite h (fun h => ?_) (fun h => ?_))
    · refine w_aload_n rfl rfl ?_
      refine w_gfC (c := 359) rfl s_399 rfl rfl ?_
      refine w_iload rfl rfl ?_
      refine w_callV (t' := 0) [(0, r1)] [] rfl s_359 rfl rfl ?_
      refine w_C.more (Q := fun r4 m4 => _) h (fun r4 m4 h => ?_)
      replace h := id h
      refine w_bipush rfl (by decide) ?_
      refine w_iremk rfl (by decide) ?_
      refine w_ifne rfl (w_ite h (fun h => ?_) (fun h => ?_))
      · refine w_iconst rfl (by decide) ?_
        refine w_goto rfl ?_
        exact w_zret rfl rfl (by decide) h
      · refine w_iconst rfl (by decide) ?_
        exact w_zret rfl rfl (by decide) h
    · refine w_iconst rfl (by decide) ?_
      exact w_zret rfl rfl (by decide) h
theorem xr_tr_read {d : Nat} {l1 : Int} {m : w_M} {Q : Int → w_M → Prop} (h : xp_tr_read_7 d l1 0 (w_up m 399 7 0) Q) : xc_tr_read (d + 1) l1 m Q := by
  refine w_enter (q := 4) (lv := [some (2, 399), some (0, l1), none, none, none, none]) rfl rfl rfl ?_
  refine w_aload_n rfl rfl ?_
  refine w_iconst rfl (by decide) ?_
  refine w_pfI rfl s_399 rfl (w_EC (by decide)) rfl (kk := 7) rfl ?_
  refine w_iconst rfl (by decide) ?_
  refine w_istore_n (lv' := [some (2, 399), some (0, l1), some (0, 0), none, none, none]) rfl rfl rfl ?_
  exact w_W.less h (w_sub [true, true, true, false, false, false] rfl)
theorem xr_tr_read_7 {d : Nat} {l1 l2 : Int} {m : w_M} {Q : Int → w_M → Prop} (h : if l2 < 200 then (((0 : Int) ≤ l2 ∧ l2 < 200) ∧ (((0 : Int) ≤ l2 ∧ l2 < 200) ∧ (xp_tr_read_7 d l1 (w_32 (l2 + 1)) (w_up (w_up m 401 l2 0) 402 l2 0) Q))) else (xc_st_entry d l1 36 m (fun r1 m1 => xc_ta_dict d r1 m1 (fun r2 m2 => xc_ta_target d r1 m2 (fun r3 m3 => if r2 < 0 then (xc_ps_fail d 376 10 0 (w_up m3 366 13 r3) (fun r4 m4 => Q 0 m4)) else (if r3 = 0 then (xc_ps_fail d 376 10 0 (w_up m3 366 13 r3) (fun r5 m5 => Q 0 m5)) else (xc_st_entry d r2 3 (w_up m3 366 13 r3) (fun r6 m6 => xc_ta_target d r6 m6 (fun r7 m7 => xc_ta_entry d r2 1 (w_up m7 399 8 r7) (fun r8 m8 => xc_st_isName d r8 2 m8 (fun r9 m9 => if r9 = 0 then (xc_ps_fail d 376 10 (m9 366 13) m9 (fun r10 m10 => Q 0 m10)) else (if (m9 399 8) = 0 then (xc_ps_fail d 376 10 (m9 366 13) m9 (fun r11 m11 => Q 0 m11)) else (xc_ta_dict d r6 m9 (fun r12 m12 => if r12 < 0 then (xc_ps_fail d 376 10 (m12 366 13) m12 (fun r13 m13 => Q 0 m13)) else (xc_tr_visit d (m12 399 8) 0 1 m12 (fun r14 m14 => xc_st_entry d l1 37 m14 (fun r15 m15 => xc_ta_target d r15 m15 (fun r16 m16 => if r15 < 0 then (Q 0 (w_up m16 366 14 r16)) else (if r16 = 0 then (xc_ps_fail d 376 10 0 (w_up m16 366 14 r16) (fun r17 m17 => Q 0 m17)) else (xc_ta_dict d r15 (w_up m16 366 14 r16) (fun r18 m18 => if r18 < 0 then (xc_ps_fail d 376 10 0 m18 (fun r19 m19 => Q 0 m19)) else (Q 0 m18)))))))))))))))))))))) : xp_tr_read_7 d l1 l2 m Q := by
  refine w_iload_n rfl rfl ?_
  refine w_sipush rfl (by decide) ?_
  refine w_icge rfl (w_ite h (fun h => ?_) (fun h => ?_))
  · refine w_aload_n rfl rfl ?_
    refine w_gfC (c := 401) rfl s_399 rfl rfl ?_
    refine w_iload_n rfl rfl ?_
    refine w_iconst rfl (by decide) ?_
    refine w_iast rfl s_401 (w_EC (by decide)) (n := 200) rfl h.1 ?_
    replace h := h.2
    refine w_aload_n rfl rfl ?_
    refine w_gfC (c := 402) rfl s_399 rfl rfl ?_
    refine w_iload_n rfl rfl ?_
    refine w_iconst rfl (by decide) ?_
    refine w_zast rfl s_402 (w_EC (by decide)) (n := 200) rfl h.1 (by decide) ?_
    replace h := h.2
    refine w_iinc (lv' := [some (2, 399), some (0, l1), some (0, w_32 (l2 + 1)), none, none, none]) rfl rfl rfl rfl ?_
    refine w_goto rfl ?_
    exact w_W.less h (w_sub [true, true, true, false, false, false] rfl)
  · refine w_aload_n rfl rfl ?_
    refine w_gfC (c := 359) rfl s_399 rfl rfl ?_
    refine w_iload_n rfl rfl ?_
    refine w_bipush rfl (by decide) ?_
    refine w_callV (t' := 0) [(0, 36), (0, l1)] [] rfl s_359 rfl rfl ?_
    refine w_C.more (Q := fun r1 m1 => _) h (fun r1 m1 h => ?_)
    replace h := id h
    refine w_istore_n (lv' := [some (2, 399), some (0, l1), some (0, r1), none, none, none]) rfl rfl rfl ?_
    refine w_aload_n rfl rfl ?_
    refine w_gfC (c := 366) rfl s_399 rfl rfl ?_
    refine w_iload_n rfl rfl ?_
    refine w_callV (t' := 0) [(0, r1)] [] rfl s_366 rfl rfl ?_
    refine w_C.more (Q := fun r2 m2 => _) h (fun r2 m2 h => ?_)
    replace h := id h
    refine w_istore_n (lv' := [some (2, 399), some (0, l1), some (0, r1), some (0, r2), none, none]) rfl rfl rfl ?_
    refine w_aload_n rfl rfl ?_
    refine w_gfC (c := 366) rfl s_399 rfl rfl ?_
    refine w_aload_n rfl rfl ?_
    refine w_gfC (c := 366) rfl s_399 rfl rfl ?_
    refine w_iload_n rfl rfl ?_
    refine w_callV (t' := 0) [(0, r1)] [(2, 366)] rfl s_366 rfl rfl ?_
    refine w_C.more (Q := fun r3 m3 => _) h (fun r3 m3 h => ?_)
    replace h := id h
    refine w_pfI rfl s_366 rfl (w_EC (by decide)) rfl (kk := 13) rfl ?_
    refine w_iload_n rfl rfl ?_
    refine w_iflt rfl (w_ite h (fun h => ?_) (fun h => ?_))
    · refine w_aload_n rfl rfl ?_
      refine w_gfC (c := 376) rfl s_399 rfl rfl ?_
      refine w_bipush rfl (by decide) ?_
      refine w_iconst rfl (by decide) ?_
      refine w_callV (t' := 0) [(0, 0), (0, 10)] [] rfl s_376 rfl rfl ?_
      refine w_C.more (Q := fun r4 m4 => _) h (fun r4 m4 h => ?_)
      replace h := id h
      refine w_pop rfl (show (0 : Nat) ≠ 1 by decide) ?_
      exact w_vret rfl rfl h
    · refine w_aload_n rfl rfl ?_
      refine w_gfC (c := 366) rfl s_399 rfl rfl ?_
      refine x_gfI rfl s_366 rfl (kk := 13) rfl (w_up_eq) ?_
      refine w_ifne rfl (w_ite h (fun h => ?_) (fun h => ?_))
      · refine w_aload_n rfl rfl ?_
        refine w_gfC (c := 376) rfl s_399 rfl rfl ?_
        refine w_bipush rfl (by decide) ?_
        refine w_iconst rfl (by decide) ?_
        refine w_callV (t' := 0) [(0, 0), (0, 10)] [] rfl s_376 rfl rfl ?_
        refine w_C.more (Q := fun r5 m5 => _) h (fun r5 m5 h => ?_)
        replace h := id h
        refine w_pop rfl (show (0 : Nat) ≠ 1 by decide) ?_
        exact w_vret rfl rfl h
      · refine w_aload_n rfl rfl ?_
        refine w_gfC (c := 359) rfl s_399 rfl rfl ?_
        refine w_iload_n rfl rfl ?_
        refine w_iconst rfl (by decide) ?_
        refine w_callV (t' := 0) [(0, 3), (0, r2)] [] rfl s_359 rfl rfl ?_
        refine w_C.more (Q := fun r6 m6 => _) h (fun r6 m6 h => ?_)
        replace h := id h
        refine w_istore (lv' := [some (2, 399), some (0, l1), some (0, r1), some (0, r2), some (0, r6), none]) rfl rfl rfl ?_
        refine w_aload_n rfl rfl ?_
        refine w_aload_n rfl rfl ?_
        refine w_gfC (c := 366) rfl s_399 rfl rfl ?_
        refine w_iload rfl rfl ?_
        refine w_callV (t' := 0) [(0, r6)] [(2, 399)] rfl s_366 rfl rfl ?_
        refine w_C.more (Q := fun r7 m7 => _) h (fun r7 m7 h => ?_)
        replace h := id h
        refine w_pfI rfl s_399 rfl (w_EC (by decide)) rfl (kk := 8) rfl ?_
        refine w_aload_n rfl rfl ?_
        refine w_gfC (c := 359) rfl s_399 rfl rfl ?_
        refine w_aload_n rfl rfl ?_
        refine w_gfC (c := 366) rfl s_399 rfl rfl ?_
        refine w_iload_n rfl rfl ?_
        refine w_iconst rfl (by decide) ?_
        refine w_callV (t' := 0) [(0, 1), (0, r2)] [(2, 359)] rfl s_366 rfl rfl ?_
        refine w_C.more (Q := fun r8 m8 => _) h (fun r8 m8 h => ?_)
        replace h := id h
        refine w_iconst rfl (by decide) ?_
        refine w_callV (t' := 0) [(0, 2), (0, r8)] [] rfl s_359 rfl rfl ?_
        refine w_C.more (Q := fun r9 m9 => _) h (fun r9 m9 h => ?_)
        replace h := id h
        refine w_ifeq rfl (w_ite h (fun h => ?_) (fun h => ?_))
        · refine w_aload_n rfl rfl ?_
          refine w_gfC (c := 376) rfl s_399 rfl rfl ?_
          refine w_bipush rfl (by decide) ?_
          refine w_aload_n rfl rfl ?_
          refine w_gfC (c := 366) rfl s_399 rfl rfl ?_
          refine x_gfI rfl s_366 rfl (kk := 13) rfl rfl ?_
          refine w_callV (t' := 0) [(0, m9 366 13), (0, 10)] [] rfl s_376 rfl rfl ?_
          refine w_C.more (Q := fun r10 m10 => _) h (fun r10 m10 h => ?_)
          replace h := id h
          refine w_pop rfl (show (0 : Nat) ≠ 1 by decide) ?_
          exact w_vret rfl rfl h
        · refine w_aload_n rfl rfl ?_
          refine x_gfI rfl s_399 rfl (kk := 8) rfl rfl ?_
          refine w_ifeq rfl (w_ite h (fun h => ?_) (fun h => ?_))
          · refine w_aload_n rfl rfl ?_
            refine w_gfC (c := 376) rfl s_399 rfl rfl ?_
            refine w_bipush rfl (by decide) ?_
            refine w_aload_n rfl rfl ?_
            refine w_gfC (c := 366) rfl s_399 rfl rfl ?_
            refine x_gfI rfl s_366 rfl (kk := 13) rfl rfl ?_
            refine w_callV (t' := 0) [(0, m9 366 13), (0, 10)] [] rfl s_376 rfl rfl ?_
            refine w_C.more (Q := fun r11 m11 => _) h (fun r11 m11 h => ?_)
            replace h := id h
            refine w_pop rfl (show (0 : Nat) ≠ 1 by decide) ?_
            exact w_vret rfl rfl h
          · refine w_aload_n rfl rfl ?_
            refine w_gfC (c := 366) rfl s_399 rfl rfl ?_
            refine w_iload rfl rfl ?_
            refine w_callV (t' := 0) [(0, r6)] [] rfl s_366 rfl rfl ?_
            refine w_C.more (Q := fun r12 m12 => _) h (fun r12 m12 h => ?_)
            replace h := id h
            refine w_ifge rfl (w_ite h (fun h => ?_) (fun h => ?_))
            · refine w_aload_n rfl rfl ?_
              refine w_gfC (c := 376) rfl s_399 rfl rfl ?_
              refine w_bipush rfl (by decide) ?_
              refine w_aload_n rfl rfl ?_
              refine w_gfC (c := 366) rfl s_399 rfl rfl ?_
              refine x_gfI rfl s_366 rfl (kk := 13) rfl rfl ?_
              refine w_callV (t' := 0) [(0, m12 366 13), (0, 10)] [] rfl s_376 rfl rfl ?_
              refine w_C.more (Q := fun r13 m13 => _) h (fun r13 m13 h => ?_)
              replace h := id h
              refine w_pop rfl (show (0 : Nat) ≠ 1 by decide) ?_
              exact w_vret rfl rfl h
            · refine w_aload_n rfl rfl ?_
              refine w_aload_n rfl rfl ?_
              refine x_gfI rfl s_399 rfl (kk := 8) rfl rfl ?_
              refine w_iconst rfl (by decide) ?_
              refine w_iconst rfl (by decide) ?_
              refine w_callV (t' := 0) [(0, 1), (0, 0), (0, m12 399 8)] [] rfl s_399 rfl rfl ?_
              refine w_C.more (Q := fun r14 m14 => _) h (fun r14 m14 h => ?_)
              replace h := id h
              refine w_pop rfl (show (0 : Nat) ≠ 1 by decide) ?_
              refine w_aload_n rfl rfl ?_
              refine w_gfC (c := 359) rfl s_399 rfl rfl ?_
              refine w_iload_n rfl rfl ?_
              refine w_bipush rfl (by decide) ?_
              refine w_callV (t' := 0) [(0, 37), (0, l1)] [] rfl s_359 rfl rfl ?_
              refine w_C.more (Q := fun r15 m15 => _) h (fun r15 m15 h => ?_)
              replace h := id h
              refine w_istore (lv' := [some (2, 399), some (0, l1), some (0, r1), some (0, r2), some (0, r6), some (0, r15)]) rfl rfl rfl ?_
              refine w_aload_n rfl rfl ?_
              refine w_gfC (c := 366) rfl s_399 rfl rfl ?_
              refine w_aload_n rfl rfl ?_
              refine w_gfC (c := 366) rfl s_399 rfl rfl ?_
              refine w_iload rfl rfl ?_
              refine w_callV (t' := 0) [(0, r15)] [(2, 366)] rfl s_366 rfl rfl ?_
              refine w_C.more (Q := fun r16 m16 => _) h (fun r16 m16 h => ?_)
              replace h := id h
              refine w_pfI rfl s_366 rfl (w_EC (by decide)) rfl (kk := 14) rfl ?_
              refine w_iload rfl rfl ?_
              refine w_iflt rfl (w_ite h (fun h => ?_) (fun h => ?_))
              · exact w_vret rfl rfl h
              · refine w_aload_n rfl rfl ?_
                refine w_gfC (c := 366) rfl s_399 rfl rfl ?_
                refine x_gfI rfl s_366 rfl (kk := 14) rfl (w_up_eq) ?_
                refine w_ifeq rfl (w_ite h (fun h => ?_) (fun h => ?_))
                · refine w_aload_n rfl rfl ?_
                  refine w_gfC (c := 376) rfl s_399 rfl rfl ?_
                  refine w_bipush rfl (by decide) ?_
                  refine w_iconst rfl (by decide) ?_
                  refine w_callV (t' := 0) [(0, 0), (0, 10)] [] rfl s_376 rfl rfl ?_
                  refine w_C.more (Q := fun r17 m17 => _) h (fun r17 m17 h => ?_)
                  replace h := id h
                  refine w_pop rfl (show (0 : Nat) ≠ 1 by decide) ?_
                  exact w_vret rfl rfl h
                · refine w_aload_n rfl rfl ?_
                  refine w_gfC (c := 366) rfl s_399 rfl rfl ?_
                  refine w_iload rfl rfl ?_
                  refine w_callV (t' := 0) [(0, r15)] [] rfl s_366 rfl rfl ?_
                  refine w_C.more (Q := fun r18 m18 => _) h (fun r18 m18 h => ?_)
                  replace h := id h
                  refine w_ifge rfl (w_ite h (fun h => ?_) (fun h => ?_))
                  · refine w_aload_n rfl rfl ?_
                    refine w_gfC (c := 376) rfl s_399 rfl rfl ?_
                    refine w_bipush rfl (by decide) ?_
                    refine w_iconst rfl (by decide) ?_
                    refine w_callV (t' := 0) [(0, 0), (0, 10)] [] rfl s_376 rfl rfl ?_
                    refine w_C.more (Q := fun r19 m19 => _) h (fun r19 m19 h => ?_)
                    replace h := id h
                    refine w_pop rfl (show (0 : Nat) ≠ 1 by decide) ?_
                    exact w_vret rfl rfl h
                  · exact w_vret rfl rfl h
theorem xr_tr_takesPage {d : Nat} {l1 : Int} {m : w_M} {Q : Int → w_M → Prop} (h : xc_tr_attribute d l1 8 m (fun r1 m1 => if r1 < 0 then (xp_tr_takesPage_23 d l1 (-1) m1 Q) else (xc_tr_gather d l1 403 m1 (fun r2 m2 => xp_tr_takesPage_23 d l1 r2 m2 Q)))) : xc_tr_takesPage (d + 1) l1 m Q := by
  refine w_enter (q := 1) (lv := [some (2, 399), some (0, l1), none]) rfl rfl rfl ?_
  refine w_aload_n rfl rfl ?_
  refine w_iload_n rfl rfl ?_
  refine w_bipush rfl (by decide) ?_
  refine w_callV (t' := 0) [(0, 8), (0, l1)] [] rfl s_399 rfl rfl ?_
  refine w_C.more (Q := fun r1 m1 => _) h (fun r1 m1 h => ?_)
  replace h := id h
  refine w_ifge rfl (w_ite h (fun h => ?_) (fun h => ?_))
  · refine w_iconst rfl (by decide) ?_
    refine w_goto rfl ?_
    exact w_W.less h (w_sub [true, true, false] rfl)
  · refine w_aload_n rfl rfl ?_
    refine w_iload_n rfl rfl ?_
    refine w_aload_n rfl rfl ?_
    refine w_gfC (c := 403) rfl s_399 rfl rfl ?_
    refine w_callV (t' := 0) [(2, 403), (0, l1)] [] rfl s_399 rfl rfl ?_
    refine w_C.more (Q := fun r2 m2 => _) h (fun r2 m2 h => ?_)
    replace h := id h
    exact w_W.less h (w_sub [true, true, false] rfl)
theorem xr_tr_takesPage_23 {d : Nat} {l1 s0 : Int} {m : w_M} {Q : Int → w_M → Prop} (h : if s0 < 0 then (Q 0 m) else (if 40000 < s0 then (xc_ps_fail d 376 5 l1 m (fun r1 m1 => Q 0 m1)) else (if (m 399 7) < 0 then (xc_ps_fail d 376 5 l1 m (fun r2 m2 => Q 0 m2)) else (if (m 399 7) < 60 then (((0 : Int) ≤ (m 399 7) ∧ (m 399 7) < 60) ∧ (Q 1 (w_up (w_up m 400 (m 399 7) l1) 399 7 (w_32 ((m 399 7) + 1))))) else (xc_ps_fail d 376 5 l1 m (fun r3 m3 => Q 0 m3)))))) : xp_tr_takesPage_23 d l1 s0 m Q := by
  refine w_istore_n (lv' := [some (2, 399), some (0, l1), some (0, s0)]) rfl rfl rfl ?_
  refine w_iload_n rfl rfl ?_
  refine w_ifge rfl (w_ite h (fun h => ?_) (fun h => ?_))
  · refine w_iconst rfl (by decide) ?_
    exact w_zret rfl rfl (by decide) h
  · refine w_iload_n rfl rfl ?_
    refine w_ldc (a := 40000) rfl (by decide +kernel) (by decide) ?_
    refine w_icgt rfl (w_ite h (fun h => ?_) (fun h => ?_))
    · refine w_aload_n rfl rfl ?_
      refine w_gfC (c := 376) rfl s_399 rfl rfl ?_
      refine w_iconst rfl (by decide) ?_
      refine w_iload_n rfl rfl ?_
      refine w_callV (t' := 0) [(0, l1), (0, 5)] [] rfl s_376 rfl rfl ?_
      refine w_C.more (Q := fun r1 m1 => _) h (fun r1 m1 h => ?_)
      replace h := id h
      refine w_pop rfl (show (0 : Nat) ≠ 1 by decide) ?_
      refine w_iconst rfl (by decide) ?_
      exact w_zret rfl rfl (by decide) h
    · refine w_aload_n rfl rfl ?_
      refine x_gfI rfl s_399 rfl (kk := 7) rfl rfl ?_
      refine w_iflt rfl (w_ite h (fun h => ?_) (fun h => ?_))
      · refine w_aload_n rfl rfl ?_
        refine w_gfC (c := 376) rfl s_399 rfl rfl ?_
        refine w_iconst rfl (by decide) ?_
        refine w_iload_n rfl rfl ?_
        refine w_callV (t' := 0) [(0, l1), (0, 5)] [] rfl s_376 rfl rfl ?_
        refine w_C.more (Q := fun r2 m2 => _) h (fun r2 m2 h => ?_)
        replace h := id h
        refine w_pop rfl (show (0 : Nat) ≠ 1 by decide) ?_
        refine w_iconst rfl (by decide) ?_
        exact w_zret rfl rfl (by decide) h
      · refine w_aload_n rfl rfl ?_
        refine x_gfI rfl s_399 rfl (kk := 7) rfl rfl ?_
        refine w_aload_n rfl rfl ?_
        refine w_gfC (c := 400) rfl s_399 rfl rfl ?_
        refine w_len rfl s_400 (by decide) (n := 60) rfl (by decide) ?_
        refine w_iclt rfl (w_ite h (fun h => ?_) (fun h => ?_))
        · refine w_aload_n rfl rfl ?_
          refine w_gfC (c := 400) rfl s_399 rfl rfl ?_
          refine w_aload_n rfl rfl ?_
          refine x_gfI rfl s_399 rfl (kk := 7) rfl rfl ?_
          refine w_iload_n rfl rfl ?_
          refine w_iast rfl s_400 (w_EC (by decide)) (n := 60) rfl h.1 ?_
          replace h := h.2
          refine w_aload_n rfl rfl ?_
          refine w_dup rfl (show (2 : Nat) ≠ 1 by decide) ?_
          refine x_gfI rfl s_399 rfl (kk := 7) rfl (w_up_ne (by decide)) ?_
          refine w_iconst rfl (by decide) ?_
          refine w_iadd rfl ?_
          refine w_pfI rfl s_399 rfl (w_EC (by decide)) rfl (kk := 7) rfl ?_
          refine w_iconst rfl (by decide) ?_
          exact w_zret rfl rfl (by decide) h
        · refine w_aload_n rfl rfl ?_
          refine w_gfC (c := 376) rfl s_399 rfl rfl ?_
          refine w_iconst rfl (by decide) ?_
          refine w_iload_n rfl rfl ?_
          refine w_callV (t' := 0) [(0, l1), (0, 5)] [] rfl s_376 rfl rfl ?_
          refine w_C.more (Q := fun r3 m3 => _) h (fun r3 m3 h => ?_)
          replace h := id h
          refine w_pop rfl (show (0 : Nat) ≠ 1 by decide) ?_
          refine w_iconst rfl (by decide) ?_
          exact w_zret rfl rfl (by decide) h
theorem xr_tr_visit {d : Nat} {l1 l2 l3 : Int} {m : w_M} {Q : Int → w_M → Prop} (h : if 0 < l1 then (if l1 < 200 then (((0 : Int) ≤ l1 ∧ l1 < 200) ∧ (if (m 402 l1) = 0 then (((0 : Int) ≤ l1 ∧ l1 < 200) ∧ (((0 : Int) ≤ l1 ∧ l1 < 200) ∧ (if 20 < l3 then (xc_ps_fail d 376 5 l1 (w_up (w_up m 402 l1 1) 401 l1 l2) (fun r1 m1 => Q r1 m1)) else (xc_ta_rootOf d l1 (w_up (w_up m 402 l1 1) 401 l1 l2) (fun r2 m2 => if l2 = 0 then (xp_tr_visit_103 d l1 l3 r2 0 m2 Q) else (xc_ta_entry d r2 1 m2 (fun r3 m3 => xc_st_isName d r3 4 m3 (fun r4 m4 => if r4 = 0 then (xp_tr_visit_103 d l1 l3 r2 0 m4 Q) else (xp_tr_visit_103 d l1 l3 r2 1 m4 Q))))))))) else (xc_ps_fail d 376 10 l2 m (fun r5 m5 => Q r5 m5)))) else (xc_ps_fail d 376 10 l2 m (fun r6 m6 => Q r6 m6))) else (xc_ps_fail d 376 10 l2 m (fun r7 m7 => Q r7 m7))) : xc_tr_visit (d + 1) l1 l2 l3 m Q := by
  refine w_enter (q := 8) (lv := [some (2, 399), some (0, l1), some (0, l2), some (0, l3), none, none, none, none, none, none, none, none]) rfl rfl rfl ?_
  refine w_iload_n rfl rfl ?_
  refine w_ifle rfl (w_ite h (fun h => ?_) (fun h => ?_))
  · refine w_iload_n rfl rfl ?_
    refine w_aload_n rfl rfl ?_
    refine w_gfC (c := 402) rfl s_399 rfl rfl ?_
    refine w_len rfl s_402 (by decide) (n := 200) rfl (by decide) ?_
    refine w_icge rfl (w_ite h (fun h => ?_) (fun h => ?_))
    · refine w_aload_n rfl rfl ?_
      refine w_gfC (c := 402) rfl s_399 rfl rfl ?_
      refine w_iload_n rfl rfl ?_
      refine w_zald rfl s_402 (n := 200) rfl h.1 ?_
      replace h := h.2
      refine w_ifeq rfl (w_ite h (fun h => ?_) (fun h => ?_))
      · refine w_aload_n rfl rfl ?_
        refine w_gfC (c := 402) rfl s_399 rfl rfl ?_
        refine w_iload_n rfl rfl ?_
        refine w_iconst rfl (by decide) ?_
        refine w_zast rfl s_402 (w_EC (by decide)) (n := 200) rfl h.1 (by decide) ?_
        replace h := h.2
        refine w_aload_n rfl rfl ?_
        refine w_gfC (c := 401) rfl s_399 rfl rfl ?_
        refine w_iload_n rfl rfl ?_
        refine w_iload_n rfl rfl ?_
        refine w_iast rfl s_401 (w_EC (by decide)) (n := 200) rfl h.1 ?_
        replace h := h.2
        refine w_iload_n rfl rfl ?_
        refine w_bipush rfl (by decide) ?_
        refine w_icle rfl (w_ite h (fun h => ?_) (fun h => ?_))
        · refine w_aload_n rfl rfl ?_
          refine w_gfC (c := 376) rfl s_399 rfl rfl ?_
          refine w_iconst rfl (by decide) ?_
          refine w_iload_n rfl rfl ?_
          refine w_callV (t' := 0) [(0, l1), (0, 5)] [] rfl s_376 rfl rfl ?_
          refine w_C.more (Q := fun r1 m1 => _) h (fun r1 m1 h => ?_)
          replace h := id h
          exact w_iret rfl rfl h
        · refine w_aload_n rfl rfl ?_
          refine w_gfC (c := 366) rfl s_399 rfl rfl ?_
          refine w_iload_n rfl rfl ?_
          refine w_callV (t' := 0) [(0, l1)] [] rfl s_366 rfl rfl ?_
          refine w_C.more (Q := fun r2 m2 => _) h (fun r2 m2 h => ?_)
          replace h := id h
          refine w_istore (lv' := [some (2, 399), some (0, l1), some (0, l2), some (0, l3), some (0, r2), none, none, none, none, none, none, none]) rfl rfl rfl ?_
          refine w_iload_n rfl rfl ?_
          refine w_ifeq rfl (w_ite h (fun h => ?_) (fun h => ?_))
          · refine w_iconst rfl (by decide) ?_
            exact w_W.less h (w_sub [true, true, false, true, true, false, false, false, false, false, false, false] rfl)
          · refine w_aload_n rfl rfl ?_
            refine w_gfC (c := 359) rfl s_399 rfl rfl ?_
            refine w_aload_n rfl rfl ?_
            refine w_gfC (c := 366) rfl s_399 rfl rfl ?_
            refine w_iload rfl rfl ?_
            refine w_iconst rfl (by decide) ?_
            refine w_callV (t' := 0) [(0, 1), (0, r2)] [(2, 359)] rfl s_366 rfl rfl ?_
            refine w_C.more (Q := fun r3 m3 => _) h (fun r3 m3 h => ?_)
            replace h := id h
            refine w_iconst rfl (by decide) ?_
            refine w_callV (t' := 0) [(0, 4), (0, r3)] [] rfl s_359 rfl rfl ?_
            refine w_C.more (Q := fun r4 m4 => _) h (fun r4 m4 h => ?_)
            replace h := id h
            refine w_ifeq rfl (w_ite h (fun h => ?_) (fun h => ?_))
            · refine w_iconst rfl (by decide) ?_
              exact w_W.less h (w_sub [true, true, false, true, true, false, false, false, false, false, false, false] rfl)
            · refine w_iconst rfl (by decide) ?_
              refine w_goto rfl ?_
              exact w_W.less h (w_sub [true, true, false, true, true, false, false, false, false, false, false, false] rfl)
      · refine w_aload_n rfl rfl ?_
        refine w_gfC (c := 376) rfl s_399 rfl rfl ?_
        refine w_bipush rfl (by decide) ?_
        refine w_iload_n rfl rfl ?_
        refine w_callV (t' := 0) [(0, l2), (0, 10)] [] rfl s_376 rfl rfl ?_
        refine w_C.more (Q := fun r5 m5 => _) h (fun r5 m5 h => ?_)
        replace h := id h
        exact w_iret rfl rfl h
    · refine w_aload_n rfl rfl ?_
      refine w_gfC (c := 376) rfl s_399 rfl rfl ?_
      refine w_bipush rfl (by decide) ?_
      refine w_iload_n rfl rfl ?_
      refine w_callV (t' := 0) [(0, l2), (0, 10)] [] rfl s_376 rfl rfl ?_
      refine w_C.more (Q := fun r6 m6 => _) h (fun r6 m6 h => ?_)
      replace h := id h
      exact w_iret rfl rfl h
  · refine w_aload_n rfl rfl ?_
    refine w_gfC (c := 376) rfl s_399 rfl rfl ?_
    refine w_bipush rfl (by decide) ?_
    refine w_iload_n rfl rfl ?_
    refine w_callV (t' := 0) [(0, l2), (0, 10)] [] rfl s_376 rfl rfl ?_
    refine w_C.more (Q := fun r7 m7 => _) h (fun r7 m7 h => ?_)
    replace h := id h
    exact w_iret rfl rfl h
theorem xr_tr_visit_103 {d : Nat} {l1 l3 l4 s0 : Int} {m : w_M} {Q : Int → w_M → Prop} (h : xc_tr_looksRight d l1 l4 s0 m (fun r1 m1 => if r1 = 0 then (xc_ps_fail d 376 10 l1 m1 (fun r2 m2 => Q r2 m2)) else (if s0 = 0 then (xp_tr_visit_141 d l1 l3 l4 s0 m1 Q) else (xc_tr_takesPage d l1 m1 (fun r3 m3 => if r3 = 0 then (xc_ps_fail d 376 10 l1 m3 (fun r4 m4 => Q r4 m4)) else (xp_tr_visit_141 d l1 l3 l4 s0 m3 Q)))))) : xp_tr_visit_103 d l1 l3 l4 s0 m Q := by
  refine w_istore (lv' := [some (2, 399), some (0, l1), none, some (0, l3), some (0, l4), some (0, s0), none, none, none, none, none, none]) rfl rfl rfl ?_
  refine w_aload_n rfl rfl ?_
  refine w_iload_n rfl rfl ?_
  refine w_iload rfl rfl ?_
  refine w_iload rfl rfl ?_
  refine w_callV (t' := 0) [(0, s0), (0, l4), (0, l1)] [] rfl s_399 rfl rfl ?_
  refine w_C.more (Q := fun r1 m1 => _) h (fun r1 m1 h => ?_)
  replace h := id h
  refine w_ifeq rfl (w_ite h (fun h => ?_) (fun h => ?_))
  · refine w_aload_n rfl rfl ?_
    refine w_gfC (c := 376) rfl s_399 rfl rfl ?_
    refine w_bipush rfl (by decide) ?_
    refine w_iload_n rfl rfl ?_
    refine w_callV (t' := 0) [(0, l1), (0, 10)] [] rfl s_376 rfl rfl ?_
    refine w_C.more (Q := fun r2 m2 => _) h (fun r2 m2 h => ?_)
    replace h := id h
    exact w_iret rfl rfl h
  · refine w_iload rfl rfl ?_
    refine w_ifeq rfl (w_ite h (fun h => ?_) (fun h => ?_))
    · exact w_W.less h (w_sub [true, true, false, true, true, true, false, false, false, false, false, false] rfl)
    · refine w_aload_n rfl rfl ?_
      refine w_iload_n rfl rfl ?_
      refine w_callV (t' := 0) [(0, l1)] [] rfl s_399 rfl rfl ?_
      refine w_C.more (Q := fun r3 m3 => _) h (fun r3 m3 h => ?_)
      replace h := id h
      refine w_ifne rfl (w_ite h (fun h => ?_) (fun h => ?_))
      · refine w_aload_n rfl rfl ?_
        refine w_gfC (c := 376) rfl s_399 rfl rfl ?_
        refine w_bipush rfl (by decide) ?_
        refine w_iload_n rfl rfl ?_
        refine w_callV (t' := 0) [(0, l1), (0, 10)] [] rfl s_376 rfl rfl ?_
        refine w_C.more (Q := fun r4 m4 => _) h (fun r4 m4 h => ?_)
        replace h := id h
        exact w_iret rfl rfl h
      · exact w_W.less h (w_sub [true, true, false, true, true, true, false, false, false, false, false, false] rfl)
theorem xr_tr_visit_141 {d : Nat} {l1 l3 l4 l5 : Int} {m : w_M} {Q : Int → w_M → Prop} (h : if l5 = 0 then (xc_ta_entry d l4 5 m (fun r1 m1 => xc_st_kindOf d r1 m1 (fun r2 m2 => if r2 = 6 then (xc_st_firstPart d r1 m2 (fun r3 m3 => xc_st_parts d r1 m3 (fun r4 m4 => xp_tr_visit_210 d l1 l3 l4 0 r3 r4 m4 Q))) else (xc_ps_fail d 376 10 l1 m2 (fun r5 m5 => Q r5 m5))))) else (Q 1 m)) : xp_tr_visit_141 d l1 l3 l4 l5 m Q := by
  refine w_iload rfl rfl ?_
  refine w_ifeq rfl (w_ite h (fun h => ?_) (fun h => ?_))
  · refine w_aload_n rfl rfl ?_
    refine w_gfC (c := 366) rfl s_399 rfl rfl ?_
    refine w_iload rfl rfl ?_
    refine w_iconst rfl (by decide) ?_
    refine w_callV (t' := 0) [(0, 5), (0, l4)] [] rfl s_366 rfl rfl ?_
    refine w_C.more (Q := fun r1 m1 => _) h (fun r1 m1 h => ?_)
    replace h := id h
    refine w_istore (lv' := [some (2, 399), some (0, l1), none, some (0, l3), some (0, l4), some (0, l5), some (0, r1), none, none, none, none, none]) rfl rfl rfl ?_
    refine w_aload_n rfl rfl ?_
    refine w_gfC (c := 359) rfl s_399 rfl rfl ?_
    refine w_iload rfl rfl ?_
    refine w_callV (t' := 0) [(0, r1)] [] rfl s_359 rfl rfl ?_
    refine w_C.more (Q := fun r2 m2 => _) h (fun r2 m2 h => ?_)
    replace h := id h
    refine w_bipush rfl (by decide) ?_
    refine w_iceq rfl (w_ite h (fun h => ?_) (fun h => ?_))
    · refine w_iconst rfl (by decide) ?_
      refine w_istore (lv' := [some (2, 399), some (0, l1), none, some (0, l3), some (0, l4), some (0, l5), some (0, r1), some (0, 0), none, none, none, none]) rfl rfl rfl ?_
      refine w_aload_n rfl rfl ?_
      refine w_gfC (c := 359) rfl s_399 rfl rfl ?_
      refine w_iload rfl rfl ?_
      refine w_callV (t' := 0) [(0, r1)] [] rfl s_359 rfl rfl ?_
      refine w_C.more (Q := fun r3 m3 => _) h (fun r3 m3 h => ?_)
      replace h := id h
      refine w_istore (lv' := [some (2, 399), some (0, l1), none, some (0, l3), some (0, l4), some (0, l5), some (0, r1), some (0, 0), some (0, r3), none, none, none]) rfl rfl rfl ?_
      refine w_aload_n rfl rfl ?_
      refine w_gfC (c := 359) rfl s_399 rfl rfl ?_
      refine w_iload rfl rfl ?_
      refine w_callV (t' := 0) [(0, r1)] [] rfl s_359 rfl rfl ?_
      refine w_C.more (Q := fun r4 m4 => _) h (fun r4 m4 h => ?_)
      replace h := id h
      refine w_istore (lv' := [some (2, 399), some (0, l1), none, some (0, l3), some (0, l4), some (0, l5), some (0, r1), some (0, 0), some (0, r3), some (0, r4), none, none]) rfl rfl rfl ?_
      exact w_W.less h (w_sub [true, true, false, true, true, false, false, true, true, true, false, false] rfl)
    · refine w_aload_n rfl rfl ?_
      refine w_gfC (c := 376) rfl s_399 rfl rfl ?_
      refine w_bipush rfl (by decide) ?_
      refine w_iload_n rfl rfl ?_
      refine w_callV (t' := 0) [(0, l1), (0, 10)] [] rfl s_376 rfl rfl ?_
      refine w_C.more (Q := fun r5 m5 => _) h (fun r5 m5 h => ?_)
      replace h := id h
      exact w_iret rfl rfl h
  · refine w_iconst rfl (by decide) ?_
    exact w_iret rfl rfl h
theorem xr_tr_visit_210 {d : Nat} {l1 l3 l4 l7 l8 l9 : Int} {m : w_M} {Q : Int → w_M → Prop} (h : if 0 < l9 then (if l8 < 0 then (xp_tr_visit_302 d l1 l4 l7 m Q) else (xc_ta_target d l8 m (fun r1 m1 => if r1 = 0 then (xc_ps_fail d 376 10 l1 m1 (fun r2 m2 => Q r2 m2)) else (xc_ta_dict d l8 m1 (fun r3 m3 => if r3 < 0 then (xc_ps_fail d 376 10 l1 m3 (fun r4 m4 => Q r4 m4)) else (xc_tr_visit d r1 l1 (w_32 (l3 + 1)) m3 (fun r5 m5 => if r5 < 0 then (Q (-1) m5) else (xc_st_nextOf d l8 m5 (fun r6 m6 => xp_tr_visit_210 d l1 l3 l4 (w_32 (l7 + r5)) r6 (w_32 (l9 + (-1))) m6 Q))))))))) else (xp_tr_visit_302 d l1 l4 l7 m Q)) : xp_tr_visit_210 d l1 l3 l4 l7 l8 l9 m Q := by
  refine w_iload rfl rfl ?_
  refine w_ifle rfl (w_ite h (fun h => ?_) (fun h => ?_))
  · refine w_iload rfl rfl ?_
    refine w_iflt rfl (w_ite h (fun h => ?_) (fun h => ?_))
    · exact w_W.less h (w_sub [true, true, false, false, true, false, false, true, false, false, false, false] rfl)
    · refine w_aload_n rfl rfl ?_
      refine w_gfC (c := 366) rfl s_399 rfl rfl ?_
      refine w_iload rfl rfl ?_
      refine w_callV (t' := 0) [(0, l8)] [] rfl s_366 rfl rfl ?_
      refine w_C.more (Q := fun r1 m1 => _) h (fun r1 m1 h => ?_)
      replace h := id h
      refine w_istore (lv' := [some (2, 399), some (0, l1), none, some (0, l3), some (0, l4), none, none, some (0, l7), some (0, l8), some (0, l9), some (0, r1), none]) rfl rfl rfl ?_
      refine w_iload rfl rfl ?_
      refine w_ifeq rfl (w_ite h (fun h => ?_) (fun h => ?_))
      · refine w_aload_n rfl rfl ?_
        refine w_gfC (c := 376) rfl s_399 rfl rfl ?_
        refine w_bipush rfl (by decide) ?_
        refine w_iload_n rfl rfl ?_
        refine w_callV (t' := 0) [(0, l1), (0, 10)] [] rfl s_376 rfl rfl ?_
        refine w_C.more (Q := fun r2 m2 => _) h (fun r2 m2 h => ?_)
        replace h := id h
        exact w_iret rfl rfl h
      · refine w_aload_n rfl rfl ?_
        refine w_gfC (c := 366) rfl s_399 rfl rfl ?_
        refine w_iload rfl rfl ?_
        refine w_callV (t' := 0) [(0, l8)] [] rfl s_366 rfl rfl ?_
        refine w_C.more (Q := fun r3 m3 => _) h (fun r3 m3 h => ?_)
        replace h := id h
        refine w_ifge rfl (w_ite h (fun h => ?_) (fun h => ?_))
        · refine w_aload_n rfl rfl ?_
          refine w_gfC (c := 376) rfl s_399 rfl rfl ?_
          refine w_bipush rfl (by decide) ?_
          refine w_iload_n rfl rfl ?_
          refine w_callV (t' := 0) [(0, l1), (0, 10)] [] rfl s_376 rfl rfl ?_
          refine w_C.more (Q := fun r4 m4 => _) h (fun r4 m4 h => ?_)
          replace h := id h
          exact w_iret rfl rfl h
        · refine w_aload_n rfl rfl ?_
          refine w_iload rfl rfl ?_
          refine w_iload_n rfl rfl ?_
          refine w_iload_n rfl rfl ?_
          refine w_iconst rfl (by decide) ?_
          refine w_iadd rfl ?_
          refine w_callV (t' := 0) [(0, w_32 (l3 + 1)), (0, l1), (0, r1)] [] rfl s_399 rfl rfl ?_
          refine w_C.more (Q := fun r5 m5 => _) h (fun r5 m5 h => ?_)
          replace h := id h
          refine w_istore (lv' := [some (2, 399), some (0, l1), none, some (0, l3), some (0, l4), none, none, some (0, l7), some (0, l8), some (0, l9), some (0, r1), some (0, r5)]) rfl rfl rfl ?_
          refine w_iload rfl rfl ?_
          refine w_ifge rfl (w_ite h (fun h => ?_) (fun h => ?_))
          · refine w_iconst rfl (by decide) ?_
            exact w_iret rfl rfl h
          · refine w_iload rfl rfl ?_
            refine w_iload rfl rfl ?_
            refine w_iadd rfl ?_
            refine w_istore (lv' := [some (2, 399), some (0, l1), none, some (0, l3), some (0, l4), none, none, some (0, w_32 (l7 + r5)), some (0, l8), some (0, l9), some (0, r1), some (0, r5)]) rfl rfl rfl ?_
            refine w_aload_n rfl rfl ?_
            refine w_gfC (c := 359) rfl s_399 rfl rfl ?_
            refine w_iload rfl rfl ?_
            refine w_callV (t' := 0) [(0, l8)] [] rfl s_359 rfl rfl ?_
            refine w_C.more (Q := fun r6 m6 => _) h (fun r6 m6 h => ?_)
            replace h := id h
            refine w_istore (lv' := [some (2, 399), some (0, l1), none, some (0, l3), some (0, l4), none, none, some (0, w_32 (l7 + r5)), some (0, r6), some (0, l9), some (0, r1), some (0, r5)]) rfl rfl rfl ?_
            refine w_iinc (lv' := [some (2, 399), some (0, l1), none, some (0, l3), some (0, l4), none, none, some (0, w_32 (l7 + r5)), some (0, r6), some (0, w_32 (l9 + (-1))), some (0, r1), some (0, r5)]) rfl rfl rfl rfl ?_
            refine w_goto rfl ?_
            exact w_W.less h (w_sub [true, true, false, true, true, false, false, true, true, true, false, false] rfl)
  · exact w_W.less h (w_sub [true, true, false, false, true, false, false, true, false, false, false, false] rfl)
theorem xr_tr_visit_302 {d : Nat} {l1 l4 l7 : Int} {m : w_M} {Q : Int → w_M → Prop} (h : xc_ta_entry d l4 6 m (fun r1 m1 => xc_st_kindOf d r1 m1 (fun r2 m2 => if r2 = 2 then (xc_st_oneOf d r1 m2 (fun r3 m3 => if r3 = l7 then (Q l7 m3) else (xc_ps_fail d 376 10 l1 m3 (fun r4 m4 => Q r4 m4)))) else (xc_ps_fail d 376 10 l1 m2 (fun r5 m5 => Q r5 m5))))) : xp_tr_visit_302 d l1 l4 l7 m Q := by
  refine w_aload_n rfl rfl ?_
  refine w_gfC (c := 366) rfl s_399 rfl rfl ?_
  refine w_iload rfl rfl ?_
  refine w_bipush rfl (by decide) ?_
  refine w_callV (t' := 0) [(0, 6), (0, l4)] [] rfl s_366 rfl rfl ?_
  refine w_C.more (Q := fun r1 m1 => _) h (fun r1 m1 h => ?_)
  replace h := id h
  refine w_istore (lv' := [some (2, 399), some (0, l1), none, none, some (0, l4), none, none, some (0, l7), none, some (0, r1), none, none]) rfl rfl rfl ?_
  refine w_aload_n rfl rfl ?_
  refine w_gfC (c := 359) rfl s_399 rfl rfl ?_
  refine w_iload rfl rfl ?_
  refine w_callV (t' := 0) [(0, r1)] [] rfl s_359 rfl rfl ?_
  refine w_C.more (Q := fun r2 m2 => _) h (fun r2 m2 h => ?_)
  replace h := id h
  refine w_iconst rfl (by decide) ?_
  refine w_icne rfl (w_ite h (fun h => ?_) (fun h => ?_))
  · refine w_aload_n rfl rfl ?_
    refine w_gfC (c := 359) rfl s_399 rfl rfl ?_
    refine w_iload rfl rfl ?_
    refine w_callV (t' := 0) [(0, r1)] [] rfl s_359 rfl rfl ?_
    refine w_C.more (Q := fun r3 m3 => _) h (fun r3 m3 h => ?_)
    replace h := id h
    refine w_iload rfl rfl ?_
    refine w_icne rfl (w_ite h (fun h => ?_) (fun h => ?_))
    · refine w_iload rfl rfl ?_
      refine w_goto rfl ?_
      exact w_iret rfl rfl h
    · refine w_aload_n rfl rfl ?_
      refine w_gfC (c := 376) rfl s_399 rfl rfl ?_
      refine w_bipush rfl (by decide) ?_
      refine w_iload_n rfl rfl ?_
      refine w_callV (t' := 0) [(0, l1), (0, 10)] [] rfl s_376 rfl rfl ?_
      refine w_C.more (Q := fun r4 m4 => _) h (fun r4 m4 h => ?_)
      replace h := id h
      exact w_iret rfl rfl h
  · refine w_aload_n rfl rfl ?_
    refine w_gfC (c := 376) rfl s_399 rfl rfl ?_
    refine w_bipush rfl (by decide) ?_
    refine w_iload_n rfl rfl ?_
    refine w_callV (t' := 0) [(0, l1), (0, 10)] [] rfl s_376 rfl rfl ?_
    refine w_C.more (Q := fun r5 m5 => _) h (fun r5 m5 h => ?_)
    replace h := id h
    exact w_iret rfl rfl h
