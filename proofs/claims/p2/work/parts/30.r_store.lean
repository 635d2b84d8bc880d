/-! ===== regions (printed by program): st_.* ===== -/
set_option maxRecDepth 100000
theorem xr_st_add {d : Nat} {l1 l2 l3 : Int} {m : w_M} {Q : Int → w_M → Prop} (h : if (m 359 6) < 0 then (Q (-1) m) else (if (m 359 6) < 16564 then (((0 : Int) ≤ (m 359 6) ∧ (m 359 6) < 16564) ∧ (((0 : Int) ≤ (m 359 6) ∧ (m 359 6) < 16564) ∧ (((0 : Int) ≤ (m 359 6) ∧ (m 359 6) < 16564) ∧ (((0 : Int) ≤ (m 359 6) ∧ (m 359 6) < 16564) ∧ (((0 : Int) ≤ (m 359 6) ∧ (m 359 6) < 16564) ∧ (Q (m 359 6) (w_up (w_up (w_up (w_up (w_up (w_up m 359 6 (w_32 ((m 359 6) + 1))) 360 (m 359 6) l1) 361 (m 359 6) l2) 362 (m 359 6) l3) 363 (m 359 6) (-1)) 364 (m 359 6) (-1)))))))) else (Q (-1) m))) : xc_st_add (d + 1) l1 l2 l3 m Q := by
  refine w_enter (q := 1) (lv := [some (2, 359), some (0, l1), some (0, l2), some (0, l3), none]) rfl rfl rfl ?_
  refine w_aload_n rfl rfl ?_
  refine x_gfI rfl s_359 rfl (kk := 6) rfl rfl ?_
  refine w_iflt rfl (w_ite h (fun h => ?_) (fun h => ?_))
  · refine w_iconst rfl (by decide) ?_
    exact w_iret rfl rfl h
  · refine w_aload_n rfl rfl ?_
    refine x_gfI rfl s_359 rfl (kk := 6) rfl rfl ?_
    refine w_aload_n rfl rfl ?_
    refine w_gfC (c := 360) rfl s_359 rfl rfl ?_
    refine w_len rfl s_360 (by decide) (n := 16564) rfl (by decide) ?_
    refine w_iclt rfl (w_ite h (fun h => ?_) (fun h => ?_))
    · refine w_aload_n rfl rfl ?_
      refine x_gfI rfl s_359 rfl (kk := 6) rfl rfl ?_
      refine w_istore (lv' := [some (2, 359), some (0, l1), some (0, l2), some (0, l3), some (0, m 359 6)]) rfl rfl rfl ?_
      refine w_aload_n rfl rfl ?_
      refine w_dup rfl (show (2 : Nat) ≠ 1 by decide) ?_
      refine x_gfI rfl s_359 rfl (kk := 6) rfl rfl ?_
      refine w_iconst rfl (by decide) ?_
      refine w_iadd rfl ?_
      refine w_pfI rfl s_359 rfl (w_EC (by decide)) rfl (kk := 6) rfl ?_
      refine w_aload_n rfl rfl ?_
      refine w_gfC (c := 360) rfl s_359 rfl rfl ?_
      refine w_iload rfl rfl ?_
      refine w_iload_n rfl rfl ?_
      refine w_iast rfl s_360 (w_EC (by decide)) (n := 16564) rfl h.1 ?_
      replace h := h.2
      refine w_aload_n rfl rfl ?_
      refine w_gfC (c := 361) rfl s_359 rfl rfl ?_
      refine w_iload rfl rfl ?_
      refine w_iload_n rfl rfl ?_
      refine w_iast rfl s_361 (w_EC (by decide)) (n := 16564) rfl h.1 ?_
      replace h := h.2
      refine w_aload_n rfl rfl ?_
      refine w_gfC (c := 362) rfl s_359 rfl rfl ?_
      refine w_iload rfl rfl ?_
      refine w_iload_n rfl rfl ?_
      refine w_iast rfl s_362 (w_EC (by decide)) (n := 16564) rfl h.1 ?_
      replace h := h.2
      refine w_aload_n rfl rfl ?_
      refine w_gfC (c := 363) rfl s_359 rfl rfl ?_
      refine w_iload rfl rfl ?_
      refine w_iconst rfl (by decide) ?_
      refine w_iast rfl s_363 (w_EC (by decide)) (n := 16564) rfl h.1 ?_
      replace h := h.2
      refine w_aload_n rfl rfl ?_
      refine w_gfC (c := 364) rfl s_359 rfl rfl ?_
      refine w_iload rfl rfl ?_
      refine w_iconst rfl (by decide) ?_
      refine w_iast rfl s_364 (w_EC (by decide)) (n := 16564) rfl h.1 ?_
      replace h := h.2
      refine w_iload rfl rfl ?_
      exact w_iret rfl rfl h
    · refine w_iconst rfl (by decide) ?_
      exact w_iret rfl rfl h
theorem xr_st_append {d : Nat} {l1 l2 : Int} {m : w_M} {Q : Int → w_M → Prop} (h : xc_st_parts d l1 m (fun r1 m1 => xc_st_part d l1 (w_32 (r1 - 1)) m1 (fun r2 m2 => if r2 < 0 then (xc_st_setParts d l1 l2 1 m2 (fun r3 m3 => Q 0 m3)) else (xc_st_link d r2 l2 m2 (fun r4 m4 => xc_st_firstPart d l1 m4 (fun r5 m5 => xc_st_parts d l1 m5 (fun r6 m6 => xc_st_setParts d l1 r5 (w_32 (r6 + 1)) m6 (fun r7 m7 => Q 0 m7)))))))) : xc_st_append (d + 1) l1 l2 m Q := by
  refine w_enter (q := 1) (lv := [some (2, 359), some (0, l1), some (0, l2), none]) rfl rfl rfl ?_
  refine w_aload_n rfl rfl ?_
  refine w_iload_n rfl rfl ?_
  refine w_aload_n rfl rfl ?_
  refine w_iload_n rfl rfl ?_
  refine w_callV (t' := 0) [(0, l1)] [(0, l1), (2, 359)] rfl s_359 rfl rfl ?_
  refine w_C.more (Q := fun r1 m1 => _) h (fun r1 m1 h => ?_)
  replace h := id h
  refine w_iconst rfl (by decide) ?_
  refine w_isub rfl ?_
  refine w_callV (t' := 0) [(0, w_32 (r1 - 1)), (0, l1)] [] rfl s_359 rfl rfl ?_
  refine w_C.more (Q := fun r2 m2 => _) h (fun r2 m2 h => ?_)
  replace h := id h
  refine w_istore_n (lv' := [some (2, 359), some (0, l1), some (0, l2), some (0, r2)]) rfl rfl rfl ?_
  refine w_iload_n rfl rfl ?_
  refine w_ifge rfl (w_ite h (fun h => ?_) (fun h => ?_))
  · refine w_aload_n rfl rfl ?_
    refine w_iload_n rfl rfl ?_
    refine w_iload_n rfl rfl ?_
    refine w_iconst rfl (by decide) ?_
    refine w_callV (t' := 3) [(0, 1), (0, l2), (0, l1)] [] rfl s_359 rfl rfl ?_
    refine w_C.more (Q := fun r3 m3 => _) h (fun r3 m3 h => ?_)
    replace h := id h
    refine w_goto rfl ?_
    exact w_vret rfl rfl h
  · refine w_aload_n rfl rfl ?_
    refine w_iload_n rfl rfl ?_
    refine w_iload_n rfl rfl ?_
    refine w_callV (t' := 3) [(0, l2), (0, r2)] [] rfl s_359 rfl rfl ?_
    refine w_C.more (Q := fun r4 m4 => _) h (fun r4 m4 h => ?_)
    replace h := id h
    refine w_aload_n rfl rfl ?_
    refine w_iload_n rfl rfl ?_
    refine w_aload_n rfl rfl ?_
    refine w_iload_n rfl rfl ?_
    refine w_callV (t' := 0) [(0, l1)] [(0, l1), (2, 359)] rfl s_359 rfl rfl ?_
    refine w_C.more (Q := fun r5 m5 => _) h (fun r5 m5 h => ?_)
    replace h := id h
    refine w_aload_n rfl rfl ?_
    refine w_iload_n rfl rfl ?_
    refine w_callV (t' := 0) [(0, l1)] [(0, r5), (0, l1), (2, 359)] rfl s_359 rfl rfl ?_
    refine w_C.more (Q := fun r6 m6 => _) h (fun r6 m6 h => ?_)
    replace h := id h
    refine w_iconst rfl (by decide) ?_
    refine w_iadd rfl ?_
    refine w_callV (t' := 3) [(0, w_32 (r6 + 1)), (0, r5), (0, l1)] [] rfl s_359 rfl rfl ?_
    refine w_C.more (Q := fun r7 m7 => _) h (fun r7 m7 h => ?_)
    replace h := id h
    exact w_vret rfl rfl h
theorem xr_st_become {d : Nat} {l1 l2 l3 l4 : Int} {m : w_M} {Q : Int → w_M → Prop} (h : xc_st_holds d l1 m (fun r1 m1 => if r1 = 0 then (Q 0 m1) else (((0 : Int) ≤ l1 ∧ l1 < 16564) ∧ (((0 : Int) ≤ l1 ∧ l1 < 16564) ∧ (((0 : Int) ≤ l1 ∧ l1 < 16564) ∧ (Q 0 (w_up (w_up (w_up m1 360 l1 l2) 361 l1 l3) 362 l1 l4))))))) : xc_st_become (d + 1) l1 l2 l3 l4 m Q := by
  refine w_enter (q := 0) (lv := [some (2, 359), some (0, l1), some (0, l2), some (0, l3), some (0, l4)]) rfl rfl rfl ?_
  refine w_aload_n rfl rfl ?_
  refine w_iload_n rfl rfl ?_
  refine w_callV (t' := 0) [(0, l1)] [] rfl s_359 rfl rfl ?_
  refine w_C.more (Q := fun r1 m1 => _) h (fun r1 m1 h => ?_)
  replace h := id h
  refine w_ifeq rfl (w_ite h (fun h => ?_) (fun h => ?_))
  · exact w_vret rfl rfl h
  · refine w_aload_n rfl rfl ?_
    refine w_gfC (c := 360) rfl s_359 rfl rfl ?_
    refine w_iload_n rfl rfl ?_
    refine w_iload_n rfl rfl ?_
    refine w_iast rfl s_360 (w_EC (by decide)) (n := 16564) rfl h.1 ?_
    replace h := h.2
    refine w_aload_n rfl rfl ?_
    refine w_gfC (c := 361) rfl s_359 rfl rfl ?_
    refine w_iload_n rfl rfl ?_
    refine w_iload_n rfl rfl ?_
    refine w_iast rfl s_361 (w_EC (by decide)) (n := 16564) rfl h.1 ?_
    replace h := h.2
    refine w_aload_n rfl rfl ?_
    refine w_gfC (c := 362) rfl s_359 rfl rfl ?_
    refine w_iload_n rfl rfl ?_
    refine w_iload rfl rfl ?_
    refine w_iast rfl s_362 (w_EC (by decide)) (n := 16564) rfl h.1 ?_
    replace h := h.2
    exact w_vret rfl rfl h
theorem xr_st_clear {d : Nat} {m : w_M} {Q : Int → w_M → Prop} (h : Q 0 (w_up (w_up m 359 6 (m 359 8)) 359 7 8512)) : xc_st_clear (d + 1) m Q := by
  refine w_enter (q := 0) (lv := [some (2, 359)]) rfl rfl rfl ?_
  refine w_aload_n rfl rfl ?_
  refine w_aload_n rfl rfl ?_
  refine x_gfI rfl s_359 rfl (kk := 8) rfl rfl ?_
  refine w_pfI rfl s_359 rfl (w_EC (by decide)) rfl (kk := 6) rfl ?_
  refine w_aload_n rfl rfl ?_
  refine w_sipush rfl (by decide) ?_
  refine w_pfI rfl s_359 rfl (w_EC (by decide)) rfl (kk := 7) rfl ?_
  exact w_vret rfl rfl h
theorem xr_st_entry {d : Nat} {l1 l2 : Int} {m : w_M} {Q : Int → w_M → Prop} (h : xc_st_kindOf d l1 m (fun r1 m1 => if r1 = 7 then (xc_st_oneOf d l1 m1 (fun r2 m2 => xc_st_parts d l1 m2 (fun r3 m3 => xp_st_entry_27 d l2 r2 r3 m3 Q))) else (xc_st_parts d l1 m1 (fun r4 m4 => xp_st_entry_27 d l2 (-1) r4 m4 Q)))) : xc_st_entry (d + 1) l1 l2 m Q := by
  refine w_enter (q := 2) (lv := [some (2, 359), some (0, l1), some (0, l2), none, none]) rfl rfl rfl ?_
  refine w_aload_n rfl rfl ?_
  refine w_iload_n rfl rfl ?_
  refine w_callV (t' := 0) [(0, l1)] [] rfl s_359 rfl rfl ?_
  refine w_C.more (Q := fun r1 m1 => _) h (fun r1 m1 h => ?_)
  replace h := id h
  refine w_bipush rfl (by decide) ?_
  refine w_icne rfl (w_ite h (fun h => ?_) (fun h => ?_))
  · refine w_aload_n rfl rfl ?_
    refine w_iload_n rfl rfl ?_
    refine w_callV (t' := 0) [(0, l1)] [] rfl s_359 rfl rfl ?_
    refine w_C.more (Q := fun r2 m2 => _) h (fun r2 m2 h => ?_)
    replace h := id h
    refine w_goto rfl ?_
    refine w_istore_n (lv' := [some (2, 359), some (0, l1), some (0, l2), some (0, r2), none]) rfl rfl rfl ?_
    refine w_aload_n rfl rfl ?_
    refine w_iload_n rfl rfl ?_
    refine w_callV (t' := 0) [(0, l1)] [] rfl s_359 rfl rfl ?_
    refine w_C.more (Q := fun r3 m3 => _) h (fun r3 m3 h => ?_)
    replace h := id h
    refine w_istore (lv' := [some (2, 359), some (0, l1), some (0, l2), some (0, r2), some (0, r3)]) rfl rfl rfl ?_
    exact w_W.less h (w_sub [true, false, true, true, true] rfl)
  · refine w_iconst rfl (by decide) ?_
    refine w_istore_n (lv' := [some (2, 359), some (0, l1), some (0, l2), some (0, (-1)), none]) rfl rfl rfl ?_
    refine w_aload_n rfl rfl ?_
    refine w_iload_n rfl rfl ?_
    refine w_callV (t' := 0) [(0, l1)] [] rfl s_359 rfl rfl ?_
    refine w_C.more (Q := fun r4 m4 => _) h (fun r4 m4 h => ?_)
    replace h := id h
    refine w_istore (lv' := [some (2, 359), some (0, l1), some (0, l2), some (0, (-1)), some (0, r4)]) rfl rfl rfl ?_
    exact w_W.less h (w_sub [true, false, true, true, true] rfl)
theorem xr_st_entry_27 {d : Nat} {l2 l3 l4 : Int} {m : w_M} {Q : Int → w_M → Prop} (h : if 0 < l4 then (if l3 < 0 then (Q (-1) m) else (xc_st_keyOf d l3 m (fun r1 m1 => xc_st_same d r1 l2 m1 (fun r2 m2 => if r2 = 0 then (xc_st_nextOf d l3 m2 (fun r3 m3 => xp_st_entry_27 d l2 r3 (w_32 (l4 + (-1))) m3 Q)) else (Q l3 m2))))) else (Q (-1) m)) : xp_st_entry_27 d l2 l3 l4 m Q := by
  refine w_iload rfl rfl ?_
  refine w_ifle rfl (w_ite h (fun h => ?_) (fun h => ?_))
  · refine w_iload_n rfl rfl ?_
    refine w_iflt rfl (w_ite h (fun h => ?_) (fun h => ?_))
    · refine w_iconst rfl (by decide) ?_
      exact w_iret rfl rfl h
    · refine w_aload_n rfl rfl ?_
      refine w_aload_n rfl rfl ?_
      refine w_iload_n rfl rfl ?_
      refine w_callV (t' := 0) [(0, l3)] [(2, 359)] rfl s_359 rfl rfl ?_
      refine w_C.more (Q := fun r1 m1 => _) h (fun r1 m1 h => ?_)
      replace h := id h
      refine w_iload_n rfl rfl ?_
      refine w_callV (t' := 0) [(0, l2), (0, r1)] [] rfl s_359 rfl rfl ?_
      refine w_C.more (Q := fun r2 m2 => _) h (fun r2 m2 h => ?_)
      replace h := id h
      refine w_ifeq rfl (w_ite h (fun h => ?_) (fun h => ?_))
      · refine w_aload_n rfl rfl ?_
        refine w_iload_n rfl rfl ?_
        refine w_callV (t' := 0) [(0, l3)] [] rfl s_359 rfl rfl ?_
        refine w_C.more (Q := fun r3 m3 => _) h (fun r3 m3 h => ?_)
        replace h := id h
        refine w_istore_n (lv' := [some (2, 359), none, some (0, l2), some (0, r3), some (0, l4)]) rfl rfl rfl ?_
        refine w_iinc (lv' := [some (2, 359), none, some (0, l2), some (0, r3), some (0, w_32 (l4 + (-1)))]) rfl rfl rfl rfl ?_
        refine w_goto rfl ?_
        exact w_W.less h (w_sub [true, false, true, true, true] rfl)
      · refine w_iload_n rfl rfl ?_
        exact w_iret rfl rfl h
  · refine w_iconst rfl (by decide) ?_
    exact w_iret rfl rfl h
theorem xr_st_firstPart {d : Nat} {l1 : Int} {m : w_M} {Q : Int → w_M → Prop} (h : if l1 < 0 then (Q (-1) m) else (if l1 < (m 359 6) then (if l1 < 16564 then (((0 : Int) ≤ l1 ∧ l1 < 16564) ∧ (if (m 360 l1) = 6 then (((0 : Int) ≤ l1 ∧ l1 < 16564) ∧ (Q (m 361 l1) m)) else (((0 : Int) ≤ l1 ∧ l1 < 16564) ∧ (if (m 360 l1) = 7 then (((0 : Int) ≤ l1 ∧ l1 < 16564) ∧ (Q (m 361 l1) m)) else (Q (-1) m))))) else (Q (-1) m)) else (Q (-1) m))) : xc_st_firstPart (d + 1) l1 m Q := by
  refine w_enter (q := 1) (lv := [some (2, 359), some (0, l1), none]) rfl rfl rfl ?_
  refine w_iload_n rfl rfl ?_
  refine w_iflt rfl (w_ite h (fun h => ?_) (fun h => ?_))
  · refine w_iconst rfl (by decide) ?_
    refine w_istore_n (lv' := [some (2, 359), some (0, l1), some (0, 0)]) rfl rfl rfl ?_
    refine w_iload_n rfl rfl ?_
    refine w_ifeq rfl (w_ift (by decide) ?_)
    refine w_iconst rfl (by decide) ?_
    exact w_iret rfl rfl h
  · refine w_iload_n rfl rfl ?_
    refine w_aload_n rfl rfl ?_
    refine x_gfI rfl s_359 rfl (kk := 6) rfl rfl ?_
    refine w_icge rfl (w_ite h (fun h => ?_) (fun h => ?_))
    · refine w_iload_n rfl rfl ?_
      refine w_aload_n rfl rfl ?_
      refine w_gfC (c := 360) rfl s_359 rfl rfl ?_
      refine w_len rfl s_360 (by decide) (n := 16564) rfl (by decide) ?_
      refine w_icge rfl (w_ite h (fun h => ?_) (fun h => ?_))
      · refine w_aload_n rfl rfl ?_
        refine w_gfC (c := 360) rfl s_359 rfl rfl ?_
        refine w_iload_n rfl rfl ?_
        refine w_iald rfl s_360 (n := 16564) rfl h.1 ?_
        replace h := h.2
        refine w_bipush rfl (by decide) ?_
        refine w_iceq rfl (w_ite h (fun h => ?_) (fun h => ?_))
        · refine w_iconst rfl (by decide) ?_
          refine w_goto rfl ?_
          refine w_istore_n (lv' := [some (2, 359), some (0, l1), some (0, 1)]) rfl rfl rfl ?_
          refine w_iload_n rfl rfl ?_
          refine w_ifeq rfl (w_iff (by decide) ?_)
          refine w_aload_n rfl rfl ?_
          refine w_gfC (c := 361) rfl s_359 rfl rfl ?_
          refine w_iload_n rfl rfl ?_
          refine w_iald rfl s_361 (n := 16564) rfl h.1 ?_
          replace h := h.2
          refine w_goto rfl ?_
          exact w_iret rfl rfl h
        · refine w_aload_n rfl rfl ?_
          refine w_gfC (c := 360) rfl s_359 rfl rfl ?_
          refine w_iload_n rfl rfl ?_
          refine w_iald rfl s_360 (n := 16564) rfl h.1 ?_
          replace h := h.2
          refine w_bipush rfl (by decide) ?_
          refine w_icne rfl (w_ite h (fun h => ?_) (fun h => ?_))
          · refine w_iconst rfl (by decide) ?_
            refine w_goto rfl ?_
            refine w_istore_n (lv' := [some (2, 359), some (0, l1), some (0, 1)]) rfl rfl rfl ?_
            refine w_iload_n rfl rfl ?_
            refine w_ifeq rfl (w_iff (by decide) ?_)
            refine w_aload_n rfl rfl ?_
            refine w_gfC (c := 361) rfl s_359 rfl rfl ?_
            refine w_iload_n rfl rfl ?_
            refine w_iald rfl s_361 (n := 16564) rfl h.1 ?_
            replace h := h.2
            refine w_goto rfl ?_
            exact w_iret rfl rfl h
          · refine w_iconst rfl (by decide) ?_
            refine w_istore_n (lv' := [some (2, 359), some (0, l1), some (0, 0)]) rfl rfl rfl ?_
            refine w_iload_n rfl rfl ?_
            refine w_ifeq rfl (w_ift (by decide) ?_)
            refine w_iconst rfl (by decide) ?_
            exact w_iret rfl rfl h
      · refine w_iconst rfl (by decide) ?_
        refine w_istore_n (lv' := [some (2, 359), some (0, l1), some (0, 0)]) rfl rfl rfl ?_
        refine w_iload_n rfl rfl ?_
        refine w_ifeq rfl (w_ift (by decide) ?_)
        refine w_iconst rfl (by decide) ?_
        exact w_iret rfl rfl h
    · refine w_iconst rfl (by decide) ?_
      refine w_istore_n (lv' := [some (2, 359), some (0, l1), some (0, 0)]) rfl rfl rfl ?_
      refine w_iload_n rfl rfl ?_
      refine w_ifeq rfl (w_ift (by decide) ?_)
      refine w_iconst rfl (by decide) ?_
      exact w_iret rfl rfl h
theorem xr_st_hasRoom {d : Nat} {m : w_M} {Q : Int → w_M → Prop} (h : if 16564 < (w_32 ((w_32 ((m 359 6) + 300)) + 6000)) then (Q 0 m) else (Q 1 m)) : xc_st_hasRoom (d + 1) m Q := by
  refine w_enter (q := 0) (lv := [some (2, 359)]) rfl rfl rfl ?_
  refine w_aload_n rfl rfl ?_
  refine x_gfI rfl s_359 rfl (kk := 6) rfl rfl ?_
  refine w_sipush rfl (by decide) ?_
  refine w_iadd rfl ?_
  refine w_sipush rfl (by decide) ?_
  refine w_iadd rfl ?_
  refine w_sipush rfl (by decide) ?_
  refine w_icgt rfl (w_ite h (fun h => ?_) (fun h => ?_))
  · refine w_iconst rfl (by decide) ?_
    exact w_zret rfl rfl (by decide) h
  · refine w_iconst rfl (by decide) ?_
    refine w_goto rfl ?_
    exact w_zret rfl rfl (by decide) h
theorem xr_st_holds {d : Nat} {l1 : Int} {m : w_M} {Q : Int → w_M → Prop} (h : if l1 < 0 then (Q 0 m) else (if l1 < (m 359 6) then (if l1 < 16564 then (Q 1 m) else (Q 0 m)) else (Q 0 m))) : xc_st_holds (d + 1) l1 m Q := by
  refine w_enter (q := 0) (lv := [some (2, 359), some (0, l1)]) rfl rfl rfl ?_
  refine w_iload_n rfl rfl ?_
  refine w_iflt rfl (w_ite h (fun h => ?_) (fun h => ?_))
  · refine w_iconst rfl (by decide) ?_
    exact w_zret rfl rfl (by decide) h
  · refine w_iload_n rfl rfl ?_
    refine w_aload_n rfl rfl ?_
    refine x_gfI rfl s_359 rfl (kk := 6) rfl rfl ?_
    refine w_icge rfl (w_ite h (fun h => ?_) (fun h => ?_))
    · refine w_iload_n rfl rfl ?_
      refine w_aload_n rfl rfl ?_
      refine w_gfC (c := 360) rfl s_359 rfl rfl ?_
      refine w_len rfl s_360 (by decide) (n := 16564) rfl (by decide) ?_
      refine w_icge rfl (w_ite h (fun h => ?_) (fun h => ?_))
      · refine w_iconst rfl (by decide) ?_
        refine w_goto rfl ?_
        exact w_zret rfl rfl (by decide) h
      · refine w_iconst rfl (by decide) ?_
        exact w_zret rfl rfl (by decide) h
    · refine w_iconst rfl (by decide) ?_
      exact w_zret rfl rfl (by decide) h
theorem xr_st_infoPlace {d : Nat} {l1 : Int} {m : w_M} {Q : Int → w_M → Prop} (h : Q (w_32 (512 + (w_32 (l1 * 2000)))) m) : xc_st_infoPlace (d + 1) l1 m Q := by
  refine w_enter (q := 0) (lv := [some (2, 359), some (0, l1)]) rfl rfl rfl ?_
  refine w_sipush rfl (by decide) ?_
  refine w_iload_n rfl rfl ?_
  refine w_sipush rfl (by decide) ?_
  refine w_imul rfl ?_
  refine w_iadd rfl ?_
  exact w_iret rfl rfl h
theorem xr_st_isName {d : Nat} {l1 l2 : Int} {m : w_M} {Q : Int → w_M → Prop} (h : xc_st_kindOf d l1 m (fun r1 m1 => if r1 = 4 then (xc_st_same d l1 l2 m1 (fun r2 m2 => if r2 = 0 then (Q 0 m2) else (Q 1 m2))) else (Q 0 m1))) : xc_st_isName (d + 1) l1 l2 m Q := by
  refine w_enter (q := 0) (lv := [some (2, 359), some (0, l1), some (0, l2)]) rfl rfl rfl ?_
  refine w_aload_n rfl rfl ?_
  refine w_iload_n rfl rfl ?_
  refine w_callV (t' := 0) [(0, l1)] [] rfl s_359 rfl rfl ?_
  refine w_C.more (Q := fun r1 m1 => _) h (fun r1 m1 h => ?_)
  replace h := id h
  refine w_iconst rfl (by decide) ?_
  refine w_icne rfl (w_ite h (fun h => ?_) (fun h => ?_))
  · refine w_aload_n rfl rfl ?_
    refine w_iload_n rfl rfl ?_
    refine w_iload_n rfl rfl ?_
    refine w_callV (t' := 0) [(0, l2), (0, l1)] [] rfl s_359 rfl rfl ?_
    refine w_C.more (Q := fun r2 m2 => _) h (fun r2 m2 h => ?_)
    replace h := id h
    refine w_ifeq rfl (w_ite h (fun h => ?_) (fun h => ?_))
    · refine w_iconst rfl (by decide) ?_
      exact w_zret rfl rfl (by decide) h
    · refine w_iconst rfl (by decide) ?_
      refine w_goto rfl ?_
      exact w_zret rfl rfl (by decide) h
  · refine w_iconst rfl (by decide) ?_
    exact w_zret rfl rfl (by decide) h
theorem xr_st_isNumber {d : Nat} {l1 : Int} {m : w_M} {Q : Int → w_M → Prop} (h : xc_st_kindOf d l1 m (fun r1 m1 => if r1 = 3 then (Q 1 m1) else (if r1 = 2 then (((0 : Int) ≤ l1 ∧ l1 < 16564) ∧ (if (m1 361 l1) < (-32768) then (Q 0 m1) else (((0 : Int) ≤ l1 ∧ l1 < 16564) ∧ (if 32767 < (m1 361 l1) then (Q 0 m1) else (Q 1 m1))))) else (Q 0 m1)))) : xc_st_isNumber (d + 1) l1 m Q := by
  refine w_enter (q := 1) (lv := [some (2, 359), some (0, l1), none]) rfl rfl rfl ?_
  refine w_aload_n rfl rfl ?_
  refine w_iload_n rfl rfl ?_
  refine w_callV (t' := 0) [(0, l1)] [] rfl s_359 rfl rfl ?_
  refine w_C.more (Q := fun r1 m1 => _) h (fun r1 m1 h => ?_)
  replace h := id h
  refine w_istore_n (lv' := [some (2, 359), some (0, l1), some (0, r1)]) rfl rfl rfl ?_
  refine w_iload_n rfl rfl ?_
  refine w_iconst rfl (by decide) ?_
  refine w_iceq rfl (w_ite h (fun h => ?_) (fun h => ?_))
  · refine w_iconst rfl (by decide) ?_
    refine w_goto rfl ?_
    exact w_zret rfl rfl (by decide) h
  · refine w_iload_n rfl rfl ?_
    refine w_iconst rfl (by decide) ?_
    refine w_icne rfl (w_ite h (fun h => ?_) (fun h => ?_))
    · refine w_aload_n rfl rfl ?_
      refine w_gfC (c := 361) rfl s_359 rfl rfl ?_
      refine w_iload_n rfl rfl ?_
      refine w_iald rfl s_361 (n := 16564) rfl h.1 ?_
      replace h := h.2
      refine w_sipush rfl (by decide) ?_
      refine w_iclt rfl (w_ite h (fun h => ?_) (fun h => ?_))
      · refine w_iconst rfl (by decide) ?_
        exact w_zret rfl rfl (by decide) h
      · refine w_aload_n rfl rfl ?_
        refine w_gfC (c := 361) rfl s_359 rfl rfl ?_
        refine w_iload_n rfl rfl ?_
        refine w_iald rfl s_361 (n := 16564) rfl h.1 ?_
        replace h := h.2
        refine w_sipush rfl (by decide) ?_
        refine w_icgt rfl (w_ite h (fun h => ?_) (fun h => ?_))
        · refine w_iconst rfl (by decide) ?_
          exact w_zret rfl rfl (by decide) h
        · refine w_iconst rfl (by decide) ?_
          refine w_goto rfl ?_
          exact w_zret rfl rfl (by decide) h
    · refine w_iconst rfl (by decide) ?_
      exact w_zret rfl rfl (by decide) h
theorem xr_st_keyOf {d : Nat} {l1 : Int} {m : w_M} {Q : Int → w_M → Prop} (h : if l1 < 0 then (Q (-1) m) else (if l1 < (m 359 6) then (if l1 < 16564 then (((0 : Int) ≤ l1 ∧ l1 < 16564) ∧ (Q (m 364 l1) m)) else (Q (-1) m)) else (Q (-1) m))) : xc_st_keyOf (d + 1) l1 m Q := by
  refine w_enter (q := 0) (lv := [some (2, 359), some (0, l1)]) rfl rfl rfl ?_
  refine w_iload_n rfl rfl ?_
  refine w_iflt rfl (w_ite h (fun h => ?_) (fun h => ?_))
  · refine w_iconst rfl (by decide) ?_
    exact w_iret rfl rfl h
  · refine w_iload_n rfl rfl ?_
    refine w_aload_n rfl rfl ?_
    refine x_gfI rfl s_359 rfl (kk := 6) rfl rfl ?_
    refine w_icge rfl (w_ite h (fun h => ?_) (fun h => ?_))
    · refine w_iload_n rfl rfl ?_
      refine w_aload_n rfl rfl ?_
      refine w_gfC (c := 364) rfl s_359 rfl rfl ?_
      refine w_len rfl s_364 (by decide) (n := 16564) rfl (by decide) ?_
      refine w_icge rfl (w_ite h (fun h => ?_) (fun h => ?_))
      · refine w_aload_n rfl rfl ?_
        refine w_gfC (c := 364) rfl s_359 rfl rfl ?_
        refine w_iload_n rfl rfl ?_
        refine w_iald rfl s_364 (n := 16564) rfl h.1 ?_
        replace h := h.2
        refine w_goto rfl ?_
        exact w_iret rfl rfl h
      · refine w_iconst rfl (by decide) ?_
        exact w_iret rfl rfl h
    · refine w_iconst rfl (by decide) ?_
      exact w_iret rfl rfl h
theorem xr_st_kindOf {d : Nat} {l1 : Int} {m : w_M} {Q : Int → w_M → Prop} (h : if l1 < 0 then (Q (-1) m) else (if l1 < (m 359 6) then (if l1 < 16564 then (((0 : Int) ≤ l1 ∧ l1 < 16564) ∧ (Q (m 360 l1) m)) else (Q (-1) m)) else (Q (-1) m))) : xc_st_kindOf (d + 1) l1 m Q := by
  refine w_enter (q := 0) (lv := [some (2, 359), some (0, l1)]) rfl rfl rfl ?_
  refine w_iload_n rfl rfl ?_
  refine w_iflt rfl (w_ite h (fun h => ?_) (fun h => ?_))
  · refine w_iconst rfl (by decide) ?_
    exact w_iret rfl rfl h
  · refine w_iload_n rfl rfl ?_
    refine w_aload_n rfl rfl ?_
    refine x_gfI rfl s_359 rfl (kk := 6) rfl rfl ?_
    refine w_icge rfl (w_ite h (fun h => ?_) (fun h => ?_))
    · refine w_iload_n rfl rfl ?_
      refine w_aload_n rfl rfl ?_
      refine w_gfC (c := 360) rfl s_359 rfl rfl ?_
      refine w_len rfl s_360 (by decide) (n := 16564) rfl (by decide) ?_
      refine w_icge rfl (w_ite h (fun h => ?_) (fun h => ?_))
      · refine w_aload_n rfl rfl ?_
        refine w_gfC (c := 360) rfl s_359 rfl rfl ?_
        refine w_iload_n rfl rfl ?_
        refine w_iald rfl s_360 (n := 16564) rfl h.1 ?_
        replace h := h.2
        refine w_goto rfl ?_
        exact w_iret rfl rfl h
      · refine w_iconst rfl (by decide) ?_
        exact w_iret rfl rfl h
    · refine w_iconst rfl (by decide) ?_
      exact w_iret rfl rfl h
theorem xr_st_letterOf {d : Nat} {l1 l2 : Int} {m : w_M} {Q : Int → w_M → Prop} (h : if l2 < 0 then (Q (-1) m) else (xc_st_letters d l1 m (fun r1 m1 => if l2 < r1 then (xc_st_oneOf d l1 m1 (fun r2 m2 => if (w_32 (r2 + l2)) < 0 then (Q (-1) m2) else (if (w_32 (r2 + l2)) < 108612 then (((0 : Int) ≤ (w_32 (r2 + l2)) ∧ (w_32 (r2 + l2)) < 108612) ∧ (Q ((m2 365 (w_32 (r2 + l2))) % 256) m2)) else (Q (-1) m2)))) else (Q (-1) m1)))) : xc_st_letterOf (d + 1) l1 l2 m Q := by
  refine w_enter (q := 1) (lv := [some (2, 359), some (0, l1), some (0, l2), none]) rfl rfl rfl ?_
  refine w_iload_n rfl rfl ?_
  refine w_iflt rfl (w_ite h (fun h => ?_) (fun h => ?_))
  · refine w_iconst rfl (by decide) ?_
    exact w_iret rfl rfl h
  · refine w_iload_n rfl rfl ?_
    refine w_aload_n rfl rfl ?_
    refine w_iload_n rfl rfl ?_
    refine w_callV (t' := 0) [(0, l1)] [(0, l2)] rfl s_359 rfl rfl ?_
    refine w_C.more (Q := fun r1 m1 => _) h (fun r1 m1 h => ?_)
    replace h := id h
    refine w_iclt rfl (w_ite h (fun h => ?_) (fun h => ?_))
    · refine w_aload_n rfl rfl ?_
      refine w_iload_n rfl rfl ?_
      refine w_callV (t' := 0) [(0, l1)] [] rfl s_359 rfl rfl ?_
      refine w_C.more (Q := fun r2 m2 => _) h (fun r2 m2 h => ?_)
      replace h := id h
      refine w_iload_n rfl rfl ?_
      refine w_iadd rfl ?_
      refine w_istore_n (lv' := [some (2, 359), some (0, l1), some (0, l2), some (0, w_32 (r2 + l2))]) rfl rfl rfl ?_
      refine w_iload_n rfl rfl ?_
      refine w_iflt rfl (w_ite h (fun h => ?_) (fun h => ?_))
      · refine w_iconst rfl (by decide) ?_
        exact w_iret rfl rfl h
      · refine w_iload_n rfl rfl ?_
        refine w_aload_n rfl rfl ?_
        refine w_gfC (c := 365) rfl s_359 rfl rfl ?_
        refine w_len rfl s_365 (by decide) (n := 108612) rfl (by decide) ?_
        refine w_icge rfl (w_ite h (fun h => ?_) (fun h => ?_))
        · refine w_aload_n rfl rfl ?_
          refine w_gfC (c := 365) rfl s_359 rfl rfl ?_
          refine w_iload_n rfl rfl ?_
          refine w_bald rfl s_365 (n := 108612) rfl h.1 ?_
          replace h := h.2
          refine w_sipush rfl (by decide) ?_
          refine w_iandm 8 (c := 256) rfl (by decide) rfl rfl ?_
          refine w_goto rfl ?_
          exact w_iret rfl rfl h
        · refine w_iconst rfl (by decide) ?_
          exact w_iret rfl rfl h
    · refine w_iconst rfl (by decide) ?_
      exact w_iret rfl rfl h
theorem xr_st_letters {d : Nat} {l1 : Int} {m : w_M} {Q : Int → w_M → Prop} (h : if l1 < 0 then (Q (-1) m) else (if l1 < (m 359 6) then (if l1 < 16564 then (((0 : Int) ≤ l1 ∧ l1 < 16564) ∧ (if (m 360 l1) = 4 then (((0 : Int) ≤ l1 ∧ l1 < 16564) ∧ (Q (m 362 l1) m)) else (((0 : Int) ≤ l1 ∧ l1 < 16564) ∧ (if (m 360 l1) = 5 then (((0 : Int) ≤ l1 ∧ l1 < 16564) ∧ (Q (m 362 l1) m)) else (Q (-1) m))))) else (Q (-1) m)) else (Q (-1) m))) : xc_st_letters (d + 1) l1 m Q := by
  refine w_enter (q := 1) (lv := [some (2, 359), some (0, l1), none]) rfl rfl rfl ?_
  refine w_iload_n rfl rfl ?_
  refine w_iflt rfl (w_ite h (fun h => ?_) (fun h => ?_))
  · refine w_iconst rfl (by decide) ?_
    refine w_istore_n (lv' := [some (2, 359), some (0, l1), some (0, 0)]) rfl rfl rfl ?_
    refine w_iload_n rfl rfl ?_
    refine w_ifeq rfl (w_ift (by decide) ?_)
    refine w_iconst rfl (by decide) ?_
    exact w_iret rfl rfl h
  · refine w_iload_n rfl rfl ?_
    refine w_aload_n rfl rfl ?_
    refine x_gfI rfl s_359 rfl (kk := 6) rfl rfl ?_
    refine w_icge rfl (w_ite h (fun h => ?_) (fun h => ?_))
    · refine w_iload_n rfl rfl ?_
      refine w_aload_n rfl rfl ?_
      refine w_gfC (c := 360) rfl s_359 rfl rfl ?_
      refine w_len rfl s_360 (by decide) (n := 16564) rfl (by decide) ?_
      refine w_icge rfl (w_ite h (fun h => ?_) (fun h => ?_))
      · refine w_aload_n rfl rfl ?_
        refine w_gfC (c := 360) rfl s_359 rfl rfl ?_
        refine w_iload_n rfl rfl ?_
        refine w_iald rfl s_360 (n := 16564) rfl h.1 ?_
        replace h := h.2
        refine w_iconst rfl (by decide) ?_
        refine w_iceq rfl (w_ite h (fun h => ?_) (fun h => ?_))
        · refine w_iconst rfl (by decide) ?_
          refine w_goto rfl ?_
          refine w_istore_n (lv' := [some (2, 359), some (0, l1), some (0, 1)]) rfl rfl rfl ?_
          refine w_iload_n rfl rfl ?_
          refine w_ifeq rfl (w_iff (by decide) ?_)
          refine w_aload_n rfl rfl ?_
          refine w_gfC (c := 362) rfl s_359 rfl rfl ?_
          refine w_iload_n rfl rfl ?_
          refine w_iald rfl s_362 (n := 16564) rfl h.1 ?_
          replace h := h.2
          refine w_goto rfl ?_
          exact w_iret rfl rfl h
        · refine w_aload_n rfl rfl ?_
          refine w_gfC (c := 360) rfl s_359 rfl rfl ?_
          refine w_iload_n rfl rfl ?_
          refine w_iald rfl s_360 (n := 16564) rfl h.1 ?_
          replace h := h.2
          refine w_iconst rfl (by decide) ?_
          refine w_icne rfl (w_ite h (fun h => ?_) (fun h => ?_))
          · refine w_iconst rfl (by decide) ?_
            refine w_goto rfl ?_
            refine w_istore_n (lv' := [some (2, 359), some (0, l1), some (0, 1)]) rfl rfl rfl ?_
            refine w_iload_n rfl rfl ?_
            refine w_ifeq rfl (w_iff (by decide) ?_)
            refine w_aload_n rfl rfl ?_
            refine w_gfC (c := 362) rfl s_359 rfl rfl ?_
            refine w_iload_n rfl rfl ?_
            refine w_iald rfl s_362 (n := 16564) rfl h.1 ?_
            replace h := h.2
            refine w_goto rfl ?_
            exact w_iret rfl rfl h
          · refine w_iconst rfl (by decide) ?_
            refine w_istore_n (lv' := [some (2, 359), some (0, l1), some (0, 0)]) rfl rfl rfl ?_
            refine w_iload_n rfl rfl ?_
            refine w_ifeq rfl (w_ift (by decide) ?_)
            refine w_iconst rfl (by decide) ?_
            exact w_iret rfl rfl h
      · refine w_iconst rfl (by decide) ?_
        refine w_istore_n (lv' := [some (2, 359), some (0, l1), some (0, 0)]) rfl rfl rfl ?_
        refine w_iload_n rfl rfl ?_
        refine w_ifeq rfl (w_ift (by decide) ?_)
        refine w_iconst rfl (by decide) ?_
        exact w_iret rfl rfl h
    · refine w_iconst rfl (by decide) ?_
      refine w_istore_n (lv' := [some (2, 359), some (0, l1), some (0, 0)]) rfl rfl rfl ?_
      refine w_iload_n rfl rfl ?_
      refine w_ifeq rfl (w_ift (by decide) ?_)
      refine w_iconst rfl (by decide) ?_
      exact w_iret rfl rfl h
theorem xr_st_link {d : Nat} {l1 l2 : Int} {m : w_M} {Q : Int → w_M → Prop} (h : xc_st_holds d l1 m (fun r1 m1 => if r1 = 0 then (Q 0 m1) else (((0 : Int) ≤ l1 ∧ l1 < 16564) ∧ (Q 0 (w_up m1 363 l1 l2))))) : xc_st_link (d + 1) l1 l2 m Q := by
  refine w_enter (q := 0) (lv := [some (2, 359), some (0, l1), some (0, l2)]) rfl rfl rfl ?_
  refine w_aload_n rfl rfl ?_
  refine w_iload_n rfl rfl ?_
  refine w_callV (t' := 0) [(0, l1)] [] rfl s_359 rfl rfl ?_
  refine w_C.more (Q := fun r1 m1 => _) h (fun r1 m1 h => ?_)
  replace h := id h
  refine w_ifeq rfl (w_ite h (fun h => ?_) (fun h => ?_))
  · exact w_vret rfl rfl h
  · refine w_aload_n rfl rfl ?_
    refine w_gfC (c := 363) rfl s_359 rfl rfl ?_
    refine w_iload_n rfl rfl ?_
    refine w_iload_n rfl rfl ?_
    refine w_iast rfl s_363 (w_EC (by decide)) (n := 16564) rfl h.1 ?_
    replace h := h.2
    exact w_vret rfl rfl h
theorem xr_st_name {d : Nat} {l1 l2 : Int} {m : w_M} {Q : Int → w_M → Prop} (h : xc_st_holds d l1 m (fun r1 m1 => if r1 = 0 then (Q 0 m1) else (((0 : Int) ≤ l1 ∧ l1 < 16564) ∧ (Q 0 (w_up m1 364 l1 l2))))) : xc_st_name (d + 1) l1 l2 m Q := by
  refine w_enter (q := 0) (lv := [some (2, 359), some (0, l1), some (0, l2)]) rfl rfl rfl ?_
  refine w_aload_n rfl rfl ?_
  refine w_iload_n rfl rfl ?_
  refine w_callV (t' := 0) [(0, l1)] [] rfl s_359 rfl rfl ?_
  refine w_C.more (Q := fun r1 m1 => _) h (fun r1 m1 h => ?_)
  replace h := id h
  refine w_ifeq rfl (w_ite h (fun h => ?_) (fun h => ?_))
  · exact w_vret rfl rfl h
  · refine w_aload_n rfl rfl ?_
    refine w_gfC (c := 364) rfl s_359 rfl rfl ?_
    refine w_iload_n rfl rfl ?_
    refine w_iload_n rfl rfl ?_
    refine w_iast rfl s_364 (w_EC (by decide)) (n := 16564) rfl h.1 ?_
    replace h := h.2
    exact w_vret rfl rfl h
theorem xr_st_nextOf {d : Nat} {l1 : Int} {m : w_M} {Q : Int → w_M → Prop} (h : if l1 < 0 then (Q (-1) m) else (if l1 < (m 359 6) then (if l1 < 16564 then (((0 : Int) ≤ l1 ∧ l1 < 16564) ∧ (Q (m 363 l1) m)) else (Q (-1) m)) else (Q (-1) m))) : xc_st_nextOf (d + 1) l1 m Q := by
  refine w_enter (q := 0) (lv := [some (2, 359), some (0, l1)]) rfl rfl rfl ?_
  refine w_iload_n rfl rfl ?_
  refine w_iflt rfl (w_ite h (fun h => ?_) (fun h => ?_))
  · refine w_iconst rfl (by decide) ?_
    exact w_iret rfl rfl h
  · refine w_iload_n rfl rfl ?_
    refine w_aload_n rfl rfl ?_
    refine x_gfI rfl s_359 rfl (kk := 6) rfl rfl ?_
    refine w_icge rfl (w_ite h (fun h => ?_) (fun h => ?_))
    · refine w_iload_n rfl rfl ?_
      refine w_aload_n rfl rfl ?_
      refine w_gfC (c := 363) rfl s_359 rfl rfl ?_
      refine w_len rfl s_363 (by decide) (n := 16564) rfl (by decide) ?_
      refine w_icge rfl (w_ite h (fun h => ?_) (fun h => ?_))
      · refine w_aload_n rfl rfl ?_
        refine w_gfC (c := 363) rfl s_359 rfl rfl ?_
        refine w_iload_n rfl rfl ?_
        refine w_iald rfl s_363 (n := 16564) rfl h.1 ?_
        replace h := h.2
        refine w_goto rfl ?_
        exact w_iret rfl rfl h
      · refine w_iconst rfl (by decide) ?_
        exact w_iret rfl rfl h
    · refine w_iconst rfl (by decide) ?_
      exact w_iret rfl rfl h
theorem xr_st_oneOf {d : Nat} {l1 : Int} {m : w_M} {Q : Int → w_M → Prop} (h : if l1 < 0 then (Q 0 m) else (if l1 < (m 359 6) then (if l1 < 16564 then (((0 : Int) ≤ l1 ∧ l1 < 16564) ∧ (Q (m 361 l1) m)) else (Q 0 m)) else (Q 0 m))) : xc_st_oneOf (d + 1) l1 m Q := by
  refine w_enter (q := 0) (lv := [some (2, 359), some (0, l1)]) rfl rfl rfl ?_
  refine w_iload_n rfl rfl ?_
  refine w_iflt rfl (w_ite h (fun h => ?_) (fun h => ?_))
  · refine w_iconst rfl (by decide) ?_
    exact w_iret rfl rfl h
  · refine w_iload_n rfl rfl ?_
    refine w_aload_n rfl rfl ?_
    refine x_gfI rfl s_359 rfl (kk := 6) rfl rfl ?_
    refine w_icge rfl (w_ite h (fun h => ?_) (fun h => ?_))
    · refine w_iload_n rfl rfl ?_
      refine w_aload_n rfl rfl ?_
      refine w_gfC (c := 361) rfl s_359 rfl rfl ?_
      refine w_len rfl s_361 (by decide) (n := 16564) rfl (by decide) ?_
      refine w_icge rfl (w_ite h (fun h => ?_) (fun h => ?_))
      · refine w_aload_n rfl rfl ?_
        refine w_gfC (c := 361) rfl s_359 rfl rfl ?_
        refine w_iload_n rfl rfl ?_
        refine w_iald rfl s_361 (n := 16564) rfl h.1 ?_
        replace h := h.2
        refine w_goto rfl ?_
        exact w_iret rfl rfl h
      · refine w_iconst rfl (by decide) ?_
        exact w_iret rfl rfl h
    · refine w_iconst rfl (by decide) ?_
      exact w_iret rfl rfl h
theorem xr_st_part {d : Nat} {l1 l2 : Int} {m : w_M} {Q : Int → w_M → Prop} (h : if l2 < 0 then (Q (-1) m) else (xc_st_parts d l1 m (fun r1 m1 => if l2 < r1 then (xc_st_firstPart d l1 m1 (fun r2 m2 => xp_st_part_24 d l2 r2 0 m2 Q)) else (Q (-1) m1)))) : xc_st_part (d + 1) l1 l2 m Q := by
  refine w_enter (q := 2) (lv := [some (2, 359), some (0, l1), some (0, l2), none, none]) rfl rfl rfl ?_
  refine w_iload_n rfl rfl ?_
  refine w_iflt rfl (w_ite h (fun h => ?_) (fun h => ?_))
  · refine w_iconst rfl (by decide) ?_
    exact w_iret rfl rfl h
  · refine w_iload_n rfl rfl ?_
    refine w_aload_n rfl rfl ?_
    refine w_iload_n rfl rfl ?_
    refine w_callV (t' := 0) [(0, l1)] [(0, l2)] rfl s_359 rfl rfl ?_
    refine w_C.more (Q := fun r1 m1 => _) h (fun r1 m1 h => ?_)
    replace h := id h
    refine w_iclt rfl (w_ite h (fun h => ?_) (fun h => ?_))
    · refine w_aload_n rfl rfl ?_
      refine w_iload_n rfl rfl ?_
      refine w_callV (t' := 0) [(0, l1)] [] rfl s_359 rfl rfl ?_
      refine w_C.more (Q := fun r2 m2 => _) h (fun r2 m2 h => ?_)
      replace h := id h
      refine w_istore_n (lv' := [some (2, 359), some (0, l1), some (0, l2), some (0, r2), none]) rfl rfl rfl ?_
      refine w_iconst rfl (by decide) ?_
      refine w_istore (lv' := [some (2, 359), some (0, l1), some (0, l2), some (0, r2), some (0, 0)]) rfl rfl rfl ?_
      exact w_W.less h (w_sub [true, false, true, true, true] rfl)
    · refine w_iconst rfl (by decide) ?_
      exact w_iret rfl rfl h
theorem xr_st_part_24 {d : Nat} {l2 l3 l4 : Int} {m : w_M} {Q : Int → w_M → Prop} (h : if l4 < l2 then (if l3 < 0 then (Q l3 m) else (xc_st_nextOf d l3 m (fun r1 m1 => xp_st_part_24 d l2 r1 (w_32 (l4 + 1)) m1 Q))) else (Q l3 m)) : xp_st_part_24 d l2 l3 l4 m Q := by
  refine w_iload rfl rfl ?_
  refine w_iload_n rfl rfl ?_
  refine w_icge rfl (w_ite h (fun h => ?_) (fun h => ?_))
  · refine w_iload_n rfl rfl ?_
    refine w_iflt rfl (w_ite h (fun h => ?_) (fun h => ?_))
    · refine w_iload_n rfl rfl ?_
      exact w_iret rfl rfl h
    · refine w_aload_n rfl rfl ?_
      refine w_iload_n rfl rfl ?_
      refine w_callV (t' := 0) [(0, l3)] [] rfl s_359 rfl rfl ?_
      refine w_C.more (Q := fun r1 m1 => _) h (fun r1 m1 h => ?_)
      replace h := id h
      refine w_istore_n (lv' := [some (2, 359), none, some (0, l2), some (0, r1), some (0, l4)]) rfl rfl rfl ?_
      refine w_iinc (lv' := [some (2, 359), none, some (0, l2), some (0, r1), some (0, w_32 (l4 + 1))]) rfl rfl rfl rfl ?_
      refine w_goto rfl ?_
      exact w_W.less h (w_sub [true, false, true, true, true] rfl)
  · refine w_iload_n rfl rfl ?_
    exact w_iret rfl rfl h
theorem xr_st_parts {d : Nat} {l1 : Int} {m : w_M} {Q : Int → w_M → Prop} (h : if l1 < 0 then (Q 0 m) else (if l1 < (m 359 6) then (if l1 < 16564 then (((0 : Int) ≤ l1 ∧ l1 < 16564) ∧ (if (m 360 l1) = 6 then (((0 : Int) ≤ l1 ∧ l1 < 16564) ∧ (Q (m 362 l1) m)) else (((0 : Int) ≤ l1 ∧ l1 < 16564) ∧ (if (m 360 l1) = 7 then (((0 : Int) ≤ l1 ∧ l1 < 16564) ∧ (Q (m 362 l1) m)) else (Q 0 m))))) else (Q 0 m)) else (Q 0 m))) : xc_st_parts (d + 1) l1 m Q := by
  refine w_enter (q := 1) (lv := [some (2, 359), some (0, l1), none]) rfl rfl rfl ?_
  refine w_iload_n rfl rfl ?_
  refine w_iflt rfl (w_ite h (fun h => ?_) (fun h => ?_))
  · refine w_iconst rfl (by decide) ?_
    refine w_istore_n (lv' := [some (2, 359), some (0, l1), some (0, 0)]) rfl rfl rfl ?_
    refine w_iload_n rfl rfl ?_
    refine w_ifeq rfl (w_ift (by decide) ?_)
    refine w_iconst rfl (by decide) ?_
    exact w_iret rfl rfl h
  · refine w_iload_n rfl rfl ?_
    refine w_aload_n rfl rfl ?_
    refine x_gfI rfl s_359 rfl (kk := 6) rfl rfl ?_
    refine w_icge rfl (w_ite h (fun h => ?_) (fun h => ?_))
    · refine w_iload_n rfl rfl ?_
      refine w_aload_n rfl rfl ?_
      refine w_gfC (c := 360) rfl s_359 rfl rfl ?_
      refine w_len rfl s_360 (by decide) (n := 16564) rfl (by decide) ?_
      refine w_icge rfl (w_ite h (fun h => ?_) (fun h => ?_))
      · refine w_aload_n rfl rfl ?_
        refine w_gfC (c := 360) rfl s_359 rfl rfl ?_
        refine w_iload_n rfl rfl ?_
        refine w_iald rfl s_360 (n := 16564) rfl h.1 ?_
        replace h := h.2
        refine w_bipush rfl (by decide) ?_
        refine w_iceq rfl (w_ite h (fun h => ?_) (fun h => ?_))
        · refine w_iconst rfl (by decide) ?_
          refine w_goto rfl ?_
          refine w_istore_n (lv' := [some (2, 359), some (0, l1), some (0, 1)]) rfl rfl rfl ?_
          refine w_iload_n rfl rfl ?_
          refine w_ifeq rfl (w_iff (by decide) ?_)
          refine w_aload_n rfl rfl ?_
          refine w_gfC (c := 362) rfl s_359 rfl rfl ?_
          refine w_iload_n rfl rfl ?_
          refine w_iald rfl s_362 (n := 16564) rfl h.1 ?_
          replace h := h.2
          refine w_goto rfl ?_
          exact w_iret rfl rfl h
        · refine w_aload_n rfl rfl ?_
          refine w_gfC (c := 360) rfl s_359 rfl rfl ?_
          refine w_iload_n rfl rfl ?_
          refine w_iald rfl s_360 (n := 16564) rfl h.1 ?_
          replace h := h.2
          refine w_bipush rfl (by decide) ?_
          refine w_icne rfl (w_ite h (fun h => ?_) (fun h => ?_))
          · refine w_iconst rfl (by decide) ?_
            refine w_goto rfl ?_
            refine w_istore_n (lv' := [some (2, 359), some (0, l1), some (0, 1)]) rfl rfl rfl ?_
            refine w_iload_n rfl rfl ?_
            refine w_ifeq rfl (w_iff (by decide) ?_)
            refine w_aload_n rfl rfl ?_
            refine w_gfC (c := 362) rfl s_359 rfl rfl ?_
            refine w_iload_n rfl rfl ?_
            refine w_iald rfl s_362 (n := 16564) rfl h.1 ?_
            replace h := h.2
            refine w_goto rfl ?_
            exact w_iret rfl rfl h
          · refine w_iconst rfl (by decide) ?_
            refine w_istore_n (lv' := [some (2, 359), some (0, l1), some (0, 0)]) rfl rfl rfl ?_
            refine w_iload_n rfl rfl ?_
            refine w_ifeq rfl (w_ift (by decide) ?_)
            refine w_iconst rfl (by decide) ?_
            exact w_iret rfl rfl h
      · refine w_iconst rfl (by decide) ?_
        refine w_istore_n (lv' := [some (2, 359), some (0, l1), some (0, 0)]) rfl rfl rfl ?_
        refine w_iload_n rfl rfl ?_
        refine w_ifeq rfl (w_ift (by decide) ?_)
        refine w_iconst rfl (by decide) ?_
        exact w_iret rfl rfl h
    · refine w_iconst rfl (by decide) ?_
      refine w_istore_n (lv' := [some (2, 359), some (0, l1), some (0, 0)]) rfl rfl rfl ?_
      refine w_iload_n rfl rfl ?_
      refine w_ifeq rfl (w_ift (by decide) ?_)
      refine w_iconst rfl (by decide) ?_
      exact w_iret rfl rfl h
theorem xr_st_release {d : Nat} {l1 l2 : Int} {m : w_M} {Q : Int → w_M → Prop} (h : Q 0 (w_up (w_up m 359 6 l1) 359 7 l2)) : xc_st_release (d + 1) l1 l2 m Q := by
  refine w_enter (q := 0) (lv := [some (2, 359), some (0, l1), some (0, l2)]) rfl rfl rfl ?_
  refine w_aload_n rfl rfl ?_
  refine w_iload_n rfl rfl ?_
  refine w_pfI rfl s_359 rfl (w_EC (by decide)) rfl (kk := 6) rfl ?_
  refine w_aload_n rfl rfl ?_
  refine w_iload_n rfl rfl ?_
  refine w_pfI rfl s_359 rfl (w_EC (by decide)) rfl (kk := 7) rfl ?_
  exact w_vret rfl rfl h
theorem xr_st_same {d : Nat} {l1 l2 : Int} {m : w_M} {Q : Int → w_M → Prop} (h : if l1 < 0 then (Q 0 m) else (if l2 < 0 then (Q 0 m) else (if l1 < (m 359 6) then (if l2 < (m 359 6) then (if l1 < 16564 then (if l2 < 16564 then (((0 : Int) ≤ l1 ∧ l1 < 16564) ∧ (((0 : Int) ≤ l2 ∧ l2 < 16564) ∧ (if (m 362 l1) = (m 362 l2) then (((0 : Int) ≤ l1 ∧ l1 < 16564) ∧ (((0 : Int) ≤ l2 ∧ l2 < 16564) ∧ (xp_st_same_77 d l1 (m 361 l1) (m 361 l2) 0 m Q))) else (Q 0 m)))) else (Q 0 m)) else (Q 0 m)) else (Q 0 m)) else (Q 0 m)))) : xc_st_same (d + 1) l1 l2 m Q := by
  refine w_enter (q := 3) (lv := [some (2, 359), some (0, l1), some (0, l2), none, none, none]) rfl rfl rfl ?_
  refine w_iload_n rfl rfl ?_
  refine w_iflt rfl (w_ite h (fun h => ?_) (fun h => ?_))
  · refine w_iconst rfl (by decide) ?_
    exact w_zret rfl rfl (by decide) h
  · refine w_iload_n rfl rfl ?_
    refine w_iflt rfl (w_ite h (fun h => ?_) (fun h => ?_))
    · refine w_iconst rfl (by decide) ?_
      exact w_zret rfl rfl (by decide) h
    · refine w_iload_n rfl rfl ?_
      refine w_aload_n rfl rfl ?_
      refine x_gfI rfl s_359 rfl (kk := 6) rfl rfl ?_
      refine w_icge rfl (w_ite h (fun h => ?_) (fun h => ?_))
      · refine w_iload_n rfl rfl ?_
        refine w_aload_n rfl rfl ?_
        refine x_gfI rfl s_359 rfl (kk := 6) rfl rfl ?_
        refine w_icge rfl (w_ite h (fun h => ?_) (fun h => ?_))
        · refine w_iload_n rfl rfl ?_
          refine w_aload_n rfl rfl ?_
          refine w_gfC (c := 362) rfl s_359 rfl rfl ?_
          refine w_len rfl s_362 (by decide) (n := 16564) rfl (by decide) ?_
          refine w_icge rfl (w_ite h (fun h => ?_) (fun h => ?_))
          · refine w_iload_n rfl rfl ?_
            refine w_aload_n rfl rfl ?_
            refine w_gfC (c := 362) rfl s_359 rfl rfl ?_
            refine w_len rfl s_362 (by decide) (n := 16564) rfl (by decide) ?_
            refine w_icge rfl (w_ite h (fun h => ?_) (fun h => ?_))
            · refine w_aload_n rfl rfl ?_
              refine w_gfC (c := 362) rfl s_359 rfl rfl ?_
              refine w_iload_n rfl rfl ?_
              refine w_iald rfl s_362 (n := 16564) rfl h.1 ?_
              replace h := h.2
              refine w_aload_n rfl rfl ?_
              refine w_gfC (c := 362) rfl s_359 rfl rfl ?_
              refine w_iload_n rfl rfl ?_
              refine w_iald rfl s_362 (n := 16564) rfl h.1 ?_
              replace h := h.2
              refine w_iceq rfl (w_ite h (fun h => ?_) (fun h => ?_))
              · refine w_aload_n rfl rfl ?_
                refine w_gfC (c := 361) rfl s_359 rfl rfl ?_
                refine w_iload_n rfl rfl ?_
                refine w_iald rfl s_361 (n := 16564) rfl h.1 ?_
                replace h := h.2
                refine w_istore_n (lv' := [some (2, 359), some (0, l1), some (0, l2), some (0, m 361 l1), none, none]) rfl rfl rfl ?_
                refine w_aload_n rfl rfl ?_
                refine w_gfC (c := 361) rfl s_359 rfl rfl ?_
                refine w_iload_n rfl rfl ?_
                refine w_iald rfl s_361 (n := 16564) rfl h.1 ?_
                replace h := h.2
                refine w_istore (lv' := [some (2, 359), some (0, l1), some (0, l2), some (0, m 361 l1), some (0, m 361 l2), none]) rfl rfl rfl ?_
                refine w_iconst rfl (by decide) ?_
                refine w_istore (lv' := [some (2, 359), some (0, l1), some (0, l2), some (0, m 361 l1), some (0, m 361 l2), some (0, 0)]) rfl rfl rfl ?_
                exact w_W.less h (w_sub [true, true, false, true, true, true] rfl)
              · refine w_iconst rfl (by decide) ?_
                exact w_zret rfl rfl (by decide) h
            · refine w_iconst rfl (by decide) ?_
              exact w_zret rfl rfl (by decide) h
          · refine w_iconst rfl (by decide) ?_
            exact w_zret rfl rfl (by decide) h
        · refine w_iconst rfl (by decide) ?_
          exact w_zret rfl rfl (by decide) h
      · refine w_iconst rfl (by decide) ?_
        exact w_zret rfl rfl (by decide) h
theorem xr_st_same_77 {d : Nat} {l1 l3 l4 l5 : Int} {m : w_M} {Q : Int → w_M → Prop} (h : ((0 : Int) ≤ l1 ∧ l1 < 16564) ∧ (if l5 < (m 362 l1) then (if l3 < 0 then (Q 0 m) else (if l4 < 0 then (Q 0 m) else (if (w_32 (l3 + l5)) < 108612 then (if (w_32 (l4 + l5)) < 108612 then (((0 : Int) ≤ (w_32 (l3 + l5)) ∧ (w_32 (l3 + l5)) < 108612) ∧ (((0 : Int) ≤ (w_32 (l4 + l5)) ∧ (w_32 (l4 + l5)) < 108612) ∧ (if (m 365 (w_32 (l3 + l5))) = (m 365 (w_32 (l4 + l5))) then (xp_st_same_77 d l1 l3 l4 (w_32 (l5 + 1)) m Q) else (Q 0 m)))) else (Q 0 m)) else (Q 0 m)))) else (Q 1 m))) : xp_st_same_77 d l1 l3 l4 l5 m Q := by
  refine w_iload rfl rfl ?_
  refine w_aload_n rfl rfl ?_
  refine w_gfC (c := 362) rfl s_359 rfl rfl ?_
  refine w_iload_n rfl rfl ?_
  refine w_iald rfl s_362 (n := 16564) rfl h.1 ?_
  replace h := h.2
  refine w_icge rfl (w_ite h (fun h => ?_) (fun h => ?_))
  · refine w_iload_n rfl rfl ?_
    refine w_iflt rfl (w_ite h (fun h => ?_) (fun h => ?_))
    · refine w_iconst rfl (by decide) ?_
      exact w_zret rfl rfl (by decide) h
    · refine w_iload rfl rfl ?_
      refine w_iflt rfl (w_ite h (fun h => ?_) (fun h => ?_))
      · refine w_iconst rfl (by decide) ?_
        exact w_zret rfl rfl (by decide) h
      · refine w_iload_n rfl rfl ?_
        refine w_iload rfl rfl ?_
        refine w_iadd rfl ?_
        refine w_aload_n rfl rfl ?_
        refine w_gfC (c := 365) rfl s_359 rfl rfl ?_
        refine w_len rfl s_365 (by decide) (n := 108612) rfl (by decide) ?_
        refine w_icge rfl (w_ite h (fun h => ?_) (fun h => ?_))
        · refine w_iload rfl rfl ?_
          refine w_iload rfl rfl ?_
          refine w_iadd rfl ?_
          refine w_aload_n rfl rfl ?_
          refine w_gfC (c := 365) rfl s_359 rfl rfl ?_
          refine w_len rfl s_365 (by decide) (n := 108612) rfl (by decide) ?_
          refine w_icge rfl (w_ite h (fun h => ?_) (fun h => ?_))
          · refine w_aload_n rfl rfl ?_
            refine w_gfC (c := 365) rfl s_359 rfl rfl ?_
            refine w_iload_n rfl rfl ?_
            refine w_iload rfl rfl ?_
            refine w_iadd rfl ?_
            refine w_bald rfl s_365 (n := 108612) rfl h.1 ?_
            replace h := h.2
            refine w_aload_n rfl rfl ?_
            refine w_gfC (c := 365) rfl s_359 rfl rfl ?_
            refine w_iload rfl rfl ?_
            refine w_iload rfl rfl ?_
            refine w_iadd rfl ?_
            refine w_bald rfl s_365 (n := 108612) rfl h.1 ?_
            replace h := h.2
            refine w_iceq rfl (w_ite h (fun h => ?_) (fun h => ?_))
            · refine w_iinc (lv' := [some (2, 359), some (0, l1), none, some (0, l3), some (0, l4), some (0, w_32 (l5 + 1))]) rfl rfl rfl rfl ?_
              refine w_goto rfl ?_
              exact w_W.less h (w_sub [true, true, false, true, true, true] rfl)
            · refine w_iconst rfl (by decide) ?_
              exact w_zret rfl rfl (by decide) h
          · refine w_iconst rfl (by decide) ?_
            exact w_zret rfl rfl (by decide) h
        · refine w_iconst rfl (by decide) ?_
          exact w_zret rfl rfl (by decide) h
  · refine w_iconst rfl (by decide) ?_
    exact w_zret rfl rfl (by decide) h
theorem xr_st_setParts {d : Nat} {l1 l2 l3 : Int} {m : w_M} {Q : Int → w_M → Prop} (h : xc_st_holds d l1 m (fun r1 m1 => if r1 = 0 then (Q 0 m1) else (((0 : Int) ≤ l1 ∧ l1 < 16564) ∧ (((0 : Int) ≤ l1 ∧ l1 < 16564) ∧ (Q 0 (w_up (w_up m1 361 l1 l2) 362 l1 l3)))))) : xc_st_setParts (d + 1) l1 l2 l3 m Q := by
  refine w_enter (q := 0) (lv := [some (2, 359), some (0, l1), some (0, l2), some (0, l3)]) rfl rfl rfl ?_
  refine w_aload_n rfl rfl ?_
  refine w_iload_n rfl rfl ?_
  refine w_callV (t' := 0) [(0, l1)] [] rfl s_359 rfl rfl ?_
  refine w_C.more (Q := fun r1 m1 => _) h (fun r1 m1 h => ?_)
  replace h := id h
  refine w_ifeq rfl (w_ite h (fun h => ?_) (fun h => ?_))
  · exact w_vret rfl rfl h
  · refine w_aload_n rfl rfl ?_
    refine w_gfC (c := 361) rfl s_359 rfl rfl ?_
    refine w_iload_n rfl rfl ?_
    refine w_iload_n rfl rfl ?_
    refine w_iast rfl s_361 (w_EC (by decide)) (n := 16564) rfl h.1 ?_
    replace h := h.2
    refine w_aload_n rfl rfl ?_
    refine w_gfC (c := 362) rfl s_359 rfl rfl ?_
    refine w_iload_n rfl rfl ?_
    refine w_iload_n rfl rfl ?_
    refine w_iast rfl s_362 (w_EC (by decide)) (n := 16564) rfl h.1 ?_
    replace h := h.2
    exact w_vret rfl rfl h
theorem xr_st_twoOf {d : Nat} {l1 : Int} {m : w_M} {Q : Int → w_M → Prop} (h : if l1 < 0 then (Q 0 m) else (if l1 < (m 359 6) then (if l1 < 16564 then (((0 : Int) ≤ l1 ∧ l1 < 16564) ∧ (Q (m 362 l1) m)) else (Q 0 m)) else (Q 0 m))) : xc_st_twoOf (d + 1) l1 m Q := by
  refine w_enter (q := 0) (lv := [some (2, 359), some (0, l1)]) rfl rfl rfl ?_
  refine w_iload_n rfl rfl ?_
  refine w_iflt rfl (w_ite h (fun h => ?_) (fun h => ?_))
  · refine w_iconst rfl (by decide) ?_
    exact w_iret rfl rfl h
  · refine w_iload_n rfl rfl ?_
    refine w_aload_n rfl rfl ?_
    refine x_gfI rfl s_359 rfl (kk := 6) rfl rfl ?_
    refine w_icge rfl (w_ite h (fun h => ?_) (fun h => ?_))
    · refine w_iload_n rfl rfl ?_
      refine w_aload_n rfl rfl ?_
      refine w_gfC (c := 362) rfl s_359 rfl rfl ?_
      refine w_len rfl s_362 (by decide) (n := 16564) rfl (by decide) ?_
      refine w_icge rfl (w_ite h (fun h => ?_) (fun h => ?_))
      · refine w_aload_n rfl rfl ?_
        refine w_gfC (c := 362) rfl s_359 rfl rfl ?_
        refine w_iload_n rfl rfl ?_
        refine w_iald rfl s_362 (n := 16564) rfl h.1 ?_
        replace h := h.2
        refine w_goto rfl ?_
        exact w_iret rfl rfl h
      · refine w_iconst rfl (by decide) ?_
        exact w_iret rfl rfl h
    · refine w_iconst rfl (by decide) ?_
      exact w_iret rfl rfl h
theorem xr_st_units {d : Nat} {l1 : Int} {m : w_M} {Q : Int → w_M → Prop} (h : xc_st_kindOf d l1 m (fun r1 m1 => if r1 = 3 then (xc_st_oneOf d l1 m1 (fun r2 m2 => Q r2 m2)) else (xc_st_oneOf d l1 m1 (fun r3 m3 => Q (w_32 (r3 * 65536)) m3)))) : xc_st_units (d + 1) l1 m Q := by
  refine w_enter (q := 0) (lv := [some (2, 359), some (0, l1)]) rfl rfl rfl ?_
  refine w_aload_n rfl rfl ?_
  refine w_iload_n rfl rfl ?_
  refine w_callV (t' := 0) [(0, l1)] [] rfl s_359 rfl rfl ?_
  refine w_C.more (Q := fun r1 m1 => _) h (fun r1 m1 h => ?_)
  replace h := id h
  refine w_iconst rfl (by decide) ?_
  refine w_icne rfl (w_ite h (fun h => ?_) (fun h => ?_))
  · refine w_aload_n rfl rfl ?_
    refine w_iload_n rfl rfl ?_
    refine w_callV (t' := 0) [(0, l1)] [] rfl s_359 rfl rfl ?_
    refine w_C.more (Q := fun r2 m2 => _) h (fun r2 m2 h => ?_)
    replace h := id h
    refine w_goto rfl ?_
    exact w_iret rfl rfl h
  · refine w_aload_n rfl rfl ?_
    refine w_iload_n rfl rfl ?_
    refine w_callV (t' := 0) [(0, l1)] [] rfl s_359 rfl rfl ?_
    refine w_C.more (Q := fun r3 m3 => _) h (fun r3 m3 h => ?_)
    replace h := id h
    refine w_bipush rfl (by decide) ?_
    refine w_ishlk (c := 65536) rfl (by decide) (by decide) rfl ?_
    exact w_iret rfl rfl h
theorem xr_st_wholeEntry {d : Nat} {l1 l2 : Int} {m : w_M} {Q : Int → w_M → Prop} (h : xc_st_entry d l1 l2 m (fun r1 m1 => xc_st_kindOf d r1 m1 (fun r2 m2 => if r2 = 2 then (xc_st_oneOf d r1 m2 (fun r3 m3 => Q (max (-1) r3) m3)) else (Q (-1) m2)))) : xc_st_wholeEntry (d + 1) l1 l2 m Q := by
  refine w_enter (q := 1) (lv := [some (2, 359), some (0, l1), some (0, l2), none]) rfl rfl rfl ?_
  refine w_aload_n rfl rfl ?_
  refine w_iload_n rfl rfl ?_
  refine w_iload_n rfl rfl ?_
  refine w_callV (t' := 0) [(0, l2), (0, l1)] [] rfl s_359 rfl rfl ?_
  refine w_C.more (Q := fun r1 m1 => _) h (fun r1 m1 h => ?_)
  replace h := id h
  refine w_istore_n (lv' := [some (2, 359), some (0, l1), some (0, l2), some (0, r1)]) rfl rfl rfl ?_
  refine w_aload_n rfl rfl ?_
  refine w_iload_n rfl rfl ?_
  refine w_callV (t' := 0) [(0, r1)] [] rfl s_359 rfl rfl ?_
  refine w_C.more (Q := fun r2 m2 => _) h (fun r2 m2 h => ?_)
  replace h := id h
  refine w_iconst rfl (by decide) ?_
  refine w_icne rfl (w_ite h (fun h => ?_) (fun h => ?_))
  · refine w_iconst rfl (by decide) ?_
    refine w_aload_n rfl rfl ?_
    refine w_iload_n rfl rfl ?_
    refine w_callV (t' := 0) [(0, r1)] [(0, (-1))] rfl s_359 rfl rfl ?_
    refine w_C.more (Q := fun r3 m3 => _) h (fun r3 m3 h => ?_)
    replace h := id h
    refine w_max rfl rfl ?_
    refine w_goto rfl ?_
    exact w_iret rfl rfl h
  · refine w_iconst rfl (by decide) ?_
    exact w_iret rfl rfl h
