/-! ===== regions (printed by program): m_[a-c].* ===== -/
set_option maxRecDepth 100000
theorem xr_m_adler {d : Nat} {l0 l1 : Int} {m : w_M} {Q : Int → w_M → Prop} (h : xp_m_adler_7 d l0 l1 1 0 0 m Q) : xc_m_adler (d + 1) l0 l1 m Q := by
  refine w_enter (q := 3) (lv := [some (2, l0), some (0, l1), none, none, none]) rfl rfl rfl ?_
  refine w_iconst rfl (by decide) ?_
  refine w_istore_n (lv' := [some (2, l0), some (0, l1), some (0, 1), none, none]) rfl rfl rfl ?_
  refine w_iconst rfl (by decide) ?_
  refine w_istore_n (lv' := [some (2, l0), some (0, l1), some (0, 1), some (0, 0), none]) rfl rfl rfl ?_
  refine w_iconst rfl (by decide) ?_
  refine w_istore (lv' := [some (2, l0), some (0, l1), some (0, 1), some (0, 0), some (0, 0)]) rfl rfl rfl ?_
  exact w_W.less h (w_sub [true, true, true, true, true] rfl)
theorem xr_m_adler_7 {d : Nat} {l0 l1 l2 l3 l4 : Int} {m : w_M} {Q : Int → w_M → Prop} (h : if l4 < l1 then (w_isA 1 l0 ∧ ((0 : Int) ≤ l4 ∧ l4 < w_ln l0) ∧ (xp_m_adler_7 d l0 l1 (Int.tmod (w_32 (l2 + ((m l0 l4) % 256))) 65521) (Int.tmod (w_32 (l3 + (Int.tmod (w_32 (l2 + ((m l0 l4) % 256))) 65521))) 65521) (w_32 (l4 + 1)) m Q)) else (Q (w_lor (w_lshl l3 16) l2) m)) : xp_m_adler_7 d l0 l1 l2 l3 l4 m Q := by
  refine w_iload rfl rfl ?_
  refine w_iload_n rfl rfl ?_
  refine w_icge rfl (w_ite h (fun h => ?_) (fun h => ?_))
  · refine w_iload_n rfl rfl ?_
    refine w_aload_n rfl rfl ?_
    refine w_iload rfl rfl ?_
    refine x_bald rfl h.1 h.2.1 ?_
    replace h := h.2.2
    refine w_sipush rfl (by decide) ?_
    refine w_iandm 8 (c := 256) rfl (by decide) rfl rfl ?_
    refine w_iadd rfl ?_
    refine w_ldcw (a := 65521) rfl (by decide +kernel) (by decide) ?_
    refine w_iremk rfl (by decide) ?_
    refine w_istore_n (lv' := [some (2, l0), some (0, l1), some (0, Int.tmod (w_32 (l2 + ((m l0 l4) % 256))) 65521), some (0, l3), some (0, l4)]) rfl rfl rfl ?_
    refine w_iload_n rfl rfl ?_
    refine w_iload_n rfl rfl ?_
    refine w_iadd rfl ?_
    refine w_ldcw (a := 65521) rfl (by decide +kernel) (by decide) ?_
    refine w_iremk rfl (by decide) ?_
    refine w_istore_n (lv' := [some (2, l0), some (0, l1), some (0, Int.tmod (w_32 (l2 + ((m l0 l4) % 256))) 65521), some (0, Int.tmod (w_32 (l3 + (Int.tmod (w_32 (l2 + ((m l0 l4) % 256))) 65521))) 65521), some (0, l4)]) rfl rfl rfl ?_
    refine w_iinc (lv' := [some (2, l0), some (0, l1), some (0, Int.tmod (w_32 (l2 + ((m l0 l4) % 256))) 65521), some (0, Int.tmod (w_32 (l3 + (Int.tmod (w_32 (l2 + ((m l0 l4) % 256))) 65521))) 65521), some (0, w_32 (l4 + 1))]) rfl rfl rfl rfl ?_
    refine w_goto rfl ?_
    exact w_W.less h (w_sub [true, true, true, true, true] rfl)
  · refine w_iload_n rfl rfl ?_
    refine w_i2l rfl ?_
    refine w_bipush rfl (by decide) ?_
    refine w_lshl' rfl ?_
    refine w_iload_n rfl rfl ?_
    refine w_i2l rfl ?_
    refine w_lor' rfl ?_
    exact w_lret rfl rfl h
theorem xr_m_apart {d : Nat} {l0 l1 : Int} {m : w_M} {Q : Int → w_M → Prop} (h : if l0 < l1 then (Q (w_32 (l1 - l0)) m) else (Q (w_32 (l0 - l1)) m)) : xc_m_apart (d + 1) l0 l1 m Q := by
  refine w_enter (q := 0) (lv := [some (0, l0), some (0, l1)]) rfl rfl rfl ?_
  refine w_iload_n rfl rfl ?_
  refine w_iload_n rfl rfl ?_
  refine w_icge rfl (w_ite h (fun h => ?_) (fun h => ?_))
  · refine w_iload_n rfl rfl ?_
    refine w_iload_n rfl rfl ?_
    refine w_isub rfl ?_
    refine w_goto rfl ?_
    exact w_iret rfl rfl h
  · refine w_iload_n rfl rfl ?_
    refine w_iload_n rfl rfl ?_
    refine w_isub rfl ?_
    exact w_iret rfl rfl h
theorem xr_m_append {d : Nat} {l1 l2 : Int} {m : w_M} {Q : Int → w_M → Prop} (h : ((0 : Int) ≤ l2 ∧ l2 < 40000) ∧ (((0 : Int) ≤ l1 ∧ l1 < 40000) ∧ (((0 : Int) ≤ l1 ∧ l1 < 40000) ∧ (((0 : Int) ≤ l1 ∧ l1 < 40000) ∧ (if ((w_up (w_up m 437 l2 (-1)) 435 l1 (w_32 (((w_up m 437 l2 (-1)) 435 l1) + 1))) 436 l1) < 0 then (((0 : Int) ≤ l1 ∧ l1 < 40000) ∧ (Q 0 (w_up (w_up (w_up m 437 l2 (-1)) 435 l1 (w_32 (((w_up m 437 l2 (-1)) 435 l1) + 1))) 436 l1 l2))) else (((0 : Int) ≤ l1 ∧ l1 < 40000) ∧ (xp_m_append_41 d l2 ((w_up (w_up m 437 l2 (-1)) 435 l1 (w_32 (((w_up m 437 l2 (-1)) 435 l1) + 1))) 436 l1) (w_up (w_up m 437 l2 (-1)) 435 l1 (w_32 (((w_up m 437 l2 (-1)) 435 l1) + 1))) Q))))))) : xc_m_append (d + 1) l1 l2 m Q := by
  refine w_enter (q := 1) (lv := [some (2, 428), some (0, l1), some (0, l2), none]) rfl rfl rfl ?_
  refine w_aload_n rfl rfl ?_
  refine w_gfC (c := 437) rfl s_428 rfl rfl ?_
  refine w_iload_n rfl rfl ?_
  refine w_iconst rfl (by decide) ?_
  refine w_iast rfl s_437 (w_EM (by decide)) (n := 40000) rfl h.1 ?_
  replace h := h.2
  refine w_aload_n rfl rfl ?_
  refine w_gfC (c := 435) rfl s_428 rfl rfl ?_
  refine w_iload_n rfl rfl ?_
  refine w_dup2 rfl (show (0 : Nat) ≠ 1 by decide) (show (2 : Nat) ≠ 1 by decide) ?_
  refine w_iald rfl s_435 (n := 40000) rfl h.1 ?_
  replace h := h.2
  refine w_iconst rfl (by decide) ?_
  refine w_iadd rfl ?_
  refine w_iast rfl s_435 (w_EM (by decide)) (n := 40000) rfl h.1 ?_
  replace h := h.2
  refine w_aload_n rfl rfl ?_
  refine w_gfC (c := 436) rfl s_428 rfl rfl ?_
  refine w_iload_n rfl rfl ?_
  refine w_iald rfl s_436 (n := 40000) rfl h.1 ?_
  replace h := h.2
  refine w_ifge rfl (w_ite h (fun h => ?_) (fun h => ?_))
  · refine w_aload_n rfl rfl ?_
    refine w_gfC (c := 436) rfl s_428 rfl rfl ?_
    refine w_iload_n rfl rfl ?_
    refine w_iload_n rfl rfl ?_
    refine w_iast rfl s_436 (w_EM (by decide)) (n := 40000) rfl h.1 ?_
    replace h := h.2
    exact w_vret rfl rfl h
  · refine w_aload_n rfl rfl ?_
    refine w_gfC (c := 436) rfl s_428 rfl rfl ?_
    refine w_iload_n rfl rfl ?_
    refine w_iald rfl s_436 (n := 40000) rfl h.1 ?_
    replace h := h.2
    refine w_istore_n (lv' := [some (2, 428), some (0, l1), some (0, l2), some (0, (w_up (w_up m 437 l2 (-1)) 435 l1 (w_32 (((w_up m 437 l2 (-1)) 435 l1) + 1))) 436 l1)]) rfl rfl rfl ?_
    exact w_W.less h (w_sub [true, false, true, true] rfl)
theorem xr_m_append_41 {d : Nat} {l2 l3 : Int} {m : w_M} {Q : Int → w_M → Prop} (h : ((0 : Int) ≤ l3 ∧ l3 < 40000) ∧ (if (m 437 l3) < 0 then (((0 : Int) ≤ l3 ∧ l3 < 40000) ∧ (Q 0 (w_up m 437 l3 l2))) else (((0 : Int) ≤ l3 ∧ l3 < 40000) ∧ (xp_m_append_41 d l2 (m 437 l3) m Q)))) : xp_m_append_41 d l2 l3 m Q := by
  refine w_aload_n rfl rfl ?_
  refine w_gfC (c := 437) rfl s_428 rfl rfl ?_
  refine w_iload_n rfl rfl ?_
  refine w_iald rfl s_437 (n := 40000) rfl h.1 ?_
  replace h := h.2
  refine w_iflt rfl (w_ite h (fun h => ?_) (fun h => ?_))
  · refine w_aload_n rfl rfl ?_
    refine w_gfC (c := 437) rfl s_428 rfl rfl ?_
    refine w_iload_n rfl rfl ?_
    refine w_iload_n rfl rfl ?_
    refine w_iast rfl s_437 (w_EM (by decide)) (n := 40000) rfl h.1 ?_
    replace h := h.2
    exact w_vret rfl rfl h
  · refine w_aload_n rfl rfl ?_
    refine w_gfC (c := 437) rfl s_428 rfl rfl ?_
    refine w_iload_n rfl rfl ?_
    refine w_iald rfl s_437 (n := 40000) rfl h.1 ?_
    replace h := h.2
    refine w_istore_n (lv' := [some (2, 428), none, some (0, l2), some (0, m 437 l3)]) rfl rfl rfl ?_
    refine w_goto rfl ?_
    exact w_W.less h (w_sub [true, false, true, true] rfl)
theorem xr_m_areNumbers {d : Nat} {l1 : Int} {m : w_M} {Q : Int → w_M → Prop} (h : if (m 428 94) = l1 then (xp_m_areNumbers_16 d 1 0 m Q) else (xp_m_areNumbers_16 d 0 0 m Q)) : xc_m_areNumbers (d + 1) l1 m Q := by
  refine w_enter (q := 2) (lv := [some (2, 428), some (0, l1), none, none]) rfl rfl rfl ?_
  refine w_aload_n rfl rfl ?_
  refine x_gfI rfl s_428 rfl (kk := 94) rfl rfl ?_
  refine w_iload_n rfl rfl ?_
  refine w_icne rfl (w_ite h (fun h => ?_) (fun h => ?_))
  · refine w_iconst rfl (by decide) ?_
    refine w_goto rfl ?_
    refine w_istore_n (lv' := [some (2, 428), some (0, l1), some (0, 1), none]) rfl rfl rfl ?_
    refine w_iconst rfl (by decide) ?_
    refine w_istore_n (lv' := [some (2, 428), some (0, l1), some (0, 1), some (0, 0)]) rfl rfl rfl ?_
    exact w_W.less h (w_sub [true, false, true, true] rfl)
  · refine w_iconst rfl (by decide) ?_
    refine w_istore_n (lv' := [some (2, 428), some (0, l1), some (0, 0), none]) rfl rfl rfl ?_
    refine w_iconst rfl (by decide) ?_
    refine w_istore_n (lv' := [some (2, 428), some (0, l1), some (0, 0), some (0, 0)]) rfl rfl rfl ?_
    exact w_W.less h (w_sub [true, false, true, true] rfl)
theorem xr_m_areNumbers_16 {d : Nat} {l2 l3 : Int} {m : w_M} {Q : Int → w_M → Prop} (h : if l3 < (m 428 94) then (if l2 = 0 then ((l2 = 0 ∨ l2 = 1) ∧ Q l2 m) else (((0 : Int) ≤ l3 ∧ l3 < 40) ∧ (xc_m_isNumber d (m 473 l3) m (fun r1 m1 => xp_m_areNumbers_16 d r1 (w_32 (l3 + 1)) m1 Q)))) else ((l2 = 0 ∨ l2 = 1) ∧ Q l2 m)) : xp_m_areNumbers_16 d l2 l3 m Q := by
  refine w_iload_n rfl rfl ?_
  refine w_aload_n rfl rfl ?_
  refine x_gfI rfl s_428 rfl (kk := 94) rfl rfl ?_
  refine w_icge rfl (w_ite h (fun h => ?_) (fun h => ?_))
  · refine w_iload_n rfl rfl ?_
    refine w_ifeq rfl (w_ite h (fun h => ?_) (fun h => ?_))
    · refine w_iload_n rfl rfl ?_
      exact w_zret rfl rfl h.1 h.2
    · refine w_aload_n rfl rfl ?_
      refine w_aload_n rfl rfl ?_
      refine w_gfC (c := 473) rfl s_428 rfl rfl ?_
      refine w_iload_n rfl rfl ?_
      refine w_iald rfl s_473 (n := 40) rfl h.1 ?_
      replace h := h.2
      refine w_callV (t' := 0) [(0, m 473 l3)] [] rfl s_428 rfl rfl ?_
      refine w_C.more (Q := fun r1 m1 => _) h (fun r1 m1 h => ?_)
      replace h := id h
      refine w_istore_n (lv' := [some (2, 428), none, some (0, r1), some (0, l3)]) rfl rfl rfl ?_
      refine w_iinc (lv' := [some (2, 428), none, some (0, r1), some (0, w_32 (l3 + 1))]) rfl rfl rfl rfl ?_
      refine w_goto rfl ?_
      exact w_W.less h (w_sub [true, false, true, true] rfl)
  · refine w_iload_n rfl rfl ?_
    exact w_zret rfl rfl h.1 h.2
theorem xr_m_areShown {d : Nat} {l1 : Int} {m : w_M} {Q : Int → w_M → Prop} (h : ((0 : Int) ≤ l1 ∧ l1 < 40000) ∧ (xp_m_areShown_9 d 1 (m 436 l1) m Q)) : xc_m_areShown (d + 1) l1 m Q := by
  refine w_enter (q := 2) (lv := [some (2, 428), some (0, l1), none, none]) rfl rfl rfl ?_
  refine w_iconst rfl (by decide) ?_
  refine w_istore_n (lv' := [some (2, 428), some (0, l1), some (0, 1), none]) rfl rfl rfl ?_
  refine w_aload_n rfl rfl ?_
  refine w_gfC (c := 436) rfl s_428 rfl rfl ?_
  refine w_iload_n rfl rfl ?_
  refine w_iald rfl s_436 (n := 40000) rfl h.1 ?_
  replace h := h.2
  refine w_istore_n (lv' := [some (2, 428), some (0, l1), some (0, 1), some (0, m 436 l1)]) rfl rfl rfl ?_
  exact w_W.less h (w_sub [true, false, true, true] rfl)
theorem xr_m_areShown_9 {d : Nat} {l2 l3 : Int} {m : w_M} {Q : Int → w_M → Prop} (h : if l3 < 0 then ((l2 = 0 ∨ l2 = 1) ∧ Q l2 m) else (if l2 = 0 then (((0 : Int) ≤ l3 ∧ l3 < 40000) ∧ (xp_m_areShown_9 d 0 (m 437 l3) m Q)) else (((0 : Int) ≤ l3 ∧ l3 < 40000) ∧ (if (m 432 l3) = 5 then (((0 : Int) ≤ l3 ∧ l3 < 40000) ∧ (xp_m_areShown_9 d 1 (m 437 l3) m Q)) else (xc_m_isNumber d l3 m (fun r1 m1 => if r1 = 0 then (((0 : Int) ≤ l3 ∧ l3 < 40000) ∧ (xp_m_areShown_9 d 0 (m1 437 l3) m1 Q)) else (((0 : Int) ≤ l3 ∧ l3 < 40000) ∧ (xp_m_areShown_9 d 1 (m1 437 l3) m1 Q)))))))) : xp_m_areShown_9 d l2 l3 m Q := by
  refine w_iload_n rfl rfl ?_
  refine w_iflt rfl (w_ite h (fun h => ?_) (fun h => ?_))
  · refine w_iload_n rfl rfl ?_
    exact w_zret rfl rfl h.1 h.2
  · refine w_iload_n rfl rfl ?_
    refine w_ifeq rfl (w_ite h (fun h => ?_) (fun h => ?_))
    · refine w_iconst rfl (by decide) ?_
      refine w_istore_n (lv' := [some (2, 428), none, some (0, 0), some (0, l3)]) rfl rfl rfl ?_
      refine w_aload_n rfl rfl ?_
      refine w_gfC (c := 437) rfl s_428 rfl rfl ?_
      refine w_iload_n rfl rfl ?_
      refine w_iald rfl s_437 (n := 40000) rfl h.1 ?_
      replace h := h.2
      refine w_istore_n (lv' := [some (2, 428), none, some (0, 0), some (0, m 437 l3)]) rfl rfl rfl ?_
      refine w_goto rfl ?_
      exact w_W.less h (w_sub [true, false, true, true] rfl)
    · refine w_aload_n rfl rfl ?_
      refine w_gfC (c := 432) rfl s_428 rfl rfl ?_
      refine w_iload_n rfl rfl ?_
      refine w_bald rfl s_432 (n := 40000) rfl h.1 ?_
      replace h := h.2
      refine w_iconst rfl (by decide) ?_
      refine w_iceq rfl (w_ite h (fun h => ?_) (fun h => ?_))
      · refine w_iconst rfl (by decide) ?_
        refine w_goto rfl ?_
        refine w_istore_n (lv' := [some (2, 428), none, some (0, 1), some (0, l3)]) rfl rfl rfl ?_
        refine w_aload_n rfl rfl ?_
        refine w_gfC (c := 437) rfl s_428 rfl rfl ?_
        refine w_iload_n rfl rfl ?_
        refine w_iald rfl s_437 (n := 40000) rfl h.1 ?_
        replace h := h.2
        refine w_istore_n (lv' := [some (2, 428), none, some (0, 1), some (0, m 437 l3)]) rfl rfl rfl ?_
        refine w_goto rfl ?_
        exact w_W.less h (w_sub [true, false, true, true] rfl)
      · refine w_aload_n rfl rfl ?_
        refine w_iload_n rfl rfl ?_
        refine w_callV (t' := 0) [(0, l3)] [] rfl s_428 rfl rfl ?_
        refine w_C.more (Q := fun r1 m1 => _) h (fun r1 m1 h => ?_)
        replace h := id h
        refine w_ifeq rfl (w_ite h (fun h => ?_) (fun h => ?_))
        · refine w_iconst rfl (by decide) ?_
          refine w_istore_n (lv' := [some (2, 428), none, some (0, 0), some (0, l3)]) rfl rfl rfl ?_
          refine w_aload_n rfl rfl ?_
          refine w_gfC (c := 437) rfl s_428 rfl rfl ?_
          refine w_iload_n rfl rfl ?_
          refine w_iald rfl s_437 (n := 40000) rfl h.1 ?_
          replace h := h.2
          refine w_istore_n (lv' := [some (2, 428), none, some (0, 0), some (0, m1 437 l3)]) rfl rfl rfl ?_
          refine w_goto rfl ?_
          exact w_W.less h (w_sub [true, false, true, true] rfl)
        · refine w_iconst rfl (by decide) ?_
          refine w_goto rfl ?_
          refine w_istore_n (lv' := [some (2, 428), none, some (0, 1), some (0, l3)]) rfl rfl rfl ?_
          refine w_aload_n rfl rfl ?_
          refine w_gfC (c := 437) rfl s_428 rfl rfl ?_
          refine w_iload_n rfl rfl ?_
          refine w_iald rfl s_437 (n := 40000) rfl h.1 ?_
          replace h := h.2
          refine w_istore_n (lv' := [some (2, 428), none, some (0, 1), some (0, m1 437 l3)]) rfl rfl rfl ?_
          refine w_goto rfl ?_
          exact w_W.less h (w_sub [true, false, true, true] rfl)
theorem xr_m_array {d : Nat} {l1 l2 : Int} {m : w_M} {Q : Int → w_M → Prop} (h : xc_m_newNode d 6 0 m (fun r1 m1 => xc_m_token d m1 (fun r2 m2 => xp_m_array_15 d l1 l2 r1 (-1) m2 Q))) : xc_m_array (d + 1) l1 l2 m Q := by
  refine w_enter (q := 3) (lv := [some (2, 428), some (0, l1), some (0, l2), none, none, none]) rfl rfl rfl ?_
  refine w_aload_n rfl rfl ?_
  refine w_bipush rfl (by decide) ?_
  refine w_iconst rfl (by decide) ?_
  refine w_callV (t' := 0) [(0, 0), (0, 6)] [] rfl s_428 rfl rfl ?_
  refine w_C.more (Q := fun r1 m1 => _) h (fun r1 m1 h => ?_)
  replace h := id h
  refine w_istore_n (lv' := [some (2, 428), some (0, l1), some (0, l2), some (0, r1), none, none]) rfl rfl rfl ?_
  refine w_iconst rfl (by decide) ?_
  refine w_istore (lv' := [some (2, 428), some (0, l1), some (0, l2), some (0, r1), some (0, (-1)), none]) rfl rfl rfl ?_
  refine w_aload_n rfl rfl ?_
  refine w_callV (t' := 3) [] [] rfl s_428 rfl rfl ?_
  refine w_C.more (Q := fun r2 m2 => _) h (fun r2 m2 h => ?_)
  replace h := id h
  exact w_W.less h (w_sub [true, true, true, true, true, false] rfl)
theorem xr_m_array_15 {d : Nat} {l1 l2 l3 l4 : Int} {m : w_M} {Q : Int → w_M → Prop} (h : xc_m_good d m (fun r1 m1 => if r1 = 0 then (Q l3 m1) else (if (m1 428 22) = 7 then (Q l3 m1) else (xc_m_object d l1 l2 m1 (fun r2 m2 => xc_m_good d m2 (fun r3 m3 => if r3 = 0 then (Q (-1) m3) else (if l4 < 0 then (((0 : Int) ≤ l3 ∧ l3 < 40000) ∧ (((0 : Int) ≤ l3 ∧ l3 < 40000) ∧ (((0 : Int) ≤ l3 ∧ l3 < 40000) ∧ (xc_m_token d (w_up (w_up m3 436 l3 r2) 435 l3 (w_32 (((w_up m3 436 l3 r2) 435 l3) + 1))) (fun r4 m4 => xp_m_array_15 d l1 l2 l3 r2 m4 Q))))) else (((0 : Int) ≤ l4 ∧ l4 < 40000) ∧ (((0 : Int) ≤ l3 ∧ l3 < 40000) ∧ (((0 : Int) ≤ l3 ∧ l3 < 40000) ∧ (xc_m_token d (w_up (w_up m3 437 l4 r2) 435 l3 (w_32 (((w_up m3 437 l4 r2) 435 l3) + 1))) (fun r5 m5 => xp_m_array_15 d l1 l2 l3 r2 m5 Q)))))))))))) : xp_m_array_15 d l1 l2 l3 l4 m Q := by
  refine w_aload_n rfl rfl ?_
  refine w_callV (t' := 0) [] [] rfl s_428 rfl rfl ?_
  refine w_C.more (Q := fun r1 m1 => _) h (fun r1 m1 h => ?_)
  replace h := id h
  refine w_ifeq rfl (w_ite h (fun h => ?_) (fun h => ?_))
  · refine w_iload_n rfl rfl ?_
    exact w_iret rfl rfl h
  · refine w_aload_n rfl rfl ?_
    refine x_gfI rfl s_428 rfl (kk := 22) rfl rfl ?_
    refine w_bipush rfl (by decide) ?_
    refine w_iceq rfl (w_ite h (fun h => ?_) (fun h => ?_))
    · refine w_iload_n rfl rfl ?_
      exact w_iret rfl rfl h
    · refine w_aload_n rfl rfl ?_
      refine w_iload_n rfl rfl ?_
      refine w_iload_n rfl rfl ?_
      refine w_callV (t' := 0) [(0, l2), (0, l1)] [] rfl s_428 rfl rfl ?_
      refine w_C.more (Q := fun r2 m2 => _) h (fun r2 m2 h => ?_)
      replace h := id h
      refine w_istore (lv' := [some (2, 428), some (0, l1), some (0, l2), some (0, l3), some (0, l4), some (0, r2)]) rfl rfl rfl ?_
      refine w_aload_n rfl rfl ?_
      refine w_callV (t' := 0) [] [] rfl s_428 rfl rfl ?_
      refine w_C.more (Q := fun r3 m3 => _) h (fun r3 m3 h => ?_)
      replace h := id h
      refine w_ifne rfl (w_ite h (fun h => ?_) (fun h => ?_))
      · refine w_iconst rfl (by decide) ?_
        exact w_iret rfl rfl h
      · refine w_iload rfl rfl ?_
        refine w_ifge rfl (w_ite h (fun h => ?_) (fun h => ?_))
        · refine w_aload_n rfl rfl ?_
          refine w_gfC (c := 436) rfl s_428 rfl rfl ?_
          refine w_iload_n rfl rfl ?_
          refine w_iload rfl rfl ?_
          refine w_iast rfl s_436 (w_EM (by decide)) (n := 40000) rfl h.1 ?_
          replace h := h.2
          refine w_goto rfl ?_
          refine w_iload rfl rfl ?_
          refine w_istore (lv' := [some (2, 428), some (0, l1), some (0, l2), some (0, l3), some (0, r2), some (0, r2)]) rfl rfl rfl ?_
          refine w_aload_n rfl rfl ?_
          refine w_gfC (c := 435) rfl s_428 rfl rfl ?_
          refine w_iload_n rfl rfl ?_
          refine w_dup2 rfl (show (0 : Nat) ≠ 1 by decide) (show (2 : Nat) ≠ 1 by decide) ?_
          refine w_iald rfl s_435 (n := 40000) rfl h.1 ?_
          replace h := h.2
          refine w_iconst rfl (by decide) ?_
          refine w_iadd rfl ?_
          refine w_iast rfl s_435 (w_EM (by decide)) (n := 40000) rfl h.1 ?_
          replace h := h.2
          refine w_aload_n rfl rfl ?_
          refine w_callV (t' := 3) [] [] rfl s_428 rfl rfl ?_
          refine w_C.more (Q := fun r4 m4 => _) h (fun r4 m4 h => ?_)
          replace h := id h
          refine w_goto rfl ?_
          exact w_W.less h (w_sub [true, true, true, true, true, false] rfl)
        · refine w_aload_n rfl rfl ?_
          refine w_gfC (c := 437) rfl s_428 rfl rfl ?_
          refine w_iload rfl rfl ?_
          refine w_iload rfl rfl ?_
          refine w_iast rfl s_437 (w_EM (by decide)) (n := 40000) rfl h.1 ?_
          replace h := h.2
          refine w_iload rfl rfl ?_
          refine w_istore (lv' := [some (2, 428), some (0, l1), some (0, l2), some (0, l3), some (0, r2), some (0, r2)]) rfl rfl rfl ?_
          refine w_aload_n rfl rfl ?_
          refine w_gfC (c := 435) rfl s_428 rfl rfl ?_
          refine w_iload_n rfl rfl ?_
          refine w_dup2 rfl (show (0 : Nat) ≠ 1 by decide) (show (2 : Nat) ≠ 1 by decide) ?_
          refine w_iald rfl s_435 (n := 40000) rfl h.1 ?_
          replace h := h.2
          refine w_iconst rfl (by decide) ?_
          refine w_iadd rfl ?_
          refine w_iast rfl s_435 (w_EM (by decide)) (n := 40000) rfl h.1 ?_
          replace h := h.2
          refine w_aload_n rfl rfl ?_
          refine w_callV (t' := 3) [] [] rfl s_428 rfl rfl ?_
          refine w_C.more (Q := fun r5 m5 => _) h (fun r5 m5 h => ?_)
          replace h := id h
          refine w_goto rfl ?_
          exact w_W.less h (w_sub [true, true, true, true, true, false] rfl)
theorem xr_m_bit {d : Nat} {l1 l2 : Int} {m : w_M} {Q : Int → w_M → Prop} (h : xp_m_bit_2 d l1 l2 0 m Q) : xc_m_bit (d + 1) l1 l2 m Q := by
  refine w_enter (q := 1) (lv := [some (2, 428), some (0, l1), some (0, l2), none]) rfl rfl rfl ?_
  refine w_iconst rfl (by decide) ?_
  refine w_istore_n (lv' := [some (2, 428), some (0, l1), some (0, l2), some (0, 0)]) rfl rfl rfl ?_
  exact w_W.less h (w_sub [true, true, true, true] rfl)
theorem xr_m_bit_2 {d : Nat} {l1 l2 l3 : Int} {m : w_M} {Q : Int → w_M → Prop} (h : if l3 < l2 then (if (Int.tmod (m 428 116) 8) = 0 then (((0 : Int) ≤ (Int.tdiv (m 428 116) 8) ∧ (Int.tdiv (m 428 116) 8) < 50000) ∧ (xp_m_bit_30 d l1 l2 l3 (w_up m 486 (Int.tdiv (m 428 116) 8) (w_8 0)) Q)) else (xp_m_bit_30 d l1 l2 l3 m Q)) else (Q 0 m)) : xp_m_bit_2 d l1 l2 l3 m Q := by
  refine w_iload_n rfl rfl ?_
  refine w_iload_n rfl rfl ?_
  refine w_icge rfl (w_ite h (fun h => ?_) (fun h => ?_))
  · refine w_aload_n rfl rfl ?_
    refine x_gfI rfl s_428 rfl (kk := 116) rfl rfl ?_
    refine w_bipush rfl (by decide) ?_
    refine w_iremk rfl (by decide) ?_
    refine w_ifne rfl (w_ite h (fun h => ?_) (fun h => ?_))
    · refine w_aload_n rfl rfl ?_
      refine w_gfC (c := 486) rfl s_428 rfl rfl ?_
      refine w_aload_n rfl rfl ?_
      refine x_gfI rfl s_428 rfl (kk := 116) rfl rfl ?_
      refine w_bipush rfl (by decide) ?_
      refine w_idivk rfl (by decide) ?_
      refine w_iconst rfl (by decide) ?_
      refine w_bast rfl s_486 (w_EM (by decide)) (n := 50000) rfl h.1 ?_
      replace h := h.2
      exact w_W.less h (w_sub [true, true, true, true] rfl)
    · exact w_W.less h (w_sub [true, true, true, true] rfl)
  · exact w_vret rfl rfl h
theorem xr_m_bit_30 {d : Nat} {l1 l2 l3 : Int} {m : w_M} {Q : Int → w_M → Prop} (h : ((0 : Int) ≤ (Int.tdiv (m 428 116) 8) ∧ (Int.tdiv (m 428 116) 8) < 50000) ∧ (((0 : Int) ≤ (Int.tdiv (m 428 116) 8) ∧ (Int.tdiv (m 428 116) 8) < 50000) ∧ (xp_m_bit_2 d l1 l2 (w_32 (l3 + 1)) (w_up (w_up m 486 (Int.tdiv (m 428 116) 8) (w_8 (w_8 (w_or (m 486 (Int.tdiv (m 428 116) 8)) (w_shl ((w_shr l1 l3) % 2) (Int.tmod (m 428 116) 8)))))) 428 116 (w_32 ((m 428 116) + 1))) Q))) : xp_m_bit_30 d l1 l2 l3 m Q := by
  refine w_aload_n rfl rfl ?_
  refine w_gfC (c := 486) rfl s_428 rfl rfl ?_
  refine w_aload_n rfl rfl ?_
  refine x_gfI rfl s_428 rfl (kk := 116) rfl rfl ?_
  refine w_bipush rfl (by decide) ?_
  refine w_idivk rfl (by decide) ?_
  refine w_dup2 rfl (show (0 : Nat) ≠ 1 by decide) (show (2 : Nat) ≠ 1 by decide) ?_
  refine w_bald rfl s_486 (n := 50000) rfl h.1 ?_
  replace h := h.2
  refine w_iload_n rfl rfl ?_
  refine w_iload_n rfl rfl ?_
  refine w_ishr rfl ?_
  refine w_iconst rfl (by decide) ?_
  refine w_iandm 1 (c := 2) rfl (by decide) rfl rfl ?_
  refine w_aload_n rfl rfl ?_
  refine x_gfI rfl s_428 rfl (kk := 116) rfl rfl ?_
  refine w_bipush rfl (by decide) ?_
  refine w_iremk rfl (by decide) ?_
  refine w_ishl rfl ?_
  refine w_ior rfl ?_
  refine w_i2b rfl ?_
  refine w_bast rfl s_486 (w_EM (by decide)) (n := 50000) rfl h.1 ?_
  replace h := h.2
  refine w_aload_n rfl rfl ?_
  refine w_dup rfl (show (2 : Nat) ≠ 1 by decide) ?_
  refine x_gfI rfl s_428 rfl (kk := 116) rfl (w_up_ne (by decide)) ?_
  refine w_iconst rfl (by decide) ?_
  refine w_iadd rfl ?_
  refine w_pfI rfl s_428 rfl (w_EM (by decide)) rfl (kk := 116) rfl ?_
  refine w_iinc (lv' := [some (2, 428), some (0, l1), some (0, l2), some (0, w_32 (l3 + 1))]) rfl rfl rfl rfl ?_
  refine w_goto rfl ?_
  exact w_W.less h (w_sub [true, true, true, true] rfl)
theorem xr_m_bits {d : Nat} {l1 : Int} {m : w_M} {Q : Int → w_M → Prop} (h : xp_m_bits_4 d l1 0 0 m Q) : xc_m_bits (d + 1) l1 m Q := by
  refine w_enter (q := 2) (lv := [some (2, 428), some (0, l1), none, none]) rfl rfl rfl ?_
  refine w_iconst rfl (by decide) ?_
  refine w_istore_n (lv' := [some (2, 428), some (0, l1), some (0, 0), none]) rfl rfl rfl ?_
  refine w_iconst rfl (by decide) ?_
  refine w_istore_n (lv' := [some (2, 428), some (0, l1), some (0, 0), some (0, 0)]) rfl rfl rfl ?_
  exact w_W.less h (w_sub [true, true, true, true] rfl)
theorem xr_m_bits_4 {d : Nat} {l1 l2 l3 : Int} {m : w_M} {Q : Int → w_M → Prop} (h : if l3 < l1 then (if (m 428 39) < (w_32 (8 * (m 428 37))) then (((0 : Int) ≤ (Int.tdiv (m 428 39) 8) ∧ (Int.tdiv (m 428 39) 8) < 8200) ∧ (xp_m_bits_4 d l1 (w_or l2 (w_shl ((w_shr (m 442 (Int.tdiv (m 428 39) 8)) (Int.tmod (m 428 39) 8)) % 2) l3)) (w_32 (l3 + 1)) (w_up m 428 39 (w_32 ((m 428 39) + 1))) Q)) else (Q 0 (w_up m 428 40 1))) else (Q l2 m)) : xp_m_bits_4 d l1 l2 l3 m Q := by
  refine w_iload_n rfl rfl ?_
  refine w_iload_n rfl rfl ?_
  refine w_icge rfl (w_ite h (fun h => ?_) (fun h => ?_))
  · refine w_aload_n rfl rfl ?_
    refine x_gfI rfl s_428 rfl (kk := 39) rfl rfl ?_
    refine w_bipush rfl (by decide) ?_
    refine w_aload_n rfl rfl ?_
    refine x_gfI rfl s_428 rfl (kk := 37) rfl rfl ?_
    refine w_imul rfl ?_
    refine w_iclt rfl (w_ite h (fun h => ?_) (fun h => ?_))
    · refine w_iload_n rfl rfl ?_
      refine w_aload_n rfl rfl ?_
      refine w_gfC (c := 442) rfl s_428 rfl rfl ?_
      refine w_aload_n rfl rfl ?_
      refine x_gfI rfl s_428 rfl (kk := 39) rfl rfl ?_
      refine w_bipush rfl (by decide) ?_
      refine w_idivk rfl (by decide) ?_
      refine w_bald rfl s_442 (n := 8200) rfl h.1 ?_
      replace h := h.2
      refine w_aload_n rfl rfl ?_
      refine x_gfI rfl s_428 rfl (kk := 39) rfl rfl ?_
      refine w_bipush rfl (by decide) ?_
      refine w_iremk rfl (by decide) ?_
      refine w_ishr rfl ?_
      refine w_iconst rfl (by decide) ?_
      refine w_iandm 1 (c := 2) rfl (by decide) rfl rfl ?_
      refine w_iload_n rfl rfl ?_
      refine w_ishl rfl ?_
      refine w_ior rfl ?_
      refine w_istore_n (lv' := [some (2, 428), some (0, l1), some (0, w_or l2 (w_shl ((w_shr (m 442 (Int.tdiv (m 428 39) 8)) (Int.tmod (m 428 39) 8)) % 2) l3)), some (0, l3)]) rfl rfl rfl ?_
      refine w_aload_n rfl rfl ?_
      refine w_dup rfl (show (2 : Nat) ≠ 1 by decide) ?_
      refine x_gfI rfl s_428 rfl (kk := 39) rfl rfl ?_
      refine w_iconst rfl (by decide) ?_
      refine w_iadd rfl ?_
      refine w_pfI rfl s_428 rfl (w_EM (by decide)) rfl (kk := 39) rfl ?_
      refine w_iinc (lv' := [some (2, 428), some (0, l1), some (0, w_or l2 (w_shl ((w_shr (m 442 (Int.tdiv (m 428 39) 8)) (Int.tmod (m 428 39) 8)) % 2) l3)), some (0, w_32 (l3 + 1))]) rfl rfl rfl rfl ?_
      refine w_goto rfl ?_
      exact w_W.less h (w_sub [true, true, true, true] rfl)
    · refine w_aload_n rfl rfl ?_
      refine w_iconst rfl (by decide) ?_
      refine w_pfZ rfl s_428 rfl (w_EM (by decide)) rfl (kk := 40) rfl (by decide) ?_
      refine w_iconst rfl (by decide) ?_
      exact w_iret rfl rfl h
  · refine w_iload_n rfl rfl ?_
    exact w_iret rfl rfl h
theorem xr_m_blanks {d : Nat} {m : w_M} {Q : Int → w_M → Prop} (h : xp_m_blanks_0 d  m Q) : xc_m_blanks (d + 1) m Q := by
  refine w_enter (q := 0) (lv := [some (2, 428)]) rfl rfl rfl (w_W.less h (w_sub [true] rfl))
theorem xr_m_blanks_0 {d : Nat} {m : w_M} {Q : Int → w_M → Prop} (h : xc_m_peek d 0 m (fun r1 m1 => xc_m_isBlank d r1 m1 (fun r2 m2 => if r2 = 0 then (Q 0 m2) else (xp_m_blanks_0 d (w_up m2 428 21 (w_32 ((m2 428 21) + 1))) Q)))) : xp_m_blanks_0 d m Q := by
  refine w_aload_n rfl rfl ?_
  refine w_iconst rfl (by decide) ?_
  refine w_callV (t' := 0) [(0, 0)] [] rfl s_428 rfl rfl ?_
  refine w_C.more (Q := fun r1 m1 => _) h (fun r1 m1 h => ?_)
  replace h := id h
  refine w_callS (t' := 0) [(0, r1)] [] rfl (by decide) rfl rfl ?_
  refine w_C.more (Q := fun r2 m2 => _) h (fun r2 m2 h => ?_)
  replace h := id h
  refine w_ifeq rfl (w_ite h (fun h => ?_) (fun h => ?_))
  · exact w_vret rfl rfl h
  · refine w_aload_n rfl rfl ?_
    refine w_dup rfl (show (2 : Nat) ≠ 1 by decide) ?_
    refine x_gfI rfl s_428 rfl (kk := 21) rfl rfl ?_
    refine w_iconst rfl (by decide) ?_
    refine w_iadd rfl ?_
    refine w_pfI rfl s_428 rfl (w_EM (by decide)) rfl (kk := 21) rfl ?_
    refine w_goto rfl ?_
    exact w_W.less h (w_sub [true] rfl)
theorem xr_m_build {d : Nat} {l1 l2 l3 l4 : Int} {m : w_M} {Q : Int → w_M → Prop} (h : xp_m_build_3 d l1 l2 l3 l4 0 m Q) : xc_m_build (d + 1) l1 l2 l3 l4 m Q := by
  refine w_enter (q := 3) (lv := [some (2, 428), some (0, l1), some (0, l2), some (2, l3), some (2, l4), none, none, none]) rfl rfl rfl ?_
  refine w_iconst rfl (by decide) ?_
  refine w_istore (lv' := [some (2, 428), some (0, l1), some (0, l2), some (2, l3), some (2, l4), some (0, 0), none, none]) rfl rfl rfl ?_
  exact w_W.less h (w_sub [true, true, true, true, true, true, false, false] rfl)
theorem xr_m_build_3 {d : Nat} {l1 l2 l3 l4 l5 : Int} {m : w_M} {Q : Int → w_M → Prop} (h : if l5 < 16 then (w_isA 0 l3 ∧ w_wr (w_G0 sM) (Int.toNat l3) ∧ ((0 : Int) ≤ l5 ∧ l5 < w_ln l3) ∧ (xp_m_build_3 d l1 l2 l3 l4 (w_32 (l5 + 1)) (w_up m l3 l5 0) Q)) else (xp_m_build_24 d l1 l2 l3 l4 0 m Q)) : xp_m_build_3 d l1 l2 l3 l4 l5 m Q := by
  refine w_iload rfl rfl ?_
  refine w_bipush rfl (by decide) ?_
  refine w_icge rfl (w_ite h (fun h => ?_) (fun h => ?_))
  · refine w_aload_n rfl rfl ?_
    refine w_iload rfl rfl ?_
    refine w_iconst rfl (by decide) ?_
    refine x_iast rfl h.1 h.2.1 h.2.2.1 ?_
    replace h := h.2.2.2
    refine w_iinc (lv' := [some (2, 428), some (0, l1), some (0, l2), some (2, l3), some (2, l4), some (0, w_32 (l5 + 1)), none, none]) rfl rfl rfl rfl ?_
    refine w_goto rfl ?_
    exact w_W.less h (w_sub [true, true, true, true, true, true, false, false] rfl)
  · refine w_iconst rfl (by decide) ?_
    refine w_istore (lv' := [some (2, 428), some (0, l1), some (0, l2), some (2, l3), some (2, l4), some (0, 0), none, none]) rfl rfl rfl ?_
    exact w_W.less h (w_sub [true, true, true, true, true, true, false, false] rfl)
theorem xr_m_build_24 {d : Nat} {l1 l2 l3 l4 l5 : Int} {m : w_M} {Q : Int → w_M → Prop} (h : if l5 < l2 then (((0 : Int) ≤ (w_32 (l1 + l5)) ∧ (w_32 (l1 + l5)) < 320) ∧ (w_isA 0 l3 ∧ ((0 : Int) ≤ (m 444 (w_32 (l1 + l5))) ∧ (m 444 (w_32 (l1 + l5))) < w_ln l3) ∧ (w_isA 0 l3 ∧ w_wr (w_G0 sM) (Int.toNat l3) ∧ ((0 : Int) ≤ (m 444 (w_32 (l1 + l5))) ∧ (m 444 (w_32 (l1 + l5))) < w_ln l3) ∧ (xp_m_build_24 d l1 l2 l3 l4 (w_32 (l5 + 1)) (w_up m l3 (m 444 (w_32 (l1 + l5))) (w_32 ((m l3 (m 444 (w_32 (l1 + l5)))) + 1))) Q)))) else (xp_m_build_57 d l1 l2 l3 l4 1 1 m Q)) : xp_m_build_24 d l1 l2 l3 l4 l5 m Q := by
  refine w_iload rfl rfl ?_
  refine w_iload_n rfl rfl ?_
  refine w_icge rfl (w_ite h (fun h => ?_) (fun h => ?_))
  · refine w_aload_n rfl rfl ?_
    refine w_aload_n rfl rfl ?_
    refine w_gfC (c := 444) rfl s_428 rfl rfl ?_
    refine w_iload_n rfl rfl ?_
    refine w_iload rfl rfl ?_
    refine w_iadd rfl ?_
    refine w_iald rfl s_444 (n := 320) rfl h.1 ?_
    replace h := h.2
    refine w_dup2 rfl (show (0 : Nat) ≠ 1 by decide) (show (2 : Nat) ≠ 1 by decide) ?_
    refine x_iald rfl h.1 h.2.1 ?_
    replace h := h.2.2
    refine w_iconst rfl (by decide) ?_
    refine w_iadd rfl ?_
    refine x_iast rfl h.1 h.2.1 h.2.2.1 ?_
    replace h := h.2.2.2
    refine w_iinc (lv' := [some (2, 428), some (0, l1), some (0, l2), some (2, l3), some (2, l4), some (0, w_32 (l5 + 1)), none, none]) rfl rfl rfl rfl ?_
    refine w_goto rfl ?_
    exact w_W.less h (w_sub [true, true, true, true, true, true, false, false] rfl)
  · refine w_iconst rfl (by decide) ?_
    refine w_istore (lv' := [some (2, 428), some (0, l1), some (0, l2), some (2, l3), some (2, l4), some (0, 1), none, none]) rfl rfl rfl ?_
    refine w_iconst rfl (by decide) ?_
    refine w_istore (lv' := [some (2, 428), some (0, l1), some (0, l2), some (2, l3), some (2, l4), some (0, 1), some (0, 1), none]) rfl rfl rfl ?_
    exact w_W.less h (w_sub [true, true, true, true, true, true, true, false] rfl)
theorem xr_m_build_57 {d : Nat} {l1 l2 l3 l4 l5 l6 : Int} {m : w_M} {Q : Int → w_M → Prop} (h : if l6 < 16 then (w_isA 0 l3 ∧ ((0 : Int) ≤ l6 ∧ l6 < w_ln l3) ∧ (if (w_32 ((w_32 (2 * l5)) - (m l3 l6))) < 0 then (Q (w_32 ((w_32 (2 * l5)) - (m l3 l6))) m) else (xp_m_build_57 d l1 l2 l3 l4 (w_32 ((w_32 (2 * l5)) - (m l3 l6))) (w_32 (l6 + 1)) m Q))) else (xp_m_build_99 d l1 l2 l3 l4 l5 1 (w_up m 449 1 0) Q)) : xp_m_build_57 d l1 l2 l3 l4 l5 l6 m Q := by
  refine w_iload rfl rfl ?_
  refine w_bipush rfl (by decide) ?_
  refine w_icge rfl (w_ite h (fun h => ?_) (fun h => ?_))
  · refine w_iconst rfl (by decide) ?_
    refine w_iload rfl rfl ?_
    refine w_imul rfl ?_
    refine w_aload_n rfl rfl ?_
    refine w_iload rfl rfl ?_
    refine x_iald rfl h.1 h.2.1 ?_
    replace h := h.2.2
    refine w_isub rfl ?_
    refine w_istore (lv' := [some (2, 428), some (0, l1), some (0, l2), some (2, l3), some (2, l4), some (0, w_32 ((w_32 (2 * l5)) - (m l3 l6))), some (0, l6), none]) rfl rfl rfl ?_
    refine w_iload rfl rfl ?_
    refine w_ifge rfl (w_ite h (fun h => ?_) (fun h => ?_))
    · refine w_iload rfl rfl ?_
      exact w_iret rfl rfl h
    · refine w_iinc (lv' := [some (2, 428), some (0, l1), some (0, l2), some (2, l3), some (2, l4), some (0, w_32 ((w_32 (2 * l5)) - (m l3 l6))), some (0, w_32 (l6 + 1)), none]) rfl rfl rfl rfl ?_
      refine w_goto rfl ?_
      exact w_W.less h (w_sub [true, true, true, true, true, true, true, false] rfl)
  · refine w_aload_n rfl rfl ?_
    refine w_gfC (c := 449) rfl s_428 rfl rfl ?_
    refine w_iconst rfl (by decide) ?_
    refine w_iconst rfl (by decide) ?_
    refine w_iast rfl s_449 (w_EM (by decide)) (n := 16) rfl (by decide) ?_
    refine w_iconst rfl (by decide) ?_
    refine w_istore (lv' := [some (2, 428), some (0, l1), some (0, l2), some (2, l3), some (2, l4), some (0, l5), some (0, 1), none]) rfl rfl rfl ?_
    exact w_W.less h (w_sub [true, true, true, true, true, true, true, false] rfl)
theorem xr_m_build_99 {d : Nat} {l1 l2 l3 l4 l5 l6 : Int} {m : w_M} {Q : Int → w_M → Prop} (h : if l6 < 15 then (((0 : Int) ≤ l6 ∧ l6 < 16) ∧ (w_isA 0 l3 ∧ ((0 : Int) ≤ l6 ∧ l6 < w_ln l3) ∧ (((0 : Int) ≤ (w_32 (l6 + 1)) ∧ (w_32 (l6 + 1)) < 16) ∧ (xp_m_build_99 d l1 l2 l3 l4 l5 (w_32 (l6 + 1)) (w_up m 449 (w_32 (l6 + 1)) (w_32 ((m 449 l6) + (m l3 l6)))) Q)))) else (xp_m_build_136 d l1 l2 l4 l5 0 m Q)) : xp_m_build_99 d l1 l2 l3 l4 l5 l6 m Q := by
  refine w_iload rfl rfl ?_
  refine w_bipush rfl (by decide) ?_
  refine w_icge rfl (w_ite h (fun h => ?_) (fun h => ?_))
  · refine w_aload_n rfl rfl ?_
    refine w_gfC (c := 449) rfl s_428 rfl rfl ?_
    refine w_iload rfl rfl ?_
    refine w_iconst rfl (by decide) ?_
    refine w_iadd rfl ?_
    refine w_aload_n rfl rfl ?_
    refine w_gfC (c := 449) rfl s_428 rfl rfl ?_
    refine w_iload rfl rfl ?_
    refine w_iald rfl s_449 (n := 16) rfl h.1 ?_
    replace h := h.2
    refine w_aload_n rfl rfl ?_
    refine w_iload rfl rfl ?_
    refine x_iald rfl h.1 h.2.1 ?_
    replace h := h.2.2
    refine w_iadd rfl ?_
    refine w_iast rfl s_449 (w_EM (by decide)) (n := 16) rfl h.1 ?_
    replace h := h.2
    refine w_iinc (lv' := [some (2, 428), some (0, l1), some (0, l2), some (2, l3), some (2, l4), some (0, l5), some (0, w_32 (l6 + 1)), none]) rfl rfl rfl rfl ?_
    refine w_goto rfl ?_
    exact w_W.less h (w_sub [true, true, true, true, true, true, true, false] rfl)
  · refine w_iconst rfl (by decide) ?_
    refine w_istore (lv' := [some (2, 428), some (0, l1), some (0, l2), some (2, l3), some (2, l4), some (0, l5), some (0, 0), none]) rfl rfl rfl ?_
    exact w_W.less h (w_sub [true, true, true, false, true, true, true, false] rfl)
theorem xr_m_build_136 {d : Nat} {l1 l2 l4 l5 l6 : Int} {m : w_M} {Q : Int → w_M → Prop} (h : if l6 < l2 then (((0 : Int) ≤ (w_32 (l1 + l6)) ∧ (w_32 (l1 + l6)) < 320) ∧ (if 0 < (m 444 (w_32 (l1 + l6))) then (((0 : Int) ≤ (m 444 (w_32 (l1 + l6))) ∧ (m 444 (w_32 (l1 + l6))) < 16) ∧ (w_isA 0 l4 ∧ w_wr (w_G0 sM) (Int.toNat l4) ∧ ((0 : Int) ≤ (m 449 (m 444 (w_32 (l1 + l6)))) ∧ (m 449 (m 444 (w_32 (l1 + l6)))) < w_ln l4) ∧ (((0 : Int) ≤ (m 444 (w_32 (l1 + l6))) ∧ (m 444 (w_32 (l1 + l6))) < 16) ∧ (((0 : Int) ≤ (m 444 (w_32 (l1 + l6))) ∧ (m 444 (w_32 (l1 + l6))) < 16) ∧ (xp_m_build_136 d l1 l2 l4 l5 (w_32 (l6 + 1)) (w_up (w_up m l4 (m 449 (m 444 (w_32 (l1 + l6)))) l6) 449 (m 444 (w_32 (l1 + l6))) (w_32 (((w_up m l4 (m 449 (m 444 (w_32 (l1 + l6)))) l6) 449 (m 444 (w_32 (l1 + l6)))) + 1))) Q))))) else (xp_m_build_136 d l1 l2 l4 l5 (w_32 (l6 + 1)) m Q))) else (Q l5 m)) : xp_m_build_136 d l1 l2 l4 l5 l6 m Q := by
  refine w_iload rfl rfl ?_
  refine w_iload_n rfl rfl ?_
  refine w_icge rfl (w_ite h (fun h => ?_) (fun h => ?_))
  · refine w_aload_n rfl rfl ?_
    refine w_gfC (c := 444) rfl s_428 rfl rfl ?_
    refine w_iload_n rfl rfl ?_
    refine w_iload rfl rfl ?_
    refine w_iadd rfl ?_
    refine w_iald rfl s_444 (n := 320) rfl h.1 ?_
    replace h := h.2
    refine w_istore (lv' := [some (2, 428), some (0, l1), some (0, l2), none, some (2, l4), some (0, l5), some (0, l6), some (0, m 444 (w_32 (l1 + l6)))]) rfl rfl rfl ?_
    refine w_iload rfl rfl ?_
    refine w_ifle rfl (w_ite h (fun h => ?_) (fun h => ?_))
    · refine w_aload rfl rfl ?_
      refine w_aload_n rfl rfl ?_
      refine w_gfC (c := 449) rfl s_428 rfl rfl ?_
      refine w_iload rfl rfl ?_
      refine w_iald rfl s_449 (n := 16) rfl h.1 ?_
      replace h := h.2
      refine w_iload rfl rfl ?_
      refine x_iast rfl h.1 h.2.1 h.2.2.1 ?_
      replace h := h.2.2.2
      refine w_aload_n rfl rfl ?_
      refine w_gfC (c := 449) rfl s_428 rfl rfl ?_
      refine w_iload rfl rfl ?_
      refine w_dup2 rfl (show (0 : Nat) ≠ 1 by decide) (show (2 : Nat) ≠ 1 by decide) ?_
      refine w_iald rfl s_449 (n := 16) rfl h.1 ?_
      replace h := h.2
      refine w_iconst rfl (by decide) ?_
      refine w_iadd rfl ?_
      refine w_iast rfl s_449 (w_EM (by decide)) (n := 16) rfl h.1 ?_
      replace h := h.2
      refine w_iinc (lv' := [some (2, 428), some (0, l1), some (0, l2), none, some (2, l4), some (0, l5), some (0, w_32 (l6 + 1)), some (0, m 444 (w_32 (l1 + l6)))]) rfl rfl rfl rfl ?_
      refine w_goto rfl ?_
      exact w_W.less h (w_sub [true, true, true, false, true, true, true, false] rfl)
    · refine w_iinc (lv' := [some (2, 428), some (0, l1), some (0, l2), none, some (2, l4), some (0, l5), some (0, w_32 (l6 + 1)), some (0, m 444 (w_32 (l1 + l6)))]) rfl rfl rfl rfl ?_
      refine w_goto rfl ?_
      exact w_W.less h (w_sub [true, true, true, false, true, true, true, false] rfl)
  · refine w_iload rfl rfl ?_
    exact w_iret rfl rfl h
theorem xr_m_byteHere {d : Nat} {l1 : Int} {m : w_M} {Q : Int → w_M → Prop} (h : if l1 < (m 428 3) then (((0 : Int) ≤ l1 ∧ l1 < 8000) ∧ (Q ((m 430 l1) % 256) m)) else (Q (-1) m)) : xc_m_byteHere (d + 1) l1 m Q := by
  refine w_enter (q := 0) (lv := [some (2, 428), some (0, l1)]) rfl rfl rfl ?_
  refine w_iload_n rfl rfl ?_
  refine w_aload_n rfl rfl ?_
  refine x_gfI rfl s_428 rfl (kk := 3) rfl rfl ?_
  refine w_icge rfl (w_ite h (fun h => ?_) (fun h => ?_))
  · refine w_aload_n rfl rfl ?_
    refine w_gfC (c := 430) rfl s_428 rfl rfl ?_
    refine w_iload_n rfl rfl ?_
    refine w_bald rfl s_430 (n := 8000) rfl h.1 ?_
    replace h := h.2
    refine w_sipush rfl (by decide) ?_
    refine w_iandm 8 (c := 256) rfl (by decide) rfl rfl ?_
    refine w_goto rfl ?_
    exact w_iret rfl rfl h
  · refine w_iconst rfl (by decide) ?_
    exact w_iret rfl rfl h
theorem xr_m_chainAt {d : Nat} {l0 l1 : Int} {m : w_M} {Q : Int → w_M → Prop} (h : w_isA 1 l0 ∧ ((0 : Int) ≤ l1 ∧ l1 < w_ln l0) ∧ (w_isA 1 l0 ∧ ((0 : Int) ≤ (w_32 (l1 + 1)) ∧ (w_32 (l1 + 1)) < w_ln l0) ∧ (w_isA 1 l0 ∧ ((0 : Int) ≤ (w_32 (l1 + 2)) ∧ (w_32 (l1 + 2)) < w_ln l0) ∧ (Q ((w_32 ((w_32 ((w_32 (((m l0 l1) % 256) * 271)) + (w_32 (((m l0 (w_32 (l1 + 1))) % 256) * 31)))) + ((m l0 (w_32 (l1 + 2))) % 256))) % 4096) m)))) : xc_m_chainAt (d + 1) l0 l1 m Q := by
  refine w_enter (q := 0) (lv := [some (2, l0), some (0, l1)]) rfl rfl rfl ?_
  refine w_aload_n rfl rfl ?_
  refine w_iload_n rfl rfl ?_
  refine x_bald rfl h.1 h.2.1 ?_
  replace h := h.2.2
  refine w_sipush rfl (by decide) ?_
  refine w_iandm 8 (c := 256) rfl (by decide) rfl rfl ?_
  refine w_sipush rfl (by decide) ?_
  refine w_imul rfl ?_
  refine w_aload_n rfl rfl ?_
  refine w_iload_n rfl rfl ?_
  refine w_iconst rfl (by decide) ?_
  refine w_iadd rfl ?_
  refine x_bald rfl h.1 h.2.1 ?_
  replace h := h.2.2
  refine w_sipush rfl (by decide) ?_
  refine w_iandm 8 (c := 256) rfl (by decide) rfl rfl ?_
  refine w_bipush rfl (by decide) ?_
  refine w_imul rfl ?_
  refine w_iadd rfl ?_
  refine w_aload_n rfl rfl ?_
  refine w_iload_n rfl rfl ?_
  refine w_iconst rfl (by decide) ?_
  refine w_iadd rfl ?_
  refine x_bald rfl h.1 h.2.1 ?_
  replace h := h.2.2
  refine w_sipush rfl (by decide) ?_
  refine w_iandm 8 (c := 256) rfl (by decide) rfl rfl ?_
  refine w_iadd rfl ?_
  refine w_sipush rfl (by decide) ?_
  refine w_iandm 12 (c := 4096) rfl (by decide) rfl rfl ?_
  exact w_iret rfl rfl h
theorem xr_m_changed {d : Nat} {l1 : Int} {m : w_M} {Q : Int → w_M → Prop} (h : ((0 : Int) ≤ l1 ∧ l1 < 200) ∧ (Q 0 (w_up m 460 l1 1))) : xc_m_changed (d + 1) l1 m Q := by
  refine w_enter (q := 0) (lv := [some (2, 428), some (0, l1)]) rfl rfl rfl ?_
  refine w_aload_n rfl rfl ?_
  refine w_gfC (c := 460) rfl s_428 rfl rfl ?_
  refine w_iload_n rfl rfl ?_
  refine w_iconst rfl (by decide) ?_
  refine w_zast rfl s_460 (w_EM (by decide)) (n := 200) rfl h.1 (by decide) ?_
  replace h := h.2
  exact w_vret rfl rfl h
theorem xr_m_codeOf {d : Nat} {l1 l2 l3 : Int} {m : w_M} {Q : Int → w_M → Prop} (h : xp_m_codeOf_3 d l1 l2 l3 0 m Q) : xc_m_codeOf (d + 1) l1 l2 l3 m Q := by
  refine w_enter (q := 8) (lv := [some (2, 428), some (2, l1), some (0, l2), some (0, l3), none, none, none, none, none, none, none, none]) rfl rfl rfl ?_
  refine w_iconst rfl (by decide) ?_
  refine w_istore (lv' := [some (2, 428), some (2, l1), some (0, l2), some (0, l3), some (0, 0), none, none, none, none, none, none, none]) rfl rfl rfl ?_
  exact w_W.less h (w_sub [true, true, true, true, true, false, false, false, false, false, false, false] rfl)
theorem xr_m_codeOf_3 {d : Nat} {l1 l2 l3 l4 : Int} {m : w_M} {Q : Int → w_M → Prop} (h : if l4 < 4096 then (((0 : Int) ≤ l4 ∧ l4 < 4096) ∧ (xp_m_codeOf_3 d l1 l2 l3 (w_32 (l4 + 1)) (w_up m 487 l4 0) Q)) else (xc_m_bit d 1 1 (w_up (w_up (w_up (w_up (w_up (w_up m 428 115 0) 428 116 0) 486 0 (w_8 120)) 486 1 (w_8 (-100))) 428 115 2) 428 116 16) (fun r1 m1 => xc_m_bit d 1 2 m1 (fun r2 m2 => xp_m_codeOf_77 d l1 l2 l3 0 m2 Q)))) : xp_m_codeOf_3 d l1 l2 l3 l4 m Q := by
  refine w_iload rfl rfl ?_
  refine w_sipush rfl (by decide) ?_
  refine w_icge rfl (w_ite h (fun h => ?_) (fun h => ?_))
  · refine w_aload_n rfl rfl ?_
    refine w_gfC (c := 487) rfl s_428 rfl rfl ?_
    refine w_iload rfl rfl ?_
    refine w_iconst rfl (by decide) ?_
    refine w_iast rfl s_487 (w_EM (by decide)) (n := 4096) rfl h.1 ?_
    replace h := h.2
    refine w_iinc (lv' := [some (2, 428), some (2, l1), some (0, l2), some (0, l3), some (0, w_32 (l4 + 1)), none, none, none, none, none, none, none]) rfl rfl rfl rfl ?_
    refine w_goto rfl ?_
    exact w_W.less h (w_sub [true, true, true, true, true, false, false, false, false, false, false, false] rfl)
  · refine w_aload_n rfl rfl ?_
    refine w_iconst rfl (by decide) ?_
    refine w_pfI rfl s_428 rfl (w_EM (by decide)) rfl (kk := 115) rfl ?_
    refine w_aload_n rfl rfl ?_
    refine w_iconst rfl (by decide) ?_
    refine w_pfI rfl s_428 rfl (w_EM (by decide)) rfl (kk := 116) rfl ?_
    refine w_aload_n rfl rfl ?_
    refine w_gfC (c := 486) rfl s_428 rfl rfl ?_
    refine w_iconst rfl (by decide) ?_
    refine w_bipush rfl (by decide) ?_
    refine w_bast rfl s_486 (w_EM (by decide)) (n := 50000) rfl (by decide) ?_
    refine w_aload_n rfl rfl ?_
    refine w_gfC (c := 486) rfl s_428 rfl rfl ?_
    refine w_iconst rfl (by decide) ?_
    refine w_bipush rfl (by decide) ?_
    refine w_bast rfl s_486 (w_EM (by decide)) (n := 50000) rfl (by decide) ?_
    refine w_aload_n rfl rfl ?_
    refine w_iconst rfl (by decide) ?_
    refine w_pfI rfl s_428 rfl (w_EM (by decide)) rfl (kk := 115) rfl ?_
    refine w_aload_n rfl rfl ?_
    refine w_bipush rfl (by decide) ?_
    refine w_pfI rfl s_428 rfl (w_EM (by decide)) rfl (kk := 116) rfl ?_
    refine w_aload_n rfl rfl ?_
    refine w_iconst rfl (by decide) ?_
    refine w_iconst rfl (by decide) ?_
    refine w_callV (t' := 3) [(0, 1), (0, 1)] [] rfl s_428 rfl rfl ?_
    refine w_C.more (Q := fun r1 m1 => _) h (fun r1 m1 h => ?_)
    replace h := id h
    refine w_aload_n rfl rfl ?_
    refine w_iconst rfl (by decide) ?_
    refine w_iconst rfl (by decide) ?_
    refine w_callV (t' := 3) [(0, 2), (0, 1)] [] rfl s_428 rfl rfl ?_
    refine w_C.more (Q := fun r2 m2 => _) h (fun r2 m2 h => ?_)
    replace h := id h
    refine w_iconst rfl (by decide) ?_
    refine w_istore (lv' := [some (2, 428), some (2, l1), some (0, l2), some (0, l3), some (0, 0), none, none, none, none, none, none, none]) rfl rfl rfl ?_
    exact w_W.less h (w_sub [true, true, true, true, true, false, false, false, false, false, false, false] rfl)
theorem xr_m_codeOf_77 {d : Nat} {l1 l2 l3 l4 : Int} {m : w_M} {Q : Int → w_M → Prop} (h : if l4 < l3 then (if (w_32 (l3 - l4)) < 258 then (if (w_32 (l3 - l4)) < 3 then (xp_m_codeOf_138 d l1 l2 l3 l4 0 0 (w_32 (l3 - l4)) (-1) m Q) else (xc_m_chainAt d l1 (w_32 (l2 + l4)) m (fun r1 m1 => ((0 : Int) ≤ r1 ∧ r1 < 4096) ∧ (xp_m_codeOf_138 d l1 l2 l3 l4 0 0 (w_32 (l3 - l4)) (w_32 ((m1 487 r1) - 1)) m1 Q)))) else (xc_m_chainAt d l1 (w_32 (l2 + l4)) m (fun r2 m2 => ((0 : Int) ≤ r2 ∧ r2 < 4096) ∧ (xp_m_codeOf_138 d l1 l2 l3 l4 0 0 258 (w_32 ((m2 487 r2) - 1)) m2 Q)))) else (xc_m_literal d 256 m (fun r3 m3 => xp_m_codeOf_402 d l1 l2 l3 1 0 0 m3 Q))) : xp_m_codeOf_77 d l1 l2 l3 l4 m Q := by
  refine w_iload rfl rfl ?_
  refine w_iload_n rfl rfl ?_
  refine w_icge rfl (w_ite h (fun h => ?_) (fun h => ?_))
  · refine w_iconst rfl (by decide) ?_
    refine w_istore (lv' := [some (2, 428), some (2, l1), some (0, l2), some (0, l3), some (0, l4), some (0, 0), none, none, none, none, none, none]) rfl rfl rfl ?_
    refine w_iconst rfl (by decide) ?_
    refine w_istore (lv' := [some (2, 428), some (2, l1), some (0, l2), some (0, l3), some (0, l4), some (0, 0), some (0, 0), none, none, none, none, none]) rfl rfl rfl ?_
    refine w_iload_n rfl rfl ?_
    refine w_iload rfl rfl ?_
    refine w_isub rfl ?_
    refine w_sipush rfl (by decide) ?_
    refine w_icge rfl (w_ite h (fun h => ?_) (fun h => ?_))
    · refine w_iload_n rfl rfl ?_
      refine w_iload rfl rfl ?_
      refine w_isub rfl ?_
      refine w_goto rfl ?_
      refine w_istore (lv' := [some (2, 428), some (2, l1), some (0, l2), some (0, l3), some (0, l4), some (0, 0), some (0, 0), some (0, w_32 (l3 - l4)), none, none, none, none]) rfl rfl rfl ?_
      refine w_iload rfl rfl ?_
      refine w_iconst rfl (by decide) ?_
      refine w_icge rfl (w_ite h (fun h => ?_) (fun h => ?_))
      · refine w_iconst rfl (by decide) ?_
        refine w_goto rfl ?_
        refine w_istore (lv' := [some (2, 428), some (2, l1), some (0, l2), some (0, l3), some (0, l4), some (0, 0), some (0, 0), some (0, w_32 (l3 - l4)), some (0, (-1)), none, none, none]) rfl rfl rfl ?_
        exact w_W.less h (w_sub [true, true, true, true, true, true, true, true, true, false, false, false] rfl)
      · refine w_aload_n rfl rfl ?_
        refine w_gfC (c := 487) rfl s_428 rfl rfl ?_
        refine w_aload_n rfl rfl ?_
        refine w_iload_n rfl rfl ?_
        refine w_iload rfl rfl ?_
        refine w_iadd rfl ?_
        refine w_callS (t' := 0) [(0, w_32 (l2 + l4)), (2, l1)] [(2, 487)] rfl (by decide) rfl rfl ?_
        refine w_C.more (Q := fun r1 m1 => _) h (fun r1 m1 h => ?_)
        replace h := id h
        refine w_iald rfl s_487 (n := 4096) rfl h.1 ?_
        replace h := h.2
        refine w_iconst rfl (by decide) ?_
        refine w_isub rfl ?_
        refine w_istore (lv' := [some (2, 428), some (2, l1), some (0, l2), some (0, l3), some (0, l4), some (0, 0), some (0, 0), some (0, w_32 (l3 - l4)), some (0, w_32 ((m1 487 r1) - 1)), none, none, none]) rfl rfl rfl ?_
        exact w_W.less h (w_sub [true, true, true, true, true, true, true, true, true, false, false, false] rfl)
    · refine w_sipush rfl (by decide) ?_
      refine w_istore (lv' := [some (2, 428), some (2, l1), some (0, l2), some (0, l3), some (0, l4), some (0, 0), some (0, 0), some (0, 258), none, none, none, none]) rfl rfl rfl ?_
      refine w_iload rfl rfl ?_
      refine w_iconst rfl (by decide) ?_
      refine w_icge rfl (w_iff (by decide) ?_)
      refine w_aload_n rfl rfl ?_
      refine w_gfC (c := 487) rfl s_428 rfl rfl ?_
      refine w_aload_n rfl rfl ?_
      refine w_iload_n rfl rfl ?_
      refine w_iload rfl rfl ?_
      refine w_iadd rfl ?_
      refine w_callS (t' := 0) [(0, w_32 (l2 + l4)), (2, l1)] [(2, 487)] rfl (by decide) rfl rfl ?_
      refine w_C.more (Q := fun r2 m2 => _) h (fun r2 m2 h => ?_)
      replace h := id h
      refine w_iald rfl s_487 (n := 4096) rfl h.1 ?_
      replace h := h.2
      refine w_iconst rfl (by decide) ?_
      refine w_isub rfl ?_
      refine w_istore (lv' := [some (2, 428), some (2, l1), some (0, l2), some (0, l3), some (0, l4), some (0, 0), some (0, 0), some (0, 258), some (0, w_32 ((m2 487 r2) - 1)), none, none, none]) rfl rfl rfl ?_
      exact w_W.less h (w_sub [true, true, true, true, true, true, true, true, true, false, false, false] rfl)
  · refine w_aload_n rfl rfl ?_
    refine w_sipush rfl (by decide) ?_
    refine w_callV (t' := 3) [(0, 256)] [] rfl s_428 rfl rfl ?_
    refine w_C.more (Q := fun r3 m3 => _) h (fun r3 m3 h => ?_)
    replace h := id h
    refine w_iconst rfl (by decide) ?_
    refine w_istore (lv' := [some (2, 428), some (2, l1), some (0, l2), some (0, l3), some (0, l4), some (0, 1), none, none, none, none, none, none]) rfl rfl rfl ?_
    refine w_iconst rfl (by decide) ?_
    refine w_istore (lv' := [some (2, 428), some (2, l1), some (0, l2), some (0, l3), some (0, l4), some (0, 1), some (0, 0), none, none, none, none, none]) rfl rfl rfl ?_
    refine w_iconst rfl (by decide) ?_
    refine w_istore (lv' := [some (2, 428), some (2, l1), some (0, l2), some (0, l3), some (0, l4), some (0, 1), some (0, 0), some (0, 0), none, none, none, none]) rfl rfl rfl ?_
    exact w_W.less h (w_sub [true, true, true, true, false, true, true, true, false, false, false, false] rfl)
theorem xr_m_codeOf_138 {d : Nat} {l1 l2 l3 l4 l5 l6 l7 l8 : Int} {m : w_M} {Q : Int → w_M → Prop} (h : if l8 < 0 then (if l5 < 3 then (xp_m_codeOf_280 d l1 l2 l3 l4 l5 l6 1 m Q) else (xp_m_codeOf_280 d l1 l2 l3 l4 l5 l6 l5 m Q)) else (if 2000 < (w_32 (l4 - l8)) then (if l5 < 3 then (xp_m_codeOf_280 d l1 l2 l3 l4 l5 l6 1 m Q) else (xp_m_codeOf_280 d l1 l2 l3 l4 l5 l6 l5 m Q)) else (if l5 < l7 then (w_isA 1 l1 ∧ ((0 : Int) ≤ (w_32 ((w_32 (l2 + l8)) + l5)) ∧ (w_32 ((w_32 (l2 + l8)) + l5)) < w_ln l1) ∧ (w_isA 1 l1 ∧ ((0 : Int) ≤ (w_32 ((w_32 (l2 + l4)) + l5)) ∧ (w_32 ((w_32 (l2 + l4)) + l5)) < w_ln l1) ∧ (if (m l1 (w_32 ((w_32 (l2 + l8)) + l5))) = (m l1 (w_32 ((w_32 (l2 + l4)) + l5))) then (xp_m_codeOf_185 d l1 l2 l3 l4 l5 l6 l7 l8 0 m Q) else (((0 : Int) ≤ l8 ∧ l8 < 57000) ∧ (xp_m_codeOf_138 d l1 l2 l3 l4 l5 l6 l7 (w_32 ((m 488 l8) - 1)) m Q))))) else (if l5 < 3 then (xp_m_codeOf_280 d l1 l2 l3 l4 l5 l6 1 m Q) else (xp_m_codeOf_280 d l1 l2 l3 l4 l5 l6 l5 m Q))))) : xp_m_codeOf_138 d l1 l2 l3 l4 l5 l6 l7 l8 m Q := by
  refine w_iload rfl rfl ?_
  refine w_iflt rfl (w_ite h (fun h => ?_) (fun h => ?_))
  · refine w_iload rfl rfl ?_
    refine w_iconst rfl (by decide) ?_
    refine w_iclt rfl (w_ite h (fun h => ?_) (fun h => ?_))
    · refine w_iconst rfl (by decide) ?_
      exact w_W.less h (w_sub [true, true, true, true, true, true, true, false, false, false, false, false] rfl)
    · refine w_iload rfl rfl ?_
      refine w_goto rfl ?_
      exact w_W.less h (w_sub [true, true, true, true, true, true, true, false, false, false, false, false] rfl)
  · refine w_iload rfl rfl ?_
    refine w_iload rfl rfl ?_
    refine w_isub rfl ?_
    refine w_sipush rfl (by decide) ?_
    refine w_icgt rfl (w_ite h (fun h => ?_) (fun h => ?_))
    · refine w_iload rfl rfl ?_
      refine w_iconst rfl (by decide) ?_
      refine w_iclt rfl (w_ite h (fun h => ?_) (fun h => ?_))
      · refine w_iconst rfl (by decide) ?_
        exact w_W.less h (w_sub [true, true, true, true, true, true, true, false, false, false, false, false] rfl)
      · refine w_iload rfl rfl ?_
        refine w_goto rfl ?_
        exact w_W.less h (w_sub [true, true, true, true, true, true, true, false, false, false, false, false] rfl)
    · refine w_iload rfl rfl ?_
      refine w_iload rfl rfl ?_
      refine w_icge rfl (w_ite h (fun h => ?_) (fun h => ?_))
      · refine w_aload_n rfl rfl ?_
        refine w_iload_n rfl rfl ?_
        refine w_iload rfl rfl ?_
        refine w_iadd rfl ?_
        refine w_iload rfl rfl ?_
        refine w_iadd rfl ?_
        refine x_bald rfl h.1 h.2.1 ?_
        replace h := h.2.2
        refine w_aload_n rfl rfl ?_
        refine w_iload_n rfl rfl ?_
        refine w_iload rfl rfl ?_
        refine w_iadd rfl ?_
        refine w_iload rfl rfl ?_
        refine w_iadd rfl ?_
        refine x_bald rfl h.1 h.2.1 ?_
        replace h := h.2.2
        refine w_icne rfl (w_ite h (fun h => ?_) (fun h => ?_))
        · refine w_iconst rfl (by decide) ?_
          refine w_istore (lv' := [some (2, 428), some (2, l1), some (0, l2), some (0, l3), some (0, l4), some (0, l5), some (0, l6), some (0, l7), some (0, l8), some (0, 0), none, none]) rfl rfl rfl ?_
          exact w_W.less h (w_sub [true, true, true, true, true, true, true, true, true, true, false, false] rfl)
        · refine w_aload_n rfl rfl ?_
          refine w_gfC (c := 488) rfl s_428 rfl rfl ?_
          refine w_iload rfl rfl ?_
          refine w_iald rfl s_488 (n := 57000) rfl h.1 ?_
          replace h := h.2
          refine w_iconst rfl (by decide) ?_
          refine w_isub rfl ?_
          refine w_istore (lv' := [some (2, 428), some (2, l1), some (0, l2), some (0, l3), some (0, l4), some (0, l5), some (0, l6), some (0, l7), some (0, w_32 ((m 488 l8) - 1)), none, none, none]) rfl rfl rfl ?_
          refine w_goto rfl ?_
          exact w_W.less h (w_sub [true, true, true, true, true, true, true, true, true, false, false, false] rfl)
      · refine w_iload rfl rfl ?_
        refine w_iconst rfl (by decide) ?_
        refine w_iclt rfl (w_ite h (fun h => ?_) (fun h => ?_))
        · refine w_iconst rfl (by decide) ?_
          exact w_W.less h (w_sub [true, true, true, true, true, true, true, false, false, false, false, false] rfl)
        · refine w_iload rfl rfl ?_
          refine w_goto rfl ?_
          exact w_W.less h (w_sub [true, true, true, true, true, true, true, false, false, false, false, false] rfl)
theorem xr_m_codeOf_185 {d : Nat} {l1 l2 l3 l4 l5 l6 l7 l8 l9 : Int} {m : w_M} {Q : Int → w_M → Prop} (h : if l9 < l7 then (w_isA 1 l1 ∧ ((0 : Int) ≤ (w_32 ((w_32 (l2 + l8)) + l9)) ∧ (w_32 ((w_32 (l2 + l8)) + l9)) < w_ln l1) ∧ (w_isA 1 l1 ∧ ((0 : Int) ≤ (w_32 ((w_32 (l2 + l4)) + l9)) ∧ (w_32 ((w_32 (l2 + l4)) + l9)) < w_ln l1) ∧ (if (m l1 (w_32 ((w_32 (l2 + l8)) + l9))) = (m l1 (w_32 ((w_32 (l2 + l4)) + l9))) then (xp_m_codeOf_185 d l1 l2 l3 l4 l5 l6 l7 l8 (w_32 (l9 + 1)) m Q) else (if l5 < l9 then (xp_m_codeOf_236 d l1 l2 l3 l4 l5 l7 l8 l9 (w_32 (l4 - l8)) m Q) else (xp_m_codeOf_236 d l1 l2 l3 l4 l5 l7 l8 l9 l6 m Q))))) else (if l5 < l9 then (xp_m_codeOf_236 d l1 l2 l3 l4 l5 l7 l8 l9 (w_32 (l4 - l8)) m Q) else (xp_m_codeOf_236 d l1 l2 l3 l4 l5 l7 l8 l9 l6 m Q))) : xp_m_codeOf_185 d l1 l2 l3 l4 l5 l6 l7 l8 l9 m Q := by
  refine w_iload rfl rfl ?_
  refine w_iload rfl rfl ?_
  refine w_icge rfl (w_ite h (fun h => ?_) (fun h => ?_))
  · refine w_aload_n rfl rfl ?_
    refine w_iload_n rfl rfl ?_
    refine w_iload rfl rfl ?_
    refine w_iadd rfl ?_
    refine w_iload rfl rfl ?_
    refine w_iadd rfl ?_
    refine x_bald rfl h.1 h.2.1 ?_
    replace h := h.2.2
    refine w_aload_n rfl rfl ?_
    refine w_iload_n rfl rfl ?_
    refine w_iload rfl rfl ?_
    refine w_iadd rfl ?_
    refine w_iload rfl rfl ?_
    refine w_iadd rfl ?_
    refine x_bald rfl h.1 h.2.1 ?_
    replace h := h.2.2
    refine w_icne rfl (w_ite h (fun h => ?_) (fun h => ?_))
    · refine w_iinc (lv' := [some (2, 428), some (2, l1), some (0, l2), some (0, l3), some (0, l4), some (0, l5), some (0, l6), some (0, l7), some (0, l8), some (0, w_32 (l9 + 1)), none, none]) rfl rfl rfl rfl ?_
      refine w_goto rfl ?_
      exact w_W.less h (w_sub [true, true, true, true, true, true, true, true, true, true, false, false] rfl)
    · refine w_iload rfl rfl ?_
      refine w_iload rfl rfl ?_
      refine w_icle rfl (w_ite h (fun h => ?_) (fun h => ?_))
      · refine w_iload rfl rfl ?_
        refine w_iload rfl rfl ?_
        refine w_isub rfl ?_
        refine w_goto rfl ?_
        exact w_W.less h (w_sub [true, true, true, true, true, true, false, true, true, true, false, false] rfl)
      · refine w_iload rfl rfl ?_
        exact w_W.less h (w_sub [true, true, true, true, true, true, false, true, true, true, false, false] rfl)
  · refine w_iload rfl rfl ?_
    refine w_iload rfl rfl ?_
    refine w_icle rfl (w_ite h (fun h => ?_) (fun h => ?_))
    · refine w_iload rfl rfl ?_
      refine w_iload rfl rfl ?_
      refine w_isub rfl ?_
      refine w_goto rfl ?_
      exact w_W.less h (w_sub [true, true, true, true, true, true, false, true, true, true, false, false] rfl)
    · refine w_iload rfl rfl ?_
      exact w_W.less h (w_sub [true, true, true, true, true, true, false, true, true, true, false, false] rfl)
theorem xr_m_codeOf_236 {d : Nat} {l1 l2 l3 l4 l5 l7 l8 l9 s0 : Int} {m : w_M} {Q : Int → w_M → Prop} (h : if l5 < l9 then (((0 : Int) ≤ l8 ∧ l8 < 57000) ∧ (xp_m_codeOf_138 d l1 l2 l3 l4 l9 s0 l7 (w_32 ((m 488 l8) - 1)) m Q)) else (((0 : Int) ≤ l8 ∧ l8 < 57000) ∧ (xp_m_codeOf_138 d l1 l2 l3 l4 l5 s0 l7 (w_32 ((m 488 l8) - 1)) m Q))) : xp_m_codeOf_236 d l1 l2 l3 l4 l5 l7 l8 l9 s0 m Q := by
  refine w_istore (lv' := [some (2, 428), some (2, l1), some (0, l2), some (0, l3), some (0, l4), some (0, l5), some (0, s0), some (0, l7), some (0, l8), some (0, l9), none, none]) rfl rfl rfl ?_
  refine w_iload rfl rfl ?_
  refine w_iload rfl rfl ?_
  refine w_icle rfl (w_ite h (fun h => ?_) (fun h => ?_))
  · refine w_iload rfl rfl ?_
    refine w_goto rfl ?_
    refine w_istore (lv' := [some (2, 428), some (2, l1), some (0, l2), some (0, l3), some (0, l4), some (0, l9), some (0, s0), some (0, l7), some (0, l8), some (0, l9), none, none]) rfl rfl rfl ?_
    refine w_aload_n rfl rfl ?_
    refine w_gfC (c := 488) rfl s_428 rfl rfl ?_
    refine w_iload rfl rfl ?_
    refine w_iald rfl s_488 (n := 57000) rfl h.1 ?_
    replace h := h.2
    refine w_iconst rfl (by decide) ?_
    refine w_isub rfl ?_
    refine w_istore (lv' := [some (2, 428), some (2, l1), some (0, l2), some (0, l3), some (0, l4), some (0, l9), some (0, s0), some (0, l7), some (0, w_32 ((m 488 l8) - 1)), some (0, l9), none, none]) rfl rfl rfl ?_
    refine w_goto rfl ?_
    exact w_W.less h (w_sub [true, true, true, true, true, true, true, true, true, false, false, false] rfl)
  · refine w_iload rfl rfl ?_
    refine w_istore (lv' := [some (2, 428), some (2, l1), some (0, l2), some (0, l3), some (0, l4), some (0, l5), some (0, s0), some (0, l7), some (0, l8), some (0, l9), none, none]) rfl rfl rfl ?_
    refine w_aload_n rfl rfl ?_
    refine w_gfC (c := 488) rfl s_428 rfl rfl ?_
    refine w_iload rfl rfl ?_
    refine w_iald rfl s_488 (n := 57000) rfl h.1 ?_
    replace h := h.2
    refine w_iconst rfl (by decide) ?_
    refine w_isub rfl ?_
    refine w_istore (lv' := [some (2, 428), some (2, l1), some (0, l2), some (0, l3), some (0, l4), some (0, l5), some (0, s0), some (0, l7), some (0, w_32 ((m 488 l8) - 1)), some (0, l9), none, none]) rfl rfl rfl ?_
    refine w_goto rfl ?_
    exact w_W.less h (w_sub [true, true, true, true, true, true, true, true, true, false, false, false] rfl)
theorem xr_m_codeOf_280 {d : Nat} {l1 l2 l3 l4 l5 l6 s0 : Int} {m : w_M} {Q : Int → w_M → Prop} (h : if l5 < 3 then (w_isA 1 l1 ∧ ((0 : Int) ≤ (w_32 (l2 + l4)) ∧ (w_32 (l2 + l4)) < w_ln l1) ∧ (xc_m_literal d ((m l1 (w_32 (l2 + l4))) % 256) m (fun r1 m1 => xp_m_codeOf_317 d l1 l2 l3 l4 s0 l4 m1 Q))) else (xc_m_pair d l5 l6 m (fun r2 m2 => xp_m_codeOf_317 d l1 l2 l3 l4 s0 l4 m2 Q))) : xp_m_codeOf_280 d l1 l2 l3 l4 l5 l6 s0 m Q := by
  refine w_istore (lv' := [some (2, 428), some (2, l1), some (0, l2), some (0, l3), some (0, l4), some (0, l5), some (0, l6), none, none, some (0, s0), none, none]) rfl rfl rfl ?_
  refine w_iload rfl rfl ?_
  refine w_iconst rfl (by decide) ?_
  refine w_iclt rfl (w_ite h (fun h => ?_) (fun h => ?_))
  · refine w_aload_n rfl rfl ?_
    refine w_aload_n rfl rfl ?_
    refine w_iload_n rfl rfl ?_
    refine w_iload rfl rfl ?_
    refine w_iadd rfl ?_
    refine x_bald rfl h.1 h.2.1 ?_
    replace h := h.2.2
    refine w_sipush rfl (by decide) ?_
    refine w_iandm 8 (c := 256) rfl (by decide) rfl rfl ?_
    refine w_callV (t' := 3) [(0, (m l1 (w_32 (l2 + l4))) % 256)] [] rfl s_428 rfl rfl ?_
    refine w_C.more (Q := fun r1 m1 => _) h (fun r1 m1 h => ?_)
    replace h := id h
    refine w_iload rfl rfl ?_
    refine w_istore (lv' := [some (2, 428), some (2, l1), some (0, l2), some (0, l3), some (0, l4), some (0, l5), some (0, l6), none, none, some (0, s0), some (0, l4), none]) rfl rfl rfl ?_
    exact w_W.less h (w_sub [true, true, true, true, true, false, false, false, false, true, true, false] rfl)
  · refine w_aload_n rfl rfl ?_
    refine w_iload rfl rfl ?_
    refine w_iload rfl rfl ?_
    refine w_callV (t' := 3) [(0, l6), (0, l5)] [] rfl s_428 rfl rfl ?_
    refine w_C.more (Q := fun r2 m2 => _) h (fun r2 m2 h => ?_)
    replace h := id h
    refine w_goto rfl ?_
    refine w_iload rfl rfl ?_
    refine w_istore (lv' := [some (2, 428), some (2, l1), some (0, l2), some (0, l3), some (0, l4), some (0, l5), some (0, l6), none, none, some (0, s0), some (0, l4), none]) rfl rfl rfl ?_
    exact w_W.less h (w_sub [true, true, true, true, true, false, false, false, false, true, true, false] rfl)
theorem xr_m_codeOf_317 {d : Nat} {l1 l2 l3 l4 l9 l10 : Int} {m : w_M} {Q : Int → w_M → Prop} (h : if l10 < (w_32 (l4 + l9)) then (if (w_32 (l10 + 2)) < l3 then (xc_m_chainAt d l1 (w_32 (l2 + l10)) m (fun r1 m1 => ((0 : Int) ≤ r1 ∧ r1 < 4096) ∧ (((0 : Int) ≤ l10 ∧ l10 < 57000) ∧ (((0 : Int) ≤ r1 ∧ r1 < 4096) ∧ (xp_m_codeOf_317 d l1 l2 l3 l4 l9 (w_32 (l10 + 1)) (w_up (w_up m1 488 l10 (m1 487 r1)) 487 r1 (w_32 (l10 + 1))) Q))))) else (xp_m_codeOf_77 d l1 l2 l3 (w_32 (l4 + l9)) m Q)) else (xp_m_codeOf_77 d l1 l2 l3 (w_32 (l4 + l9)) m Q)) : xp_m_codeOf_317 d l1 l2 l3 l4 l9 l10 m Q := by
  refine w_iload rfl rfl ?_
  refine w_iload rfl rfl ?_
  refine w_iload rfl rfl ?_
  refine w_iadd rfl ?_
  refine w_icge rfl (w_ite h (fun h => ?_) (fun h => ?_))
  · refine w_iload rfl rfl ?_
    refine w_iconst rfl (by decide) ?_
    refine w_iadd rfl ?_
    refine w_iload_n rfl rfl ?_
    refine w_icge rfl (w_ite h (fun h => ?_) (fun h => ?_))
    · refine w_aload_n rfl rfl ?_
      refine w_iload_n rfl rfl ?_
      refine w_iload rfl rfl ?_
      refine w_iadd rfl ?_
      refine w_callS (t' := 0) [(0, w_32 (l2 + l10)), (2, l1)] [] rfl (by decide) rfl rfl ?_
      refine w_C.more (Q := fun r1 m1 => _) h (fun r1 m1 h => ?_)
      replace h := id h
      refine w_istore (lv' := [some (2, 428), some (2, l1), some (0, l2), some (0, l3), some (0, l4), none, none, none, none, some (0, l9), some (0, l10), some (0, r1)]) rfl rfl rfl ?_
      refine w_aload_n rfl rfl ?_
      refine w_gfC (c := 488) rfl s_428 rfl rfl ?_
      refine w_iload rfl rfl ?_
      refine w_aload_n rfl rfl ?_
      refine w_gfC (c := 487) rfl s_428 rfl rfl ?_
      refine w_iload rfl rfl ?_
      refine w_iald rfl s_487 (n := 4096) rfl h.1 ?_
      replace h := h.2
      refine w_iast rfl s_488 (w_EM (by decide)) (n := 57000) rfl h.1 ?_
      replace h := h.2
      refine w_aload_n rfl rfl ?_
      refine w_gfC (c := 487) rfl s_428 rfl rfl ?_
      refine w_iload rfl rfl ?_
      refine w_iload rfl rfl ?_
      refine w_iconst rfl (by decide) ?_
      refine w_iadd rfl ?_
      refine w_iast rfl s_487 (w_EM (by decide)) (n := 4096) rfl h.1 ?_
      replace h := h.2
      refine w_iinc (lv' := [some (2, 428), some (2, l1), some (0, l2), some (0, l3), some (0, l4), none, none, none, none, some (0, l9), some (0, w_32 (l10 + 1)), some (0, r1)]) rfl rfl rfl rfl ?_
      refine w_goto rfl ?_
      exact w_W.less h (w_sub [true, true, true, true, true, false, false, false, false, true, true, false] rfl)
    · refine w_iload rfl rfl ?_
      refine w_iload rfl rfl ?_
      refine w_iadd rfl ?_
      refine w_istore (lv' := [some (2, 428), some (2, l1), some (0, l2), some (0, l3), some (0, w_32 (l4 + l9)), none, none, none, none, some (0, l9), some (0, l10), none]) rfl rfl rfl ?_
      refine w_goto rfl ?_
      exact w_W.less h (w_sub [true, true, true, true, true, false, false, false, false, false, false, false] rfl)
  · refine w_iload rfl rfl ?_
    refine w_iload rfl rfl ?_
    refine w_iadd rfl ?_
    refine w_istore (lv' := [some (2, 428), some (2, l1), some (0, l2), some (0, l3), some (0, w_32 (l4 + l9)), none, none, none, none, some (0, l9), some (0, l10), none]) rfl rfl rfl ?_
    refine w_goto rfl ?_
    exact w_W.less h (w_sub [true, true, true, true, true, false, false, false, false, false, false, false] rfl)
theorem xr_m_codeOf_402 {d : Nat} {l1 l2 l3 l5 l6 l7 : Int} {m : w_M} {Q : Int → w_M → Prop} (h : if l7 < l3 then (w_isA 1 l1 ∧ ((0 : Int) ≤ (w_32 (l2 + l7)) ∧ (w_32 (l2 + l7)) < w_ln l1) ∧ (xp_m_codeOf_402 d l1 l2 l3 (Int.tmod (w_32 (l5 + ((m l1 (w_32 (l2 + l7))) % 256))) 65521) (Int.tmod (w_32 (l6 + (Int.tmod (w_32 (l5 + ((m l1 (w_32 (l2 + l7))) % 256))) 65521))) 65521) (w_32 (l7 + 1)) m Q)) else (((0 : Int) ≤ (Int.tdiv (w_32 ((m 428 116) + 7)) 8) ∧ (Int.tdiv (w_32 ((m 428 116) + 7)) 8) < 50000) ∧ (((0 : Int) ≤ (w_32 ((Int.tdiv (w_32 ((m 428 116) + 7)) 8) + 1)) ∧ (w_32 ((Int.tdiv (w_32 ((m 428 116) + 7)) 8) + 1)) < 50000) ∧ (((0 : Int) ≤ (w_32 ((Int.tdiv (w_32 ((m 428 116) + 7)) 8) + 2)) ∧ (w_32 ((Int.tdiv (w_32 ((m 428 116) + 7)) 8) + 2)) < 50000) ∧ (((0 : Int) ≤ (w_32 ((Int.tdiv (w_32 ((m 428 116) + 7)) 8) + 3)) ∧ (w_32 ((Int.tdiv (w_32 ((m 428 116) + 7)) 8) + 3)) < 50000) ∧ (Q 0 (w_up (w_up (w_up (w_up (w_up (w_up m 428 115 (Int.tdiv (w_32 ((m 428 116) + 7)) 8)) 486 (Int.tdiv (w_32 ((m 428 116) + 7)) 8) (w_8 (w_8 (l6 / 256)))) 486 (w_32 ((Int.tdiv (w_32 ((m 428 116) + 7)) 8) + 1)) (w_8 (w_8 l6))) 486 (w_32 ((Int.tdiv (w_32 ((m 428 116) + 7)) 8) + 2)) (w_8 (w_8 (l5 / 256)))) 486 (w_32 ((Int.tdiv (w_32 ((m 428 116) + 7)) 8) + 3)) (w_8 (w_8 l5))) 428 115 (w_32 ((Int.tdiv (w_32 ((m 428 116) + 7)) 8) + 4))))))))) : xp_m_codeOf_402 d l1 l2 l3 l5 l6 l7 m Q := by
  refine w_iload rfl rfl ?_
  refine w_iload_n rfl rfl ?_
  refine w_icge rfl (w_ite h (fun h => ?_) (fun h => ?_))
  · refine w_iload rfl rfl ?_
    refine w_aload_n rfl rfl ?_
    refine w_iload_n rfl rfl ?_
    refine w_iload rfl rfl ?_
    refine w_iadd rfl ?_
    refine x_bald rfl h.1 h.2.1 ?_
    replace h := h.2.2
    refine w_sipush rfl (by decide) ?_
    refine w_iandm 8 (c := 256) rfl (by decide) rfl rfl ?_
    refine w_iadd rfl ?_
    refine w_ldcw (a := 65521) rfl (by decide +kernel) (by decide) ?_
    refine w_iremk rfl (by decide) ?_
    refine w_istore (lv' := [some (2, 428), some (2, l1), some (0, l2), some (0, l3), none, some (0, Int.tmod (w_32 (l5 + ((m l1 (w_32 (l2 + l7))) % 256))) 65521), some (0, l6), some (0, l7), none, none, none, none]) rfl rfl rfl ?_
    refine w_iload rfl rfl ?_
    refine w_iload rfl rfl ?_
    refine w_iadd rfl ?_
    refine w_ldcw (a := 65521) rfl (by decide +kernel) (by decide) ?_
    refine w_iremk rfl (by decide) ?_
    refine w_istore (lv' := [some (2, 428), some (2, l1), some (0, l2), some (0, l3), none, some (0, Int.tmod (w_32 (l5 + ((m l1 (w_32 (l2 + l7))) % 256))) 65521), some (0, Int.tmod (w_32 (l6 + (Int.tmod (w_32 (l5 + ((m l1 (w_32 (l2 + l7))) % 256))) 65521))) 65521), some (0, l7), none, none, none, none]) rfl rfl rfl ?_
    refine w_iinc (lv' := [some (2, 428), some (2, l1), some (0, l2), some (0, l3), none, some (0, Int.tmod (w_32 (l5 + ((m l1 (w_32 (l2 + l7))) % 256))) 65521), some (0, Int.tmod (w_32 (l6 + (Int.tmod (w_32 (l5 + ((m l1 (w_32 (l2 + l7))) % 256))) 65521))) 65521), some (0, w_32 (l7 + 1)), none, none, none, none]) rfl rfl rfl rfl ?_
    refine w_goto rfl ?_
    exact w_W.less h (w_sub [true, true, true, true, false, true, true, true, false, false, false, false] rfl)
  · refine w_aload_n rfl rfl ?_
    refine w_aload_n rfl rfl ?_
    refine x_gfI rfl s_428 rfl (kk := 116) rfl rfl ?_
    refine w_bipush rfl (by decide) ?_
    refine w_iadd rfl ?_
    refine w_bipush rfl (by decide) ?_
    refine w_idivk rfl (by decide) ?_
    refine w_pfI rfl s_428 rfl (w_EM (by decide)) rfl (kk := 115) rfl ?_
    refine w_aload_n rfl rfl ?_
    refine w_gfC (c := 486) rfl s_428 rfl rfl ?_
    refine w_aload_n rfl rfl ?_
    refine x_gfI rfl s_428 rfl (kk := 115) rfl (w_up_eq) ?_
    refine w_iload rfl rfl ?_
    refine w_bipush rfl (by decide) ?_
    refine w_ishrk (c := 256) rfl (by decide) (by decide) rfl ?_
    refine w_i2b rfl ?_
    refine w_bast rfl s_486 (w_EM (by decide)) (n := 50000) rfl h.1 ?_
    replace h := h.2
    refine w_aload_n rfl rfl ?_
    refine w_gfC (c := 486) rfl s_428 rfl rfl ?_
    refine w_aload_n rfl rfl ?_
    refine x_gfI rfl s_428 rfl (kk := 115) rfl ((w_up_ne (by decide)).trans (w_up_eq)) ?_
    refine w_iconst rfl (by decide) ?_
    refine w_iadd rfl ?_
    refine w_iload rfl rfl ?_
    refine w_i2b rfl ?_
    refine w_bast rfl s_486 (w_EM (by decide)) (n := 50000) rfl h.1 ?_
    replace h := h.2
    refine w_aload_n rfl rfl ?_
    refine w_gfC (c := 486) rfl s_428 rfl rfl ?_
    refine w_aload_n rfl rfl ?_
    refine x_gfI rfl s_428 rfl (kk := 115) rfl ((w_up_ne (by decide)).trans ((w_up_ne (by decide)).trans (w_up_eq))) ?_
    refine w_iconst rfl (by decide) ?_
    refine w_iadd rfl ?_
    refine w_iload rfl rfl ?_
    refine w_bipush rfl (by decide) ?_
    refine w_ishrk (c := 256) rfl (by decide) (by decide) rfl ?_
    refine w_i2b rfl ?_
    refine w_bast rfl s_486 (w_EM (by decide)) (n := 50000) rfl h.1 ?_
    replace h := h.2
    refine w_aload_n rfl rfl ?_
    refine w_gfC (c := 486) rfl s_428 rfl rfl ?_
    refine w_aload_n rfl rfl ?_
    refine x_gfI rfl s_428 rfl (kk := 115) rfl ((w_up_ne (by decide)).trans ((w_up_ne (by decide)).trans ((w_up_ne (by decide)).trans (w_up_eq)))) ?_
    refine w_iconst rfl (by decide) ?_
    refine w_iadd rfl ?_
    refine w_iload rfl rfl ?_
    refine w_i2b rfl ?_
    refine w_bast rfl s_486 (w_EM (by decide)) (n := 50000) rfl h.1 ?_
    replace h := h.2
    refine w_aload_n rfl rfl ?_
    refine w_dup rfl (show (2 : Nat) ≠ 1 by decide) ?_
    refine x_gfI rfl s_428 rfl (kk := 115) rfl ((w_up_ne (by decide)).trans ((w_up_ne (by decide)).trans ((w_up_ne (by decide)).trans ((w_up_ne (by decide)).trans (w_up_eq))))) ?_
    refine w_iconst rfl (by decide) ?_
    refine w_iadd rfl ?_
    refine w_pfI rfl s_428 rfl (w_EM (by decide)) rfl (kk := 115) rfl ?_
    exact w_vret rfl rfl h
theorem xr_m_codes {d : Nat} {m : w_M} {Q : Int → w_M → Prop} (h : xp_m_codes_0 d  m Q) : xc_m_codes (d + 1) m Q := by
  refine w_enter (q := 5) (lv := [some (2, 428), none, none, none, none, none]) rfl rfl rfl (w_W.less h (w_sub [true, false, false, false, false, false] rfl))
theorem xr_m_codes_0 {d : Nat} {m : w_M} {Q : Int → w_M → Prop} (h : if (m 428 40) = 0 then (xc_m_symbol d 445 446 m (fun r1 m1 => if (m1 428 40) = 0 then (if r1 = 256 then (Q 0 m1) else (if r1 < 256 then (xc_m_emit d r1 m1 (fun r2 m2 => xp_m_codes_0 d m2 Q)) else (if 285 < r1 then (Q 0 (w_up m1 428 40 1)) else (xc_m_lengthOf d (w_32 (r1 - 257)) m1 (fun r3 m3 => xc_m_extraOf d (w_32 (r1 - 257)) m3 (fun r4 m4 => xc_m_bits d r4 m4 (fun r5 m5 => xc_m_symbol d 447 448 m5 (fun r6 m6 => if (m6 428 40) = 0 then (if 29 < r6 then (Q 0 (w_up m6 428 40 1)) else (xc_m_distanceOf d r6 m6 (fun r7 m7 => xc_m_farExtra d r6 m7 (fun r8 m8 => xc_m_bits d r8 m8 (fun r9 m9 => if (m9 428 40) = 0 then (if (m9 428 38) < (w_32 (r7 + r9)) then (Q 0 (w_up m9 428 40 1)) else (xp_m_codes_157 d (w_32 (r3 + r5)) (w_32 (r7 + r9)) 0 m9 Q)) else (Q 0 (w_up m9 428 40 1))))))) else (Q 0 (w_up m6 428 40 1)))))))))) else (Q 0 m1))) else (Q 0 m)) : xp_m_codes_0 d m Q := by
  refine w_aload_n rfl rfl ?_
  refine x_gfZ rfl s_428 rfl (kk := 40) rfl rfl ?_
  refine w_ifne rfl (w_ite h (fun h => ?_) (fun h => ?_))
  · refine w_aload_n rfl rfl ?_
    refine w_aload_n rfl rfl ?_
    refine w_gfC (c := 445) rfl s_428 rfl rfl ?_
    refine w_aload_n rfl rfl ?_
    refine w_gfC (c := 446) rfl s_428 rfl rfl ?_
    refine w_callV (t' := 0) [(2, 446), (2, 445)] [] rfl s_428 rfl rfl ?_
    refine w_C.more (Q := fun r1 m1 => _) h (fun r1 m1 h => ?_)
    replace h := id h
    refine w_istore_n (lv' := [some (2, 428), some (0, r1), none, none, none, none]) rfl rfl rfl ?_
    refine w_aload_n rfl rfl ?_
    refine x_gfZ rfl s_428 rfl (kk := 40) rfl rfl ?_
    refine w_ifne rfl (w_ite h (fun h => ?_) (fun h => ?_))
    · refine w_iload_n rfl rfl ?_
      refine w_sipush rfl (by decide) ?_
      refine w_icne rfl (w_ite h (fun h => ?_) (fun h => ?_))
      · exact w_vret rfl rfl h
      · refine w_iload_n rfl rfl ?_
        refine w_sipush rfl (by decide) ?_
        refine w_icge rfl (w_ite h (fun h => ?_) (fun h => ?_))
        · refine w_aload_n rfl rfl ?_
          refine w_iload_n rfl rfl ?_
          refine w_callV (t' := 3) [(0, r1)] [] rfl s_428 rfl rfl ?_
          refine w_C.more (Q := fun r2 m2 => _) h (fun r2 m2 h => ?_)
          replace h := id h
          refine w_goto rfl ?_
          exact w_W.less h (w_sub [true, false, false, false, false, false] rfl)
        · refine w_iload_n rfl rfl ?_
          refine w_sipush rfl (by decide) ?_
          refine w_icle rfl (w_ite h (fun h => ?_) (fun h => ?_))
          · refine w_aload_n rfl rfl ?_
            refine w_iconst rfl (by decide) ?_
            refine w_pfZ rfl s_428 rfl (w_EM (by decide)) rfl (kk := 40) rfl (by decide) ?_
            exact w_vret rfl rfl h
          · refine w_iload_n rfl rfl ?_
            refine w_sipush rfl (by decide) ?_
            refine w_isub rfl ?_
            refine w_callS (t' := 0) [(0, w_32 (r1 - 257))] [] rfl (by decide) rfl rfl ?_
            refine w_C.more (Q := fun r3 m3 => _) h (fun r3 m3 h => ?_)
            replace h := id h
            refine w_aload_n rfl rfl ?_
            refine w_iload_n rfl rfl ?_
            refine w_sipush rfl (by decide) ?_
            refine w_isub rfl ?_
            refine w_callS (t' := 0) [(0, w_32 (r1 - 257))] [(2, 428), (0, r3)] rfl (by decide) rfl rfl ?_
            refine w_C.more (Q := fun r4 m4 => _) h (fun r4 m4 h => ?_)
            replace h := id h
            refine w_callV (t' := 0) [(0, r4)] [(0, r3)] rfl s_428 rfl rfl ?_
            refine w_C.more (Q := fun r5 m5 => _) h (fun r5 m5 h => ?_)
            replace h := id h
            refine w_iadd rfl ?_
            refine w_istore_n (lv' := [some (2, 428), some (0, r1), some (0, w_32 (r3 + r5)), none, none, none]) rfl rfl rfl ?_
            refine w_aload_n rfl rfl ?_
            refine w_aload_n rfl rfl ?_
            refine w_gfC (c := 447) rfl s_428 rfl rfl ?_
            refine w_aload_n rfl rfl ?_
            refine w_gfC (c := 448) rfl s_428 rfl rfl ?_
            refine w_callV (t' := 0) [(2, 448), (2, 447)] [] rfl s_428 rfl rfl ?_
            refine w_C.more (Q := fun r6 m6 => _) h (fun r6 m6 h => ?_)
            replace h := id h
            refine w_istore_n (lv' := [some (2, 428), some (0, r1), some (0, w_32 (r3 + r5)), some (0, r6), none, none]) rfl rfl rfl ?_
            refine w_aload_n rfl rfl ?_
            refine x_gfZ rfl s_428 rfl (kk := 40) rfl rfl ?_
            refine w_ifne rfl (w_ite h (fun h => ?_) (fun h => ?_))
            · refine w_iload_n rfl rfl ?_
              refine w_bipush rfl (by decide) ?_
              refine w_icle rfl (w_ite h (fun h => ?_) (fun h => ?_))
              · refine w_aload_n rfl rfl ?_
                refine w_iconst rfl (by decide) ?_
                refine w_pfZ rfl s_428 rfl (w_EM (by decide)) rfl (kk := 40) rfl (by decide) ?_
                exact w_vret rfl rfl h
              · refine w_iload_n rfl rfl ?_
                refine w_callS (t' := 0) [(0, r6)] [] rfl (by decide) rfl rfl ?_
                refine w_C.more (Q := fun r7 m7 => _) h (fun r7 m7 h => ?_)
                replace h := id h
                refine w_aload_n rfl rfl ?_
                refine w_iload_n rfl rfl ?_
                refine w_callS (t' := 0) [(0, r6)] [(2, 428), (0, r7)] rfl (by decide) rfl rfl ?_
                refine w_C.more (Q := fun r8 m8 => _) h (fun r8 m8 h => ?_)
                replace h := id h
                refine w_callV (t' := 0) [(0, r8)] [(0, r7)] rfl s_428 rfl rfl ?_
                refine w_C.more (Q := fun r9 m9 => _) h (fun r9 m9 h => ?_)
                replace h := id h
                refine w_iadd rfl ?_
                refine w_istore (lv' := [some (2, 428), some (0, r1), some (0, w_32 (r3 + r5)), some (0, r6), some (0, w_32 (r7 + r9)), none]) rfl rfl rfl ?_
                refine w_aload_n rfl rfl ?_
                refine x_gfZ rfl s_428 rfl (kk := 40) rfl rfl ?_
                refine w_ifne rfl (w_ite h (fun h => ?_) (fun h => ?_))
                · refine w_iload rfl rfl ?_
                  refine w_aload_n rfl rfl ?_
                  refine x_gfI rfl s_428 rfl (kk := 38) rfl rfl ?_
                  refine w_icle rfl (w_ite h (fun h => ?_) (fun h => ?_))
                  · refine w_aload_n rfl rfl ?_
                    refine w_iconst rfl (by decide) ?_
                    refine w_pfZ rfl s_428 rfl (w_EM (by decide)) rfl (kk := 40) rfl (by decide) ?_
                    exact w_vret rfl rfl h
                  · refine w_iconst rfl (by decide) ?_
                    refine w_istore (lv' := [some (2, 428), some (0, r1), some (0, w_32 (r3 + r5)), some (0, r6), some (0, w_32 (r7 + r9)), some (0, 0)]) rfl rfl rfl ?_
                    exact w_W.less h (w_sub [true, false, true, false, true, true] rfl)
                · refine w_aload_n rfl rfl ?_
                  refine w_iconst rfl (by decide) ?_
                  refine w_pfZ rfl s_428 rfl (w_EM (by decide)) rfl (kk := 40) rfl (by decide) ?_
                  exact w_vret rfl rfl h
            · refine w_aload_n rfl rfl ?_
              refine w_iconst rfl (by decide) ?_
              refine w_pfZ rfl s_428 rfl (w_EM (by decide)) rfl (kk := 40) rfl (by decide) ?_
              exact w_vret rfl rfl h
    · exact w_vret rfl rfl h
  · exact w_vret rfl rfl h
theorem xr_m_codes_157 {d : Nat} {l2 l4 l5 : Int} {m : w_M} {Q : Int → w_M → Prop} (h : if l5 < l2 then (if (m 428 40) = 0 then (((0 : Int) ≤ (w_32 ((m 428 38) - l4)) ∧ (w_32 ((m 428 38) - l4)) < 8200) ∧ (xc_m_emit d (m 443 (w_32 ((m 428 38) - l4))) m (fun r1 m1 => xp_m_codes_157 d l2 l4 (w_32 (l5 + 1)) m1 Q))) else (xp_m_codes_0 d m Q)) else (xp_m_codes_0 d m Q)) : xp_m_codes_157 d l2 l4 l5 m Q := by
  refine w_iload rfl rfl ?_
  refine w_iload_n rfl rfl ?_
  refine w_icge rfl (w_ite h (fun h => ?_) (fun h => ?_))
  · refine w_aload_n rfl rfl ?_
    refine x_gfZ rfl s_428 rfl (kk := 40) rfl rfl ?_
    refine w_ifne rfl (w_ite h (fun h => ?_) (fun h => ?_))
    · refine w_aload_n rfl rfl ?_
      refine w_aload_n rfl rfl ?_
      refine w_gfC (c := 443) rfl s_428 rfl rfl ?_
      refine w_aload_n rfl rfl ?_
      refine x_gfI rfl s_428 rfl (kk := 38) rfl rfl ?_
      refine w_iload rfl rfl ?_
      refine w_isub rfl ?_
      refine w_bald rfl s_443 (n := 8200) rfl h.1 ?_
      replace h := h.2
      refine w_callV (t' := 3) [(0, m 443 (w_32 ((m 428 38) - l4)))] [] rfl s_428 rfl rfl ?_
      refine w_C.more (Q := fun r1 m1 => _) h (fun r1 m1 h => ?_)
      replace h := id h
      refine w_iinc (lv' := [some (2, 428), none, some (0, l2), none, some (0, l4), some (0, w_32 (l5 + 1))]) rfl rfl rfl rfl ?_
      refine w_goto rfl ?_
      exact w_W.less h (w_sub [true, false, true, false, true, true] rfl)
    · refine w_goto rfl ?_
      exact w_W.less h (w_sub [true, false, false, false, false, false] rfl)
  · refine w_goto rfl ?_
    exact w_W.less h (w_sub [true, false, false, false, false, false] rfl)
theorem xr_m_collect {d : Nat} {l1 : Int} {m : w_M} {Q : Int → w_M → Prop} (h : xp_m_collect_2 d l1 0 m Q) : xc_m_collect (d + 1) l1 m Q := by
  refine w_enter (q := 1) (lv := [some (2, 428), some (0, l1), none]) rfl rfl rfl ?_
  refine w_iconst rfl (by decide) ?_
  refine w_istore_n (lv' := [some (2, 428), some (0, l1), some (0, 0)]) rfl rfl rfl ?_
  exact w_W.less h (w_sub [true, true, true] rfl)
theorem xr_m_collect_2 {d : Nat} {l1 l2 : Int} {m : w_M} {Q : Int → w_M → Prop} (h : ((0 : Int) ≤ l1 ∧ l1 < 200) ∧ (if l2 < (m 459 l1) then (((0 : Int) ≤ l1 ∧ l1 < 200) ∧ (((0 : Int) ≤ (w_32 ((m 458 l1) + l2)) ∧ (w_32 ((m 458 l1) + l2)) < 57000) ∧ (((0 : Int) ≤ (m 428 92) ∧ (m 428 92) < 40100) ∧ (xp_m_collect_2 d l1 (w_32 (l2 + 1)) (w_up (w_up m 472 (m 428 92) (w_8 (m 441 (w_32 ((m 458 l1) + l2))))) 428 92 (w_32 ((m 428 92) + 1))) Q)))) else (Q 0 m))) : xp_m_collect_2 d l1 l2 m Q := by
  refine w_iload_n rfl rfl ?_
  refine w_aload_n rfl rfl ?_
  refine w_gfC (c := 459) rfl s_428 rfl rfl ?_
  refine w_iload_n rfl rfl ?_
  refine w_iald rfl s_459 (n := 200) rfl h.1 ?_
  replace h := h.2
  refine w_icge rfl (w_ite h (fun h => ?_) (fun h => ?_))
  · refine w_aload_n rfl rfl ?_
    refine w_gfC (c := 472) rfl s_428 rfl rfl ?_
    refine w_aload_n rfl rfl ?_
    refine x_gfI rfl s_428 rfl (kk := 92) rfl rfl ?_
    refine w_aload_n rfl rfl ?_
    refine w_gfC (c := 441) rfl s_428 rfl rfl ?_
    refine w_aload_n rfl rfl ?_
    refine w_gfC (c := 458) rfl s_428 rfl rfl ?_
    refine w_iload_n rfl rfl ?_
    refine w_iald rfl s_458 (n := 200) rfl h.1 ?_
    replace h := h.2
    refine w_iload_n rfl rfl ?_
    refine w_iadd rfl ?_
    refine w_bald rfl s_441 (n := 57000) rfl h.1 ?_
    replace h := h.2
    refine w_bast rfl s_472 (w_EM (by decide)) (n := 40100) rfl h.1 ?_
    replace h := h.2
    refine w_aload_n rfl rfl ?_
    refine w_dup rfl (show (2 : Nat) ≠ 1 by decide) ?_
    refine x_gfI rfl s_428 rfl (kk := 92) rfl (w_up_ne (by decide)) ?_
    refine w_iconst rfl (by decide) ?_
    refine w_iadd rfl ?_
    refine w_pfI rfl s_428 rfl (w_EM (by decide)) rfl (kk := 92) rfl ?_
    refine w_iinc (lv' := [some (2, 428), some (0, l1), some (0, w_32 (l2 + 1))]) rfl rfl rfl rfl ?_
    refine w_goto rfl ?_
    exact w_W.less h (w_sub [true, true, true] rfl)
  · exact w_vret rfl rfl h
theorem xr_m_contents {d : Nat} {l1 : Int} {m : w_M} {Q : Int → w_M → Prop} (h : xc_m_isPage d l1 (w_up m 428 1 0) (fun r1 m1 => if r1 = 0 then (Q (-1) m1) else (xc_m_nextNumber d m1 (fun r2 m2 => if r2 = 200 then (Q (-1) m2) else (if 40000 < (w_32 ((m2 428 67) + (m 428 1))) then (Q (-1) m2) else (xc_m_newNode d 7 0 m2 (fun r3 m3 => xc_m_newObject d r3 m3 (fun r4 m4 => ((0 : Int) ≤ r4 ∧ r4 < 200) ∧ (((0 : Int) ≤ r4 ∧ r4 < 200) ∧ (((0 : Int) ≤ r4 ∧ r4 < 200) ∧ (xp_m_contents_80 d l1 (m 428 1) r4 0 (w_up (w_up (w_up m4 457 r4 1) 458 r4 (m4 428 34)) 459 r4 (m 428 1)) Q))))))))))) : xc_m_contents (d + 1) l1 m Q := by
  refine w_enter (q := 3) (lv := [some (2, 428), some (0, l1), none, none, none]) rfl rfl rfl ?_
  refine w_aload_n rfl rfl ?_
  refine x_gfI rfl s_428 rfl (kk := 1) rfl rfl ?_
  refine w_istore_n (lv' := [some (2, 428), some (0, l1), some (0, m 428 1), none, none]) rfl rfl rfl ?_
  refine w_aload_n rfl rfl ?_
  refine w_iconst rfl (by decide) ?_
  refine w_pfI rfl s_428 rfl (w_EM (by decide)) rfl (kk := 1) rfl ?_
  refine w_aload_n rfl rfl ?_
  refine w_iload_n rfl rfl ?_
  refine w_callV (t' := 0) [(0, l1)] [] rfl s_428 rfl rfl ?_
  refine w_C.more (Q := fun r1 m1 => _) h (fun r1 m1 h => ?_)
  replace h := id h
  refine w_ifeq rfl (w_ite h (fun h => ?_) (fun h => ?_))
  · refine w_iconst rfl (by decide) ?_
    exact w_iret rfl rfl h
  · refine w_aload_n rfl rfl ?_
    refine w_callV (t' := 0) [] [] rfl s_428 rfl rfl ?_
    refine w_C.more (Q := fun r2 m2 => _) h (fun r2 m2 h => ?_)
    replace h := id h
    refine w_sipush rfl (by decide) ?_
    refine w_iceq rfl (w_ite h (fun h => ?_) (fun h => ?_))
    · refine w_iconst rfl (by decide) ?_
      exact w_iret rfl rfl h
    · refine w_aload_n rfl rfl ?_
      refine x_gfI rfl s_428 rfl (kk := 67) rfl rfl ?_
      refine w_iload_n rfl rfl ?_
      refine w_iadd rfl ?_
      refine w_ldc (a := 40000) rfl (by decide +kernel) (by decide) ?_
      refine w_icle rfl (w_ite h (fun h => ?_) (fun h => ?_))
      · refine w_iconst rfl (by decide) ?_
        exact w_iret rfl rfl h
      · refine w_aload_n rfl rfl ?_
        refine w_aload_n rfl rfl ?_
        refine w_bipush rfl (by decide) ?_
        refine w_iconst rfl (by decide) ?_
        refine w_callV (t' := 0) [(0, 0), (0, 7)] [(2, 428)] rfl s_428 rfl rfl ?_
        refine w_C.more (Q := fun r3 m3 => _) h (fun r3 m3 h => ?_)
        replace h := id h
        refine w_callV (t' := 0) [(0, r3)] [] rfl s_428 rfl rfl ?_
        refine w_C.more (Q := fun r4 m4 => _) h (fun r4 m4 h => ?_)
        replace h := id h
        refine w_istore_n (lv' := [some (2, 428), some (0, l1), some (0, m 428 1), some (0, r4), none]) rfl rfl rfl ?_
        refine w_aload_n rfl rfl ?_
        refine w_gfC (c := 457) rfl s_428 rfl rfl ?_
        refine w_iload_n rfl rfl ?_
        refine w_iconst rfl (by decide) ?_
        refine w_zast rfl s_457 (w_EM (by decide)) (n := 200) rfl h.1 (by decide) ?_
        replace h := h.2
        refine w_aload_n rfl rfl ?_
        refine w_gfC (c := 458) rfl s_428 rfl rfl ?_
        refine w_iload_n rfl rfl ?_
        refine w_aload_n rfl rfl ?_
        refine x_gfI rfl s_428 rfl (kk := 34) rfl (w_up_ne (by decide)) ?_
        refine w_iast rfl s_458 (w_EM (by decide)) (n := 200) rfl h.1 ?_
        replace h := h.2
        refine w_aload_n rfl rfl ?_
        refine w_gfC (c := 459) rfl s_428 rfl rfl ?_
        refine w_iload_n rfl rfl ?_
        refine w_iload_n rfl rfl ?_
        refine w_iast rfl s_459 (w_EM (by decide)) (n := 200) rfl h.1 ?_
        replace h := h.2
        refine w_iconst rfl (by decide) ?_
        refine w_istore (lv' := [some (2, 428), some (0, l1), some (0, m 428 1), some (0, r4), some (0, 0)]) rfl rfl rfl ?_
        exact w_W.less h (w_sub [true, true, true, true, true] rfl)
theorem xr_m_contents_80 {d : Nat} {l1 l2 l3 l4 : Int} {m : w_M} {Q : Int → w_M → Prop} (h : if l4 < l2 then (((0 : Int) ≤ l4 ∧ l4 < 8000) ∧ (((0 : Int) ≤ (w_32 ((m 428 34) + l4)) ∧ (w_32 ((m 428 34) + l4)) < 57000) ∧ (xp_m_contents_80 d l1 l2 l3 (w_32 (l4 + 1)) (w_up m 441 (w_32 ((m 428 34) + l4)) (w_8 (m 429 l4))) Q))) else (((0 : Int) ≤ l1 ∧ l1 < 61) ∧ (((0 : Int) ≤ ((w_up (w_up m 428 34 (w_32 ((m 428 34) + l2))) 428 67 (w_32 ((m 428 67) + l2))) 468 l1) ∧ ((w_up (w_up m 428 34 (w_32 ((m 428 34) + l2))) 428 67 (w_32 ((m 428 67) + l2))) 468 l1) < 200) ∧ (xc_m_entryTo d ((w_up (w_up m 428 34 (w_32 ((m 428 34) + l2))) 428 67 (w_32 ((m 428 67) + l2))) 455 ((w_up (w_up m 428 34 (w_32 ((m 428 34) + l2))) 428 67 (w_32 ((m 428 67) + l2))) 468 l1)) 188 8 l3 0 (w_up (w_up m 428 34 (w_32 ((m 428 34) + l2))) 428 67 (w_32 ((m 428 67) + l2))) (fun r1 m1 => ((0 : Int) ≤ l1 ∧ l1 < 61) ∧ (xc_m_changed d (m1 468 l1) m1 (fun r2 m2 => Q l3 (w_up m2 428 88 (-1))))))))) : xp_m_contents_80 d l1 l2 l3 l4 m Q := by
  refine w_iload rfl rfl ?_
  refine w_iload_n rfl rfl ?_
  refine w_icge rfl (w_ite h (fun h => ?_) (fun h => ?_))
  · refine w_aload_n rfl rfl ?_
    refine w_gfC (c := 441) rfl s_428 rfl rfl ?_
    refine w_aload_n rfl rfl ?_
    refine x_gfI rfl s_428 rfl (kk := 34) rfl rfl ?_
    refine w_iload rfl rfl ?_
    refine w_iadd rfl ?_
    refine w_aload_n rfl rfl ?_
    refine w_gfC (c := 429) rfl s_428 rfl rfl ?_
    refine w_iload rfl rfl ?_
    refine w_bald rfl s_429 (n := 8000) rfl h.1 ?_
    replace h := h.2
    refine w_bast rfl s_441 (w_EM (by decide)) (n := 57000) rfl h.1 ?_
    replace h := h.2
    refine w_iinc (lv' := [some (2, 428), some (0, l1), some (0, l2), some (0, l3), some (0, w_32 (l4 + 1))]) rfl rfl rfl rfl ?_
    refine w_goto rfl ?_
    exact w_W.less h (w_sub [true, true, true, true, true] rfl)
  · refine w_aload_n rfl rfl ?_
    refine w_dup rfl (show (2 : Nat) ≠ 1 by decide) ?_
    refine x_gfI rfl s_428 rfl (kk := 34) rfl rfl ?_
    refine w_iload_n rfl rfl ?_
    refine w_iadd rfl ?_
    refine w_pfI rfl s_428 rfl (w_EM (by decide)) rfl (kk := 34) rfl ?_
    refine w_aload_n rfl rfl ?_
    refine w_dup rfl (show (2 : Nat) ≠ 1 by decide) ?_
    refine x_gfI rfl s_428 rfl (kk := 67) rfl (w_up_nb (by decide)) ?_
    refine w_iload_n rfl rfl ?_
    refine w_iadd rfl ?_
    refine w_pfI rfl s_428 rfl (w_EM (by decide)) rfl (kk := 67) rfl ?_
    refine w_aload_n rfl rfl ?_
    refine w_aload_n rfl rfl ?_
    refine w_gfC (c := 455) rfl s_428 rfl rfl ?_
    refine w_aload_n rfl rfl ?_
    refine w_gfC (c := 468) rfl s_428 rfl rfl ?_
    refine w_iload_n rfl rfl ?_
    refine w_iald rfl s_468 (n := 61) rfl h.1 ?_
    replace h := h.2
    refine w_iald rfl s_455 (n := 200) rfl h.1 ?_
    replace h := h.2
    refine w_ldcwR rfl ?_
    refine w_bipush rfl (by decide) ?_
    refine w_iload_n rfl rfl ?_
    refine w_iconst rfl (by decide) ?_
    refine w_callV (t' := 0) [(0, 0), (0, l3), (0, 8), (2, 188), (0, (w_up (w_up m 428 34 (w_32 ((m 428 34) + l2))) 428 67 (w_32 ((m 428 67) + l2))) 455 ((w_up (w_up m 428 34 (w_32 ((m 428 34) + l2))) 428 67 (w_32 ((m 428 67) + l2))) 468 l1))] [] rfl s_428 rfl rfl ?_
    refine w_C.more (Q := fun r1 m1 => _) h (fun r1 m1 h => ?_)
    replace h := id h
    refine w_pop rfl (show (0 : Nat) ≠ 1 by decide) ?_
    refine w_aload_n rfl rfl ?_
    refine w_aload_n rfl rfl ?_
    refine w_gfC (c := 468) rfl s_428 rfl rfl ?_
    refine w_iload_n rfl rfl ?_
    refine w_iald rfl s_468 (n := 61) rfl h.1 ?_
    replace h := h.2
    refine w_callV (t' := 3) [(0, m1 468 l1)] [] rfl s_428 rfl rfl ?_
    refine w_C.more (Q := fun r2 m2 => _) h (fun r2 m2 h => ?_)
    replace h := id h
    refine w_aload_n rfl rfl ?_
    refine w_iconst rfl (by decide) ?_
    refine w_pfI rfl s_428 rfl (w_EM (by decide)) rfl (kk := 88) rfl ?_
    refine w_iload_n rfl rfl ?_
    exact w_iret rfl rfl h
theorem xr_m_contentsOf {d : Nat} {l1 : Int} {m : w_M} {Q : Int → w_M → Prop} (h : ((0 : Int) ≤ l1 ∧ l1 < 200) ∧ (xc_m_rawEntry d (m 455 l1) 188 m (fun r1 m1 => xc_m_resolve d r1 m1 (fun r2 m2 => xc_m_isNothing d r2 m2 (fun r3 m3 => if r3 = 0 then (((0 : Int) ≤ r2 ∧ r2 < 40000) ∧ (if (m3 432 r2) = 6 then (((0 : Int) ≤ r2 ∧ r2 < 40000) ∧ (xp_m_contentsOf_76 d 0 (m3 436 r2) m3 Q)) else (xc_m_streamNumber d r1 m3 (fun r4 m4 => if r4 = 0 then (Q (-1) m4) else (((0 : Int) ≤ r4 ∧ r4 < 200) ∧ (Q (m4 459 r4) m4)))))) else (Q 0 m3)))))) : xc_m_contentsOf (d + 1) l1 m Q := by
  refine w_enter (q := 5) (lv := [some (2, 428), some (0, l1), none, none, none, none, none]) rfl rfl rfl ?_
  refine w_aload_n rfl rfl ?_
  refine w_aload_n rfl rfl ?_
  refine w_gfC (c := 455) rfl s_428 rfl rfl ?_
  refine w_iload_n rfl rfl ?_
  refine w_iald rfl s_455 (n := 200) rfl h.1 ?_
  replace h := h.2
  refine w_ldcwR rfl ?_
  refine w_callV (t' := 0) [(2, 188), (0, m 455 l1)] [] rfl s_428 rfl rfl ?_
  refine w_C.more (Q := fun r1 m1 => _) h (fun r1 m1 h => ?_)
  replace h := id h
  refine w_istore_n (lv' := [some (2, 428), some (0, l1), some (0, r1), none, none, none, none]) rfl rfl rfl ?_
  refine w_aload_n rfl rfl ?_
  refine w_iload_n rfl rfl ?_
  refine w_callV (t' := 0) [(0, r1)] [] rfl s_428 rfl rfl ?_
  refine w_C.more (Q := fun r2 m2 => _) h (fun r2 m2 h => ?_)
  replace h := id h
  refine w_istore_n (lv' := [some (2, 428), some (0, l1), some (0, r1), some (0, r2), none, none, none]) rfl rfl rfl ?_
  refine w_aload_n rfl rfl ?_
  refine w_iload_n rfl rfl ?_
  refine w_callV (t' := 0) [(0, r2)] [] rfl s_428 rfl rfl ?_
  refine w_C.more (Q := fun r3 m3 => _) h (fun r3 m3 h => ?_)
  replace h := id h
  refine w_ifeq rfl (w_ite h (fun h => ?_) (fun h => ?_))
  · refine w_aload_n rfl rfl ?_
    refine w_gfC (c := 432) rfl s_428 rfl rfl ?_
    refine w_iload_n rfl rfl ?_
    refine w_bald rfl s_432 (n := 40000) rfl h.1 ?_
    replace h := h.2
    refine w_bipush rfl (by decide) ?_
    refine w_iceq rfl (w_ite h (fun h => ?_) (fun h => ?_))
    · refine w_iconst rfl (by decide) ?_
      refine w_istore (lv' := [some (2, 428), some (0, l1), some (0, r1), some (0, r2), some (0, 0), none, none]) rfl rfl rfl ?_
      refine w_aload_n rfl rfl ?_
      refine w_gfC (c := 436) rfl s_428 rfl rfl ?_
      refine w_iload_n rfl rfl ?_
      refine w_iald rfl s_436 (n := 40000) rfl h.1 ?_
      replace h := h.2
      refine w_istore (lv' := [some (2, 428), some (0, l1), some (0, r1), some (0, r2), some (0, 0), some (0, m3 436 r2), none]) rfl rfl rfl ?_
      exact w_W.less h (w_sub [true, false, false, false, true, true, false] rfl)
    · refine w_aload_n rfl rfl ?_
      refine w_iload_n rfl rfl ?_
      refine w_callV (t' := 0) [(0, r1)] [] rfl s_428 rfl rfl ?_
      refine w_C.more (Q := fun r4 m4 => _) h (fun r4 m4 h => ?_)
      replace h := id h
      refine w_istore (lv' := [some (2, 428), some (0, l1), some (0, r1), some (0, r2), some (0, r4), none, none]) rfl rfl rfl ?_
      refine w_iload rfl rfl ?_
      refine w_ifne rfl (w_ite h (fun h => ?_) (fun h => ?_))
      · refine w_iconst rfl (by decide) ?_
        refine w_goto rfl ?_
        exact w_iret rfl rfl h
      · refine w_aload_n rfl rfl ?_
        refine w_gfC (c := 459) rfl s_428 rfl rfl ?_
        refine w_iload rfl rfl ?_
        refine w_iald rfl s_459 (n := 200) rfl h.1 ?_
        replace h := h.2
        exact w_iret rfl rfl h
  · refine w_iconst rfl (by decide) ?_
    exact w_iret rfl rfl h
theorem xr_m_contentsOf_76 {d : Nat} {l4 l5 : Int} {m : w_M} {Q : Int → w_M → Prop} (h : if l5 < 0 then (Q l4 m) else (xc_m_streamNumber d l5 m (fun r1 m1 => if r1 = 0 then (Q (-1) m1) else (((0 : Int) ≤ r1 ∧ r1 < 200) ∧ (((0 : Int) ≤ l5 ∧ l5 < 40000) ∧ (if (m1 437 l5) < 0 then (((0 : Int) ≤ l5 ∧ l5 < 40000) ∧ (xp_m_contentsOf_76 d (w_32 (l4 + (w_32 ((m1 459 r1) + 0)))) (m1 437 l5) m1 Q)) else (((0 : Int) ≤ l5 ∧ l5 < 40000) ∧ (xp_m_contentsOf_76 d (w_32 (l4 + (w_32 ((m1 459 r1) + 1)))) (m1 437 l5) m1 Q)))))))) : xp_m_contentsOf_76 d l4 l5 m Q := by
  refine w_iload rfl rfl ?_
  refine w_iflt rfl (w_ite h (fun h => ?_) (fun h => ?_))
  · refine w_iload rfl rfl ?_
    exact w_iret rfl rfl h
  · refine w_aload_n rfl rfl ?_
    refine w_iload rfl rfl ?_
    refine w_callV (t' := 0) [(0, l5)] [] rfl s_428 rfl rfl ?_
    refine w_C.more (Q := fun r1 m1 => _) h (fun r1 m1 h => ?_)
    replace h := id h
    refine w_istore (lv' := [some (2, 428), none, none, none, some (0, l4), some (0, l5), some (0, r1)]) rfl rfl rfl ?_
    refine w_iload rfl rfl ?_
    refine w_ifne rfl (w_ite h (fun h => ?_) (fun h => ?_))
    · refine w_iconst rfl (by decide) ?_
      exact w_iret rfl rfl h
    · refine w_iload rfl rfl ?_
      refine w_aload_n rfl rfl ?_
      refine w_gfC (c := 459) rfl s_428 rfl rfl ?_
      refine w_iload rfl rfl ?_
      refine w_iald rfl s_459 (n := 200) rfl h.1 ?_
      replace h := h.2
      refine w_aload_n rfl rfl ?_
      refine w_gfC (c := 437) rfl s_428 rfl rfl ?_
      refine w_iload rfl rfl ?_
      refine w_iald rfl s_437 (n := 40000) rfl h.1 ?_
      replace h := h.2
      refine w_iflt rfl (w_ite h (fun h => ?_) (fun h => ?_))
      · refine w_iconst rfl (by decide) ?_
        refine w_iadd rfl ?_
        refine w_iadd rfl ?_
        refine w_istore (lv' := [some (2, 428), none, none, none, some (0, w_32 (l4 + (w_32 ((m1 459 r1) + 0)))), some (0, l5), some (0, r1)]) rfl rfl rfl ?_
        refine w_aload_n rfl rfl ?_
        refine w_gfC (c := 437) rfl s_428 rfl rfl ?_
        refine w_iload rfl rfl ?_
        refine w_iald rfl s_437 (n := 40000) rfl h.1 ?_
        replace h := h.2
        refine w_istore (lv' := [some (2, 428), none, none, none, some (0, w_32 (l4 + (w_32 ((m1 459 r1) + 0)))), some (0, m1 437 l5), some (0, r1)]) rfl rfl rfl ?_
        refine w_goto rfl ?_
        exact w_W.less h (w_sub [true, false, false, false, true, true, false] rfl)
      · refine w_iconst rfl (by decide) ?_
        refine w_goto rfl ?_
        refine w_iadd rfl ?_
        refine w_iadd rfl ?_
        refine w_istore (lv' := [some (2, 428), none, none, none, some (0, w_32 (l4 + (w_32 ((m1 459 r1) + 1)))), some (0, l5), some (0, r1)]) rfl rfl rfl ?_
        refine w_aload_n rfl rfl ?_
        refine w_gfC (c := 437) rfl s_428 rfl rfl ?_
        refine w_iload rfl rfl ?_
        refine w_iald rfl s_437 (n := 40000) rfl h.1 ?_
        replace h := h.2
        refine w_istore (lv' := [some (2, 428), none, none, none, some (0, w_32 (l4 + (w_32 ((m1 459 r1) + 1)))), some (0, m1 437 l5), some (0, r1)]) rfl rfl rfl ?_
        refine w_goto rfl ?_
        exact w_W.less h (w_sub [true, false, false, false, true, true, false] rfl)
theorem xr_m_count {d : Nat} {l1 : Int} {m : w_M} {Q : Int → w_M → Prop} (h : if (m 428 6) = 0 then (Q (-1) m) else (xp_m_count_13 d l1 0 0 m Q)) : xc_m_count (d + 1) l1 m Q := by
  refine w_enter (q := 2) (lv := [some (2, 428), some (0, l1), none, none]) rfl rfl rfl ?_
  refine w_aload_n rfl rfl ?_
  refine x_gfZ rfl s_428 rfl (kk := 6) rfl rfl ?_
  refine w_ifne rfl (w_ite h (fun h => ?_) (fun h => ?_))
  · refine w_iconst rfl (by decide) ?_
    exact w_iret rfl rfl h
  · refine w_iconst rfl (by decide) ?_
    refine w_istore_n (lv' := [some (2, 428), some (0, l1), some (0, 0), none]) rfl rfl rfl ?_
    refine w_iconst rfl (by decide) ?_
    refine w_istore_n (lv' := [some (2, 428), some (0, l1), some (0, 0), some (0, 0)]) rfl rfl rfl ?_
    exact w_W.less h (w_sub [true, true, true, true] rfl)
theorem xr_m_count_13 {d : Nat} {l1 l2 l3 : Int} {m : w_M} {Q : Int → w_M → Prop} (h : if l3 < (m 428 60) then (((0 : Int) ≤ l3 ∧ l3 < 200) ∧ (if (m 460 l3) = 0 then (xp_m_count_13 d l1 (w_32 (l2 + 0)) (w_32 (l3 + 1)) m Q) else (xp_m_count_13 d l1 (w_32 (l2 + 1)) (w_32 (l3 + 1)) m Q))) else (if l1 = 0 then (Q (m 428 60) m) else (if l1 = 1 then (Q (m 428 81) m) else (if l1 = 2 then (Q (m 428 82) m) else (if l1 = 3 then (Q (m 428 61) m) else (if l1 = 4 then (if (m 428 63) = 0 then (Q 0 m) else (Q 1 m)) else (if l1 = 5 then (Q (w_32 (m 463 0)) m) else (if l1 = 6 then (Q l2 m) else (Q (-1) m))))))))) : xp_m_count_13 d l1 l2 l3 m Q := by
  refine w_iload_n rfl rfl ?_
  refine w_aload_n rfl rfl ?_
  refine x_gfI rfl s_428 rfl (kk := 60) rfl rfl ?_
  refine w_icge rfl (w_ite h (fun h => ?_) (fun h => ?_))
  · refine w_iload_n rfl rfl ?_
    refine w_aload_n rfl rfl ?_
    refine w_gfC (c := 460) rfl s_428 rfl rfl ?_
    refine w_iload_n rfl rfl ?_
    refine w_zald rfl s_460 (n := 200) rfl h.1 ?_
    replace h := h.2
    refine w_ifeq rfl (w_ite h (fun h => ?_) (fun h => ?_))
    · refine w_iconst rfl (by decide) ?_
      refine w_iadd rfl ?_
      refine w_istore_n (lv' := [some (2, 428), some (0, l1), some (0, w_32 (l2 + 0)), some (0, l3)]) rfl rfl rfl ?_
      refine w_iinc (lv' := [some (2, 428), some (0, l1), some (0, w_32 (l2 + 0)), some (0, w_32 (l3 + 1))]) rfl rfl rfl rfl ?_
      refine w_goto rfl ?_
      exact w_W.less h (w_sub [true, true, true, true] rfl)
    · refine w_iconst rfl (by decide) ?_
      refine w_goto rfl ?_
      refine w_iadd rfl ?_
      refine w_istore_n (lv' := [some (2, 428), some (0, l1), some (0, w_32 (l2 + 1)), some (0, l3)]) rfl rfl rfl ?_
      refine w_iinc (lv' := [some (2, 428), some (0, l1), some (0, w_32 (l2 + 1)), some (0, w_32 (l3 + 1))]) rfl rfl rfl rfl ?_
      refine w_goto rfl ?_
      exact w_W.less h (w_sub [true, true, true, true] rfl)
  · refine w_iload_n rfl rfl ?_
    refine w_tswitch (pd := 131) [(0, 88), (1, 93), (2, 98), (3, 103), (4, 108), (5, 121), (6, 129)] rfl rfl (by decide) (w_tsw_ok _ _ (by decide)) (by decide) ?_
    refine w_ite h (fun h => ?_) (fun h => ?_)
    · refine w_aload_n rfl rfl ?_
      refine x_gfI rfl s_428 rfl (kk := 60) rfl rfl ?_
      exact w_iret rfl rfl h
    ·
      refine w_ite h (fun h => ?_) (fun h => ?_)
      · refine w_aload_n rfl rfl ?_
        refine x_gfI rfl s_428 rfl (kk := 81) rfl rfl ?_
        exact w_iret rfl rfl h
      ·
        refine w_ite h (fun h => ?_) (fun h => ?_)
        · refine w_aload_n rfl rfl ?_
          refine x_gfI rfl s_428 rfl (kk := 82) rfl rfl ?_
          exact w_iret rfl rfl h
        ·
          refine w_ite h (fun h => ?_) (fun h => ?_)
          · refine w_aload_n rfl rfl ?_
            refine x_gfI rfl s_428 rfl (kk := 61) rfl rfl ?_
            exact w_iret rfl rfl h
          ·
            refine w_ite h (fun h => ?_) (fun h => ?_)
            · refine w_aload_n rfl rfl ?_
              refine x_gfZ rfl s_428 rfl (kk := 63) rfl rfl ?_
              refine w_ifeq rfl (w_ite h (fun h => ?_) (fun h => ?_))
              · refine w_iconst rfl (by decide) ?_
                exact w_iret rfl rfl h
              · refine w_iconst rfl (by decide) ?_
                refine w_goto rfl ?_
                exact w_iret rfl rfl h
            ·
              refine w_ite h (fun h => ?_) (fun h => ?_)
              · refine w_aload_n rfl rfl ?_
                refine w_gfC (c := 463) rfl s_428 rfl rfl ?_
                refine w_iconst rfl (by decide) ?_
                refine w_lald rfl s_463 (w_EM (by decide)) (n := 12) rfl (by decide) ?_
                refine w_l2i rfl ?_
                exact w_iret rfl rfl h
              ·
                refine w_ite h (fun h => ?_) (fun h => ?_)
                · refine w_iload_n rfl rfl ?_
                  exact w_iret rfl rfl h
                · refine w_iconst rfl (by decide) ?_
                  exact w_iret rfl rfl h
theorem xr_m_countTo {d : Nat} {l1 l2 : Int} {m : w_M} {Q : Int → w_M → Prop} (h : xp_m_countTo_2 d l2 l1 m Q) : xc_m_countTo (d + 1) l1 l2 m Q := by
  refine w_enter (q := 2) (lv := [some (2, 428), some (0, l1), some (0, l2), none, none]) rfl rfl rfl ?_
  refine w_iload_n rfl rfl ?_
  refine w_istore_n (lv' := [some (2, 428), some (0, l1), some (0, l2), some (0, l1), none]) rfl rfl rfl ?_
  exact w_W.less h (w_sub [true, false, true, true, false] rfl)
theorem xr_m_countTo_2 {d : Nat} {l2 l3 : Int} {m : w_M} {Q : Int → w_M → Prop} (h : if l3 = 0 then (Q 0 m) else (((0 : Int) ≤ l3 ∧ l3 < 200) ∧ (xc_m_entry d (m 455 l3) 190 m (fun r1 m1 => ((0 : Int) ≤ r1 ∧ r1 < 40000) ∧ (((0 : Int) ≤ l3 ∧ l3 < 200) ∧ (xc_m_entryTo d (m1 455 l3) 190 2 (w_32 ((m1 433 r1) + l2)) 0 m1 (fun r2 m2 => xc_m_changed d l3 m2 (fun r3 m3 => ((0 : Int) ≤ l3 ∧ l3 < 200) ∧ (xp_m_countTo_2 d l2 (m3 469 l3) m3 Q))))))))) : xp_m_countTo_2 d l2 l3 m Q := by
  refine w_iload_n rfl rfl ?_
  refine w_ifeq rfl (w_ite h (fun h => ?_) (fun h => ?_))
  · exact w_vret rfl rfl h
  · refine w_aload_n rfl rfl ?_
    refine w_gfC (c := 433) rfl s_428 rfl rfl ?_
    refine w_aload_n rfl rfl ?_
    refine w_aload_n rfl rfl ?_
    refine w_gfC (c := 455) rfl s_428 rfl rfl ?_
    refine w_iload_n rfl rfl ?_
    refine w_iald rfl s_455 (n := 200) rfl h.1 ?_
    replace h := h.2
    refine w_ldcwR rfl ?_
    refine w_callV (t' := 0) [(2, 190), (0, m 455 l3)] [(2, 433)] rfl s_428 rfl rfl ?_
    refine w_C.more (Q := fun r1 m1 => _) h (fun r1 m1 h => ?_)
    replace h := id h
    refine w_iald rfl s_433 (n := 40000) rfl h.1 ?_
    replace h := h.2
    refine w_iload_n rfl rfl ?_
    refine w_iadd rfl ?_
    refine w_istore (lv' := [some (2, 428), none, some (0, l2), some (0, l3), some (0, w_32 ((m1 433 r1) + l2))]) rfl rfl rfl ?_
    refine w_aload_n rfl rfl ?_
    refine w_aload_n rfl rfl ?_
    refine w_gfC (c := 455) rfl s_428 rfl rfl ?_
    refine w_iload_n rfl rfl ?_
    refine w_iald rfl s_455 (n := 200) rfl h.1 ?_
    replace h := h.2
    refine w_ldcwR rfl ?_
    refine w_iconst rfl (by decide) ?_
    refine w_iload rfl rfl ?_
    refine w_iconst rfl (by decide) ?_
    refine w_callV (t' := 0) [(0, 0), (0, w_32 ((m1 433 r1) + l2)), (0, 2), (2, 190), (0, m1 455 l3)] [] rfl s_428 rfl rfl ?_
    refine w_C.more (Q := fun r2 m2 => _) h (fun r2 m2 h => ?_)
    replace h := id h
    refine w_pop rfl (show (0 : Nat) ≠ 1 by decide) ?_
    refine w_aload_n rfl rfl ?_
    refine w_iload_n rfl rfl ?_
    refine w_callV (t' := 3) [(0, l3)] [] rfl s_428 rfl rfl ?_
    refine w_C.more (Q := fun r3 m3 => _) h (fun r3 m3 h => ?_)
    replace h := id h
    refine w_aload_n rfl rfl ?_
    refine w_gfC (c := 469) rfl s_428 rfl rfl ?_
    refine w_iload_n rfl rfl ?_
    refine w_iald rfl s_469 (n := 200) rfl h.1 ?_
    replace h := h.2
    refine w_istore_n (lv' := [some (2, 428), none, some (0, l2), some (0, m3 469 l3), some (0, w_32 ((m1 433 r1) + l2))]) rfl rfl rfl ?_
    refine w_goto rfl ?_
    exact w_W.less h (w_sub [true, false, true, true, false] rfl)
theorem xr_m_counted {d : Nat} {m : w_M} {Q : Int → w_M → Prop} (h : if (m 428 22) = 4 then (xp_m_counted_49 d (m 428 31) (m 428 26) (w_up m 428 29 (w_32 ((m 428 29) + 1))) Q) else (if (m 428 22) = 5 then (xp_m_counted_49 d (m 428 31) (m 428 26) (w_up m 428 29 (w_32 ((m 428 29) + 1))) Q) else (xp_m_counted_49 d (m 428 31) 0 (w_up m 428 29 (w_32 ((m 428 29) + 1))) Q))) : xc_m_counted (d + 1) m Q := by
  refine w_enter (q := 1) (lv := [some (2, 428), none]) rfl rfl rfl ?_
  refine w_aload_n rfl rfl ?_
  refine w_dup rfl (show (2 : Nat) ≠ 1 by decide) ?_
  refine x_gfI rfl s_428 rfl (kk := 29) rfl rfl ?_
  refine w_iconst rfl (by decide) ?_
  refine w_iadd rfl ?_
  refine w_pfI rfl s_428 rfl (w_EM (by decide)) rfl (kk := 29) rfl ?_
  refine w_aload_n rfl rfl ?_
  refine x_gfI rfl s_428 rfl (kk := 22) rfl (w_up_nb (by decide)) ?_
  refine w_iconst rfl (by decide) ?_
  refine w_iceq rfl (w_ite h (fun h => ?_) (fun h => ?_))
  · refine w_iconst rfl (by decide) ?_
    refine w_goto rfl ?_
    refine w_istore_n (lv' := [some (2, 428), some (0, 1)]) rfl rfl rfl ?_
    refine w_aload_n rfl rfl ?_
    refine w_dup rfl (show (2 : Nat) ≠ 1 by decide) ?_
    refine x_gfI rfl s_428 rfl (kk := 31) rfl (w_up_nb (by decide)) ?_
    refine w_iload_n rfl rfl ?_
    refine w_ifeq rfl (w_iff (by decide) ?_)
    refine w_aload_n rfl rfl ?_
    refine x_gfI rfl s_428 rfl (kk := 26) rfl (w_up_nb (by decide)) ?_
    refine w_goto rfl ?_
    exact w_W.less h (w_sub [true, false] rfl)
  · refine w_aload_n rfl rfl ?_
    refine x_gfI rfl s_428 rfl (kk := 22) rfl (w_up_nb (by decide)) ?_
    refine w_iconst rfl (by decide) ?_
    refine w_icne rfl (w_ite h (fun h => ?_) (fun h => ?_))
    · refine w_iconst rfl (by decide) ?_
      refine w_goto rfl ?_
      refine w_istore_n (lv' := [some (2, 428), some (0, 1)]) rfl rfl rfl ?_
      refine w_aload_n rfl rfl ?_
      refine w_dup rfl (show (2 : Nat) ≠ 1 by decide) ?_
      refine x_gfI rfl s_428 rfl (kk := 31) rfl (w_up_nb (by decide)) ?_
      refine w_iload_n rfl rfl ?_
      refine w_ifeq rfl (w_iff (by decide) ?_)
      refine w_aload_n rfl rfl ?_
      refine x_gfI rfl s_428 rfl (kk := 26) rfl (w_up_nb (by decide)) ?_
      refine w_goto rfl ?_
      exact w_W.less h (w_sub [true, false] rfl)
    · refine w_iconst rfl (by decide) ?_
      refine w_istore_n (lv' := [some (2, 428), some (0, 0)]) rfl rfl rfl ?_
      refine w_aload_n rfl rfl ?_
      refine w_dup rfl (show (2 : Nat) ≠ 1 by decide) ?_
      refine x_gfI rfl s_428 rfl (kk := 31) rfl (w_up_nb (by decide)) ?_
      refine w_iload_n rfl rfl ?_
      refine w_ifeq rfl (w_ift (by decide) ?_)
      refine w_iconst rfl (by decide) ?_
      exact w_W.less h (w_sub [true, false] rfl)
theorem xr_m_counted_49 {d : Nat} {s1 s2 : Int} {m : w_M} {Q : Int → w_M → Prop} (h : if (m 428 30) < (m 428 29) then (xc_m_fail d 5 (m 428 23) (w_up m 428 31 (w_32 (s1 + s2))) (fun r1 m1 => Q 0 m1)) else (if (m 428 32) = 0 then (Q 0 (w_up m 428 31 (w_32 (s1 + s2)))) else (if 60000 < (w_32 (s1 + s2)) then (xc_m_fail d 5 (m 428 23) (w_up m 428 31 (w_32 (s1 + s2))) (fun r2 m2 => Q 0 m2)) else (Q 0 (w_up m 428 31 (w_32 (s1 + s2))))))) : xp_m_counted_49 d s1 s2 m Q := by
  refine w_iadd rfl ?_
  refine w_pfI rfl s_428 rfl (w_EM (by decide)) rfl (kk := 31) rfl ?_
  refine w_aload_n rfl rfl ?_
  refine x_gfI rfl s_428 rfl (kk := 29) rfl (w_up_nb (by decide)) ?_
  refine w_aload_n rfl rfl ?_
  refine x_gfI rfl s_428 rfl (kk := 30) rfl (w_up_nb (by decide)) ?_
  refine w_icgt rfl (w_ite h (fun h => ?_) (fun h => ?_))
  · refine w_aload_n rfl rfl ?_
    refine w_iconst rfl (by decide) ?_
    refine w_aload_n rfl rfl ?_
    refine x_gfI rfl s_428 rfl (kk := 23) rfl (w_up_nb (by decide)) ?_
    refine w_callV (t' := 3) [(0, m 428 23), (0, 5)] [] rfl s_428 rfl rfl ?_
    refine w_C.more (Q := fun r1 m1 => _) h (fun r1 m1 h => ?_)
    replace h := id h
    exact w_vret rfl rfl h
  · refine w_aload_n rfl rfl ?_
    refine x_gfZ rfl s_428 rfl (kk := 32) rfl (w_up_nb (by decide)) ?_
    refine w_ifeq rfl (w_ite h (fun h => ?_) (fun h => ?_))
    · exact w_vret rfl rfl h
    · refine w_aload_n rfl rfl ?_
      refine x_gfI rfl s_428 rfl (kk := 31) rfl (w_up_eq) ?_
      refine w_ldcw (a := 60000) rfl (by decide +kernel) (by decide) ?_
      refine w_icle rfl (w_ite h (fun h => ?_) (fun h => ?_))
      · refine w_aload_n rfl rfl ?_
        refine w_iconst rfl (by decide) ?_
        refine w_aload_n rfl rfl ?_
        refine x_gfI rfl s_428 rfl (kk := 23) rfl (w_up_nb (by decide)) ?_
        refine w_callV (t' := 3) [(0, m 428 23), (0, 5)] [] rfl s_428 rfl rfl ?_
        refine w_C.more (Q := fun r2 m2 => _) h (fun r2 m2 h => ?_)
        replace h := id h
        exact w_vret rfl rfl h
      · exact w_vret rfl rfl h
theorem xr_m_cut {d : Nat} {l1 : Int} {m : w_M} {Q : Int → w_M → Prop} (h : if l1 < 0 then (Q (-1) m) else (if (m 428 1) < l1 then (Q (-1) m) else (Q (w_32 ((m 428 1) - l1)) (w_up m 428 1 l1)))) : xc_m_cut (d + 1) l1 m Q := by
  refine w_enter (q := 1) (lv := [some (2, 428), some (0, l1), none]) rfl rfl rfl ?_
  refine w_iload_n rfl rfl ?_
  refine w_iflt rfl (w_ite h (fun h => ?_) (fun h => ?_))
  · refine w_iconst rfl (by decide) ?_
    exact w_iret rfl rfl h
  · refine w_iload_n rfl rfl ?_
    refine w_aload_n rfl rfl ?_
    refine x_gfI rfl s_428 rfl (kk := 1) rfl rfl ?_
    refine w_icle rfl (w_ite h (fun h => ?_) (fun h => ?_))
    · refine w_iconst rfl (by decide) ?_
      exact w_iret rfl rfl h
    · refine w_aload_n rfl rfl ?_
      refine x_gfI rfl s_428 rfl (kk := 1) rfl rfl ?_
      refine w_iload_n rfl rfl ?_
      refine w_isub rfl ?_
      refine w_istore_n (lv' := [some (2, 428), some (0, l1), some (0, w_32 ((m 428 1) - l1))]) rfl rfl rfl ?_
      refine w_aload_n rfl rfl ?_
      refine w_iload_n rfl rfl ?_
      refine w_pfI rfl s_428 rfl (w_EM (by decide)) rfl (kk := 1) rfl ?_
      refine w_iload_n rfl rfl ?_
      exact w_iret rfl rfl h
