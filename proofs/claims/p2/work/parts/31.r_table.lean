/-! ===== regions (printed by program): ta_.* ===== -/
set_option maxRecDepth 100000
theorem xr_ta_beginOf {d : Nat} {l1 : Int} {m : w_M} {Q : Int → w_M → Prop} (h : xc_ta_isStream d l1 m (fun r1 m1 => if r1 = 0 then (Q 0 m1) else (((0 : Int) ≤ l1 ∧ l1 < 200) ∧ (Q (m1 371 l1) m1)))) : xc_ta_beginOf (d + 1) l1 m Q := by
  refine w_enter (q := 0) (lv := [some (2, 366), some (0, l1)]) rfl rfl rfl ?_
  refine w_aload_n rfl rfl ?_
  refine w_iload_n rfl rfl ?_
  refine w_callV (t' := 0) [(0, l1)] [] rfl s_366 rfl rfl ?_
  refine w_C.more (Q := fun r1 m1 => _) h (fun r1 m1 h => ?_)
  replace h := id h
  refine w_ifeq rfl (w_ite h (fun h => ?_) (fun h => ?_))
  · refine w_iconst rfl (by decide) ?_
    exact w_iret rfl rfl h
  · refine w_aload_n rfl rfl ?_
    refine w_gfC (c := 371) rfl s_366 rfl rfl ?_
    refine w_iload_n rfl rfl ?_
    refine w_iald rfl s_371 (n := 200) rfl h.1 ?_
    replace h := h.2
    refine w_goto rfl ?_
    exact w_iret rfl rfl h
theorem xr_ta_byteOf {d : Nat} {l1 l2 : Int} {m : w_M} {Q : Int → w_M → Prop} (h : xc_ta_isStream d l1 m (fun r1 m1 => if r1 = 0 then (Q (-1) m1) else (if l2 < 0 then (Q (-1) m1) else (((0 : Int) ≤ l1 ∧ l1 < 200) ∧ (if l2 < (m1 372 l1) then (((0 : Int) ≤ l1 ∧ l1 < 200) ∧ (if (w_32 ((m1 371 l1) + l2)) < 0 then (Q (-1) m1) else (if (w_32 ((m1 371 l1) + l2)) < 40000 then (((0 : Int) ≤ (w_32 ((m1 371 l1) + l2)) ∧ (w_32 ((m1 371 l1) + l2)) < 40000) ∧ (Q ((m1 375 (w_32 ((m1 371 l1) + l2))) % 256) m1)) else (Q (-1) m1)))) else (Q (-1) m1)))))) : xc_ta_byteOf (d + 1) l1 l2 m Q := by
  refine w_enter (q := 1) (lv := [some (2, 366), some (0, l1), some (0, l2), none]) rfl rfl rfl ?_
  refine w_aload_n rfl rfl ?_
  refine w_iload_n rfl rfl ?_
  refine w_callV (t' := 0) [(0, l1)] [] rfl s_366 rfl rfl ?_
  refine w_C.more (Q := fun r1 m1 => _) h (fun r1 m1 h => ?_)
  replace h := id h
  refine w_ifeq rfl (w_ite h (fun h => ?_) (fun h => ?_))
  · refine w_iconst rfl (by decide) ?_
    exact w_iret rfl rfl h
  · refine w_iload_n rfl rfl ?_
    refine w_iflt rfl (w_ite h (fun h => ?_) (fun h => ?_))
    · refine w_iconst rfl (by decide) ?_
      exact w_iret rfl rfl h
    · refine w_iload_n rfl rfl ?_
      refine w_aload_n rfl rfl ?_
      refine w_gfC (c := 372) rfl s_366 rfl rfl ?_
      refine w_iload_n rfl rfl ?_
      refine w_iald rfl s_372 (n := 200) rfl h.1 ?_
      replace h := h.2
      refine w_iclt rfl (w_ite h (fun h => ?_) (fun h => ?_))
      · refine w_aload_n rfl rfl ?_
        refine w_gfC (c := 371) rfl s_366 rfl rfl ?_
        refine w_iload_n rfl rfl ?_
        refine w_iald rfl s_371 (n := 200) rfl h.1 ?_
        replace h := h.2
        refine w_iload_n rfl rfl ?_
        refine w_iadd rfl ?_
        refine w_istore_n (lv' := [some (2, 366), some (0, l1), some (0, l2), some (0, w_32 ((m1 371 l1) + l2))]) rfl rfl rfl ?_
        refine w_iload_n rfl rfl ?_
        refine w_iflt rfl (w_ite h (fun h => ?_) (fun h => ?_))
        · refine w_iconst rfl (by decide) ?_
          exact w_iret rfl rfl h
        · refine w_iload_n rfl rfl ?_
          refine w_aload_n rfl rfl ?_
          refine w_gfC (c := 375) rfl s_366 rfl rfl ?_
          refine w_len rfl s_375 (by decide) (n := 40000) rfl (by decide) ?_
          refine w_icge rfl (w_ite h (fun h => ?_) (fun h => ?_))
          · refine w_aload_n rfl rfl ?_
            refine w_gfC (c := 375) rfl s_366 rfl rfl ?_
            refine w_iload_n rfl rfl ?_
            refine w_bald rfl s_375 (n := 40000) rfl h.1 ?_
            replace h := h.2
            refine w_sipush rfl (by decide) ?_
            refine w_iandm 8 (c := 256) rfl (by decide) rfl rfl ?_
            refine w_goto rfl ?_
            exact w_iret rfl rfl h
          · refine w_iconst rfl (by decide) ?_
            exact w_iret rfl rfl h
      · refine w_iconst rfl (by decide) ?_
        exact w_iret rfl rfl h
theorem xr_ta_changes {d : Nat} {m : w_M} {Q : Int → w_M → Prop} (h : xp_ta_changes_4 d 0 1 m Q) : xc_ta_changes (d + 1) m Q := by
  refine w_enter (q := 2) (lv := [some (2, 366), none, none]) rfl rfl rfl ?_
  refine w_iconst rfl (by decide) ?_
  refine w_istore_n (lv' := [some (2, 366), some (0, 0), none]) rfl rfl rfl ?_
  refine w_iconst rfl (by decide) ?_
  refine w_istore_n (lv' := [some (2, 366), some (0, 0), some (0, 1)]) rfl rfl rfl ?_
  exact w_W.less h (w_sub [true, true, true] rfl)
theorem xr_ta_changes_4 {d : Nat} {l1 l2 : Int} {m : w_M} {Q : Int → w_M → Prop} (h : if l2 < 200 then (xc_ta_isChanged d l2 m (fun r1 m1 => if r1 = 0 then (xp_ta_changes_4 d l1 (w_32 (l2 + 1)) m1 Q) else (xp_ta_changes_4 d (w_32 (l1 + 1)) (w_32 (l2 + 1)) m1 Q))) else (Q l1 m)) : xp_ta_changes_4 d l1 l2 m Q := by
  refine w_iload_n rfl rfl ?_
  refine w_sipush rfl (by decide) ?_
  refine w_icge rfl (w_ite h (fun h => ?_) (fun h => ?_))
  · refine w_aload_n rfl rfl ?_
    refine w_iload_n rfl rfl ?_
    refine w_callV (t' := 0) [(0, l2)] [] rfl s_366 rfl rfl ?_
    refine w_C.more (Q := fun r1 m1 => _) h (fun r1 m1 h => ?_)
    replace h := id h
    refine w_ifeq rfl (w_ite h (fun h => ?_) (fun h => ?_))
    · refine w_iinc (lv' := [some (2, 366), some (0, l1), some (0, w_32 (l2 + 1))]) rfl rfl rfl rfl ?_
      refine w_goto rfl ?_
      exact w_W.less h (w_sub [true, true, true] rfl)
    · refine w_iinc (lv' := [some (2, 366), some (0, w_32 (l1 + 1)), some (0, l2)]) rfl rfl rfl rfl ?_
      refine w_iinc (lv' := [some (2, 366), some (0, w_32 (l1 + 1)), some (0, w_32 (l2 + 1))]) rfl rfl rfl rfl ?_
      refine w_goto rfl ?_
      exact w_W.less h (w_sub [true, true, true] rfl)
  · refine w_iload_n rfl rfl ?_
    exact w_iret rfl rfl h
theorem xr_ta_clear {d : Nat} {m : w_M} {Q : Int → w_M → Prop} (h : xp_ta_clear_2 d 0 m Q) : xc_ta_clear (d + 1) m Q := by
  refine w_enter (q := 1) (lv := [some (2, 366), none]) rfl rfl rfl ?_
  refine w_iconst rfl (by decide) ?_
  refine w_istore_n (lv' := [some (2, 366), some (0, 0)]) rfl rfl rfl ?_
  exact w_W.less h (w_sub [true, true] rfl)
theorem xr_ta_clear_2 {d : Nat} {l1 : Int} {m : w_M} {Q : Int → w_M → Prop} (h : if l1 < 200 then (((0 : Int) ≤ l1 ∧ l1 < 200) ∧ (((0 : Int) ≤ l1 ∧ l1 < 200) ∧ (((0 : Int) ≤ l1 ∧ l1 < 200) ∧ (((0 : Int) ≤ l1 ∧ l1 < 200) ∧ (((0 : Int) ≤ l1 ∧ l1 < 200) ∧ (((0 : Int) ≤ l1 ∧ l1 < 200) ∧ (xp_ta_clear_2 d (w_32 (l1 + 1)) (w_up (w_up (w_up (w_up (w_up (w_up m 367 l1 0) 370 l1 (-1)) 371 l1 (-1)) 372 l1 0) 373 l1 0) 374 l1 0) Q))))))) else (Q 0 (w_up (w_up (w_up (w_up (w_up m 367 0 1) 366 10 0) 366 11 200) 366 13 0) 366 14 0))) : xp_ta_clear_2 d l1 m Q := by
  refine w_iload_n rfl rfl ?_
  refine w_sipush rfl (by decide) ?_
  refine w_icge rfl (w_ite h (fun h => ?_) (fun h => ?_))
  · refine w_aload_n rfl rfl ?_
    refine w_gfC (c := 367) rfl s_366 rfl rfl ?_
    refine w_iload_n rfl rfl ?_
    refine w_iconst rfl (by decide) ?_
    refine w_iast rfl s_367 (w_EC (by decide)) (n := 200) rfl h.1 ?_
    replace h := h.2
    refine w_aload_n rfl rfl ?_
    refine w_gfC (c := 370) rfl s_366 rfl rfl ?_
    refine w_iload_n rfl rfl ?_
    refine w_iconst rfl (by decide) ?_
    refine w_iast rfl s_370 (w_EC (by decide)) (n := 200) rfl h.1 ?_
    replace h := h.2
    refine w_aload_n rfl rfl ?_
    refine w_gfC (c := 371) rfl s_366 rfl rfl ?_
    refine w_iload_n rfl rfl ?_
    refine w_iconst rfl (by decide) ?_
    refine w_iast rfl s_371 (w_EC (by decide)) (n := 200) rfl h.1 ?_
    replace h := h.2
    refine w_aload_n rfl rfl ?_
    refine w_gfC (c := 372) rfl s_366 rfl rfl ?_
    refine w_iload_n rfl rfl ?_
    refine w_iconst rfl (by decide) ?_
    refine w_iast rfl s_372 (w_EC (by decide)) (n := 200) rfl h.1 ?_
    replace h := h.2
    refine w_aload_n rfl rfl ?_
    refine w_gfC (c := 373) rfl s_366 rfl rfl ?_
    refine w_iload_n rfl rfl ?_
    refine w_iconst rfl (by decide) ?_
    refine w_zast rfl s_373 (w_EC (by decide)) (n := 200) rfl h.1 (by decide) ?_
    replace h := h.2
    refine w_aload_n rfl rfl ?_
    refine w_gfC (c := 374) rfl s_366 rfl rfl ?_
    refine w_iload_n rfl rfl ?_
    refine w_iconst rfl (by decide) ?_
    refine w_zast rfl s_374 (w_EC (by decide)) (n := 200) rfl h.1 (by decide) ?_
    replace h := h.2
    refine w_iinc (lv' := [some (2, 366), some (0, w_32 (l1 + 1))]) rfl rfl rfl rfl ?_
    refine w_goto rfl ?_
    exact w_W.less h (w_sub [true, true] rfl)
  · refine w_aload_n rfl rfl ?_
    refine w_gfC (c := 367) rfl s_366 rfl rfl ?_
    refine w_iconst rfl (by decide) ?_
    refine w_iconst rfl (by decide) ?_
    refine w_iast rfl s_367 (w_EC (by decide)) (n := 200) rfl (by decide) ?_
    refine w_aload_n rfl rfl ?_
    refine w_iconst rfl (by decide) ?_
    refine w_pfI rfl s_366 rfl (w_EC (by decide)) rfl (kk := 10) rfl ?_
    refine w_aload_n rfl rfl ?_
    refine w_sipush rfl (by decide) ?_
    refine w_pfI rfl s_366 rfl (w_EC (by decide)) rfl (kk := 11) rfl ?_
    refine w_aload_n rfl rfl ?_
    refine w_iconst rfl (by decide) ?_
    refine w_pfI rfl s_366 rfl (w_EC (by decide)) rfl (kk := 13) rfl ?_
    refine w_aload_n rfl rfl ?_
    refine w_iconst rfl (by decide) ?_
    refine w_pfI rfl s_366 rfl (w_EC (by decide)) rfl (kk := 14) rfl ?_
    exact w_vret rfl rfl h
theorem xr_ta_close {d : Nat} {l1 : Int} {m : w_M} {Q : Int → w_M → Prop} (h : xp_ta_close_21 d 0 (w_up (w_up m 366 11 (min l1 200)) 366 12 (min l1 200)) Q) : xc_ta_close (d + 1) l1 m Q := by
  refine w_enter (q := 1) (lv := [some (2, 366), some (0, l1), none]) rfl rfl rfl ?_
  refine w_aload_n rfl rfl ?_
  refine w_iload_n rfl rfl ?_
  refine w_sipush rfl (by decide) ?_
  refine w_min rfl rfl ?_
  refine w_pfI rfl s_366 rfl (w_EC (by decide)) rfl (kk := 11) rfl ?_
  refine w_aload_n rfl rfl ?_
  refine w_aload_n rfl rfl ?_
  refine x_gfI rfl s_366 rfl (kk := 11) rfl (w_up_eq) ?_
  refine w_pfI rfl s_366 rfl (w_EC (by decide)) rfl (kk := 12) rfl ?_
  refine w_iconst rfl (by decide) ?_
  refine w_istore_n (lv' := [some (2, 366), some (0, l1), some (0, 0)]) rfl rfl rfl ?_
  exact w_W.less h (w_sub [true, false, true] rfl)
theorem xr_ta_close_21 {d : Nat} {l2 : Int} {m : w_M} {Q : Int → w_M → Prop} (h : if l2 < 200 then (if l2 < (m 366 11) then (((0 : Int) ≤ l2 ∧ l2 < 200) ∧ (if (m 367 l2) = 0 then (((0 : Int) ≤ l2 ∧ l2 < 200) ∧ (xp_ta_close_21 d (w_32 (l2 + 1)) (w_up m 367 l2 1) Q)) else (xp_ta_close_21 d (w_32 (l2 + 1)) m Q))) else (((0 : Int) ≤ l2 ∧ l2 < 200) ∧ (xp_ta_close_21 d (w_32 (l2 + 1)) (w_up m 367 l2 1) Q))) else (Q 0 m)) : xp_ta_close_21 d l2 m Q := by
  refine w_iload_n rfl rfl ?_
  refine w_sipush rfl (by decide) ?_
  refine w_icge rfl (w_ite h (fun h => ?_) (fun h => ?_))
  · refine w_iload_n rfl rfl ?_
    refine w_aload_n rfl rfl ?_
    refine x_gfI rfl s_366 rfl (kk := 11) rfl rfl ?_
    refine w_icge rfl (w_ite h (fun h => ?_) (fun h => ?_))
    · refine w_aload_n rfl rfl ?_
      refine w_gfC (c := 367) rfl s_366 rfl rfl ?_
      refine w_iload_n rfl rfl ?_
      refine w_iald rfl s_367 (n := 200) rfl h.1 ?_
      replace h := h.2
      refine w_ifne rfl (w_ite h (fun h => ?_) (fun h => ?_))
      · refine w_aload_n rfl rfl ?_
        refine w_gfC (c := 367) rfl s_366 rfl rfl ?_
        refine w_iload_n rfl rfl ?_
        refine w_iconst rfl (by decide) ?_
        refine w_iast rfl s_367 (w_EC (by decide)) (n := 200) rfl h.1 ?_
        replace h := h.2
        refine w_iinc (lv' := [some (2, 366), none, some (0, w_32 (l2 + 1))]) rfl rfl rfl rfl ?_
        refine w_goto rfl ?_
        exact w_W.less h (w_sub [true, false, true] rfl)
      · refine w_iinc (lv' := [some (2, 366), none, some (0, w_32 (l2 + 1))]) rfl rfl rfl rfl ?_
        refine w_goto rfl ?_
        exact w_W.less h (w_sub [true, false, true] rfl)
    · refine w_aload_n rfl rfl ?_
      refine w_gfC (c := 367) rfl s_366 rfl rfl ?_
      refine w_iload_n rfl rfl ?_
      refine w_iconst rfl (by decide) ?_
      refine w_iast rfl s_367 (w_EC (by decide)) (n := 200) rfl h.1 ?_
      replace h := h.2
      refine w_iinc (lv' := [some (2, 366), none, some (0, w_32 (l2 + 1))]) rfl rfl rfl rfl ?_
      refine w_goto rfl ?_
      exact w_W.less h (w_sub [true, false, true] rfl)
  · exact w_vret rfl rfl h
theorem xr_ta_copy {d : Nat} {l1 l2 l3 : Int} {m : w_M} {Q : Int → w_M → Prop} (h : if l3 < 0 then (xp_ta_copy_20 d l1 l2 l3 0 m Q) else (xc_ta_lengthOf d l1 m (fun r1 m1 => w_isR l2 ∧ (xp_ta_copy_20 d l1 l2 l3 (min r1 (w_32 ((w_ln l2) - l3))) m1 Q)))) : xc_ta_copy (d + 1) l1 l2 l3 m Q := by
  refine w_enter (q := 2) (lv := [some (2, 366), some (0, l1), some (2, l2), some (0, l3), none, none]) rfl rfl rfl ?_
  refine w_iload_n rfl rfl ?_
  refine w_ifge rfl (w_ite h (fun h => ?_) (fun h => ?_))
  · refine w_iconst rfl (by decide) ?_
    refine w_goto rfl ?_
    exact w_W.less h (w_sub [true, true, true, true, false, false] rfl)
  · refine w_aload_n rfl rfl ?_
    refine w_iload_n rfl rfl ?_
    refine w_callV (t' := 0) [(0, l1)] [] rfl s_366 rfl rfl ?_
    refine w_C.more (Q := fun r1 m1 => _) h (fun r1 m1 h => ?_)
    replace h := id h
    refine w_aload_n rfl rfl ?_
    refine x_len rfl h.1 ?_
    replace h := h.2
    refine w_iload_n rfl rfl ?_
    refine w_isub rfl ?_
    refine w_min rfl rfl ?_
    exact w_W.less h (w_sub [true, true, true, true, false, false] rfl)
theorem xr_ta_copy_20 {d : Nat} {l1 l2 l3 s0 : Int} {m : w_M} {Q : Int → w_M → Prop} (h : xc_ta_beginOf d l1 m (fun r1 m1 => if 0 < s0 then (if 40000 < (w_32 (r1 + s0)) then (Q 0 m1) else ((w_isA 1 375 ∧ w_isA 1 l2 ∧ (357 : Int) ≤ 375 ∧ w_wr (w_G0 sC) (Int.toNat l2) ∧ (0 : Int) ≤ s0 ∧ (0 : Int) ≤ r1 ∧ (0 : Int) ≤ l3 ∧ (r1 + s0 : Int) ≤ w_ln 375 ∧ (l3 + s0 : Int) ≤ w_ln l2) ∧ (Q 0 (w_cpy m1 375 r1 l2 l3 s0)))) else (Q 0 m1))) : xp_ta_copy_20 d l1 l2 l3 s0 m Q := by
  refine w_istore (lv' := [some (2, 366), some (0, l1), some (2, l2), some (0, l3), some (0, s0), none]) rfl rfl rfl ?_
  refine w_aload_n rfl rfl ?_
  refine w_iload_n rfl rfl ?_
  refine w_callV (t' := 0) [(0, l1)] [] rfl s_366 rfl rfl ?_
  refine w_C.more (Q := fun r1 m1 => _) h (fun r1 m1 h => ?_)
  replace h := id h
  refine w_istore (lv' := [some (2, 366), some (0, l1), some (2, l2), some (0, l3), some (0, s0), some (0, r1)]) rfl rfl rfl ?_
  refine w_iload rfl rfl ?_
  refine w_ifle rfl (w_ite h (fun h => ?_) (fun h => ?_))
  · refine w_iload rfl rfl ?_
    refine w_iload rfl rfl ?_
    refine w_iadd rfl ?_
    refine w_aload_n rfl rfl ?_
    refine w_gfC (c := 375) rfl s_366 rfl rfl ?_
    refine w_len rfl s_375 (by decide) (n := 40000) rfl (by decide) ?_
    refine w_icgt rfl (w_ite h (fun h => ?_) (fun h => ?_))
    · exact w_vret rfl rfl h
    · refine w_aload_n rfl rfl ?_
      refine w_gfC (c := 375) rfl s_366 rfl rfl ?_
      refine w_iload rfl rfl ?_
      refine w_aload_n rfl rfl ?_
      refine w_iload_n rfl rfl ?_
      refine w_iload rfl rfl ?_
      refine x_acopy rfl h.1.1 h.1.2.1 h.1.2.2.1 h.1.2.2.2.1 rfl h.1.2.2.2.2 ?_
      replace h := h.2
      exact w_vret rfl rfl h
  · exact w_vret rfl rfl h
theorem xr_ta_dict {d : Nat} {l1 : Int} {m : w_M} {Q : Int → w_M → Prop} (h : xc_ta_value d l1 m (fun r1 m1 => xc_st_kindOf d r1 m1 (fun r2 m2 => if r2 = 7 then (xc_ta_target d l1 m2 (fun r3 m3 => xc_ta_isStream d r3 m3 (fun r4 m4 => if r4 = 0 then (Q r1 m4) else (Q (-1) m4)))) else (Q (-1) m2)))) : xc_ta_dict (d + 1) l1 m Q := by
  refine w_enter (q := 1) (lv := [some (2, 366), some (0, l1), none]) rfl rfl rfl ?_
  refine w_aload_n rfl rfl ?_
  refine w_iload_n rfl rfl ?_
  refine w_callV (t' := 0) [(0, l1)] [] rfl s_366 rfl rfl ?_
  refine w_C.more (Q := fun r1 m1 => _) h (fun r1 m1 h => ?_)
  replace h := id h
  refine w_istore_n (lv' := [some (2, 366), some (0, l1), some (0, r1)]) rfl rfl rfl ?_
  refine w_aload_n rfl rfl ?_
  refine w_gfC (c := 359) rfl s_366 rfl rfl ?_
  refine w_iload_n rfl rfl ?_
  refine w_callV (t' := 0) [(0, r1)] [] rfl s_359 rfl rfl ?_
  refine w_C.more (Q := fun r2 m2 => _) h (fun r2 m2 h => ?_)
  replace h := id h
  refine w_bipush rfl (by decide) ?_
  refine w_icne rfl (w_ite h (fun h => ?_) (fun h => ?_))
  · refine w_aload_n rfl rfl ?_
    refine w_aload_n rfl rfl ?_
    refine w_iload_n rfl rfl ?_
    refine w_callV (t' := 0) [(0, l1)] [(2, 366)] rfl s_366 rfl rfl ?_
    refine w_C.more (Q := fun r3 m3 => _) h (fun r3 m3 h => ?_)
    replace h := id h
    refine w_callV (t' := 0) [(0, r3)] [] rfl s_366 rfl rfl ?_
    refine w_C.more (Q := fun r4 m4 => _) h (fun r4 m4 h => ?_)
    replace h := id h
    refine w_ifne rfl (w_ite h (fun h => ?_) (fun h => ?_))
    · refine w_iload_n rfl rfl ?_
      refine w_goto rfl ?_
      exact w_iret rfl rfl h
    · refine w_iconst rfl (by decide) ?_
      exact w_iret rfl rfl h
  · refine w_iconst rfl (by decide) ?_
    exact w_iret rfl rfl h
theorem xr_ta_entry {d : Nat} {l1 l2 : Int} {m : w_M} {Q : Int → w_M → Prop} (h : xc_st_entry d l1 l2 m (fun r1 m1 => xc_ta_value d r1 m1 (fun r2 m2 => Q r2 m2))) : xc_ta_entry (d + 1) l1 l2 m Q := by
  refine w_enter (q := 0) (lv := [some (2, 366), some (0, l1), some (0, l2)]) rfl rfl rfl ?_
  refine w_aload_n rfl rfl ?_
  refine w_aload_n rfl rfl ?_
  refine w_gfC (c := 359) rfl s_366 rfl rfl ?_
  refine w_iload_n rfl rfl ?_
  refine w_iload_n rfl rfl ?_
  refine w_callV (t' := 0) [(0, l2), (0, l1)] [(2, 366)] rfl s_359 rfl rfl ?_
  refine w_C.more (Q := fun r1 m1 => _) h (fun r1 m1 h => ?_)
  replace h := id h
  refine w_callV (t' := 0) [(0, r1)] [] rfl s_366 rfl rfl ?_
  refine w_C.more (Q := fun r2 m2 => _) h (fun r2 m2 h => ?_)
  replace h := id h
  exact w_iret rfl rfl h
theorem xr_ta_fits {d : Nat} {l1 : Int} {m : w_M} {Q : Int → w_M → Prop} (h : if l1 < 0 then (Q 0 m) else (if 40000 < (w_32 ((m 366 10) + l1)) then (Q 0 m) else (Q 1 m))) : xc_ta_fits (d + 1) l1 m Q := by
  refine w_enter (q := 0) (lv := [some (2, 366), some (0, l1)]) rfl rfl rfl ?_
  refine w_iload_n rfl rfl ?_
  refine w_iflt rfl (w_ite h (fun h => ?_) (fun h => ?_))
  · refine w_iconst rfl (by decide) ?_
    exact w_zret rfl rfl (by decide) h
  · refine w_aload_n rfl rfl ?_
    refine x_gfI rfl s_366 rfl (kk := 10) rfl rfl ?_
    refine w_iload_n rfl rfl ?_
    refine w_iadd rfl ?_
    refine w_aload_n rfl rfl ?_
    refine w_gfC (c := 375) rfl s_366 rfl rfl ?_
    refine w_len rfl s_375 (by decide) (n := 40000) rfl (by decide) ?_
    refine w_icgt rfl (w_ite h (fun h => ?_) (fun h => ?_))
    · refine w_iconst rfl (by decide) ?_
      exact w_zret rfl rfl (by decide) h
    · refine w_iconst rfl (by decide) ?_
      refine w_goto rfl ?_
      exact w_zret rfl rfl (by decide) h
theorem xr_ta_generationOf {d : Nat} {l1 : Int} {m : w_M} {Q : Int → w_M → Prop} (h : xc_ta_isFree d l1 m (fun r1 m1 => if r1 = 0 then (((0 : Int) ≤ l1 ∧ l1 < 200) ∧ (Q (m1 369 l1) m1)) else (Q 0 m1))) : xc_ta_generationOf (d + 1) l1 m Q := by
  refine w_enter (q := 0) (lv := [some (2, 366), some (0, l1)]) rfl rfl rfl ?_
  refine w_aload_n rfl rfl ?_
  refine w_iload_n rfl rfl ?_
  refine w_callV (t' := 0) [(0, l1)] [] rfl s_366 rfl rfl ?_
  refine w_C.more (Q := fun r1 m1 => _) h (fun r1 m1 h => ?_)
  replace h := id h
  refine w_ifeq rfl (w_ite h (fun h => ?_) (fun h => ?_))
  · refine w_aload_n rfl rfl ?_
    refine w_gfC (c := 369) rfl s_366 rfl rfl ?_
    refine w_iload_n rfl rfl ?_
    refine w_iald rfl s_369 (n := 200) rfl h.1 ?_
    replace h := h.2
    exact w_iret rfl rfl h
  · refine w_iconst rfl (by decide) ?_
    refine w_goto rfl ?_
    exact w_iret rfl rfl h
theorem xr_ta_howOf {d : Nat} {l1 : Int} {m : w_M} {Q : Int → w_M → Prop} (h : xc_ta_isFree d l1 m (fun r1 m1 => if r1 = 0 then (((0 : Int) ≤ l1 ∧ l1 < 200) ∧ (Q (m1 367 l1) m1)) else (Q 1 m1))) : xc_ta_howOf (d + 1) l1 m Q := by
  refine w_enter (q := 0) (lv := [some (2, 366), some (0, l1)]) rfl rfl rfl ?_
  refine w_aload_n rfl rfl ?_
  refine w_iload_n rfl rfl ?_
  refine w_callV (t' := 0) [(0, l1)] [] rfl s_366 rfl rfl ?_
  refine w_C.more (Q := fun r1 m1 => _) h (fun r1 m1 h => ?_)
  replace h := id h
  refine w_ifeq rfl (w_ite h (fun h => ?_) (fun h => ?_))
  · refine w_aload_n rfl rfl ?_
    refine w_gfC (c := 367) rfl s_366 rfl rfl ?_
    refine w_iload_n rfl rfl ?_
    refine w_iald rfl s_367 (n := 200) rfl h.1 ?_
    replace h := h.2
    exact w_iret rfl rfl h
  · refine w_iconst rfl (by decide) ?_
    refine w_goto rfl ?_
    exact w_iret rfl rfl h
theorem xr_ta_isChanged {d : Nat} {l1 : Int} {m : w_M} {Q : Int → w_M → Prop} (h : xc_ta_isFree d l1 m (fun r1 m1 => if r1 = 0 then (((0 : Int) ≤ l1 ∧ l1 < 200) ∧ (if (m1 373 l1) = 0 then (Q 0 m1) else (Q 1 m1))) else (Q 0 m1))) : xc_ta_isChanged (d + 1) l1 m Q := by
  refine w_enter (q := 0) (lv := [some (2, 366), some (0, l1)]) rfl rfl rfl ?_
  refine w_aload_n rfl rfl ?_
  refine w_iload_n rfl rfl ?_
  refine w_callV (t' := 0) [(0, l1)] [] rfl s_366 rfl rfl ?_
  refine w_C.more (Q := fun r1 m1 => _) h (fun r1 m1 h => ?_)
  replace h := id h
  refine w_ifne rfl (w_ite h (fun h => ?_) (fun h => ?_))
  · refine w_aload_n rfl rfl ?_
    refine w_gfC (c := 373) rfl s_366 rfl rfl ?_
    refine w_iload_n rfl rfl ?_
    refine w_zald rfl s_373 (n := 200) rfl h.1 ?_
    replace h := h.2
    refine w_ifeq rfl (w_ite h (fun h => ?_) (fun h => ?_))
    · refine w_iconst rfl (by decide) ?_
      exact w_zret rfl rfl (by decide) h
    · refine w_iconst rfl (by decide) ?_
      refine w_goto rfl ?_
      exact w_zret rfl rfl (by decide) h
  · refine w_iconst rfl (by decide) ?_
    exact w_zret rfl rfl (by decide) h
theorem xr_ta_isFree {d : Nat} {l1 : Int} {m : w_M} {Q : Int → w_M → Prop} (h : if 0 < l1 then (if l1 < (m 366 11) then (if l1 < 200 then (((0 : Int) ≤ l1 ∧ l1 < 200) ∧ (if (m 367 l1) = 1 then (Q 1 m) else (Q 0 m))) else (Q 1 m)) else (Q 1 m)) else (Q 1 m)) : xc_ta_isFree (d + 1) l1 m Q := by
  refine w_enter (q := 0) (lv := [some (2, 366), some (0, l1)]) rfl rfl rfl ?_
  refine w_iload_n rfl rfl ?_
  refine w_ifle rfl (w_ite h (fun h => ?_) (fun h => ?_))
  · refine w_iload_n rfl rfl ?_
    refine w_aload_n rfl rfl ?_
    refine x_gfI rfl s_366 rfl (kk := 11) rfl rfl ?_
    refine w_icge rfl (w_ite h (fun h => ?_) (fun h => ?_))
    · refine w_iload_n rfl rfl ?_
      refine w_aload_n rfl rfl ?_
      refine w_gfC (c := 367) rfl s_366 rfl rfl ?_
      refine w_len rfl s_367 (by decide) (n := 200) rfl (by decide) ?_
      refine w_icge rfl (w_ite h (fun h => ?_) (fun h => ?_))
      · refine w_aload_n rfl rfl ?_
        refine w_gfC (c := 367) rfl s_366 rfl rfl ?_
        refine w_iload_n rfl rfl ?_
        refine w_iald rfl s_367 (n := 200) rfl h.1 ?_
        replace h := h.2
        refine w_iconst rfl (by decide) ?_
        refine w_icne rfl (w_ite h (fun h => ?_) (fun h => ?_))
        · refine w_iconst rfl (by decide) ?_
          refine w_goto rfl ?_
          exact w_zret rfl rfl (by decide) h
        · refine w_iconst rfl (by decide) ?_
          exact w_zret rfl rfl (by decide) h
      · refine w_iconst rfl (by decide) ?_
        refine w_goto rfl ?_
        exact w_zret rfl rfl (by decide) h
    · refine w_iconst rfl (by decide) ?_
      refine w_goto rfl ?_
      exact w_zret rfl rfl (by decide) h
  · refine w_iconst rfl (by decide) ?_
    refine w_goto rfl ?_
    exact w_zret rfl rfl (by decide) h
theorem xr_ta_isStream {d : Nat} {l1 : Int} {m : w_M} {Q : Int → w_M → Prop} (h : if 0 < l1 then (if l1 < (m 366 11) then (if l1 < 200 then (((0 : Int) ≤ l1 ∧ l1 < 200) ∧ (if (m 367 l1) = 1 then (Q 0 m) else (((0 : Int) ≤ l1 ∧ l1 < 200) ∧ (if (m 371 l1) < 0 then (Q 0 m) else (Q 1 m))))) else (Q 0 m)) else (Q 0 m)) else (Q 0 m)) : xc_ta_isStream (d + 1) l1 m Q := by
  refine w_enter (q := 0) (lv := [some (2, 366), some (0, l1)]) rfl rfl rfl ?_
  refine w_iload_n rfl rfl ?_
  refine w_ifle rfl (w_ite h (fun h => ?_) (fun h => ?_))
  · refine w_iload_n rfl rfl ?_
    refine w_aload_n rfl rfl ?_
    refine x_gfI rfl s_366 rfl (kk := 11) rfl rfl ?_
    refine w_icge rfl (w_ite h (fun h => ?_) (fun h => ?_))
    · refine w_iload_n rfl rfl ?_
      refine w_aload_n rfl rfl ?_
      refine w_gfC (c := 371) rfl s_366 rfl rfl ?_
      refine w_len rfl s_371 (by decide) (n := 200) rfl (by decide) ?_
      refine w_icge rfl (w_ite h (fun h => ?_) (fun h => ?_))
      · refine w_aload_n rfl rfl ?_
        refine w_gfC (c := 367) rfl s_366 rfl rfl ?_
        refine w_iload_n rfl rfl ?_
        refine w_iald rfl s_367 (n := 200) rfl h.1 ?_
        replace h := h.2
        refine w_iconst rfl (by decide) ?_
        refine w_iceq rfl (w_ite h (fun h => ?_) (fun h => ?_))
        · refine w_iconst rfl (by decide) ?_
          exact w_zret rfl rfl (by decide) h
        · refine w_aload_n rfl rfl ?_
          refine w_gfC (c := 371) rfl s_366 rfl rfl ?_
          refine w_iload_n rfl rfl ?_
          refine w_iald rfl s_371 (n := 200) rfl h.1 ?_
          replace h := h.2
          refine w_iflt rfl (w_ite h (fun h => ?_) (fun h => ?_))
          · refine w_iconst rfl (by decide) ?_
            exact w_zret rfl rfl (by decide) h
          · refine w_iconst rfl (by decide) ?_
            refine w_goto rfl ?_
            exact w_zret rfl rfl (by decide) h
      · refine w_iconst rfl (by decide) ?_
        exact w_zret rfl rfl (by decide) h
    · refine w_iconst rfl (by decide) ?_
      exact w_zret rfl rfl (by decide) h
  · refine w_iconst rfl (by decide) ?_
    exact w_zret rfl rfl (by decide) h
theorem xr_ta_lengthOf {d : Nat} {l1 : Int} {m : w_M} {Q : Int → w_M → Prop} (h : xc_ta_isStream d l1 m (fun r1 m1 => if r1 = 0 then (Q 0 m1) else (((0 : Int) ≤ l1 ∧ l1 < 200) ∧ (Q (m1 372 l1) m1)))) : xc_ta_lengthOf (d + 1) l1 m Q := by
  refine w_enter (q := 0) (lv := [some (2, 366), some (0, l1)]) rfl rfl rfl ?_
  refine w_aload_n rfl rfl ?_
  refine w_iload_n rfl rfl ?_
  refine w_callV (t' := 0) [(0, l1)] [] rfl s_366 rfl rfl ?_
  refine w_C.more (Q := fun r1 m1 => _) h (fun r1 m1 h => ?_)
  replace h := id h
  refine w_ifeq rfl (w_ite h (fun h => ?_) (fun h => ?_))
  · refine w_iconst rfl (by decide) ?_
    exact w_iret rfl rfl h
  · refine w_aload_n rfl rfl ?_
    refine w_gfC (c := 372) rfl s_366 rfl rfl ?_
    refine w_iload_n rfl rfl ?_
    refine w_iald rfl s_372 (n := 200) rfl h.1 ?_
    replace h := h.2
    refine w_goto rfl ?_
    exact w_iret rfl rfl h
theorem xr_ta_make {d : Nat} {l1 l2 : Int} {m : w_M} {Q : Int → w_M → Prop} (h : if l1 < (m 366 11) then (Q 0 m) else (if 0 < l1 then (if l1 < 200 then (((0 : Int) ≤ l1 ∧ l1 < 200) ∧ (((0 : Int) ≤ l1 ∧ l1 < 200) ∧ (((0 : Int) ≤ l1 ∧ l1 < 200) ∧ (((0 : Int) ≤ l1 ∧ l1 < 200) ∧ (Q 0 (w_up (w_up (w_up (w_up (w_up m 366 11 (w_32 (l1 + 1))) 367 l1 4) 369 l1 0) 370 l1 l2) 373 l1 1)))))) else (Q 0 m)) else (Q 0 m))) : xc_ta_make (d + 1) l1 l2 m Q := by
  refine w_enter (q := 0) (lv := [some (2, 366), some (0, l1), some (0, l2)]) rfl rfl rfl ?_
  refine w_iload_n rfl rfl ?_
  refine w_aload_n rfl rfl ?_
  refine x_gfI rfl s_366 rfl (kk := 11) rfl rfl ?_
  refine w_iclt rfl (w_ite h (fun h => ?_) (fun h => ?_))
  · exact w_vret rfl rfl h
  · refine w_iload_n rfl rfl ?_
    refine w_ifle rfl (w_ite h (fun h => ?_) (fun h => ?_))
    · refine w_iload_n rfl rfl ?_
      refine w_sipush rfl (by decide) ?_
      refine w_icge rfl (w_ite h (fun h => ?_) (fun h => ?_))
      · refine w_aload_n rfl rfl ?_
        refine w_iload_n rfl rfl ?_
        refine w_iconst rfl (by decide) ?_
        refine w_iadd rfl ?_
        refine w_pfI rfl s_366 rfl (w_EC (by decide)) rfl (kk := 11) rfl ?_
        refine w_aload_n rfl rfl ?_
        refine w_gfC (c := 367) rfl s_366 rfl rfl ?_
        refine w_iload_n rfl rfl ?_
        refine w_iconst rfl (by decide) ?_
        refine w_iast rfl s_367 (w_EC (by decide)) (n := 200) rfl h.1 ?_
        replace h := h.2
        refine w_aload_n rfl rfl ?_
        refine w_gfC (c := 369) rfl s_366 rfl rfl ?_
        refine w_iload_n rfl rfl ?_
        refine w_iconst rfl (by decide) ?_
        refine w_iast rfl s_369 (w_EC (by decide)) (n := 200) rfl h.1 ?_
        replace h := h.2
        refine w_aload_n rfl rfl ?_
        refine w_gfC (c := 370) rfl s_366 rfl rfl ?_
        refine w_iload_n rfl rfl ?_
        refine w_iload_n rfl rfl ?_
        refine w_iast rfl s_370 (w_EC (by decide)) (n := 200) rfl h.1 ?_
        replace h := h.2
        refine w_aload_n rfl rfl ?_
        refine w_gfC (c := 373) rfl s_366 rfl rfl ?_
        refine w_iload_n rfl rfl ?_
        refine w_iconst rfl (by decide) ?_
        refine w_zast rfl s_373 (w_EC (by decide)) (n := 200) rfl h.1 (by decide) ?_
        replace h := h.2
        exact w_vret rfl rfl h
      · exact w_vret rfl rfl h
    · exact w_vret rfl rfl h
theorem xr_ta_nameAll {d : Nat} {l1 l2 : Int} {m : w_M} {Q : Int → w_M → Prop} (h : xp_ta_nameAll_2 d l2 l1 m Q) : xc_ta_nameAll (d + 1) l1 l2 m Q := by
  refine w_enter (q := 2) (lv := [some (2, 366), some (0, l1), some (0, l2), none, none]) rfl rfl rfl ?_
  refine w_iload_n rfl rfl ?_
  refine w_istore_n (lv' := [some (2, 366), some (0, l1), some (0, l2), some (0, l1), none]) rfl rfl rfl ?_
  exact w_W.less h (w_sub [true, false, true, true, false] rfl)
theorem xr_ta_nameAll_2 {d : Nat} {l2 l3 : Int} {m : w_M} {Q : Int → w_M → Prop} (h : if l3 < l2 then (xc_st_oneOf d l3 m (fun r1 m1 => xc_st_kindOf d l3 m1 (fun r2 m2 => if r2 = 8 then (if r1 < 0 then (xp_ta_nameAll_2 d l2 (w_32 (l3 + 1)) m2 Q) else (if r1 < 200 then (((0 : Int) ≤ r1 ∧ r1 < 200) ∧ (xp_ta_nameAll_2 d l2 (w_32 (l3 + 1)) (w_up m2 374 r1 1) Q)) else (xp_ta_nameAll_2 d l2 (w_32 (l3 + 1)) m2 Q))) else (xp_ta_nameAll_2 d l2 (w_32 (l3 + 1)) m2 Q)))) else (Q 0 m)) : xp_ta_nameAll_2 d l2 l3 m Q := by
  refine w_iload_n rfl rfl ?_
  refine w_iload_n rfl rfl ?_
  refine w_icge rfl (w_ite h (fun h => ?_) (fun h => ?_))
  · refine w_aload_n rfl rfl ?_
    refine w_gfC (c := 359) rfl s_366 rfl rfl ?_
    refine w_iload_n rfl rfl ?_
    refine w_callV (t' := 0) [(0, l3)] [] rfl s_359 rfl rfl ?_
    refine w_C.more (Q := fun r1 m1 => _) h (fun r1 m1 h => ?_)
    replace h := id h
    refine w_istore (lv' := [some (2, 366), none, some (0, l2), some (0, l3), some (0, r1)]) rfl rfl rfl ?_
    refine w_aload_n rfl rfl ?_
    refine w_gfC (c := 359) rfl s_366 rfl rfl ?_
    refine w_iload_n rfl rfl ?_
    refine w_callV (t' := 0) [(0, l3)] [] rfl s_359 rfl rfl ?_
    refine w_C.more (Q := fun r2 m2 => _) h (fun r2 m2 h => ?_)
    replace h := id h
    refine w_bipush rfl (by decide) ?_
    refine w_icne rfl (w_ite h (fun h => ?_) (fun h => ?_))
    · refine w_iload rfl rfl ?_
      refine w_iflt rfl (w_ite h (fun h => ?_) (fun h => ?_))
      · refine w_iinc (lv' := [some (2, 366), none, some (0, l2), some (0, w_32 (l3 + 1)), some (0, r1)]) rfl rfl rfl rfl ?_
        refine w_goto rfl ?_
        exact w_W.less h (w_sub [true, false, true, true, false] rfl)
      · refine w_iload rfl rfl ?_
        refine w_sipush rfl (by decide) ?_
        refine w_icge rfl (w_ite h (fun h => ?_) (fun h => ?_))
        · refine w_aload_n rfl rfl ?_
          refine w_gfC (c := 374) rfl s_366 rfl rfl ?_
          refine w_iload rfl rfl ?_
          refine w_iconst rfl (by decide) ?_
          refine w_zast rfl s_374 (w_EC (by decide)) (n := 200) rfl h.1 (by decide) ?_
          replace h := h.2
          refine w_iinc (lv' := [some (2, 366), none, some (0, l2), some (0, w_32 (l3 + 1)), some (0, r1)]) rfl rfl rfl rfl ?_
          refine w_goto rfl ?_
          exact w_W.less h (w_sub [true, false, true, true, false] rfl)
        · refine w_iinc (lv' := [some (2, 366), none, some (0, l2), some (0, w_32 (l3 + 1)), some (0, r1)]) rfl rfl rfl rfl ?_
          refine w_goto rfl ?_
          exact w_W.less h (w_sub [true, false, true, true, false] rfl)
    · refine w_iinc (lv' := [some (2, 366), none, some (0, l2), some (0, w_32 (l3 + 1)), some (0, r1)]) rfl rfl rfl rfl ?_
      refine w_goto rfl ?_
      exact w_W.less h (w_sub [true, false, true, true, false] rfl)
  · exact w_vret rfl rfl h
theorem xr_ta_placeOf {d : Nat} {l1 : Int} {m : w_M} {Q : Int → w_M → Prop} (h : xc_ta_isFree d l1 m (fun r1 m1 => if r1 = 0 then (((0 : Int) ≤ l1 ∧ l1 < 200) ∧ (Q (m1 368 l1) m1)) else (Q 0 m1))) : xc_ta_placeOf (d + 1) l1 m Q := by
  refine w_enter (q := 0) (lv := [some (2, 366), some (0, l1)]) rfl rfl rfl ?_
  refine w_aload_n rfl rfl ?_
  refine w_iload_n rfl rfl ?_
  refine w_callV (t' := 0) [(0, l1)] [] rfl s_366 rfl rfl ?_
  refine w_C.more (Q := fun r1 m1 => _) h (fun r1 m1 h => ?_)
  replace h := id h
  refine w_ifeq rfl (w_ite h (fun h => ?_) (fun h => ?_))
  · refine w_aload_n rfl rfl ?_
    refine w_gfC (c := 368) rfl s_366 rfl rfl ?_
    refine w_iload_n rfl rfl ?_
    refine w_iald rfl s_368 (n := 200) rfl h.1 ?_
    replace h := h.2
    exact w_iret rfl rfl h
  · refine w_iconst rfl (by decide) ?_
    refine w_goto rfl ?_
    exact w_iret rfl rfl h
theorem xr_ta_rootOf {d : Nat} {l1 : Int} {m : w_M} {Q : Int → w_M → Prop} (h : if 0 < l1 then (if l1 < (m 366 11) then (if l1 < 200 then (((0 : Int) ≤ l1 ∧ l1 < 200) ∧ (if (m 367 l1) = 1 then (Q (-1) m) else (((0 : Int) ≤ l1 ∧ l1 < 200) ∧ (Q (m 370 l1) m)))) else (Q (-1) m)) else (Q (-1) m)) else (Q (-1) m)) : xc_ta_rootOf (d + 1) l1 m Q := by
  refine w_enter (q := 0) (lv := [some (2, 366), some (0, l1)]) rfl rfl rfl ?_
  refine w_iload_n rfl rfl ?_
  refine w_ifle rfl (w_ite h (fun h => ?_) (fun h => ?_))
  · refine w_iload_n rfl rfl ?_
    refine w_aload_n rfl rfl ?_
    refine x_gfI rfl s_366 rfl (kk := 11) rfl rfl ?_
    refine w_icge rfl (w_ite h (fun h => ?_) (fun h => ?_))
    · refine w_iload_n rfl rfl ?_
      refine w_aload_n rfl rfl ?_
      refine w_gfC (c := 370) rfl s_366 rfl rfl ?_
      refine w_len rfl s_370 (by decide) (n := 200) rfl (by decide) ?_
      refine w_icge rfl (w_ite h (fun h => ?_) (fun h => ?_))
      · refine w_aload_n rfl rfl ?_
        refine w_gfC (c := 367) rfl s_366 rfl rfl ?_
        refine w_iload_n rfl rfl ?_
        refine w_iald rfl s_367 (n := 200) rfl h.1 ?_
        replace h := h.2
        refine w_iconst rfl (by decide) ?_
        refine w_icne rfl (w_ite h (fun h => ?_) (fun h => ?_))
        · refine w_iconst rfl (by decide) ?_
          refine w_goto rfl ?_
          exact w_iret rfl rfl h
        · refine w_aload_n rfl rfl ?_
          refine w_gfC (c := 370) rfl s_366 rfl rfl ?_
          refine w_iload_n rfl rfl ?_
          refine w_iald rfl s_370 (n := 200) rfl h.1 ?_
          replace h := h.2
          exact w_iret rfl rfl h
      · refine w_iconst rfl (by decide) ?_
        refine w_goto rfl ?_
        exact w_iret rfl rfl h
    · refine w_iconst rfl (by decide) ?_
      refine w_goto rfl ?_
      exact w_iret rfl rfl h
  · refine w_iconst rfl (by decide) ?_
    refine w_goto rfl ?_
    exact w_iret rfl rfl h
theorem xr_ta_setRoot {d : Nat} {l1 l2 : Int} {m : w_M} {Q : Int → w_M → Prop} (h : xc_ta_isFree d l1 m (fun r1 m1 => if r1 = 0 then (((0 : Int) ≤ l1 ∧ l1 < 200) ∧ (Q 0 (w_up m1 370 l1 l2))) else (Q 0 m1))) : xc_ta_setRoot (d + 1) l1 l2 m Q := by
  refine w_enter (q := 0) (lv := [some (2, 366), some (0, l1), some (0, l2)]) rfl rfl rfl ?_
  refine w_aload_n rfl rfl ?_
  refine w_iload_n rfl rfl ?_
  refine w_callV (t' := 0) [(0, l1)] [] rfl s_366 rfl rfl ?_
  refine w_C.more (Q := fun r1 m1 => _) h (fun r1 m1 h => ?_)
  replace h := id h
  refine w_ifne rfl (w_ite h (fun h => ?_) (fun h => ?_))
  · refine w_aload_n rfl rfl ?_
    refine w_gfC (c := 370) rfl s_366 rfl rfl ?_
    refine w_iload_n rfl rfl ?_
    refine w_iload_n rfl rfl ?_
    refine w_iast rfl s_370 (w_EC (by decide)) (n := 200) rfl h.1 ?_
    replace h := h.2
    exact w_vret rfl rfl h
  · exact w_vret rfl rfl h
theorem xr_ta_setStream {d : Nat} {l1 l2 l3 : Int} {m : w_M} {Q : Int → w_M → Prop} (h : xc_ta_isFree d l1 m (fun r1 m1 => if r1 = 0 then (if l3 < 0 then (Q 0 m1) else (w_isR l2 ∧ (if (w_ln l2) < l3 then (Q 0 m1) else (if (m1 366 10) < 0 then (Q 0 m1) else (if 40000 < (w_32 ((m1 366 10) + l3)) then (Q 0 m1) else ((w_isA 1 l2 ∧ w_isA 1 375 ∧ (357 : Int) ≤ l2 ∧ w_wr (w_G0 sC) (Int.toNat 375) ∧ (0 : Int) ≤ l3 ∧ (0 : Int) ≤ 0 ∧ (0 : Int) ≤ (m1 366 10) ∧ (0 + l3 : Int) ≤ w_ln l2 ∧ ((m1 366 10) + l3 : Int) ≤ w_ln 375) ∧ (((0 : Int) ≤ l1 ∧ l1 < 200) ∧ (((0 : Int) ≤ l1 ∧ l1 < 200) ∧ (Q 1 (w_up (w_up (w_up (w_cpy m1 l2 0 375 (m1 366 10) l3) 371 l1 (m1 366 10)) 372 l1 l3) 366 10 (w_32 ((m1 366 10) + l3)))))))))))) else (Q 0 m1))) : xc_ta_setStream (d + 1) l1 l2 l3 m Q := by
  refine w_enter (q := 0) (lv := [some (2, 366), some (0, l1), some (2, l2), some (0, l3)]) rfl rfl rfl ?_
  refine w_aload_n rfl rfl ?_
  refine w_iload_n rfl rfl ?_
  refine w_callV (t' := 0) [(0, l1)] [] rfl s_366 rfl rfl ?_
  refine w_C.more (Q := fun r1 m1 => _) h (fun r1 m1 h => ?_)
  replace h := id h
  refine w_ifne rfl (w_ite h (fun h => ?_) (fun h => ?_))
  · refine w_iload_n rfl rfl ?_
    refine w_iflt rfl (w_ite h (fun h => ?_) (fun h => ?_))
    · refine w_iconst rfl (by decide) ?_
      exact w_zret rfl rfl (by decide) h
    · refine w_iload_n rfl rfl ?_
      refine w_aload_n rfl rfl ?_
      refine x_len rfl h.1 ?_
      replace h := h.2
      refine w_icgt rfl (w_ite h (fun h => ?_) (fun h => ?_))
      · refine w_iconst rfl (by decide) ?_
        exact w_zret rfl rfl (by decide) h
      · refine w_aload_n rfl rfl ?_
        refine x_gfI rfl s_366 rfl (kk := 10) rfl rfl ?_
        refine w_iflt rfl (w_ite h (fun h => ?_) (fun h => ?_))
        · refine w_iconst rfl (by decide) ?_
          exact w_zret rfl rfl (by decide) h
        · refine w_aload_n rfl rfl ?_
          refine x_gfI rfl s_366 rfl (kk := 10) rfl rfl ?_
          refine w_iload_n rfl rfl ?_
          refine w_iadd rfl ?_
          refine w_aload_n rfl rfl ?_
          refine w_gfC (c := 375) rfl s_366 rfl rfl ?_
          refine w_len rfl s_375 (by decide) (n := 40000) rfl (by decide) ?_
          refine w_icle rfl (w_ite h (fun h => ?_) (fun h => ?_))
          · refine w_iconst rfl (by decide) ?_
            exact w_zret rfl rfl (by decide) h
          · refine w_aload_n rfl rfl ?_
            refine w_iconst rfl (by decide) ?_
            refine w_aload_n rfl rfl ?_
            refine w_gfC (c := 375) rfl s_366 rfl rfl ?_
            refine w_aload_n rfl rfl ?_
            refine x_gfI rfl s_366 rfl (kk := 10) rfl rfl ?_
            refine w_iload_n rfl rfl ?_
            refine x_acopy rfl h.1.1 h.1.2.1 h.1.2.2.1 h.1.2.2.2.1 rfl h.1.2.2.2.2 ?_
            replace h := h.2
            refine w_aload_n rfl rfl ?_
            refine w_gfC (c := 371) rfl s_366 rfl rfl ?_
            refine w_iload_n rfl rfl ?_
            refine w_aload_n rfl rfl ?_
            refine x_gfI rfl s_366 rfl (kk := 10) rfl (w_cpy_ne (by decide)) ?_
            refine w_iast rfl s_371 (w_EC (by decide)) (n := 200) rfl h.1 ?_
            replace h := h.2
            refine w_aload_n rfl rfl ?_
            refine w_gfC (c := 372) rfl s_366 rfl rfl ?_
            refine w_iload_n rfl rfl ?_
            refine w_iload_n rfl rfl ?_
            refine w_iast rfl s_372 (w_EC (by decide)) (n := 200) rfl h.1 ?_
            replace h := h.2
            refine w_aload_n rfl rfl ?_
            refine w_dup rfl (show (2 : Nat) ≠ 1 by decide) ?_
            refine x_gfI rfl s_366 rfl (kk := 10) rfl ((w_up_ne (by decide)).trans ((w_up_ne (by decide)).trans (w_cpy_ne (by decide)))) ?_
            refine w_iload_n rfl rfl ?_
            refine w_iadd rfl ?_
            refine w_pfI rfl s_366 rfl (w_EC (by decide)) rfl (kk := 10) rfl ?_
            refine w_iconst rfl (by decide) ?_
            exact w_zret rfl rfl (by decide) h
  · refine w_iconst rfl (by decide) ?_
    exact w_zret rfl rfl (by decide) h
theorem xr_ta_settle {d : Nat} {l1 l2 : Int} {m : w_M} {Q : Int → w_M → Prop} (h : xc_ta_isFree d l1 m (fun r1 m1 => if r1 = 0 then (((0 : Int) ≤ l1 ∧ l1 < 200) ∧ (((0 : Int) ≤ l1 ∧ l1 < 200) ∧ (Q 0 (w_up (w_up m1 370 l1 l2) 369 l1 0)))) else (Q 0 m1))) : xc_ta_settle (d + 1) l1 l2 m Q := by
  refine w_enter (q := 0) (lv := [some (2, 366), some (0, l1), some (0, l2)]) rfl rfl rfl ?_
  refine w_aload_n rfl rfl ?_
  refine w_iload_n rfl rfl ?_
  refine w_callV (t' := 0) [(0, l1)] [] rfl s_366 rfl rfl ?_
  refine w_C.more (Q := fun r1 m1 => _) h (fun r1 m1 h => ?_)
  replace h := id h
  refine w_ifne rfl (w_ite h (fun h => ?_) (fun h => ?_))
  · refine w_aload_n rfl rfl ?_
    refine w_gfC (c := 370) rfl s_366 rfl rfl ?_
    refine w_iload_n rfl rfl ?_
    refine w_iload_n rfl rfl ?_
    refine w_iast rfl s_370 (w_EC (by decide)) (n := 200) rfl h.1 ?_
    replace h := h.2
    refine w_aload_n rfl rfl ?_
    refine w_gfC (c := 369) rfl s_366 rfl rfl ?_
    refine w_iload_n rfl rfl ?_
    refine w_iconst rfl (by decide) ?_
    refine w_iast rfl s_369 (w_EC (by decide)) (n := 200) rfl h.1 ?_
    replace h := h.2
    exact w_vret rfl rfl h
  · exact w_vret rfl rfl h
theorem xr_ta_spare {d : Nat} {m : w_M} {Q : Int → w_M → Prop} (h : xp_ta_spare_9 d (max (m 366 11) 1) m Q) : xc_ta_spare (d + 1) m Q := by
  refine w_enter (q := 1) (lv := [some (2, 366), none]) rfl rfl rfl ?_
  refine w_aload_n rfl rfl ?_
  refine x_gfI rfl s_366 rfl (kk := 11) rfl rfl ?_
  refine w_iconst rfl (by decide) ?_
  refine w_max rfl rfl ?_
  refine w_istore_n (lv' := [some (2, 366), some (0, max (m 366 11) 1)]) rfl rfl rfl ?_
  exact w_W.less h (w_sub [true, true] rfl)
theorem xr_ta_spare_9 {d : Nat} {l1 : Int} {m : w_M} {Q : Int → w_M → Prop} (h : if l1 < 200 then (((0 : Int) ≤ l1 ∧ l1 < 200) ∧ (if (m 374 l1) = 0 then (Q l1 m) else (xp_ta_spare_9 d (w_32 (l1 + 1)) m Q))) else (Q (-1) m)) : xp_ta_spare_9 d l1 m Q := by
  refine w_iload_n rfl rfl ?_
  refine w_sipush rfl (by decide) ?_
  refine w_icge rfl (w_ite h (fun h => ?_) (fun h => ?_))
  · refine w_aload_n rfl rfl ?_
    refine w_gfC (c := 374) rfl s_366 rfl rfl ?_
    refine w_iload_n rfl rfl ?_
    refine w_zald rfl s_374 (n := 200) rfl h.1 ?_
    replace h := h.2
    refine w_ifne rfl (w_ite h (fun h => ?_) (fun h => ?_))
    · refine w_iload_n rfl rfl ?_
      exact w_iret rfl rfl h
    · refine w_iinc (lv' := [some (2, 366), some (0, w_32 (l1 + 1))]) rfl rfl rfl rfl ?_
      refine w_goto rfl ?_
      exact w_W.less h (w_sub [true, true] rfl)
  · refine w_iconst rfl (by decide) ?_
    exact w_iret rfl rfl h
theorem xr_ta_target {d : Nat} {l1 : Int} {m : w_M} {Q : Int → w_M → Prop} (h : xp_ta_target_7 d l1 0 0 m Q) : xc_ta_target (d + 1) l1 m Q := by
  refine w_enter (q := 3) (lv := [some (2, 366), some (0, l1), none, none, none]) rfl rfl rfl ?_
  refine w_iload_n rfl rfl ?_
  refine w_istore_n (lv' := [some (2, 366), some (0, l1), some (0, l1), none, none]) rfl rfl rfl ?_
  refine w_iconst rfl (by decide) ?_
  refine w_istore_n (lv' := [some (2, 366), some (0, l1), some (0, l1), some (0, 0), none]) rfl rfl rfl ?_
  refine w_iconst rfl (by decide) ?_
  refine w_istore (lv' := [some (2, 366), some (0, l1), some (0, l1), some (0, 0), some (0, 0)]) rfl rfl rfl ?_
  exact w_W.less h (w_sub [true, false, true, true, true] rfl)
theorem xr_ta_target_7 {d : Nat} {l2 l3 l4 : Int} {m : w_M} {Q : Int → w_M → Prop} (h : if 20 < l4 then (Q 0 m) else (if l2 < 0 then (Q l3 m) else (if l2 < (m 359 6) then (if l2 < 16564 then (((0 : Int) ≤ l2 ∧ l2 < 16564) ∧ (if (m 360 l2) = 8 then (((0 : Int) ≤ l2 ∧ l2 < 16564) ∧ (if 0 < (m 361 l2) then (if (m 361 l2) < (m 366 11) then (if (m 361 l2) < 200 then (((0 : Int) ≤ (m 361 l2) ∧ (m 361 l2) < 200) ∧ (if (m 367 (m 361 l2)) = 1 then (Q 0 m) else (((0 : Int) ≤ (m 361 l2) ∧ (m 361 l2) < 200) ∧ (((0 : Int) ≤ l2 ∧ l2 < 16564) ∧ (if (m 369 (m 361 l2)) = (m 362 l2) then (((0 : Int) ≤ (m 361 l2) ∧ (m 361 l2) < 200) ∧ (xp_ta_target_7 d (m 370 (m 361 l2)) (m 361 l2) (w_32 (l4 + 1)) m Q)) else (Q 0 m)))))) else (Q 0 m)) else (Q 0 m)) else (Q 0 m))) else (Q l3 m))) else (Q l3 m)) else (Q l3 m)))) : xp_ta_target_7 d l2 l3 l4 m Q := by
  refine w_iload rfl rfl ?_
  refine w_bipush rfl (by decide) ?_
  refine w_icgt rfl (w_ite h (fun h => ?_) (fun h => ?_))
  · refine w_iconst rfl (by decide) ?_
    exact w_iret rfl rfl h
  · refine w_iload_n rfl rfl ?_
    refine w_iflt rfl (w_ite h (fun h => ?_) (fun h => ?_))
    · refine w_iload_n rfl rfl ?_
      exact w_iret rfl rfl h
    · refine w_iload_n rfl rfl ?_
      refine w_aload_n rfl rfl ?_
      refine w_gfC (c := 359) rfl s_366 rfl rfl ?_
      refine x_gfI rfl s_359 rfl (kk := 6) rfl rfl ?_
      refine w_icge rfl (w_ite h (fun h => ?_) (fun h => ?_))
      · refine w_iload_n rfl rfl ?_
        refine w_aload_n rfl rfl ?_
        refine w_gfC (c := 359) rfl s_366 rfl rfl ?_
        refine w_gfC (c := 360) rfl s_359 rfl rfl ?_
        refine w_len rfl s_360 (by decide) (n := 16564) rfl (by decide) ?_
        refine w_icge rfl (w_ite h (fun h => ?_) (fun h => ?_))
        · refine w_aload_n rfl rfl ?_
          refine w_gfC (c := 359) rfl s_366 rfl rfl ?_
          refine w_gfC (c := 360) rfl s_359 rfl rfl ?_
          refine w_iload_n rfl rfl ?_
          refine w_iald rfl s_360 (n := 16564) rfl h.1 ?_
          replace h := h.2
          refine w_bipush rfl (by decide) ?_
          refine w_iceq rfl (w_ite h (fun h => ?_) (fun h => ?_))
          · refine w_aload_n rfl rfl ?_
            refine w_gfC (c := 359) rfl s_366 rfl rfl ?_
            refine w_gfC (c := 361) rfl s_359 rfl rfl ?_
            refine w_iload_n rfl rfl ?_
            refine w_iald rfl s_361 (n := 16564) rfl h.1 ?_
            replace h := h.2
            refine w_istore_n (lv' := [some (2, 366), none, some (0, l2), some (0, m 361 l2), some (0, l4)]) rfl rfl rfl ?_
            refine w_iload_n rfl rfl ?_
            refine w_ifle rfl (w_ite h (fun h => ?_) (fun h => ?_))
            · refine w_iload_n rfl rfl ?_
              refine w_aload_n rfl rfl ?_
              refine x_gfI rfl s_366 rfl (kk := 11) rfl rfl ?_
              refine w_icge rfl (w_ite h (fun h => ?_) (fun h => ?_))
              · refine w_iload_n rfl rfl ?_
                refine w_aload_n rfl rfl ?_
                refine w_gfC (c := 370) rfl s_366 rfl rfl ?_
                refine w_len rfl s_370 (by decide) (n := 200) rfl (by decide) ?_
                refine w_icge rfl (w_ite h (fun h => ?_) (fun h => ?_))
                · refine w_aload_n rfl rfl ?_
                  refine w_gfC (c := 367) rfl s_366 rfl rfl ?_
                  refine w_iload_n rfl rfl ?_
                  refine w_iald rfl s_367 (n := 200) rfl h.1 ?_
                  replace h := h.2
                  refine w_iconst rfl (by decide) ?_
                  refine w_iceq rfl (w_ite h (fun h => ?_) (fun h => ?_))
                  · refine w_iconst rfl (by decide) ?_
                    exact w_iret rfl rfl h
                  · refine w_aload_n rfl rfl ?_
                    refine w_gfC (c := 369) rfl s_366 rfl rfl ?_
                    refine w_iload_n rfl rfl ?_
                    refine w_iald rfl s_369 (n := 200) rfl h.1 ?_
                    replace h := h.2
                    refine w_aload_n rfl rfl ?_
                    refine w_gfC (c := 359) rfl s_366 rfl rfl ?_
                    refine w_gfC (c := 362) rfl s_359 rfl rfl ?_
                    refine w_iload_n rfl rfl ?_
                    refine w_iald rfl s_362 (n := 16564) rfl h.1 ?_
                    replace h := h.2
                    refine w_iceq rfl (w_ite h (fun h => ?_) (fun h => ?_))
                    · refine w_aload_n rfl rfl ?_
                      refine w_gfC (c := 370) rfl s_366 rfl rfl ?_
                      refine w_iload_n rfl rfl ?_
                      refine w_iald rfl s_370 (n := 200) rfl h.1 ?_
                      replace h := h.2
                      refine w_istore_n (lv' := [some (2, 366), none, some (0, m 370 (m 361 l2)), some (0, m 361 l2), some (0, l4)]) rfl rfl rfl ?_
                      refine w_iinc (lv' := [some (2, 366), none, some (0, m 370 (m 361 l2)), some (0, m 361 l2), some (0, w_32 (l4 + 1))]) rfl rfl rfl rfl ?_
                      refine w_goto rfl ?_
                      exact w_W.less h (w_sub [true, false, true, true, true] rfl)
                    · refine w_iconst rfl (by decide) ?_
                      exact w_iret rfl rfl h
                · refine w_iconst rfl (by decide) ?_
                  exact w_iret rfl rfl h
              · refine w_iconst rfl (by decide) ?_
                exact w_iret rfl rfl h
            · refine w_iconst rfl (by decide) ?_
              exact w_iret rfl rfl h
          · refine w_iload_n rfl rfl ?_
            exact w_iret rfl rfl h
        · refine w_iload_n rfl rfl ?_
          exact w_iret rfl rfl h
      · refine w_iload_n rfl rfl ?_
        exact w_iret rfl rfl h
theorem xr_ta_tell {d : Nat} {l1 l2 l3 l4 : Int} {m : w_M} {Q : Int → w_M → Prop} (h : if 0 < l1 then (if l1 < 200 then (((0 : Int) ≤ l1 ∧ l1 < 200) ∧ (if (m 367 l1) = 0 then (((0 : Int) ≤ l1 ∧ l1 < 200) ∧ (((0 : Int) ≤ l1 ∧ l1 < 200) ∧ (((0 : Int) ≤ l1 ∧ l1 < 200) ∧ (Q 0 (w_up (w_up (w_up m 367 l1 l2) 368 l1 l3) 369 l1 l4))))) else (Q 0 m))) else (Q 0 m)) else (Q 0 m)) : xc_ta_tell (d + 1) l1 l2 l3 l4 m Q := by
  refine w_enter (q := 0) (lv := [some (2, 366), some (0, l1), some (0, l2), some (0, l3), some (0, l4)]) rfl rfl rfl ?_
  refine w_iload_n rfl rfl ?_
  refine w_ifle rfl (w_ite h (fun h => ?_) (fun h => ?_))
  · refine w_iload_n rfl rfl ?_
    refine w_sipush rfl (by decide) ?_
    refine w_icge rfl (w_ite h (fun h => ?_) (fun h => ?_))
    · refine w_aload_n rfl rfl ?_
      refine w_gfC (c := 367) rfl s_366 rfl rfl ?_
      refine w_iload_n rfl rfl ?_
      refine w_iald rfl s_367 (n := 200) rfl h.1 ?_
      replace h := h.2
      refine w_ifne rfl (w_ite h (fun h => ?_) (fun h => ?_))
      · refine w_aload_n rfl rfl ?_
        refine w_gfC (c := 367) rfl s_366 rfl rfl ?_
        refine w_iload_n rfl rfl ?_
        refine w_iload_n rfl rfl ?_
        refine w_iast rfl s_367 (w_EC (by decide)) (n := 200) rfl h.1 ?_
        replace h := h.2
        refine w_aload_n rfl rfl ?_
        refine w_gfC (c := 368) rfl s_366 rfl rfl ?_
        refine w_iload_n rfl rfl ?_
        refine w_iload_n rfl rfl ?_
        refine w_iast rfl s_368 (w_EC (by decide)) (n := 200) rfl h.1 ?_
        replace h := h.2
        refine w_aload_n rfl rfl ?_
        refine w_gfC (c := 369) rfl s_366 rfl rfl ?_
        refine w_iload_n rfl rfl ?_
        refine w_iload rfl rfl ?_
        refine w_iast rfl s_369 (w_EC (by decide)) (n := 200) rfl h.1 ?_
        replace h := h.2
        exact w_vret rfl rfl h
      · exact w_vret rfl rfl h
    · exact w_vret rfl rfl h
  · exact w_vret rfl rfl h
theorem xr_ta_touch {d : Nat} {l1 : Int} {m : w_M} {Q : Int → w_M → Prop} (h : xc_ta_isFree d l1 m (fun r1 m1 => if r1 = 0 then (((0 : Int) ≤ l1 ∧ l1 < 200) ∧ (Q 0 (w_up m1 373 l1 1))) else (Q 0 m1))) : xc_ta_touch (d + 1) l1 m Q := by
  refine w_enter (q := 0) (lv := [some (2, 366), some (0, l1)]) rfl rfl rfl ?_
  refine w_aload_n rfl rfl ?_
  refine w_iload_n rfl rfl ?_
  refine w_callV (t' := 0) [(0, l1)] [] rfl s_366 rfl rfl ?_
  refine w_C.more (Q := fun r1 m1 => _) h (fun r1 m1 h => ?_)
  replace h := id h
  refine w_ifne rfl (w_ite h (fun h => ?_) (fun h => ?_))
  · refine w_aload_n rfl rfl ?_
    refine w_gfC (c := 373) rfl s_366 rfl rfl ?_
    refine w_iload_n rfl rfl ?_
    refine w_iconst rfl (by decide) ?_
    refine w_zast rfl s_373 (w_EC (by decide)) (n := 200) rfl h.1 (by decide) ?_
    replace h := h.2
    exact w_vret rfl rfl h
  · exact w_vret rfl rfl h
theorem xr_ta_value {d : Nat} {l1 : Int} {m : w_M} {Q : Int → w_M → Prop} (h : xc_st_holds d l1 m (fun r1 m1 => if r1 = 0 then (Q 0 m1) else (xc_st_kindOf d l1 m1 (fun r2 m2 => if r2 = 8 then (xc_ta_target d l1 m2 (fun r3 m3 => xc_ta_rootOf d r3 m3 (fun r4 m4 => Q (max 0 r4) m4))) else (Q l1 m2))))) : xc_ta_value (d + 1) l1 m Q := by
  refine w_enter (q := 0) (lv := [some (2, 366), some (0, l1)]) rfl rfl rfl ?_
  refine w_aload_n rfl rfl ?_
  refine w_gfC (c := 359) rfl s_366 rfl rfl ?_
  refine w_iload_n rfl rfl ?_
  refine w_callV (t' := 0) [(0, l1)] [] rfl s_359 rfl rfl ?_
  refine w_C.more (Q := fun r1 m1 => _) h (fun r1 m1 h => ?_)
  replace h := id h
  refine w_ifne rfl (w_ite h (fun h => ?_) (fun h => ?_))
  · refine w_iconst rfl (by decide) ?_
    exact w_iret rfl rfl h
  · refine w_aload_n rfl rfl ?_
    refine w_gfC (c := 359) rfl s_366 rfl rfl ?_
    refine w_iload_n rfl rfl ?_
    refine w_callV (t' := 0) [(0, l1)] [] rfl s_359 rfl rfl ?_
    refine w_C.more (Q := fun r2 m2 => _) h (fun r2 m2 h => ?_)
    replace h := id h
    refine w_bipush rfl (by decide) ?_
    refine w_icne rfl (w_ite h (fun h => ?_) (fun h => ?_))
    · refine w_iconst rfl (by decide) ?_
      refine w_aload_n rfl rfl ?_
      refine w_aload_n rfl rfl ?_
      refine w_iload_n rfl rfl ?_
      refine w_callV (t' := 0) [(0, l1)] [(2, 366), (0, 0)] rfl s_366 rfl rfl ?_
      refine w_C.more (Q := fun r3 m3 => _) h (fun r3 m3 h => ?_)
      replace h := id h
      refine w_callV (t' := 0) [(0, r3)] [(0, 0)] rfl s_366 rfl rfl ?_
      refine w_C.more (Q := fun r4 m4 => _) h (fun r4 m4 h => ?_)
      replace h := id h
      refine w_max rfl rfl ?_
      refine w_goto rfl ?_
      exact w_iret rfl rfl h
    · refine w_iload_n rfl rfl ?_
      exact w_iret rfl rfl h
