/-! ===== regions (printed by program): m_[r-z].* ===== -/
set_option maxRecDepth 100000
theorem xr_m_rawEntry {d : Nat} {l1 l2 : Int} {m : w_M} {Q : Int → w_M → Prop} (h : ((0 : Int) ≤ l1 ∧ l1 < 40000) ∧ (xp_m_rawEntry_7 d l2 (m 436 l1) m Q)) : xc_m_rawEntry (d + 1) l1 l2 m Q := by
  refine w_enter (q := 1) (lv := [some (2, 428), some (0, l1), some (2, l2), none]) rfl rfl rfl ?_
  refine w_aload_n rfl rfl ?_
  refine w_gfC (c := 436) rfl s_428 rfl rfl ?_
  refine w_iload_n rfl rfl ?_
  refine w_iald rfl s_436 (n := 40000) rfl h.1 ?_
  replace h := h.2
  refine w_istore_n (lv' := [some (2, 428), some (0, l1), some (2, l2), some (0, m 436 l1)]) rfl rfl rfl ?_
  exact w_W.less h (w_sub [true, false, true, true] rfl)
theorem xr_m_rawEntry_7 {d : Nat} {l2 l3 : Int} {m : w_M} {Q : Int → w_M → Prop} (h : if l3 < 0 then (Q (-1) m) else (((0 : Int) ≤ l3 ∧ l3 < 40000) ∧ (((0 : Int) ≤ l3 ∧ l3 < 40000) ∧ (xc_m_isText d (m 438 l3) (m 439 l3) l2 m (fun r1 m1 => if r1 = 0 then (((0 : Int) ≤ l3 ∧ l3 < 40000) ∧ (xp_m_rawEntry_7 d l2 (m1 437 l3) m1 Q)) else (Q l3 m1)))))) : xp_m_rawEntry_7 d l2 l3 m Q := by
  refine w_iload_n rfl rfl ?_
  refine w_iflt rfl (w_ite h (fun h => ?_) (fun h => ?_))
  · refine w_iconst rfl (by decide) ?_
    exact w_iret rfl rfl h
  · refine w_aload_n rfl rfl ?_
    refine w_aload_n rfl rfl ?_
    refine w_gfC (c := 438) rfl s_428 rfl rfl ?_
    refine w_iload_n rfl rfl ?_
    refine w_iald rfl s_438 (n := 40000) rfl h.1 ?_
    replace h := h.2
    refine w_aload_n rfl rfl ?_
    refine w_gfC (c := 439) rfl s_428 rfl rfl ?_
    refine w_iload_n rfl rfl ?_
    refine w_iald rfl s_439 (n := 40000) rfl h.1 ?_
    replace h := h.2
    refine w_aload_n rfl rfl ?_
    refine w_callV (t' := 0) [(2, l2), (0, m 439 l3), (0, m 438 l3)] [] rfl s_428 rfl rfl ?_
    refine w_C.more (Q := fun r1 m1 => _) h (fun r1 m1 h => ?_)
    replace h := id h
    refine w_ifeq rfl (w_ite h (fun h => ?_) (fun h => ?_))
    · refine w_aload_n rfl rfl ?_
      refine w_gfC (c := 437) rfl s_428 rfl rfl ?_
      refine w_iload_n rfl rfl ?_
      refine w_iald rfl s_437 (n := 40000) rfl h.1 ?_
      replace h := h.2
      refine w_istore_n (lv' := [some (2, 428), none, some (2, l2), some (0, m1 437 l3)]) rfl rfl rfl ?_
      refine w_goto rfl ?_
      exact w_W.less h (w_sub [true, false, true, true] rfl)
    · refine w_iload_n rfl rfl ?_
      exact w_iret rfl rfl h
theorem xr_m_rawStream {d : Nat} {l1 l2 : Int} {m : w_M} {Q : Int → w_M → Prop} (h : xc_m_peek d 0 m (fun r1 m1 => if r1 = 13 then (xc_m_peek d 1 m1 (fun r2 m2 => if r2 = 10 then (xp_m_rawStream_39 d l1 l2 2 m2 Q) else (xc_m_peek d 0 m2 (fun r3 m3 => if r3 = 10 then (xp_m_rawStream_39 d l1 l2 1 m3 Q) else (xp_m_rawStream_39 d l1 l2 0 m3 Q))))) else (xc_m_peek d 0 m1 (fun r4 m4 => if r4 = 10 then (xp_m_rawStream_39 d l1 l2 1 m4 Q) else (xp_m_rawStream_39 d l1 l2 0 m4 Q))))) : xc_m_rawStream (d + 1) l1 l2 m Q := by
  refine w_enter (q := 6) (lv := [some (2, 428), some (0, l1), some (0, l2), none, none, none, none, none, none]) rfl rfl rfl ?_
  refine w_aload_n rfl rfl ?_
  refine w_iconst rfl (by decide) ?_
  refine w_callV (t' := 0) [(0, 0)] [] rfl s_428 rfl rfl ?_
  refine w_C.more (Q := fun r1 m1 => _) h (fun r1 m1 h => ?_)
  replace h := id h
  refine w_bipush rfl (by decide) ?_
  refine w_icne rfl (w_ite h (fun h => ?_) (fun h => ?_))
  · refine w_aload_n rfl rfl ?_
    refine w_iconst rfl (by decide) ?_
    refine w_callV (t' := 0) [(0, 1)] [] rfl s_428 rfl rfl ?_
    refine w_C.more (Q := fun r2 m2 => _) h (fun r2 m2 h => ?_)
    replace h := id h
    refine w_bipush rfl (by decide) ?_
    refine w_icne rfl (w_ite h (fun h => ?_) (fun h => ?_))
    · refine w_iconst rfl (by decide) ?_
      refine w_goto rfl ?_
      exact w_W.less h (w_sub [true, true, true, false, false, false, false, false, false] rfl)
    · refine w_aload_n rfl rfl ?_
      refine w_iconst rfl (by decide) ?_
      refine w_callV (t' := 0) [(0, 0)] [] rfl s_428 rfl rfl ?_
      refine w_C.more (Q := fun r3 m3 => _) h (fun r3 m3 h => ?_)
      replace h := id h
      refine w_bipush rfl (by decide) ?_
      refine w_icne rfl (w_ite h (fun h => ?_) (fun h => ?_))
      · refine w_iconst rfl (by decide) ?_
        refine w_goto rfl ?_
        exact w_W.less h (w_sub [true, true, true, false, false, false, false, false, false] rfl)
      · refine w_iconst rfl (by decide) ?_
        exact w_W.less h (w_sub [true, true, true, false, false, false, false, false, false] rfl)
  · refine w_aload_n rfl rfl ?_
    refine w_iconst rfl (by decide) ?_
    refine w_callV (t' := 0) [(0, 0)] [] rfl s_428 rfl rfl ?_
    refine w_C.more (Q := fun r4 m4 => _) h (fun r4 m4 h => ?_)
    replace h := id h
    refine w_bipush rfl (by decide) ?_
    refine w_icne rfl (w_ite h (fun h => ?_) (fun h => ?_))
    · refine w_iconst rfl (by decide) ?_
      refine w_goto rfl ?_
      exact w_W.less h (w_sub [true, true, true, false, false, false, false, false, false] rfl)
    · refine w_iconst rfl (by decide) ?_
      exact w_W.less h (w_sub [true, true, true, false, false, false, false, false, false] rfl)
theorem xr_m_rawStream_39 {d : Nat} {l1 l2 s0 : Int} {m : w_M} {Q : Int → w_M → Prop} (h : if s0 = 0 then (xc_m_fail d 6 l2 m (fun r1 m1 => Q (-1) m1)) else (xc_m_rawEntry d l1 200 m (fun r2 m2 => if r2 < 0 then (xp_m_rawStream_102 d l2 (w_32 ((m 428 21) + s0)) r2 (-1) m2 Q) else (((0 : Int) ≤ r2 ∧ r2 < 40000) ∧ (if (m2 432 r2) = 2 then (((0 : Int) ≤ r2 ∧ r2 < 40000) ∧ (xp_m_rawStream_102 d l2 (w_32 ((m 428 21) + s0)) r2 (m2 433 r2) m2 Q)) else (xp_m_rawStream_102 d l2 (w_32 ((m 428 21) + s0)) r2 (-1) m2 Q)))))) : xp_m_rawStream_39 d l1 l2 s0 m Q := by
  refine w_istore_n (lv' := [some (2, 428), some (0, l1), some (0, l2), some (0, s0), none, none, none, none, none]) rfl rfl rfl ?_
  refine w_aload_n rfl rfl ?_
  refine x_gfI rfl s_428 rfl (kk := 21) rfl rfl ?_
  refine w_iload_n rfl rfl ?_
  refine w_iadd rfl ?_
  refine w_istore (lv' := [some (2, 428), some (0, l1), some (0, l2), some (0, s0), some (0, w_32 ((m 428 21) + s0)), none, none, none, none]) rfl rfl rfl ?_
  refine w_iload_n rfl rfl ?_
  refine w_ifne rfl (w_ite h (fun h => ?_) (fun h => ?_))
  · refine w_aload_n rfl rfl ?_
    refine w_bipush rfl (by decide) ?_
    refine w_iload_n rfl rfl ?_
    refine w_callV (t' := 3) [(0, l2), (0, 6)] [] rfl s_428 rfl rfl ?_
    refine w_C.more (Q := fun r1 m1 => _) h (fun r1 m1 h => ?_)
    replace h := id h
    refine w_iconst rfl (by decide) ?_
    exact w_iret rfl rfl h
  · refine w_aload_n rfl rfl ?_
    refine w_iload_n rfl rfl ?_
    refine w_ldcwR rfl ?_
    refine w_callV (t' := 0) [(2, 200), (0, l1)] [] rfl s_428 rfl rfl ?_
    refine w_C.more (Q := fun r2 m2 => _) h (fun r2 m2 h => ?_)
    replace h := id h
    refine w_istore (lv' := [some (2, 428), some (0, l1), some (0, l2), some (0, s0), some (0, w_32 ((m 428 21) + s0)), some (0, r2), none, none, none]) rfl rfl rfl ?_
    refine w_iload rfl rfl ?_
    refine w_ifge rfl (w_ite h (fun h => ?_) (fun h => ?_))
    · refine w_iconst rfl (by decide) ?_
      refine w_goto rfl ?_
      exact w_W.less h (w_sub [true, false, true, false, true, true, false, false, false] rfl)
    · refine w_aload_n rfl rfl ?_
      refine w_gfC (c := 432) rfl s_428 rfl rfl ?_
      refine w_iload rfl rfl ?_
      refine w_bald rfl s_432 (n := 40000) rfl h.1 ?_
      replace h := h.2
      refine w_iconst rfl (by decide) ?_
      refine w_icne rfl (w_ite h (fun h => ?_) (fun h => ?_))
      · refine w_aload_n rfl rfl ?_
        refine w_gfC (c := 433) rfl s_428 rfl rfl ?_
        refine w_iload rfl rfl ?_
        refine w_iald rfl s_433 (n := 40000) rfl h.1 ?_
        replace h := h.2
        refine w_goto rfl ?_
        exact w_W.less h (w_sub [true, false, true, false, true, true, false, false, false] rfl)
      · refine w_iconst rfl (by decide) ?_
        exact w_W.less h (w_sub [true, false, true, false, true, true, false, false, false] rfl)
theorem xr_m_rawStream_102 {d : Nat} {l2 l4 l5 s0 : Int} {m : w_M} {Q : Int → w_M → Prop} (h : if l5 < 0 then (xp_m_rawStream_269 d l2 l4 s0 m Q) else (((0 : Int) ≤ l5 ∧ l5 < 40000) ∧ (if (m 432 l5) = 8 then (((0 : Int) ≤ l5 ∧ l5 < 40000) ∧ (if (m 433 l5) < (m 428 60) then (((0 : Int) ≤ (m 433 l5) ∧ (m 433 l5) < 200) ∧ (if (m 451 (m 433 l5)) = 1 then (((0 : Int) ≤ (m 433 l5) ∧ (m 433 l5) < 200) ∧ (if (m 456 (m 433 l5)) = 1 then (xp_m_rawStream_217 d l2 l4 (m 433 l5) 0 m Q) else (((0 : Int) ≤ (m 433 l5) ∧ (m 433 l5) < 200) ∧ (((0 : Int) ≤ l5 ∧ l5 < 40000) ∧ (if (m 453 (m 433 l5)) = (m 434 l5) then (((0 : Int) ≤ (m 433 l5) ∧ (m 433 l5) < 200) ∧ (if (m 456 (m 433 l5)) = 0 then (xc_m_readAt d (m 433 l5) m (fun r1 m1 => xc_m_good d m1 (fun r2 m2 => if r2 = 0 then (Q (-1) m2) else (xp_m_rawStream_217 d l2 l4 (m 433 l5) 1 m2 Q)))) else (xp_m_rawStream_217 d l2 l4 (m 433 l5) 1 m Q))) else (xp_m_rawStream_217 d l2 l4 (m 433 l5) 0 m Q)))))) else (xp_m_rawStream_217 d l2 l4 (m 433 l5) 0 m Q))) else (xp_m_rawStream_217 d l2 l4 (m 433 l5) 0 m Q))) else (xp_m_rawStream_269 d l2 l4 s0 m Q)))) : xp_m_rawStream_102 d l2 l4 l5 s0 m Q := by
  refine w_istore (lv' := [some (2, 428), none, some (0, l2), none, some (0, l4), some (0, l5), some (0, s0), none, none]) rfl rfl rfl ?_
  refine w_iload rfl rfl ?_
  refine w_iflt rfl (w_ite h (fun h => ?_) (fun h => ?_))
  · exact w_W.less h (w_sub [true, false, true, false, true, false, true, false, false] rfl)
  · refine w_aload_n rfl rfl ?_
    refine w_gfC (c := 432) rfl s_428 rfl rfl ?_
    refine w_iload rfl rfl ?_
    refine w_bald rfl s_432 (n := 40000) rfl h.1 ?_
    replace h := h.2
    refine w_bipush rfl (by decide) ?_
    refine w_icne rfl (w_ite h (fun h => ?_) (fun h => ?_))
    · refine w_aload_n rfl rfl ?_
      refine w_gfC (c := 433) rfl s_428 rfl rfl ?_
      refine w_iload rfl rfl ?_
      refine w_iald rfl s_433 (n := 40000) rfl h.1 ?_
      replace h := h.2
      refine w_istore (lv' := [some (2, 428), none, some (0, l2), none, some (0, l4), some (0, l5), some (0, s0), some (0, m 433 l5), none]) rfl rfl rfl ?_
      refine w_iload rfl rfl ?_
      refine w_aload_n rfl rfl ?_
      refine x_gfI rfl s_428 rfl (kk := 60) rfl rfl ?_
      refine w_icge rfl (w_ite h (fun h => ?_) (fun h => ?_))
      · refine w_aload_n rfl rfl ?_
        refine w_gfC (c := 451) rfl s_428 rfl rfl ?_
        refine w_iload rfl rfl ?_
        refine w_bald rfl s_451 (n := 200) rfl h.1 ?_
        replace h := h.2
        refine w_iconst rfl (by decide) ?_
        refine w_icne rfl (w_ite h (fun h => ?_) (fun h => ?_))
        · refine w_aload_n rfl rfl ?_
          refine w_gfC (c := 456) rfl s_428 rfl rfl ?_
          refine w_iload rfl rfl ?_
          refine w_bald rfl s_456 (n := 200) rfl h.1 ?_
          replace h := h.2
          refine w_iconst rfl (by decide) ?_
          refine w_iceq rfl (w_ite h (fun h => ?_) (fun h => ?_))
          · refine w_iconst rfl (by decide) ?_
            refine w_istore (lv' := [some (2, 428), none, some (0, l2), none, some (0, l4), some (0, l5), some (0, s0), some (0, m 433 l5), some (0, 0)]) rfl rfl rfl ?_
            refine w_iload rfl rfl ?_
            refine w_ifeq rfl (w_ift (by decide) ?_)
            exact w_W.less h (w_sub [true, false, true, false, true, false, false, true, true] rfl)
          · refine w_aload_n rfl rfl ?_
            refine w_gfC (c := 453) rfl s_428 rfl rfl ?_
            refine w_iload rfl rfl ?_
            refine w_lald rfl s_453 (w_EM (by decide)) (n := 200) rfl h.1 ?_
            replace h := h.2
            refine w_aload_n rfl rfl ?_
            refine w_gfC (c := 434) rfl s_428 rfl rfl ?_
            refine w_iload rfl rfl ?_
            refine w_iald rfl s_434 (n := 40000) rfl h.1 ?_
            replace h := h.2
            refine w_i2l rfl ?_
            refine w_lcne rfl rfl (w_ite h (fun h => ?_) (fun h => ?_))
            · refine w_iconst rfl (by decide) ?_
              refine w_goto rfl ?_
              refine w_istore (lv' := [some (2, 428), none, some (0, l2), none, some (0, l4), some (0, l5), some (0, s0), some (0, m 433 l5), some (0, 1)]) rfl rfl rfl ?_
              refine w_iload rfl rfl ?_
              refine w_ifeq rfl (w_iff (by decide) ?_)
              refine w_aload_n rfl rfl ?_
              refine w_gfC (c := 456) rfl s_428 rfl rfl ?_
              refine w_iload rfl rfl ?_
              refine w_bald rfl s_456 (n := 200) rfl h.1 ?_
              replace h := h.2
              refine w_ifne rfl (w_ite h (fun h => ?_) (fun h => ?_))
              · refine w_aload_n rfl rfl ?_
                refine w_iload rfl rfl ?_
                refine w_callV (t' := 3) [(0, m 433 l5)] [] rfl s_428 rfl rfl ?_
                refine w_C.more (Q := fun r1 m1 => _) h (fun r1 m1 h => ?_)
                replace h := id h
                refine w_aload_n rfl rfl ?_
                refine w_callV (t' := 0) [] [] rfl s_428 rfl rfl ?_
                refine w_C.more (Q := fun r2 m2 => _) h (fun r2 m2 h => ?_)
                replace h := id h
                refine w_ifne rfl (w_ite h (fun h => ?_) (fun h => ?_))
                · refine w_iconst rfl (by decide) ?_
                  exact w_iret rfl rfl h
                · exact w_W.less h (w_sub [true, false, true, false, true, false, false, true, true] rfl)
              · exact w_W.less h (w_sub [true, false, true, false, true, false, false, true, true] rfl)
            · refine w_iconst rfl (by decide) ?_
              refine w_istore (lv' := [some (2, 428), none, some (0, l2), none, some (0, l4), some (0, l5), some (0, s0), some (0, m 433 l5), some (0, 0)]) rfl rfl rfl ?_
              refine w_iload rfl rfl ?_
              refine w_ifeq rfl (w_ift (by decide) ?_)
              exact w_W.less h (w_sub [true, false, true, false, true, false, false, true, true] rfl)
        · refine w_iconst rfl (by decide) ?_
          refine w_istore (lv' := [some (2, 428), none, some (0, l2), none, some (0, l4), some (0, l5), some (0, s0), some (0, m 433 l5), some (0, 0)]) rfl rfl rfl ?_
          refine w_iload rfl rfl ?_
          refine w_ifeq rfl (w_ift (by decide) ?_)
          exact w_W.less h (w_sub [true, false, true, false, true, false, false, true, true] rfl)
      · refine w_iconst rfl (by decide) ?_
        refine w_istore (lv' := [some (2, 428), none, some (0, l2), none, some (0, l4), some (0, l5), some (0, s0), some (0, m 433 l5), some (0, 0)]) rfl rfl rfl ?_
        refine w_iload rfl rfl ?_
        refine w_ifeq rfl (w_ift (by decide) ?_)
        exact w_W.less h (w_sub [true, false, true, false, true, false, false, true, true] rfl)
    · exact w_W.less h (w_sub [true, false, true, false, true, false, true, false, false] rfl)
theorem xr_m_rawStream_217 {d : Nat} {l2 l4 l7 l8 : Int} {m : w_M} {Q : Int → w_M → Prop} (h : if l8 = 0 then (xc_m_from d 430 0 (m 428 3) m (fun r1 m1 => xp_m_rawStream_269 d l2 l4 (-1) m1 Q)) else (((0 : Int) ≤ l7 ∧ l7 < 200) ∧ (((0 : Int) ≤ (m 455 l7) ∧ (m 455 l7) < 40000) ∧ (if (m 432 (m 455 l7)) = 2 then (((0 : Int) ≤ l7 ∧ l7 < 200) ∧ (((0 : Int) ≤ (m 455 l7) ∧ (m 455 l7) < 40000) ∧ (xc_m_from d 430 0 (m 428 3) m (fun r2 m2 => xp_m_rawStream_269 d l2 l4 (m 433 (m 455 l7)) m2 Q)))) else (xc_m_from d 430 0 (m 428 3) m (fun r3 m3 => xp_m_rawStream_269 d l2 l4 (-1) m3 Q)))))) : xp_m_rawStream_217 d l2 l4 l7 l8 m Q := by
  refine w_iload rfl rfl ?_
  refine w_ifeq rfl (w_ite h (fun h => ?_) (fun h => ?_))
  · refine w_iconst rfl (by decide) ?_
    refine w_istore (lv' := [some (2, 428), none, some (0, l2), none, some (0, l4), none, some (0, (-1)), some (0, l7), some (0, l8)]) rfl rfl rfl ?_
    refine w_aload_n rfl rfl ?_
    refine w_aload_n rfl rfl ?_
    refine w_gfC (c := 430) rfl s_428 rfl rfl ?_
    refine w_iconst rfl (by decide) ?_
    refine w_aload_n rfl rfl ?_
    refine x_gfI rfl s_428 rfl (kk := 3) rfl rfl ?_
    refine w_callV (t' := 3) [(0, m 428 3), (0, 0), (2, 430)] [] rfl s_428 rfl rfl ?_
    refine w_C.more (Q := fun r1 m1 => _) h (fun r1 m1 h => ?_)
    replace h := id h
    exact w_W.less h (w_sub [true, false, true, false, true, false, true, false, false] rfl)
  · refine w_aload_n rfl rfl ?_
    refine w_gfC (c := 432) rfl s_428 rfl rfl ?_
    refine w_aload_n rfl rfl ?_
    refine w_gfC (c := 455) rfl s_428 rfl rfl ?_
    refine w_iload rfl rfl ?_
    refine w_iald rfl s_455 (n := 200) rfl h.1 ?_
    replace h := h.2
    refine w_bald rfl s_432 (n := 40000) rfl h.1 ?_
    replace h := h.2
    refine w_iconst rfl (by decide) ?_
    refine w_icne rfl (w_ite h (fun h => ?_) (fun h => ?_))
    · refine w_aload_n rfl rfl ?_
      refine w_gfC (c := 433) rfl s_428 rfl rfl ?_
      refine w_aload_n rfl rfl ?_
      refine w_gfC (c := 455) rfl s_428 rfl rfl ?_
      refine w_iload rfl rfl ?_
      refine w_iald rfl s_455 (n := 200) rfl h.1 ?_
      replace h := h.2
      refine w_iald rfl s_433 (n := 40000) rfl h.1 ?_
      replace h := h.2
      refine w_goto rfl ?_
      refine w_istore (lv' := [some (2, 428), none, some (0, l2), none, some (0, l4), none, some (0, m 433 (m 455 l7)), some (0, l7), some (0, l8)]) rfl rfl rfl ?_
      refine w_aload_n rfl rfl ?_
      refine w_aload_n rfl rfl ?_
      refine w_gfC (c := 430) rfl s_428 rfl rfl ?_
      refine w_iconst rfl (by decide) ?_
      refine w_aload_n rfl rfl ?_
      refine x_gfI rfl s_428 rfl (kk := 3) rfl rfl ?_
      refine w_callV (t' := 3) [(0, m 428 3), (0, 0), (2, 430)] [] rfl s_428 rfl rfl ?_
      refine w_C.more (Q := fun r2 m2 => _) h (fun r2 m2 h => ?_)
      replace h := id h
      exact w_W.less h (w_sub [true, false, true, false, true, false, true, false, false] rfl)
    · refine w_iconst rfl (by decide) ?_
      refine w_istore (lv' := [some (2, 428), none, some (0, l2), none, some (0, l4), none, some (0, (-1)), some (0, l7), some (0, l8)]) rfl rfl rfl ?_
      refine w_aload_n rfl rfl ?_
      refine w_aload_n rfl rfl ?_
      refine w_gfC (c := 430) rfl s_428 rfl rfl ?_
      refine w_iconst rfl (by decide) ?_
      refine w_aload_n rfl rfl ?_
      refine x_gfI rfl s_428 rfl (kk := 3) rfl rfl ?_
      refine w_callV (t' := 3) [(0, m 428 3), (0, 0), (2, 430)] [] rfl s_428 rfl rfl ?_
      refine w_C.more (Q := fun r3 m3 => _) h (fun r3 m3 h => ?_)
      replace h := id h
      exact w_W.less h (w_sub [true, false, true, false, true, false, true, false, false] rfl)
theorem xr_m_rawStream_269 {d : Nat} {l2 l4 l6 : Int} {m : w_M} {Q : Int → w_M → Prop} (h : if l6 < 0 then (xc_m_fail d 6 l2 m (fun r1 m1 => Q l4 (w_up m1 428 79 l6))) else (xc_m_streamEnd d l4 l6 m (fun r2 m2 => if r2 = 0 then (xc_m_fail d 6 l2 m2 (fun r3 m3 => Q l4 (w_up m3 428 79 l6))) else (Q l4 (w_up m2 428 79 l6))))) : xp_m_rawStream_269 d l2 l4 l6 m Q := by
  refine w_iload rfl rfl ?_
  refine w_iflt rfl (w_ite h (fun h => ?_) (fun h => ?_))
  · refine w_aload_n rfl rfl ?_
    refine w_bipush rfl (by decide) ?_
    refine w_iload_n rfl rfl ?_
    refine w_callV (t' := 3) [(0, l2), (0, 6)] [] rfl s_428 rfl rfl ?_
    refine w_C.more (Q := fun r1 m1 => _) h (fun r1 m1 h => ?_)
    replace h := id h
    refine w_aload_n rfl rfl ?_
    refine w_iload rfl rfl ?_
    refine w_pfI rfl s_428 rfl (w_EM (by decide)) rfl (kk := 79) rfl ?_
    refine w_iload rfl rfl ?_
    exact w_iret rfl rfl h
  · refine w_aload_n rfl rfl ?_
    refine w_iload rfl rfl ?_
    refine w_iload rfl rfl ?_
    refine w_callV (t' := 0) [(0, l6), (0, l4)] [] rfl s_428 rfl rfl ?_
    refine w_C.more (Q := fun r2 m2 => _) h (fun r2 m2 h => ?_)
    replace h := id h
    refine w_ifne rfl (w_ite h (fun h => ?_) (fun h => ?_))
    · refine w_aload_n rfl rfl ?_
      refine w_bipush rfl (by decide) ?_
      refine w_iload_n rfl rfl ?_
      refine w_callV (t' := 3) [(0, l2), (0, 6)] [] rfl s_428 rfl rfl ?_
      refine w_C.more (Q := fun r3 m3 => _) h (fun r3 m3 h => ?_)
      replace h := id h
      refine w_aload_n rfl rfl ?_
      refine w_iload rfl rfl ?_
      refine w_pfI rfl s_428 rfl (w_EM (by decide)) rfl (kk := 79) rfl ?_
      refine w_iload rfl rfl ?_
      exact w_iret rfl rfl h
    · refine w_aload_n rfl rfl ?_
      refine w_iload rfl rfl ?_
      refine w_pfI rfl s_428 rfl (w_EM (by decide)) rfl (kk := 79) rfl ?_
      refine w_iload rfl rfl ?_
      exact w_iret rfl rfl h
theorem xr_m_readAt {d : Nat} {l1 : Int} {m : w_M} {Q : Int → w_M → Prop} (h : ((0 : Int) ≤ l1 ∧ l1 < 200) ∧ (if (m 452 l1) < (m 428 3) then (((0 : Int) ≤ l1 ∧ l1 < 200) ∧ (((0 : Int) ≤ l1 ∧ l1 < 200) ∧ (xc_m_from d 430 0 (m 428 3) (w_up m 456 l1 (w_8 1)) (fun r1 m1 => xc_m_header d (w_up m1 428 21 (w_32 (m 452 l1))) (fun r2 m2 => if r2 = 0 then (xc_m_fail d 6 (w_32 (m 452 l1)) m2 (fun r3 m3 => Q 0 m3)) else (if (m2 428 77) = l1 then (((0 : Int) ≤ l1 ∧ l1 < 200) ∧ (if (m2 428 78) = (m2 453 l1) then (xc_m_token d m2 (fun r4 m4 => xc_m_object d 0 1 m4 (fun r5 m5 => xc_m_good d m5 (fun r6 m6 => if r6 = 0 then (Q 0 m6) else (((0 : Int) ≤ l1 ∧ l1 < 200) ∧ (xc_m_token d (w_up m6 455 l1 r5) (fun r7 m7 => ((0 : Int) ≤ r5 ∧ r5 < 40000) ∧ (if (m7 432 r5) = 7 then (xc_m_isWord d 272 m7 (fun r8 m8 => if r8 = 0 then (xc_m_good d m8 (fun r9 m9 => if r9 = 0 then (xp_m_readAt_202 d l1 (w_32 (m 452 l1)) r5 (-1) (-1) m9 Q) else (xc_m_isWord d 274 m9 (fun r10 m10 => if r10 = 0 then (xc_m_fail d 6 (w_32 (m 452 l1)) m10 (fun r11 m11 => xp_m_readAt_202 d l1 (w_32 (m 452 l1)) r5 (-1) (-1) m11 Q)) else (xp_m_readAt_202 d l1 (w_32 (m 452 l1)) r5 (-1) (-1) m10 Q))))) else (xc_m_rawStream d r5 (w_32 (m 452 l1)) m8 (fun r12 m12 => xc_m_good d m12 (fun r13 m13 => if r13 = 0 then (xc_m_good d m13 (fun r14 m14 => if r14 = 0 then (xp_m_readAt_202 d l1 (w_32 (m 452 l1)) r5 r12 (m12 428 79) m14 Q) else (xc_m_isWord d 274 m14 (fun r15 m15 => if r15 = 0 then (xc_m_fail d 6 (w_32 (m 452 l1)) m15 (fun r16 m16 => xp_m_readAt_202 d l1 (w_32 (m 452 l1)) r5 r12 (m12 428 79) m16 Q)) else (xp_m_readAt_202 d l1 (w_32 (m 452 l1)) r5 r12 (m12 428 79) m15 Q))))) else (xc_m_token d m13 (fun r17 m17 => xc_m_good d m17 (fun r18 m18 => if r18 = 0 then (xp_m_readAt_202 d l1 (w_32 (m 452 l1)) r5 r12 (m12 428 79) m18 Q) else (xc_m_isWord d 274 m18 (fun r19 m19 => if r19 = 0 then (xc_m_fail d 6 (w_32 (m 452 l1)) m19 (fun r20 m20 => xp_m_readAt_202 d l1 (w_32 (m 452 l1)) r5 r12 (m12 428 79) m20 Q)) else (xp_m_readAt_202 d l1 (w_32 (m 452 l1)) r5 r12 (m12 428 79) m19 Q))))))))))) else (xc_m_good d m7 (fun r21 m21 => if r21 = 0 then (xp_m_readAt_202 d l1 (w_32 (m 452 l1)) r5 (-1) (-1) m21 Q) else (xc_m_isWord d 274 m21 (fun r22 m22 => if r22 = 0 then (xc_m_fail d 6 (w_32 (m 452 l1)) m22 (fun r23 m23 => xp_m_readAt_202 d l1 (w_32 (m 452 l1)) r5 (-1) (-1) m23 Q)) else (xp_m_readAt_202 d l1 (w_32 (m 452 l1)) r5 (-1) (-1) m22 Q))))))))))))) else (xc_m_fail d 6 (w_32 (m 452 l1)) m2 (fun r24 m24 => Q 0 m24)))) else (xc_m_fail d 6 (w_32 (m 452 l1)) m2 (fun r25 m25 => Q 0 m25)))))))) else (xc_m_fail d 6 (m 428 3) m (fun r26 m26 => Q 0 m26)))) : xc_m_readAt (d + 1) l1 m Q := by
  refine w_enter (q := 4) (lv := [some (2, 428), some (0, l1), none, none, none, none]) rfl rfl rfl ?_
  refine w_aload_n rfl rfl ?_
  refine w_gfC (c := 452) rfl s_428 rfl rfl ?_
  refine w_iload_n rfl rfl ?_
  refine w_lald rfl s_452 (w_EM (by decide)) (n := 200) rfl h.1 ?_
  replace h := h.2
  refine w_aload_n rfl rfl ?_
  refine x_gfI rfl s_428 rfl (kk := 3) rfl rfl ?_
  refine w_i2l rfl ?_
  refine w_lclt rfl rfl (w_ite h (fun h => ?_) (fun h => ?_))
  · refine w_aload_n rfl rfl ?_
    refine w_gfC (c := 452) rfl s_428 rfl rfl ?_
    refine w_iload_n rfl rfl ?_
    refine w_lald rfl s_452 (w_EM (by decide)) (n := 200) rfl h.1 ?_
    replace h := h.2
    refine w_l2i rfl ?_
    refine w_istore_n (lv' := [some (2, 428), some (0, l1), some (0, w_32 (m 452 l1)), none, none, none]) rfl rfl rfl ?_
    refine w_aload_n rfl rfl ?_
    refine w_gfC (c := 456) rfl s_428 rfl rfl ?_
    refine w_iload_n rfl rfl ?_
    refine w_iconst rfl (by decide) ?_
    refine w_bast rfl s_456 (w_EM (by decide)) (n := 200) rfl h.1 ?_
    replace h := h.2
    refine w_aload_n rfl rfl ?_
    refine w_aload_n rfl rfl ?_
    refine w_gfC (c := 430) rfl s_428 rfl rfl ?_
    refine w_iconst rfl (by decide) ?_
    refine w_aload_n rfl rfl ?_
    refine x_gfI rfl s_428 rfl (kk := 3) rfl (w_up_ne (by decide)) ?_
    refine w_callV (t' := 3) [(0, m 428 3), (0, 0), (2, 430)] [] rfl s_428 rfl rfl ?_
    refine w_C.more (Q := fun r1 m1 => _) h (fun r1 m1 h => ?_)
    replace h := id h
    refine w_aload_n rfl rfl ?_
    refine w_iload_n rfl rfl ?_
    refine w_pfI rfl s_428 rfl (w_EM (by decide)) rfl (kk := 21) rfl ?_
    refine w_aload_n rfl rfl ?_
    refine w_callV (t' := 0) [] [] rfl s_428 rfl rfl ?_
    refine w_C.more (Q := fun r2 m2 => _) h (fun r2 m2 h => ?_)
    replace h := id h
    refine w_ifeq rfl (w_ite h (fun h => ?_) (fun h => ?_))
    · refine w_aload_n rfl rfl ?_
      refine w_bipush rfl (by decide) ?_
      refine w_iload_n rfl rfl ?_
      refine w_callV (t' := 3) [(0, w_32 (m 452 l1)), (0, 6)] [] rfl s_428 rfl rfl ?_
      refine w_C.more (Q := fun r3 m3 => _) h (fun r3 m3 h => ?_)
      replace h := id h
      exact w_vret rfl rfl h
    · refine w_aload_n rfl rfl ?_
      refine x_gfI rfl s_428 rfl (kk := 77) rfl rfl ?_
      refine w_iload_n rfl rfl ?_
      refine w_icne rfl (w_ite h (fun h => ?_) (fun h => ?_))
      · refine w_aload_n rfl rfl ?_
        refine x_gfL rfl s_428 rfl (kk := 78) rfl rfl ?_
        refine w_aload_n rfl rfl ?_
        refine w_gfC (c := 453) rfl s_428 rfl rfl ?_
        refine w_iload_n rfl rfl ?_
        refine w_lald rfl s_453 (w_EM (by decide)) (n := 200) rfl h.1 ?_
        replace h := h.2
        refine w_lceq rfl rfl (w_ite h (fun h => ?_) (fun h => ?_))
        · refine w_aload_n rfl rfl ?_
          refine w_callV (t' := 3) [] [] rfl s_428 rfl rfl ?_
          refine w_C.more (Q := fun r4 m4 => _) h (fun r4 m4 h => ?_)
          replace h := id h
          refine w_aload_n rfl rfl ?_
          refine w_iconst rfl (by decide) ?_
          refine w_iconst rfl (by decide) ?_
          refine w_callV (t' := 0) [(0, 1), (0, 0)] [] rfl s_428 rfl rfl ?_
          refine w_C.more (Q := fun r5 m5 => _) h (fun r5 m5 h => ?_)
          replace h := id h
          refine w_istore_n (lv' := [some (2, 428), some (0, l1), some (0, w_32 (m 452 l1)), some (0, r5), none, none]) rfl rfl rfl ?_
          refine w_aload_n rfl rfl ?_
          refine w_callV (t' := 0) [] [] rfl s_428 rfl rfl ?_
          refine w_C.more (Q := fun r6 m6 => _) h (fun r6 m6 h => ?_)
          replace h := id h
          refine w_ifne rfl (w_ite h (fun h => ?_) (fun h => ?_))
          · exact w_vret rfl rfl h
          · refine w_aload_n rfl rfl ?_
            refine w_gfC (c := 455) rfl s_428 rfl rfl ?_
            refine w_iload_n rfl rfl ?_
            refine w_iload_n rfl rfl ?_
            refine w_iast rfl s_455 (w_EM (by decide)) (n := 200) rfl h.1 ?_
            replace h := h.2
            refine w_aload_n rfl rfl ?_
            refine w_callV (t' := 3) [] [] rfl s_428 rfl rfl ?_
            refine w_C.more (Q := fun r7 m7 => _) h (fun r7 m7 h => ?_)
            replace h := id h
            refine w_iconst rfl (by decide) ?_
            refine w_istore (lv' := [some (2, 428), some (0, l1), some (0, w_32 (m 452 l1)), some (0, r5), some (0, (-1)), none]) rfl rfl rfl ?_
            refine w_iconst rfl (by decide) ?_
            refine w_istore (lv' := [some (2, 428), some (0, l1), some (0, w_32 (m 452 l1)), some (0, r5), some (0, (-1)), some (0, (-1))]) rfl rfl rfl ?_
            refine w_aload_n rfl rfl ?_
            refine w_gfC (c := 432) rfl s_428 rfl rfl ?_
            refine w_iload_n rfl rfl ?_
            refine w_bald rfl s_432 (n := 40000) rfl h.1 ?_
            replace h := h.2
            refine w_bipush rfl (by decide) ?_
            refine w_icne rfl (w_ite h (fun h => ?_) (fun h => ?_))
            · refine w_aload_n rfl rfl ?_
              refine w_ldcwR rfl ?_
              refine w_callV (t' := 0) [(2, 272)] [] rfl s_428 rfl rfl ?_
              refine w_C.more (Q := fun r8 m8 => _) h (fun r8 m8 h => ?_)
              replace h := id h
              refine w_ifeq rfl (w_ite h (fun h => ?_) (fun h => ?_))
              · refine w_aload_n rfl rfl ?_
                refine w_callV (t' := 0) [] [] rfl s_428 rfl rfl ?_
                refine w_C.more (Q := fun r9 m9 => _) h (fun r9 m9 h => ?_)
                replace h := id h
                refine w_ifeq rfl (w_ite h (fun h => ?_) (fun h => ?_))
                · exact w_W.less h (w_sub [true, true, true, true, true, true] rfl)
                · refine w_aload_n rfl rfl ?_
                  refine w_ldcwR rfl ?_
                  refine w_callV (t' := 0) [(2, 274)] [] rfl s_428 rfl rfl ?_
                  refine w_C.more (Q := fun r10 m10 => _) h (fun r10 m10 h => ?_)
                  replace h := id h
                  refine w_ifne rfl (w_ite h (fun h => ?_) (fun h => ?_))
                  · refine w_aload_n rfl rfl ?_
                    refine w_bipush rfl (by decide) ?_
                    refine w_iload_n rfl rfl ?_
                    refine w_callV (t' := 3) [(0, w_32 (m 452 l1)), (0, 6)] [] rfl s_428 rfl rfl ?_
                    refine w_C.more (Q := fun r11 m11 => _) h (fun r11 m11 h => ?_)
                    replace h := id h
                    exact w_W.less h (w_sub [true, true, true, true, true, true] rfl)
                  · exact w_W.less h (w_sub [true, true, true, true, true, true] rfl)
              · refine w_aload_n rfl rfl ?_
                refine w_iload_n rfl rfl ?_
                refine w_iload_n rfl rfl ?_
                refine w_callV (t' := 0) [(0, w_32 (m 452 l1)), (0, r5)] [] rfl s_428 rfl rfl ?_
                refine w_C.more (Q := fun r12 m12 => _) h (fun r12 m12 h => ?_)
                replace h := id h
                refine w_istore (lv' := [some (2, 428), some (0, l1), some (0, w_32 (m 452 l1)), some (0, r5), some (0, r12), some (0, (-1))]) rfl rfl rfl ?_
                refine w_aload_n rfl rfl ?_
                refine x_gfI rfl s_428 rfl (kk := 79) rfl rfl ?_
                refine w_istore (lv' := [some (2, 428), some (0, l1), some (0, w_32 (m 452 l1)), some (0, r5), some (0, r12), some (0, m12 428 79)]) rfl rfl rfl ?_
                refine w_aload_n rfl rfl ?_
                refine w_callV (t' := 0) [] [] rfl s_428 rfl rfl ?_
                refine w_C.more (Q := fun r13 m13 => _) h (fun r13 m13 h => ?_)
                replace h := id h
                refine w_ifeq rfl (w_ite h (fun h => ?_) (fun h => ?_))
                · refine w_aload_n rfl rfl ?_
                  refine w_callV (t' := 0) [] [] rfl s_428 rfl rfl ?_
                  refine w_C.more (Q := fun r14 m14 => _) h (fun r14 m14 h => ?_)
                  replace h := id h
                  refine w_ifeq rfl (w_ite h (fun h => ?_) (fun h => ?_))
                  · exact w_W.less h (w_sub [true, true, true, true, true, true] rfl)
                  · refine w_aload_n rfl rfl ?_
                    refine w_ldcwR rfl ?_
                    refine w_callV (t' := 0) [(2, 274)] [] rfl s_428 rfl rfl ?_
                    refine w_C.more (Q := fun r15 m15 => _) h (fun r15 m15 h => ?_)
                    replace h := id h
                    refine w_ifne rfl (w_ite h (fun h => ?_) (fun h => ?_))
                    · refine w_aload_n rfl rfl ?_
                      refine w_bipush rfl (by decide) ?_
                      refine w_iload_n rfl rfl ?_
                      refine w_callV (t' := 3) [(0, w_32 (m 452 l1)), (0, 6)] [] rfl s_428 rfl rfl ?_
                      refine w_C.more (Q := fun r16 m16 => _) h (fun r16 m16 h => ?_)
                      replace h := id h
                      exact w_W.less h (w_sub [true, true, true, true, true, true] rfl)
                    · exact w_W.less h (w_sub [true, true, true, true, true, true] rfl)
                · refine w_aload_n rfl rfl ?_
                  refine w_callV (t' := 3) [] [] rfl s_428 rfl rfl ?_
                  refine w_C.more (Q := fun r17 m17 => _) h (fun r17 m17 h => ?_)
                  replace h := id h
                  refine w_aload_n rfl rfl ?_
                  refine w_callV (t' := 0) [] [] rfl s_428 rfl rfl ?_
                  refine w_C.more (Q := fun r18 m18 => _) h (fun r18 m18 h => ?_)
                  replace h := id h
                  refine w_ifeq rfl (w_ite h (fun h => ?_) (fun h => ?_))
                  · exact w_W.less h (w_sub [true, true, true, true, true, true] rfl)
                  · refine w_aload_n rfl rfl ?_
                    refine w_ldcwR rfl ?_
                    refine w_callV (t' := 0) [(2, 274)] [] rfl s_428 rfl rfl ?_
                    refine w_C.more (Q := fun r19 m19 => _) h (fun r19 m19 h => ?_)
                    replace h := id h
                    refine w_ifne rfl (w_ite h (fun h => ?_) (fun h => ?_))
                    · refine w_aload_n rfl rfl ?_
                      refine w_bipush rfl (by decide) ?_
                      refine w_iload_n rfl rfl ?_
                      refine w_callV (t' := 3) [(0, w_32 (m 452 l1)), (0, 6)] [] rfl s_428 rfl rfl ?_
                      refine w_C.more (Q := fun r20 m20 => _) h (fun r20 m20 h => ?_)
                      replace h := id h
                      exact w_W.less h (w_sub [true, true, true, true, true, true] rfl)
                    · exact w_W.less h (w_sub [true, true, true, true, true, true] rfl)
            · refine w_aload_n rfl rfl ?_
              refine w_callV (t' := 0) [] [] rfl s_428 rfl rfl ?_
              refine w_C.more (Q := fun r21 m21 => _) h (fun r21 m21 h => ?_)
              replace h := id h
              refine w_ifeq rfl (w_ite h (fun h => ?_) (fun h => ?_))
              · exact w_W.less h (w_sub [true, true, true, true, true, true] rfl)
              · refine w_aload_n rfl rfl ?_
                refine w_ldcwR rfl ?_
                refine w_callV (t' := 0) [(2, 274)] [] rfl s_428 rfl rfl ?_
                refine w_C.more (Q := fun r22 m22 => _) h (fun r22 m22 h => ?_)
                replace h := id h
                refine w_ifne rfl (w_ite h (fun h => ?_) (fun h => ?_))
                · refine w_aload_n rfl rfl ?_
                  refine w_bipush rfl (by decide) ?_
                  refine w_iload_n rfl rfl ?_
                  refine w_callV (t' := 3) [(0, w_32 (m 452 l1)), (0, 6)] [] rfl s_428 rfl rfl ?_
                  refine w_C.more (Q := fun r23 m23 => _) h (fun r23 m23 h => ?_)
                  replace h := id h
                  exact w_W.less h (w_sub [true, true, true, true, true, true] rfl)
                · exact w_W.less h (w_sub [true, true, true, true, true, true] rfl)
        · refine w_aload_n rfl rfl ?_
          refine w_bipush rfl (by decide) ?_
          refine w_iload_n rfl rfl ?_
          refine w_callV (t' := 3) [(0, w_32 (m 452 l1)), (0, 6)] [] rfl s_428 rfl rfl ?_
          refine w_C.more (Q := fun r24 m24 => _) h (fun r24 m24 h => ?_)
          replace h := id h
          exact w_vret rfl rfl h
      · refine w_aload_n rfl rfl ?_
        refine w_bipush rfl (by decide) ?_
        refine w_iload_n rfl rfl ?_
        refine w_callV (t' := 3) [(0, w_32 (m 452 l1)), (0, 6)] [] rfl s_428 rfl rfl ?_
        refine w_C.more (Q := fun r25 m25 => _) h (fun r25 m25 h => ?_)
        replace h := id h
        exact w_vret rfl rfl h
  · refine w_aload_n rfl rfl ?_
    refine w_bipush rfl (by decide) ?_
    refine w_aload_n rfl rfl ?_
    refine x_gfI rfl s_428 rfl (kk := 3) rfl rfl ?_
    refine w_callV (t' := 3) [(0, m 428 3), (0, 6)] [] rfl s_428 rfl rfl ?_
    refine w_C.more (Q := fun r26 m26 => _) h (fun r26 m26 h => ?_)
    replace h := id h
    exact w_vret rfl rfl h
theorem xr_m_readAt_202 {d : Nat} {l1 l2 l3 l4 l5 : Int} {m : w_M} {Q : Int → w_M → Prop} (h : xc_m_good d m (fun r1 m1 => if r1 = 0 then (((0 : Int) ≤ l1 ∧ l1 < 200) ∧ (Q 0 (w_up m1 456 l1 (w_8 2)))) else (if l4 < 0 then (((0 : Int) ≤ l1 ∧ l1 < 200) ∧ (Q 0 (w_up m1 456 l1 (w_8 2)))) else (xc_m_keepStream d l1 l3 l2 l4 l5 m1 (fun r2 m2 => ((0 : Int) ≤ l1 ∧ l1 < 200) ∧ (Q 0 (w_up m2 456 l1 (w_8 2)))))))) : xp_m_readAt_202 d l1 l2 l3 l4 l5 m Q := by
  refine w_aload_n rfl rfl ?_
  refine w_callV (t' := 0) [] [] rfl s_428 rfl rfl ?_
  refine w_C.more (Q := fun r1 m1 => _) h (fun r1 m1 h => ?_)
  replace h := id h
  refine w_ifeq rfl (w_ite h (fun h => ?_) (fun h => ?_))
  · refine w_aload_n rfl rfl ?_
    refine w_gfC (c := 456) rfl s_428 rfl rfl ?_
    refine w_iload_n rfl rfl ?_
    refine w_iconst rfl (by decide) ?_
    refine w_bast rfl s_456 (w_EM (by decide)) (n := 200) rfl h.1 ?_
    replace h := h.2
    exact w_vret rfl rfl h
  · refine w_iload rfl rfl ?_
    refine w_iflt rfl (w_ite h (fun h => ?_) (fun h => ?_))
    · refine w_aload_n rfl rfl ?_
      refine w_gfC (c := 456) rfl s_428 rfl rfl ?_
      refine w_iload_n rfl rfl ?_
      refine w_iconst rfl (by decide) ?_
      refine w_bast rfl s_456 (w_EM (by decide)) (n := 200) rfl h.1 ?_
      replace h := h.2
      exact w_vret rfl rfl h
    · refine w_aload_n rfl rfl ?_
      refine w_iload_n rfl rfl ?_
      refine w_iload_n rfl rfl ?_
      refine w_iload_n rfl rfl ?_
      refine w_iload rfl rfl ?_
      refine w_iload rfl rfl ?_
      refine w_callV (t' := 3) [(0, l5), (0, l4), (0, l2), (0, l3), (0, l1)] [] rfl s_428 rfl rfl ?_
      refine w_C.more (Q := fun r2 m2 => _) h (fun r2 m2 h => ?_)
      replace h := id h
      refine w_aload_n rfl rfl ?_
      refine w_gfC (c := 456) rfl s_428 rfl rfl ?_
      refine w_iload_n rfl rfl ?_
      refine w_iconst rfl (by decide) ?_
      refine w_bast rfl s_456 (w_EM (by decide)) (n := 200) rfl h.1 ?_
      replace h := h.2
      exact w_vret rfl rfl h
theorem xr_m_readFile {d : Nat} {m : w_M} {Q : Int → w_M → Prop} (h : xp_m_readFile_2 d 0 m Q) : xc_m_readFile (d + 1) m Q := by
  refine w_enter (q := 4) (lv := [some (2, 428), none, none, none, none]) rfl rfl rfl ?_
  refine w_iconst rfl (by decide) ?_
  refine w_istore_n (lv' := [some (2, 428), some (0, 0), none, none, none]) rfl rfl rfl ?_
  exact w_W.less h (w_sub [true, true, false, false, false] rfl)
theorem xr_m_readFile_2 {d : Nat} {l1 : Int} {m : w_M} {Q : Int → w_M → Prop} (h : if l1 < 200 then (((0 : Int) ≤ l1 ∧ l1 < 200) ∧ (((0 : Int) ≤ l1 ∧ l1 < 200) ∧ (((0 : Int) ≤ l1 ∧ l1 < 200) ∧ (((0 : Int) ≤ l1 ∧ l1 < 200) ∧ (((0 : Int) ≤ l1 ∧ l1 < 200) ∧ (((0 : Int) ≤ l1 ∧ l1 < 200) ∧ (xp_m_readFile_2 d (w_32 (l1 + 1)) (w_up (w_up (w_up (w_up (w_up (w_up m 451 l1 (w_8 0)) 454 l1 0) 456 l1 (w_8 0)) 457 l1 0) 460 l1 0) 455 l1 (-1)) Q))))))) else (xp_m_readFile_73 d 0 (w_up (w_up m 428 60 0) 428 61 0) Q)) : xp_m_readFile_2 d l1 m Q := by
  refine w_iload_n rfl rfl ?_
  refine w_sipush rfl (by decide) ?_
  refine w_icge rfl (w_ite h (fun h => ?_) (fun h => ?_))
  · refine w_aload_n rfl rfl ?_
    refine w_gfC (c := 451) rfl s_428 rfl rfl ?_
    refine w_iload_n rfl rfl ?_
    refine w_iconst rfl (by decide) ?_
    refine w_bast rfl s_451 (w_EM (by decide)) (n := 200) rfl h.1 ?_
    replace h := h.2
    refine w_aload_n rfl rfl ?_
    refine w_gfC (c := 454) rfl s_428 rfl rfl ?_
    refine w_iload_n rfl rfl ?_
    refine w_iconst rfl (by decide) ?_
    refine w_zast rfl s_454 (w_EM (by decide)) (n := 200) rfl h.1 (by decide) ?_
    replace h := h.2
    refine w_aload_n rfl rfl ?_
    refine w_gfC (c := 456) rfl s_428 rfl rfl ?_
    refine w_iload_n rfl rfl ?_
    refine w_iconst rfl (by decide) ?_
    refine w_bast rfl s_456 (w_EM (by decide)) (n := 200) rfl h.1 ?_
    replace h := h.2
    refine w_aload_n rfl rfl ?_
    refine w_gfC (c := 457) rfl s_428 rfl rfl ?_
    refine w_iload_n rfl rfl ?_
    refine w_iconst rfl (by decide) ?_
    refine w_zast rfl s_457 (w_EM (by decide)) (n := 200) rfl h.1 (by decide) ?_
    replace h := h.2
    refine w_aload_n rfl rfl ?_
    refine w_gfC (c := 460) rfl s_428 rfl rfl ?_
    refine w_iload_n rfl rfl ?_
    refine w_iconst rfl (by decide) ?_
    refine w_zast rfl s_460 (w_EM (by decide)) (n := 200) rfl h.1 (by decide) ?_
    replace h := h.2
    refine w_aload_n rfl rfl ?_
    refine w_gfC (c := 455) rfl s_428 rfl rfl ?_
    refine w_iload_n rfl rfl ?_
    refine w_iconst rfl (by decide) ?_
    refine w_iast rfl s_455 (w_EM (by decide)) (n := 200) rfl h.1 ?_
    replace h := h.2
    refine w_iinc (lv' := [some (2, 428), some (0, w_32 (l1 + 1)), none, none, none]) rfl rfl rfl rfl ?_
    refine w_goto rfl ?_
    exact w_W.less h (w_sub [true, true, false, false, false] rfl)
  · refine w_aload_n rfl rfl ?_
    refine w_iconst rfl (by decide) ?_
    refine w_pfI rfl s_428 rfl (w_EM (by decide)) rfl (kk := 60) rfl ?_
    refine w_aload_n rfl rfl ?_
    refine w_iconst rfl (by decide) ?_
    refine w_pfI rfl s_428 rfl (w_EM (by decide)) rfl (kk := 61) rfl ?_
    refine w_ldcwR rfl ?_
    refine w_astore_n (lv' := [some (2, 428), some (2, 276), none, none, none]) rfl rfl rfl ?_
    refine w_iconst rfl (by decide) ?_
    refine w_istore_n (lv' := [some (2, 428), some (2, 276), some (0, 0), none, none]) rfl rfl rfl ?_
    exact w_W.less h (w_sub [true, true, true, false, false] rfl)
theorem xr_m_readFile_73 {d : Nat} {l2 : Int} {m : w_M} {Q : Int → w_M → Prop} (h : if l2 < 8 then (xc_m_byteHere d l2 m (fun r1 m1 => if l2 < 7 then (xc_js_charAt sM d 276 l2 m1 (fun r2 m2 => if r1 = r2 then (xp_m_readFile_73 d (w_32 (l2 + 1)) m2 Q) else (if l2 < (m2 428 3) then (xc_m_fail d 1 l2 m2 (fun r3 m3 => Q 0 m3)) else (xc_m_fail d 1 (m2 428 3) m2 (fun r4 m4 => Q 0 m4))))) else (if r1 < 48 then (if l2 < (m1 428 3) then (xc_m_fail d 1 l2 m1 (fun r5 m5 => Q 0 m5)) else (xc_m_fail d 1 (m1 428 3) m1 (fun r6 m6 => Q 0 m6))) else (if 55 < r1 then (if l2 < (m1 428 3) then (xc_m_fail d 1 l2 m1 (fun r7 m7 => Q 0 m7)) else (xc_m_fail d 1 (m1 428 3) m1 (fun r8 m8 => Q 0 m8))) else (xp_m_readFile_73 d (w_32 (l2 + 1)) m1 Q))))) else (xp_m_readFile_151 d (w_32 ((m 428 3) - 9)) m Q)) : xp_m_readFile_73 d l2 m Q := by
  refine w_iload_n rfl rfl ?_
  refine w_bipush rfl (by decide) ?_
  refine w_icge rfl (w_ite h (fun h => ?_) (fun h => ?_))
  · refine w_aload_n rfl rfl ?_
    refine w_iload_n rfl rfl ?_
    refine w_callV (t' := 0) [(0, l2)] [] rfl s_428 rfl rfl ?_
    refine w_C.more (Q := fun r1 m1 => _) h (fun r1 m1 h => ?_)
    replace h := id h
    refine w_istore_n (lv' := [some (2, 428), some (2, 276), some (0, l2), some (0, r1), none]) rfl rfl rfl ?_
    refine w_iload_n rfl rfl ?_
    refine w_bipush rfl (by decide) ?_
    refine w_icge rfl (w_ite h (fun h => ?_) (fun h => ?_))
    · refine w_iload_n rfl rfl ?_
      refine w_aload_n rfl rfl ?_
      refine w_iload_n rfl rfl ?_
      refine w_callV (t' := 0) [(0, l2)] [(0, r1)] rfl (w_isS_s (a := 276) ⟨by decide, rfl⟩) rfl rfl ?_
      refine w_C.more (Q := fun r2 m2 => _) h (fun r2 m2 h => ?_)
      replace h := id h
      refine w_iceq rfl (w_ite h (fun h => ?_) (fun h => ?_))
      · refine w_iinc (lv' := [some (2, 428), some (2, 276), some (0, w_32 (l2 + 1)), some (0, r1), none]) rfl rfl rfl rfl ?_
        refine w_goto rfl ?_
        exact w_W.less h (w_sub [true, true, true, false, false] rfl)
      · refine w_goto rfl ?_
        refine w_aload_n rfl rfl ?_
        refine w_iconst rfl (by decide) ?_
        refine w_iload_n rfl rfl ?_
        refine w_aload_n rfl rfl ?_
        refine x_gfI rfl s_428 rfl (kk := 3) rfl rfl ?_
        refine w_icge rfl (w_ite h (fun h => ?_) (fun h => ?_))
        · refine w_iload_n rfl rfl ?_
          refine w_goto rfl ?_
          refine w_callV (t' := 3) [(0, l2), (0, 1)] [] rfl s_428 rfl rfl ?_
          refine w_C.more (Q := fun r3 m3 => _) h (fun r3 m3 h => ?_)
          replace h := id h
          exact w_vret rfl rfl h
        · refine w_aload_n rfl rfl ?_
          refine x_gfI rfl s_428 rfl (kk := 3) rfl rfl ?_
          refine w_callV (t' := 3) [(0, m2 428 3), (0, 1)] [] rfl s_428 rfl rfl ?_
          refine w_C.more (Q := fun r4 m4 => _) h (fun r4 m4 h => ?_)
          replace h := id h
          exact w_vret rfl rfl h
    · refine w_iload_n rfl rfl ?_
      refine w_bipush rfl (by decide) ?_
      refine w_iclt rfl (w_ite h (fun h => ?_) (fun h => ?_))
      · refine w_aload_n rfl rfl ?_
        refine w_iconst rfl (by decide) ?_
        refine w_iload_n rfl rfl ?_
        refine w_aload_n rfl rfl ?_
        refine x_gfI rfl s_428 rfl (kk := 3) rfl rfl ?_
        refine w_icge rfl (w_ite h (fun h => ?_) (fun h => ?_))
        · refine w_iload_n rfl rfl ?_
          refine w_goto rfl ?_
          refine w_callV (t' := 3) [(0, l2), (0, 1)] [] rfl s_428 rfl rfl ?_
          refine w_C.more (Q := fun r5 m5 => _) h (fun r5 m5 h => ?_)
          replace h := id h
          exact w_vret rfl rfl h
        · refine w_aload_n rfl rfl ?_
          refine x_gfI rfl s_428 rfl (kk := 3) rfl rfl ?_
          refine w_callV (t' := 3) [(0, m1 428 3), (0, 1)] [] rfl s_428 rfl rfl ?_
          refine w_C.more (Q := fun r6 m6 => _) h (fun r6 m6 h => ?_)
          replace h := id h
          exact w_vret rfl rfl h
      · refine w_iload_n rfl rfl ?_
        refine w_bipush rfl (by decide) ?_
        refine w_icle rfl (w_ite h (fun h => ?_) (fun h => ?_))
        · refine w_aload_n rfl rfl ?_
          refine w_iconst rfl (by decide) ?_
          refine w_iload_n rfl rfl ?_
          refine w_aload_n rfl rfl ?_
          refine x_gfI rfl s_428 rfl (kk := 3) rfl rfl ?_
          refine w_icge rfl (w_ite h (fun h => ?_) (fun h => ?_))
          · refine w_iload_n rfl rfl ?_
            refine w_goto rfl ?_
            refine w_callV (t' := 3) [(0, l2), (0, 1)] [] rfl s_428 rfl rfl ?_
            refine w_C.more (Q := fun r7 m7 => _) h (fun r7 m7 h => ?_)
            replace h := id h
            exact w_vret rfl rfl h
          · refine w_aload_n rfl rfl ?_
            refine x_gfI rfl s_428 rfl (kk := 3) rfl rfl ?_
            refine w_callV (t' := 3) [(0, m1 428 3), (0, 1)] [] rfl s_428 rfl rfl ?_
            refine w_C.more (Q := fun r8 m8 => _) h (fun r8 m8 h => ?_)
            replace h := id h
            exact w_vret rfl rfl h
        · refine w_iinc (lv' := [some (2, 428), some (2, 276), some (0, w_32 (l2 + 1)), some (0, r1), none]) rfl rfl rfl rfl ?_
          refine w_goto rfl ?_
          exact w_W.less h (w_sub [true, true, true, false, false] rfl)
  · refine w_aload_n rfl rfl ?_
    refine x_gfI rfl s_428 rfl (kk := 3) rfl rfl ?_
    refine w_bipush rfl (by decide) ?_
    refine w_isub rfl ?_
    refine w_istore_n (lv' := [some (2, 428), some (2, 276), some (0, w_32 ((m 428 3) - 9)), none, none]) rfl rfl rfl ?_
    exact w_W.less h (w_sub [true, false, true, false, false] rfl)
theorem xr_m_readFile_151 {d : Nat} {l2 : Int} {m : w_M} {Q : Int → w_M → Prop} (h : if l2 < 0 then (if l2 < 0 then (xc_m_fail d 2 (m 428 3) m (fun r1 m1 => Q 0 m1)) else (xc_m_ending d (w_32 (l2 + 9)) m (fun r2 m2 => xp_m_readFile_195 d r2 m2 Q))) else (xc_m_stand d 278 l2 m (fun r3 m3 => if r3 = 0 then (xp_m_readFile_151 d (w_32 (l2 + (-1))) m3 Q) else (if l2 < 0 then (xc_m_fail d 2 (m3 428 3) m3 (fun r4 m4 => Q 0 m4)) else (xc_m_ending d (w_32 (l2 + 9)) m3 (fun r5 m5 => xp_m_readFile_195 d r5 m5 Q)))))) : xp_m_readFile_151 d l2 m Q := by
  refine w_iload_n rfl rfl ?_
  refine w_iflt rfl (w_ite h (fun h => ?_) (fun h => ?_))
  · refine w_iload_n rfl rfl ?_
    refine w_ifge rfl (w_ite h (fun h => ?_) (fun h => ?_))
    · refine w_aload_n rfl rfl ?_
      refine w_iconst rfl (by decide) ?_
      refine w_aload_n rfl rfl ?_
      refine x_gfI rfl s_428 rfl (kk := 3) rfl rfl ?_
      refine w_callV (t' := 3) [(0, m 428 3), (0, 2)] [] rfl s_428 rfl rfl ?_
      refine w_C.more (Q := fun r1 m1 => _) h (fun r1 m1 h => ?_)
      replace h := id h
      exact w_vret rfl rfl h
    · refine w_aload_n rfl rfl ?_
      refine w_iload_n rfl rfl ?_
      refine w_bipush rfl (by decide) ?_
      refine w_iadd rfl ?_
      refine w_callV (t' := 1) [(0, w_32 (l2 + 9))] [] rfl s_428 rfl rfl ?_
      refine w_C.more (Q := fun r2 m2 => _) h (fun r2 m2 h => ?_)
      replace h := id h
      refine w_lstore_n (lv' := [some (2, 428), none, some (0, l2), some (1, r2), none]) rfl rfl rfl ?_
      exact w_W.less h (w_sub [true, false, false, true, false] rfl)
  · refine w_aload_n rfl rfl ?_
    refine w_ldcwR rfl ?_
    refine w_iload_n rfl rfl ?_
    refine w_callV (t' := 0) [(0, l2), (2, 278)] [] rfl s_428 rfl rfl ?_
    refine w_C.more (Q := fun r3 m3 => _) h (fun r3 m3 h => ?_)
    replace h := id h
    refine w_ifne rfl (w_ite h (fun h => ?_) (fun h => ?_))
    · refine w_iinc (lv' := [some (2, 428), none, some (0, w_32 (l2 + (-1))), none, none]) rfl rfl rfl rfl ?_
      refine w_goto rfl ?_
      exact w_W.less h (w_sub [true, false, true, false, false] rfl)
    · refine w_iload_n rfl rfl ?_
      refine w_ifge rfl (w_ite h (fun h => ?_) (fun h => ?_))
      · refine w_aload_n rfl rfl ?_
        refine w_iconst rfl (by decide) ?_
        refine w_aload_n rfl rfl ?_
        refine x_gfI rfl s_428 rfl (kk := 3) rfl rfl ?_
        refine w_callV (t' := 3) [(0, m3 428 3), (0, 2)] [] rfl s_428 rfl rfl ?_
        refine w_C.more (Q := fun r4 m4 => _) h (fun r4 m4 h => ?_)
        replace h := id h
        exact w_vret rfl rfl h
      · refine w_aload_n rfl rfl ?_
        refine w_iload_n rfl rfl ?_
        refine w_bipush rfl (by decide) ?_
        refine w_iadd rfl ?_
        refine w_callV (t' := 1) [(0, w_32 (l2 + 9))] [] rfl s_428 rfl rfl ?_
        refine w_C.more (Q := fun r5 m5 => _) h (fun r5 m5 h => ?_)
        replace h := id h
        refine w_lstore_n (lv' := [some (2, 428), none, some (0, l2), some (1, r5), none]) rfl rfl rfl ?_
        exact w_W.less h (w_sub [true, false, false, true, false] rfl)
theorem xr_m_readFile_195 {d : Nat} {l3 : Int} {m : w_M} {Q : Int → w_M → Prop} (h : xc_m_good d m (fun r1 m1 => if r1 = 0 then (Q 0 m1) else (if l3 < 0 then (Q 0 m1) else (xc_m_section d l3 m1 (fun r2 m2 => xp_m_readFile_195 d r2 m2 Q))))) : xp_m_readFile_195 d l3 m Q := by
  refine w_aload_n rfl rfl ?_
  refine w_callV (t' := 0) [] [] rfl s_428 rfl rfl ?_
  refine w_C.more (Q := fun r1 m1 => _) h (fun r1 m1 h => ?_)
  replace h := id h
  refine w_ifeq rfl (w_ite h (fun h => ?_) (fun h => ?_))
  · exact w_vret rfl rfl h
  · refine w_lload_n rfl rfl ?_
    refine w_lconst rfl rfl ?_
    refine w_lclt rfl rfl (w_ite h (fun h => ?_) (fun h => ?_))
    · exact w_vret rfl rfl h
    · refine w_aload_n rfl rfl ?_
      refine w_lload_n rfl rfl ?_
      refine w_callV (t' := 1) [(1, l3)] [] rfl s_428 rfl rfl ?_
      refine w_C.more (Q := fun r2 m2 => _) h (fun r2 m2 h => ?_)
      replace h := id h
      refine w_lstore_n (lv' := [some (2, 428), none, none, some (1, r2), none]) rfl rfl rfl ?_
      refine w_goto rfl ?_
      exact w_W.less h (w_sub [true, false, false, true, false] rfl)
theorem xr_m_readHex {d : Nat} {m : w_M} {Q : Int → w_M → Prop} (h : xp_m_readHex_17 d (-1) (w_up (w_up m 428 26 0) 428 21 (w_32 ((m 428 21) + 1))) Q) : xc_m_readHex (d + 1) m Q := by
  refine w_enter (q := 3) (lv := [some (2, 428), none, none, none]) rfl rfl rfl ?_
  refine w_aload_n rfl rfl ?_
  refine w_iconst rfl (by decide) ?_
  refine w_pfI rfl s_428 rfl (w_EM (by decide)) rfl (kk := 26) rfl ?_
  refine w_iconst rfl (by decide) ?_
  refine w_istore_n (lv' := [some (2, 428), some (0, (-1)), none, none]) rfl rfl rfl ?_
  refine w_aload_n rfl rfl ?_
  refine w_dup rfl (show (2 : Nat) ≠ 1 by decide) ?_
  refine x_gfI rfl s_428 rfl (kk := 21) rfl (w_up_nb (by decide)) ?_
  refine w_iconst rfl (by decide) ?_
  refine w_iadd rfl ?_
  refine w_pfI rfl s_428 rfl (w_EM (by decide)) rfl (kk := 21) rfl ?_
  exact w_W.less h (w_sub [true, true, false, false] rfl)
theorem xr_m_readHex_17 {d : Nat} {l1 : Int} {m : w_M} {Q : Int → w_M → Prop} (h : xc_m_peek d 0 m (fun r1 m1 => if r1 = 62 then (if l1 < 0 then (if 2000 < (m1 428 26) then (Q 0 (w_up (w_up m1 428 21 (w_32 ((m1 428 21) + 1))) 428 22 11)) else (Q 0 (w_up (w_up m1 428 21 (w_32 ((m1 428 21) + 1))) 428 22 5))) else (xc_m_put1 d (w_32 (16 * l1)) (w_up m1 428 21 (w_32 ((m1 428 21) + 1))) (fun r2 m2 => if 2000 < (m2 428 26) then (Q 0 (w_up m2 428 22 11)) else (Q 0 (w_up m2 428 22 5))))) else (xc_m_peek d 0 m1 (fun r3 m3 => xc_m_hexOf d r3 m3 (fun r4 m4 => if r4 < 0 then (xc_m_isBlank d r3 m4 (fun r5 m5 => if r5 = 0 then (Q 0 (w_up m5 428 22 10)) else (xp_m_readHex_56 d l1 r4 m5 Q))) else (xp_m_readHex_56 d l1 r4 m4 Q)))))) : xp_m_readHex_17 d l1 m Q := by
  refine w_aload_n rfl rfl ?_
  refine w_iconst rfl (by decide) ?_
  refine w_callV (t' := 0) [(0, 0)] [] rfl s_428 rfl rfl ?_
  refine w_C.more (Q := fun r1 m1 => _) h (fun r1 m1 h => ?_)
  replace h := id h
  refine w_bipush rfl (by decide) ?_
  refine w_iceq rfl (w_ite h (fun h => ?_) (fun h => ?_))
  · refine w_aload_n rfl rfl ?_
    refine w_dup rfl (show (2 : Nat) ≠ 1 by decide) ?_
    refine x_gfI rfl s_428 rfl (kk := 21) rfl rfl ?_
    refine w_iconst rfl (by decide) ?_
    refine w_iadd rfl ?_
    refine w_pfI rfl s_428 rfl (w_EM (by decide)) rfl (kk := 21) rfl ?_
    refine w_iload_n rfl rfl ?_
    refine w_iflt rfl (w_ite h (fun h => ?_) (fun h => ?_))
    · refine w_aload_n rfl rfl ?_
      refine w_aload_n rfl rfl ?_
      refine x_gfI rfl s_428 rfl (kk := 26) rfl (w_up_nb (by decide)) ?_
      refine w_sipush rfl (by decide) ?_
      refine w_icle rfl (w_ite h (fun h => ?_) (fun h => ?_))
      · refine w_bipush rfl (by decide) ?_
        refine w_goto rfl ?_
        refine w_pfI rfl s_428 rfl (w_EM (by decide)) rfl (kk := 22) rfl ?_
        exact w_vret rfl rfl h
      · refine w_iconst rfl (by decide) ?_
        refine w_pfI rfl s_428 rfl (w_EM (by decide)) rfl (kk := 22) rfl ?_
        exact w_vret rfl rfl h
    · refine w_aload_n rfl rfl ?_
      refine w_bipush rfl (by decide) ?_
      refine w_iload_n rfl rfl ?_
      refine w_imul rfl ?_
      refine w_callV (t' := 3) [(0, w_32 (16 * l1))] [] rfl s_428 rfl rfl ?_
      refine w_C.more (Q := fun r2 m2 => _) h (fun r2 m2 h => ?_)
      replace h := id h
      refine w_aload_n rfl rfl ?_
      refine w_aload_n rfl rfl ?_
      refine x_gfI rfl s_428 rfl (kk := 26) rfl rfl ?_
      refine w_sipush rfl (by decide) ?_
      refine w_icle rfl (w_ite h (fun h => ?_) (fun h => ?_))
      · refine w_bipush rfl (by decide) ?_
        refine w_goto rfl ?_
        refine w_pfI rfl s_428 rfl (w_EM (by decide)) rfl (kk := 22) rfl ?_
        exact w_vret rfl rfl h
      · refine w_iconst rfl (by decide) ?_
        refine w_pfI rfl s_428 rfl (w_EM (by decide)) rfl (kk := 22) rfl ?_
        exact w_vret rfl rfl h
  · refine w_aload_n rfl rfl ?_
    refine w_iconst rfl (by decide) ?_
    refine w_callV (t' := 0) [(0, 0)] [] rfl s_428 rfl rfl ?_
    refine w_C.more (Q := fun r3 m3 => _) h (fun r3 m3 h => ?_)
    replace h := id h
    refine w_istore_n (lv' := [some (2, 428), some (0, l1), some (0, r3), none]) rfl rfl rfl ?_
    refine w_iload_n rfl rfl ?_
    refine w_callS (t' := 0) [(0, r3)] [] rfl (by decide) rfl rfl ?_
    refine w_C.more (Q := fun r4 m4 => _) h (fun r4 m4 h => ?_)
    replace h := id h
    refine w_istore_n (lv' := [some (2, 428), some (0, l1), some (0, r3), some (0, r4)]) rfl rfl rfl ?_
    refine w_iload_n rfl rfl ?_
    refine w_ifge rfl (w_ite h (fun h => ?_) (fun h => ?_))
    · refine w_iload_n rfl rfl ?_
      refine w_callS (t' := 0) [(0, r3)] [] rfl (by decide) rfl rfl ?_
      refine w_C.more (Q := fun r5 m5 => _) h (fun r5 m5 h => ?_)
      replace h := id h
      refine w_ifne rfl (w_ite h (fun h => ?_) (fun h => ?_))
      · refine w_aload_n rfl rfl ?_
        refine w_bipush rfl (by decide) ?_
        refine w_pfI rfl s_428 rfl (w_EM (by decide)) rfl (kk := 22) rfl ?_
        exact w_vret rfl rfl h
      · exact w_W.less h (w_sub [true, true, false, true] rfl)
    · exact w_W.less h (w_sub [true, true, false, true] rfl)
theorem xr_m_readHex_56 {d : Nat} {l1 l3 : Int} {m : w_M} {Q : Int → w_M → Prop} (h : if l3 < 0 then (if l3 < 0 then (xp_m_readHex_17 d l1 (w_up m 428 21 (w_32 ((m 428 21) + 1))) Q) else (xp_m_readHex_17 d l3 (w_up m 428 21 (w_32 ((m 428 21) + 1))) Q)) else (if l1 < 0 then (if l3 < 0 then (xp_m_readHex_17 d l1 (w_up m 428 21 (w_32 ((m 428 21) + 1))) Q) else (xp_m_readHex_17 d l3 (w_up m 428 21 (w_32 ((m 428 21) + 1))) Q)) else (xc_m_put1 d (w_32 ((w_32 (16 * l1)) + l3)) m (fun r1 m1 => xp_m_readHex_17 d (-1) (w_up m1 428 21 (w_32 ((m1 428 21) + 1))) Q)))) : xp_m_readHex_56 d l1 l3 m Q := by
  refine w_iload_n rfl rfl ?_
  refine w_iflt rfl (w_ite h (fun h => ?_) (fun h => ?_))
  · refine w_iload_n rfl rfl ?_
    refine w_iflt rfl (w_ite h (fun h => ?_) (fun h => ?_))
    · refine w_aload_n rfl rfl ?_
      refine w_dup rfl (show (2 : Nat) ≠ 1 by decide) ?_
      refine x_gfI rfl s_428 rfl (kk := 21) rfl rfl ?_
      refine w_iconst rfl (by decide) ?_
      refine w_iadd rfl ?_
      refine w_pfI rfl s_428 rfl (w_EM (by decide)) rfl (kk := 21) rfl ?_
      refine w_goto rfl ?_
      exact w_W.less h (w_sub [true, true, false, false] rfl)
    · refine w_iload_n rfl rfl ?_
      refine w_istore_n (lv' := [some (2, 428), some (0, l3), none, some (0, l3)]) rfl rfl rfl ?_
      refine w_aload_n rfl rfl ?_
      refine w_dup rfl (show (2 : Nat) ≠ 1 by decide) ?_
      refine x_gfI rfl s_428 rfl (kk := 21) rfl rfl ?_
      refine w_iconst rfl (by decide) ?_
      refine w_iadd rfl ?_
      refine w_pfI rfl s_428 rfl (w_EM (by decide)) rfl (kk := 21) rfl ?_
      refine w_goto rfl ?_
      exact w_W.less h (w_sub [true, true, false, false] rfl)
  · refine w_iload_n rfl rfl ?_
    refine w_iflt rfl (w_ite h (fun h => ?_) (fun h => ?_))
    · refine w_iload_n rfl rfl ?_
      refine w_iflt rfl (w_ite h (fun h => ?_) (fun h => ?_))
      · refine w_aload_n rfl rfl ?_
        refine w_dup rfl (show (2 : Nat) ≠ 1 by decide) ?_
        refine x_gfI rfl s_428 rfl (kk := 21) rfl rfl ?_
        refine w_iconst rfl (by decide) ?_
        refine w_iadd rfl ?_
        refine w_pfI rfl s_428 rfl (w_EM (by decide)) rfl (kk := 21) rfl ?_
        refine w_goto rfl ?_
        exact w_W.less h (w_sub [true, true, false, false] rfl)
      · refine w_iload_n rfl rfl ?_
        refine w_istore_n (lv' := [some (2, 428), some (0, l3), none, some (0, l3)]) rfl rfl rfl ?_
        refine w_aload_n rfl rfl ?_
        refine w_dup rfl (show (2 : Nat) ≠ 1 by decide) ?_
        refine x_gfI rfl s_428 rfl (kk := 21) rfl rfl ?_
        refine w_iconst rfl (by decide) ?_
        refine w_iadd rfl ?_
        refine w_pfI rfl s_428 rfl (w_EM (by decide)) rfl (kk := 21) rfl ?_
        refine w_goto rfl ?_
        exact w_W.less h (w_sub [true, true, false, false] rfl)
    · refine w_aload_n rfl rfl ?_
      refine w_bipush rfl (by decide) ?_
      refine w_iload_n rfl rfl ?_
      refine w_imul rfl ?_
      refine w_iload_n rfl rfl ?_
      refine w_iadd rfl ?_
      refine w_callV (t' := 3) [(0, w_32 ((w_32 (16 * l1)) + l3))] [] rfl s_428 rfl rfl ?_
      refine w_C.more (Q := fun r1 m1 => _) h (fun r1 m1 h => ?_)
      replace h := id h
      refine w_iconst rfl (by decide) ?_
      refine w_istore_n (lv' := [some (2, 428), some (0, (-1)), none, some (0, l3)]) rfl rfl rfl ?_
      refine w_goto rfl ?_
      refine w_aload_n rfl rfl ?_
      refine w_dup rfl (show (2 : Nat) ≠ 1 by decide) ?_
      refine x_gfI rfl s_428 rfl (kk := 21) rfl rfl ?_
      refine w_iconst rfl (by decide) ?_
      refine w_iadd rfl ?_
      refine w_pfI rfl s_428 rfl (w_EM (by decide)) rfl (kk := 21) rfl ?_
      refine w_goto rfl ?_
      exact w_W.less h (w_sub [true, true, false, false] rfl)
theorem xr_m_readIn {d : Nat} {l1 : Int} {m : w_M} {Q : Int → w_M → Prop} (h : ((0 : Int) ≤ l1 ∧ l1 < 200) ∧ (if (m 452 l1) < 1 then (xc_m_fail d 6 (m 428 3) m (fun r1 m1 => Q 0 m1)) else (if (m 452 l1) < (m 428 60) then (((0 : Int) ≤ (w_32 (m 452 l1)) ∧ (w_32 (m 452 l1)) < 200) ∧ (if (m 451 (w_32 (m 452 l1))) = 1 then (((0 : Int) ≤ (w_32 (m 452 l1)) ∧ (w_32 (m 452 l1)) < 200) ∧ (if (m 452 (w_32 (m 452 l1))) < (m 428 3) then (((0 : Int) ≤ (w_32 (m 452 l1)) ∧ (w_32 (m 452 l1)) < 200) ∧ (xp_m_readIn_80 d l1 (w_32 (m 452 l1)) (w_32 (m 452 (w_32 (m 452 l1)))) m Q)) else (xp_m_readIn_80 d l1 (w_32 (m 452 l1)) (m 428 3) m Q))) else (xc_m_fail d 6 (m 428 3) m (fun r2 m2 => Q 0 m2)))) else (xc_m_fail d 6 (m 428 3) m (fun r3 m3 => Q 0 m3))))) : xc_m_readIn (d + 1) l1 m Q := by
  refine w_enter (q := 13) (lv := [some (2, 428), some (0, l1), none, none, none, none, none, none, none, none, none, none, none, none, none]) rfl rfl rfl ?_
  refine w_aload_n rfl rfl ?_
  refine w_gfC (c := 452) rfl s_428 rfl rfl ?_
  refine w_iload_n rfl rfl ?_
  refine w_lald rfl s_452 (w_EM (by decide)) (n := 200) rfl h.1 ?_
  replace h := h.2
  refine w_lstore_n (lv' := [some (2, 428), some (0, l1), some (1, m 452 l1), none, none, none, none, none, none, none, none, none, none, none, none]) rfl rfl rfl ?_
  refine w_lload_n rfl rfl ?_
  refine w_lconst rfl rfl ?_
  refine w_lclt rfl rfl (w_ite h (fun h => ?_) (fun h => ?_))
  · refine w_aload_n rfl rfl ?_
    refine w_bipush rfl (by decide) ?_
    refine w_aload_n rfl rfl ?_
    refine x_gfI rfl s_428 rfl (kk := 3) rfl rfl ?_
    refine w_callV (t' := 3) [(0, m 428 3), (0, 6)] [] rfl s_428 rfl rfl ?_
    refine w_C.more (Q := fun r1 m1 => _) h (fun r1 m1 h => ?_)
    replace h := id h
    exact w_vret rfl rfl h
  · refine w_lload_n rfl rfl ?_
    refine w_aload_n rfl rfl ?_
    refine x_gfI rfl s_428 rfl (kk := 60) rfl rfl ?_
    refine w_i2l rfl ?_
    refine w_lcge rfl rfl (w_ite h (fun h => ?_) (fun h => ?_))
    · refine w_aload_n rfl rfl ?_
      refine w_gfC (c := 451) rfl s_428 rfl rfl ?_
      refine w_lload_n rfl rfl ?_
      refine w_l2i rfl ?_
      refine w_bald rfl s_451 (n := 200) rfl h.1 ?_
      replace h := h.2
      refine w_iconst rfl (by decide) ?_
      refine w_iceq rfl (w_ite h (fun h => ?_) (fun h => ?_))
      · refine w_lload_n rfl rfl ?_
        refine w_l2i rfl ?_
        refine w_istore (lv' := [some (2, 428), some (0, l1), some (1, m 452 l1), none, some (0, w_32 (m 452 l1)), none, none, none, none, none, none, none, none, none, none]) rfl rfl rfl ?_
        refine w_aload_n rfl rfl ?_
        refine w_gfC (c := 452) rfl s_428 rfl rfl ?_
        refine w_iload rfl rfl ?_
        refine w_lald rfl s_452 (w_EM (by decide)) (n := 200) rfl h.1 ?_
        replace h := h.2
        refine w_aload_n rfl rfl ?_
        refine x_gfI rfl s_428 rfl (kk := 3) rfl rfl ?_
        refine w_i2l rfl ?_
        refine w_lclt rfl rfl (w_ite h (fun h => ?_) (fun h => ?_))
        · refine w_aload_n rfl rfl ?_
          refine w_gfC (c := 452) rfl s_428 rfl rfl ?_
          refine w_iload rfl rfl ?_
          refine w_lald rfl s_452 (w_EM (by decide)) (n := 200) rfl h.1 ?_
          replace h := h.2
          refine w_l2i rfl ?_
          exact w_W.less h (w_sub [true, true, false, false, true, false, false, false, false, false, false, false, false, false, false] rfl)
        · refine w_aload_n rfl rfl ?_
          refine x_gfI rfl s_428 rfl (kk := 3) rfl rfl ?_
          refine w_goto rfl ?_
          exact w_W.less h (w_sub [true, true, false, false, true, false, false, false, false, false, false, false, false, false, false] rfl)
      · refine w_aload_n rfl rfl ?_
        refine w_bipush rfl (by decide) ?_
        refine w_aload_n rfl rfl ?_
        refine x_gfI rfl s_428 rfl (kk := 3) rfl rfl ?_
        refine w_callV (t' := 3) [(0, m 428 3), (0, 6)] [] rfl s_428 rfl rfl ?_
        refine w_C.more (Q := fun r2 m2 => _) h (fun r2 m2 h => ?_)
        replace h := id h
        exact w_vret rfl rfl h
    · refine w_aload_n rfl rfl ?_
      refine w_bipush rfl (by decide) ?_
      refine w_aload_n rfl rfl ?_
      refine x_gfI rfl s_428 rfl (kk := 3) rfl rfl ?_
      refine w_callV (t' := 3) [(0, m 428 3), (0, 6)] [] rfl s_428 rfl rfl ?_
      refine w_C.more (Q := fun r3 m3 => _) h (fun r3 m3 h => ?_)
      replace h := id h
      exact w_vret rfl rfl h
theorem xr_m_readIn_80 {d : Nat} {l1 l4 s0 : Int} {m : w_M} {Q : Int → w_M → Prop} (h : ((0 : Int) ≤ l4 ∧ l4 < 200) ∧ (if (m 453 l4) = 0 then (((0 : Int) ≤ l4 ∧ l4 < 200) ∧ (if (m 456 l4) = 0 then (xc_m_readAt d l4 m (fun r1 m1 => xp_m_readIn_119 d l1 l4 s0 m1 Q)) else (xp_m_readIn_119 d l1 l4 s0 m Q))) else (xc_m_fail d 6 s0 m (fun r2 m2 => Q 0 m2)))) : xp_m_readIn_80 d l1 l4 s0 m Q := by
  refine w_istore (lv' := [some (2, 428), some (0, l1), none, none, some (0, l4), some (0, s0), none, none, none, none, none, none, none, none, none]) rfl rfl rfl ?_
  refine w_aload_n rfl rfl ?_
  refine w_gfC (c := 453) rfl s_428 rfl rfl ?_
  refine w_iload rfl rfl ?_
  refine w_lald rfl s_453 (w_EM (by decide)) (n := 200) rfl h.1 ?_
  replace h := h.2
  refine w_lconst rfl rfl ?_
  refine w_lceq rfl rfl (w_ite h (fun h => ?_) (fun h => ?_))
  · refine w_aload_n rfl rfl ?_
    refine w_gfC (c := 456) rfl s_428 rfl rfl ?_
    refine w_iload rfl rfl ?_
    refine w_bald rfl s_456 (n := 200) rfl h.1 ?_
    replace h := h.2
    refine w_ifne rfl (w_ite h (fun h => ?_) (fun h => ?_))
    · refine w_aload_n rfl rfl ?_
      refine w_iload rfl rfl ?_
      refine w_callV (t' := 3) [(0, l4)] [] rfl s_428 rfl rfl ?_
      refine w_C.more (Q := fun r1 m1 => _) h (fun r1 m1 h => ?_)
      replace h := id h
      exact w_W.less h (w_sub [true, true, false, false, true, true, false, false, false, false, false, false, false, false, false] rfl)
    · exact w_W.less h (w_sub [true, true, false, false, true, true, false, false, false, false, false, false, false, false, false] rfl)
  · refine w_aload_n rfl rfl ?_
    refine w_bipush rfl (by decide) ?_
    refine w_iload rfl rfl ?_
    refine w_callV (t' := 3) [(0, s0), (0, 6)] [] rfl s_428 rfl rfl ?_
    refine w_C.more (Q := fun r2 m2 => _) h (fun r2 m2 h => ?_)
    replace h := id h
    exact w_vret rfl rfl h
theorem xr_m_readIn_119 {d : Nat} {l1 l4 l5 : Int} {m : w_M} {Q : Int → w_M → Prop} (h : xc_m_good d m (fun r1 m1 => if r1 = 0 then (Q 0 m1) else (((0 : Int) ≤ l4 ∧ l4 < 200) ∧ (((0 : Int) ≤ l4 ∧ l4 < 200) ∧ (if (m1 457 l4) = 0 then (xp_m_readIn_170 d l1 l4 l5 (m1 455 l4) 0 m1 Q) else (xc_m_rawEntry d (m1 455 l4) 218 m1 (fun r2 m2 => xc_m_isName d r2 280 m2 (fun r3 m3 => if r3 = 0 then (xp_m_readIn_170 d l1 l4 l5 (m1 455 l4) 0 m3 Q) else (xp_m_readIn_170 d l1 l4 l5 (m1 455 l4) 1 m3 Q))))))))) : xp_m_readIn_119 d l1 l4 l5 m Q := by
  refine w_aload_n rfl rfl ?_
  refine w_callV (t' := 0) [] [] rfl s_428 rfl rfl ?_
  refine w_C.more (Q := fun r1 m1 => _) h (fun r1 m1 h => ?_)
  replace h := id h
  refine w_ifne rfl (w_ite h (fun h => ?_) (fun h => ?_))
  · exact w_vret rfl rfl h
  · refine w_aload_n rfl rfl ?_
    refine w_gfC (c := 455) rfl s_428 rfl rfl ?_
    refine w_iload rfl rfl ?_
    refine w_iald rfl s_455 (n := 200) rfl h.1 ?_
    replace h := h.2
    refine w_istore (lv' := [some (2, 428), some (0, l1), none, none, some (0, l4), some (0, l5), some (0, m1 455 l4), none, none, none, none, none, none, none, none]) rfl rfl rfl ?_
    refine w_aload_n rfl rfl ?_
    refine w_gfC (c := 457) rfl s_428 rfl rfl ?_
    refine w_iload rfl rfl ?_
    refine w_zald rfl s_457 (n := 200) rfl h.1 ?_
    replace h := h.2
    refine w_ifeq rfl (w_ite h (fun h => ?_) (fun h => ?_))
    · refine w_iconst rfl (by decide) ?_
      exact w_W.less h (w_sub [true, true, false, false, true, true, true, false, false, false, false, false, false, false, false] rfl)
    · refine w_aload_n rfl rfl ?_
      refine w_aload_n rfl rfl ?_
      refine w_iload rfl rfl ?_
      refine w_ldcwR rfl ?_
      refine w_callV (t' := 0) [(2, 218), (0, m1 455 l4)] [(2, 428)] rfl s_428 rfl rfl ?_
      refine w_C.more (Q := fun r2 m2 => _) h (fun r2 m2 h => ?_)
      replace h := id h
      refine w_ldcwR rfl ?_
      refine w_callV (t' := 0) [(2, 280), (0, r2)] [] rfl s_428 rfl rfl ?_
      refine w_C.more (Q := fun r3 m3 => _) h (fun r3 m3 h => ?_)
      replace h := id h
      refine w_ifeq rfl (w_ite h (fun h => ?_) (fun h => ?_))
      · refine w_iconst rfl (by decide) ?_
        exact w_W.less h (w_sub [true, true, false, false, true, true, true, false, false, false, false, false, false, false, false] rfl)
      · refine w_iconst rfl (by decide) ?_
        refine w_goto rfl ?_
        exact w_W.less h (w_sub [true, true, false, false, true, true, true, false, false, false, false, false, false, false, false] rfl)
theorem xr_m_readIn_170 {d : Nat} {l1 l4 l5 l6 s0 : Int} {m : w_M} {Q : Int → w_M → Prop} (h : if s0 = 0 then (if s0 = 0 then (xp_m_readIn_212 d l1 l4 l5 (-1) (-1) m Q) else (xc_m_wholeAt d l6 284 (-1) m (fun r1 m1 => xp_m_readIn_212 d l1 l4 l5 (-1) r1 m1 Q))) else (xc_m_wholeAt d l6 282 (-1) m (fun r2 m2 => if s0 = 0 then (xp_m_readIn_212 d l1 l4 l5 r2 (-1) m2 Q) else (xc_m_wholeAt d l6 284 (-1) m2 (fun r3 m3 => xp_m_readIn_212 d l1 l4 l5 r2 r3 m3 Q))))) : xp_m_readIn_170 d l1 l4 l5 l6 s0 m Q := by
  refine w_istore (lv' := [some (2, 428), some (0, l1), none, none, some (0, l4), some (0, l5), some (0, l6), some (0, s0), none, none, none, none, none, none, none]) rfl rfl rfl ?_
  refine w_iload rfl rfl ?_
  refine w_ifeq rfl (w_ite h (fun h => ?_) (fun h => ?_))
  · refine w_iconst rfl (by decide) ?_
    refine w_istore (lv' := [some (2, 428), some (0, l1), none, none, some (0, l4), some (0, l5), some (0, l6), some (0, s0), some (0, (-1)), none, none, none, none, none, none]) rfl rfl rfl ?_
    refine w_iload rfl rfl ?_
    refine w_ifeq rfl (w_ite h (fun h => ?_) (fun h => ?_))
    · refine w_iconst rfl (by decide) ?_
      exact w_W.less h (w_sub [true, true, false, false, true, true, false, false, true, false, false, false, false, false, false] rfl)
    · refine w_aload_n rfl rfl ?_
      refine w_iload rfl rfl ?_
      refine w_ldcwR rfl ?_
      refine w_iconst rfl (by decide) ?_
      refine w_callV (t' := 0) [(0, (-1)), (2, 284), (0, l6)] [] rfl s_428 rfl rfl ?_
      refine w_C.more (Q := fun r1 m1 => _) h (fun r1 m1 h => ?_)
      replace h := id h
      refine w_goto rfl ?_
      exact w_W.less h (w_sub [true, true, false, false, true, true, false, false, true, false, false, false, false, false, false] rfl)
  · refine w_aload_n rfl rfl ?_
    refine w_iload rfl rfl ?_
    refine w_ldcwR rfl ?_
    refine w_iconst rfl (by decide) ?_
    refine w_callV (t' := 0) [(0, (-1)), (2, 282), (0, l6)] [] rfl s_428 rfl rfl ?_
    refine w_C.more (Q := fun r2 m2 => _) h (fun r2 m2 h => ?_)
    replace h := id h
    refine w_goto rfl ?_
    refine w_istore (lv' := [some (2, 428), some (0, l1), none, none, some (0, l4), some (0, l5), some (0, l6), some (0, s0), some (0, r2), none, none, none, none, none, none]) rfl rfl rfl ?_
    refine w_iload rfl rfl ?_
    refine w_ifeq rfl (w_ite h (fun h => ?_) (fun h => ?_))
    · refine w_iconst rfl (by decide) ?_
      exact w_W.less h (w_sub [true, true, false, false, true, true, false, false, true, false, false, false, false, false, false] rfl)
    · refine w_aload_n rfl rfl ?_
      refine w_iload rfl rfl ?_
      refine w_ldcwR rfl ?_
      refine w_iconst rfl (by decide) ?_
      refine w_callV (t' := 0) [(0, (-1)), (2, 284), (0, l6)] [] rfl s_428 rfl rfl ?_
      refine w_C.more (Q := fun r3 m3 => _) h (fun r3 m3 h => ?_)
      replace h := id h
      refine w_goto rfl ?_
      exact w_W.less h (w_sub [true, true, false, false, true, true, false, false, true, false, false, false, false, false, false] rfl)
theorem xr_m_readIn_212 {d : Nat} {l1 l4 l5 l8 s0 : Int} {m : w_M} {Q : Int → w_M → Prop} (h : if l8 < 0 then (xc_m_fail d 6 l5 m (fun r1 m1 => Q 0 m1)) else (if 200 < l8 then (xc_m_fail d 6 l5 m (fun r2 m2 => Q 0 m2)) else (if s0 < 0 then (xc_m_fail d 6 l5 m (fun r3 m3 => Q 0 m3)) else (((0 : Int) ≤ l1 ∧ l1 < 200) ∧ (if (m 453 l1) < l8 then (((0 : Int) ≤ l4 ∧ l4 < 200) ∧ (((0 : Int) ≤ l4 ∧ l4 < 200) ∧ (xc_m_from d 441 (m 458 l4) (m 459 l4) m (fun r4 m4 => xp_m_readIn_284 d l1 l5 l8 s0 (-1) 0 m4 Q)))) else (xc_m_fail d 6 l5 m (fun r5 m5 => Q 0 m5))))))) : xp_m_readIn_212 d l1 l4 l5 l8 s0 m Q := by
  refine w_istore (lv' := [some (2, 428), some (0, l1), none, none, some (0, l4), some (0, l5), none, none, some (0, l8), some (0, s0), none, none, none, none, none]) rfl rfl rfl ?_
  refine w_iload rfl rfl ?_
  refine w_iflt rfl (w_ite h (fun h => ?_) (fun h => ?_))
  · refine w_aload_n rfl rfl ?_
    refine w_bipush rfl (by decide) ?_
    refine w_iload rfl rfl ?_
    refine w_callV (t' := 3) [(0, l5), (0, 6)] [] rfl s_428 rfl rfl ?_
    refine w_C.more (Q := fun r1 m1 => _) h (fun r1 m1 h => ?_)
    replace h := id h
    exact w_vret rfl rfl h
  · refine w_iload rfl rfl ?_
    refine w_sipush rfl (by decide) ?_
    refine w_icgt rfl (w_ite h (fun h => ?_) (fun h => ?_))
    · refine w_aload_n rfl rfl ?_
      refine w_bipush rfl (by decide) ?_
      refine w_iload rfl rfl ?_
      refine w_callV (t' := 3) [(0, l5), (0, 6)] [] rfl s_428 rfl rfl ?_
      refine w_C.more (Q := fun r2 m2 => _) h (fun r2 m2 h => ?_)
      replace h := id h
      exact w_vret rfl rfl h
    · refine w_iload rfl rfl ?_
      refine w_iflt rfl (w_ite h (fun h => ?_) (fun h => ?_))
      · refine w_aload_n rfl rfl ?_
        refine w_bipush rfl (by decide) ?_
        refine w_iload rfl rfl ?_
        refine w_callV (t' := 3) [(0, l5), (0, 6)] [] rfl s_428 rfl rfl ?_
        refine w_C.more (Q := fun r3 m3 => _) h (fun r3 m3 h => ?_)
        replace h := id h
        exact w_vret rfl rfl h
      · refine w_aload_n rfl rfl ?_
        refine w_gfC (c := 453) rfl s_428 rfl rfl ?_
        refine w_iload_n rfl rfl ?_
        refine w_lald rfl s_453 (w_EM (by decide)) (n := 200) rfl h.1 ?_
        replace h := h.2
        refine w_iload rfl rfl ?_
        refine w_i2l rfl ?_
        refine w_lclt rfl rfl (w_ite h (fun h => ?_) (fun h => ?_))
        · refine w_aload_n rfl rfl ?_
          refine w_aload_n rfl rfl ?_
          refine w_gfC (c := 441) rfl s_428 rfl rfl ?_
          refine w_aload_n rfl rfl ?_
          refine w_gfC (c := 458) rfl s_428 rfl rfl ?_
          refine w_iload rfl rfl ?_
          refine w_iald rfl s_458 (n := 200) rfl h.1 ?_
          replace h := h.2
          refine w_aload_n rfl rfl ?_
          refine w_gfC (c := 459) rfl s_428 rfl rfl ?_
          refine w_iload rfl rfl ?_
          refine w_iald rfl s_459 (n := 200) rfl h.1 ?_
          replace h := h.2
          refine w_callV (t' := 3) [(0, m 459 l4), (0, m 458 l4), (2, 441)] [] rfl s_428 rfl rfl ?_
          refine w_C.more (Q := fun r4 m4 => _) h (fun r4 m4 h => ?_)
          replace h := id h
          refine w_ldc2 (a := (-1)) rfl (by decide +kernel) (by decide) ?_
          refine w_lstore (lv' := [some (2, 428), some (0, l1), none, none, some (0, l4), some (0, l5), none, none, some (0, l8), some (0, s0), some (1, (-1)), none, none, none, none]) rfl rfl rfl ?_
          refine w_iconst rfl (by decide) ?_
          refine w_istore (lv' := [some (2, 428), some (0, l1), none, none, some (0, l4), some (0, l5), none, none, some (0, l8), some (0, s0), some (1, (-1)), none, some (0, 0), none, none]) rfl rfl rfl ?_
          exact w_W.less h (w_sub [true, true, false, false, false, true, false, false, true, true, true, false, true, false, false] rfl)
        · refine w_aload_n rfl rfl ?_
          refine w_bipush rfl (by decide) ?_
          refine w_iload rfl rfl ?_
          refine w_callV (t' := 3) [(0, l5), (0, 6)] [] rfl s_428 rfl rfl ?_
          refine w_C.more (Q := fun r5 m5 => _) h (fun r5 m5 h => ?_)
          replace h := id h
          exact w_vret rfl rfl h
theorem xr_m_readIn_284 {d : Nat} {l1 l5 l8 l9 l10 l12 : Int} {m : w_M} {Q : Int → w_M → Prop} (h : if l12 < l8 then (xc_m_token d m (fun r1 m1 => if (m1 428 22) = 1 then (if (m1 428 25) = 0 then (xp_m_readIn_315 d l1 l5 l8 l9 l10 l12 1 m1 Q) else (xp_m_readIn_315 d l1 l5 l8 l9 l10 l12 0 m1 Q)) else (xp_m_readIn_315 d l1 l5 l8 l9 l10 l12 0 m1 Q))) else (if (m 428 20) < (w_64 (l9 + l10)) then (xp_m_readIn_448 d l1 (m 428 20) m Q) else (xp_m_readIn_448 d l1 (w_32 (w_64 (l9 + l10))) m Q))) : xp_m_readIn_284 d l1 l5 l8 l9 l10 l12 m Q := by
  refine w_iload rfl rfl ?_
  refine w_iload rfl rfl ?_
  refine w_icge rfl (w_ite h (fun h => ?_) (fun h => ?_))
  · refine w_aload_n rfl rfl ?_
    refine w_callV (t' := 3) [] [] rfl s_428 rfl rfl ?_
    refine w_C.more (Q := fun r1 m1 => _) h (fun r1 m1 h => ?_)
    replace h := id h
    refine w_aload_n rfl rfl ?_
    refine x_gfI rfl s_428 rfl (kk := 22) rfl rfl ?_
    refine w_iconst rfl (by decide) ?_
    refine w_icne rfl (w_ite h (fun h => ?_) (fun h => ?_))
    · refine w_aload_n rfl rfl ?_
      refine x_gfZ rfl s_428 rfl (kk := 25) rfl rfl ?_
      refine w_ifne rfl (w_ite h (fun h => ?_) (fun h => ?_))
      · refine w_iconst rfl (by decide) ?_
        refine w_goto rfl ?_
        exact w_W.less h (w_sub [true, true, false, false, false, true, false, false, true, true, true, false, true, false, false] rfl)
      · refine w_iconst rfl (by decide) ?_
        exact w_W.less h (w_sub [true, true, false, false, false, true, false, false, true, true, true, false, true, false, false] rfl)
    · refine w_iconst rfl (by decide) ?_
      exact w_W.less h (w_sub [true, true, false, false, false, true, false, false, true, true, true, false, true, false, false] rfl)
  · refine w_iload rfl rfl ?_
    refine w_i2l rfl ?_
    refine w_lload rfl rfl ?_
    refine w_ladd' rfl ?_
    refine w_lstore (lv' := [some (2, 428), some (0, l1), none, none, none, some (0, l5), none, none, some (0, l8), some (0, l9), some (1, l10), none, some (1, w_64 (l9 + l10)), none, none]) rfl rfl rfl ?_
    refine w_aload_n rfl rfl ?_
    refine w_lload rfl rfl ?_
    refine w_aload_n rfl rfl ?_
    refine x_gfI rfl s_428 rfl (kk := 20) rfl rfl ?_
    refine w_i2l rfl ?_
    refine w_lcle rfl rfl (w_ite h (fun h => ?_) (fun h => ?_))
    · refine w_aload_n rfl rfl ?_
      refine x_gfI rfl s_428 rfl (kk := 20) rfl rfl ?_
      refine w_goto rfl ?_
      exact w_W.less h (w_sub [true, true, false, false, false, false, false, false, false, false, false, false, false, false, false] rfl)
    · refine w_lload rfl rfl ?_
      refine w_l2i rfl ?_
      exact w_W.less h (w_sub [true, true, false, false, false, false, false, false, false, false, false, false, false, false, false] rfl)
theorem xr_m_readIn_315 {d : Nat} {l1 l5 l8 l9 l10 l12 s0 : Int} {m : w_M} {Q : Int → w_M → Prop} (h : if s0 = 0 then (xp_m_readIn_354 d l1 l5 l8 l9 l10 l12 s0 (m 428 24) m Q) else (xc_m_token d m (fun r1 m1 => if (m1 428 22) = 1 then (if (m1 428 25) = 0 then (xp_m_readIn_354 d l1 l5 l8 l9 l10 l12 1 (m 428 24) m1 Q) else (xp_m_readIn_354 d l1 l5 l8 l9 l10 l12 0 (m 428 24) m1 Q)) else (xp_m_readIn_354 d l1 l5 l8 l9 l10 l12 0 (m 428 24) m1 Q)))) : xp_m_readIn_315 d l1 l5 l8 l9 l10 l12 s0 m Q := by
  refine w_istore (lv' := [some (2, 428), some (0, l1), none, none, none, some (0, l5), none, none, some (0, l8), some (0, l9), some (1, l10), none, some (0, l12), some (0, s0), none]) rfl rfl rfl ?_
  refine w_aload_n rfl rfl ?_
  refine x_gfI rfl s_428 rfl (kk := 24) rfl rfl ?_
  refine w_istore (lv' := [some (2, 428), some (0, l1), none, none, none, some (0, l5), none, none, some (0, l8), some (0, l9), some (1, l10), none, some (0, l12), some (0, s0), some (0, m 428 24)]) rfl rfl rfl ?_
  refine w_iload rfl rfl ?_
  refine w_ifeq rfl (w_ite h (fun h => ?_) (fun h => ?_))
  · exact w_W.less h (w_sub [true, true, false, false, false, true, false, false, true, true, true, false, true, true, true] rfl)
  · refine w_aload_n rfl rfl ?_
    refine w_callV (t' := 3) [] [] rfl s_428 rfl rfl ?_
    refine w_C.more (Q := fun r1 m1 => _) h (fun r1 m1 h => ?_)
    replace h := id h
    refine w_aload_n rfl rfl ?_
    refine x_gfI rfl s_428 rfl (kk := 22) rfl rfl ?_
    refine w_iconst rfl (by decide) ?_
    refine w_icne rfl (w_ite h (fun h => ?_) (fun h => ?_))
    · refine w_aload_n rfl rfl ?_
      refine x_gfZ rfl s_428 rfl (kk := 25) rfl rfl ?_
      refine w_ifne rfl (w_ite h (fun h => ?_) (fun h => ?_))
      · refine w_iconst rfl (by decide) ?_
        refine w_goto rfl ?_
        refine w_istore (lv' := [some (2, 428), some (0, l1), none, none, none, some (0, l5), none, none, some (0, l8), some (0, l9), some (1, l10), none, some (0, l12), some (0, 1), some (0, m 428 24)]) rfl rfl rfl ?_
        exact w_W.less h (w_sub [true, true, false, false, false, true, false, false, true, true, true, false, true, true, true] rfl)
      · refine w_iconst rfl (by decide) ?_
        refine w_istore (lv' := [some (2, 428), some (0, l1), none, none, none, some (0, l5), none, none, some (0, l8), some (0, l9), some (1, l10), none, some (0, l12), some (0, 0), some (0, m 428 24)]) rfl rfl rfl ?_
        exact w_W.less h (w_sub [true, true, false, false, false, true, false, false, true, true, true, false, true, true, true] rfl)
    · refine w_iconst rfl (by decide) ?_
      refine w_istore (lv' := [some (2, 428), some (0, l1), none, none, none, some (0, l5), none, none, some (0, l8), some (0, l9), some (1, l10), none, some (0, l12), some (0, 0), some (0, m 428 24)]) rfl rfl rfl ?_
      exact w_W.less h (w_sub [true, true, false, false, false, true, false, false, true, true, true, false, true, true, true] rfl)
theorem xr_m_readIn_354 {d : Nat} {l1 l5 l8 l9 l10 l12 l13 l14 : Int} {m : w_M} {Q : Int → w_M → Prop} (h : if l13 = 0 then (xc_m_fail d 6 l5 m (fun r1 m1 => Q 0 m1)) else (((0 : Int) ≤ l1 ∧ l1 < 200) ∧ (if l12 = (m 453 l1) then (if l14 = l1 then (((0 : Int) ≤ l1 ∧ l1 < 200) ∧ (if l12 = (m 453 l1) then (xp_m_readIn_284 d l1 l5 l8 l9 (m 428 24) (w_32 (l12 + 1)) m Q) else (xp_m_readIn_284 d l1 l5 l8 l9 l10 (w_32 (l12 + 1)) m Q))) else (xc_m_fail d 6 l5 m (fun r2 m2 => Q 0 m2))) else (((0 : Int) ≤ l1 ∧ l1 < 200) ∧ (if l12 = (m 453 l1) then (xp_m_readIn_284 d l1 l5 l8 l9 (m 428 24) (w_32 (l12 + 1)) m Q) else (xp_m_readIn_284 d l1 l5 l8 l9 l10 (w_32 (l12 + 1)) m Q)))))) : xp_m_readIn_354 d l1 l5 l8 l9 l10 l12 l13 l14 m Q := by
  refine w_iload rfl rfl ?_
  refine w_ifeq rfl (w_ite h (fun h => ?_) (fun h => ?_))
  · refine w_aload_n rfl rfl ?_
    refine w_bipush rfl (by decide) ?_
    refine w_iload rfl rfl ?_
    refine w_callV (t' := 3) [(0, l5), (0, 6)] [] rfl s_428 rfl rfl ?_
    refine w_C.more (Q := fun r1 m1 => _) h (fun r1 m1 h => ?_)
    replace h := id h
    exact w_vret rfl rfl h
  · refine w_iload rfl rfl ?_
    refine w_i2l rfl ?_
    refine w_aload_n rfl rfl ?_
    refine w_gfC (c := 453) rfl s_428 rfl rfl ?_
    refine w_iload_n rfl rfl ?_
    refine w_lald rfl s_453 (w_EM (by decide)) (n := 200) rfl h.1 ?_
    replace h := h.2
    refine w_lcne rfl rfl (w_ite h (fun h => ?_) (fun h => ?_))
    · refine w_iload rfl rfl ?_
      refine w_iload_n rfl rfl ?_
      refine w_iceq rfl (w_ite h (fun h => ?_) (fun h => ?_))
      · refine w_iload rfl rfl ?_
        refine w_i2l rfl ?_
        refine w_aload_n rfl rfl ?_
        refine w_gfC (c := 453) rfl s_428 rfl rfl ?_
        refine w_iload_n rfl rfl ?_
        refine w_lald rfl s_453 (w_EM (by decide)) (n := 200) rfl h.1 ?_
        replace h := h.2
        refine w_lcne rfl rfl (w_ite h (fun h => ?_) (fun h => ?_))
        · refine w_aload_n rfl rfl ?_
          refine x_gfI rfl s_428 rfl (kk := 24) rfl rfl ?_
          refine w_i2l rfl ?_
          refine w_goto rfl ?_
          refine w_lstore (lv' := [some (2, 428), some (0, l1), none, none, none, some (0, l5), none, none, some (0, l8), some (0, l9), some (1, m 428 24), none, some (0, l12), some (0, l13), some (0, l14)]) rfl rfl rfl ?_
          refine w_iinc (lv' := [some (2, 428), some (0, l1), none, none, none, some (0, l5), none, none, some (0, l8), some (0, l9), some (1, m 428 24), none, some (0, w_32 (l12 + 1)), some (0, l13), some (0, l14)]) rfl rfl rfl rfl ?_
          refine w_goto rfl ?_
          exact w_W.less h (w_sub [true, true, false, false, false, true, false, false, true, true, true, false, true, false, false] rfl)
        · refine w_lload rfl rfl ?_
          refine w_lstore (lv' := [some (2, 428), some (0, l1), none, none, none, some (0, l5), none, none, some (0, l8), some (0, l9), some (1, l10), none, some (0, l12), some (0, l13), some (0, l14)]) rfl rfl rfl ?_
          refine w_iinc (lv' := [some (2, 428), some (0, l1), none, none, none, some (0, l5), none, none, some (0, l8), some (0, l9), some (1, l10), none, some (0, w_32 (l12 + 1)), some (0, l13), some (0, l14)]) rfl rfl rfl rfl ?_
          refine w_goto rfl ?_
          exact w_W.less h (w_sub [true, true, false, false, false, true, false, false, true, true, true, false, true, false, false] rfl)
      · refine w_aload_n rfl rfl ?_
        refine w_bipush rfl (by decide) ?_
        refine w_iload rfl rfl ?_
        refine w_callV (t' := 3) [(0, l5), (0, 6)] [] rfl s_428 rfl rfl ?_
        refine w_C.more (Q := fun r2 m2 => _) h (fun r2 m2 h => ?_)
        replace h := id h
        exact w_vret rfl rfl h
    · refine w_iload rfl rfl ?_
      refine w_i2l rfl ?_
      refine w_aload_n rfl rfl ?_
      refine w_gfC (c := 453) rfl s_428 rfl rfl ?_
      refine w_iload_n rfl rfl ?_
      refine w_lald rfl s_453 (w_EM (by decide)) (n := 200) rfl h.1 ?_
      replace h := h.2
      refine w_lcne rfl rfl (w_ite h (fun h => ?_) (fun h => ?_))
      · refine w_aload_n rfl rfl ?_
        refine x_gfI rfl s_428 rfl (kk := 24) rfl rfl ?_
        refine w_i2l rfl ?_
        refine w_goto rfl ?_
        refine w_lstore (lv' := [some (2, 428), some (0, l1), none, none, none, some (0, l5), none, none, some (0, l8), some (0, l9), some (1, m 428 24), none, some (0, l12), some (0, l13), some (0, l14)]) rfl rfl rfl ?_
        refine w_iinc (lv' := [some (2, 428), some (0, l1), none, none, none, some (0, l5), none, none, some (0, l8), some (0, l9), some (1, m 428 24), none, some (0, w_32 (l12 + 1)), some (0, l13), some (0, l14)]) rfl rfl rfl rfl ?_
        refine w_goto rfl ?_
        exact w_W.less h (w_sub [true, true, false, false, false, true, false, false, true, true, true, false, true, false, false] rfl)
      · refine w_lload rfl rfl ?_
        refine w_lstore (lv' := [some (2, 428), some (0, l1), none, none, none, some (0, l5), none, none, some (0, l8), some (0, l9), some (1, l10), none, some (0, l12), some (0, l13), some (0, l14)]) rfl rfl rfl ?_
        refine w_iinc (lv' := [some (2, 428), some (0, l1), none, none, none, some (0, l5), none, none, some (0, l8), some (0, l9), some (1, l10), none, some (0, w_32 (l12 + 1)), some (0, l13), some (0, l14)]) rfl rfl rfl rfl ?_
        refine w_goto rfl ?_
        exact w_W.less h (w_sub [true, true, false, false, false, true, false, false, true, true, true, false, true, false, false] rfl)
theorem xr_m_readIn_448 {d : Nat} {l1 s1 : Int} {m : w_M} {Q : Int → w_M → Prop} (h : xc_m_token d (w_up m 428 21 s1) (fun r1 m1 => ((0 : Int) ≤ l1 ∧ l1 < 200) ∧ (xc_m_object d 0 1 (w_up m1 456 l1 (w_8 1)) (fun r2 m2 => ((0 : Int) ≤ l1 ∧ l1 < 200) ∧ (((0 : Int) ≤ l1 ∧ l1 < 200) ∧ (Q 0 (w_up (w_up m2 455 l1 r2) 456 l1 (w_8 2)))))))) : xp_m_readIn_448 d l1 s1 m Q := by
  refine w_pfI rfl s_428 rfl (w_EM (by decide)) rfl (kk := 21) rfl ?_
  refine w_aload_n rfl rfl ?_
  refine w_callV (t' := 3) [] [] rfl s_428 rfl rfl ?_
  refine w_C.more (Q := fun r1 m1 => _) h (fun r1 m1 h => ?_)
  replace h := id h
  refine w_aload_n rfl rfl ?_
  refine w_gfC (c := 456) rfl s_428 rfl rfl ?_
  refine w_iload_n rfl rfl ?_
  refine w_iconst rfl (by decide) ?_
  refine w_bast rfl s_456 (w_EM (by decide)) (n := 200) rfl h.1 ?_
  replace h := h.2
  refine w_aload_n rfl rfl ?_
  refine w_iconst rfl (by decide) ?_
  refine w_iconst rfl (by decide) ?_
  refine w_callV (t' := 0) [(0, 1), (0, 0)] [] rfl s_428 rfl rfl ?_
  refine w_C.more (Q := fun r2 m2 => _) h (fun r2 m2 h => ?_)
  replace h := id h
  refine w_istore (lv' := [some (2, 428), some (0, l1), none, none, none, none, none, none, none, none, none, none, none, none, some (0, r2)]) rfl rfl rfl ?_
  refine w_aload_n rfl rfl ?_
  refine w_gfC (c := 455) rfl s_428 rfl rfl ?_
  refine w_iload_n rfl rfl ?_
  refine w_iload rfl rfl ?_
  refine w_iast rfl s_455 (w_EM (by decide)) (n := 200) rfl h.1 ?_
  replace h := h.2
  refine w_aload_n rfl rfl ?_
  refine w_gfC (c := 456) rfl s_428 rfl rfl ?_
  refine w_iload_n rfl rfl ?_
  refine w_iconst rfl (by decide) ?_
  refine w_bast rfl s_456 (w_EM (by decide)) (n := 200) rfl h.1 ?_
  replace h := h.2
  exact w_vret rfl rfl h
theorem xr_m_readName {d : Nat} {m : w_M} {Q : Int → w_M → Prop} (h : xp_m_readName_20 d (w_up (w_up (w_up m 428 22 4) 428 26 0) 428 21 (w_32 ((m 428 21) + 1))) Q) : xc_m_readName (d + 1) m Q := by
  refine w_enter (q := 3) (lv := [some (2, 428), none, none, none]) rfl rfl rfl ?_
  refine w_aload_n rfl rfl ?_
  refine w_iconst rfl (by decide) ?_
  refine w_pfI rfl s_428 rfl (w_EM (by decide)) rfl (kk := 22) rfl ?_
  refine w_aload_n rfl rfl ?_
  refine w_iconst rfl (by decide) ?_
  refine w_pfI rfl s_428 rfl (w_EM (by decide)) rfl (kk := 26) rfl ?_
  refine w_aload_n rfl rfl ?_
  refine w_dup rfl (show (2 : Nat) ≠ 1 by decide) ?_
  refine x_gfI rfl s_428 rfl (kk := 21) rfl ((w_up_nb (by decide)).trans (w_up_nb (by decide))) ?_
  refine w_iconst rfl (by decide) ?_
  refine w_iadd rfl ?_
  refine w_pfI rfl s_428 rfl (w_EM (by decide)) rfl (kk := 21) rfl ?_
  exact w_W.less h (w_sub [true, false, false, false] rfl)
theorem xr_m_readName_20 {d : Nat} {m : w_M} {Q : Int → w_M → Prop} (h : xc_m_peek d 0 m (fun r1 m1 => xc_m_isRegular d r1 m1 (fun r2 m2 => if r2 = 0 then (if 60 < (m2 428 26) then (Q 0 (w_up m2 428 22 11)) else (Q 0 (w_up m2 428 22 4))) else (xc_m_peek d 0 m2 (fun r3 m3 => if r3 = 35 then (xc_m_peek d 1 m3 (fun r4 m4 => xc_m_hexOf d r4 m4 (fun r5 m5 => if r5 < 0 then (xp_m_readName_83 d 0 m5 Q) else (xc_m_peek d 2 m5 (fun r6 m6 => xc_m_hexOf d r6 m6 (fun r7 m7 => if r7 < 0 then (xp_m_readName_83 d 0 m7 Q) else (xp_m_readName_83 d (w_32 ((w_32 (16 * r5)) + r7)) m7 Q))))))) else (xc_m_put1 d r3 m3 (fun r8 m8 => xp_m_readName_20 d (w_up m8 428 21 (w_32 ((m8 428 21) + 1))) Q))))))) : xp_m_readName_20 d m Q := by
  refine w_aload_n rfl rfl ?_
  refine w_iconst rfl (by decide) ?_
  refine w_callV (t' := 0) [(0, 0)] [] rfl s_428 rfl rfl ?_
  refine w_C.more (Q := fun r1 m1 => _) h (fun r1 m1 h => ?_)
  replace h := id h
  refine w_callS (t' := 0) [(0, r1)] [] rfl (by decide) rfl rfl ?_
  refine w_C.more (Q := fun r2 m2 => _) h (fun r2 m2 h => ?_)
  replace h := id h
  refine w_ifeq rfl (w_ite h (fun h => ?_) (fun h => ?_))
  · refine w_aload_n rfl rfl ?_
    refine w_aload_n rfl rfl ?_
    refine x_gfI rfl s_428 rfl (kk := 26) rfl rfl ?_
    refine w_bipush rfl (by decide) ?_
    refine w_icle rfl (w_ite h (fun h => ?_) (fun h => ?_))
    · refine w_bipush rfl (by decide) ?_
      refine w_goto rfl ?_
      refine w_pfI rfl s_428 rfl (w_EM (by decide)) rfl (kk := 22) rfl ?_
      exact w_vret rfl rfl h
    · refine w_iconst rfl (by decide) ?_
      refine w_pfI rfl s_428 rfl (w_EM (by decide)) rfl (kk := 22) rfl ?_
      exact w_vret rfl rfl h
  · refine w_aload_n rfl rfl ?_
    refine w_iconst rfl (by decide) ?_
    refine w_callV (t' := 0) [(0, 0)] [] rfl s_428 rfl rfl ?_
    refine w_C.more (Q := fun r3 m3 => _) h (fun r3 m3 h => ?_)
    replace h := id h
    refine w_istore_n (lv' := [some (2, 428), some (0, r3), none, none]) rfl rfl rfl ?_
    refine w_iload_n rfl rfl ?_
    refine w_bipush rfl (by decide) ?_
    refine w_icne rfl (w_ite h (fun h => ?_) (fun h => ?_))
    · refine w_aload_n rfl rfl ?_
      refine w_iconst rfl (by decide) ?_
      refine w_callV (t' := 0) [(0, 1)] [] rfl s_428 rfl rfl ?_
      refine w_C.more (Q := fun r4 m4 => _) h (fun r4 m4 h => ?_)
      replace h := id h
      refine w_callS (t' := 0) [(0, r4)] [] rfl (by decide) rfl rfl ?_
      refine w_C.more (Q := fun r5 m5 => _) h (fun r5 m5 h => ?_)
      replace h := id h
      refine w_istore_n (lv' := [some (2, 428), some (0, r3), some (0, r5), none]) rfl rfl rfl ?_
      refine w_iload_n rfl rfl ?_
      refine w_ifge rfl (w_ite h (fun h => ?_) (fun h => ?_))
      · refine w_iconst rfl (by decide) ?_
        refine w_goto rfl ?_
        refine w_istore_n (lv' := [some (2, 428), some (0, r3), some (0, r5), some (0, (-1))]) rfl rfl rfl ?_
        refine w_iload_n rfl rfl ?_
        refine w_ifge rfl (w_ift (by decide) ?_)
        refine w_iconst rfl (by decide) ?_
        refine w_goto rfl ?_
        exact w_W.less h (w_sub [true, false, false, false] rfl)
      · refine w_aload_n rfl rfl ?_
        refine w_iconst rfl (by decide) ?_
        refine w_callV (t' := 0) [(0, 2)] [] rfl s_428 rfl rfl ?_
        refine w_C.more (Q := fun r6 m6 => _) h (fun r6 m6 h => ?_)
        replace h := id h
        refine w_callS (t' := 0) [(0, r6)] [] rfl (by decide) rfl rfl ?_
        refine w_C.more (Q := fun r7 m7 => _) h (fun r7 m7 h => ?_)
        replace h := id h
        refine w_istore_n (lv' := [some (2, 428), some (0, r3), some (0, r5), some (0, r7)]) rfl rfl rfl ?_
        refine w_iload_n rfl rfl ?_
        refine w_ifge rfl (w_ite h (fun h => ?_) (fun h => ?_))
        · refine w_iconst rfl (by decide) ?_
          refine w_goto rfl ?_
          exact w_W.less h (w_sub [true, false, false, false] rfl)
        · refine w_bipush rfl (by decide) ?_
          refine w_iload_n rfl rfl ?_
          refine w_imul rfl ?_
          refine w_iload_n rfl rfl ?_
          refine w_iadd rfl ?_
          exact w_W.less h (w_sub [true, false, false, false] rfl)
    · refine w_aload_n rfl rfl ?_
      refine w_iload_n rfl rfl ?_
      refine w_callV (t' := 3) [(0, r3)] [] rfl s_428 rfl rfl ?_
      refine w_C.more (Q := fun r8 m8 => _) h (fun r8 m8 h => ?_)
      replace h := id h
      refine w_aload_n rfl rfl ?_
      refine w_dup rfl (show (2 : Nat) ≠ 1 by decide) ?_
      refine x_gfI rfl s_428 rfl (kk := 21) rfl rfl ?_
      refine w_iconst rfl (by decide) ?_
      refine w_iadd rfl ?_
      refine w_pfI rfl s_428 rfl (w_EM (by decide)) rfl (kk := 21) rfl ?_
      refine w_goto rfl ?_
      exact w_W.less h (w_sub [true, false, false, false] rfl)
theorem xr_m_readName_83 {d : Nat} {s0 : Int} {m : w_M} {Q : Int → w_M → Prop} (h : if s0 = 0 then (Q 0 (w_up m 428 22 10)) else (xc_m_put1 d s0 (w_up m 428 21 (w_32 ((m 428 21) + 2))) (fun r1 m1 => xp_m_readName_20 d (w_up m1 428 21 (w_32 ((m1 428 21) + 1))) Q))) : xp_m_readName_83 d s0 m Q := by
  refine w_istore_n (lv' := [some (2, 428), some (0, s0), none, none]) rfl rfl rfl ?_
  refine w_iload_n rfl rfl ?_
  refine w_ifne rfl (w_ite h (fun h => ?_) (fun h => ?_))
  · refine w_aload_n rfl rfl ?_
    refine w_bipush rfl (by decide) ?_
    refine w_pfI rfl s_428 rfl (w_EM (by decide)) rfl (kk := 22) rfl ?_
    exact w_vret rfl rfl h
  · refine w_aload_n rfl rfl ?_
    refine w_dup rfl (show (2 : Nat) ≠ 1 by decide) ?_
    refine x_gfI rfl s_428 rfl (kk := 21) rfl rfl ?_
    refine w_iconst rfl (by decide) ?_
    refine w_iadd rfl ?_
    refine w_pfI rfl s_428 rfl (w_EM (by decide)) rfl (kk := 21) rfl ?_
    refine w_aload_n rfl rfl ?_
    refine w_iload_n rfl rfl ?_
    refine w_callV (t' := 3) [(0, s0)] [] rfl s_428 rfl rfl ?_
    refine w_C.more (Q := fun r1 m1 => _) h (fun r1 m1 h => ?_)
    replace h := id h
    refine w_aload_n rfl rfl ?_
    refine w_dup rfl (show (2 : Nat) ≠ 1 by decide) ?_
    refine x_gfI rfl s_428 rfl (kk := 21) rfl rfl ?_
    refine w_iconst rfl (by decide) ?_
    refine w_iadd rfl ?_
    refine w_pfI rfl s_428 rfl (w_EM (by decide)) rfl (kk := 21) rfl ?_
    refine w_goto rfl ?_
    exact w_W.less h (w_sub [true, false, false, false] rfl)
theorem xr_m_readObject {d : Nat} {l1 : Int} {m : w_M} {Q : Int → w_M → Prop} (h : ((0 : Int) ≤ l1 ∧ l1 < 200) ∧ (if (m 451 l1) = 1 then (xc_m_readAt d l1 m (fun r1 m1 => Q 0 m1)) else (xc_m_readIn d l1 m (fun r2 m2 => Q 0 m2)))) : xc_m_readObject (d + 1) l1 m Q := by
  refine w_enter (q := 0) (lv := [some (2, 428), some (0, l1)]) rfl rfl rfl ?_
  refine w_aload_n rfl rfl ?_
  refine w_gfC (c := 451) rfl s_428 rfl rfl ?_
  refine w_iload_n rfl rfl ?_
  refine w_bald rfl s_451 (n := 200) rfl h.1 ?_
  replace h := h.2
  refine w_iconst rfl (by decide) ?_
  refine w_icne rfl (w_ite h (fun h => ?_) (fun h => ?_))
  · refine w_aload_n rfl rfl ?_
    refine w_iload_n rfl rfl ?_
    refine w_callV (t' := 3) [(0, l1)] [] rfl s_428 rfl rfl ?_
    refine w_C.more (Q := fun r1 m1 => _) h (fun r1 m1 h => ?_)
    replace h := id h
    refine w_goto rfl ?_
    exact w_vret rfl rfl h
  · refine w_aload_n rfl rfl ?_
    refine w_iload_n rfl rfl ?_
    refine w_callV (t' := 3) [(0, l1)] [] rfl s_428 rfl rfl ?_
    refine w_C.more (Q := fun r2 m2 => _) h (fun r2 m2 h => ?_)
    replace h := id h
    exact w_vret rfl rfl h
theorem xr_m_readString {d : Nat} {m : w_M} {Q : Int → w_M → Prop} (h : xp_m_readString_17 d 1 (w_up (w_up m 428 26 0) 428 21 (w_32 ((m 428 21) + 1))) Q) : xc_m_readString (d + 1) m Q := by
  refine w_enter (q := 2) (lv := [some (2, 428), none, none]) rfl rfl rfl ?_
  refine w_aload_n rfl rfl ?_
  refine w_iconst rfl (by decide) ?_
  refine w_pfI rfl s_428 rfl (w_EM (by decide)) rfl (kk := 26) rfl ?_
  refine w_iconst rfl (by decide) ?_
  refine w_istore_n (lv' := [some (2, 428), some (0, 1), none]) rfl rfl rfl ?_
  refine w_aload_n rfl rfl ?_
  refine w_dup rfl (show (2 : Nat) ≠ 1 by decide) ?_
  refine x_gfI rfl s_428 rfl (kk := 21) rfl (w_up_nb (by decide)) ?_
  refine w_iconst rfl (by decide) ?_
  refine w_iadd rfl ?_
  refine w_pfI rfl s_428 rfl (w_EM (by decide)) rfl (kk := 21) rfl ?_
  exact w_W.less h (w_sub [true, true, false] rfl)
theorem xr_m_readString_17 {d : Nat} {l1 : Int} {m : w_M} {Q : Int → w_M → Prop} (h : if 0 < l1 then (xc_m_peek d 0 m (fun r1 m1 => if r1 < 0 then (Q 0 (w_up m1 428 22 10)) else (if r1 = 40 then (xc_m_put1 d r1 (w_up m1 428 21 (w_32 ((m1 428 21) + 1))) (fun r2 m2 => xp_m_readString_17 d (w_32 (l1 + 1)) m2 Q)) else (if r1 = 41 then (if 0 < (w_32 (l1 + (-1))) then (xc_m_put1 d r1 (w_up m1 428 21 (w_32 ((m1 428 21) + 1))) (fun r3 m3 => xp_m_readString_17 d (w_32 (l1 + (-1))) m3 Q)) else (xp_m_readString_17 d (w_32 (l1 + (-1))) (w_up m1 428 21 (w_32 ((m1 428 21) + 1))) Q)) else (if r1 = 13 then (xc_m_peek d 0 (w_up m1 428 21 (w_32 ((m1 428 21) + 1))) (fun r4 m4 => if r4 = 10 then (xc_m_put1 d 10 (w_up m4 428 21 (w_32 ((w_32 ((m1 428 21) + 1)) + 1))) (fun r5 m5 => xp_m_readString_17 d l1 m5 Q)) else (xc_m_put1 d 10 (w_up m4 428 21 (w_32 ((w_32 ((m1 428 21) + 1)) + 0))) (fun r6 m6 => xp_m_readString_17 d l1 m6 Q)))) else (if r1 = 92 then (xc_m_escape d (w_up m1 428 21 (w_32 ((m1 428 21) + 1))) (fun r7 m7 => xp_m_readString_17 d l1 m7 Q)) else (xc_m_put1 d r1 (w_up m1 428 21 (w_32 ((m1 428 21) + 1))) (fun r8 m8 => xp_m_readString_17 d l1 m8 Q)))))))) else (if 2000 < (m 428 26) then (Q 0 (w_up m 428 22 11)) else (Q 0 (w_up m 428 22 5)))) : xp_m_readString_17 d l1 m Q := by
  refine w_iload_n rfl rfl ?_
  refine w_ifle rfl (w_ite h (fun h => ?_) (fun h => ?_))
  · refine w_aload_n rfl rfl ?_
    refine w_iconst rfl (by decide) ?_
    refine w_callV (t' := 0) [(0, 0)] [] rfl s_428 rfl rfl ?_
    refine w_C.more (Q := fun r1 m1 => _) h (fun r1 m1 h => ?_)
    replace h := id h
    refine w_istore_n (lv' := [some (2, 428), some (0, l1), some (0, r1)]) rfl rfl rfl ?_
    refine w_iload_n rfl rfl ?_
    refine w_ifge rfl (w_ite h (fun h => ?_) (fun h => ?_))
    · refine w_aload_n rfl rfl ?_
      refine w_bipush rfl (by decide) ?_
      refine w_pfI rfl s_428 rfl (w_EM (by decide)) rfl (kk := 22) rfl ?_
      exact w_vret rfl rfl h
    · refine w_aload_n rfl rfl ?_
      refine w_dup rfl (show (2 : Nat) ≠ 1 by decide) ?_
      refine x_gfI rfl s_428 rfl (kk := 21) rfl rfl ?_
      refine w_iconst rfl (by decide) ?_
      refine w_iadd rfl ?_
      refine w_pfI rfl s_428 rfl (w_EM (by decide)) rfl (kk := 21) rfl ?_
      refine w_iload_n rfl rfl ?_
      refine w_bipush rfl (by decide) ?_
      refine w_icne rfl (w_ite h (fun h => ?_) (fun h => ?_))
      · refine w_iinc (lv' := [some (2, 428), some (0, w_32 (l1 + 1)), some (0, r1)]) rfl rfl rfl rfl ?_
        refine w_aload_n rfl rfl ?_
        refine w_iload_n rfl rfl ?_
        refine w_callV (t' := 3) [(0, r1)] [] rfl s_428 rfl rfl ?_
        refine w_C.more (Q := fun r2 m2 => _) h (fun r2 m2 h => ?_)
        replace h := id h
        refine w_goto rfl ?_
        refine w_goto rfl ?_
        exact w_W.less h (w_sub [true, true, false] rfl)
      · refine w_iload_n rfl rfl ?_
        refine w_bipush rfl (by decide) ?_
        refine w_icne rfl (w_ite h (fun h => ?_) (fun h => ?_))
        · refine w_iinc (lv' := [some (2, 428), some (0, w_32 (l1 + (-1))), some (0, r1)]) rfl rfl rfl rfl ?_
          refine w_iload_n rfl rfl ?_
          refine w_ifle rfl (w_ite h (fun h => ?_) (fun h => ?_))
          · refine w_aload_n rfl rfl ?_
            refine w_iload_n rfl rfl ?_
            refine w_callV (t' := 3) [(0, r1)] [] rfl s_428 rfl rfl ?_
            refine w_C.more (Q := fun r3 m3 => _) h (fun r3 m3 h => ?_)
            replace h := id h
            refine w_goto rfl ?_
            refine w_goto rfl ?_
            exact w_W.less h (w_sub [true, true, false] rfl)
          · refine w_goto rfl ?_
            exact w_W.less h (w_sub [true, true, false] rfl)
        · refine w_iload_n rfl rfl ?_
          refine w_bipush rfl (by decide) ?_
          refine w_icne rfl (w_ite h (fun h => ?_) (fun h => ?_))
          · refine w_aload_n rfl rfl ?_
            refine w_dup rfl (show (2 : Nat) ≠ 1 by decide) ?_
            refine x_gfI rfl s_428 rfl (kk := 21) rfl (w_up_eq) ?_
            refine w_aload_n rfl rfl ?_
            refine w_iconst rfl (by decide) ?_
            refine w_callV (t' := 0) [(0, 0)] [(0, w_32 ((m1 428 21) + 1)), (2, 428)] rfl s_428 rfl rfl ?_
            refine w_C.more (Q := fun r4 m4 => _) h (fun r4 m4 h => ?_)
            replace h := id h
            refine w_bipush rfl (by decide) ?_
            refine w_icne rfl (w_ite h (fun h => ?_) (fun h => ?_))
            · refine w_iconst rfl (by decide) ?_
              refine w_goto rfl ?_
              refine w_iadd rfl ?_
              refine w_pfI rfl s_428 rfl (w_EM (by decide)) rfl (kk := 21) rfl ?_
              refine w_aload_n rfl rfl ?_
              refine w_bipush rfl (by decide) ?_
              refine w_callV (t' := 3) [(0, 10)] [] rfl s_428 rfl rfl ?_
              refine w_C.more (Q := fun r5 m5 => _) h (fun r5 m5 h => ?_)
              replace h := id h
              refine w_goto rfl ?_
              refine w_goto rfl ?_
              exact w_W.less h (w_sub [true, true, false] rfl)
            · refine w_iconst rfl (by decide) ?_
              refine w_iadd rfl ?_
              refine w_pfI rfl s_428 rfl (w_EM (by decide)) rfl (kk := 21) rfl ?_
              refine w_aload_n rfl rfl ?_
              refine w_bipush rfl (by decide) ?_
              refine w_callV (t' := 3) [(0, 10)] [] rfl s_428 rfl rfl ?_
              refine w_C.more (Q := fun r6 m6 => _) h (fun r6 m6 h => ?_)
              replace h := id h
              refine w_goto rfl ?_
              refine w_goto rfl ?_
              exact w_W.less h (w_sub [true, true, false] rfl)
          · refine w_iload_n rfl rfl ?_
            refine w_bipush rfl (by decide) ?_
            refine w_icne rfl (w_ite h (fun h => ?_) (fun h => ?_))
            · refine w_aload_n rfl rfl ?_
              refine w_callV (t' := 3) [] [] rfl s_428 rfl rfl ?_
              refine w_C.more (Q := fun r7 m7 => _) h (fun r7 m7 h => ?_)
              replace h := id h
              refine w_goto rfl ?_
              refine w_goto rfl ?_
              exact w_W.less h (w_sub [true, true, false] rfl)
            · refine w_aload_n rfl rfl ?_
              refine w_iload_n rfl rfl ?_
              refine w_callV (t' := 3) [(0, r1)] [] rfl s_428 rfl rfl ?_
              refine w_C.more (Q := fun r8 m8 => _) h (fun r8 m8 h => ?_)
              replace h := id h
              refine w_goto rfl ?_
              exact w_W.less h (w_sub [true, true, false] rfl)
  · refine w_aload_n rfl rfl ?_
    refine w_aload_n rfl rfl ?_
    refine x_gfI rfl s_428 rfl (kk := 26) rfl rfl ?_
    refine w_sipush rfl (by decide) ?_
    refine w_icle rfl (w_ite h (fun h => ?_) (fun h => ?_))
    · refine w_bipush rfl (by decide) ?_
      refine w_goto rfl ?_
      refine w_pfI rfl s_428 rfl (w_EM (by decide)) rfl (kk := 22) rfl ?_
      exact w_vret rfl rfl h
    · refine w_iconst rfl (by decide) ?_
      refine w_pfI rfl s_428 rfl (w_EM (by decide)) rfl (kk := 22) rfl ?_
      exact w_vret rfl rfl h
theorem xr_m_realOf {d : Nat} {l1 l2 l4 l6 l7 : Int} {m : w_M} {Q : Int → w_M → Prop} (h : if 9 < l7 then (Q 0 (w_up m 428 22 11)) else (if 9 < l6 then (Q 0 (w_up m 428 22 11)) else (xp_m_realOf_27 d l1 l2 l4 l6 1 0 m Q))) : xc_m_realOf (d + 1) l1 l2 l4 l6 l7 m Q := by
  refine w_enter (q := 6) (lv := [some (2, 428), some (0, l1), some (1, l2), none, some (1, l4), none, some (0, l6), some (0, l7), none, none, none, none, none, none]) rfl rfl rfl ?_
  refine w_iload rfl rfl ?_
  refine w_bipush rfl (by decide) ?_
  refine w_icgt rfl (w_ite h (fun h => ?_) (fun h => ?_))
  · refine w_aload_n rfl rfl ?_
    refine w_bipush rfl (by decide) ?_
    refine w_pfI rfl s_428 rfl (w_EM (by decide)) rfl (kk := 22) rfl ?_
    exact w_vret rfl rfl h
  · refine w_iload rfl rfl ?_
    refine w_bipush rfl (by decide) ?_
    refine w_icle rfl (w_ite h (fun h => ?_) (fun h => ?_))
    · refine w_aload_n rfl rfl ?_
      refine w_bipush rfl (by decide) ?_
      refine w_pfI rfl s_428 rfl (w_EM (by decide)) rfl (kk := 22) rfl ?_
      exact w_vret rfl rfl h
    · refine w_lconst rfl rfl ?_
      refine w_lstore (lv' := [some (2, 428), some (0, l1), some (1, l2), none, some (1, l4), none, some (0, l6), some (0, l7), some (1, 1), none, none, none, none, none]) rfl rfl rfl ?_
      refine w_iconst rfl (by decide) ?_
      refine w_istore (lv' := [some (2, 428), some (0, l1), some (1, l2), none, some (1, l4), none, some (0, l6), some (0, l7), some (1, 1), none, some (0, 0), none, none, none]) rfl rfl rfl ?_
      exact w_W.less h (w_sub [true, true, true, false, true, false, true, false, true, false, true, false, false, false] rfl)
theorem xr_m_realOf_27 {d : Nat} {l1 l2 l4 l6 l8 l10 : Int} {m : w_M} {Q : Int → w_M → Prop} (h : if l10 < l6 then (xp_m_realOf_27 d l1 l2 l4 l6 (w_64 (l8 * 10)) (w_32 (l10 + 1)) m Q) else ((w_64 (2 * l8)) ≠ 0 ∧ (if l1 = 0 then (xp_m_realOf_88 d (w_64 ((w_64 (l2 * 65536)) + (w_ldiv (w_64 ((w_64 ((w_64 (2 * l4)) * 65536)) + l8)) (w_64 (2 * l8))))) m Q) else (xp_m_realOf_88 d (w_64 (-(w_64 ((w_64 (l2 * 65536)) + (w_ldiv (w_64 ((w_64 ((w_64 (2 * l4)) * 65536)) + l8)) (w_64 (2 * l8))))))) m Q)))) : xp_m_realOf_27 d l1 l2 l4 l6 l8 l10 m Q := by
  refine w_iload rfl rfl ?_
  refine w_iload rfl rfl ?_
  refine w_icge rfl (w_ite h (fun h => ?_) (fun h => ?_))
  · refine w_lload rfl rfl ?_
    refine w_ldc2 (a := 10) rfl (by decide +kernel) (by decide) ?_
    refine w_lmul' rfl ?_
    refine w_lstore (lv' := [some (2, 428), some (0, l1), some (1, l2), none, some (1, l4), none, some (0, l6), none, some (1, w_64 (l8 * 10)), none, some (0, l10), none, none, none]) rfl rfl rfl ?_
    refine w_iinc (lv' := [some (2, 428), some (0, l1), some (1, l2), none, some (1, l4), none, some (0, l6), none, some (1, w_64 (l8 * 10)), none, some (0, w_32 (l10 + 1)), none, none, none]) rfl rfl rfl rfl ?_
    refine w_goto rfl ?_
    exact w_W.less h (w_sub [true, true, true, false, true, false, true, false, true, false, true, false, false, false] rfl)
  · refine w_lload_n rfl rfl ?_
    refine w_ldc2 (a := 65536) rfl (by decide +kernel) (by decide) ?_
    refine w_lmul' rfl ?_
    refine w_ldc2 (a := 2) rfl (by decide +kernel) (by decide) ?_
    refine w_lload rfl rfl ?_
    refine w_lmul' rfl ?_
    refine w_ldc2 (a := 65536) rfl (by decide +kernel) (by decide) ?_
    refine w_lmul' rfl ?_
    refine w_lload rfl rfl ?_
    refine w_ladd' rfl ?_
    refine w_ldc2 (a := 2) rfl (by decide +kernel) (by decide) ?_
    refine w_lload rfl rfl ?_
    refine w_lmul' rfl ?_
    refine w_ldiv' rfl h.1 ?_
    replace h := h.2
    refine w_ladd' rfl ?_
    refine w_lstore (lv' := [some (2, 428), some (0, l1), some (1, l2), none, some (1, l4), none, some (0, l6), none, some (1, l8), none, some (1, w_64 ((w_64 (l2 * 65536)) + (w_ldiv (w_64 ((w_64 ((w_64 (2 * l4)) * 65536)) + l8)) (w_64 (2 * l8))))), none, none, none]) rfl rfl rfl ?_
    refine w_iload_n rfl rfl ?_
    refine w_ifeq rfl (w_ite h (fun h => ?_) (fun h => ?_))
    · refine w_lload rfl rfl ?_
      exact w_W.less h (w_sub [true, false, false, false, false, false, false, false, false, false, false, false, false, false] rfl)
    · refine w_lload rfl rfl ?_
      refine w_lneg rfl ?_
      refine w_goto rfl ?_
      exact w_W.less h (w_sub [true, false, false, false, false, false, false, false, false, false, false, false, false, false] rfl)
theorem xr_m_realOf_88 {d : Nat} {s0 : Int} {m : w_M} {Q : Int → w_M → Prop} (h : if s0 < (-2147483648) then (Q 0 (w_up (w_up m 428 22 11) 428 24 (w_32 s0))) else (if 2147483647 < s0 then (Q 0 (w_up (w_up m 428 22 11) 428 24 (w_32 s0))) else (Q 0 (w_up (w_up m 428 22 2) 428 24 (w_32 s0))))) : xp_m_realOf_88 d s0 m Q := by
  refine w_lstore (lv' := [some (2, 428), none, none, none, none, none, none, none, none, none, none, none, some (1, s0), none]) rfl rfl rfl ?_
  refine w_aload_n rfl rfl ?_
  refine w_lload rfl rfl ?_
  refine w_ldc2 (a := (-2147483648)) rfl (by decide +kernel) (by decide) ?_
  refine w_lclt rfl rfl (w_ite h (fun h => ?_) (fun h => ?_))
  · refine w_bipush rfl (by decide) ?_
    refine w_goto rfl ?_
    refine w_pfI rfl s_428 rfl (w_EM (by decide)) rfl (kk := 22) rfl ?_
    refine w_aload_n rfl rfl ?_
    refine w_lload rfl rfl ?_
    refine w_l2i rfl ?_
    refine w_pfI rfl s_428 rfl (w_EM (by decide)) rfl (kk := 24) rfl ?_
    exact w_vret rfl rfl h
  · refine w_lload rfl rfl ?_
    refine w_ldc2 (a := 2147483647) rfl (by decide +kernel) (by decide) ?_
    refine w_lcle rfl rfl (w_ite h (fun h => ?_) (fun h => ?_))
    · refine w_bipush rfl (by decide) ?_
      refine w_goto rfl ?_
      refine w_pfI rfl s_428 rfl (w_EM (by decide)) rfl (kk := 22) rfl ?_
      refine w_aload_n rfl rfl ?_
      refine w_lload rfl rfl ?_
      refine w_l2i rfl ?_
      refine w_pfI rfl s_428 rfl (w_EM (by decide)) rfl (kk := 24) rfl ?_
      exact w_vret rfl rfl h
    · refine w_iconst rfl (by decide) ?_
      refine w_pfI rfl s_428 rfl (w_EM (by decide)) rfl (kk := 22) rfl ?_
      refine w_aload_n rfl rfl ?_
      refine w_lload rfl rfl ?_
      refine w_l2i rfl ?_
      refine w_pfI rfl s_428 rfl (w_EM (by decide)) rfl (kk := 24) rfl ?_
      exact w_vret rfl rfl h
theorem xr_m_reference {d : Nat} {l1 : Int} {m : w_M} {Q : Int → w_M → Prop} (h : if (m 428 109) = 0 then (((0 : Int) ≤ l1 ∧ l1 < 40000) ∧ (((0 : Int) ≤ l1 ∧ l1 < 40000) ∧ (xc_m_sayReference d (m 433 l1) (m 434 l1) m (fun r1 m1 => Q 0 m1)))) else (xc_m_resolve d l1 m (fun r2 m2 => if r2 < 0 then (xc_m_sayText d 266 m2 (fun r3 m3 => Q 0 m3)) else (xc_m_numberOf d (m2 428 80) m2 (fun r4 m4 => xc_m_sayReference d r4 0 m4 (fun r5 m5 => Q 0 m5)))))) : xc_m_reference (d + 1) l1 m Q := by
  refine w_enter (q := 1) (lv := [some (2, 428), some (0, l1), none]) rfl rfl rfl ?_
  refine w_aload_n rfl rfl ?_
  refine x_gfZ rfl s_428 rfl (kk := 109) rfl rfl ?_
  refine w_ifne rfl (w_ite h (fun h => ?_) (fun h => ?_))
  · refine w_aload_n rfl rfl ?_
    refine w_aload_n rfl rfl ?_
    refine w_gfC (c := 433) rfl s_428 rfl rfl ?_
    refine w_iload_n rfl rfl ?_
    refine w_iald rfl s_433 (n := 40000) rfl h.1 ?_
    replace h := h.2
    refine w_aload_n rfl rfl ?_
    refine w_gfC (c := 434) rfl s_428 rfl rfl ?_
    refine w_iload_n rfl rfl ?_
    refine w_iald rfl s_434 (n := 40000) rfl h.1 ?_
    replace h := h.2
    refine w_i2l rfl ?_
    refine w_callV (t' := 3) [(1, m 434 l1), (0, m 433 l1)] [] rfl s_428 rfl rfl ?_
    refine w_C.more (Q := fun r1 m1 => _) h (fun r1 m1 h => ?_)
    replace h := id h
    exact w_vret rfl rfl h
  · refine w_aload_n rfl rfl ?_
    refine w_iload_n rfl rfl ?_
    refine w_callV (t' := 0) [(0, l1)] [] rfl s_428 rfl rfl ?_
    refine w_C.more (Q := fun r2 m2 => _) h (fun r2 m2 h => ?_)
    replace h := id h
    refine w_istore_n (lv' := [some (2, 428), some (0, l1), some (0, r2)]) rfl rfl rfl ?_
    refine w_iload_n rfl rfl ?_
    refine w_ifge rfl (w_ite h (fun h => ?_) (fun h => ?_))
    · refine w_aload_n rfl rfl ?_
      refine w_ldcwR rfl ?_
      refine w_callV (t' := 3) [(2, 266)] [] rfl s_428 rfl rfl ?_
      refine w_C.more (Q := fun r3 m3 => _) h (fun r3 m3 h => ?_)
      replace h := id h
      refine w_goto rfl ?_
      exact w_vret rfl rfl h
    · refine w_aload_n rfl rfl ?_
      refine w_aload_n rfl rfl ?_
      refine w_aload_n rfl rfl ?_
      refine x_gfI rfl s_428 rfl (kk := 80) rfl rfl ?_
      refine w_callV (t' := 0) [(0, m2 428 80)] [(2, 428)] rfl s_428 rfl rfl ?_
      refine w_C.more (Q := fun r4 m4 => _) h (fun r4 m4 h => ?_)
      replace h := id h
      refine w_lconst rfl rfl ?_
      refine w_callV (t' := 3) [(1, 0), (0, r4)] [] rfl s_428 rfl rfl ?_
      refine w_C.more (Q := fun r5 m5 => _) h (fun r5 m5 h => ?_)
      replace h := id h
      exact w_vret rfl rfl h
theorem xr_m_resolve {d : Nat} {l1 : Int} {m : w_M} {Q : Int → w_M → Prop} (h : xp_m_resolve_9 d l1 0 (w_up m 428 80 0) Q) : xc_m_resolve (d + 1) l1 m Q := by
  refine w_enter (q := 3) (lv := [some (2, 428), some (0, l1), none, none, none]) rfl rfl rfl ?_
  refine w_aload_n rfl rfl ?_
  refine w_iconst rfl (by decide) ?_
  refine w_pfI rfl s_428 rfl (w_EM (by decide)) rfl (kk := 80) rfl ?_
  refine w_iload_n rfl rfl ?_
  refine w_istore_n (lv' := [some (2, 428), some (0, l1), some (0, l1), none, none]) rfl rfl rfl ?_
  refine w_iconst rfl (by decide) ?_
  refine w_istore_n (lv' := [some (2, 428), some (0, l1), some (0, l1), some (0, 0), none]) rfl rfl rfl ?_
  exact w_W.less h (w_sub [true, false, true, true, false] rfl)
theorem xr_m_resolve_9 {d : Nat} {l2 l3 : Int} {m : w_M} {Q : Int → w_M → Prop} (h : if l2 < 0 then (if l2 < 0 then (Q l2 (w_up m 428 80 0)) else (Q l2 m)) else (((0 : Int) ≤ l2 ∧ l2 < 40000) ∧ (if (m 432 l2) = 8 then (if 20 < (w_32 (l3 + 1)) then (xp_m_resolve_42 d (w_32 (l3 + 1)) (-1) m Q) else (xc_m_target d l2 m (fun r1 m1 => xp_m_resolve_42 d (w_32 (l3 + 1)) r1 m1 Q))) else (if l2 < 0 then (Q l2 (w_up m 428 80 0)) else (Q l2 m))))) : xp_m_resolve_9 d l2 l3 m Q := by
  refine w_iload_n rfl rfl ?_
  refine w_iflt rfl (w_ite h (fun h => ?_) (fun h => ?_))
  · refine w_iload_n rfl rfl ?_
    refine w_ifge rfl (w_ite h (fun h => ?_) (fun h => ?_))
    · refine w_aload_n rfl rfl ?_
      refine w_iconst rfl (by decide) ?_
      refine w_pfI rfl s_428 rfl (w_EM (by decide)) rfl (kk := 80) rfl ?_
      refine w_iload_n rfl rfl ?_
      exact w_iret rfl rfl h
    · refine w_iload_n rfl rfl ?_
      exact w_iret rfl rfl h
  · refine w_aload_n rfl rfl ?_
    refine w_gfC (c := 432) rfl s_428 rfl rfl ?_
    refine w_iload_n rfl rfl ?_
    refine w_bald rfl s_432 (n := 40000) rfl h.1 ?_
    replace h := h.2
    refine w_bipush rfl (by decide) ?_
    refine w_icne rfl (w_ite h (fun h => ?_) (fun h => ?_))
    · refine w_iinc (lv' := [some (2, 428), none, some (0, l2), some (0, w_32 (l3 + 1)), none]) rfl rfl rfl rfl ?_
      refine w_iload_n rfl rfl ?_
      refine w_bipush rfl (by decide) ?_
      refine w_icle rfl (w_ite h (fun h => ?_) (fun h => ?_))
      · refine w_iconst rfl (by decide) ?_
        refine w_goto rfl ?_
        exact w_W.less h (w_sub [true, false, false, true, false] rfl)
      · refine w_aload_n rfl rfl ?_
        refine w_iload_n rfl rfl ?_
        refine w_callV (t' := 0) [(0, l2)] [] rfl s_428 rfl rfl ?_
        refine w_C.more (Q := fun r1 m1 => _) h (fun r1 m1 h => ?_)
        replace h := id h
        exact w_W.less h (w_sub [true, false, false, true, false] rfl)
    · refine w_iload_n rfl rfl ?_
      refine w_ifge rfl (w_ite h (fun h => ?_) (fun h => ?_))
      · refine w_aload_n rfl rfl ?_
        refine w_iconst rfl (by decide) ?_
        refine w_pfI rfl s_428 rfl (w_EM (by decide)) rfl (kk := 80) rfl ?_
        refine w_iload_n rfl rfl ?_
        exact w_iret rfl rfl h
      · refine w_iload_n rfl rfl ?_
        exact w_iret rfl rfl h
theorem xr_m_resolve_42 {d : Nat} {l3 s0 : Int} {m : w_M} {Q : Int → w_M → Prop} (h : if s0 < 0 then (if s0 < 0 then (xp_m_resolve_9 d (-1) l3 (w_up m 428 80 0) Q) else (((0 : Int) ≤ s0 ∧ s0 < 200) ∧ (xp_m_resolve_9 d ((w_up m 428 80 0) 455 s0) l3 (w_up m 428 80 0) Q))) else (if s0 < 0 then (xp_m_resolve_9 d (-1) l3 (w_up m 428 80 s0) Q) else (((0 : Int) ≤ s0 ∧ s0 < 200) ∧ (xp_m_resolve_9 d ((w_up m 428 80 s0) 455 s0) l3 (w_up m 428 80 s0) Q)))) : xp_m_resolve_42 d l3 s0 m Q := by
  refine w_istore (lv' := [some (2, 428), none, none, some (0, l3), some (0, s0)]) rfl rfl rfl ?_
  refine w_aload_n rfl rfl ?_
  refine w_iload rfl rfl ?_
  refine w_ifge rfl (w_ite h (fun h => ?_) (fun h => ?_))
  · refine w_iconst rfl (by decide) ?_
    refine w_goto rfl ?_
    refine w_pfI rfl s_428 rfl (w_EM (by decide)) rfl (kk := 80) rfl ?_
    refine w_iload rfl rfl ?_
    refine w_ifge rfl (w_ite h (fun h => ?_) (fun h => ?_))
    · refine w_iconst rfl (by decide) ?_
      refine w_goto rfl ?_
      refine w_istore_n (lv' := [some (2, 428), none, some (0, (-1)), some (0, l3), some (0, s0)]) rfl rfl rfl ?_
      refine w_goto rfl ?_
      exact w_W.less h (w_sub [true, false, true, true, false] rfl)
    · refine w_aload_n rfl rfl ?_
      refine w_gfC (c := 455) rfl s_428 rfl rfl ?_
      refine w_iload rfl rfl ?_
      refine w_iald rfl s_455 (n := 200) rfl h.1 ?_
      replace h := h.2
      refine w_istore_n (lv' := [some (2, 428), none, some (0, (w_up m 428 80 0) 455 s0), some (0, l3), some (0, s0)]) rfl rfl rfl ?_
      refine w_goto rfl ?_
      exact w_W.less h (w_sub [true, false, true, true, false] rfl)
  · refine w_iload rfl rfl ?_
    refine w_pfI rfl s_428 rfl (w_EM (by decide)) rfl (kk := 80) rfl ?_
    refine w_iload rfl rfl ?_
    refine w_ifge rfl (w_ite h (fun h => ?_) (fun h => ?_))
    · refine w_iconst rfl (by decide) ?_
      refine w_goto rfl ?_
      refine w_istore_n (lv' := [some (2, 428), none, some (0, (-1)), some (0, l3), some (0, s0)]) rfl rfl rfl ?_
      refine w_goto rfl ?_
      exact w_W.less h (w_sub [true, false, true, true, false] rfl)
    · refine w_aload_n rfl rfl ?_
      refine w_gfC (c := 455) rfl s_428 rfl rfl ?_
      refine w_iload rfl rfl ?_
      refine w_iald rfl s_455 (n := 200) rfl h.1 ?_
      replace h := h.2
      refine w_istore_n (lv' := [some (2, 428), none, some (0, (w_up m 428 80 s0) 455 s0), some (0, l3), some (0, s0)]) rfl rfl rfl ?_
      refine w_goto rfl ?_
      exact w_W.less h (w_sub [true, false, true, true, false] rfl)
theorem xr_m_row1 {d : Nat} {m : w_M} {Q : Int → w_M → Prop} (h : xc_m_peek d 0 m (fun r1 m1 => if r1 = 43 then (xp_m_row1_25 d 1 m1 Q) else (xc_m_peek d 0 m1 (fun r2 m2 => if r2 = 45 then (xp_m_row1_25 d 1 m2 Q) else (xp_m_row1_25 d 0 m2 Q))))) : xc_m_row1 (d + 1) m Q := by
  refine w_enter (q := 14) (lv := [some (2, 428), none, none, none, none, none, none, none, none, none, none, none, none, none, none]) rfl rfl rfl ?_
  refine w_aload_n rfl rfl ?_
  refine w_iconst rfl (by decide) ?_
  refine w_callV (t' := 0) [(0, 0)] [] rfl s_428 rfl rfl ?_
  refine w_C.more (Q := fun r1 m1 => _) h (fun r1 m1 h => ?_)
  replace h := id h
  refine w_bipush rfl (by decide) ?_
  refine w_iceq rfl (w_ite h (fun h => ?_) (fun h => ?_))
  · refine w_iconst rfl (by decide) ?_
    refine w_goto rfl ?_
    exact w_W.less h (w_sub [true, false, false, false, false, false, false, false, false, false, false, false, false, false, false] rfl)
  · refine w_aload_n rfl rfl ?_
    refine w_iconst rfl (by decide) ?_
    refine w_callV (t' := 0) [(0, 0)] [] rfl s_428 rfl rfl ?_
    refine w_C.more (Q := fun r2 m2 => _) h (fun r2 m2 h => ?_)
    replace h := id h
    refine w_bipush rfl (by decide) ?_
    refine w_icne rfl (w_ite h (fun h => ?_) (fun h => ?_))
    · refine w_iconst rfl (by decide) ?_
      refine w_goto rfl ?_
      exact w_W.less h (w_sub [true, false, false, false, false, false, false, false, false, false, false, false, false, false, false] rfl)
    · refine w_iconst rfl (by decide) ?_
      exact w_W.less h (w_sub [true, false, false, false, false, false, false, false, false, false, false, false, false, false, false] rfl)
theorem xr_m_row1_25 {d : Nat} {s0 : Int} {m : w_M} {Q : Int → w_M → Prop} (h : xc_m_peek d 0 m (fun r1 m1 => if r1 = 45 then (xp_m_row1_65 d s0 1 0 0 0 0 0 0 0 0 m1 Q) else (xp_m_row1_65 d s0 0 0 0 0 0 0 0 0 0 m1 Q))) : xp_m_row1_25 d s0 m Q := by
  refine w_istore_n (lv' := [some (2, 428), some (0, s0), none, none, none, none, none, none, none, none, none, none, none, none, none]) rfl rfl rfl ?_
  refine w_aload_n rfl rfl ?_
  refine w_iconst rfl (by decide) ?_
  refine w_callV (t' := 0) [(0, 0)] [] rfl s_428 rfl rfl ?_
  refine w_C.more (Q := fun r1 m1 => _) h (fun r1 m1 h => ?_)
  replace h := id h
  refine w_bipush rfl (by decide) ?_
  refine w_icne rfl (w_ite h (fun h => ?_) (fun h => ?_))
  · refine w_iconst rfl (by decide) ?_
    refine w_goto rfl ?_
    refine w_istore_n (lv' := [some (2, 428), some (0, s0), some (0, 1), none, none, none, none, none, none, none, none, none, none, none, none]) rfl rfl rfl ?_
    refine w_iconst rfl (by decide) ?_
    refine w_istore_n (lv' := [some (2, 428), some (0, s0), some (0, 1), some (0, 0), none, none, none, none, none, none, none, none, none, none, none]) rfl rfl rfl ?_
    refine w_iconst rfl (by decide) ?_
    refine w_istore (lv' := [some (2, 428), some (0, s0), some (0, 1), some (0, 0), some (0, 0), none, none, none, none, none, none, none, none, none, none]) rfl rfl rfl ?_
    refine w_iconst rfl (by decide) ?_
    refine w_istore (lv' := [some (2, 428), some (0, s0), some (0, 1), some (0, 0), some (0, 0), some (0, 0), none, none, none, none, none, none, none, none, none]) rfl rfl rfl ?_
    refine w_iconst rfl (by decide) ?_
    refine w_istore (lv' := [some (2, 428), some (0, s0), some (0, 1), some (0, 0), some (0, 0), some (0, 0), some (0, 0), none, none, none, none, none, none, none, none]) rfl rfl rfl ?_
    refine w_lconst rfl rfl ?_
    refine w_lstore (lv' := [some (2, 428), some (0, s0), some (0, 1), some (0, 0), some (0, 0), some (0, 0), some (0, 0), some (1, 0), none, none, none, none, none, none, none]) rfl rfl rfl ?_
    refine w_lconst rfl rfl ?_
    refine w_lstore (lv' := [some (2, 428), some (0, s0), some (0, 1), some (0, 0), some (0, 0), some (0, 0), some (0, 0), some (1, 0), none, some (1, 0), none, none, none, none, none]) rfl rfl rfl ?_
    refine w_iconst rfl (by decide) ?_
    refine w_istore (lv' := [some (2, 428), some (0, s0), some (0, 1), some (0, 0), some (0, 0), some (0, 0), some (0, 0), some (1, 0), none, some (1, 0), none, some (0, 0), none, none, none]) rfl rfl rfl ?_
    refine w_iconst rfl (by decide) ?_
    refine w_istore (lv' := [some (2, 428), some (0, s0), some (0, 1), some (0, 0), some (0, 0), some (0, 0), some (0, 0), some (1, 0), none, some (1, 0), none, some (0, 0), some (0, 0), none, none]) rfl rfl rfl ?_
    exact w_W.less h (w_sub [true, true, true, true, true, true, true, true, false, true, false, true, true, false, false] rfl)
  · refine w_iconst rfl (by decide) ?_
    refine w_istore_n (lv' := [some (2, 428), some (0, s0), some (0, 0), none, none, none, none, none, none, none, none, none, none, none, none]) rfl rfl rfl ?_
    refine w_iconst rfl (by decide) ?_
    refine w_istore_n (lv' := [some (2, 428), some (0, s0), some (0, 0), some (0, 0), none, none, none, none, none, none, none, none, none, none, none]) rfl rfl rfl ?_
    refine w_iconst rfl (by decide) ?_
    refine w_istore (lv' := [some (2, 428), some (0, s0), some (0, 0), some (0, 0), some (0, 0), none, none, none, none, none, none, none, none, none, none]) rfl rfl rfl ?_
    refine w_iconst rfl (by decide) ?_
    refine w_istore (lv' := [some (2, 428), some (0, s0), some (0, 0), some (0, 0), some (0, 0), some (0, 0), none, none, none, none, none, none, none, none, none]) rfl rfl rfl ?_
    refine w_iconst rfl (by decide) ?_
    refine w_istore (lv' := [some (2, 428), some (0, s0), some (0, 0), some (0, 0), some (0, 0), some (0, 0), some (0, 0), none, none, none, none, none, none, none, none]) rfl rfl rfl ?_
    refine w_lconst rfl rfl ?_
    refine w_lstore (lv' := [some (2, 428), some (0, s0), some (0, 0), some (0, 0), some (0, 0), some (0, 0), some (0, 0), some (1, 0), none, none, none, none, none, none, none]) rfl rfl rfl ?_
    refine w_lconst rfl rfl ?_
    refine w_lstore (lv' := [some (2, 428), some (0, s0), some (0, 0), some (0, 0), some (0, 0), some (0, 0), some (0, 0), some (1, 0), none, some (1, 0), none, none, none, none, none]) rfl rfl rfl ?_
    refine w_iconst rfl (by decide) ?_
    refine w_istore (lv' := [some (2, 428), some (0, s0), some (0, 0), some (0, 0), some (0, 0), some (0, 0), some (0, 0), some (1, 0), none, some (1, 0), none, some (0, 0), none, none, none]) rfl rfl rfl ?_
    refine w_iconst rfl (by decide) ?_
    refine w_istore (lv' := [some (2, 428), some (0, s0), some (0, 0), some (0, 0), some (0, 0), some (0, 0), some (0, 0), some (1, 0), none, some (1, 0), none, some (0, 0), some (0, 0), none, none]) rfl rfl rfl ?_
    exact w_W.less h (w_sub [true, true, true, true, true, true, true, true, false, true, false, true, true, false, false] rfl)
theorem xr_m_row1_65 {d : Nat} {l1 l2 l3 l4 l5 l6 l7 l9 l11 l12 : Int} {m : w_M} {Q : Int → w_M → Prop} (h : xc_m_peek d l12 m (fun r1 m1 => xc_m_isRegular d r1 m1 (fun r2 m2 => if r2 = 0 then ((l1 = 0 ∨ l1 = 1) ∧ (if l6 = 0 then (if l3 = 0 then (Q 0 (w_up (w_up (w_up (w_up m2 428 21 (w_32 ((m2 428 21) + l12))) 428 25 l1) 428 22 3) 428 26 l12)) else (if 1 < l5 then (Q 0 (w_up (w_up (w_up (w_up m2 428 21 (w_32 ((m2 428 21) + l12))) 428 25 l1) 428 22 3) 428 26 l12)) else (if l5 = 0 then (if l2 = 0 then (xp_m_row1_292 d l11 l7 (w_up (w_up m2 428 21 (w_32 ((m2 428 21) + l12))) 428 25 l1) Q) else (xp_m_row1_292 d l11 (w_64 (-l7)) (w_up (w_up m2 428 21 (w_32 ((m2 428 21) + l12))) 428 25 l1) Q)) else (xc_m_realOf d l2 l7 l9 l4 (w_32 (l3 - l4)) (w_up (w_up m2 428 21 (w_32 ((m2 428 21) + l12))) 428 25 l1) (fun r3 m3 => Q 0 m3))))) else (Q 0 (w_up (w_up (w_up (w_up m2 428 21 (w_32 ((m2 428 21) + l12))) 428 25 l1) 428 22 3) 428 26 l12)))) else (xc_m_peek d l12 m2 (fun r4 m4 => xc_m_isDigit d r4 m4 (fun r5 m5 => if r5 = 0 then (if r4 = 46 then (xp_m_row1_65 d l1 l2 l3 l4 (w_32 (l5 + 1)) l6 l7 l9 l11 (w_32 (l12 + 1)) m5 Q) else (if 0 < l12 then (xp_m_row1_65 d l1 l2 l3 l4 l5 (w_or l6 1) l7 l9 l11 (w_32 (l12 + 1)) m5 Q) else (if l1 = 0 then (xp_m_row1_65 d l1 l2 l3 l4 l5 (w_or l6 1) l7 l9 l11 (w_32 (l12 + 1)) m5 Q) else (xp_m_row1_65 d l1 l2 l3 l4 l5 (w_or l6 0) l7 l9 l11 (w_32 (l12 + 1)) m5 Q)))) else (if 0 < l5 then (if 9 < (w_32 (l4 + 1)) then (xp_m_row1_65 d l1 l2 (w_32 (l3 + 1)) (w_32 (l4 + 1)) l5 l6 l7 l9 l11 (w_32 (l12 + 1)) m5 Q) else (xp_m_row1_65 d l1 l2 (w_32 (l3 + 1)) (w_32 (l4 + 1)) l5 l6 l7 (w_64 ((w_64 ((w_64 (10 * l9)) + r4)) - 48)) l11 (w_32 (l12 + 1)) m5 Q)) else (if 4294967296 < (w_64 ((w_64 ((w_64 (10 * l7)) + r4)) - 48)) then (if 4294967296 < (w_64 ((w_64 ((w_64 (10 * l7)) + r4)) - 48)) then (xp_m_row1_65 d l1 l2 (w_32 (l3 + 1)) l4 l5 l6 4294967297 l9 (w_or l11 1) (w_32 (l12 + 1)) m5 Q) else (xp_m_row1_65 d l1 l2 (w_32 (l3 + 1)) l4 l5 l6 (w_64 ((w_64 ((w_64 (10 * l7)) + r4)) - 48)) l9 (w_or l11 1) (w_32 (l12 + 1)) m5 Q)) else (if 4294967296 < (w_64 ((w_64 ((w_64 (10 * l7)) + r4)) - 48)) then (xp_m_row1_65 d l1 l2 (w_32 (l3 + 1)) l4 l5 l6 4294967297 l9 (w_or l11 0) (w_32 (l12 + 1)) m5 Q) else (xp_m_row1_65 d l1 l2 (w_32 (l3 + 1)) l4 l5 l6 (w_64 ((w_64 ((w_64 (10 * l7)) + r4)) - 48)) l9 (w_or l11 0) (w_32 (l12 + 1)) m5 Q)))))))))) : xp_m_row1_65 d l1 l2 l3 l4 l5 l6 l7 l9 l11 l12 m Q := by
  refine w_aload_n rfl rfl ?_
  refine w_iload rfl rfl ?_
  refine w_callV (t' := 0) [(0, l12)] [] rfl s_428 rfl rfl ?_
  refine w_C.more (Q := fun r1 m1 => _) h (fun r1 m1 h => ?_)
  replace h := id h
  refine w_callS (t' := 0) [(0, r1)] [] rfl (by decide) rfl rfl ?_
  refine w_C.more (Q := fun r2 m2 => _) h (fun r2 m2 h => ?_)
  replace h := id h
  refine w_ifeq rfl (w_ite h (fun h => ?_) (fun h => ?_))
  · refine w_aload_n rfl rfl ?_
    refine w_dup rfl (show (2 : Nat) ≠ 1 by decide) ?_
    refine x_gfI rfl s_428 rfl (kk := 21) rfl rfl ?_
    refine w_iload rfl rfl ?_
    refine w_iadd rfl ?_
    refine w_pfI rfl s_428 rfl (w_EM (by decide)) rfl (kk := 21) rfl ?_
    refine w_aload_n rfl rfl ?_
    refine w_iload_n rfl rfl ?_
    refine w_pfZ rfl s_428 rfl (w_EM (by decide)) rfl (kk := 25) rfl h.1 ?_
    replace h := h.2
    refine w_iload rfl rfl ?_
    refine w_ifne rfl (w_ite h (fun h => ?_) (fun h => ?_))
    · refine w_iload_n rfl rfl ?_
      refine w_ifeq rfl (w_ite h (fun h => ?_) (fun h => ?_))
      · refine w_aload_n rfl rfl ?_
        refine w_iconst rfl (by decide) ?_
        refine w_pfI rfl s_428 rfl (w_EM (by decide)) rfl (kk := 22) rfl ?_
        refine w_aload_n rfl rfl ?_
        refine w_iload rfl rfl ?_
        refine w_pfI rfl s_428 rfl (w_EM (by decide)) rfl (kk := 26) rfl ?_
        refine w_goto rfl ?_
        exact w_vret rfl rfl h
      · refine w_iload rfl rfl ?_
        refine w_iconst rfl (by decide) ?_
        refine w_icle rfl (w_ite h (fun h => ?_) (fun h => ?_))
        · refine w_aload_n rfl rfl ?_
          refine w_iconst rfl (by decide) ?_
          refine w_pfI rfl s_428 rfl (w_EM (by decide)) rfl (kk := 22) rfl ?_
          refine w_aload_n rfl rfl ?_
          refine w_iload rfl rfl ?_
          refine w_pfI rfl s_428 rfl (w_EM (by decide)) rfl (kk := 26) rfl ?_
          refine w_goto rfl ?_
          exact w_vret rfl rfl h
        · refine w_iload rfl rfl ?_
          refine w_ifne rfl (w_ite h (fun h => ?_) (fun h => ?_))
          · refine w_iload_n rfl rfl ?_
            refine w_ifeq rfl (w_ite h (fun h => ?_) (fun h => ?_))
            · refine w_lload rfl rfl ?_
              exact w_W.less h (w_sub [true, false, false, false, false, false, false, false, false, false, false, true, false, false, false] rfl)
            · refine w_lload rfl rfl ?_
              refine w_lneg rfl ?_
              refine w_goto rfl ?_
              exact w_W.less h (w_sub [true, false, false, false, false, false, false, false, false, false, false, true, false, false, false] rfl)
          · refine w_aload_n rfl rfl ?_
            refine w_iload_n rfl rfl ?_
            refine w_lload rfl rfl ?_
            refine w_lload rfl rfl ?_
            refine w_iload rfl rfl ?_
            refine w_iload_n rfl rfl ?_
            refine w_iload rfl rfl ?_
            refine w_isub rfl ?_
            refine w_callV (t' := 3) [(0, w_32 (l3 - l4)), (0, l4), (1, l9), (1, l7), (0, l2)] [] rfl s_428 rfl rfl ?_
            refine w_C.more (Q := fun r3 m3 => _) h (fun r3 m3 h => ?_)
            replace h := id h
            exact w_vret rfl rfl h
    · refine w_aload_n rfl rfl ?_
      refine w_iconst rfl (by decide) ?_
      refine w_pfI rfl s_428 rfl (w_EM (by decide)) rfl (kk := 22) rfl ?_
      refine w_aload_n rfl rfl ?_
      refine w_iload rfl rfl ?_
      refine w_pfI rfl s_428 rfl (w_EM (by decide)) rfl (kk := 26) rfl ?_
      refine w_goto rfl ?_
      exact w_vret rfl rfl h
  · refine w_aload_n rfl rfl ?_
    refine w_iload rfl rfl ?_
    refine w_callV (t' := 0) [(0, l12)] [] rfl s_428 rfl rfl ?_
    refine w_C.more (Q := fun r4 m4 => _) h (fun r4 m4 h => ?_)
    replace h := id h
    refine w_istore (lv' := [some (2, 428), some (0, l1), some (0, l2), some (0, l3), some (0, l4), some (0, l5), some (0, l6), some (1, l7), none, some (1, l9), none, some (0, l11), some (0, l12), some (0, r4), none]) rfl rfl rfl ?_
    refine w_iload rfl rfl ?_
    refine w_callS (t' := 0) [(0, r4)] [] rfl (by decide) rfl rfl ?_
    refine w_C.more (Q := fun r5 m5 => _) h (fun r5 m5 h => ?_)
    replace h := id h
    refine w_ifeq rfl (w_ite h (fun h => ?_) (fun h => ?_))
    · refine w_iload rfl rfl ?_
      refine w_bipush rfl (by decide) ?_
      refine w_icne rfl (w_ite h (fun h => ?_) (fun h => ?_))
      · refine w_iinc (lv' := [some (2, 428), some (0, l1), some (0, l2), some (0, l3), some (0, l4), some (0, w_32 (l5 + 1)), some (0, l6), some (1, l7), none, some (1, l9), none, some (0, l11), some (0, l12), some (0, r4), none]) rfl rfl rfl rfl ?_
        refine w_goto rfl ?_
        refine w_iinc (lv' := [some (2, 428), some (0, l1), some (0, l2), some (0, l3), some (0, l4), some (0, w_32 (l5 + 1)), some (0, l6), some (1, l7), none, some (1, l9), none, some (0, l11), some (0, w_32 (l12 + 1)), some (0, r4), none]) rfl rfl rfl rfl ?_
        refine w_goto rfl ?_
        exact w_W.less h (w_sub [true, true, true, true, true, true, true, true, false, true, false, true, true, false, false] rfl)
      · refine w_iload rfl rfl ?_
        refine w_iload rfl rfl ?_
        refine w_ifgt rfl (w_ite h (fun h => ?_) (fun h => ?_))
        · refine w_iconst rfl (by decide) ?_
          refine w_goto rfl ?_
          refine w_ior rfl ?_
          refine w_istore (lv' := [some (2, 428), some (0, l1), some (0, l2), some (0, l3), some (0, l4), some (0, l5), some (0, w_or l6 1), some (1, l7), none, some (1, l9), none, some (0, l11), some (0, l12), some (0, r4), none]) rfl rfl rfl ?_
          refine w_iinc (lv' := [some (2, 428), some (0, l1), some (0, l2), some (0, l3), some (0, l4), some (0, l5), some (0, w_or l6 1), some (1, l7), none, some (1, l9), none, some (0, l11), some (0, w_32 (l12 + 1)), some (0, r4), none]) rfl rfl rfl rfl ?_
          refine w_goto rfl ?_
          exact w_W.less h (w_sub [true, true, true, true, true, true, true, true, false, true, false, true, true, false, false] rfl)
        · refine w_iload_n rfl rfl ?_
          refine w_ifne rfl (w_ite h (fun h => ?_) (fun h => ?_))
          · refine w_iconst rfl (by decide) ?_
            refine w_goto rfl ?_
            refine w_ior rfl ?_
            refine w_istore (lv' := [some (2, 428), some (0, l1), some (0, l2), some (0, l3), some (0, l4), some (0, l5), some (0, w_or l6 1), some (1, l7), none, some (1, l9), none, some (0, l11), some (0, l12), some (0, r4), none]) rfl rfl rfl ?_
            refine w_iinc (lv' := [some (2, 428), some (0, l1), some (0, l2), some (0, l3), some (0, l4), some (0, l5), some (0, w_or l6 1), some (1, l7), none, some (1, l9), none, some (0, l11), some (0, w_32 (l12 + 1)), some (0, r4), none]) rfl rfl rfl rfl ?_
            refine w_goto rfl ?_
            exact w_W.less h (w_sub [true, true, true, true, true, true, true, true, false, true, false, true, true, false, false] rfl)
          · refine w_iconst rfl (by decide) ?_
            refine w_ior rfl ?_
            refine w_istore (lv' := [some (2, 428), some (0, l1), some (0, l2), some (0, l3), some (0, l4), some (0, l5), some (0, w_or l6 0), some (1, l7), none, some (1, l9), none, some (0, l11), some (0, l12), some (0, r4), none]) rfl rfl rfl ?_
            refine w_iinc (lv' := [some (2, 428), some (0, l1), some (0, l2), some (0, l3), some (0, l4), some (0, l5), some (0, w_or l6 0), some (1, l7), none, some (1, l9), none, some (0, l11), some (0, w_32 (l12 + 1)), some (0, r4), none]) rfl rfl rfl rfl ?_
            refine w_goto rfl ?_
            exact w_W.less h (w_sub [true, true, true, true, true, true, true, true, false, true, false, true, true, false, false] rfl)
    · refine w_iinc (lv' := [some (2, 428), some (0, l1), some (0, l2), some (0, w_32 (l3 + 1)), some (0, l4), some (0, l5), some (0, l6), some (1, l7), none, some (1, l9), none, some (0, l11), some (0, l12), some (0, r4), none]) rfl rfl rfl rfl ?_
      refine w_iload rfl rfl ?_
      refine w_ifle rfl (w_ite h (fun h => ?_) (fun h => ?_))
      · refine w_iinc (lv' := [some (2, 428), some (0, l1), some (0, l2), some (0, w_32 (l3 + 1)), some (0, w_32 (l4 + 1)), some (0, l5), some (0, l6), some (1, l7), none, some (1, l9), none, some (0, l11), some (0, l12), some (0, r4), none]) rfl rfl rfl rfl ?_
        refine w_iload rfl rfl ?_
        refine w_bipush rfl (by decide) ?_
        refine w_icgt rfl (w_ite h (fun h => ?_) (fun h => ?_))
        · refine w_lload rfl rfl ?_
          refine w_lstore (lv' := [some (2, 428), some (0, l1), some (0, l2), some (0, w_32 (l3 + 1)), some (0, w_32 (l4 + 1)), some (0, l5), some (0, l6), some (1, l7), none, some (1, l9), none, some (0, l11), some (0, l12), some (0, r4), none]) rfl rfl rfl ?_
          refine w_goto rfl ?_
          refine w_iinc (lv' := [some (2, 428), some (0, l1), some (0, l2), some (0, w_32 (l3 + 1)), some (0, w_32 (l4 + 1)), some (0, l5), some (0, l6), some (1, l7), none, some (1, l9), none, some (0, l11), some (0, w_32 (l12 + 1)), some (0, r4), none]) rfl rfl rfl rfl ?_
          refine w_goto rfl ?_
          exact w_W.less h (w_sub [true, true, true, true, true, true, true, true, false, true, false, true, true, false, false] rfl)
        · refine w_ldc2 (a := 10) rfl (by decide +kernel) (by decide) ?_
          refine w_lload rfl rfl ?_
          refine w_lmul' rfl ?_
          refine w_iload rfl rfl ?_
          refine w_i2l rfl ?_
          refine w_ladd' rfl ?_
          refine w_ldc2 (a := 48) rfl (by decide +kernel) (by decide) ?_
          refine w_lsub' rfl ?_
          refine w_goto rfl ?_
          refine w_lstore (lv' := [some (2, 428), some (0, l1), some (0, l2), some (0, w_32 (l3 + 1)), some (0, w_32 (l4 + 1)), some (0, l5), some (0, l6), some (1, l7), none, some (1, w_64 ((w_64 ((w_64 (10 * l9)) + r4)) - 48)), none, some (0, l11), some (0, l12), some (0, r4), none]) rfl rfl rfl ?_
          refine w_goto rfl ?_
          refine w_iinc (lv' := [some (2, 428), some (0, l1), some (0, l2), some (0, w_32 (l3 + 1)), some (0, w_32 (l4 + 1)), some (0, l5), some (0, l6), some (1, l7), none, some (1, w_64 ((w_64 ((w_64 (10 * l9)) + r4)) - 48)), none, some (0, l11), some (0, w_32 (l12 + 1)), some (0, r4), none]) rfl rfl rfl rfl ?_
          refine w_goto rfl ?_
          exact w_W.less h (w_sub [true, true, true, true, true, true, true, true, false, true, false, true, true, false, false] rfl)
      · refine w_ldc2 (a := 10) rfl (by decide +kernel) (by decide) ?_
        refine w_lload rfl rfl ?_
        refine w_lmul' rfl ?_
        refine w_iload rfl rfl ?_
        refine w_i2l rfl ?_
        refine w_ladd' rfl ?_
        refine w_ldc2 (a := 48) rfl (by decide +kernel) (by decide) ?_
        refine w_lsub' rfl ?_
        refine w_lstore (lv' := [some (2, 428), some (0, l1), some (0, l2), some (0, w_32 (l3 + 1)), some (0, l4), some (0, l5), some (0, l6), some (1, w_64 ((w_64 ((w_64 (10 * l7)) + r4)) - 48)), none, some (1, l9), none, some (0, l11), some (0, l12), some (0, r4), none]) rfl rfl rfl ?_
        refine w_iload rfl rfl ?_
        refine w_lload rfl rfl ?_
        refine w_ldc2 (a := 4294967296) rfl (by decide +kernel) (by decide) ?_
        refine w_lcle rfl rfl (w_ite h (fun h => ?_) (fun h => ?_))
        · refine w_iconst rfl (by decide) ?_
          refine w_goto rfl ?_
          refine w_ior rfl ?_
          refine w_istore (lv' := [some (2, 428), some (0, l1), some (0, l2), some (0, w_32 (l3 + 1)), some (0, l4), some (0, l5), some (0, l6), some (1, w_64 ((w_64 ((w_64 (10 * l7)) + r4)) - 48)), none, some (1, l9), none, some (0, w_or l11 1), some (0, l12), some (0, r4), none]) rfl rfl rfl ?_
          refine w_lload rfl rfl ?_
          refine w_ldc2 (a := 4294967296) rfl (by decide +kernel) (by decide) ?_
          refine w_lcle rfl rfl (w_ite h (fun h => ?_) (fun h => ?_))
          · refine w_ldc2 (a := 4294967297) rfl (by decide +kernel) (by decide) ?_
            refine w_goto rfl ?_
            refine w_lstore (lv' := [some (2, 428), some (0, l1), some (0, l2), some (0, w_32 (l3 + 1)), some (0, l4), some (0, l5), some (0, l6), some (1, 4294967297), none, some (1, l9), none, some (0, w_or l11 1), some (0, l12), some (0, r4), none]) rfl rfl rfl ?_
            refine w_goto rfl ?_
            refine w_iinc (lv' := [some (2, 428), some (0, l1), some (0, l2), some (0, w_32 (l3 + 1)), some (0, l4), some (0, l5), some (0, l6), some (1, 4294967297), none, some (1, l9), none, some (0, w_or l11 1), some (0, w_32 (l12 + 1)), some (0, r4), none]) rfl rfl rfl rfl ?_
            refine w_goto rfl ?_
            exact w_W.less h (w_sub [true, true, true, true, true, true, true, true, false, true, false, true, true, false, false] rfl)
          · refine w_lload rfl rfl ?_
            refine w_lstore (lv' := [some (2, 428), some (0, l1), some (0, l2), some (0, w_32 (l3 + 1)), some (0, l4), some (0, l5), some (0, l6), some (1, w_64 ((w_64 ((w_64 (10 * l7)) + r4)) - 48)), none, some (1, l9), none, some (0, w_or l11 1), some (0, l12), some (0, r4), none]) rfl rfl rfl ?_
            refine w_goto rfl ?_
            refine w_iinc (lv' := [some (2, 428), some (0, l1), some (0, l2), some (0, w_32 (l3 + 1)), some (0, l4), some (0, l5), some (0, l6), some (1, w_64 ((w_64 ((w_64 (10 * l7)) + r4)) - 48)), none, some (1, l9), none, some (0, w_or l11 1), some (0, w_32 (l12 + 1)), some (0, r4), none]) rfl rfl rfl rfl ?_
            refine w_goto rfl ?_
            exact w_W.less h (w_sub [true, true, true, true, true, true, true, true, false, true, false, true, true, false, false] rfl)
        · refine w_iconst rfl (by decide) ?_
          refine w_ior rfl ?_
          refine w_istore (lv' := [some (2, 428), some (0, l1), some (0, l2), some (0, w_32 (l3 + 1)), some (0, l4), some (0, l5), some (0, l6), some (1, w_64 ((w_64 ((w_64 (10 * l7)) + r4)) - 48)), none, some (1, l9), none, some (0, w_or l11 0), some (0, l12), some (0, r4), none]) rfl rfl rfl ?_
          refine w_lload rfl rfl ?_
          refine w_ldc2 (a := 4294967296) rfl (by decide +kernel) (by decide) ?_
          refine w_lcle rfl rfl (w_ite h (fun h => ?_) (fun h => ?_))
          · refine w_ldc2 (a := 4294967297) rfl (by decide +kernel) (by decide) ?_
            refine w_goto rfl ?_
            refine w_lstore (lv' := [some (2, 428), some (0, l1), some (0, l2), some (0, w_32 (l3 + 1)), some (0, l4), some (0, l5), some (0, l6), some (1, 4294967297), none, some (1, l9), none, some (0, w_or l11 0), some (0, l12), some (0, r4), none]) rfl rfl rfl ?_
            refine w_goto rfl ?_
            refine w_iinc (lv' := [some (2, 428), some (0, l1), some (0, l2), some (0, w_32 (l3 + 1)), some (0, l4), some (0, l5), some (0, l6), some (1, 4294967297), none, some (1, l9), none, some (0, w_or l11 0), some (0, w_32 (l12 + 1)), some (0, r4), none]) rfl rfl rfl rfl ?_
            refine w_goto rfl ?_
            exact w_W.less h (w_sub [true, true, true, true, true, true, true, true, false, true, false, true, true, false, false] rfl)
          · refine w_lload rfl rfl ?_
            refine w_lstore (lv' := [some (2, 428), some (0, l1), some (0, l2), some (0, w_32 (l3 + 1)), some (0, l4), some (0, l5), some (0, l6), some (1, w_64 ((w_64 ((w_64 (10 * l7)) + r4)) - 48)), none, some (1, l9), none, some (0, w_or l11 0), some (0, l12), some (0, r4), none]) rfl rfl rfl ?_
            refine w_goto rfl ?_
            refine w_iinc (lv' := [some (2, 428), some (0, l1), some (0, l2), some (0, w_32 (l3 + 1)), some (0, l4), some (0, l5), some (0, l6), some (1, w_64 ((w_64 ((w_64 (10 * l7)) + r4)) - 48)), none, some (1, l9), none, some (0, w_or l11 0), some (0, w_32 (l12 + 1)), some (0, r4), none]) rfl rfl rfl rfl ?_
            refine w_goto rfl ?_
            exact w_W.less h (w_sub [true, true, true, true, true, true, true, true, false, true, false, true, true, false, false] rfl)
theorem xr_m_row1_292 {d : Nat} {l11 s0 : Int} {m : w_M} {Q : Int → w_M → Prop} (h : if l11 = 0 then (if s0 < (-2147483648) then (Q 0 (w_up (w_up m 428 22 11) 428 24 (w_32 s0))) else (if 2147483647 < s0 then (Q 0 (w_up (w_up m 428 22 11) 428 24 (w_32 s0))) else (Q 0 (w_up (w_up m 428 22 1) 428 24 (w_32 s0))))) else (Q 0 (w_up (w_up m 428 22 11) 428 24 (w_32 s0)))) : xp_m_row1_292 d l11 s0 m Q := by
  refine w_lstore (lv' := [some (2, 428), none, none, none, none, none, none, none, none, none, none, some (0, l11), none, some (1, s0), none]) rfl rfl rfl ?_
  refine w_aload_n rfl rfl ?_
  refine w_iload rfl rfl ?_
  refine w_ifne rfl (w_ite h (fun h => ?_) (fun h => ?_))
  · refine w_lload rfl rfl ?_
    refine w_ldc2 (a := (-2147483648)) rfl (by decide +kernel) (by decide) ?_
    refine w_lclt rfl rfl (w_ite h (fun h => ?_) (fun h => ?_))
    · refine w_bipush rfl (by decide) ?_
      refine w_goto rfl ?_
      refine w_pfI rfl s_428 rfl (w_EM (by decide)) rfl (kk := 22) rfl ?_
      refine w_aload_n rfl rfl ?_
      refine w_lload rfl rfl ?_
      refine w_l2i rfl ?_
      refine w_pfI rfl s_428 rfl (w_EM (by decide)) rfl (kk := 24) rfl ?_
      refine w_goto rfl ?_
      exact w_vret rfl rfl h
    · refine w_lload rfl rfl ?_
      refine w_ldc2 (a := 2147483647) rfl (by decide +kernel) (by decide) ?_
      refine w_lcle rfl rfl (w_ite h (fun h => ?_) (fun h => ?_))
      · refine w_bipush rfl (by decide) ?_
        refine w_goto rfl ?_
        refine w_pfI rfl s_428 rfl (w_EM (by decide)) rfl (kk := 22) rfl ?_
        refine w_aload_n rfl rfl ?_
        refine w_lload rfl rfl ?_
        refine w_l2i rfl ?_
        refine w_pfI rfl s_428 rfl (w_EM (by decide)) rfl (kk := 24) rfl ?_
        refine w_goto rfl ?_
        exact w_vret rfl rfl h
      · refine w_iconst rfl (by decide) ?_
        refine w_pfI rfl s_428 rfl (w_EM (by decide)) rfl (kk := 22) rfl ?_
        refine w_aload_n rfl rfl ?_
        refine w_lload rfl rfl ?_
        refine w_l2i rfl ?_
        refine w_pfI rfl s_428 rfl (w_EM (by decide)) rfl (kk := 24) rfl ?_
        refine w_goto rfl ?_
        exact w_vret rfl rfl h
  · refine w_bipush rfl (by decide) ?_
    refine w_goto rfl ?_
    refine w_pfI rfl s_428 rfl (w_EM (by decide)) rfl (kk := 22) rfl ?_
    refine w_aload_n rfl rfl ?_
    refine w_lload rfl rfl ?_
    refine w_l2i rfl ?_
    refine w_pfI rfl s_428 rfl (w_EM (by decide)) rfl (kk := 24) rfl ?_
    refine w_goto rfl ?_
    exact w_vret rfl rfl h
theorem xr_m_row2 {d : Nat} {l1 : Int} {m : w_M} {Q : Int → w_M → Prop} (h : ((0 : Int) ≤ l1 ∧ l1 < 40000) ∧ (xp_m_row2_9 d l1 0 (m 436 l1) m Q)) : xc_m_row2 (d + 1) l1 m Q := by
  refine w_enter (q := 2) (lv := [some (2, 428), some (0, l1), none, none]) rfl rfl rfl ?_
  refine w_iconst rfl (by decide) ?_
  refine w_istore_n (lv' := [some (2, 428), some (0, l1), some (0, 0), none]) rfl rfl rfl ?_
  refine w_aload_n rfl rfl ?_
  refine w_gfC (c := 436) rfl s_428 rfl rfl ?_
  refine w_iload_n rfl rfl ?_
  refine w_iald rfl s_436 (n := 40000) rfl h.1 ?_
  replace h := h.2
  refine w_istore_n (lv' := [some (2, 428), some (0, l1), some (0, 0), some (0, m 436 l1)]) rfl rfl rfl ?_
  exact w_W.less h (w_sub [true, true, true, true] rfl)
theorem xr_m_row2_9 {d : Nat} {l1 l2 l3 : Int} {m : w_M} {Q : Int → w_M → Prop} (h : if l3 < 0 then (if l2 = 0 then (((0 : Int) ≤ l1 ∧ l1 < 40000) ∧ (xp_m_row2_71 d (m 436 l1) m Q)) else (if (m 479 0) < 0 then (xc_m_fail d 13 (m 428 106) m (fun r1 m1 => ((0 : Int) ≤ l1 ∧ l1 < 40000) ∧ (xp_m_row2_71 d (m1 436 l1) m1 Q))) else (((0 : Int) ≤ l1 ∧ l1 < 40000) ∧ (xp_m_row2_71 d (m 436 l1) m Q)))) else (((0 : Int) ≤ l3 ∧ l3 < 40000) ∧ (if (m 432 l3) = 5 then (((0 : Int) ≤ l3 ∧ l3 < 40000) ∧ (xp_m_row2_9 d l1 (w_or l2 1) (m 437 l3) m Q)) else (((0 : Int) ≤ l3 ∧ l3 < 40000) ∧ (xp_m_row2_9 d l1 (w_or l2 0) (m 437 l3) m Q))))) : xp_m_row2_9 d l1 l2 l3 m Q := by
  refine w_iload_n rfl rfl ?_
  refine w_iflt rfl (w_ite h (fun h => ?_) (fun h => ?_))
  · refine w_iload_n rfl rfl ?_
    refine w_ifeq rfl (w_ite h (fun h => ?_) (fun h => ?_))
    · refine w_aload_n rfl rfl ?_
      refine w_gfC (c := 436) rfl s_428 rfl rfl ?_
      refine w_iload_n rfl rfl ?_
      refine w_iald rfl s_436 (n := 40000) rfl h.1 ?_
      replace h := h.2
      refine w_istore_n (lv' := [some (2, 428), some (0, l1), some (0, l2), some (0, m 436 l1)]) rfl rfl rfl ?_
      exact w_W.less h (w_sub [true, false, false, true] rfl)
    · refine w_aload_n rfl rfl ?_
      refine w_gfC (c := 479) rfl s_428 rfl rfl ?_
      refine w_iconst rfl (by decide) ?_
      refine w_iald rfl s_479 (n := 9) rfl (by decide) ?_
      refine w_ifge rfl (w_ite h (fun h => ?_) (fun h => ?_))
      · refine w_aload_n rfl rfl ?_
        refine w_bipush rfl (by decide) ?_
        refine w_aload_n rfl rfl ?_
        refine x_gfI rfl s_428 rfl (kk := 106) rfl rfl ?_
        refine w_callV (t' := 3) [(0, m 428 106), (0, 13)] [] rfl s_428 rfl rfl ?_
        refine w_C.more (Q := fun r1 m1 => _) h (fun r1 m1 h => ?_)
        replace h := id h
        refine w_aload_n rfl rfl ?_
        refine w_gfC (c := 436) rfl s_428 rfl rfl ?_
        refine w_iload_n rfl rfl ?_
        refine w_iald rfl s_436 (n := 40000) rfl h.1 ?_
        replace h := h.2
        refine w_istore_n (lv' := [some (2, 428), some (0, l1), some (0, l2), some (0, m1 436 l1)]) rfl rfl rfl ?_
        exact w_W.less h (w_sub [true, false, false, true] rfl)
      · refine w_aload_n rfl rfl ?_
        refine w_gfC (c := 436) rfl s_428 rfl rfl ?_
        refine w_iload_n rfl rfl ?_
        refine w_iald rfl s_436 (n := 40000) rfl h.1 ?_
        replace h := h.2
        refine w_istore_n (lv' := [some (2, 428), some (0, l1), some (0, l2), some (0, m 436 l1)]) rfl rfl rfl ?_
        exact w_W.less h (w_sub [true, false, false, true] rfl)
  · refine w_iload_n rfl rfl ?_
    refine w_aload_n rfl rfl ?_
    refine w_gfC (c := 432) rfl s_428 rfl rfl ?_
    refine w_iload_n rfl rfl ?_
    refine w_bald rfl s_432 (n := 40000) rfl h.1 ?_
    replace h := h.2
    refine w_iconst rfl (by decide) ?_
    refine w_icne rfl (w_ite h (fun h => ?_) (fun h => ?_))
    · refine w_iconst rfl (by decide) ?_
      refine w_goto rfl ?_
      refine w_ior rfl ?_
      refine w_istore_n (lv' := [some (2, 428), some (0, l1), some (0, w_or l2 1), some (0, l3)]) rfl rfl rfl ?_
      refine w_aload_n rfl rfl ?_
      refine w_gfC (c := 437) rfl s_428 rfl rfl ?_
      refine w_iload_n rfl rfl ?_
      refine w_iald rfl s_437 (n := 40000) rfl h.1 ?_
      replace h := h.2
      refine w_istore_n (lv' := [some (2, 428), some (0, l1), some (0, w_or l2 1), some (0, m 437 l3)]) rfl rfl rfl ?_
      refine w_goto rfl ?_
      exact w_W.less h (w_sub [true, true, true, true] rfl)
    · refine w_iconst rfl (by decide) ?_
      refine w_ior rfl ?_
      refine w_istore_n (lv' := [some (2, 428), some (0, l1), some (0, w_or l2 0), some (0, l3)]) rfl rfl rfl ?_
      refine w_aload_n rfl rfl ?_
      refine w_gfC (c := 437) rfl s_428 rfl rfl ?_
      refine w_iload_n rfl rfl ?_
      refine w_iald rfl s_437 (n := 40000) rfl h.1 ?_
      replace h := h.2
      refine w_istore_n (lv' := [some (2, 428), some (0, l1), some (0, w_or l2 0), some (0, m 437 l3)]) rfl rfl rfl ?_
      refine w_goto rfl ?_
      exact w_W.less h (w_sub [true, true, true, true] rfl)
theorem xr_m_row2_71 {d : Nat} {l3 : Int} {m : w_M} {Q : Int → w_M → Prop} (h : if l3 < 0 then (Q 0 m) else (xc_m_good d m (fun r1 m1 => if r1 = 0 then (Q 0 m1) else (((0 : Int) ≤ l3 ∧ l3 < 40000) ∧ (if (m1 432 l3) = 5 then (xc_m_shows d l3 m1 (fun r2 m2 => ((0 : Int) ≤ l3 ∧ l3 < 40000) ∧ (xp_m_row2_71 d (m2 437 l3) m2 Q))) else (xc_m_unitsOf d l3 m1 (fun r3 m3 => xc_m_thousandth d (w_64 ((w_64 (-r3)) * (m3 479 5))) m3 (fun r4 m4 => xc_m_moves d r4 m4 (fun r5 m5 => ((0 : Int) ≤ l3 ∧ l3 < 40000) ∧ (xp_m_row2_71 d (m5 437 l3) m5 Q)))))))))) : xp_m_row2_71 d l3 m Q := by
  refine w_iload_n rfl rfl ?_
  refine w_iflt rfl (w_ite h (fun h => ?_) (fun h => ?_))
  · exact w_vret rfl rfl h
  · refine w_aload_n rfl rfl ?_
    refine w_callV (t' := 0) [] [] rfl s_428 rfl rfl ?_
    refine w_C.more (Q := fun r1 m1 => _) h (fun r1 m1 h => ?_)
    replace h := id h
    refine w_ifeq rfl (w_ite h (fun h => ?_) (fun h => ?_))
    · exact w_vret rfl rfl h
    · refine w_aload_n rfl rfl ?_
      refine w_gfC (c := 432) rfl s_428 rfl rfl ?_
      refine w_iload_n rfl rfl ?_
      refine w_bald rfl s_432 (n := 40000) rfl h.1 ?_
      replace h := h.2
      refine w_iconst rfl (by decide) ?_
      refine w_icne rfl (w_ite h (fun h => ?_) (fun h => ?_))
      · refine w_aload_n rfl rfl ?_
        refine w_iload_n rfl rfl ?_
        refine w_callV (t' := 3) [(0, l3)] [] rfl s_428 rfl rfl ?_
        refine w_C.more (Q := fun r2 m2 => _) h (fun r2 m2 h => ?_)
        replace h := id h
        refine w_goto rfl ?_
        refine w_aload_n rfl rfl ?_
        refine w_gfC (c := 437) rfl s_428 rfl rfl ?_
        refine w_iload_n rfl rfl ?_
        refine w_iald rfl s_437 (n := 40000) rfl h.1 ?_
        replace h := h.2
        refine w_istore_n (lv' := [some (2, 428), none, none, some (0, m2 437 l3)]) rfl rfl rfl ?_
        refine w_goto rfl ?_
        exact w_W.less h (w_sub [true, false, false, true] rfl)
      · refine w_aload_n rfl rfl ?_
        refine w_aload_n rfl rfl ?_
        refine w_iload_n rfl rfl ?_
        refine w_callV (t' := 0) [(0, l3)] [(2, 428)] rfl s_428 rfl rfl ?_
        refine w_C.more (Q := fun r3 m3 => _) h (fun r3 m3 h => ?_)
        replace h := id h
        refine w_i2l rfl ?_
        refine w_lneg rfl ?_
        refine w_aload_n rfl rfl ?_
        refine w_gfC (c := 479) rfl s_428 rfl rfl ?_
        refine w_iconst rfl (by decide) ?_
        refine w_iald rfl s_479 (n := 9) rfl (by decide) ?_
        refine w_i2l rfl ?_
        refine w_lmul' rfl ?_
        refine w_callS (t' := 1) [(1, w_64 ((w_64 (-r3)) * (m3 479 5)))] [(2, 428)] rfl (by decide) rfl rfl ?_
        refine w_C.more (Q := fun r4 m4 => _) h (fun r4 m4 h => ?_)
        replace h := id h
        refine w_callV (t' := 3) [(1, r4)] [] rfl s_428 rfl rfl ?_
        refine w_C.more (Q := fun r5 m5 => _) h (fun r5 m5 h => ?_)
        replace h := id h
        refine w_aload_n rfl rfl ?_
        refine w_gfC (c := 437) rfl s_428 rfl rfl ?_
        refine w_iload_n rfl rfl ?_
        refine w_iald rfl s_437 (n := 40000) rfl h.1 ?_
        replace h := h.2
        refine w_istore_n (lv' := [some (2, 428), none, none, some (0, m5 437 l3)]) rfl rfl rfl ?_
        refine w_goto rfl ?_
        exact w_W.less h (w_sub [true, false, false, true] rfl)
theorem xr_m_rowEntry {d : Nat} {l1 l2 l4 : Int} {m : w_M} {Q : Int → w_M → Prop} (h : ((0 : Int) ≤ (m 428 120) ∧ (m 428 120) < 1400) ∧ (xp_m_rowEntry_14 d l2 l4 0 (w_up m 489 (m 428 120) (w_8 (w_8 l1))) Q)) : xc_m_rowEntry (d + 1) l1 l2 l4 m Q := by
  refine w_enter (q := 1) (lv := [some (2, 428), some (0, l1), some (1, l2), none, some (1, l4), none, none]) rfl rfl rfl ?_
  refine w_aload_n rfl rfl ?_
  refine w_gfC (c := 489) rfl s_428 rfl rfl ?_
  refine w_aload_n rfl rfl ?_
  refine x_gfI rfl s_428 rfl (kk := 120) rfl rfl ?_
  refine w_iload_n rfl rfl ?_
  refine w_i2b rfl ?_
  refine w_bast rfl s_489 (w_EM (by decide)) (n := 1400) rfl h.1 ?_
  replace h := h.2
  refine w_iconst rfl (by decide) ?_
  refine w_istore (lv' := [some (2, 428), some (0, l1), some (1, l2), none, some (1, l4), none, some (0, 0)]) rfl rfl rfl ?_
  exact w_W.less h (w_sub [true, false, true, false, true, false, true] rfl)
theorem xr_m_rowEntry_14 {d : Nat} {l2 l4 l6 : Int} {m : w_M} {Q : Int → w_M → Prop} (h : if l6 < 4 then (((0 : Int) ≤ (w_32 ((w_32 ((m 428 120) + 1)) + l6)) ∧ (w_32 ((w_32 ((m 428 120) + 1)) + l6)) < 1400) ∧ (xp_m_rowEntry_14 d l2 l4 (w_32 (l6 + 1)) (w_up m 489 (w_32 ((w_32 ((m 428 120) + 1)) + l6)) (w_8 (w_8 (w_32 (w_lshr l2 (w_32 (24 - (w_32 (8 * l6))))))))) Q)) else (((0 : Int) ≤ (w_32 ((m 428 120) + 5)) ∧ (w_32 ((m 428 120) + 5)) < 1400) ∧ (((0 : Int) ≤ (w_32 ((m 428 120) + 6)) ∧ (w_32 ((m 428 120) + 6)) < 1400) ∧ (Q 0 (w_up (w_up (w_up m 489 (w_32 ((m 428 120) + 5)) (w_8 (w_8 (w_32 (l4 / 256))))) 489 (w_32 ((m 428 120) + 6)) (w_8 (w_8 (w_32 l4)))) 428 120 (w_32 ((m 428 120) + 7))))))) : xp_m_rowEntry_14 d l2 l4 l6 m Q := by
  refine w_iload rfl rfl ?_
  refine w_iconst rfl (by decide) ?_
  refine w_icge rfl (w_ite h (fun h => ?_) (fun h => ?_))
  · refine w_aload_n rfl rfl ?_
    refine w_gfC (c := 489) rfl s_428 rfl rfl ?_
    refine w_aload_n rfl rfl ?_
    refine x_gfI rfl s_428 rfl (kk := 120) rfl rfl ?_
    refine w_iconst rfl (by decide) ?_
    refine w_iadd rfl ?_
    refine w_iload rfl rfl ?_
    refine w_iadd rfl ?_
    refine w_lload_n rfl rfl ?_
    refine w_bipush rfl (by decide) ?_
    refine w_bipush rfl (by decide) ?_
    refine w_iload rfl rfl ?_
    refine w_imul rfl ?_
    refine w_isub rfl ?_
    refine w_lshr' rfl ?_
    refine w_l2i rfl ?_
    refine w_i2b rfl ?_
    refine w_bast rfl s_489 (w_EM (by decide)) (n := 1400) rfl h.1 ?_
    replace h := h.2
    refine w_iinc (lv' := [some (2, 428), none, some (1, l2), none, some (1, l4), none, some (0, w_32 (l6 + 1))]) rfl rfl rfl rfl ?_
    refine w_goto rfl ?_
    exact w_W.less h (w_sub [true, false, true, false, true, false, true] rfl)
  · refine w_aload_n rfl rfl ?_
    refine w_gfC (c := 489) rfl s_428 rfl rfl ?_
    refine w_aload_n rfl rfl ?_
    refine x_gfI rfl s_428 rfl (kk := 120) rfl rfl ?_
    refine w_iconst rfl (by decide) ?_
    refine w_iadd rfl ?_
    refine w_lload rfl rfl ?_
    refine w_bipush rfl (by decide) ?_
    refine w_lshrk (c := 256) rfl (by decide) (by decide) rfl ?_
    refine w_l2i rfl ?_
    refine w_i2b rfl ?_
    refine w_bast rfl s_489 (w_EM (by decide)) (n := 1400) rfl h.1 ?_
    replace h := h.2
    refine w_aload_n rfl rfl ?_
    refine w_gfC (c := 489) rfl s_428 rfl rfl ?_
    refine w_aload_n rfl rfl ?_
    refine x_gfI rfl s_428 rfl (kk := 120) rfl (w_up_ne (by decide)) ?_
    refine w_bipush rfl (by decide) ?_
    refine w_iadd rfl ?_
    refine w_lload rfl rfl ?_
    refine w_l2i rfl ?_
    refine w_i2b rfl ?_
    refine w_bast rfl s_489 (w_EM (by decide)) (n := 1400) rfl h.1 ?_
    replace h := h.2
    refine w_aload_n rfl rfl ?_
    refine w_dup rfl (show (2 : Nat) ≠ 1 by decide) ?_
    refine x_gfI rfl s_428 rfl (kk := 120) rfl ((w_up_ne (by decide)).trans (w_up_ne (by decide))) ?_
    refine w_bipush rfl (by decide) ?_
    refine w_iadd rfl ?_
    refine w_pfI rfl s_428 rfl (w_EM (by decide)) rfl (kk := 120) rfl ?_
    exact w_vret rfl rfl h
theorem xr_m_rowSection {d : Nat} {l1 : Int} {m : w_M} {Q : Int → w_M → Prop} (h : xc_m_nextNumber d m (fun r1 m1 => xc_m_sayNumber d r1 m1 (fun r2 m2 => xc_m_sayText d 286 m2 (fun r3 m3 => xc_m_sayNumber d (w_32 (r1 + 1)) m3 (fun r4 m4 => xc_m_sayText d 288 m4 (fun r5 m5 => xp_m_rowSection_43 d l1 r1 0 0 (w_up m5 428 120 0) Q)))))) : xc_m_rowSection (d + 1) l1 m Q := by
  refine w_enter (q := 5) (lv := [some (2, 428), some (0, l1), none, none, none, none, none]) rfl rfl rfl ?_
  refine w_aload_n rfl rfl ?_
  refine w_callV (t' := 0) [] [] rfl s_428 rfl rfl ?_
  refine w_C.more (Q := fun r1 m1 => _) h (fun r1 m1 h => ?_)
  replace h := id h
  refine w_istore_n (lv' := [some (2, 428), some (0, l1), some (0, r1), none, none, none, none]) rfl rfl rfl ?_
  refine w_aload_n rfl rfl ?_
  refine w_iload_n rfl rfl ?_
  refine w_i2l rfl ?_
  refine w_callV (t' := 3) [(1, r1)] [] rfl s_428 rfl rfl ?_
  refine w_C.more (Q := fun r2 m2 => _) h (fun r2 m2 h => ?_)
  replace h := id h
  refine w_aload_n rfl rfl ?_
  refine w_ldcwR rfl ?_
  refine w_callV (t' := 3) [(2, 286)] [] rfl s_428 rfl rfl ?_
  refine w_C.more (Q := fun r3 m3 => _) h (fun r3 m3 h => ?_)
  replace h := id h
  refine w_aload_n rfl rfl ?_
  refine w_iload_n rfl rfl ?_
  refine w_iconst rfl (by decide) ?_
  refine w_iadd rfl ?_
  refine w_i2l rfl ?_
  refine w_callV (t' := 3) [(1, w_32 (r1 + 1))] [] rfl s_428 rfl rfl ?_
  refine w_C.more (Q := fun r4 m4 => _) h (fun r4 m4 h => ?_)
  replace h := id h
  refine w_aload_n rfl rfl ?_
  refine w_ldcwR rfl ?_
  refine w_callV (t' := 3) [(2, 288)] [] rfl s_428 rfl rfl ?_
  refine w_C.more (Q := fun r5 m5 => _) h (fun r5 m5 h => ?_)
  replace h := id h
  refine w_aload_n rfl rfl ?_
  refine w_iconst rfl (by decide) ?_
  refine w_pfI rfl s_428 rfl (w_EM (by decide)) rfl (kk := 120) rfl ?_
  refine w_iconst rfl (by decide) ?_
  refine w_istore_n (lv' := [some (2, 428), some (0, l1), some (0, r1), some (0, 0), none, none, none]) rfl rfl rfl ?_
  refine w_iconst rfl (by decide) ?_
  refine w_istore (lv' := [some (2, 428), some (0, l1), some (0, r1), some (0, 0), some (0, 0), none, none]) rfl rfl rfl ?_
  exact w_W.less h (w_sub [true, true, true, true, true, false, false] rfl)
theorem xr_m_rowSection_43 {d : Nat} {l1 l2 l3 l4 : Int} {m : w_M} {Q : Int → w_M → Prop} (h : if l3 < l2 then (xc_m_runFrom d l3 l2 m (fun r1 m1 => if r1 = 0 then (xp_m_rowSection_43 d l1 l2 (w_32 (l3 + 1)) l4 m1 Q) else (if (w_32 (l3 + r1)) = l2 then (xp_m_rowSection_80 d l1 l2 l3 r1 1 m1 Q) else (xp_m_rowSection_80 d l1 l2 l3 r1 0 m1 Q)))) else (if l4 = 0 then (xc_m_sayNumber d l2 m (fun r2 m2 => xc_m_sayText d 290 m2 (fun r3 m3 => xp_m_rowSection_214 d l1 m3 Q))) else (xp_m_rowSection_214 d l1 m Q))) : xp_m_rowSection_43 d l1 l2 l3 l4 m Q := by
  refine w_iload_n rfl rfl ?_
  refine w_iload_n rfl rfl ?_
  refine w_icge rfl (w_ite h (fun h => ?_) (fun h => ?_))
  · refine w_aload_n rfl rfl ?_
    refine w_iload_n rfl rfl ?_
    refine w_iload_n rfl rfl ?_
    refine w_callV (t' := 0) [(0, l2), (0, l3)] [] rfl s_428 rfl rfl ?_
    refine w_C.more (Q := fun r1 m1 => _) h (fun r1 m1 h => ?_)
    replace h := id h
    refine w_istore (lv' := [some (2, 428), some (0, l1), some (0, l2), some (0, l3), some (0, l4), some (0, r1), none]) rfl rfl rfl ?_
    refine w_iload rfl rfl ?_
    refine w_ifne rfl (w_ite h (fun h => ?_) (fun h => ?_))
    · refine w_iinc (lv' := [some (2, 428), some (0, l1), some (0, l2), some (0, w_32 (l3 + 1)), some (0, l4), some (0, r1), none]) rfl rfl rfl rfl ?_
      refine w_goto rfl ?_
      exact w_W.less h (w_sub [true, true, true, true, true, false, false] rfl)
    · refine w_iload_n rfl rfl ?_
      refine w_iload rfl rfl ?_
      refine w_iadd rfl ?_
      refine w_iload_n rfl rfl ?_
      refine w_icne rfl (w_ite h (fun h => ?_) (fun h => ?_))
      · refine w_iconst rfl (by decide) ?_
        refine w_goto rfl ?_
        exact w_W.less h (w_sub [true, true, true, true, false, true, false] rfl)
      · refine w_iconst rfl (by decide) ?_
        exact w_W.less h (w_sub [true, true, true, true, false, true, false] rfl)
  · refine w_iload rfl rfl ?_
    refine w_ifne rfl (w_ite h (fun h => ?_) (fun h => ?_))
    · refine w_aload_n rfl rfl ?_
      refine w_iload_n rfl rfl ?_
      refine w_i2l rfl ?_
      refine w_callV (t' := 3) [(1, l2)] [] rfl s_428 rfl rfl ?_
      refine w_C.more (Q := fun r2 m2 => _) h (fun r2 m2 h => ?_)
      replace h := id h
      refine w_aload_n rfl rfl ?_
      refine w_ldcwR rfl ?_
      refine w_callV (t' := 3) [(2, 290)] [] rfl s_428 rfl rfl ?_
      refine w_C.more (Q := fun r3 m3 => _) h (fun r3 m3 h => ?_)
      replace h := id h
      exact w_W.less h (w_sub [true, true, false, false, false, false, false] rfl)
    · exact w_W.less h (w_sub [true, true, false, false, false, false, false] rfl)
theorem xr_m_rowSection_80 {d : Nat} {l1 l2 l3 l5 s0 : Int} {m : w_M} {Q : Int → w_M → Prop} (h : xc_m_sayNumber d l3 m (fun r1 m1 => xc_m_say d 32 m1 (fun r2 m2 => if s0 = 0 then (xc_m_sayNumber d l5 m2 (fun r3 m3 => xc_m_say d 32 m3 (fun r4 m4 => xp_m_rowSection_123 d l1 l2 l3 s0 l5 l3 m4 Q))) else (xc_m_sayNumber d (w_32 (l5 + 1)) m2 (fun r5 m5 => xc_m_say d 32 m5 (fun r6 m6 => xp_m_rowSection_123 d l1 l2 l3 s0 l5 l3 m6 Q)))))) : xp_m_rowSection_80 d l1 l2 l3 l5 s0 m Q := by
  refine w_istore (lv' := [some (2, 428), some (0, l1), some (0, l2), some (0, l3), some (0, s0), some (0, l5), none]) rfl rfl rfl ?_
  refine w_aload_n rfl rfl ?_
  refine w_iload_n rfl rfl ?_
  refine w_i2l rfl ?_
  refine w_callV (t' := 3) [(1, l3)] [] rfl s_428 rfl rfl ?_
  refine w_C.more (Q := fun r1 m1 => _) h (fun r1 m1 h => ?_)
  replace h := id h
  refine w_aload_n rfl rfl ?_
  refine w_bipush rfl (by decide) ?_
  refine w_callV (t' := 3) [(0, 32)] [] rfl s_428 rfl rfl ?_
  refine w_C.more (Q := fun r2 m2 => _) h (fun r2 m2 h => ?_)
  replace h := id h
  refine w_aload_n rfl rfl ?_
  refine w_iload rfl rfl ?_
  refine w_ifeq rfl (w_ite h (fun h => ?_) (fun h => ?_))
  · refine w_iload rfl rfl ?_
    refine w_i2l rfl ?_
    refine w_callV (t' := 3) [(1, l5)] [] rfl s_428 rfl rfl ?_
    refine w_C.more (Q := fun r3 m3 => _) h (fun r3 m3 h => ?_)
    replace h := id h
    refine w_aload_n rfl rfl ?_
    refine w_bipush rfl (by decide) ?_
    refine w_callV (t' := 3) [(0, 32)] [] rfl s_428 rfl rfl ?_
    refine w_C.more (Q := fun r4 m4 => _) h (fun r4 m4 h => ?_)
    replace h := id h
    refine w_iload_n rfl rfl ?_
    refine w_istore (lv' := [some (2, 428), some (0, l1), some (0, l2), some (0, l3), some (0, s0), some (0, l5), some (0, l3)]) rfl rfl rfl ?_
    exact w_W.less h (w_sub [true, true, true, true, true, true, true] rfl)
  · refine w_iload rfl rfl ?_
    refine w_iconst rfl (by decide) ?_
    refine w_iadd rfl ?_
    refine w_i2l rfl ?_
    refine w_goto rfl ?_
    refine w_callV (t' := 3) [(1, w_32 (l5 + 1))] [] rfl s_428 rfl rfl ?_
    refine w_C.more (Q := fun r5 m5 => _) h (fun r5 m5 h => ?_)
    replace h := id h
    refine w_aload_n rfl rfl ?_
    refine w_bipush rfl (by decide) ?_
    refine w_callV (t' := 3) [(0, 32)] [] rfl s_428 rfl rfl ?_
    refine w_C.more (Q := fun r6 m6 => _) h (fun r6 m6 h => ?_)
    replace h := id h
    refine w_iload_n rfl rfl ?_
    refine w_istore (lv' := [some (2, 428), some (0, l1), some (0, l2), some (0, l3), some (0, s0), some (0, l5), some (0, l3)]) rfl rfl rfl ?_
    exact w_W.less h (w_sub [true, true, true, true, true, true, true] rfl)
theorem xr_m_rowSection_123 {d : Nat} {l1 l2 l3 l4 l5 l6 : Int} {m : w_M} {Q : Int → w_M → Prop} (h : if l6 < (w_32 (l3 + l5)) then (if l6 < (m 428 60) then (((0 : Int) ≤ l6 ∧ l6 < 200) ∧ (if (m 460 l6) = 0 then (xc_m_rowEntry d 0 0 65535 m (fun r1 m1 => xp_m_rowSection_123 d l1 l2 l3 l4 l5 (w_32 (l6 + 1)) m1 Q)) else (((0 : Int) ≤ l6 ∧ l6 < 201) ∧ (xc_m_generationOf d l6 m (fun r2 m2 => xc_m_rowEntry d 1 (m 485 l6) r2 m2 (fun r3 m3 => xp_m_rowSection_123 d l1 l2 l3 l4 l5 (w_32 (l6 + 1)) m3 Q)))))) else (xc_m_rowEntry d 0 0 65535 m (fun r4 m4 => xp_m_rowSection_123 d l1 l2 l3 l4 l5 (w_32 (l6 + 1)) m4 Q))) else (xp_m_rowSection_43 d l1 l2 (w_32 (l3 + l5)) l4 m Q)) : xp_m_rowSection_123 d l1 l2 l3 l4 l5 l6 m Q := by
  refine w_iload rfl rfl ?_
  refine w_iload_n rfl rfl ?_
  refine w_iload rfl rfl ?_
  refine w_iadd rfl ?_
  refine w_icge rfl (w_ite h (fun h => ?_) (fun h => ?_))
  · refine w_iload rfl rfl ?_
    refine w_aload_n rfl rfl ?_
    refine x_gfI rfl s_428 rfl (kk := 60) rfl rfl ?_
    refine w_icge rfl (w_ite h (fun h => ?_) (fun h => ?_))
    · refine w_aload_n rfl rfl ?_
      refine w_gfC (c := 460) rfl s_428 rfl rfl ?_
      refine w_iload rfl rfl ?_
      refine w_zald rfl s_460 (n := 200) rfl h.1 ?_
      replace h := h.2
      refine w_ifeq rfl (w_ite h (fun h => ?_) (fun h => ?_))
      · refine w_aload_n rfl rfl ?_
        refine w_iconst rfl (by decide) ?_
        refine w_lconst rfl rfl ?_
        refine w_ldc2 (a := 65535) rfl (by decide +kernel) (by decide) ?_
        refine w_callV (t' := 3) [(1, 65535), (1, 0), (0, 0)] [] rfl s_428 rfl rfl ?_
        refine w_C.more (Q := fun r1 m1 => _) h (fun r1 m1 h => ?_)
        replace h := id h
        refine w_iinc (lv' := [some (2, 428), some (0, l1), some (0, l2), some (0, l3), some (0, l4), some (0, l5), some (0, w_32 (l6 + 1))]) rfl rfl rfl rfl ?_
        refine w_goto rfl ?_
        exact w_W.less h (w_sub [true, true, true, true, true, true, true] rfl)
      · refine w_aload_n rfl rfl ?_
        refine w_iconst rfl (by decide) ?_
        refine w_aload_n rfl rfl ?_
        refine w_gfC (c := 485) rfl s_428 rfl rfl ?_
        refine w_iload rfl rfl ?_
        refine w_iald rfl s_485 (n := 201) rfl h.1 ?_
        replace h := h.2
        refine w_i2l rfl ?_
        refine w_aload_n rfl rfl ?_
        refine w_iload rfl rfl ?_
        refine w_callV (t' := 1) [(0, l6)] [(1, m 485 l6), (0, 1), (2, 428)] rfl s_428 rfl rfl ?_
        refine w_C.more (Q := fun r2 m2 => _) h (fun r2 m2 h => ?_)
        replace h := id h
        refine w_callV (t' := 3) [(1, r2), (1, m 485 l6), (0, 1)] [] rfl s_428 rfl rfl ?_
        refine w_C.more (Q := fun r3 m3 => _) h (fun r3 m3 h => ?_)
        replace h := id h
        refine w_goto rfl ?_
        refine w_iinc (lv' := [some (2, 428), some (0, l1), some (0, l2), some (0, l3), some (0, l4), some (0, l5), some (0, w_32 (l6 + 1))]) rfl rfl rfl rfl ?_
        refine w_goto rfl ?_
        exact w_W.less h (w_sub [true, true, true, true, true, true, true] rfl)
    · refine w_aload_n rfl rfl ?_
      refine w_iconst rfl (by decide) ?_
      refine w_lconst rfl rfl ?_
      refine w_ldc2 (a := 65535) rfl (by decide +kernel) (by decide) ?_
      refine w_callV (t' := 3) [(1, 65535), (1, 0), (0, 0)] [] rfl s_428 rfl rfl ?_
      refine w_C.more (Q := fun r4 m4 => _) h (fun r4 m4 h => ?_)
      replace h := id h
      refine w_iinc (lv' := [some (2, 428), some (0, l1), some (0, l2), some (0, l3), some (0, l4), some (0, l5), some (0, w_32 (l6 + 1))]) rfl rfl rfl rfl ?_
      refine w_goto rfl ?_
      exact w_W.less h (w_sub [true, true, true, true, true, true, true] rfl)
  · refine w_iload_n rfl rfl ?_
    refine w_iload rfl rfl ?_
    refine w_iadd rfl ?_
    refine w_istore_n (lv' := [some (2, 428), some (0, l1), some (0, l2), some (0, w_32 (l3 + l5)), some (0, l4), some (0, l5), some (0, l6)]) rfl rfl rfl ?_
    refine w_goto rfl ?_
    exact w_W.less h (w_sub [true, true, true, true, true, false, false] rfl)
theorem xr_m_rowSection_214 {d : Nat} {l1 : Int} {m : w_M} {Q : Int → w_M → Prop} (h : xc_m_rowEntry d 1 l1 0 m (fun r1 m1 => xc_m_sayText d 292 m1 (fun r2 m2 => xc_m_known d m2 (fun r3 m3 => xc_m_codeOf d 489 0 (m3 428 120) m3 (fun r4 m4 => xc_m_streamTail d m4 (fun r5 m5 => xc_m_sayText d 264 m5 (fun r6 m6 => Q 0 m6))))))) : xp_m_rowSection_214 d l1 m Q := by
  refine w_aload_n rfl rfl ?_
  refine w_iconst rfl (by decide) ?_
  refine w_iload_n rfl rfl ?_
  refine w_i2l rfl ?_
  refine w_lconst rfl rfl ?_
  refine w_callV (t' := 3) [(1, 0), (1, l1), (0, 1)] [] rfl s_428 rfl rfl ?_
  refine w_C.more (Q := fun r1 m1 => _) h (fun r1 m1 h => ?_)
  replace h := id h
  refine w_aload_n rfl rfl ?_
  refine w_ldcwR rfl ?_
  refine w_callV (t' := 3) [(2, 292)] [] rfl s_428 rfl rfl ?_
  refine w_C.more (Q := fun r2 m2 => _) h (fun r2 m2 h => ?_)
  replace h := id h
  refine w_aload_n rfl rfl ?_
  refine w_callV (t' := 3) [] [] rfl s_428 rfl rfl ?_
  refine w_C.more (Q := fun r3 m3 => _) h (fun r3 m3 h => ?_)
  replace h := id h
  refine w_aload_n rfl rfl ?_
  refine w_aload_n rfl rfl ?_
  refine w_gfC (c := 489) rfl s_428 rfl rfl ?_
  refine w_iconst rfl (by decide) ?_
  refine w_aload_n rfl rfl ?_
  refine x_gfI rfl s_428 rfl (kk := 120) rfl rfl ?_
  refine w_callV (t' := 3) [(0, m3 428 120), (0, 0), (2, 489)] [] rfl s_428 rfl rfl ?_
  refine w_C.more (Q := fun r4 m4 => _) h (fun r4 m4 h => ?_)
  replace h := id h
  refine w_aload_n rfl rfl ?_
  refine w_callV (t' := 3) [] [] rfl s_428 rfl rfl ?_
  refine w_C.more (Q := fun r5 m5 => _) h (fun r5 m5 h => ?_)
  replace h := id h
  refine w_aload_n rfl rfl ?_
  refine w_ldcwR rfl ?_
  refine w_callV (t' := 3) [(2, 264)] [] rfl s_428 rfl rfl ?_
  refine w_C.more (Q := fun r6 m6 => _) h (fun r6 m6 h => ?_)
  replace h := id h
  exact w_vret rfl rfl h
theorem xr_m_rowStream {d : Nat} {l1 : Int} {m : w_M} {Q : Int → w_M → Prop} (h : xc_m_header d m (fun r1 m1 => if r1 = 0 then (xc_m_fail d 3 l1 m1 (fun r2 m2 => Q (-1) m2)) else (if (m1 428 77) < 1 then (xc_m_fail d 3 l1 m1 (fun r3 m3 => Q (-1) m3)) else (if (m1 428 77) < 200 then (if (m1 428 78) = 0 then (xc_m_token d m1 (fun r4 m4 => xc_m_object d 0 1 m4 (fun r5 m5 => xc_m_good d m5 (fun r6 m6 => if r6 = 0 then (Q (-1) m6) else (((0 : Int) ≤ r5 ∧ r5 < 40000) ∧ (if (m6 432 r5) = 7 then (xc_m_rawEntry d r5 218 m6 (fun r7 m7 => xc_m_isName d r7 294 m7 (fun r8 m8 => if r8 = 0 then (xc_m_fail d 3 l1 m8 (fun r9 m9 => Q (-1) m9)) else (xc_m_wholeAt d r5 200 (-1) m8 (fun r10 m10 => xc_m_streamStart d m10 (fun r11 m11 => if r11 < 0 then (xp_m_rowStream_155 d l1 r5 r10 r11 0 m11 Q) else (if r10 < 0 then (xp_m_rowStream_155 d l1 r5 r10 r11 0 m11 Q) else (xc_m_streamEnd d r11 r10 m11 (fun r12 m12 => if r12 = 0 then (xp_m_rowStream_155 d l1 r5 r10 r11 0 m12 Q) else (xc_m_token d m12 (fun r13 m13 => xp_m_rowStream_155 d l1 r5 r10 r11 1 m13 Q))))))))))) else (xc_m_fail d 3 l1 m6 (fun r14 m14 => Q (-1) m14)))))))) else (xc_m_fail d 3 l1 m1 (fun r15 m15 => Q (-1) m15))) else (xc_m_fail d 3 l1 m1 (fun r16 m16 => Q (-1) m16)))))) : xc_m_rowStream (d + 1) l1 m Q := by
  refine w_enter (q := 6) (lv := [some (2, 428), some (0, l1), none, none, none, none, none, none]) rfl rfl rfl ?_
  refine w_aload_n rfl rfl ?_
  refine w_callV (t' := 0) [] [] rfl s_428 rfl rfl ?_
  refine w_C.more (Q := fun r1 m1 => _) h (fun r1 m1 h => ?_)
  replace h := id h
  refine w_istore_n (lv' := [some (2, 428), some (0, l1), some (0, r1), none, none, none, none, none]) rfl rfl rfl ?_
  refine w_iload_n rfl rfl ?_
  refine w_ifeq rfl (w_ite h (fun h => ?_) (fun h => ?_))
  · refine w_aload_n rfl rfl ?_
    refine w_iconst rfl (by decide) ?_
    refine w_iload_n rfl rfl ?_
    refine w_callV (t' := 3) [(0, l1), (0, 3)] [] rfl s_428 rfl rfl ?_
    refine w_C.more (Q := fun r2 m2 => _) h (fun r2 m2 h => ?_)
    replace h := id h
    refine w_iconst rfl (by decide) ?_
    exact w_iret rfl rfl h
  · refine w_aload_n rfl rfl ?_
    refine x_gfI rfl s_428 rfl (kk := 77) rfl rfl ?_
    refine w_iconst rfl (by decide) ?_
    refine w_iclt rfl (w_ite h (fun h => ?_) (fun h => ?_))
    · refine w_aload_n rfl rfl ?_
      refine w_iconst rfl (by decide) ?_
      refine w_iload_n rfl rfl ?_
      refine w_callV (t' := 3) [(0, l1), (0, 3)] [] rfl s_428 rfl rfl ?_
      refine w_C.more (Q := fun r3 m3 => _) h (fun r3 m3 h => ?_)
      replace h := id h
      refine w_iconst rfl (by decide) ?_
      exact w_iret rfl rfl h
    · refine w_aload_n rfl rfl ?_
      refine x_gfI rfl s_428 rfl (kk := 77) rfl rfl ?_
      refine w_sipush rfl (by decide) ?_
      refine w_icge rfl (w_ite h (fun h => ?_) (fun h => ?_))
      · refine w_aload_n rfl rfl ?_
        refine x_gfL rfl s_428 rfl (kk := 78) rfl rfl ?_
        refine w_lconst rfl rfl ?_
        refine w_lceq rfl rfl (w_ite h (fun h => ?_) (fun h => ?_))
        · refine w_aload_n rfl rfl ?_
          refine w_callV (t' := 3) [] [] rfl s_428 rfl rfl ?_
          refine w_C.more (Q := fun r4 m4 => _) h (fun r4 m4 h => ?_)
          replace h := id h
          refine w_aload_n rfl rfl ?_
          refine w_iconst rfl (by decide) ?_
          refine w_iconst rfl (by decide) ?_
          refine w_callV (t' := 0) [(0, 1), (0, 0)] [] rfl s_428 rfl rfl ?_
          refine w_C.more (Q := fun r5 m5 => _) h (fun r5 m5 h => ?_)
          replace h := id h
          refine w_istore_n (lv' := [some (2, 428), some (0, l1), some (0, r1), some (0, r5), none, none, none, none]) rfl rfl rfl ?_
          refine w_aload_n rfl rfl ?_
          refine w_callV (t' := 0) [] [] rfl s_428 rfl rfl ?_
          refine w_C.more (Q := fun r6 m6 => _) h (fun r6 m6 h => ?_)
          replace h := id h
          refine w_ifne rfl (w_ite h (fun h => ?_) (fun h => ?_))
          · refine w_iconst rfl (by decide) ?_
            exact w_iret rfl rfl h
          · refine w_aload_n rfl rfl ?_
            refine w_gfC (c := 432) rfl s_428 rfl rfl ?_
            refine w_iload_n rfl rfl ?_
            refine w_bald rfl s_432 (n := 40000) rfl h.1 ?_
            replace h := h.2
            refine w_bipush rfl (by decide) ?_
            refine w_icne rfl (w_ite h (fun h => ?_) (fun h => ?_))
            · refine w_aload_n rfl rfl ?_
              refine w_aload_n rfl rfl ?_
              refine w_iload_n rfl rfl ?_
              refine w_ldcwR rfl ?_
              refine w_callV (t' := 0) [(2, 218), (0, r5)] [(2, 428)] rfl s_428 rfl rfl ?_
              refine w_C.more (Q := fun r7 m7 => _) h (fun r7 m7 h => ?_)
              replace h := id h
              refine w_ldcwR rfl ?_
              refine w_callV (t' := 0) [(2, 294), (0, r7)] [] rfl s_428 rfl rfl ?_
              refine w_C.more (Q := fun r8 m8 => _) h (fun r8 m8 h => ?_)
              replace h := id h
              refine w_ifne rfl (w_ite h (fun h => ?_) (fun h => ?_))
              · refine w_aload_n rfl rfl ?_
                refine w_iconst rfl (by decide) ?_
                refine w_iload_n rfl rfl ?_
                refine w_callV (t' := 3) [(0, l1), (0, 3)] [] rfl s_428 rfl rfl ?_
                refine w_C.more (Q := fun r9 m9 => _) h (fun r9 m9 h => ?_)
                replace h := id h
                refine w_iconst rfl (by decide) ?_
                exact w_iret rfl rfl h
              · refine w_aload_n rfl rfl ?_
                refine w_iload_n rfl rfl ?_
                refine w_ldcwR rfl ?_
                refine w_iconst rfl (by decide) ?_
                refine w_callV (t' := 0) [(0, (-1)), (2, 200), (0, r5)] [] rfl s_428 rfl rfl ?_
                refine w_C.more (Q := fun r10 m10 => _) h (fun r10 m10 h => ?_)
                replace h := id h
                refine w_istore (lv' := [some (2, 428), some (0, l1), some (0, r1), some (0, r5), some (0, r10), none, none, none]) rfl rfl rfl ?_
                refine w_aload_n rfl rfl ?_
                refine w_callV (t' := 0) [] [] rfl s_428 rfl rfl ?_
                refine w_C.more (Q := fun r11 m11 => _) h (fun r11 m11 h => ?_)
                replace h := id h
                refine w_istore (lv' := [some (2, 428), some (0, l1), some (0, r1), some (0, r5), some (0, r10), some (0, r11), none, none]) rfl rfl rfl ?_
                refine w_iload rfl rfl ?_
                refine w_iflt rfl (w_ite h (fun h => ?_) (fun h => ?_))
                · refine w_iconst rfl (by decide) ?_
                  refine w_istore (lv' := [some (2, 428), some (0, l1), some (0, r1), some (0, r5), some (0, r10), some (0, r11), some (0, 0), none]) rfl rfl rfl ?_
                  refine w_iload rfl rfl ?_
                  refine w_ifeq rfl (w_ift (by decide) ?_)
                  exact w_W.less h (w_sub [true, true, false, true, true, true, true, false] rfl)
                · refine w_iload rfl rfl ?_
                  refine w_iflt rfl (w_ite h (fun h => ?_) (fun h => ?_))
                  · refine w_iconst rfl (by decide) ?_
                    refine w_istore (lv' := [some (2, 428), some (0, l1), some (0, r1), some (0, r5), some (0, r10), some (0, r11), some (0, 0), none]) rfl rfl rfl ?_
                    refine w_iload rfl rfl ?_
                    refine w_ifeq rfl (w_ift (by decide) ?_)
                    exact w_W.less h (w_sub [true, true, false, true, true, true, true, false] rfl)
                  · refine w_aload_n rfl rfl ?_
                    refine w_iload rfl rfl ?_
                    refine w_iload rfl rfl ?_
                    refine w_callV (t' := 0) [(0, r10), (0, r11)] [] rfl s_428 rfl rfl ?_
                    refine w_C.more (Q := fun r12 m12 => _) h (fun r12 m12 h => ?_)
                    replace h := id h
                    refine w_ifeq rfl (w_ite h (fun h => ?_) (fun h => ?_))
                    · refine w_iconst rfl (by decide) ?_
                      refine w_istore (lv' := [some (2, 428), some (0, l1), some (0, r1), some (0, r5), some (0, r10), some (0, r11), some (0, 0), none]) rfl rfl rfl ?_
                      refine w_iload rfl rfl ?_
                      refine w_ifeq rfl (w_ift (by decide) ?_)
                      exact w_W.less h (w_sub [true, true, false, true, true, true, true, false] rfl)
                    · refine w_iconst rfl (by decide) ?_
                      refine w_goto rfl ?_
                      refine w_istore (lv' := [some (2, 428), some (0, l1), some (0, r1), some (0, r5), some (0, r10), some (0, r11), some (0, 1), none]) rfl rfl rfl ?_
                      refine w_iload rfl rfl ?_
                      refine w_ifeq rfl (w_iff (by decide) ?_)
                      refine w_aload_n rfl rfl ?_
                      refine w_callV (t' := 3) [] [] rfl s_428 rfl rfl ?_
                      refine w_C.more (Q := fun r13 m13 => _) h (fun r13 m13 h => ?_)
                      replace h := id h
                      exact w_W.less h (w_sub [true, true, false, true, true, true, true, false] rfl)
            · refine w_aload_n rfl rfl ?_
              refine w_iconst rfl (by decide) ?_
              refine w_iload_n rfl rfl ?_
              refine w_callV (t' := 3) [(0, l1), (0, 3)] [] rfl s_428 rfl rfl ?_
              refine w_C.more (Q := fun r14 m14 => _) h (fun r14 m14 h => ?_)
              replace h := id h
              refine w_iconst rfl (by decide) ?_
              exact w_iret rfl rfl h
        · refine w_aload_n rfl rfl ?_
          refine w_iconst rfl (by decide) ?_
          refine w_iload_n rfl rfl ?_
          refine w_callV (t' := 3) [(0, l1), (0, 3)] [] rfl s_428 rfl rfl ?_
          refine w_C.more (Q := fun r15 m15 => _) h (fun r15 m15 h => ?_)
          replace h := id h
          refine w_iconst rfl (by decide) ?_
          exact w_iret rfl rfl h
      · refine w_aload_n rfl rfl ?_
        refine w_iconst rfl (by decide) ?_
        refine w_iload_n rfl rfl ?_
        refine w_callV (t' := 3) [(0, l1), (0, 3)] [] rfl s_428 rfl rfl ?_
        refine w_C.more (Q := fun r16 m16 => _) h (fun r16 m16 h => ?_)
        replace h := id h
        refine w_iconst rfl (by decide) ?_
        exact w_iret rfl rfl h
theorem xr_m_rowStream_155 {d : Nat} {l1 l3 l4 l5 l6 : Int} {m : w_M} {Q : Int → w_M → Prop} (h : if l6 = 0 then (xc_m_fail d 3 l1 m (fun r1 m1 => Q (-1) m1)) else (xc_m_isWord d 274 m (fun r2 m2 => if r2 = 0 then (xc_m_fail d 3 l1 m2 (fun r3 m3 => Q (-1) m3)) else (xc_m_decode d l3 l5 l4 l1 m2 (fun r4 m4 => xc_m_good d m4 (fun r5 m5 => if r5 = 0 then (Q (-1) m5) else (xc_m_entries1 d l3 r4 l1 m5 (fun r6 m6 => Q l3 m6)))))))) : xp_m_rowStream_155 d l1 l3 l4 l5 l6 m Q := by
  refine w_iload rfl rfl ?_
  refine w_ifeq rfl (w_ite h (fun h => ?_) (fun h => ?_))
  · refine w_aload_n rfl rfl ?_
    refine w_iconst rfl (by decide) ?_
    refine w_iload_n rfl rfl ?_
    refine w_callV (t' := 3) [(0, l1), (0, 3)] [] rfl s_428 rfl rfl ?_
    refine w_C.more (Q := fun r1 m1 => _) h (fun r1 m1 h => ?_)
    replace h := id h
    refine w_iconst rfl (by decide) ?_
    exact w_iret rfl rfl h
  · refine w_aload_n rfl rfl ?_
    refine w_ldcwR rfl ?_
    refine w_callV (t' := 0) [(2, 274)] [] rfl s_428 rfl rfl ?_
    refine w_C.more (Q := fun r2 m2 => _) h (fun r2 m2 h => ?_)
    replace h := id h
    refine w_ifne rfl (w_ite h (fun h => ?_) (fun h => ?_))
    · refine w_aload_n rfl rfl ?_
      refine w_iconst rfl (by decide) ?_
      refine w_iload_n rfl rfl ?_
      refine w_callV (t' := 3) [(0, l1), (0, 3)] [] rfl s_428 rfl rfl ?_
      refine w_C.more (Q := fun r3 m3 => _) h (fun r3 m3 h => ?_)
      replace h := id h
      refine w_iconst rfl (by decide) ?_
      exact w_iret rfl rfl h
    · refine w_aload_n rfl rfl ?_
      refine w_iload_n rfl rfl ?_
      refine w_iload rfl rfl ?_
      refine w_iload rfl rfl ?_
      refine w_iload_n rfl rfl ?_
      refine w_callV (t' := 0) [(0, l1), (0, l4), (0, l5), (0, l3)] [] rfl s_428 rfl rfl ?_
      refine w_C.more (Q := fun r4 m4 => _) h (fun r4 m4 h => ?_)
      replace h := id h
      refine w_istore (lv' := [some (2, 428), some (0, l1), none, some (0, l3), some (0, l4), some (0, l5), some (0, l6), some (0, r4)]) rfl rfl rfl ?_
      refine w_aload_n rfl rfl ?_
      refine w_callV (t' := 0) [] [] rfl s_428 rfl rfl ?_
      refine w_C.more (Q := fun r5 m5 => _) h (fun r5 m5 h => ?_)
      replace h := id h
      refine w_ifne rfl (w_ite h (fun h => ?_) (fun h => ?_))
      · refine w_iconst rfl (by decide) ?_
        exact w_iret rfl rfl h
      · refine w_aload_n rfl rfl ?_
        refine w_iload_n rfl rfl ?_
        refine w_iload rfl rfl ?_
        refine w_iload_n rfl rfl ?_
        refine w_callV (t' := 3) [(0, l1), (0, r4), (0, l3)] [] rfl s_428 rfl rfl ?_
        refine w_C.more (Q := fun r6 m6 => _) h (fun r6 m6 h => ?_)
        replace h := id h
        refine w_iload_n rfl rfl ?_
        exact w_iret rfl rfl h
theorem xr_m_runFrom {d : Nat} {l1 l2 : Int} {m : w_M} {Q : Int → w_M → Prop} (h : xp_m_runFrom_2 d l1 l2 l1 m Q) : xc_m_runFrom (d + 1) l1 l2 m Q := by
  refine w_enter (q := 1) (lv := [some (2, 428), some (0, l1), some (0, l2), none]) rfl rfl rfl ?_
  refine w_iload_n rfl rfl ?_
  refine w_istore_n (lv' := [some (2, 428), some (0, l1), some (0, l2), some (0, l1)]) rfl rfl rfl ?_
  exact w_W.less h (w_sub [true, true, true, true] rfl)
theorem xr_m_runFrom_2 {d : Nat} {l1 l2 l3 : Int} {m : w_M} {Q : Int → w_M → Prop} (h : if l3 < l2 then (if l3 < (m 428 60) then (((0 : Int) ≤ l3 ∧ l3 < 200) ∧ (if (m 460 l3) = 0 then (((0 : Int) ≤ l3 ∧ l3 < 200) ∧ (if (m 462 l3) = 0 then (Q (w_32 (l3 - l1)) m) else (xp_m_runFrom_2 d l1 l2 (w_32 (l3 + 1)) m Q))) else (xp_m_runFrom_2 d l1 l2 (w_32 (l3 + 1)) m Q))) else (xp_m_runFrom_2 d l1 l2 (w_32 (l3 + 1)) m Q)) else (Q (w_32 (l3 - l1)) m)) : xp_m_runFrom_2 d l1 l2 l3 m Q := by
  refine w_iload_n rfl rfl ?_
  refine w_iload_n rfl rfl ?_
  refine w_icge rfl (w_ite h (fun h => ?_) (fun h => ?_))
  · refine w_iload_n rfl rfl ?_
    refine w_aload_n rfl rfl ?_
    refine x_gfI rfl s_428 rfl (kk := 60) rfl rfl ?_
    refine w_icge rfl (w_ite h (fun h => ?_) (fun h => ?_))
    · refine w_aload_n rfl rfl ?_
      refine w_gfC (c := 460) rfl s_428 rfl rfl ?_
      refine w_iload_n rfl rfl ?_
      refine w_zald rfl s_460 (n := 200) rfl h.1 ?_
      replace h := h.2
      refine w_ifne rfl (w_ite h (fun h => ?_) (fun h => ?_))
      · refine w_aload_n rfl rfl ?_
        refine w_gfC (c := 462) rfl s_428 rfl rfl ?_
        refine w_iload_n rfl rfl ?_
        refine w_zald rfl s_462 (n := 200) rfl h.1 ?_
        replace h := h.2
        refine w_ifeq rfl (w_ite h (fun h => ?_) (fun h => ?_))
        · refine w_iload_n rfl rfl ?_
          refine w_iload_n rfl rfl ?_
          refine w_isub rfl ?_
          exact w_iret rfl rfl h
        · refine w_iinc (lv' := [some (2, 428), some (0, l1), some (0, l2), some (0, w_32 (l3 + 1))]) rfl rfl rfl rfl ?_
          refine w_goto rfl ?_
          exact w_W.less h (w_sub [true, true, true, true] rfl)
      · refine w_iinc (lv' := [some (2, 428), some (0, l1), some (0, l2), some (0, w_32 (l3 + 1))]) rfl rfl rfl rfl ?_
        refine w_goto rfl ?_
        exact w_W.less h (w_sub [true, true, true, true] rfl)
    · refine w_iinc (lv' := [some (2, 428), some (0, l1), some (0, l2), some (0, w_32 (l3 + 1))]) rfl rfl rfl rfl ?_
      refine w_goto rfl ?_
      exact w_W.less h (w_sub [true, true, true, true] rfl)
  · refine w_iload_n rfl rfl ?_
    refine w_iload_n rfl rfl ?_
    refine w_isub rfl ?_
    exact w_iret rfl rfl h
theorem xr_m_say {d : Nat} {l1 : Int} {m : w_M} {Q : Int → w_M → Prop} (h : if 30000 < (m 428 5) then (Q 0 m) else (((0 : Int) ≤ (m 428 5) ∧ (m 428 5) < 30100) ∧ (Q 0 (w_up (w_up m 431 (m 428 5) (w_8 (w_8 l1))) 428 5 (w_32 ((m 428 5) + 1)))))) : xc_m_say (d + 1) l1 m Q := by
  refine w_enter (q := 0) (lv := [some (2, 428), some (0, l1)]) rfl rfl rfl ?_
  refine w_aload_n rfl rfl ?_
  refine x_gfI rfl s_428 rfl (kk := 5) rfl rfl ?_
  refine w_sipush rfl (by decide) ?_
  refine w_icgt rfl (w_ite h (fun h => ?_) (fun h => ?_))
  · exact w_vret rfl rfl h
  · refine w_aload_n rfl rfl ?_
    refine w_gfC (c := 431) rfl s_428 rfl rfl ?_
    refine w_aload_n rfl rfl ?_
    refine x_gfI rfl s_428 rfl (kk := 5) rfl rfl ?_
    refine w_iload_n rfl rfl ?_
    refine w_i2b rfl ?_
    refine w_bast rfl s_431 (w_EM (by decide)) (n := 30100) rfl h.1 ?_
    replace h := h.2
    refine w_aload_n rfl rfl ?_
    refine w_dup rfl (show (2 : Nat) ≠ 1 by decide) ?_
    refine x_gfI rfl s_428 rfl (kk := 5) rfl (w_up_ne (by decide)) ?_
    refine w_iconst rfl (by decide) ?_
    refine w_iadd rfl ?_
    refine w_pfI rfl s_428 rfl (w_EM (by decide)) rfl (kk := 5) rfl ?_
    exact w_vret rfl rfl h
theorem xr_m_sayDigits {d : Nat} {l1 l3 : Int} {m : w_M} {Q : Int → w_M → Prop} (h : xp_m_sayDigits_6 d l1 l3 1 1 m Q) : xc_m_sayDigits (d + 1) l1 l3 m Q := by
  refine w_enter (q := 3) (lv := [some (2, 428), some (1, l1), none, some (0, l3), none, none, none]) rfl rfl rfl ?_
  refine w_lconst rfl rfl ?_
  refine w_lstore (lv' := [some (2, 428), some (1, l1), none, some (0, l3), some (1, 1), none, none]) rfl rfl rfl ?_
  refine w_iconst rfl (by decide) ?_
  refine w_istore (lv' := [some (2, 428), some (1, l1), none, some (0, l3), some (1, 1), none, some (0, 1)]) rfl rfl rfl ?_
  exact w_W.less h (w_sub [true, true, false, true, true, false, true] rfl)
theorem xr_m_sayDigits_6 {d : Nat} {l1 l3 l4 l6 : Int} {m : w_M} {Q : Int → w_M → Prop} (h : l4 ≠ 0 ∧ (if (w_ldiv l1 l4) < 10 then (if l6 < l3 then (xp_m_sayDigits_6 d l1 l3 (w_64 (l4 * 10)) (w_32 (l6 + 1)) m Q) else (xp_m_sayDigits_37 d l1 l4 m Q)) else (xp_m_sayDigits_6 d l1 l3 (w_64 (l4 * 10)) (w_32 (l6 + 1)) m Q))) : xp_m_sayDigits_6 d l1 l3 l4 l6 m Q := by
  refine w_lload_n rfl rfl ?_
  refine w_lload rfl rfl ?_
  refine w_ldiv' rfl h.1 ?_
  replace h := h.2
  refine w_ldc2 (a := 10) rfl (by decide +kernel) (by decide) ?_
  refine w_lcge rfl rfl (w_ite h (fun h => ?_) (fun h => ?_))
  · refine w_iload rfl rfl ?_
    refine w_iload_n rfl rfl ?_
    refine w_icge rfl (w_ite h (fun h => ?_) (fun h => ?_))
    · refine w_lload rfl rfl ?_
      refine w_ldc2 (a := 10) rfl (by decide +kernel) (by decide) ?_
      refine w_lmul' rfl ?_
      refine w_lstore (lv' := [some (2, 428), some (1, l1), none, some (0, l3), some (1, w_64 (l4 * 10)), none, some (0, l6)]) rfl rfl rfl ?_
      refine w_iinc (lv' := [some (2, 428), some (1, l1), none, some (0, l3), some (1, w_64 (l4 * 10)), none, some (0, w_32 (l6 + 1))]) rfl rfl rfl rfl ?_
      refine w_goto rfl ?_
      exact w_W.less h (w_sub [true, true, false, true, true, false, true] rfl)
    · exact w_W.less h (w_sub [true, true, false, false, true, false, false] rfl)
  · refine w_lload rfl rfl ?_
    refine w_ldc2 (a := 10) rfl (by decide +kernel) (by decide) ?_
    refine w_lmul' rfl ?_
    refine w_lstore (lv' := [some (2, 428), some (1, l1), none, some (0, l3), some (1, w_64 (l4 * 10)), none, some (0, l6)]) rfl rfl rfl ?_
    refine w_iinc (lv' := [some (2, 428), some (1, l1), none, some (0, l3), some (1, w_64 (l4 * 10)), none, some (0, w_32 (l6 + 1))]) rfl rfl rfl rfl ?_
    refine w_goto rfl ?_
    exact w_W.less h (w_sub [true, true, false, true, true, false, true] rfl)
theorem xr_m_sayDigits_37 {d : Nat} {l1 l4 : Int} {m : w_M} {Q : Int → w_M → Prop} (h : if 0 < l4 then (l4 ≠ 0 ∧ (xc_m_say d (w_32 (w_64 (48 + (Int.tmod (w_ldiv l1 l4) 10)))) m (fun r1 m1 => xp_m_sayDigits_37 d l1 (Int.tdiv l4 10) m1 Q))) else (Q 0 m)) : xp_m_sayDigits_37 d l1 l4 m Q := by
  refine w_lload rfl rfl ?_
  refine w_lconst rfl rfl ?_
  refine w_lcle rfl rfl (w_ite h (fun h => ?_) (fun h => ?_))
  · refine w_aload_n rfl rfl ?_
    refine w_ldc2 (a := 48) rfl (by decide +kernel) (by decide) ?_
    refine w_lload_n rfl rfl ?_
    refine w_lload rfl rfl ?_
    refine w_ldiv' rfl h.1 ?_
    replace h := h.2
    refine w_ldc2 (a := 10) rfl (by decide +kernel) (by decide) ?_
    refine w_lremk rfl (by decide) ?_
    refine w_ladd' rfl ?_
    refine w_l2i rfl ?_
    refine w_callV (t' := 3) [(0, w_32 (w_64 (48 + (Int.tmod (w_ldiv l1 l4) 10))))] [] rfl s_428 rfl rfl ?_
    refine w_C.more (Q := fun r1 m1 => _) h (fun r1 m1 h => ?_)
    replace h := id h
    refine w_lload rfl rfl ?_
    refine w_ldc2 (a := 10) rfl (by decide +kernel) (by decide) ?_
    refine w_ldivk rfl (by decide) ?_
    refine w_lstore (lv' := [some (2, 428), some (1, l1), none, none, some (1, Int.tdiv l4 10), none, none]) rfl rfl rfl ?_
    refine w_goto rfl ?_
    exact w_W.less h (w_sub [true, true, false, false, true, false, false] rfl)
  · exact w_vret rfl rfl h
theorem xr_m_sayEntry {d : Nat} {l1 l3 : Int} {m : w_M} {Q : Int → w_M → Prop} (h : xc_m_sayDigits d l1 10 m (fun r1 m1 => xc_m_say d 32 m1 (fun r2 m2 => xc_m_sayDigits d l3 5 m2 (fun r3 m3 => xc_m_sayText d 296 m3 (fun r4 m4 => Q 0 m4))))) : xc_m_sayEntry (d + 1) l1 l3 m Q := by
  refine w_enter (q := 0) (lv := [some (2, 428), some (1, l1), none, some (1, l3), none]) rfl rfl rfl ?_
  refine w_aload_n rfl rfl ?_
  refine w_lload_n rfl rfl ?_
  refine w_bipush rfl (by decide) ?_
  refine w_callV (t' := 3) [(0, 10), (1, l1)] [] rfl s_428 rfl rfl ?_
  refine w_C.more (Q := fun r1 m1 => _) h (fun r1 m1 h => ?_)
  replace h := id h
  refine w_aload_n rfl rfl ?_
  refine w_bipush rfl (by decide) ?_
  refine w_callV (t' := 3) [(0, 32)] [] rfl s_428 rfl rfl ?_
  refine w_C.more (Q := fun r2 m2 => _) h (fun r2 m2 h => ?_)
  replace h := id h
  refine w_aload_n rfl rfl ?_
  refine w_lload_n rfl rfl ?_
  refine w_iconst rfl (by decide) ?_
  refine w_callV (t' := 3) [(0, 5), (1, l3)] [] rfl s_428 rfl rfl ?_
  refine w_C.more (Q := fun r3 m3 => _) h (fun r3 m3 h => ?_)
  replace h := id h
  refine w_aload_n rfl rfl ?_
  refine w_ldcwR rfl ?_
  refine w_callV (t' := 3) [(2, 296)] [] rfl s_428 rfl rfl ?_
  refine w_C.more (Q := fun r4 m4 => _) h (fun r4 m4 h => ?_)
  replace h := id h
  exact w_vret rfl rfl h
theorem xr_m_sayName {d : Nat} {l1 l2 : Int} {m : w_M} {Q : Int → w_M → Prop} (h : xc_m_say d 47 m (fun r1 m1 => xp_m_sayName_8 d l1 l2 l1 m1 Q)) : xc_m_sayName (d + 1) l1 l2 m Q := by
  refine w_enter (q := 2) (lv := [some (2, 428), some (0, l1), some (0, l2), none, none]) rfl rfl rfl ?_
  refine w_aload_n rfl rfl ?_
  refine w_bipush rfl (by decide) ?_
  refine w_callV (t' := 3) [(0, 47)] [] rfl s_428 rfl rfl ?_
  refine w_C.more (Q := fun r1 m1 => _) h (fun r1 m1 h => ?_)
  replace h := id h
  refine w_iload_n rfl rfl ?_
  refine w_istore_n (lv' := [some (2, 428), some (0, l1), some (0, l2), some (0, l1), none]) rfl rfl rfl ?_
  exact w_W.less h (w_sub [true, true, true, true, false] rfl)
theorem xr_m_sayName_8 {d : Nat} {l1 l2 l3 : Int} {m : w_M} {Q : Int → w_M → Prop} (h : if l3 < (w_32 (l1 + l2)) then (((0 : Int) ≤ l3 ∧ l3 < 150000) ∧ (if ((m 440 l3) % 256) < 33 then (xc_m_say d 35 m (fun r1 m1 => xc_m_hexDigit d (((m 440 l3) % 256) / 16) m1 (fun r2 m2 => xc_m_say d r2 m2 (fun r3 m3 => xc_m_hexDigit d (((m 440 l3) % 256) % 16) m3 (fun r4 m4 => xc_m_say d r4 m4 (fun r5 m5 => xp_m_sayName_8 d l1 l2 (w_32 (l3 + 1)) m5 Q)))))) else (if 126 < ((m 440 l3) % 256) then (xc_m_say d 35 m (fun r6 m6 => xc_m_hexDigit d (((m 440 l3) % 256) / 16) m6 (fun r7 m7 => xc_m_say d r7 m7 (fun r8 m8 => xc_m_hexDigit d (((m 440 l3) % 256) % 16) m8 (fun r9 m9 => xc_m_say d r9 m9 (fun r10 m10 => xp_m_sayName_8 d l1 l2 (w_32 (l3 + 1)) m10 Q)))))) else (xc_m_isDelimiter d ((m 440 l3) % 256) m (fun r11 m11 => if r11 = 0 then (if ((m 440 l3) % 256) = 35 then (xc_m_say d 35 m11 (fun r12 m12 => xc_m_hexDigit d (((m 440 l3) % 256) / 16) m12 (fun r13 m13 => xc_m_say d r13 m13 (fun r14 m14 => xc_m_hexDigit d (((m 440 l3) % 256) % 16) m14 (fun r15 m15 => xc_m_say d r15 m15 (fun r16 m16 => xp_m_sayName_8 d l1 l2 (w_32 (l3 + 1)) m16 Q)))))) else (xc_m_say d ((m 440 l3) % 256) m11 (fun r17 m17 => xp_m_sayName_8 d l1 l2 (w_32 (l3 + 1)) m17 Q))) else (xc_m_say d 35 m11 (fun r18 m18 => xc_m_hexDigit d (((m 440 l3) % 256) / 16) m18 (fun r19 m19 => xc_m_say d r19 m19 (fun r20 m20 => xc_m_hexDigit d (((m 440 l3) % 256) % 16) m20 (fun r21 m21 => xc_m_say d r21 m21 (fun r22 m22 => xp_m_sayName_8 d l1 l2 (w_32 (l3 + 1)) m22 Q))))))))))) else (Q 0 m)) : xp_m_sayName_8 d l1 l2 l3 m Q := by
  refine w_iload_n rfl rfl ?_
  refine w_iload_n rfl rfl ?_
  refine w_iload_n rfl rfl ?_
  refine w_iadd rfl ?_
  refine w_icge rfl (w_ite h (fun h => ?_) (fun h => ?_))
  · refine w_aload_n rfl rfl ?_
    refine w_gfC (c := 440) rfl s_428 rfl rfl ?_
    refine w_iload_n rfl rfl ?_
    refine w_bald rfl s_440 (n := 150000) rfl h.1 ?_
    replace h := h.2
    refine w_sipush rfl (by decide) ?_
    refine w_iandm 8 (c := 256) rfl (by decide) rfl rfl ?_
    refine w_istore (lv' := [some (2, 428), some (0, l1), some (0, l2), some (0, l3), some (0, (m 440 l3) % 256)]) rfl rfl rfl ?_
    refine w_iload rfl rfl ?_
    refine w_bipush rfl (by decide) ?_
    refine w_iclt rfl (w_ite h (fun h => ?_) (fun h => ?_))
    · refine w_aload_n rfl rfl ?_
      refine w_bipush rfl (by decide) ?_
      refine w_callV (t' := 3) [(0, 35)] [] rfl s_428 rfl rfl ?_
      refine w_C.more (Q := fun r1 m1 => _) h (fun r1 m1 h => ?_)
      replace h := id h
      refine w_aload_n rfl rfl ?_
      refine w_iload rfl rfl ?_
      refine w_iconst rfl (by decide) ?_
      refine w_ishrk (c := 16) rfl (by decide) (by decide) rfl ?_
      refine w_callS (t' := 0) [(0, ((m 440 l3) % 256) / 16)] [(2, 428)] rfl (by decide) rfl rfl ?_
      refine w_C.more (Q := fun r2 m2 => _) h (fun r2 m2 h => ?_)
      replace h := id h
      refine w_callV (t' := 3) [(0, r2)] [] rfl s_428 rfl rfl ?_
      refine w_C.more (Q := fun r3 m3 => _) h (fun r3 m3 h => ?_)
      replace h := id h
      refine w_aload_n rfl rfl ?_
      refine w_iload rfl rfl ?_
      refine w_bipush rfl (by decide) ?_
      refine w_iandm 4 (c := 16) rfl (by decide) rfl rfl ?_
      refine w_callS (t' := 0) [(0, ((m 440 l3) % 256) % 16)] [(2, 428)] rfl (by decide) rfl rfl ?_
      refine w_C.more (Q := fun r4 m4 => _) h (fun r4 m4 h => ?_)
      replace h := id h
      refine w_callV (t' := 3) [(0, r4)] [] rfl s_428 rfl rfl ?_
      refine w_C.more (Q := fun r5 m5 => _) h (fun r5 m5 h => ?_)
      replace h := id h
      refine w_goto rfl ?_
      refine w_iinc (lv' := [some (2, 428), some (0, l1), some (0, l2), some (0, w_32 (l3 + 1)), some (0, (m 440 l3) % 256)]) rfl rfl rfl rfl ?_
      refine w_goto rfl ?_
      exact w_W.less h (w_sub [true, true, true, true, false] rfl)
    · refine w_iload rfl rfl ?_
      refine w_bipush rfl (by decide) ?_
      refine w_icgt rfl (w_ite h (fun h => ?_) (fun h => ?_))
      · refine w_aload_n rfl rfl ?_
        refine w_bipush rfl (by decide) ?_
        refine w_callV (t' := 3) [(0, 35)] [] rfl s_428 rfl rfl ?_
        refine w_C.more (Q := fun r6 m6 => _) h (fun r6 m6 h => ?_)
        replace h := id h
        refine w_aload_n rfl rfl ?_
        refine w_iload rfl rfl ?_
        refine w_iconst rfl (by decide) ?_
        refine w_ishrk (c := 16) rfl (by decide) (by decide) rfl ?_
        refine w_callS (t' := 0) [(0, ((m 440 l3) % 256) / 16)] [(2, 428)] rfl (by decide) rfl rfl ?_
        refine w_C.more (Q := fun r7 m7 => _) h (fun r7 m7 h => ?_)
        replace h := id h
        refine w_callV (t' := 3) [(0, r7)] [] rfl s_428 rfl rfl ?_
        refine w_C.more (Q := fun r8 m8 => _) h (fun r8 m8 h => ?_)
        replace h := id h
        refine w_aload_n rfl rfl ?_
        refine w_iload rfl rfl ?_
        refine w_bipush rfl (by decide) ?_
        refine w_iandm 4 (c := 16) rfl (by decide) rfl rfl ?_
        refine w_callS (t' := 0) [(0, ((m 440 l3) % 256) % 16)] [(2, 428)] rfl (by decide) rfl rfl ?_
        refine w_C.more (Q := fun r9 m9 => _) h (fun r9 m9 h => ?_)
        replace h := id h
        refine w_callV (t' := 3) [(0, r9)] [] rfl s_428 rfl rfl ?_
        refine w_C.more (Q := fun r10 m10 => _) h (fun r10 m10 h => ?_)
        replace h := id h
        refine w_goto rfl ?_
        refine w_iinc (lv' := [some (2, 428), some (0, l1), some (0, l2), some (0, w_32 (l3 + 1)), some (0, (m 440 l3) % 256)]) rfl rfl rfl rfl ?_
        refine w_goto rfl ?_
        exact w_W.less h (w_sub [true, true, true, true, false] rfl)
      · refine w_iload rfl rfl ?_
        refine w_callS (t' := 0) [(0, (m 440 l3) % 256)] [] rfl (by decide) rfl rfl ?_
        refine w_C.more (Q := fun r11 m11 => _) h (fun r11 m11 h => ?_)
        replace h := id h
        refine w_ifne rfl (w_ite h (fun h => ?_) (fun h => ?_))
        · refine w_iload rfl rfl ?_
          refine w_bipush rfl (by decide) ?_
          refine w_icne rfl (w_ite h (fun h => ?_) (fun h => ?_))
          · refine w_aload_n rfl rfl ?_
            refine w_bipush rfl (by decide) ?_
            refine w_callV (t' := 3) [(0, 35)] [] rfl s_428 rfl rfl ?_
            refine w_C.more (Q := fun r12 m12 => _) h (fun r12 m12 h => ?_)
            replace h := id h
            refine w_aload_n rfl rfl ?_
            refine w_iload rfl rfl ?_
            refine w_iconst rfl (by decide) ?_
            refine w_ishrk (c := 16) rfl (by decide) (by decide) rfl ?_
            refine w_callS (t' := 0) [(0, ((m 440 l3) % 256) / 16)] [(2, 428)] rfl (by decide) rfl rfl ?_
            refine w_C.more (Q := fun r13 m13 => _) h (fun r13 m13 h => ?_)
            replace h := id h
            refine w_callV (t' := 3) [(0, r13)] [] rfl s_428 rfl rfl ?_
            refine w_C.more (Q := fun r14 m14 => _) h (fun r14 m14 h => ?_)
            replace h := id h
            refine w_aload_n rfl rfl ?_
            refine w_iload rfl rfl ?_
            refine w_bipush rfl (by decide) ?_
            refine w_iandm 4 (c := 16) rfl (by decide) rfl rfl ?_
            refine w_callS (t' := 0) [(0, ((m 440 l3) % 256) % 16)] [(2, 428)] rfl (by decide) rfl rfl ?_
            refine w_C.more (Q := fun r15 m15 => _) h (fun r15 m15 h => ?_)
            replace h := id h
            refine w_callV (t' := 3) [(0, r15)] [] rfl s_428 rfl rfl ?_
            refine w_C.more (Q := fun r16 m16 => _) h (fun r16 m16 h => ?_)
            replace h := id h
            refine w_goto rfl ?_
            refine w_iinc (lv' := [some (2, 428), some (0, l1), some (0, l2), some (0, w_32 (l3 + 1)), some (0, (m 440 l3) % 256)]) rfl rfl rfl rfl ?_
            refine w_goto rfl ?_
            exact w_W.less h (w_sub [true, true, true, true, false] rfl)
          · refine w_aload_n rfl rfl ?_
            refine w_iload rfl rfl ?_
            refine w_callV (t' := 3) [(0, (m 440 l3) % 256)] [] rfl s_428 rfl rfl ?_
            refine w_C.more (Q := fun r17 m17 => _) h (fun r17 m17 h => ?_)
            replace h := id h
            refine w_iinc (lv' := [some (2, 428), some (0, l1), some (0, l2), some (0, w_32 (l3 + 1)), some (0, (m 440 l3) % 256)]) rfl rfl rfl rfl ?_
            refine w_goto rfl ?_
            exact w_W.less h (w_sub [true, true, true, true, false] rfl)
        · refine w_aload_n rfl rfl ?_
          refine w_bipush rfl (by decide) ?_
          refine w_callV (t' := 3) [(0, 35)] [] rfl s_428 rfl rfl ?_
          refine w_C.more (Q := fun r18 m18 => _) h (fun r18 m18 h => ?_)
          replace h := id h
          refine w_aload_n rfl rfl ?_
          refine w_iload rfl rfl ?_
          refine w_iconst rfl (by decide) ?_
          refine w_ishrk (c := 16) rfl (by decide) (by decide) rfl ?_
          refine w_callS (t' := 0) [(0, ((m 440 l3) % 256) / 16)] [(2, 428)] rfl (by decide) rfl rfl ?_
          refine w_C.more (Q := fun r19 m19 => _) h (fun r19 m19 h => ?_)
          replace h := id h
          refine w_callV (t' := 3) [(0, r19)] [] rfl s_428 rfl rfl ?_
          refine w_C.more (Q := fun r20 m20 => _) h (fun r20 m20 h => ?_)
          replace h := id h
          refine w_aload_n rfl rfl ?_
          refine w_iload rfl rfl ?_
          refine w_bipush rfl (by decide) ?_
          refine w_iandm 4 (c := 16) rfl (by decide) rfl rfl ?_
          refine w_callS (t' := 0) [(0, ((m 440 l3) % 256) % 16)] [(2, 428)] rfl (by decide) rfl rfl ?_
          refine w_C.more (Q := fun r21 m21 => _) h (fun r21 m21 h => ?_)
          replace h := id h
          refine w_callV (t' := 3) [(0, r21)] [] rfl s_428 rfl rfl ?_
          refine w_C.more (Q := fun r22 m22 => _) h (fun r22 m22 h => ?_)
          replace h := id h
          refine w_goto rfl ?_
          refine w_iinc (lv' := [some (2, 428), some (0, l1), some (0, l2), some (0, w_32 (l3 + 1)), some (0, (m 440 l3) % 256)]) rfl rfl rfl rfl ?_
          refine w_goto rfl ?_
          exact w_W.less h (w_sub [true, true, true, true, false] rfl)
  · exact w_vret rfl rfl h
theorem xr_m_sayNumber {d : Nat} {l1 : Int} {m : w_M} {Q : Int → w_M → Prop} (h : if l1 < 0 then (xc_m_say d 45 m (fun r1 m1 => if l1 < 0 then (xc_m_sayDigits d (w_64 (-l1)) 1 m1 (fun r2 m2 => Q 0 m2)) else (xc_m_sayDigits d l1 1 m1 (fun r3 m3 => Q 0 m3)))) else (if l1 < 0 then (xc_m_sayDigits d (w_64 (-l1)) 1 m (fun r4 m4 => Q 0 m4)) else (xc_m_sayDigits d l1 1 m (fun r5 m5 => Q 0 m5)))) : xc_m_sayNumber (d + 1) l1 m Q := by
  refine w_enter (q := 0) (lv := [some (2, 428), some (1, l1), none]) rfl rfl rfl ?_
  refine w_lload_n rfl rfl ?_
  refine w_lconst rfl rfl ?_
  refine w_lcge rfl rfl (w_ite h (fun h => ?_) (fun h => ?_))
  · refine w_aload_n rfl rfl ?_
    refine w_bipush rfl (by decide) ?_
    refine w_callV (t' := 3) [(0, 45)] [] rfl s_428 rfl rfl ?_
    refine w_C.more (Q := fun r1 m1 => _) h (fun r1 m1 h => ?_)
    replace h := id h
    refine w_aload_n rfl rfl ?_
    refine w_lload_n rfl rfl ?_
    refine w_lconst rfl rfl ?_
    refine w_lcge rfl rfl (w_ite h (fun h => ?_) (fun h => ?_))
    · refine w_lload_n rfl rfl ?_
      refine w_lneg rfl ?_
      refine w_goto rfl ?_
      refine w_iconst rfl (by decide) ?_
      refine w_callV (t' := 3) [(0, 1), (1, w_64 (-l1))] [] rfl s_428 rfl rfl ?_
      refine w_C.more (Q := fun r2 m2 => _) h (fun r2 m2 h => ?_)
      replace h := id h
      exact w_vret rfl rfl h
    · refine w_lload_n rfl rfl ?_
      refine w_iconst rfl (by decide) ?_
      refine w_callV (t' := 3) [(0, 1), (1, l1)] [] rfl s_428 rfl rfl ?_
      refine w_C.more (Q := fun r3 m3 => _) h (fun r3 m3 h => ?_)
      replace h := id h
      exact w_vret rfl rfl h
  · refine w_aload_n rfl rfl ?_
    refine w_lload_n rfl rfl ?_
    refine w_lconst rfl rfl ?_
    refine w_lcge rfl rfl (w_ite h (fun h => ?_) (fun h => ?_))
    · refine w_lload_n rfl rfl ?_
      refine w_lneg rfl ?_
      refine w_goto rfl ?_
      refine w_iconst rfl (by decide) ?_
      refine w_callV (t' := 3) [(0, 1), (1, w_64 (-l1))] [] rfl s_428 rfl rfl ?_
      refine w_C.more (Q := fun r4 m4 => _) h (fun r4 m4 h => ?_)
      replace h := id h
      exact w_vret rfl rfl h
    · refine w_lload_n rfl rfl ?_
      refine w_iconst rfl (by decide) ?_
      refine w_callV (t' := 3) [(0, 1), (1, l1)] [] rfl s_428 rfl rfl ?_
      refine w_C.more (Q := fun r5 m5 => _) h (fun r5 m5 h => ?_)
      replace h := id h
      exact w_vret rfl rfl h
theorem xr_m_sayReal {d : Nat} {l1 : Int} {m : w_M} {Q : Int → w_M → Prop} (h : if l1 < 0 then (xp_m_sayReal_12 d l1 (w_64 (-l1)) m Q) else (xp_m_sayReal_12 d l1 l1 m Q)) : xc_m_sayReal (d + 1) l1 m Q := by
  refine w_enter (q := 5) (lv := [some (2, 428), some (0, l1), none, none, none, none, none]) rfl rfl rfl ?_
  refine w_iload_n rfl rfl ?_
  refine w_ifge rfl (w_ite h (fun h => ?_) (fun h => ?_))
  · refine w_iload_n rfl rfl ?_
    refine w_i2l rfl ?_
    refine w_lneg rfl ?_
    refine w_goto rfl ?_
    exact w_W.less h (w_sub [true, true, false, false, false, false, false] rfl)
  · refine w_iload_n rfl rfl ?_
    refine w_i2l rfl ?_
    exact w_W.less h (w_sub [true, true, false, false, false, false, false] rfl)
theorem xr_m_sayReal_12 {d : Nat} {l1 s0 : Int} {m : w_M} {Q : Int → w_M → Prop} (h : if l1 < 0 then (xc_m_say d 45 m (fun r1 m1 => xc_m_sayNumber d (Int.tdiv s0 65536) m1 (fun r2 m2 => xc_m_say d 46 m2 (fun r3 m3 => xp_m_sayReal_60 d (Int.tdiv (w_64 ((w_64 ((Int.tmod s0 65536) * 200000)) + 65536)) 131072) 5 m3 Q)))) else (xc_m_sayNumber d (Int.tdiv s0 65536) m (fun r4 m4 => xc_m_say d 46 m4 (fun r5 m5 => xp_m_sayReal_60 d (Int.tdiv (w_64 ((w_64 ((Int.tmod s0 65536) * 200000)) + 65536)) 131072) 5 m5 Q)))) : xp_m_sayReal_12 d l1 s0 m Q := by
  refine w_lstore_n (lv' := [some (2, 428), some (0, l1), some (1, s0), none, none, none, none]) rfl rfl rfl ?_
  refine w_iload_n rfl rfl ?_
  refine w_ifge rfl (w_ite h (fun h => ?_) (fun h => ?_))
  · refine w_aload_n rfl rfl ?_
    refine w_bipush rfl (by decide) ?_
    refine w_callV (t' := 3) [(0, 45)] [] rfl s_428 rfl rfl ?_
    refine w_C.more (Q := fun r1 m1 => _) h (fun r1 m1 h => ?_)
    replace h := id h
    refine w_aload_n rfl rfl ?_
    refine w_lload_n rfl rfl ?_
    refine w_ldc2 (a := 65536) rfl (by decide +kernel) (by decide) ?_
    refine w_ldivk rfl (by decide) ?_
    refine w_callV (t' := 3) [(1, Int.tdiv s0 65536)] [] rfl s_428 rfl rfl ?_
    refine w_C.more (Q := fun r2 m2 => _) h (fun r2 m2 h => ?_)
    replace h := id h
    refine w_aload_n rfl rfl ?_
    refine w_bipush rfl (by decide) ?_
    refine w_callV (t' := 3) [(0, 46)] [] rfl s_428 rfl rfl ?_
    refine w_C.more (Q := fun r3 m3 => _) h (fun r3 m3 h => ?_)
    replace h := id h
    refine w_lload_n rfl rfl ?_
    refine w_ldc2 (a := 65536) rfl (by decide +kernel) (by decide) ?_
    refine w_lremk rfl (by decide) ?_
    refine w_ldc2 (a := 200000) rfl (by decide +kernel) (by decide) ?_
    refine w_lmul' rfl ?_
    refine w_ldc2 (a := 65536) rfl (by decide +kernel) (by decide) ?_
    refine w_ladd' rfl ?_
    refine w_ldc2 (a := 131072) rfl (by decide +kernel) (by decide) ?_
    refine w_ldivk rfl (by decide) ?_
    refine w_lstore (lv' := [some (2, 428), some (0, l1), some (1, s0), none, some (1, Int.tdiv (w_64 ((w_64 ((Int.tmod s0 65536) * 200000)) + 65536)) 131072), none, none]) rfl rfl rfl ?_
    refine w_iconst rfl (by decide) ?_
    refine w_istore (lv' := [some (2, 428), some (0, l1), some (1, s0), none, some (1, Int.tdiv (w_64 ((w_64 ((Int.tmod s0 65536) * 200000)) + 65536)) 131072), none, some (0, 5)]) rfl rfl rfl ?_
    exact w_W.less h (w_sub [true, false, false, false, true, false, true] rfl)
  · refine w_aload_n rfl rfl ?_
    refine w_lload_n rfl rfl ?_
    refine w_ldc2 (a := 65536) rfl (by decide +kernel) (by decide) ?_
    refine w_ldivk rfl (by decide) ?_
    refine w_callV (t' := 3) [(1, Int.tdiv s0 65536)] [] rfl s_428 rfl rfl ?_
    refine w_C.more (Q := fun r4 m4 => _) h (fun r4 m4 h => ?_)
    replace h := id h
    refine w_aload_n rfl rfl ?_
    refine w_bipush rfl (by decide) ?_
    refine w_callV (t' := 3) [(0, 46)] [] rfl s_428 rfl rfl ?_
    refine w_C.more (Q := fun r5 m5 => _) h (fun r5 m5 h => ?_)
    replace h := id h
    refine w_lload_n rfl rfl ?_
    refine w_ldc2 (a := 65536) rfl (by decide +kernel) (by decide) ?_
    refine w_lremk rfl (by decide) ?_
    refine w_ldc2 (a := 200000) rfl (by decide +kernel) (by decide) ?_
    refine w_lmul' rfl ?_
    refine w_ldc2 (a := 65536) rfl (by decide +kernel) (by decide) ?_
    refine w_ladd' rfl ?_
    refine w_ldc2 (a := 131072) rfl (by decide +kernel) (by decide) ?_
    refine w_ldivk rfl (by decide) ?_
    refine w_lstore (lv' := [some (2, 428), some (0, l1), some (1, s0), none, some (1, Int.tdiv (w_64 ((w_64 ((Int.tmod s0 65536) * 200000)) + 65536)) 131072), none, none]) rfl rfl rfl ?_
    refine w_iconst rfl (by decide) ?_
    refine w_istore (lv' := [some (2, 428), some (0, l1), some (1, s0), none, some (1, Int.tdiv (w_64 ((w_64 ((Int.tmod s0 65536) * 200000)) + 65536)) 131072), none, some (0, 5)]) rfl rfl rfl ?_
    exact w_W.less h (w_sub [true, false, false, false, true, false, true] rfl)
theorem xr_m_sayReal_60 {d : Nat} {l4 l6 : Int} {m : w_M} {Q : Int → w_M → Prop} (h : if 1 < l6 then (if (Int.tmod l4 10) = 0 then (xp_m_sayReal_60 d (Int.tdiv l4 10) (w_32 (l6 + (-1))) m Q) else (xc_m_sayDigits d l4 l6 m (fun r1 m1 => Q 0 m1))) else (xc_m_sayDigits d l4 l6 m (fun r2 m2 => Q 0 m2))) : xp_m_sayReal_60 d l4 l6 m Q := by
  refine w_iload rfl rfl ?_
  refine w_iconst rfl (by decide) ?_
  refine w_icle rfl (w_ite h (fun h => ?_) (fun h => ?_))
  · refine w_lload rfl rfl ?_
    refine w_ldc2 (a := 10) rfl (by decide +kernel) (by decide) ?_
    refine w_lremk rfl (by decide) ?_
    refine w_lconst rfl rfl ?_
    refine w_lcne rfl rfl (w_ite h (fun h => ?_) (fun h => ?_))
    · refine w_lload rfl rfl ?_
      refine w_ldc2 (a := 10) rfl (by decide +kernel) (by decide) ?_
      refine w_ldivk rfl (by decide) ?_
      refine w_lstore (lv' := [some (2, 428), none, none, none, some (1, Int.tdiv l4 10), none, some (0, l6)]) rfl rfl rfl ?_
      refine w_iinc (lv' := [some (2, 428), none, none, none, some (1, Int.tdiv l4 10), none, some (0, w_32 (l6 + (-1)))]) rfl rfl rfl rfl ?_
      refine w_goto rfl ?_
      exact w_W.less h (w_sub [true, false, false, false, true, false, true] rfl)
    · refine w_aload_n rfl rfl ?_
      refine w_lload rfl rfl ?_
      refine w_iload rfl rfl ?_
      refine w_callV (t' := 3) [(0, l6), (1, l4)] [] rfl s_428 rfl rfl ?_
      refine w_C.more (Q := fun r1 m1 => _) h (fun r1 m1 h => ?_)
      replace h := id h
      exact w_vret rfl rfl h
  · refine w_aload_n rfl rfl ?_
    refine w_lload rfl rfl ?_
    refine w_iload rfl rfl ?_
    refine w_callV (t' := 3) [(0, l6), (1, l4)] [] rfl s_428 rfl rfl ?_
    refine w_C.more (Q := fun r2 m2 => _) h (fun r2 m2 h => ?_)
    replace h := id h
    exact w_vret rfl rfl h
theorem xr_m_sayReference {d : Nat} {l1 l2 : Int} {m : w_M} {Q : Int → w_M → Prop} (h : xc_m_sayNumber d l1 m (fun r1 m1 => xc_m_say d 32 m1 (fun r2 m2 => xc_m_sayNumber d l2 m2 (fun r3 m3 => xc_m_sayText d 298 m3 (fun r4 m4 => Q 0 m4))))) : xc_m_sayReference (d + 1) l1 l2 m Q := by
  refine w_enter (q := 0) (lv := [some (2, 428), some (0, l1), some (1, l2), none]) rfl rfl rfl ?_
  refine w_aload_n rfl rfl ?_
  refine w_iload_n rfl rfl ?_
  refine w_i2l rfl ?_
  refine w_callV (t' := 3) [(1, l1)] [] rfl s_428 rfl rfl ?_
  refine w_C.more (Q := fun r1 m1 => _) h (fun r1 m1 h => ?_)
  replace h := id h
  refine w_aload_n rfl rfl ?_
  refine w_bipush rfl (by decide) ?_
  refine w_callV (t' := 3) [(0, 32)] [] rfl s_428 rfl rfl ?_
  refine w_C.more (Q := fun r2 m2 => _) h (fun r2 m2 h => ?_)
  replace h := id h
  refine w_aload_n rfl rfl ?_
  refine w_lload_n rfl rfl ?_
  refine w_callV (t' := 3) [(1, l2)] [] rfl s_428 rfl rfl ?_
  refine w_C.more (Q := fun r3 m3 => _) h (fun r3 m3 h => ?_)
  replace h := id h
  refine w_aload_n rfl rfl ?_
  refine w_ldcwR rfl ?_
  refine w_callV (t' := 3) [(2, 298)] [] rfl s_428 rfl rfl ?_
  refine w_C.more (Q := fun r4 m4 => _) h (fun r4 m4 h => ?_)
  replace h := id h
  exact w_vret rfl rfl h
theorem xr_m_sayString {d : Nat} {l1 : Int} {m : w_M} {Q : Int → w_M → Prop} (h : ((0 : Int) ≤ l1 ∧ l1 < 40000) ∧ (xp_m_sayString_9 d l1 1 (m 436 l1) m Q)) : xc_m_sayString (d + 1) l1 m Q := by
  refine w_enter (q := 3) (lv := [some (2, 428), some (0, l1), none, none, none]) rfl rfl rfl ?_
  refine w_iconst rfl (by decide) ?_
  refine w_istore_n (lv' := [some (2, 428), some (0, l1), some (0, 1), none, none]) rfl rfl rfl ?_
  refine w_aload_n rfl rfl ?_
  refine w_gfC (c := 436) rfl s_428 rfl rfl ?_
  refine w_iload_n rfl rfl ?_
  refine w_iald rfl s_436 (n := 40000) rfl h.1 ?_
  replace h := h.2
  refine w_istore_n (lv' := [some (2, 428), some (0, l1), some (0, 1), some (0, m 436 l1), none]) rfl rfl rfl ?_
  exact w_W.less h (w_sub [true, true, true, true, false] rfl)
theorem xr_m_sayString_9 {d : Nat} {l1 l2 l3 : Int} {m : w_M} {Q : Int → w_M → Prop} (h : ((0 : Int) ≤ l1 ∧ l1 < 40000) ∧ (((0 : Int) ≤ l1 ∧ l1 < 40000) ∧ (if l3 < (w_32 ((m 436 l1) + (m 435 l1))) then (((0 : Int) ≤ l3 ∧ l3 < 150000) ∧ (if l2 = 0 then (xp_m_sayString_9 d l1 0 (w_32 (l3 + 1)) m Q) else (if ((m 440 l3) % 256) < 32 then (xp_m_sayString_9 d l1 0 (w_32 (l3 + 1)) m Q) else (if 126 < ((m 440 l3) % 256) then (xp_m_sayString_9 d l1 0 (w_32 (l3 + 1)) m Q) else (if ((m 440 l3) % 256) = 40 then (xp_m_sayString_9 d l1 0 (w_32 (l3 + 1)) m Q) else (if ((m 440 l3) % 256) = 41 then (xp_m_sayString_9 d l1 0 (w_32 (l3 + 1)) m Q) else (if ((m 440 l3) % 256) = 92 then (xp_m_sayString_9 d l1 0 (w_32 (l3 + 1)) m Q) else (xp_m_sayString_9 d l1 1 (w_32 (l3 + 1)) m Q)))))))) else (if l2 = 0 then (xc_m_say d 60 m (fun r1 m1 => ((0 : Int) ≤ l1 ∧ l1 < 40000) ∧ (xp_m_sayString_111 d l1 l2 (m1 436 l1) m1 Q))) else (xc_m_say d 40 m (fun r2 m2 => ((0 : Int) ≤ l1 ∧ l1 < 40000) ∧ (xp_m_sayString_111 d l1 l2 (m2 436 l1) m2 Q))))))) : xp_m_sayString_9 d l1 l2 l3 m Q := by
  refine w_iload_n rfl rfl ?_
  refine w_aload_n rfl rfl ?_
  refine w_gfC (c := 436) rfl s_428 rfl rfl ?_
  refine w_iload_n rfl rfl ?_
  refine w_iald rfl s_436 (n := 40000) rfl h.1 ?_
  replace h := h.2
  refine w_aload_n rfl rfl ?_
  refine w_gfC (c := 435) rfl s_428 rfl rfl ?_
  refine w_iload_n rfl rfl ?_
  refine w_iald rfl s_435 (n := 40000) rfl h.1 ?_
  replace h := h.2
  refine w_iadd rfl ?_
  refine w_icge rfl (w_ite h (fun h => ?_) (fun h => ?_))
  · refine w_aload_n rfl rfl ?_
    refine w_gfC (c := 440) rfl s_428 rfl rfl ?_
    refine w_iload_n rfl rfl ?_
    refine w_bald rfl s_440 (n := 150000) rfl h.1 ?_
    replace h := h.2
    refine w_sipush rfl (by decide) ?_
    refine w_iandm 8 (c := 256) rfl (by decide) rfl rfl ?_
    refine w_istore (lv' := [some (2, 428), some (0, l1), some (0, l2), some (0, l3), some (0, (m 440 l3) % 256)]) rfl rfl rfl ?_
    refine w_iload_n rfl rfl ?_
    refine w_ifeq rfl (w_ite h (fun h => ?_) (fun h => ?_))
    · refine w_iconst rfl (by decide) ?_
      refine w_istore_n (lv' := [some (2, 428), some (0, l1), some (0, 0), some (0, l3), some (0, (m 440 l3) % 256)]) rfl rfl rfl ?_
      refine w_iinc (lv' := [some (2, 428), some (0, l1), some (0, 0), some (0, w_32 (l3 + 1)), some (0, (m 440 l3) % 256)]) rfl rfl rfl rfl ?_
      refine w_goto rfl ?_
      exact w_W.less h (w_sub [true, true, true, true, false] rfl)
    · refine w_iload rfl rfl ?_
      refine w_bipush rfl (by decide) ?_
      refine w_iclt rfl (w_ite h (fun h => ?_) (fun h => ?_))
      · refine w_iconst rfl (by decide) ?_
        refine w_istore_n (lv' := [some (2, 428), some (0, l1), some (0, 0), some (0, l3), some (0, (m 440 l3) % 256)]) rfl rfl rfl ?_
        refine w_iinc (lv' := [some (2, 428), some (0, l1), some (0, 0), some (0, w_32 (l3 + 1)), some (0, (m 440 l3) % 256)]) rfl rfl rfl rfl ?_
        refine w_goto rfl ?_
        exact w_W.less h (w_sub [true, true, true, true, false] rfl)
      · refine w_iload rfl rfl ?_
        refine w_bipush rfl (by decide) ?_
        refine w_icgt rfl (w_ite h (fun h => ?_) (fun h => ?_))
        · refine w_iconst rfl (by decide) ?_
          refine w_istore_n (lv' := [some (2, 428), some (0, l1), some (0, 0), some (0, l3), some (0, (m 440 l3) % 256)]) rfl rfl rfl ?_
          refine w_iinc (lv' := [some (2, 428), some (0, l1), some (0, 0), some (0, w_32 (l3 + 1)), some (0, (m 440 l3) % 256)]) rfl rfl rfl rfl ?_
          refine w_goto rfl ?_
          exact w_W.less h (w_sub [true, true, true, true, false] rfl)
        · refine w_iload rfl rfl ?_
          refine w_bipush rfl (by decide) ?_
          refine w_iceq rfl (w_ite h (fun h => ?_) (fun h => ?_))
          · refine w_iconst rfl (by decide) ?_
            refine w_istore_n (lv' := [some (2, 428), some (0, l1), some (0, 0), some (0, l3), some (0, (m 440 l3) % 256)]) rfl rfl rfl ?_
            refine w_iinc (lv' := [some (2, 428), some (0, l1), some (0, 0), some (0, w_32 (l3 + 1)), some (0, (m 440 l3) % 256)]) rfl rfl rfl rfl ?_
            refine w_goto rfl ?_
            exact w_W.less h (w_sub [true, true, true, true, false] rfl)
          · refine w_iload rfl rfl ?_
            refine w_bipush rfl (by decide) ?_
            refine w_iceq rfl (w_ite h (fun h => ?_) (fun h => ?_))
            · refine w_iconst rfl (by decide) ?_
              refine w_istore_n (lv' := [some (2, 428), some (0, l1), some (0, 0), some (0, l3), some (0, (m 440 l3) % 256)]) rfl rfl rfl ?_
              refine w_iinc (lv' := [some (2, 428), some (0, l1), some (0, 0), some (0, w_32 (l3 + 1)), some (0, (m 440 l3) % 256)]) rfl rfl rfl rfl ?_
              refine w_goto rfl ?_
              exact w_W.less h (w_sub [true, true, true, true, false] rfl)
            · refine w_iload rfl rfl ?_
              refine w_bipush rfl (by decide) ?_
              refine w_iceq rfl (w_ite h (fun h => ?_) (fun h => ?_))
              · refine w_iconst rfl (by decide) ?_
                refine w_istore_n (lv' := [some (2, 428), some (0, l1), some (0, 0), some (0, l3), some (0, (m 440 l3) % 256)]) rfl rfl rfl ?_
                refine w_iinc (lv' := [some (2, 428), some (0, l1), some (0, 0), some (0, w_32 (l3 + 1)), some (0, (m 440 l3) % 256)]) rfl rfl rfl rfl ?_
                refine w_goto rfl ?_
                exact w_W.less h (w_sub [true, true, true, true, false] rfl)
              · refine w_iconst rfl (by decide) ?_
                refine w_goto rfl ?_
                refine w_istore_n (lv' := [some (2, 428), some (0, l1), some (0, 1), some (0, l3), some (0, (m 440 l3) % 256)]) rfl rfl rfl ?_
                refine w_iinc (lv' := [some (2, 428), some (0, l1), some (0, 1), some (0, w_32 (l3 + 1)), some (0, (m 440 l3) % 256)]) rfl rfl rfl rfl ?_
                refine w_goto rfl ?_
                exact w_W.less h (w_sub [true, true, true, true, false] rfl)
  · refine w_aload_n rfl rfl ?_
    refine w_iload_n rfl rfl ?_
    refine w_ifeq rfl (w_ite h (fun h => ?_) (fun h => ?_))
    · refine w_bipush rfl (by decide) ?_
      refine w_callV (t' := 3) [(0, 60)] [] rfl s_428 rfl rfl ?_
      refine w_C.more (Q := fun r1 m1 => _) h (fun r1 m1 h => ?_)
      replace h := id h
      refine w_aload_n rfl rfl ?_
      refine w_gfC (c := 436) rfl s_428 rfl rfl ?_
      refine w_iload_n rfl rfl ?_
      refine w_iald rfl s_436 (n := 40000) rfl h.1 ?_
      replace h := h.2
      refine w_istore_n (lv' := [some (2, 428), some (0, l1), some (0, l2), some (0, m1 436 l1), none]) rfl rfl rfl ?_
      exact w_W.less h (w_sub [true, true, true, true, false] rfl)
    · refine w_bipush rfl (by decide) ?_
      refine w_goto rfl ?_
      refine w_callV (t' := 3) [(0, 40)] [] rfl s_428 rfl rfl ?_
      refine w_C.more (Q := fun r2 m2 => _) h (fun r2 m2 h => ?_)
      replace h := id h
      refine w_aload_n rfl rfl ?_
      refine w_gfC (c := 436) rfl s_428 rfl rfl ?_
      refine w_iload_n rfl rfl ?_
      refine w_iald rfl s_436 (n := 40000) rfl h.1 ?_
      replace h := h.2
      refine w_istore_n (lv' := [some (2, 428), some (0, l1), some (0, l2), some (0, m2 436 l1), none]) rfl rfl rfl ?_
      exact w_W.less h (w_sub [true, true, true, true, false] rfl)
theorem xr_m_sayString_111 {d : Nat} {l1 l2 l3 : Int} {m : w_M} {Q : Int → w_M → Prop} (h : ((0 : Int) ≤ l1 ∧ l1 < 40000) ∧ (((0 : Int) ≤ l1 ∧ l1 < 40000) ∧ (if l3 < (w_32 ((m 436 l1) + (m 435 l1))) then (((0 : Int) ≤ l3 ∧ l3 < 150000) ∧ (if l2 = 0 then (xc_m_hexDigit d (((m 440 l3) % 256) / 16) m (fun r1 m1 => xc_m_say d r1 m1 (fun r2 m2 => xc_m_hexDigit d (((m 440 l3) % 256) % 16) m2 (fun r3 m3 => xc_m_say d r3 m3 (fun r4 m4 => xp_m_sayString_111 d l1 l2 (w_32 (l3 + 1)) m4 Q))))) else (xc_m_say d ((m 440 l3) % 256) m (fun r5 m5 => xp_m_sayString_111 d l1 l2 (w_32 (l3 + 1)) m5 Q)))) else (if l2 = 0 then (xc_m_say d 62 m (fun r6 m6 => Q 0 m6)) else (xc_m_say d 41 m (fun r7 m7 => Q 0 m7)))))) : xp_m_sayString_111 d l1 l2 l3 m Q := by
  refine w_iload_n rfl rfl ?_
  refine w_aload_n rfl rfl ?_
  refine w_gfC (c := 436) rfl s_428 rfl rfl ?_
  refine w_iload_n rfl rfl ?_
  refine w_iald rfl s_436 (n := 40000) rfl h.1 ?_
  replace h := h.2
  refine w_aload_n rfl rfl ?_
  refine w_gfC (c := 435) rfl s_428 rfl rfl ?_
  refine w_iload_n rfl rfl ?_
  refine w_iald rfl s_435 (n := 40000) rfl h.1 ?_
  replace h := h.2
  refine w_iadd rfl ?_
  refine w_icge rfl (w_ite h (fun h => ?_) (fun h => ?_))
  · refine w_aload_n rfl rfl ?_
    refine w_gfC (c := 440) rfl s_428 rfl rfl ?_
    refine w_iload_n rfl rfl ?_
    refine w_bald rfl s_440 (n := 150000) rfl h.1 ?_
    replace h := h.2
    refine w_sipush rfl (by decide) ?_
    refine w_iandm 8 (c := 256) rfl (by decide) rfl rfl ?_
    refine w_istore (lv' := [some (2, 428), some (0, l1), some (0, l2), some (0, l3), some (0, (m 440 l3) % 256)]) rfl rfl rfl ?_
    refine w_iload_n rfl rfl ?_
    refine w_ifeq rfl (w_ite h (fun h => ?_) (fun h => ?_))
    · refine w_aload_n rfl rfl ?_
      refine w_iload rfl rfl ?_
      refine w_iconst rfl (by decide) ?_
      refine w_ishrk (c := 16) rfl (by decide) (by decide) rfl ?_
      refine w_callS (t' := 0) [(0, ((m 440 l3) % 256) / 16)] [(2, 428)] rfl (by decide) rfl rfl ?_
      refine w_C.more (Q := fun r1 m1 => _) h (fun r1 m1 h => ?_)
      replace h := id h
      refine w_callV (t' := 3) [(0, r1)] [] rfl s_428 rfl rfl ?_
      refine w_C.more (Q := fun r2 m2 => _) h (fun r2 m2 h => ?_)
      replace h := id h
      refine w_aload_n rfl rfl ?_
      refine w_iload rfl rfl ?_
      refine w_bipush rfl (by decide) ?_
      refine w_iandm 4 (c := 16) rfl (by decide) rfl rfl ?_
      refine w_callS (t' := 0) [(0, ((m 440 l3) % 256) % 16)] [(2, 428)] rfl (by decide) rfl rfl ?_
      refine w_C.more (Q := fun r3 m3 => _) h (fun r3 m3 h => ?_)
      replace h := id h
      refine w_callV (t' := 3) [(0, r3)] [] rfl s_428 rfl rfl ?_
      refine w_C.more (Q := fun r4 m4 => _) h (fun r4 m4 h => ?_)
      replace h := id h
      refine w_iinc (lv' := [some (2, 428), some (0, l1), some (0, l2), some (0, w_32 (l3 + 1)), some (0, (m 440 l3) % 256)]) rfl rfl rfl rfl ?_
      refine w_goto rfl ?_
      exact w_W.less h (w_sub [true, true, true, true, false] rfl)
    · refine w_aload_n rfl rfl ?_
      refine w_iload rfl rfl ?_
      refine w_callV (t' := 3) [(0, (m 440 l3) % 256)] [] rfl s_428 rfl rfl ?_
      refine w_C.more (Q := fun r5 m5 => _) h (fun r5 m5 h => ?_)
      replace h := id h
      refine w_goto rfl ?_
      refine w_iinc (lv' := [some (2, 428), some (0, l1), some (0, l2), some (0, w_32 (l3 + 1)), some (0, (m 440 l3) % 256)]) rfl rfl rfl rfl ?_
      refine w_goto rfl ?_
      exact w_W.less h (w_sub [true, true, true, true, false] rfl)
  · refine w_aload_n rfl rfl ?_
    refine w_iload_n rfl rfl ?_
    refine w_ifeq rfl (w_ite h (fun h => ?_) (fun h => ?_))
    · refine w_bipush rfl (by decide) ?_
      refine w_callV (t' := 3) [(0, 62)] [] rfl s_428 rfl rfl ?_
      refine w_C.more (Q := fun r6 m6 => _) h (fun r6 m6 h => ?_)
      replace h := id h
      exact w_vret rfl rfl h
    · refine w_bipush rfl (by decide) ?_
      refine w_goto rfl ?_
      refine w_callV (t' := 3) [(0, 41)] [] rfl s_428 rfl rfl ?_
      refine w_C.more (Q := fun r7 m7 => _) h (fun r7 m7 h => ?_)
      replace h := id h
      exact w_vret rfl rfl h
theorem xr_m_sayText {d : Nat} {l1 : Int} {m : w_M} {Q : Int → w_M → Prop} (h : xp_m_sayText_2 d l1 0 m Q) : xc_m_sayText (d + 1) l1 m Q := by
  refine w_enter (q := 1) (lv := [some (2, 428), some (2, l1), none]) rfl rfl rfl ?_
  refine w_iconst rfl (by decide) ?_
  refine w_istore_n (lv' := [some (2, 428), some (2, l1), some (0, 0)]) rfl rfl rfl ?_
  exact w_W.less h (w_sub [true, true, true] rfl)
theorem xr_m_sayText_2 {d : Nat} {l1 l2 : Int} {m : w_M} {Q : Int → w_M → Prop} (h : w_isS l1 ∧ (xc_js_length sM d l1 m (fun r1 m1 => if l2 < r1 then (w_isS l1 ∧ (xc_js_charAt sM d l1 l2 m1 (fun r2 m2 => xc_m_say d r2 m2 (fun r3 m3 => xp_m_sayText_2 d l1 (w_32 (l2 + 1)) m3 Q)))) else (Q 0 m1)))) : xp_m_sayText_2 d l1 l2 m Q := by
  refine w_iload_n rfl rfl ?_
  refine w_aload_n rfl rfl ?_
  refine w_callV (t' := 0) [] [(0, l2)] rfl (w_isS_s h.1) rfl rfl ?_
  replace h := h.2
  refine w_C.more (Q := fun r1 m1 => _) h (fun r1 m1 h => ?_)
  replace h := id h
  refine w_icge rfl (w_ite h (fun h => ?_) (fun h => ?_))
  · refine w_aload_n rfl rfl ?_
    refine w_aload_n rfl rfl ?_
    refine w_iload_n rfl rfl ?_
    refine w_callV (t' := 0) [(0, l2)] [(2, 428)] rfl (w_isS_s h.1) rfl rfl ?_
    replace h := h.2
    refine w_C.more (Q := fun r2 m2 => _) h (fun r2 m2 h => ?_)
    replace h := id h
    refine w_callV (t' := 3) [(0, r2)] [] rfl s_428 rfl rfl ?_
    refine w_C.more (Q := fun r3 m3 => _) h (fun r3 m3 h => ?_)
    replace h := id h
    refine w_iinc (lv' := [some (2, 428), some (2, l1), some (0, w_32 (l2 + 1))]) rfl rfl rfl rfl ?_
    refine w_goto rfl ?_
    exact w_W.less h (w_sub [true, true, true] rfl)
  · exact w_vret rfl rfl h
theorem xr_m_section {d : Nat} {l1 : Int} {m : w_M} {Q : Int → w_M → Prop} (h : xp_m_section_2 d l1 0 m Q) : xc_m_section (d + 1) l1 m Q := by
  refine w_enter (q := 6) (lv := [some (2, 428), some (1, l1), none, none, none, none, none, none, none]) rfl rfl rfl ?_
  refine w_iconst rfl (by decide) ?_
  refine w_istore_n (lv' := [some (2, 428), some (1, l1), none, some (0, 0), none, none, none, none, none]) rfl rfl rfl ?_
  exact w_W.less h (w_sub [true, true, false, true, false, false, false, false, false] rfl)
theorem xr_m_section_2 {d : Nat} {l1 l3 : Int} {m : w_M} {Q : Int → w_M → Prop} (h : if l3 < (m 428 61) then (((0 : Int) ≤ l3 ∧ l3 < 12) ∧ (if (m 463 l3) = l1 then (xc_m_fail d 3 (w_32 l1) m (fun r1 m1 => Q (-1) m1)) else (xp_m_section_2 d l1 (w_32 (l3 + 1)) m Q))) else (if (m 428 3) < l1 then (xp_m_section_57 d l1 (m 428 3) m Q) else (xp_m_section_57 d l1 (w_32 l1) m Q))) : xp_m_section_2 d l1 l3 m Q := by
  refine w_iload_n rfl rfl ?_
  refine w_aload_n rfl rfl ?_
  refine x_gfI rfl s_428 rfl (kk := 61) rfl rfl ?_
  refine w_icge rfl (w_ite h (fun h => ?_) (fun h => ?_))
  · refine w_aload_n rfl rfl ?_
    refine w_gfC (c := 463) rfl s_428 rfl rfl ?_
    refine w_iload_n rfl rfl ?_
    refine w_lald rfl s_463 (w_EM (by decide)) (n := 12) rfl h.1 ?_
    replace h := h.2
    refine w_lload_n rfl rfl ?_
    refine w_lcne rfl rfl (w_ite h (fun h => ?_) (fun h => ?_))
    · refine w_aload_n rfl rfl ?_
      refine w_iconst rfl (by decide) ?_
      refine w_lload_n rfl rfl ?_
      refine w_l2i rfl ?_
      refine w_callV (t' := 3) [(0, w_32 l1), (0, 3)] [] rfl s_428 rfl rfl ?_
      refine w_C.more (Q := fun r1 m1 => _) h (fun r1 m1 h => ?_)
      replace h := id h
      refine w_ldc2 (a := (-1)) rfl (by decide +kernel) (by decide) ?_
      exact w_lret rfl rfl h
    · refine w_iinc (lv' := [some (2, 428), some (1, l1), none, some (0, w_32 (l3 + 1)), none, none, none, none, none]) rfl rfl rfl rfl ?_
      refine w_goto rfl ?_
      exact w_W.less h (w_sub [true, true, false, true, false, false, false, false, false] rfl)
  · refine w_lload_n rfl rfl ?_
    refine w_aload_n rfl rfl ?_
    refine x_gfI rfl s_428 rfl (kk := 3) rfl rfl ?_
    refine w_i2l rfl ?_
    refine w_lcle rfl rfl (w_ite h (fun h => ?_) (fun h => ?_))
    · refine w_aload_n rfl rfl ?_
      refine x_gfI rfl s_428 rfl (kk := 3) rfl rfl ?_
      refine w_goto rfl ?_
      exact w_W.less h (w_sub [true, true, false, false, false, false, false, false, false] rfl)
    · refine w_lload_n rfl rfl ?_
      refine w_l2i rfl ?_
      exact w_W.less h (w_sub [true, true, false, false, false, false, false, false, false] rfl)
theorem xr_m_section_57 {d : Nat} {l1 s0 : Int} {m : w_M} {Q : Int → w_M → Prop} (h : if (m 428 61) = 10 then (xc_m_fail d 5 s0 m (fun r1 m1 => Q (-1) m1)) else (if l1 < (m 428 3) then (((0 : Int) ≤ (m 428 61) ∧ (m 428 61) < 12) ∧ (xp_m_section_113 d s0 0 (w_up m 463 (m 428 61) l1) Q)) else (xc_m_fail d 3 (m 428 3) m (fun r2 m2 => Q (-1) m2)))) : xp_m_section_57 d l1 s0 m Q := by
  refine w_istore_n (lv' := [some (2, 428), some (1, l1), none, some (0, s0), none, none, none, none, none]) rfl rfl rfl ?_
  refine w_aload_n rfl rfl ?_
  refine x_gfI rfl s_428 rfl (kk := 61) rfl rfl ?_
  refine w_bipush rfl (by decide) ?_
  refine w_icne rfl (w_ite h (fun h => ?_) (fun h => ?_))
  · refine w_aload_n rfl rfl ?_
    refine w_iconst rfl (by decide) ?_
    refine w_iload_n rfl rfl ?_
    refine w_callV (t' := 3) [(0, s0), (0, 5)] [] rfl s_428 rfl rfl ?_
    refine w_C.more (Q := fun r1 m1 => _) h (fun r1 m1 h => ?_)
    replace h := id h
    refine w_ldc2 (a := (-1)) rfl (by decide +kernel) (by decide) ?_
    exact w_lret rfl rfl h
  · refine w_lload_n rfl rfl ?_
    refine w_aload_n rfl rfl ?_
    refine x_gfI rfl s_428 rfl (kk := 3) rfl rfl ?_
    refine w_i2l rfl ?_
    refine w_lclt rfl rfl (w_ite h (fun h => ?_) (fun h => ?_))
    · refine w_aload_n rfl rfl ?_
      refine w_gfC (c := 463) rfl s_428 rfl rfl ?_
      refine w_aload_n rfl rfl ?_
      refine x_gfI rfl s_428 rfl (kk := 61) rfl rfl ?_
      refine w_lload_n rfl rfl ?_
      refine w_last rfl s_463 (w_EM (by decide)) (n := 12) rfl h.1 ?_
      replace h := h.2
      refine w_iconst rfl (by decide) ?_
      refine w_istore (lv' := [some (2, 428), some (1, l1), none, some (0, s0), some (0, 0), none, none, none, none]) rfl rfl rfl ?_
      exact w_W.less h (w_sub [true, false, false, true, true, false, false, false, false] rfl)
    · refine w_aload_n rfl rfl ?_
      refine w_iconst rfl (by decide) ?_
      refine w_aload_n rfl rfl ?_
      refine x_gfI rfl s_428 rfl (kk := 3) rfl rfl ?_
      refine w_callV (t' := 3) [(0, m 428 3), (0, 3)] [] rfl s_428 rfl rfl ?_
      refine w_C.more (Q := fun r2 m2 => _) h (fun r2 m2 h => ?_)
      replace h := id h
      refine w_ldc2 (a := (-1)) rfl (by decide +kernel) (by decide) ?_
      exact w_lret rfl rfl h
theorem xr_m_section_113 {d : Nat} {l3 l4 : Int} {m : w_M} {Q : Int → w_M → Prop} (h : if l4 < 200 then (((0 : Int) ≤ l4 ∧ l4 < 200) ∧ (xp_m_section_113 d l3 (w_32 (l4 + 1)) (w_up m 464 l4 (w_8 (-1))) Q)) else (xc_m_from d 430 0 (m 428 3) (w_up m 428 75 (-1)) (fun r1 m1 => xc_m_stand d 300 l3 (w_up m1 428 21 l3) (fun r2 m2 => if r2 = 0 then (xc_m_rowStream d l3 m2 (fun r3 m3 => xp_m_section_218 d l3 0 r3 m3 Q)) else (xc_m_byteHere d (w_32 (l3 + 4)) m2 (fun r4 m4 => xc_m_isRegular d r4 m4 (fun r5 m5 => if r5 = 0 then (xc_m_table d l3 (w_up m5 428 21 (w_32 (l3 + 4))) (fun r6 m6 => xp_m_section_218 d l3 1 r6 m6 Q)) else (xc_m_rowStream d l3 m5 (fun r7 m7 => xp_m_section_218 d l3 0 r7 m7 Q))))))))) : xp_m_section_113 d l3 l4 m Q := by
  refine w_iload rfl rfl ?_
  refine w_sipush rfl (by decide) ?_
  refine w_icge rfl (w_ite h (fun h => ?_) (fun h => ?_))
  · refine w_aload_n rfl rfl ?_
    refine w_gfC (c := 464) rfl s_428 rfl rfl ?_
    refine w_iload rfl rfl ?_
    refine w_iconst rfl (by decide) ?_
    refine w_bast rfl s_464 (w_EM (by decide)) (n := 200) rfl h.1 ?_
    replace h := h.2
    refine w_iinc (lv' := [some (2, 428), none, none, some (0, l3), some (0, w_32 (l4 + 1)), none, none, none, none]) rfl rfl rfl rfl ?_
    refine w_goto rfl ?_
    exact w_W.less h (w_sub [true, false, false, true, true, false, false, false, false] rfl)
  · refine w_aload_n rfl rfl ?_
    refine w_iconst rfl (by decide) ?_
    refine w_pfI rfl s_428 rfl (w_EM (by decide)) rfl (kk := 75) rfl ?_
    refine w_aload_n rfl rfl ?_
    refine w_aload_n rfl rfl ?_
    refine w_gfC (c := 430) rfl s_428 rfl rfl ?_
    refine w_iconst rfl (by decide) ?_
    refine w_aload_n rfl rfl ?_
    refine x_gfI rfl s_428 rfl (kk := 3) rfl (w_up_nb (by decide)) ?_
    refine w_callV (t' := 3) [(0, m 428 3), (0, 0), (2, 430)] [] rfl s_428 rfl rfl ?_
    refine w_C.more (Q := fun r1 m1 => _) h (fun r1 m1 h => ?_)
    replace h := id h
    refine w_aload_n rfl rfl ?_
    refine w_iload_n rfl rfl ?_
    refine w_pfI rfl s_428 rfl (w_EM (by decide)) rfl (kk := 21) rfl ?_
    refine w_aload_n rfl rfl ?_
    refine w_ldcwR rfl ?_
    refine w_iload_n rfl rfl ?_
    refine w_callV (t' := 0) [(0, l3), (2, 300)] [] rfl s_428 rfl rfl ?_
    refine w_C.more (Q := fun r2 m2 => _) h (fun r2 m2 h => ?_)
    replace h := id h
    refine w_ifeq rfl (w_ite h (fun h => ?_) (fun h => ?_))
    · refine w_iconst rfl (by decide) ?_
      refine w_istore (lv' := [some (2, 428), none, none, some (0, l3), some (0, 0), none, none, none, none]) rfl rfl rfl ?_
      refine w_iload rfl rfl ?_
      refine w_ifeq rfl (w_ift (by decide) ?_)
      refine w_aload_n rfl rfl ?_
      refine w_iload_n rfl rfl ?_
      refine w_callV (t' := 0) [(0, l3)] [] rfl s_428 rfl rfl ?_
      refine w_C.more (Q := fun r3 m3 => _) h (fun r3 m3 h => ?_)
      replace h := id h
      refine w_istore (lv' := [some (2, 428), none, none, some (0, l3), some (0, 0), some (0, r3), none, none, none]) rfl rfl rfl ?_
      exact w_W.less h (w_sub [true, false, false, true, true, true, false, false, false] rfl)
    · refine w_aload_n rfl rfl ?_
      refine w_iload_n rfl rfl ?_
      refine w_iconst rfl (by decide) ?_
      refine w_iadd rfl ?_
      refine w_callV (t' := 0) [(0, w_32 (l3 + 4))] [] rfl s_428 rfl rfl ?_
      refine w_C.more (Q := fun r4 m4 => _) h (fun r4 m4 h => ?_)
      replace h := id h
      refine w_callS (t' := 0) [(0, r4)] [] rfl (by decide) rfl rfl ?_
      refine w_C.more (Q := fun r5 m5 => _) h (fun r5 m5 h => ?_)
      replace h := id h
      refine w_ifne rfl (w_ite h (fun h => ?_) (fun h => ?_))
      · refine w_iconst rfl (by decide) ?_
        refine w_goto rfl ?_
        refine w_istore (lv' := [some (2, 428), none, none, some (0, l3), some (0, 1), none, none, none, none]) rfl rfl rfl ?_
        refine w_iload rfl rfl ?_
        refine w_ifeq rfl (w_iff (by decide) ?_)
        refine w_aload_n rfl rfl ?_
        refine w_iload_n rfl rfl ?_
        refine w_iconst rfl (by decide) ?_
        refine w_iadd rfl ?_
        refine w_pfI rfl s_428 rfl (w_EM (by decide)) rfl (kk := 21) rfl ?_
        refine w_aload_n rfl rfl ?_
        refine w_iload_n rfl rfl ?_
        refine w_callV (t' := 0) [(0, l3)] [] rfl s_428 rfl rfl ?_
        refine w_C.more (Q := fun r6 m6 => _) h (fun r6 m6 h => ?_)
        replace h := id h
        refine w_istore (lv' := [some (2, 428), none, none, some (0, l3), some (0, 1), some (0, r6), none, none, none]) rfl rfl rfl ?_
        refine w_goto rfl ?_
        exact w_W.less h (w_sub [true, false, false, true, true, true, false, false, false] rfl)
      · refine w_iconst rfl (by decide) ?_
        refine w_istore (lv' := [some (2, 428), none, none, some (0, l3), some (0, 0), none, none, none, none]) rfl rfl rfl ?_
        refine w_iload rfl rfl ?_
        refine w_ifeq rfl (w_ift (by decide) ?_)
        refine w_aload_n rfl rfl ?_
        refine w_iload_n rfl rfl ?_
        refine w_callV (t' := 0) [(0, l3)] [] rfl s_428 rfl rfl ?_
        refine w_C.more (Q := fun r7 m7 => _) h (fun r7 m7 h => ?_)
        replace h := id h
        refine w_istore (lv' := [some (2, 428), none, none, some (0, l3), some (0, 0), some (0, r7), none, none, none]) rfl rfl rfl ?_
        exact w_W.less h (w_sub [true, false, false, true, true, true, false, false, false] rfl)
theorem xr_m_section_218 {d : Nat} {l3 l4 l5 : Int} {m : w_M} {Q : Int → w_M → Prop} (h : xc_m_good d m (fun r1 m1 => if r1 = 0 then (Q (-1) m1) else (xc_m_rawEntry d l5 302 m1 (fun r2 m2 => if r2 < 0 then (xc_m_rawEntry d l5 304 m2 (fun r3 m3 => if r3 < 0 then (xc_m_wholeAt d l5 198 (-1) m3 (fun r4 m4 => xc_m_rawEntry d l5 306 m4 (fun r5 m5 => if 200 < r4 then (xc_m_fail d 5 l3 m5 (fun r6 m6 => xp_m_section_351 d l4 l5 r4 r5 m6 Q)) else (if r4 < 1 then (xc_m_fail d 3 l3 m5 (fun r7 m7 => xp_m_section_351 d l4 l5 r4 r5 m7 Q)) else (if (m5 428 75) < r4 then (if r5 < 0 then (xp_m_section_351 d l4 l5 r4 r5 m5 Q) else (((0 : Int) ≤ r5 ∧ r5 < 40000) ∧ (if (m5 432 r5) = 2 then (((0 : Int) ≤ r5 ∧ r5 < 40000) ∧ (if (m5 433 r5) < 0 then (xc_m_fail d 3 l3 m5 (fun r8 m8 => xp_m_section_351 d l4 l5 r4 r5 m8 Q)) else (xp_m_section_351 d l4 l5 r4 r5 m5 Q))) else (xc_m_fail d 3 l3 m5 (fun r9 m9 => xp_m_section_351 d l4 l5 r4 r5 m9 Q))))) else (xc_m_fail d 3 l3 m5 (fun r10 m10 => xp_m_section_351 d l4 l5 r4 r5 m10 Q))))))) else (xc_m_fail d 9 l3 m3 (fun r11 m11 => Q (-1) m11)))) else (xc_m_fail d 9 l3 m2 (fun r12 m12 => Q (-1) m12)))))) : xp_m_section_218 d l3 l4 l5 m Q := by
  refine w_aload_n rfl rfl ?_
  refine w_callV (t' := 0) [] [] rfl s_428 rfl rfl ?_
  refine w_C.more (Q := fun r1 m1 => _) h (fun r1 m1 h => ?_)
  replace h := id h
  refine w_ifne rfl (w_ite h (fun h => ?_) (fun h => ?_))
  · refine w_ldc2 (a := (-1)) rfl (by decide +kernel) (by decide) ?_
    exact w_lret rfl rfl h
  · refine w_aload_n rfl rfl ?_
    refine w_iload rfl rfl ?_
    refine w_ldcwR rfl ?_
    refine w_callV (t' := 0) [(2, 302), (0, l5)] [] rfl s_428 rfl rfl ?_
    refine w_C.more (Q := fun r2 m2 => _) h (fun r2 m2 h => ?_)
    replace h := id h
    refine w_ifge rfl (w_ite h (fun h => ?_) (fun h => ?_))
    · refine w_aload_n rfl rfl ?_
      refine w_iload rfl rfl ?_
      refine w_ldcwR rfl ?_
      refine w_callV (t' := 0) [(2, 304), (0, l5)] [] rfl s_428 rfl rfl ?_
      refine w_C.more (Q := fun r3 m3 => _) h (fun r3 m3 h => ?_)
      replace h := id h
      refine w_iflt rfl (w_ite h (fun h => ?_) (fun h => ?_))
      · refine w_aload_n rfl rfl ?_
        refine w_iload rfl rfl ?_
        refine w_ldcwR rfl ?_
        refine w_iconst rfl (by decide) ?_
        refine w_callV (t' := 0) [(0, (-1)), (2, 198), (0, l5)] [] rfl s_428 rfl rfl ?_
        refine w_C.more (Q := fun r4 m4 => _) h (fun r4 m4 h => ?_)
        replace h := id h
        refine w_istore (lv' := [some (2, 428), none, none, some (0, l3), some (0, l4), some (0, l5), some (0, r4), none, none]) rfl rfl rfl ?_
        refine w_aload_n rfl rfl ?_
        refine w_iload rfl rfl ?_
        refine w_ldcwR rfl ?_
        refine w_callV (t' := 0) [(2, 306), (0, l5)] [] rfl s_428 rfl rfl ?_
        refine w_C.more (Q := fun r5 m5 => _) h (fun r5 m5 h => ?_)
        replace h := id h
        refine w_istore (lv' := [some (2, 428), none, none, some (0, l3), some (0, l4), some (0, l5), some (0, r4), some (0, r5), none]) rfl rfl rfl ?_
        refine w_iload rfl rfl ?_
        refine w_sipush rfl (by decide) ?_
        refine w_icle rfl (w_ite h (fun h => ?_) (fun h => ?_))
        · refine w_aload_n rfl rfl ?_
          refine w_iconst rfl (by decide) ?_
          refine w_iload_n rfl rfl ?_
          refine w_callV (t' := 3) [(0, l3), (0, 5)] [] rfl s_428 rfl rfl ?_
          refine w_C.more (Q := fun r6 m6 => _) h (fun r6 m6 h => ?_)
          replace h := id h
          refine w_goto rfl ?_
          exact w_W.less h (w_sub [true, false, false, false, true, true, true, true, false] rfl)
        · refine w_iload rfl rfl ?_
          refine w_iconst rfl (by decide) ?_
          refine w_iclt rfl (w_ite h (fun h => ?_) (fun h => ?_))
          · refine w_aload_n rfl rfl ?_
            refine w_iconst rfl (by decide) ?_
            refine w_iload_n rfl rfl ?_
            refine w_callV (t' := 3) [(0, l3), (0, 3)] [] rfl s_428 rfl rfl ?_
            refine w_C.more (Q := fun r7 m7 => _) h (fun r7 m7 h => ?_)
            replace h := id h
            exact w_W.less h (w_sub [true, false, false, false, true, true, true, true, false] rfl)
          · refine w_aload_n rfl rfl ?_
            refine x_gfI rfl s_428 rfl (kk := 75) rfl rfl ?_
            refine w_iload rfl rfl ?_
            refine w_icge rfl (w_ite h (fun h => ?_) (fun h => ?_))
            · refine w_iload rfl rfl ?_
              refine w_iflt rfl (w_ite h (fun h => ?_) (fun h => ?_))
              · exact w_W.less h (w_sub [true, false, false, false, true, true, true, true, false] rfl)
              · refine w_aload_n rfl rfl ?_
                refine w_gfC (c := 432) rfl s_428 rfl rfl ?_
                refine w_iload rfl rfl ?_
                refine w_bald rfl s_432 (n := 40000) rfl h.1 ?_
                replace h := h.2
                refine w_iconst rfl (by decide) ?_
                refine w_icne rfl (w_ite h (fun h => ?_) (fun h => ?_))
                · refine w_aload_n rfl rfl ?_
                  refine w_gfC (c := 433) rfl s_428 rfl rfl ?_
                  refine w_iload rfl rfl ?_
                  refine w_iald rfl s_433 (n := 40000) rfl h.1 ?_
                  replace h := h.2
                  refine w_ifge rfl (w_ite h (fun h => ?_) (fun h => ?_))
                  · refine w_aload_n rfl rfl ?_
                    refine w_iconst rfl (by decide) ?_
                    refine w_iload_n rfl rfl ?_
                    refine w_callV (t' := 3) [(0, l3), (0, 3)] [] rfl s_428 rfl rfl ?_
                    refine w_C.more (Q := fun r8 m8 => _) h (fun r8 m8 h => ?_)
                    replace h := id h
                    exact w_W.less h (w_sub [true, false, false, false, true, true, true, true, false] rfl)
                  · exact w_W.less h (w_sub [true, false, false, false, true, true, true, true, false] rfl)
                · refine w_aload_n rfl rfl ?_
                  refine w_iconst rfl (by decide) ?_
                  refine w_iload_n rfl rfl ?_
                  refine w_callV (t' := 3) [(0, l3), (0, 3)] [] rfl s_428 rfl rfl ?_
                  refine w_C.more (Q := fun r9 m9 => _) h (fun r9 m9 h => ?_)
                  replace h := id h
                  exact w_W.less h (w_sub [true, false, false, false, true, true, true, true, false] rfl)
            · refine w_aload_n rfl rfl ?_
              refine w_iconst rfl (by decide) ?_
              refine w_iload_n rfl rfl ?_
              refine w_callV (t' := 3) [(0, l3), (0, 3)] [] rfl s_428 rfl rfl ?_
              refine w_C.more (Q := fun r10 m10 => _) h (fun r10 m10 h => ?_)
              replace h := id h
              exact w_W.less h (w_sub [true, false, false, false, true, true, true, true, false] rfl)
      · refine w_aload_n rfl rfl ?_
        refine w_bipush rfl (by decide) ?_
        refine w_iload_n rfl rfl ?_
        refine w_callV (t' := 3) [(0, l3), (0, 9)] [] rfl s_428 rfl rfl ?_
        refine w_C.more (Q := fun r11 m11 => _) h (fun r11 m11 h => ?_)
        replace h := id h
        refine w_ldc2 (a := (-1)) rfl (by decide +kernel) (by decide) ?_
        exact w_lret rfl rfl h
    · refine w_aload_n rfl rfl ?_
      refine w_bipush rfl (by decide) ?_
      refine w_iload_n rfl rfl ?_
      refine w_callV (t' := 3) [(0, l3), (0, 9)] [] rfl s_428 rfl rfl ?_
      refine w_C.more (Q := fun r12 m12 => _) h (fun r12 m12 h => ?_)
      replace h := id h
      refine w_ldc2 (a := (-1)) rfl (by decide +kernel) (by decide) ?_
      exact w_lret rfl rfl h
theorem xr_m_section_351 {d : Nat} {l4 l5 l6 l7 : Int} {m : w_M} {Q : Int → w_M → Prop} (h : xc_m_good d m (fun r1 m1 => if r1 = 0 then (Q (-1) m1) else (if (m1 428 61) = 0 then (if l4 = 0 then (xp_m_section_408 d l7 1 (w_up (w_up (w_up (w_up m1 428 60 l6) 428 63 1) 428 64 l5) 428 61 (w_32 ((m1 428 61) + 1))) Q) else (xp_m_section_408 d l7 1 (w_up (w_up (w_up (w_up m1 428 60 l6) 428 63 0) 428 64 l5) 428 61 (w_32 ((m1 428 61) + 1))) Q)) else (xp_m_section_408 d l7 1 (w_up m1 428 61 (w_32 ((m1 428 61) + 1))) Q)))) : xp_m_section_351 d l4 l5 l6 l7 m Q := by
  refine w_aload_n rfl rfl ?_
  refine w_callV (t' := 0) [] [] rfl s_428 rfl rfl ?_
  refine w_C.more (Q := fun r1 m1 => _) h (fun r1 m1 h => ?_)
  replace h := id h
  refine w_ifne rfl (w_ite h (fun h => ?_) (fun h => ?_))
  · refine w_ldc2 (a := (-1)) rfl (by decide +kernel) (by decide) ?_
    exact w_lret rfl rfl h
  · refine w_aload_n rfl rfl ?_
    refine x_gfI rfl s_428 rfl (kk := 61) rfl rfl ?_
    refine w_ifne rfl (w_ite h (fun h => ?_) (fun h => ?_))
    · refine w_aload_n rfl rfl ?_
      refine w_iload rfl rfl ?_
      refine w_pfI rfl s_428 rfl (w_EM (by decide)) rfl (kk := 60) rfl ?_
      refine w_aload_n rfl rfl ?_
      refine w_iload rfl rfl ?_
      refine w_ifne rfl (w_ite h (fun h => ?_) (fun h => ?_))
      · refine w_iconst rfl (by decide) ?_
        refine w_goto rfl ?_
        refine w_pfZ rfl s_428 rfl (w_EM (by decide)) rfl (kk := 63) rfl (by decide) ?_
        refine w_aload_n rfl rfl ?_
        refine w_iload rfl rfl ?_
        refine w_pfI rfl s_428 rfl (w_EM (by decide)) rfl (kk := 64) rfl ?_
        refine w_aload_n rfl rfl ?_
        refine w_dup rfl (show (2 : Nat) ≠ 1 by decide) ?_
        refine x_gfI rfl s_428 rfl (kk := 61) rfl ((w_up_nb (by decide)).trans ((w_up_nb (by decide)).trans (w_up_nb (by decide)))) ?_
        refine w_iconst rfl (by decide) ?_
        refine w_iadd rfl ?_
        refine w_pfI rfl s_428 rfl (w_EM (by decide)) rfl (kk := 61) rfl ?_
        refine w_iconst rfl (by decide) ?_
        refine w_istore (lv' := [some (2, 428), none, none, none, some (0, l4), some (0, l5), some (0, l6), some (0, l7), some (0, 1)]) rfl rfl rfl ?_
        exact w_W.less h (w_sub [true, false, false, false, false, false, false, true, true] rfl)
      · refine w_iconst rfl (by decide) ?_
        refine w_pfZ rfl s_428 rfl (w_EM (by decide)) rfl (kk := 63) rfl (by decide) ?_
        refine w_aload_n rfl rfl ?_
        refine w_iload rfl rfl ?_
        refine w_pfI rfl s_428 rfl (w_EM (by decide)) rfl (kk := 64) rfl ?_
        refine w_aload_n rfl rfl ?_
        refine w_dup rfl (show (2 : Nat) ≠ 1 by decide) ?_
        refine x_gfI rfl s_428 rfl (kk := 61) rfl ((w_up_nb (by decide)).trans ((w_up_nb (by decide)).trans (w_up_nb (by decide)))) ?_
        refine w_iconst rfl (by decide) ?_
        refine w_iadd rfl ?_
        refine w_pfI rfl s_428 rfl (w_EM (by decide)) rfl (kk := 61) rfl ?_
        refine w_iconst rfl (by decide) ?_
        refine w_istore (lv' := [some (2, 428), none, none, none, some (0, l4), some (0, l5), some (0, l6), some (0, l7), some (0, 1)]) rfl rfl rfl ?_
        exact w_W.less h (w_sub [true, false, false, false, false, false, false, true, true] rfl)
    · refine w_aload_n rfl rfl ?_
      refine w_dup rfl (show (2 : Nat) ≠ 1 by decide) ?_
      refine x_gfI rfl s_428 rfl (kk := 61) rfl rfl ?_
      refine w_iconst rfl (by decide) ?_
      refine w_iadd rfl ?_
      refine w_pfI rfl s_428 rfl (w_EM (by decide)) rfl (kk := 61) rfl ?_
      refine w_iconst rfl (by decide) ?_
      refine w_istore (lv' := [some (2, 428), none, none, none, some (0, l4), some (0, l5), some (0, l6), some (0, l7), some (0, 1)]) rfl rfl rfl ?_
      exact w_W.less h (w_sub [true, false, false, false, false, false, false, true, true] rfl)
theorem xr_m_section_408 {d : Nat} {l7 l8 : Int} {m : w_M} {Q : Int → w_M → Prop} (h : if l8 < (m 428 60) then (((0 : Int) ≤ l8 ∧ l8 < 200) ∧ (if (m 454 l8) = 0 then (((0 : Int) ≤ l8 ∧ l8 < 200) ∧ (if (m 464 l8) < 0 then (xp_m_section_408 d l7 (w_32 (l8 + 1)) m Q) else (((0 : Int) ≤ l8 ∧ l8 < 200) ∧ (((0 : Int) ≤ l8 ∧ l8 < 200) ∧ (((0 : Int) ≤ l8 ∧ l8 < 200) ∧ (((0 : Int) ≤ l8 ∧ l8 < 200) ∧ (((0 : Int) ≤ l8 ∧ l8 < 200) ∧ (((0 : Int) ≤ l8 ∧ l8 < 200) ∧ (((0 : Int) ≤ l8 ∧ l8 < 200) ∧ (xp_m_section_408 d l7 (w_32 (l8 + 1)) (w_up (w_up (w_up (w_up m 454 l8 1) 451 l8 (w_8 ((w_up m 454 l8 1) 464 l8))) 452 l8 ((w_up (w_up m 454 l8 1) 451 l8 (w_8 ((w_up m 454 l8 1) 464 l8))) 465 l8)) 453 l8 ((w_up (w_up (w_up m 454 l8 1) 451 l8 (w_8 ((w_up m 454 l8 1) 464 l8))) 452 l8 ((w_up (w_up m 454 l8 1) 451 l8 (w_8 ((w_up m 454 l8 1) 464 l8))) 465 l8)) 466 l8)) Q)))))))))) else (xp_m_section_408 d l7 (w_32 (l8 + 1)) m Q))) else (if l7 < 0 then (Q (-1) m) else (((0 : Int) ≤ l7 ∧ l7 < 40000) ∧ (Q (m 433 l7) m)))) : xp_m_section_408 d l7 l8 m Q := by
  refine w_iload rfl rfl ?_
  refine w_aload_n rfl rfl ?_
  refine x_gfI rfl s_428 rfl (kk := 60) rfl rfl ?_
  refine w_icge rfl (w_ite h (fun h => ?_) (fun h => ?_))
  · refine w_aload_n rfl rfl ?_
    refine w_gfC (c := 454) rfl s_428 rfl rfl ?_
    refine w_iload rfl rfl ?_
    refine w_zald rfl s_454 (n := 200) rfl h.1 ?_
    replace h := h.2
    refine w_ifne rfl (w_ite h (fun h => ?_) (fun h => ?_))
    · refine w_aload_n rfl rfl ?_
      refine w_gfC (c := 464) rfl s_428 rfl rfl ?_
      refine w_iload rfl rfl ?_
      refine w_bald rfl s_464 (n := 200) rfl h.1 ?_
      replace h := h.2
      refine w_iflt rfl (w_ite h (fun h => ?_) (fun h => ?_))
      · refine w_iinc (lv' := [some (2, 428), none, none, none, none, none, none, some (0, l7), some (0, w_32 (l8 + 1))]) rfl rfl rfl rfl ?_
        refine w_goto rfl ?_
        exact w_W.less h (w_sub [true, false, false, false, false, false, false, true, true] rfl)
      · refine w_aload_n rfl rfl ?_
        refine w_gfC (c := 454) rfl s_428 rfl rfl ?_
        refine w_iload rfl rfl ?_
        refine w_iconst rfl (by decide) ?_
        refine w_zast rfl s_454 (w_EM (by decide)) (n := 200) rfl h.1 (by decide) ?_
        replace h := h.2
        refine w_aload_n rfl rfl ?_
        refine w_gfC (c := 451) rfl s_428 rfl rfl ?_
        refine w_iload rfl rfl ?_
        refine w_aload_n rfl rfl ?_
        refine w_gfC (c := 464) rfl s_428 rfl rfl ?_
        refine w_iload rfl rfl ?_
        refine w_bald rfl s_464 (n := 200) rfl h.1 ?_
        replace h := h.2
        refine w_bast rfl s_451 (w_EM (by decide)) (n := 200) rfl h.1 ?_
        replace h := h.2
        refine w_aload_n rfl rfl ?_
        refine w_gfC (c := 452) rfl s_428 rfl rfl ?_
        refine w_iload rfl rfl ?_
        refine w_aload_n rfl rfl ?_
        refine w_gfC (c := 465) rfl s_428 rfl rfl ?_
        refine w_iload rfl rfl ?_
        refine w_lald rfl s_465 (w_EM (by decide)) (n := 200) rfl h.1 ?_
        replace h := h.2
        refine w_last rfl s_452 (w_EM (by decide)) (n := 200) rfl h.1 ?_
        replace h := h.2
        refine w_aload_n rfl rfl ?_
        refine w_gfC (c := 453) rfl s_428 rfl rfl ?_
        refine w_iload rfl rfl ?_
        refine w_aload_n rfl rfl ?_
        refine w_gfC (c := 466) rfl s_428 rfl rfl ?_
        refine w_iload rfl rfl ?_
        refine w_lald rfl s_466 (w_EM (by decide)) (n := 200) rfl h.1 ?_
        replace h := h.2
        refine w_last rfl s_453 (w_EM (by decide)) (n := 200) rfl h.1 ?_
        replace h := h.2
        refine w_iinc (lv' := [some (2, 428), none, none, none, none, none, none, some (0, l7), some (0, w_32 (l8 + 1))]) rfl rfl rfl rfl ?_
        refine w_goto rfl ?_
        exact w_W.less h (w_sub [true, false, false, false, false, false, false, true, true] rfl)
    · refine w_iinc (lv' := [some (2, 428), none, none, none, none, none, none, some (0, l7), some (0, w_32 (l8 + 1))]) rfl rfl rfl rfl ?_
      refine w_goto rfl ?_
      exact w_W.less h (w_sub [true, false, false, false, false, false, false, true, true] rfl)
  · refine w_iload rfl rfl ?_
    refine w_ifge rfl (w_ite h (fun h => ?_) (fun h => ?_))
    · refine w_ldc2 (a := (-1)) rfl (by decide +kernel) (by decide) ?_
      refine w_goto rfl ?_
      exact w_lret rfl rfl h
    · refine w_aload_n rfl rfl ?_
      refine w_gfC (c := 433) rfl s_428 rfl rfl ?_
      refine w_iload rfl rfl ?_
      refine w_iald rfl s_433 (n := 40000) rfl h.1 ?_
      replace h := h.2
      refine w_i2l rfl ?_
      exact w_lret rfl rfl h
theorem xr_m_show {d : Nat} {l1 : Int} {m : w_M} {Q : Int → w_M → Prop} (h : xc_m_isPage d l1 m (fun r1 m1 => if r1 = 0 then (Q (-1) m1) else (((0 : Int) ≤ l1 ∧ l1 < 61) ∧ (xc_m_gather d (m1 468 l1) m1 (fun r2 m2 => ((0 : Int) ≤ l1 ∧ l1 < 61) ∧ (xc_m_holder d (m2 468 l1) 256 m2 (fun r3 m3 => if r3 = 0 then (xp_m_show_60 d (-1) m3 Q) else (((0 : Int) ≤ r3 ∧ r3 < 200) ∧ (xc_m_rawEntry d (m3 455 r3) 256 m3 (fun r4 m4 => xc_m_dictAt d r4 m4 (fun r5 m5 => xp_m_show_60 d r5 m5 Q))))))))))) : xc_m_show (d + 1) l1 m Q := by
  refine w_enter (q := 4) (lv := [some (2, 428), some (0, l1), none, none, none, none]) rfl rfl rfl ?_
  refine w_aload_n rfl rfl ?_
  refine w_iload_n rfl rfl ?_
  refine w_callV (t' := 0) [(0, l1)] [] rfl s_428 rfl rfl ?_
  refine w_C.more (Q := fun r1 m1 => _) h (fun r1 m1 h => ?_)
  replace h := id h
  refine w_ifne rfl (w_ite h (fun h => ?_) (fun h => ?_))
  · refine w_iconst rfl (by decide) ?_
    exact w_iret rfl rfl h
  · refine w_aload_n rfl rfl ?_
    refine w_aload_n rfl rfl ?_
    refine w_gfC (c := 468) rfl s_428 rfl rfl ?_
    refine w_iload_n rfl rfl ?_
    refine w_iald rfl s_468 (n := 61) rfl h.1 ?_
    replace h := h.2
    refine w_callV (t' := 3) [(0, m1 468 l1)] [] rfl s_428 rfl rfl ?_
    refine w_C.more (Q := fun r2 m2 => _) h (fun r2 m2 h => ?_)
    replace h := id h
    refine w_aload_n rfl rfl ?_
    refine w_aload_n rfl rfl ?_
    refine w_gfC (c := 468) rfl s_428 rfl rfl ?_
    refine w_iload_n rfl rfl ?_
    refine w_iald rfl s_468 (n := 61) rfl h.1 ?_
    replace h := h.2
    refine w_ldcwR rfl ?_
    refine w_callV (t' := 0) [(2, 256), (0, m2 468 l1)] [] rfl s_428 rfl rfl ?_
    refine w_C.more (Q := fun r3 m3 => _) h (fun r3 m3 h => ?_)
    replace h := id h
    refine w_istore_n (lv' := [some (2, 428), some (0, l1), some (0, r3), none, none, none]) rfl rfl rfl ?_
    refine w_aload_n rfl rfl ?_
    refine w_iload_n rfl rfl ?_
    refine w_ifne rfl (w_ite h (fun h => ?_) (fun h => ?_))
    · refine w_iconst rfl (by decide) ?_
      refine w_goto rfl ?_
      exact w_W.less h (w_sub [true, false, false, false, false, false] rfl)
    · refine w_aload_n rfl rfl ?_
      refine w_aload_n rfl rfl ?_
      refine w_aload_n rfl rfl ?_
      refine w_gfC (c := 455) rfl s_428 rfl rfl ?_
      refine w_iload_n rfl rfl ?_
      refine w_iald rfl s_455 (n := 200) rfl h.1 ?_
      replace h := h.2
      refine w_ldcwR rfl ?_
      refine w_callV (t' := 0) [(2, 256), (0, m3 455 r3)] [(2, 428), (2, 428)] rfl s_428 rfl rfl ?_
      refine w_C.more (Q := fun r4 m4 => _) h (fun r4 m4 h => ?_)
      replace h := id h
      refine w_callV (t' := 0) [(0, r4)] [(2, 428)] rfl s_428 rfl rfl ?_
      refine w_C.more (Q := fun r5 m5 => _) h (fun r5 m5 h => ?_)
      replace h := id h
      exact w_W.less h (w_sub [true, false, false, false, false, false] rfl)
theorem xr_m_show_60 {d : Nat} {s1 : Int} {m : w_M} {Q : Int → w_M → Prop} (h : xc_m_identity d 474 (w_up (w_up (w_up (w_up (w_up (w_up (w_up (w_up (w_up m 428 107 s1) 428 27 0) 428 28 (-1)) 428 29 0) 428 32 0) 428 104 0) 428 94 0) 428 102 0) 428 103 0) (fun r1 m1 => xp_m_show_124 d (m 428 15) (m 428 17) 0 m1 Q)) : xp_m_show_60 d s1 m Q := by
  refine w_pfI rfl s_428 rfl (w_EM (by decide)) rfl (kk := 107) rfl ?_
  refine w_aload_n rfl rfl ?_
  refine x_gfI rfl s_428 rfl (kk := 15) rfl (w_up_nb (by decide)) ?_
  refine w_istore_n (lv' := [some (2, 428), none, none, some (0, m 428 15), none, none]) rfl rfl rfl ?_
  refine w_aload_n rfl rfl ?_
  refine x_gfI rfl s_428 rfl (kk := 17) rfl (w_up_nb (by decide)) ?_
  refine w_istore (lv' := [some (2, 428), none, none, some (0, m 428 15), some (0, m 428 17), none]) rfl rfl rfl ?_
  refine w_aload_n rfl rfl ?_
  refine w_iconst rfl (by decide) ?_
  refine w_pfI rfl s_428 rfl (w_EM (by decide)) rfl (kk := 27) rfl ?_
  refine w_aload_n rfl rfl ?_
  refine w_iconst rfl (by decide) ?_
  refine w_pfI rfl s_428 rfl (w_EM (by decide)) rfl (kk := 28) rfl ?_
  refine w_aload_n rfl rfl ?_
  refine w_iconst rfl (by decide) ?_
  refine w_pfI rfl s_428 rfl (w_EM (by decide)) rfl (kk := 29) rfl ?_
  refine w_aload_n rfl rfl ?_
  refine w_iconst rfl (by decide) ?_
  refine w_pfZ rfl s_428 rfl (w_EM (by decide)) rfl (kk := 32) rfl (by decide) ?_
  refine w_aload_n rfl rfl ?_
  refine w_iconst rfl (by decide) ?_
  refine w_pfI rfl s_428 rfl (w_EM (by decide)) rfl (kk := 104) rfl ?_
  refine w_aload_n rfl rfl ?_
  refine w_iconst rfl (by decide) ?_
  refine w_pfI rfl s_428 rfl (w_EM (by decide)) rfl (kk := 94) rfl ?_
  refine w_aload_n rfl rfl ?_
  refine w_iconst rfl (by decide) ?_
  refine w_pfI rfl s_428 rfl (w_EM (by decide)) rfl (kk := 102) rfl ?_
  refine w_aload_n rfl rfl ?_
  refine w_iconst rfl (by decide) ?_
  refine w_pfZ rfl s_428 rfl (w_EM (by decide)) rfl (kk := 103) rfl (by decide) ?_
  refine w_aload_n rfl rfl ?_
  refine w_gfC (c := 474) rfl s_428 rfl rfl ?_
  refine w_callS (t' := 3) [(2, 474)] [] rfl (by decide) rfl rfl ?_
  refine w_C.more (Q := fun r1 m1 => _) h (fun r1 m1 h => ?_)
  replace h := id h
  refine w_iconst rfl (by decide) ?_
  refine w_istore (lv' := [some (2, 428), none, none, some (0, m 428 15), some (0, m 428 17), some (0, 0)]) rfl rfl rfl ?_
  exact w_W.less h (w_sub [true, false, false, true, true, true] rfl)
theorem xr_m_show_124 {d : Nat} {l3 l4 l5 : Int} {m : w_M} {Q : Int → w_M → Prop} (h : if l5 < 9 then (((0 : Int) ≤ l5 ∧ l5 < 9) ∧ (xp_m_show_124 d l3 l4 (w_32 (l5 + 1)) (w_up m 479 l5 0) Q)) else (xc_m_from d 472 0 (m 428 92) (w_up m 479 0 (-1)) (fun r1 m1 => xc_m_token d m1 (fun r2 m2 => xp_m_show_169 d l3 l4 m2 Q)))) : xp_m_show_124 d l3 l4 l5 m Q := by
  refine w_iload rfl rfl ?_
  refine w_bipush rfl (by decide) ?_
  refine w_icge rfl (w_ite h (fun h => ?_) (fun h => ?_))
  · refine w_aload_n rfl rfl ?_
    refine w_gfC (c := 479) rfl s_428 rfl rfl ?_
    refine w_iload rfl rfl ?_
    refine w_iconst rfl (by decide) ?_
    refine w_iast rfl s_479 (w_EM (by decide)) (n := 9) rfl h.1 ?_
    replace h := h.2
    refine w_iinc (lv' := [some (2, 428), none, none, some (0, l3), some (0, l4), some (0, w_32 (l5 + 1))]) rfl rfl rfl rfl ?_
    refine w_goto rfl ?_
    exact w_W.less h (w_sub [true, false, false, true, true, true] rfl)
  · refine w_aload_n rfl rfl ?_
    refine w_gfC (c := 479) rfl s_428 rfl rfl ?_
    refine w_iconst rfl (by decide) ?_
    refine w_iconst rfl (by decide) ?_
    refine w_iast rfl s_479 (w_EM (by decide)) (n := 9) rfl (by decide) ?_
    refine w_aload_n rfl rfl ?_
    refine w_aload_n rfl rfl ?_
    refine w_gfC (c := 472) rfl s_428 rfl rfl ?_
    refine w_iconst rfl (by decide) ?_
    refine w_aload_n rfl rfl ?_
    refine x_gfI rfl s_428 rfl (kk := 92) rfl (w_up_ne (by decide)) ?_
    refine w_callV (t' := 3) [(0, m 428 92), (0, 0), (2, 472)] [] rfl s_428 rfl rfl ?_
    refine w_C.more (Q := fun r1 m1 => _) h (fun r1 m1 h => ?_)
    replace h := id h
    refine w_aload_n rfl rfl ?_
    refine w_callV (t' := 3) [] [] rfl s_428 rfl rfl ?_
    refine w_C.more (Q := fun r2 m2 => _) h (fun r2 m2 h => ?_)
    replace h := id h
    exact w_W.less h (w_sub [true, false, false, true, true, false] rfl)
theorem xr_m_show_169 {d : Nat} {l3 l4 : Int} {m : w_M} {Q : Int → w_M → Prop} (h : xc_m_good d m (fun r1 m1 => if r1 = 0 then (if (m1 428 103) = 0 then (if 0 < (m1 428 102) then (xc_m_fail d 12 (m1 428 92) m1 (fun r2 m2 => xp_m_show_353 d l3 l4 m2 Q)) else (xp_m_show_353 d l3 l4 m1 Q)) else (xc_m_fail d 12 (m1 428 92) m1 (fun r3 m3 => xp_m_show_353 d l3 l4 m3 Q))) else (if (m1 428 22) = 0 then (if (m1 428 103) = 0 then (if 0 < (m1 428 102) then (xc_m_fail d 12 (m1 428 92) m1 (fun r4 m4 => xp_m_show_353 d l3 l4 m4 Q)) else (xp_m_show_353 d l3 l4 m1 Q)) else (xc_m_fail d 12 (m1 428 92) m1 (fun r5 m5 => xp_m_show_353 d l3 l4 m5 Q))) else (if (m1 428 22) = 3 then (xc_m_isWord d 266 m1 (fun r6 m6 => if r6 = 0 then (xc_m_isWord d 268 m6 (fun r7 m7 => if r7 = 0 then (xc_m_isWord d 270 m7 (fun r8 m8 => if r8 = 0 then (xc_m_operator d (w_up m8 428 106 (m8 428 23)) (fun r9 m9 => xc_m_good d (w_up (w_up (w_up (w_up m9 428 94 0) 428 29 0) 428 15 l3) 428 17 l4) (fun r10 m10 => if r10 = 0 then (xp_m_show_169 d l3 l4 m10 Q) else (xc_m_token d m10 (fun r11 m11 => xp_m_show_169 d l3 l4 m11 Q))))) else (xp_m_show_257 d l3 l4 m8 Q))) else (xp_m_show_257 d l3 l4 m7 Q))) else (xp_m_show_257 d l3 l4 m6 Q))) else (xp_m_show_257 d l3 l4 m1 Q))))) : xp_m_show_169 d l3 l4 m Q := by
  refine w_aload_n rfl rfl ?_
  refine w_callV (t' := 0) [] [] rfl s_428 rfl rfl ?_
  refine w_C.more (Q := fun r1 m1 => _) h (fun r1 m1 h => ?_)
  replace h := id h
  refine w_ifeq rfl (w_ite h (fun h => ?_) (fun h => ?_))
  · refine w_aload_n rfl rfl ?_
    refine x_gfZ rfl s_428 rfl (kk := 103) rfl rfl ?_
    refine w_ifne rfl (w_ite h (fun h => ?_) (fun h => ?_))
    · refine w_aload_n rfl rfl ?_
      refine x_gfI rfl s_428 rfl (kk := 102) rfl rfl ?_
      refine w_ifle rfl (w_ite h (fun h => ?_) (fun h => ?_))
      · refine w_aload_n rfl rfl ?_
        refine w_bipush rfl (by decide) ?_
        refine w_aload_n rfl rfl ?_
        refine x_gfI rfl s_428 rfl (kk := 92) rfl rfl ?_
        refine w_callV (t' := 3) [(0, m1 428 92), (0, 12)] [] rfl s_428 rfl rfl ?_
        refine w_C.more (Q := fun r2 m2 => _) h (fun r2 m2 h => ?_)
        replace h := id h
        exact w_W.less h (w_sub [true, false, false, true, true, false] rfl)
      · exact w_W.less h (w_sub [true, false, false, true, true, false] rfl)
    · refine w_aload_n rfl rfl ?_
      refine w_bipush rfl (by decide) ?_
      refine w_aload_n rfl rfl ?_
      refine x_gfI rfl s_428 rfl (kk := 92) rfl rfl ?_
      refine w_callV (t' := 3) [(0, m1 428 92), (0, 12)] [] rfl s_428 rfl rfl ?_
      refine w_C.more (Q := fun r3 m3 => _) h (fun r3 m3 h => ?_)
      replace h := id h
      exact w_W.less h (w_sub [true, false, false, true, true, false] rfl)
  · refine w_aload_n rfl rfl ?_
    refine x_gfI rfl s_428 rfl (kk := 22) rfl rfl ?_
    refine w_ifeq rfl (w_ite h (fun h => ?_) (fun h => ?_))
    · refine w_aload_n rfl rfl ?_
      refine x_gfZ rfl s_428 rfl (kk := 103) rfl rfl ?_
      refine w_ifne rfl (w_ite h (fun h => ?_) (fun h => ?_))
      · refine w_aload_n rfl rfl ?_
        refine x_gfI rfl s_428 rfl (kk := 102) rfl rfl ?_
        refine w_ifle rfl (w_ite h (fun h => ?_) (fun h => ?_))
        · refine w_aload_n rfl rfl ?_
          refine w_bipush rfl (by decide) ?_
          refine w_aload_n rfl rfl ?_
          refine x_gfI rfl s_428 rfl (kk := 92) rfl rfl ?_
          refine w_callV (t' := 3) [(0, m1 428 92), (0, 12)] [] rfl s_428 rfl rfl ?_
          refine w_C.more (Q := fun r4 m4 => _) h (fun r4 m4 h => ?_)
          replace h := id h
          exact w_W.less h (w_sub [true, false, false, true, true, false] rfl)
        · exact w_W.less h (w_sub [true, false, false, true, true, false] rfl)
      · refine w_aload_n rfl rfl ?_
        refine w_bipush rfl (by decide) ?_
        refine w_aload_n rfl rfl ?_
        refine x_gfI rfl s_428 rfl (kk := 92) rfl rfl ?_
        refine w_callV (t' := 3) [(0, m1 428 92), (0, 12)] [] rfl s_428 rfl rfl ?_
        refine w_C.more (Q := fun r5 m5 => _) h (fun r5 m5 h => ?_)
        replace h := id h
        exact w_W.less h (w_sub [true, false, false, true, true, false] rfl)
    · refine w_aload_n rfl rfl ?_
      refine x_gfI rfl s_428 rfl (kk := 22) rfl rfl ?_
      refine w_iconst rfl (by decide) ?_
      refine w_icne rfl (w_ite h (fun h => ?_) (fun h => ?_))
      · refine w_aload_n rfl rfl ?_
        refine w_ldcwR rfl ?_
        refine w_callV (t' := 0) [(2, 266)] [] rfl s_428 rfl rfl ?_
        refine w_C.more (Q := fun r6 m6 => _) h (fun r6 m6 h => ?_)
        replace h := id h
        refine w_ifne rfl (w_ite h (fun h => ?_) (fun h => ?_))
        · refine w_aload_n rfl rfl ?_
          refine w_ldcwR rfl ?_
          refine w_callV (t' := 0) [(2, 268)] [] rfl s_428 rfl rfl ?_
          refine w_C.more (Q := fun r7 m7 => _) h (fun r7 m7 h => ?_)
          replace h := id h
          refine w_ifne rfl (w_ite h (fun h => ?_) (fun h => ?_))
          · refine w_aload_n rfl rfl ?_
            refine w_ldcwR rfl ?_
            refine w_callV (t' := 0) [(2, 270)] [] rfl s_428 rfl rfl ?_
            refine w_C.more (Q := fun r8 m8 => _) h (fun r8 m8 h => ?_)
            replace h := id h
            refine w_ifne rfl (w_ite h (fun h => ?_) (fun h => ?_))
            · refine w_aload_n rfl rfl ?_
              refine w_aload_n rfl rfl ?_
              refine x_gfI rfl s_428 rfl (kk := 23) rfl rfl ?_
              refine w_pfI rfl s_428 rfl (w_EM (by decide)) rfl (kk := 106) rfl ?_
              refine w_aload_n rfl rfl ?_
              refine w_callV (t' := 3) [] [] rfl s_428 rfl rfl ?_
              refine w_C.more (Q := fun r9 m9 => _) h (fun r9 m9 h => ?_)
              replace h := id h
              refine w_aload_n rfl rfl ?_
              refine w_iconst rfl (by decide) ?_
              refine w_pfI rfl s_428 rfl (w_EM (by decide)) rfl (kk := 94) rfl ?_
              refine w_aload_n rfl rfl ?_
              refine w_iconst rfl (by decide) ?_
              refine w_pfI rfl s_428 rfl (w_EM (by decide)) rfl (kk := 29) rfl ?_
              refine w_aload_n rfl rfl ?_
              refine w_iload_n rfl rfl ?_
              refine w_pfI rfl s_428 rfl (w_EM (by decide)) rfl (kk := 15) rfl ?_
              refine w_aload_n rfl rfl ?_
              refine w_iload rfl rfl ?_
              refine w_pfI rfl s_428 rfl (w_EM (by decide)) rfl (kk := 17) rfl ?_
              refine w_goto rfl ?_
              refine w_aload_n rfl rfl ?_
              refine w_callV (t' := 0) [] [] rfl s_428 rfl rfl ?_
              refine w_C.more (Q := fun r10 m10 => _) h (fun r10 m10 h => ?_)
              replace h := id h
              refine w_ifeq rfl (w_ite h (fun h => ?_) (fun h => ?_))
              · exact w_W.less h (w_sub [true, false, false, true, true, false] rfl)
              · refine w_aload_n rfl rfl ?_
                refine w_callV (t' := 3) [] [] rfl s_428 rfl rfl ?_
                refine w_C.more (Q := fun r11 m11 => _) h (fun r11 m11 h => ?_)
                replace h := id h
                refine w_goto rfl ?_
                exact w_W.less h (w_sub [true, false, false, true, true, false] rfl)
            · exact w_W.less h (w_sub [true, false, false, true, true, false] rfl)
          · exact w_W.less h (w_sub [true, false, false, true, true, false] rfl)
        · exact w_W.less h (w_sub [true, false, false, true, true, false] rfl)
      · exact w_W.less h (w_sub [true, false, false, true, true, false] rfl)
theorem xr_m_show_257 {d : Nat} {l3 l4 : Int} {m : w_M} {Q : Int → w_M → Prop} (h : if (m 428 94) = 40 then (xc_m_fail d 11 (m 428 23) m (fun r1 m1 => xc_m_good d m1 (fun r2 m2 => if r2 = 0 then (xp_m_show_169 d l3 l4 m2 Q) else (xc_m_token d m2 (fun r3 m3 => xp_m_show_169 d l3 l4 m3 Q))))) else (xc_m_object d 0 0 m (fun r4 m4 => xc_m_good d m4 (fun r5 m5 => if r5 = 0 then (xc_m_good d m5 (fun r6 m6 => if r6 = 0 then (xp_m_show_169 d l3 l4 m6 Q) else (xc_m_token d m6 (fun r7 m7 => xp_m_show_169 d l3 l4 m7 Q)))) else (((0 : Int) ≤ (m5 428 94) ∧ (m5 428 94) < 40) ∧ (xc_m_good d (w_up (w_up m5 473 (m5 428 94) r4) 428 94 (w_32 ((m5 428 94) + 1))) (fun r8 m8 => if r8 = 0 then (xp_m_show_169 d l3 l4 m8 Q) else (xc_m_token d m8 (fun r9 m9 => xp_m_show_169 d l3 l4 m9 Q))))))))) : xp_m_show_257 d l3 l4 m Q := by
  refine w_aload_n rfl rfl ?_
  refine x_gfI rfl s_428 rfl (kk := 94) rfl rfl ?_
  refine w_bipush rfl (by decide) ?_
  refine w_icne rfl (w_ite h (fun h => ?_) (fun h => ?_))
  · refine w_aload_n rfl rfl ?_
    refine w_bipush rfl (by decide) ?_
    refine w_aload_n rfl rfl ?_
    refine x_gfI rfl s_428 rfl (kk := 23) rfl rfl ?_
    refine w_callV (t' := 3) [(0, m 428 23), (0, 11)] [] rfl s_428 rfl rfl ?_
    refine w_C.more (Q := fun r1 m1 => _) h (fun r1 m1 h => ?_)
    replace h := id h
    refine w_goto rfl ?_
    refine w_aload_n rfl rfl ?_
    refine w_callV (t' := 0) [] [] rfl s_428 rfl rfl ?_
    refine w_C.more (Q := fun r2 m2 => _) h (fun r2 m2 h => ?_)
    replace h := id h
    refine w_ifeq rfl (w_ite h (fun h => ?_) (fun h => ?_))
    · exact w_W.less h (w_sub [true, false, false, true, true, false] rfl)
    · refine w_aload_n rfl rfl ?_
      refine w_callV (t' := 3) [] [] rfl s_428 rfl rfl ?_
      refine w_C.more (Q := fun r3 m3 => _) h (fun r3 m3 h => ?_)
      replace h := id h
      refine w_goto rfl ?_
      exact w_W.less h (w_sub [true, false, false, true, true, false] rfl)
  · refine w_aload_n rfl rfl ?_
    refine w_iconst rfl (by decide) ?_
    refine w_iconst rfl (by decide) ?_
    refine w_callV (t' := 0) [(0, 0), (0, 0)] [] rfl s_428 rfl rfl ?_
    refine w_C.more (Q := fun r4 m4 => _) h (fun r4 m4 h => ?_)
    replace h := id h
    refine w_istore (lv' := [some (2, 428), none, none, some (0, l3), some (0, l4), some (0, r4)]) rfl rfl rfl ?_
    refine w_aload_n rfl rfl ?_
    refine w_callV (t' := 0) [] [] rfl s_428 rfl rfl ?_
    refine w_C.more (Q := fun r5 m5 => _) h (fun r5 m5 h => ?_)
    replace h := id h
    refine w_ifeq rfl (w_ite h (fun h => ?_) (fun h => ?_))
    · refine w_aload_n rfl rfl ?_
      refine w_callV (t' := 0) [] [] rfl s_428 rfl rfl ?_
      refine w_C.more (Q := fun r6 m6 => _) h (fun r6 m6 h => ?_)
      replace h := id h
      refine w_ifeq rfl (w_ite h (fun h => ?_) (fun h => ?_))
      · exact w_W.less h (w_sub [true, false, false, true, true, false] rfl)
      · refine w_aload_n rfl rfl ?_
        refine w_callV (t' := 3) [] [] rfl s_428 rfl rfl ?_
        refine w_C.more (Q := fun r7 m7 => _) h (fun r7 m7 h => ?_)
        replace h := id h
        refine w_goto rfl ?_
        exact w_W.less h (w_sub [true, false, false, true, true, false] rfl)
    · refine w_aload_n rfl rfl ?_
      refine w_gfC (c := 473) rfl s_428 rfl rfl ?_
      refine w_aload_n rfl rfl ?_
      refine x_gfI rfl s_428 rfl (kk := 94) rfl rfl ?_
      refine w_iload rfl rfl ?_
      refine w_iast rfl s_473 (w_EM (by decide)) (n := 40) rfl h.1 ?_
      replace h := h.2
      refine w_aload_n rfl rfl ?_
      refine w_dup rfl (show (2 : Nat) ≠ 1 by decide) ?_
      refine x_gfI rfl s_428 rfl (kk := 94) rfl (w_up_ne (by decide)) ?_
      refine w_iconst rfl (by decide) ?_
      refine w_iadd rfl ?_
      refine w_pfI rfl s_428 rfl (w_EM (by decide)) rfl (kk := 94) rfl ?_
      refine w_aload_n rfl rfl ?_
      refine w_callV (t' := 0) [] [] rfl s_428 rfl rfl ?_
      refine w_C.more (Q := fun r8 m8 => _) h (fun r8 m8 h => ?_)
      replace h := id h
      refine w_ifeq rfl (w_ite h (fun h => ?_) (fun h => ?_))
      · exact w_W.less h (w_sub [true, false, false, true, true, false] rfl)
      · refine w_aload_n rfl rfl ?_
        refine w_callV (t' := 3) [] [] rfl s_428 rfl rfl ?_
        refine w_C.more (Q := fun r9 m9 => _) h (fun r9 m9 h => ?_)
        replace h := id h
        refine w_goto rfl ?_
        exact w_W.less h (w_sub [true, false, false, true, true, false] rfl)
theorem xr_m_show_353 {d : Nat} {l3 l4 : Int} {m : w_M} {Q : Int → w_M → Prop} (h : xc_m_good d (w_up (w_up (w_up m 428 15 l3) 428 17 l4) 428 70 (m 428 27)) (fun r1 m1 => if r1 = 0 then (xc_m_good d (w_up m1 428 71 (m1 428 28)) (fun r2 m2 => if r2 = 0 then (Q (w_32 ((-100) - (m2 428 27))) (w_up m2 428 104 0)) else (Q (m2 428 104) m2))) else (xc_m_good d (w_up m1 428 71 (-1)) (fun r3 m3 => if r3 = 0 then (Q (w_32 ((-100) - (m3 428 27))) (w_up m3 428 104 0)) else (Q (m3 428 104) m3))))) : xp_m_show_353 d l3 l4 m Q := by
  refine w_aload_n rfl rfl ?_
  refine w_iload_n rfl rfl ?_
  refine w_pfI rfl s_428 rfl (w_EM (by decide)) rfl (kk := 15) rfl ?_
  refine w_aload_n rfl rfl ?_
  refine w_iload rfl rfl ?_
  refine w_pfI rfl s_428 rfl (w_EM (by decide)) rfl (kk := 17) rfl ?_
  refine w_aload_n rfl rfl ?_
  refine w_aload_n rfl rfl ?_
  refine x_gfI rfl s_428 rfl (kk := 27) rfl ((w_up_nb (by decide)).trans (w_up_nb (by decide))) ?_
  refine w_pfI rfl s_428 rfl (w_EM (by decide)) rfl (kk := 70) rfl ?_
  refine w_aload_n rfl rfl ?_
  refine w_aload_n rfl rfl ?_
  refine w_callV (t' := 0) [] [(2, 428)] rfl s_428 rfl rfl ?_
  refine w_C.more (Q := fun r1 m1 => _) h (fun r1 m1 h => ?_)
  replace h := id h
  refine w_ifeq rfl (w_ite h (fun h => ?_) (fun h => ?_))
  · refine w_aload_n rfl rfl ?_
    refine x_gfI rfl s_428 rfl (kk := 28) rfl rfl ?_
    refine w_pfI rfl s_428 rfl (w_EM (by decide)) rfl (kk := 71) rfl ?_
    refine w_aload_n rfl rfl ?_
    refine w_callV (t' := 0) [] [] rfl s_428 rfl rfl ?_
    refine w_C.more (Q := fun r2 m2 => _) h (fun r2 m2 h => ?_)
    replace h := id h
    refine w_ifne rfl (w_ite h (fun h => ?_) (fun h => ?_))
    · refine w_aload_n rfl rfl ?_
      refine w_iconst rfl (by decide) ?_
      refine w_pfI rfl s_428 rfl (w_EM (by decide)) rfl (kk := 104) rfl ?_
      refine w_bipush rfl (by decide) ?_
      refine w_aload_n rfl rfl ?_
      refine x_gfI rfl s_428 rfl (kk := 27) rfl (w_up_nb (by decide)) ?_
      refine w_isub rfl ?_
      exact w_iret rfl rfl h
    · refine w_aload_n rfl rfl ?_
      refine x_gfI rfl s_428 rfl (kk := 104) rfl rfl ?_
      exact w_iret rfl rfl h
  · refine w_iconst rfl (by decide) ?_
    refine w_goto rfl ?_
    refine w_pfI rfl s_428 rfl (w_EM (by decide)) rfl (kk := 71) rfl ?_
    refine w_aload_n rfl rfl ?_
    refine w_callV (t' := 0) [] [] rfl s_428 rfl rfl ?_
    refine w_C.more (Q := fun r3 m3 => _) h (fun r3 m3 h => ?_)
    replace h := id h
    refine w_ifne rfl (w_ite h (fun h => ?_) (fun h => ?_))
    · refine w_aload_n rfl rfl ?_
      refine w_iconst rfl (by decide) ?_
      refine w_pfI rfl s_428 rfl (w_EM (by decide)) rfl (kk := 104) rfl ?_
      refine w_bipush rfl (by decide) ?_
      refine w_aload_n rfl rfl ?_
      refine x_gfI rfl s_428 rfl (kk := 27) rfl (w_up_nb (by decide)) ?_
      refine w_isub rfl ?_
      exact w_iret rfl rfl h
    · refine w_aload_n rfl rfl ?_
      refine x_gfI rfl s_428 rfl (kk := 104) rfl rfl ?_
      exact w_iret rfl rfl h
theorem xr_m_shows {d : Nat} {l1 : Int} {m : w_M} {Q : Int → w_M → Prop} (h : if (m 479 0) < 0 then (xc_m_fail d 13 (m 428 106) m (fun r1 m1 => Q 0 m1)) else (xp_m_shows_22 d l1 0 m Q)) : xc_m_shows (d + 1) l1 m Q := by
  refine w_enter (q := 2) (lv := [some (2, 428), some (0, l1), none, none]) rfl rfl rfl ?_
  refine w_aload_n rfl rfl ?_
  refine w_gfC (c := 479) rfl s_428 rfl rfl ?_
  refine w_iconst rfl (by decide) ?_
  refine w_iald rfl s_479 (n := 9) rfl (by decide) ?_
  refine w_ifge rfl (w_ite h (fun h => ?_) (fun h => ?_))
  · refine w_aload_n rfl rfl ?_
    refine w_bipush rfl (by decide) ?_
    refine w_aload_n rfl rfl ?_
    refine x_gfI rfl s_428 rfl (kk := 106) rfl rfl ?_
    refine w_callV (t' := 3) [(0, m 428 106), (0, 13)] [] rfl s_428 rfl rfl ?_
    refine w_C.more (Q := fun r1 m1 => _) h (fun r1 m1 h => ?_)
    replace h := id h
    exact w_vret rfl rfl h
  · refine w_iconst rfl (by decide) ?_
    refine w_istore_n (lv' := [some (2, 428), some (0, l1), some (0, 0), none]) rfl rfl rfl ?_
    exact w_W.less h (w_sub [true, true, true, false] rfl)
theorem xr_m_shows_22 {d : Nat} {l1 l2 : Int} {m : w_M} {Q : Int → w_M → Prop} (h : ((0 : Int) ≤ l1 ∧ l1 < 40000) ∧ (if l2 < (m 435 l1) then (xc_m_good d m (fun r1 m1 => if r1 = 0 then (Q 0 m1) else (((0 : Int) ≤ l1 ∧ l1 < 40000) ∧ (((0 : Int) ≤ (w_32 ((m1 436 l1) + l2)) ∧ (w_32 ((m1 436 l1) + l2)) < 150000) ∧ (if (m1 428 104) = 1500 then (xc_m_fail d 5 (m1 428 106) m1 (fun r2 m2 => Q 0 m2)) else (xc_m_product d 475 474 477 m1 (fun r3 m3 => xc_m_good d m3 (fun r4 m4 => if r4 = 0 then (Q 0 m4) else (((0 : Int) ≤ (w_32 (5 * (m4 428 104))) ∧ (w_32 (5 * (m4 428 104))) < 7500) ∧ (((0 : Int) ≤ (w_32 ((w_32 (5 * (m4 428 104))) + 1)) ∧ (w_32 ((w_32 (5 * (m4 428 104))) + 1)) < 7500) ∧ (((0 : Int) ≤ (w_32 ((w_32 (5 * (m4 428 104))) + 2)) ∧ (w_32 ((w_32 (5 * (m4 428 104))) + 2)) < 7500) ∧ (((0 : Int) ≤ (w_32 ((w_32 (5 * (m4 428 104))) + 3)) ∧ (w_32 ((w_32 (5 * (m4 428 104))) + 3)) < 7500) ∧ (((0 : Int) ≤ (w_32 ((w_32 (5 * (m4 428 104))) + 4)) ∧ (w_32 ((w_32 (5 * (m4 428 104))) + 4)) < 7500) ∧ (xc_m_widthOf d ((m1 440 (w_32 ((m1 436 l1) + l2))) % 256) (w_up (w_up (w_up (w_up (w_up (w_up m4 481 (w_32 (5 * (m4 428 104))) ((m1 440 (w_32 ((m1 436 l1) + l2))) % 256)) 481 (w_32 ((w_32 (5 * (m4 428 104))) + 1)) ((w_up m4 481 (w_32 (5 * (m4 428 104))) ((m1 440 (w_32 ((m1 436 l1) + l2))) % 256)) 477 4)) 481 (w_32 ((w_32 (5 * (m4 428 104))) + 2)) ((w_up (w_up m4 481 (w_32 (5 * (m4 428 104))) ((m1 440 (w_32 ((m1 436 l1) + l2))) % 256)) 481 (w_32 ((w_32 (5 * (m4 428 104))) + 1)) ((w_up m4 481 (w_32 (5 * (m4 428 104))) ((m1 440 (w_32 ((m1 436 l1) + l2))) % 256)) 477 4)) 477 5)) 481 (w_32 ((w_32 (5 * (m4 428 104))) + 3)) ((w_up (w_up (w_up m4 481 (w_32 (5 * (m4 428 104))) ((m1 440 (w_32 ((m1 436 l1) + l2))) % 256)) 481 (w_32 ((w_32 (5 * (m4 428 104))) + 1)) ((w_up m4 481 (w_32 (5 * (m4 428 104))) ((m1 440 (w_32 ((m1 436 l1) + l2))) % 256)) 477 4)) 481 (w_32 ((w_32 (5 * (m4 428 104))) + 2)) ((w_up (w_up m4 481 (w_32 (5 * (m4 428 104))) ((m1 440 (w_32 ((m1 436 l1) + l2))) % 256)) 481 (w_32 ((w_32 (5 * (m4 428 104))) + 1)) ((w_up m4 481 (w_32 (5 * (m4 428 104))) ((m1 440 (w_32 ((m1 436 l1) + l2))) % 256)) 477 4)) 477 5)) 479 5)) 481 (w_32 ((w_32 (5 * (m4 428 104))) + 4)) ((w_up (w_up (w_up (w_up m4 481 (w_32 (5 * (m4 428 104))) ((m1 440 (w_32 ((m1 436 l1) + l2))) % 256)) 481 (w_32 ((w_32 (5 * (m4 428 104))) + 1)) ((w_up m4 481 (w_32 (5 * (m4 428 104))) ((m1 440 (w_32 ((m1 436 l1) + l2))) % 256)) 477 4)) 481 (w_32 ((w_32 (5 * (m4 428 104))) + 2)) ((w_up (w_up m4 481 (w_32 (5 * (m4 428 104))) ((m1 440 (w_32 ((m1 436 l1) + l2))) % 256)) 481 (w_32 ((w_32 (5 * (m4 428 104))) + 1)) ((w_up m4 481 (w_32 (5 * (m4 428 104))) ((m1 440 (w_32 ((m1 436 l1) + l2))) % 256)) 477 4)) 477 5)) 481 (w_32 ((w_32 (5 * (m4 428 104))) + 3)) ((w_up (w_up (w_up m4 481 (w_32 (5 * (m4 428 104))) ((m1 440 (w_32 ((m1 436 l1) + l2))) % 256)) 481 (w_32 ((w_32 (5 * (m4 428 104))) + 1)) ((w_up m4 481 (w_32 (5 * (m4 428 104))) ((m1 440 (w_32 ((m1 436 l1) + l2))) % 256)) 477 4)) 481 (w_32 ((w_32 (5 * (m4 428 104))) + 2)) ((w_up (w_up m4 481 (w_32 (5 * (m4 428 104))) ((m1 440 (w_32 ((m1 436 l1) + l2))) % 256)) 481 (w_32 ((w_32 (5 * (m4 428 104))) + 1)) ((w_up m4 481 (w_32 (5 * (m4 428 104))) ((m1 440 (w_32 ((m1 436 l1) + l2))) % 256)) 477 4)) 477 5)) 479 5)) 479 1)) 428 104 (w_32 ((m4 428 104) + 1))) (fun r5 m5 => xc_m_thousandth d (w_64 (r5 * (m5 479 5))) m5 (fun r6 m6 => if ((m1 440 (w_32 ((m1 436 l1) + l2))) % 256) = 32 then (xc_m_moves d (w_64 ((w_64 (r6 + (m6 479 6))) + (m6 479 7))) m6 (fun r7 m7 => xp_m_shows_22 d l1 (w_32 (l2 + 1)) m7 Q)) else (xc_m_moves d (w_64 ((w_64 (r6 + (m6 479 6))) + 0)) m6 (fun r8 m8 => xp_m_shows_22 d l1 (w_32 (l2 + 1)) m8 Q)))))))))))))))))) else (Q 0 m))) : xp_m_shows_22 d l1 l2 m Q := by
  refine w_iload_n rfl rfl ?_
  refine w_aload_n rfl rfl ?_
  refine w_gfC (c := 435) rfl s_428 rfl rfl ?_
  refine w_iload_n rfl rfl ?_
  refine w_iald rfl s_435 (n := 40000) rfl h.1 ?_
  replace h := h.2
  refine w_icge rfl (w_ite h (fun h => ?_) (fun h => ?_))
  · refine w_aload_n rfl rfl ?_
    refine w_callV (t' := 0) [] [] rfl s_428 rfl rfl ?_
    refine w_C.more (Q := fun r1 m1 => _) h (fun r1 m1 h => ?_)
    replace h := id h
    refine w_ifeq rfl (w_ite h (fun h => ?_) (fun h => ?_))
    · exact w_vret rfl rfl h
    · refine w_aload_n rfl rfl ?_
      refine w_gfC (c := 440) rfl s_428 rfl rfl ?_
      refine w_aload_n rfl rfl ?_
      refine w_gfC (c := 436) rfl s_428 rfl rfl ?_
      refine w_iload_n rfl rfl ?_
      refine w_iald rfl s_436 (n := 40000) rfl h.1 ?_
      replace h := h.2
      refine w_iload_n rfl rfl ?_
      refine w_iadd rfl ?_
      refine w_bald rfl s_440 (n := 150000) rfl h.1 ?_
      replace h := h.2
      refine w_sipush rfl (by decide) ?_
      refine w_iandm 8 (c := 256) rfl (by decide) rfl rfl ?_
      refine w_istore_n (lv' := [some (2, 428), some (0, l1), some (0, l2), some (0, (m1 440 (w_32 ((m1 436 l1) + l2))) % 256)]) rfl rfl rfl ?_
      refine w_aload_n rfl rfl ?_
      refine x_gfI rfl s_428 rfl (kk := 104) rfl rfl ?_
      refine w_sipush rfl (by decide) ?_
      refine w_icne rfl (w_ite h (fun h => ?_) (fun h => ?_))
      · refine w_aload_n rfl rfl ?_
        refine w_iconst rfl (by decide) ?_
        refine w_aload_n rfl rfl ?_
        refine x_gfI rfl s_428 rfl (kk := 106) rfl rfl ?_
        refine w_callV (t' := 3) [(0, m1 428 106), (0, 5)] [] rfl s_428 rfl rfl ?_
        refine w_C.more (Q := fun r2 m2 => _) h (fun r2 m2 h => ?_)
        replace h := id h
        exact w_vret rfl rfl h
      · refine w_aload_n rfl rfl ?_
        refine w_aload_n rfl rfl ?_
        refine w_gfC (c := 475) rfl s_428 rfl rfl ?_
        refine w_aload_n rfl rfl ?_
        refine w_gfC (c := 474) rfl s_428 rfl rfl ?_
        refine w_aload_n rfl rfl ?_
        refine w_gfC (c := 477) rfl s_428 rfl rfl ?_
        refine w_callV (t' := 3) [(2, 477), (2, 474), (2, 475)] [] rfl s_428 rfl rfl ?_
        refine w_C.more (Q := fun r3 m3 => _) h (fun r3 m3 h => ?_)
        replace h := id h
        refine w_aload_n rfl rfl ?_
        refine w_callV (t' := 0) [] [] rfl s_428 rfl rfl ?_
        refine w_C.more (Q := fun r4 m4 => _) h (fun r4 m4 h => ?_)
        replace h := id h
        refine w_ifne rfl (w_ite h (fun h => ?_) (fun h => ?_))
        · exact w_vret rfl rfl h
        · refine w_aload_n rfl rfl ?_
          refine w_gfC (c := 481) rfl s_428 rfl rfl ?_
          refine w_iconst rfl (by decide) ?_
          refine w_aload_n rfl rfl ?_
          refine x_gfI rfl s_428 rfl (kk := 104) rfl rfl ?_
          refine w_imul rfl ?_
          refine w_iload_n rfl rfl ?_
          refine w_iast rfl s_481 (w_EM (by decide)) (n := 7500) rfl h.1 ?_
          replace h := h.2
          refine w_aload_n rfl rfl ?_
          refine w_gfC (c := 481) rfl s_428 rfl rfl ?_
          refine w_iconst rfl (by decide) ?_
          refine w_aload_n rfl rfl ?_
          refine x_gfI rfl s_428 rfl (kk := 104) rfl (w_up_ne (by decide)) ?_
          refine w_imul rfl ?_
          refine w_iconst rfl (by decide) ?_
          refine w_iadd rfl ?_
          refine w_aload_n rfl rfl ?_
          refine w_gfC (c := 477) rfl s_428 rfl rfl ?_
          refine w_iconst rfl (by decide) ?_
          refine w_iald rfl s_477 (n := 6) rfl (by decide) ?_
          refine w_iast rfl s_481 (w_EM (by decide)) (n := 7500) rfl h.1 ?_
          replace h := h.2
          refine w_aload_n rfl rfl ?_
          refine w_gfC (c := 481) rfl s_428 rfl rfl ?_
          refine w_iconst rfl (by decide) ?_
          refine w_aload_n rfl rfl ?_
          refine x_gfI rfl s_428 rfl (kk := 104) rfl ((w_up_ne (by decide)).trans (w_up_ne (by decide))) ?_
          refine w_imul rfl ?_
          refine w_iconst rfl (by decide) ?_
          refine w_iadd rfl ?_
          refine w_aload_n rfl rfl ?_
          refine w_gfC (c := 477) rfl s_428 rfl rfl ?_
          refine w_iconst rfl (by decide) ?_
          refine w_iald rfl s_477 (n := 6) rfl (by decide) ?_
          refine w_iast rfl s_481 (w_EM (by decide)) (n := 7500) rfl h.1 ?_
          replace h := h.2
          refine w_aload_n rfl rfl ?_
          refine w_gfC (c := 481) rfl s_428 rfl rfl ?_
          refine w_iconst rfl (by decide) ?_
          refine w_aload_n rfl rfl ?_
          refine x_gfI rfl s_428 rfl (kk := 104) rfl ((w_up_ne (by decide)).trans ((w_up_ne (by decide)).trans (w_up_ne (by decide)))) ?_
          refine w_imul rfl ?_
          refine w_iconst rfl (by decide) ?_
          refine w_iadd rfl ?_
          refine w_aload_n rfl rfl ?_
          refine w_gfC (c := 479) rfl s_428 rfl rfl ?_
          refine w_iconst rfl (by decide) ?_
          refine w_iald rfl s_479 (n := 9) rfl (by decide) ?_
          refine w_iast rfl s_481 (w_EM (by decide)) (n := 7500) rfl h.1 ?_
          replace h := h.2
          refine w_aload_n rfl rfl ?_
          refine w_gfC (c := 481) rfl s_428 rfl rfl ?_
          refine w_iconst rfl (by decide) ?_
          refine w_aload_n rfl rfl ?_
          refine x_gfI rfl s_428 rfl (kk := 104) rfl ((w_up_ne (by decide)).trans ((w_up_ne (by decide)).trans ((w_up_ne (by decide)).trans (w_up_ne (by decide))))) ?_
          refine w_imul rfl ?_
          refine w_iconst rfl (by decide) ?_
          refine w_iadd rfl ?_
          refine w_aload_n rfl rfl ?_
          refine w_gfC (c := 479) rfl s_428 rfl rfl ?_
          refine w_iconst rfl (by decide) ?_
          refine w_iald rfl s_479 (n := 9) rfl (by decide) ?_
          refine w_iast rfl s_481 (w_EM (by decide)) (n := 7500) rfl h.1 ?_
          replace h := h.2
          refine w_aload_n rfl rfl ?_
          refine w_dup rfl (show (2 : Nat) ≠ 1 by decide) ?_
          refine x_gfI rfl s_428 rfl (kk := 104) rfl ((w_up_ne (by decide)).trans ((w_up_ne (by decide)).trans ((w_up_ne (by decide)).trans ((w_up_ne (by decide)).trans (w_up_ne (by decide)))))) ?_
          refine w_iconst rfl (by decide) ?_
          refine w_iadd rfl ?_
          refine w_pfI rfl s_428 rfl (w_EM (by decide)) rfl (kk := 104) rfl ?_
          refine w_aload_n rfl rfl ?_
          refine w_aload_n rfl rfl ?_
          refine w_iload_n rfl rfl ?_
          refine w_callV (t' := 0) [(0, (m1 440 (w_32 ((m1 436 l1) + l2))) % 256)] [(2, 428)] rfl s_428 rfl rfl ?_
          refine w_C.more (Q := fun r5 m5 => _) h (fun r5 m5 h => ?_)
          replace h := id h
          refine w_i2l rfl ?_
          refine w_aload_n rfl rfl ?_
          refine w_gfC (c := 479) rfl s_428 rfl rfl ?_
          refine w_iconst rfl (by decide) ?_
          refine w_iald rfl s_479 (n := 9) rfl (by decide) ?_
          refine w_i2l rfl ?_
          refine w_lmul' rfl ?_
          refine w_callS (t' := 1) [(1, w_64 (r5 * (m5 479 5)))] [(2, 428)] rfl (by decide) rfl rfl ?_
          refine w_C.more (Q := fun r6 m6 => _) h (fun r6 m6 h => ?_)
          replace h := id h
          refine w_aload_n rfl rfl ?_
          refine w_gfC (c := 479) rfl s_428 rfl rfl ?_
          refine w_bipush rfl (by decide) ?_
          refine w_iald rfl s_479 (n := 9) rfl (by decide) ?_
          refine w_i2l rfl ?_
          refine w_ladd' rfl ?_
          refine w_iload_n rfl rfl ?_
          refine w_bipush rfl (by decide) ?_
          refine w_icne rfl (w_ite h (fun h => ?_) (fun h => ?_))
          · refine w_aload_n rfl rfl ?_
            refine w_gfC (c := 479) rfl s_428 rfl rfl ?_
            refine w_bipush rfl (by decide) ?_
            refine w_iald rfl s_479 (n := 9) rfl (by decide) ?_
            refine w_goto rfl ?_
            refine w_i2l rfl ?_
            refine w_ladd' rfl ?_
            refine w_callV (t' := 3) [(1, w_64 ((w_64 (r6 + (m6 479 6))) + (m6 479 7)))] [] rfl s_428 rfl rfl ?_
            refine w_C.more (Q := fun r7 m7 => _) h (fun r7 m7 h => ?_)
            replace h := id h
            refine w_iinc (lv' := [some (2, 428), some (0, l1), some (0, w_32 (l2 + 1)), some (0, (m1 440 (w_32 ((m1 436 l1) + l2))) % 256)]) rfl rfl rfl rfl ?_
            refine w_goto rfl ?_
            exact w_W.less h (w_sub [true, true, true, false] rfl)
          · refine w_iconst rfl (by decide) ?_
            refine w_i2l rfl ?_
            refine w_ladd' rfl ?_
            refine w_callV (t' := 3) [(1, w_64 ((w_64 (r6 + (m6 479 6))) + 0))] [] rfl s_428 rfl rfl ?_
            refine w_C.more (Q := fun r8 m8 => _) h (fun r8 m8 h => ?_)
            replace h := id h
            refine w_iinc (lv' := [some (2, 428), some (0, l1), some (0, w_32 (l2 + 1)), some (0, (m1 440 (w_32 ((m1 436 l1) + l2))) % 256)]) rfl rfl rfl rfl ?_
            refine w_goto rfl ?_
            exact w_W.less h (w_sub [true, true, true, false] rfl)
  · exact w_vret rfl rfl h
theorem xr_m_size {d : Nat} {l1 : Int} {m : w_M} {Q : Int → w_M → Prop} (h : xc_m_isObject d l1 m (fun r1 m1 => if r1 = 0 then (Q (-1) m1) else (((0 : Int) ≤ l1 ∧ l1 < 200) ∧ (if (m1 457 l1) = 0 then (Q (-1) m1) else (((0 : Int) ≤ l1 ∧ l1 < 200) ∧ (Q (m1 459 l1) m1)))))) : xc_m_size (d + 1) l1 m Q := by
  refine w_enter (q := 0) (lv := [some (2, 428), some (0, l1)]) rfl rfl rfl ?_
  refine w_aload_n rfl rfl ?_
  refine w_iload_n rfl rfl ?_
  refine w_callV (t' := 0) [(0, l1)] [] rfl s_428 rfl rfl ?_
  refine w_C.more (Q := fun r1 m1 => _) h (fun r1 m1 h => ?_)
  replace h := id h
  refine w_ifeq rfl (w_ite h (fun h => ?_) (fun h => ?_))
  · refine w_iconst rfl (by decide) ?_
    exact w_iret rfl rfl h
  · refine w_aload_n rfl rfl ?_
    refine w_gfC (c := 457) rfl s_428 rfl rfl ?_
    refine w_iload_n rfl rfl ?_
    refine w_zald rfl s_457 (n := 200) rfl h.1 ?_
    replace h := h.2
    refine w_ifeq rfl (w_ite h (fun h => ?_) (fun h => ?_))
    · refine w_iconst rfl (by decide) ?_
      exact w_iret rfl rfl h
    · refine w_aload_n rfl rfl ?_
      refine w_gfC (c := 459) rfl s_428 rfl rfl ?_
      refine w_iload_n rfl rfl ?_
      refine w_iald rfl s_459 (n := 200) rfl h.1 ?_
      replace h := h.2
      refine w_goto rfl ?_
      exact w_iret rfl rfl h
theorem xr_m_stand {d : Nat} {l1 l2 : Int} {m : w_M} {Q : Int → w_M → Prop} (h : w_isS l1 ∧ (xc_js_length sM d l1 m (fun r1 m1 => if (m1 428 3) < (w_32 (l2 + r1)) then (xp_m_stand_22 d l1 l2 0 0 m1 Q) else (xp_m_stand_22 d l1 l2 1 0 m1 Q)))) : xc_m_stand (d + 1) l1 l2 m Q := by
  refine w_enter (q := 2) (lv := [some (2, 428), some (2, l1), some (0, l2), none, none]) rfl rfl rfl ?_
  refine w_iload_n rfl rfl ?_
  refine w_aload_n rfl rfl ?_
  refine w_callV (t' := 0) [] [(0, l2)] rfl (w_isS_s h.1) rfl rfl ?_
  replace h := h.2
  refine w_C.more (Q := fun r1 m1 => _) h (fun r1 m1 h => ?_)
  replace h := id h
  refine w_iadd rfl ?_
  refine w_aload_n rfl rfl ?_
  refine x_gfI rfl s_428 rfl (kk := 3) rfl rfl ?_
  refine w_icgt rfl (w_ite h (fun h => ?_) (fun h => ?_))
  · refine w_iconst rfl (by decide) ?_
    refine w_istore_n (lv' := [some (2, 428), some (2, l1), some (0, l2), some (0, 0), none]) rfl rfl rfl ?_
    refine w_iconst rfl (by decide) ?_
    refine w_istore (lv' := [some (2, 428), some (2, l1), some (0, l2), some (0, 0), some (0, 0)]) rfl rfl rfl ?_
    exact w_W.less h (w_sub [true, true, true, true, true] rfl)
  · refine w_iconst rfl (by decide) ?_
    refine w_goto rfl ?_
    refine w_istore_n (lv' := [some (2, 428), some (2, l1), some (0, l2), some (0, 1), none]) rfl rfl rfl ?_
    refine w_iconst rfl (by decide) ?_
    refine w_istore (lv' := [some (2, 428), some (2, l1), some (0, l2), some (0, 1), some (0, 0)]) rfl rfl rfl ?_
    exact w_W.less h (w_sub [true, true, true, true, true] rfl)
theorem xr_m_stand_22 {d : Nat} {l1 l2 l3 l4 : Int} {m : w_M} {Q : Int → w_M → Prop} (h : w_isS l1 ∧ (xc_js_length sM d l1 m (fun r1 m1 => if l4 < r1 then (if l3 = 0 then ((l3 = 0 ∨ l3 = 1) ∧ Q l3 m1) else (((0 : Int) ≤ (w_32 (l2 + l4)) ∧ (w_32 (l2 + l4)) < 8000) ∧ (w_isS l1 ∧ (xc_js_charAt sM d l1 l4 m1 (fun r2 m2 => if (m1 430 (w_32 (l2 + l4))) = r2 then (xp_m_stand_22 d l1 l2 1 (w_32 (l4 + 1)) m2 Q) else (xp_m_stand_22 d l1 l2 0 (w_32 (l4 + 1)) m2 Q)))))) else ((l3 = 0 ∨ l3 = 1) ∧ Q l3 m1)))) : xp_m_stand_22 d l1 l2 l3 l4 m Q := by
  refine w_iload rfl rfl ?_
  refine w_aload_n rfl rfl ?_
  refine w_callV (t' := 0) [] [(0, l4)] rfl (w_isS_s h.1) rfl rfl ?_
  replace h := h.2
  refine w_C.more (Q := fun r1 m1 => _) h (fun r1 m1 h => ?_)
  replace h := id h
  refine w_icge rfl (w_ite h (fun h => ?_) (fun h => ?_))
  · refine w_iload_n rfl rfl ?_
    refine w_ifeq rfl (w_ite h (fun h => ?_) (fun h => ?_))
    · refine w_iload_n rfl rfl ?_
      exact w_zret rfl rfl h.1 h.2
    · refine w_aload_n rfl rfl ?_
      refine w_gfC (c := 430) rfl s_428 rfl rfl ?_
      refine w_iload_n rfl rfl ?_
      refine w_iload rfl rfl ?_
      refine w_iadd rfl ?_
      refine w_bald rfl s_430 (n := 8000) rfl h.1 ?_
      replace h := h.2
      refine w_aload_n rfl rfl ?_
      refine w_iload rfl rfl ?_
      refine w_callV (t' := 0) [(0, l4)] [(0, m1 430 (w_32 (l2 + l4)))] rfl (w_isS_s h.1) rfl rfl ?_
      replace h := h.2
      refine w_C.more (Q := fun r2 m2 => _) h (fun r2 m2 h => ?_)
      replace h := id h
      refine w_icne rfl (w_ite h (fun h => ?_) (fun h => ?_))
      · refine w_iconst rfl (by decide) ?_
        refine w_goto rfl ?_
        refine w_istore_n (lv' := [some (2, 428), some (2, l1), some (0, l2), some (0, 1), some (0, l4)]) rfl rfl rfl ?_
        refine w_iinc (lv' := [some (2, 428), some (2, l1), some (0, l2), some (0, 1), some (0, w_32 (l4 + 1))]) rfl rfl rfl rfl ?_
        refine w_goto rfl ?_
        exact w_W.less h (w_sub [true, true, true, true, true] rfl)
      · refine w_iconst rfl (by decide) ?_
        refine w_istore_n (lv' := [some (2, 428), some (2, l1), some (0, l2), some (0, 0), some (0, l4)]) rfl rfl rfl ?_
        refine w_iinc (lv' := [some (2, 428), some (2, l1), some (0, l2), some (0, 0), some (0, w_32 (l4 + 1))]) rfl rfl rfl rfl ?_
        refine w_goto rfl ?_
        exact w_W.less h (w_sub [true, true, true, true, true] rfl)
  · refine w_iload_n rfl rfl ?_
    exact w_zret rfl rfl h.1 h.2
theorem xr_m_stored {d : Nat} {m : w_M} {Q : Int → w_M → Prop} (h : xc_m_bits d 16 (w_up m 428 39 (w_32 ((Int.tdiv (w_32 ((m 428 39) + 7)) 8) * 8))) (fun r1 m1 => xc_m_bits d 16 m1 (fun r2 m2 => if (m2 428 40) = 0 then (if (w_xor r1 r2) = 65535 then (xp_m_stored_55 d r1 0 m2 Q) else (Q 0 (w_up m2 428 40 1))) else (Q 0 (w_up m2 428 40 1))))) : xc_m_stored (d + 1) m Q := by
  refine w_enter (q := 3) (lv := [some (2, 428), none, none, none]) rfl rfl rfl ?_
  refine w_aload_n rfl rfl ?_
  refine w_aload_n rfl rfl ?_
  refine x_gfI rfl s_428 rfl (kk := 39) rfl rfl ?_
  refine w_bipush rfl (by decide) ?_
  refine w_iadd rfl ?_
  refine w_bipush rfl (by decide) ?_
  refine w_idivk rfl (by decide) ?_
  refine w_bipush rfl (by decide) ?_
  refine w_imul rfl ?_
  refine w_pfI rfl s_428 rfl (w_EM (by decide)) rfl (kk := 39) rfl ?_
  refine w_aload_n rfl rfl ?_
  refine w_bipush rfl (by decide) ?_
  refine w_callV (t' := 0) [(0, 16)] [] rfl s_428 rfl rfl ?_
  refine w_C.more (Q := fun r1 m1 => _) h (fun r1 m1 h => ?_)
  replace h := id h
  refine w_istore_n (lv' := [some (2, 428), some (0, r1), none, none]) rfl rfl rfl ?_
  refine w_aload_n rfl rfl ?_
  refine w_bipush rfl (by decide) ?_
  refine w_callV (t' := 0) [(0, 16)] [] rfl s_428 rfl rfl ?_
  refine w_C.more (Q := fun r2 m2 => _) h (fun r2 m2 h => ?_)
  replace h := id h
  refine w_istore_n (lv' := [some (2, 428), some (0, r1), some (0, r2), none]) rfl rfl rfl ?_
  refine w_aload_n rfl rfl ?_
  refine x_gfZ rfl s_428 rfl (kk := 40) rfl rfl ?_
  refine w_ifne rfl (w_ite h (fun h => ?_) (fun h => ?_))
  · refine w_iload_n rfl rfl ?_
    refine w_iload_n rfl rfl ?_
    refine w_ixor rfl ?_
    refine w_ldcw (a := 65535) rfl (by decide +kernel) (by decide) ?_
    refine w_iceq rfl (w_ite h (fun h => ?_) (fun h => ?_))
    · refine w_iconst rfl (by decide) ?_
      refine w_istore_n (lv' := [some (2, 428), some (0, r1), some (0, r2), some (0, 0)]) rfl rfl rfl ?_
      exact w_W.less h (w_sub [true, true, false, true] rfl)
    · refine w_aload_n rfl rfl ?_
      refine w_iconst rfl (by decide) ?_
      refine w_pfZ rfl s_428 rfl (w_EM (by decide)) rfl (kk := 40) rfl (by decide) ?_
      exact w_vret rfl rfl h
  · refine w_aload_n rfl rfl ?_
    refine w_iconst rfl (by decide) ?_
    refine w_pfZ rfl s_428 rfl (w_EM (by decide)) rfl (kk := 40) rfl (by decide) ?_
    exact w_vret rfl rfl h
theorem xr_m_stored_55 {d : Nat} {l1 l3 : Int} {m : w_M} {Q : Int → w_M → Prop} (h : if l3 < l1 then (if (m 428 40) = 0 then (xc_m_bits d 8 m (fun r1 m1 => xc_m_emit d r1 m1 (fun r2 m2 => xp_m_stored_55 d l1 (w_32 (l3 + 1)) m2 Q))) else (Q 0 m)) else (Q 0 m)) : xp_m_stored_55 d l1 l3 m Q := by
  refine w_iload_n rfl rfl ?_
  refine w_iload_n rfl rfl ?_
  refine w_icge rfl (w_ite h (fun h => ?_) (fun h => ?_))
  · refine w_aload_n rfl rfl ?_
    refine x_gfZ rfl s_428 rfl (kk := 40) rfl rfl ?_
    refine w_ifne rfl (w_ite h (fun h => ?_) (fun h => ?_))
    · refine w_aload_n rfl rfl ?_
      refine w_aload_n rfl rfl ?_
      refine w_bipush rfl (by decide) ?_
      refine w_callV (t' := 0) [(0, 8)] [(2, 428)] rfl s_428 rfl rfl ?_
      refine w_C.more (Q := fun r1 m1 => _) h (fun r1 m1 h => ?_)
      replace h := id h
      refine w_callV (t' := 3) [(0, r1)] [] rfl s_428 rfl rfl ?_
      refine w_C.more (Q := fun r2 m2 => _) h (fun r2 m2 h => ?_)
      replace h := id h
      refine w_iinc (lv' := [some (2, 428), some (0, l1), none, some (0, w_32 (l3 + 1))]) rfl rfl rfl rfl ?_
      refine w_goto rfl ?_
      exact w_W.less h (w_sub [true, true, false, true] rfl)
    · exact w_vret rfl rfl h
  · exact w_vret rfl rfl h
theorem xr_m_streamEnd {d : Nat} {l1 l2 : Int} {m : w_M} {Q : Int → w_M → Prop} (h : if (w_32 ((m 428 3) - l1)) < l2 then (Q 0 m) else (xc_m_token d (w_up m 428 21 (w_32 (l1 + l2))) (fun r1 m1 => xc_m_isWord d 308 m1 (fun r2 m2 => (r2 = 0 ∨ r2 = 1) ∧ Q r2 m2)))) : xc_m_streamEnd (d + 1) l1 l2 m Q := by
  refine w_enter (q := 0) (lv := [some (2, 428), some (0, l1), some (0, l2)]) rfl rfl rfl ?_
  refine w_iload_n rfl rfl ?_
  refine w_aload_n rfl rfl ?_
  refine x_gfI rfl s_428 rfl (kk := 3) rfl rfl ?_
  refine w_iload_n rfl rfl ?_
  refine w_isub rfl ?_
  refine w_icle rfl (w_ite h (fun h => ?_) (fun h => ?_))
  · refine w_iconst rfl (by decide) ?_
    exact w_zret rfl rfl (by decide) h
  · refine w_aload_n rfl rfl ?_
    refine w_iload_n rfl rfl ?_
    refine w_iload_n rfl rfl ?_
    refine w_iadd rfl ?_
    refine w_pfI rfl s_428 rfl (w_EM (by decide)) rfl (kk := 21) rfl ?_
    refine w_aload_n rfl rfl ?_
    refine w_callV (t' := 3) [] [] rfl s_428 rfl rfl ?_
    refine w_C.more (Q := fun r1 m1 => _) h (fun r1 m1 h => ?_)
    replace h := id h
    refine w_aload_n rfl rfl ?_
    refine w_ldcwR rfl ?_
    refine w_callV (t' := 0) [(2, 308)] [] rfl s_428 rfl rfl ?_
    refine w_C.more (Q := fun r2 m2 => _) h (fun r2 m2 h => ?_)
    replace h := id h
    exact w_zret rfl rfl h.1 h.2
theorem xr_m_streamNumber {d : Nat} {l1 : Int} {m : w_M} {Q : Int → w_M → Prop} (h : if l1 < 0 then (Q 0 m) else (((0 : Int) ≤ l1 ∧ l1 < 40000) ∧ (if (m 432 l1) = 8 then (xc_m_resolve d l1 m (fun r1 m1 => ((0 : Int) ≤ (m1 428 80) ∧ (m1 428 80) < 200) ∧ (if (m1 457 (m1 428 80)) = 0 then (Q 0 m1) else (Q (m1 428 80) m1)))) else (Q 0 m)))) : xc_m_streamNumber (d + 1) l1 m Q := by
  refine w_enter (q := 0) (lv := [some (2, 428), some (0, l1)]) rfl rfl rfl ?_
  refine w_iload_n rfl rfl ?_
  refine w_iflt rfl (w_ite h (fun h => ?_) (fun h => ?_))
  · refine w_iconst rfl (by decide) ?_
    exact w_iret rfl rfl h
  · refine w_aload_n rfl rfl ?_
    refine w_gfC (c := 432) rfl s_428 rfl rfl ?_
    refine w_iload_n rfl rfl ?_
    refine w_bald rfl s_432 (n := 40000) rfl h.1 ?_
    replace h := h.2
    refine w_bipush rfl (by decide) ?_
    refine w_iceq rfl (w_ite h (fun h => ?_) (fun h => ?_))
    · refine w_aload_n rfl rfl ?_
      refine w_iload_n rfl rfl ?_
      refine w_callV (t' := 0) [(0, l1)] [] rfl s_428 rfl rfl ?_
      refine w_C.more (Q := fun r1 m1 => _) h (fun r1 m1 h => ?_)
      replace h := id h
      refine w_pop rfl (show (0 : Nat) ≠ 1 by decide) ?_
      refine w_aload_n rfl rfl ?_
      refine w_gfC (c := 457) rfl s_428 rfl rfl ?_
      refine w_aload_n rfl rfl ?_
      refine x_gfI rfl s_428 rfl (kk := 80) rfl rfl ?_
      refine w_zald rfl s_457 (n := 200) rfl h.1 ?_
      replace h := h.2
      refine w_ifeq rfl (w_ite h (fun h => ?_) (fun h => ?_))
      · refine w_iconst rfl (by decide) ?_
        exact w_iret rfl rfl h
      · refine w_aload_n rfl rfl ?_
        refine x_gfI rfl s_428 rfl (kk := 80) rfl rfl ?_
        refine w_goto rfl ?_
        exact w_iret rfl rfl h
    · refine w_iconst rfl (by decide) ?_
      exact w_iret rfl rfl h
theorem xr_m_streamStart {d : Nat} {m : w_M} {Q : Int → w_M → Prop} (h : xc_m_token d m (fun r1 m1 => xc_m_isWord d 272 m1 (fun r2 m2 => if r2 = 0 then (Q (-1) m2) else (xc_m_peek d 0 m2 (fun r3 m3 => if r3 = 13 then (xc_m_peek d 1 m3 (fun r4 m4 => if r4 = 10 then (Q (w_32 ((m4 428 21) + 2)) m4) else (xp_m_streamStart_40 d m4 Q))) else (xp_m_streamStart_40 d m3 Q)))))) : xc_m_streamStart (d + 1) m Q := by
  refine w_enter (q := 1) (lv := [some (2, 428), none]) rfl rfl rfl ?_
  refine w_aload_n rfl rfl ?_
  refine w_callV (t' := 3) [] [] rfl s_428 rfl rfl ?_
  refine w_C.more (Q := fun r1 m1 => _) h (fun r1 m1 h => ?_)
  replace h := id h
  refine w_aload_n rfl rfl ?_
  refine w_ldcwR rfl ?_
  refine w_callV (t' := 0) [(2, 272)] [] rfl s_428 rfl rfl ?_
  refine w_C.more (Q := fun r2 m2 => _) h (fun r2 m2 h => ?_)
  replace h := id h
  refine w_ifne rfl (w_ite h (fun h => ?_) (fun h => ?_))
  · refine w_iconst rfl (by decide) ?_
    exact w_iret rfl rfl h
  · refine w_aload_n rfl rfl ?_
    refine w_iconst rfl (by decide) ?_
    refine w_callV (t' := 0) [(0, 0)] [] rfl s_428 rfl rfl ?_
    refine w_C.more (Q := fun r3 m3 => _) h (fun r3 m3 h => ?_)
    replace h := id h
    refine w_bipush rfl (by decide) ?_
    refine w_icne rfl (w_ite h (fun h => ?_) (fun h => ?_))
    · refine w_aload_n rfl rfl ?_
      refine w_iconst rfl (by decide) ?_
      refine w_callV (t' := 0) [(0, 1)] [] rfl s_428 rfl rfl ?_
      refine w_C.more (Q := fun r4 m4 => _) h (fun r4 m4 h => ?_)
      replace h := id h
      refine w_bipush rfl (by decide) ?_
      refine w_icne rfl (w_ite h (fun h => ?_) (fun h => ?_))
      · refine w_iconst rfl (by decide) ?_
        refine w_goto rfl ?_
        refine w_istore_n (lv' := [some (2, 428), some (0, 2)]) rfl rfl rfl ?_
        refine w_iload_n rfl rfl ?_
        refine w_ifne rfl (w_iff (by decide) ?_)
        refine w_aload_n rfl rfl ?_
        refine x_gfI rfl s_428 rfl (kk := 21) rfl rfl ?_
        refine w_iload_n rfl rfl ?_
        refine w_iadd rfl ?_
        exact w_iret rfl rfl h
      · exact w_W.less h (w_sub [true, false] rfl)
    · exact w_W.less h (w_sub [true, false] rfl)
theorem xr_m_streamStart_40 {d : Nat} {m : w_M} {Q : Int → w_M → Prop} (h : xc_m_peek d 0 m (fun r1 m1 => if r1 = 10 then (Q (w_32 ((m1 428 21) + 1)) m1) else (Q (-1) m1))) : xp_m_streamStart_40 d m Q := by
  refine w_aload_n rfl rfl ?_
  refine w_iconst rfl (by decide) ?_
  refine w_callV (t' := 0) [(0, 0)] [] rfl s_428 rfl rfl ?_
  refine w_C.more (Q := fun r1 m1 => _) h (fun r1 m1 h => ?_)
  replace h := id h
  refine w_bipush rfl (by decide) ?_
  refine w_icne rfl (w_ite h (fun h => ?_) (fun h => ?_))
  · refine w_iconst rfl (by decide) ?_
    refine w_goto rfl ?_
    refine w_istore_n (lv' := [some (2, 428), some (0, 1)]) rfl rfl rfl ?_
    refine w_iload_n rfl rfl ?_
    refine w_ifne rfl (w_iff (by decide) ?_)
    refine w_aload_n rfl rfl ?_
    refine x_gfI rfl s_428 rfl (kk := 21) rfl rfl ?_
    refine w_iload_n rfl rfl ?_
    refine w_iadd rfl ?_
    exact w_iret rfl rfl h
  · refine w_iconst rfl (by decide) ?_
    refine w_istore_n (lv' := [some (2, 428), some (0, 0)]) rfl rfl rfl ?_
    refine w_iload_n rfl rfl ?_
    refine w_ifne rfl (w_ift (by decide) ?_)
    refine w_iconst rfl (by decide) ?_
    refine w_goto rfl ?_
    exact w_iret rfl rfl h
theorem xr_m_streamTail {d : Nat} {m : w_M} {Q : Int → w_M → Prop} (h : xc_m_sayText d 310 m (fun r1 m1 => xc_m_sayNumber d (m1 428 115) m1 (fun r2 m2 => xc_m_sayText d 312 m2 (fun r3 m3 => xp_m_streamTail_25 d 0 m3 Q)))) : xc_m_streamTail (d + 1) m Q := by
  refine w_enter (q := 1) (lv := [some (2, 428), none]) rfl rfl rfl ?_
  refine w_aload_n rfl rfl ?_
  refine w_ldcwR rfl ?_
  refine w_callV (t' := 3) [(2, 310)] [] rfl s_428 rfl rfl ?_
  refine w_C.more (Q := fun r1 m1 => _) h (fun r1 m1 h => ?_)
  replace h := id h
  refine w_aload_n rfl rfl ?_
  refine w_aload_n rfl rfl ?_
  refine x_gfI rfl s_428 rfl (kk := 115) rfl rfl ?_
  refine w_i2l rfl ?_
  refine w_callV (t' := 3) [(1, m1 428 115)] [] rfl s_428 rfl rfl ?_
  refine w_C.more (Q := fun r2 m2 => _) h (fun r2 m2 h => ?_)
  replace h := id h
  refine w_aload_n rfl rfl ?_
  refine w_ldcwR rfl ?_
  refine w_callV (t' := 3) [(2, 312)] [] rfl s_428 rfl rfl ?_
  refine w_C.more (Q := fun r3 m3 => _) h (fun r3 m3 h => ?_)
  replace h := id h
  refine w_iconst rfl (by decide) ?_
  refine w_istore_n (lv' := [some (2, 428), some (0, 0)]) rfl rfl rfl ?_
  exact w_W.less h (w_sub [true, true] rfl)
theorem xr_m_streamTail_25 {d : Nat} {l1 : Int} {m : w_M} {Q : Int → w_M → Prop} (h : if l1 < (m 428 115) then (((0 : Int) ≤ l1 ∧ l1 < 50000) ∧ (xc_m_say d (m 486 l1) m (fun r1 m1 => xp_m_streamTail_25 d (w_32 (l1 + 1)) m1 Q))) else (xc_m_sayText d 314 m (fun r2 m2 => Q 0 m2))) : xp_m_streamTail_25 d l1 m Q := by
  refine w_iload_n rfl rfl ?_
  refine w_aload_n rfl rfl ?_
  refine x_gfI rfl s_428 rfl (kk := 115) rfl rfl ?_
  refine w_icge rfl (w_ite h (fun h => ?_) (fun h => ?_))
  · refine w_aload_n rfl rfl ?_
    refine w_aload_n rfl rfl ?_
    refine w_gfC (c := 486) rfl s_428 rfl rfl ?_
    refine w_iload_n rfl rfl ?_
    refine w_bald rfl s_486 (n := 50000) rfl h.1 ?_
    replace h := h.2
    refine w_callV (t' := 3) [(0, m 486 l1)] [] rfl s_428 rfl rfl ?_
    refine w_C.more (Q := fun r1 m1 => _) h (fun r1 m1 h => ?_)
    replace h := id h
    refine w_iinc (lv' := [some (2, 428), some (0, w_32 (l1 + 1))]) rfl rfl rfl rfl ?_
    refine w_goto rfl ?_
    exact w_W.less h (w_sub [true, true] rfl)
  · refine w_aload_n rfl rfl ?_
    refine w_ldcwR rfl ?_
    refine w_callV (t' := 3) [(2, 314)] [] rfl s_428 rfl rfl ?_
    refine w_C.more (Q := fun r2 m2 => _) h (fun r2 m2 h => ?_)
    replace h := id h
    exact w_vret rfl rfl h
theorem xr_m_sum {d : Nat} {m : w_M} {Q : Int → w_M → Prop} (h : xc_m_adler d 431 (m 428 5) m (fun r1 m1 => Q (w_32 r1) m1)) : xc_m_sum (d + 1) m Q := by
  refine w_enter (q := 0) (lv := [some (2, 428)]) rfl rfl rfl ?_
  refine w_aload_n rfl rfl ?_
  refine w_gfC (c := 431) rfl s_428 rfl rfl ?_
  refine w_aload_n rfl rfl ?_
  refine x_gfI rfl s_428 rfl (kk := 5) rfl rfl ?_
  refine w_callS (t' := 1) [(0, m 428 5), (2, 431)] [] rfl (by decide) rfl rfl ?_
  refine w_C.more (Q := fun r1 m1 => _) h (fun r1 m1 h => ?_)
  replace h := id h
  refine w_l2i rfl ?_
  exact w_iret rfl rfl h
theorem xr_m_symbol {d : Nat} {l1 l2 : Int} {m : w_M} {Q : Int → w_M → Prop} (h : xp_m_symbol_11 d l1 l2 0 0 0 1 m Q) : xc_m_symbol (d + 1) l1 l2 m Q := by
  refine w_enter (q := 5) (lv := [some (2, 428), some (2, l1), some (2, l2), none, none, none, none, none]) rfl rfl rfl ?_
  refine w_iconst rfl (by decide) ?_
  refine w_istore_n (lv' := [some (2, 428), some (2, l1), some (2, l2), some (0, 0), none, none, none, none]) rfl rfl rfl ?_
  refine w_iconst rfl (by decide) ?_
  refine w_istore (lv' := [some (2, 428), some (2, l1), some (2, l2), some (0, 0), some (0, 0), none, none, none]) rfl rfl rfl ?_
  refine w_iconst rfl (by decide) ?_
  refine w_istore (lv' := [some (2, 428), some (2, l1), some (2, l2), some (0, 0), some (0, 0), some (0, 0), none, none]) rfl rfl rfl ?_
  refine w_iconst rfl (by decide) ?_
  refine w_istore (lv' := [some (2, 428), some (2, l1), some (2, l2), some (0, 0), some (0, 0), some (0, 0), some (0, 1), none]) rfl rfl rfl ?_
  exact w_W.less h (w_sub [true, true, true, true, true, true, true, false] rfl)
theorem xr_m_symbol_11 {d : Nat} {l1 l2 l3 l4 l5 l6 : Int} {m : w_M} {Q : Int → w_M → Prop} (h : if l6 < 16 then (xc_m_bits d 1 m (fun r1 m1 => if (m1 428 40) = 0 then (w_isA 0 l1 ∧ ((0 : Int) ≤ l6 ∧ l6 < w_ln l1) ∧ (if (w_32 ((w_or l3 r1) - (m1 l1 l6))) < l4 then (w_isA 0 l2 ∧ ((0 : Int) ≤ (w_32 ((w_32 (l5 + (w_or l3 r1))) - l4)) ∧ (w_32 ((w_32 (l5 + (w_or l3 r1))) - l4)) < w_ln l2) ∧ (Q (m1 l2 (w_32 ((w_32 (l5 + (w_or l3 r1))) - l4))) m1)) else (xp_m_symbol_11 d l1 l2 (w_32 ((w_or l3 r1) * 2)) (w_32 ((w_32 (l4 + (m1 l1 l6))) * 2)) (w_32 (l5 + (m1 l1 l6))) (w_32 (l6 + 1)) m1 Q))) else (Q 0 m1))) else (Q 0 (w_up m 428 40 1))) : xp_m_symbol_11 d l1 l2 l3 l4 l5 l6 m Q := by
  refine w_iload rfl rfl ?_
  refine w_bipush rfl (by decide) ?_
  refine w_icge rfl (w_ite h (fun h => ?_) (fun h => ?_))
  · refine w_iload_n rfl rfl ?_
    refine w_aload_n rfl rfl ?_
    refine w_iconst rfl (by decide) ?_
    refine w_callV (t' := 0) [(0, 1)] [(0, l3)] rfl s_428 rfl rfl ?_
    refine w_C.more (Q := fun r1 m1 => _) h (fun r1 m1 h => ?_)
    replace h := id h
    refine w_ior rfl ?_
    refine w_istore_n (lv' := [some (2, 428), some (2, l1), some (2, l2), some (0, w_or l3 r1), some (0, l4), some (0, l5), some (0, l6), none]) rfl rfl rfl ?_
    refine w_aload_n rfl rfl ?_
    refine x_gfZ rfl s_428 rfl (kk := 40) rfl rfl ?_
    refine w_ifeq rfl (w_ite h (fun h => ?_) (fun h => ?_))
    · refine w_aload_n rfl rfl ?_
      refine w_iload rfl rfl ?_
      refine x_iald rfl h.1 h.2.1 ?_
      replace h := h.2.2
      refine w_istore (lv' := [some (2, 428), some (2, l1), some (2, l2), some (0, w_or l3 r1), some (0, l4), some (0, l5), some (0, l6), some (0, m1 l1 l6)]) rfl rfl rfl ?_
      refine w_iload_n rfl rfl ?_
      refine w_iload rfl rfl ?_
      refine w_isub rfl ?_
      refine w_iload rfl rfl ?_
      refine w_icge rfl (w_ite h (fun h => ?_) (fun h => ?_))
      · refine w_aload_n rfl rfl ?_
        refine w_iload rfl rfl ?_
        refine w_iload_n rfl rfl ?_
        refine w_iadd rfl ?_
        refine w_iload rfl rfl ?_
        refine w_isub rfl ?_
        refine x_iald rfl h.1 h.2.1 ?_
        replace h := h.2.2
        exact w_iret rfl rfl h
      · refine w_iload rfl rfl ?_
        refine w_iload rfl rfl ?_
        refine w_iadd rfl ?_
        refine w_istore (lv' := [some (2, 428), some (2, l1), some (2, l2), some (0, w_or l3 r1), some (0, l4), some (0, w_32 (l5 + (m1 l1 l6))), some (0, l6), some (0, m1 l1 l6)]) rfl rfl rfl ?_
        refine w_iload rfl rfl ?_
        refine w_iload rfl rfl ?_
        refine w_iadd rfl ?_
        refine w_iconst rfl (by decide) ?_
        refine w_ishlk (c := 2) rfl (by decide) (by decide) rfl ?_
        refine w_istore (lv' := [some (2, 428), some (2, l1), some (2, l2), some (0, w_or l3 r1), some (0, w_32 ((w_32 (l4 + (m1 l1 l6))) * 2)), some (0, w_32 (l5 + (m1 l1 l6))), some (0, l6), some (0, m1 l1 l6)]) rfl rfl rfl ?_
        refine w_iload_n rfl rfl ?_
        refine w_iconst rfl (by decide) ?_
        refine w_ishlk (c := 2) rfl (by decide) (by decide) rfl ?_
        refine w_istore_n (lv' := [some (2, 428), some (2, l1), some (2, l2), some (0, w_32 ((w_or l3 r1) * 2)), some (0, w_32 ((w_32 (l4 + (m1 l1 l6))) * 2)), some (0, w_32 (l5 + (m1 l1 l6))), some (0, l6), some (0, m1 l1 l6)]) rfl rfl rfl ?_
        refine w_iinc (lv' := [some (2, 428), some (2, l1), some (2, l2), some (0, w_32 ((w_or l3 r1) * 2)), some (0, w_32 ((w_32 (l4 + (m1 l1 l6))) * 2)), some (0, w_32 (l5 + (m1 l1 l6))), some (0, w_32 (l6 + 1)), some (0, m1 l1 l6)]) rfl rfl rfl rfl ?_
        refine w_goto rfl ?_
        exact w_W.less h (w_sub [true, true, true, true, true, true, true, false] rfl)
    · refine w_iconst rfl (by decide) ?_
      exact w_iret rfl rfl h
  · refine w_aload_n rfl rfl ?_
    refine w_iconst rfl (by decide) ?_
    refine w_pfZ rfl s_428 rfl (w_EM (by decide)) rfl (kk := 40) rfl (by decide) ?_
    refine w_iconst rfl (by decide) ?_
    exact w_iret rfl rfl h
theorem xr_m_table {d : Nat} {l1 : Int} {m : w_M} {Q : Int → w_M → Prop} (h : xp_m_table_2 d l1 0 m Q) : xc_m_table (d + 1) l1 m Q := by
  refine w_enter (q := 8) (lv := [some (2, 428), some (0, l1), none, none, none, none, none, none, none, none]) rfl rfl rfl ?_
  refine w_iconst rfl (by decide) ?_
  refine w_istore_n (lv' := [some (2, 428), some (0, l1), some (0, 0), none, none, none, none, none, none, none]) rfl rfl rfl ?_
  exact w_W.less h (w_sub [true, true, true, false, false, false, false, false, false, false] rfl)
theorem xr_m_table_2 {d : Nat} {l1 l2 : Int} {m : w_M} {Q : Int → w_M → Prop} (h : xc_m_good d m (fun r1 m1 => if r1 = 0 then (xp_m_table_327 d l1 m1 Q) else (xc_m_blanks d m1 (fun r2 m2 => if l2 = 0 then (xc_m_plainRow d m2 (fun r3 m3 => xc_m_blanks d m3 (fun r4 m4 => if r3 = (-1) then (xp_m_table_72 d l1 1 r3 (-1) m4 Q) else (xc_m_plainRow d m4 (fun r5 m5 => xp_m_table_72 d l1 1 r3 r5 m5 Q))))) else (xc_m_peek d 0 m2 (fun r6 m6 => xc_m_isDigit d r6 m6 (fun r7 m7 => if r7 = 0 then (xp_m_table_327 d l1 (w_up m7 428 21 (m1 428 21)) Q) else (xc_m_plainRow d m7 (fun r8 m8 => xc_m_blanks d m8 (fun r9 m9 => if r8 = (-1) then (xp_m_table_72 d l1 1 r8 (-1) m9 Q) else (xc_m_plainRow d m9 (fun r10 m10 => xp_m_table_72 d l1 1 r8 r10 m10 Q)))))))))))) : xp_m_table_2 d l1 l2 m Q := by
  refine w_aload_n rfl rfl ?_
  refine w_callV (t' := 0) [] [] rfl s_428 rfl rfl ?_
  refine w_C.more (Q := fun r1 m1 => _) h (fun r1 m1 h => ?_)
  replace h := id h
  refine w_ifeq rfl (w_ite h (fun h => ?_) (fun h => ?_))
  · exact w_W.less h (w_sub [true, true, false, false, false, false, false, false, false, false] rfl)
  · refine w_aload_n rfl rfl ?_
    refine x_gfI rfl s_428 rfl (kk := 21) rfl rfl ?_
    refine w_istore_n (lv' := [some (2, 428), some (0, l1), some (0, l2), some (0, m1 428 21), none, none, none, none, none, none]) rfl rfl rfl ?_
    refine w_aload_n rfl rfl ?_
    refine w_callV (t' := 3) [] [] rfl s_428 rfl rfl ?_
    refine w_C.more (Q := fun r2 m2 => _) h (fun r2 m2 h => ?_)
    replace h := id h
    refine w_iload_n rfl rfl ?_
    refine w_ifeq rfl (w_ite h (fun h => ?_) (fun h => ?_))
    · refine w_iconst rfl (by decide) ?_
      refine w_istore_n (lv' := [some (2, 428), some (0, l1), some (0, 1), some (0, m1 428 21), none, none, none, none, none, none]) rfl rfl rfl ?_
      refine w_aload_n rfl rfl ?_
      refine w_callV (t' := 1) [] [] rfl s_428 rfl rfl ?_
      refine w_C.more (Q := fun r3 m3 => _) h (fun r3 m3 h => ?_)
      replace h := id h
      refine w_lstore (lv' := [some (2, 428), some (0, l1), some (0, 1), some (0, m1 428 21), some (1, r3), none, none, none, none, none]) rfl rfl rfl ?_
      refine w_aload_n rfl rfl ?_
      refine w_callV (t' := 3) [] [] rfl s_428 rfl rfl ?_
      refine w_C.more (Q := fun r4 m4 => _) h (fun r4 m4 h => ?_)
      replace h := id h
      refine w_lload rfl rfl ?_
      refine w_ldc2 (a := (-1)) rfl (by decide +kernel) (by decide) ?_
      refine w_lcne rfl rfl (w_ite h (fun h => ?_) (fun h => ?_))
      · refine w_ldc2 (a := (-1)) rfl (by decide +kernel) (by decide) ?_
        refine w_goto rfl ?_
        exact w_W.less h (w_sub [true, true, true, false, true, false, false, false, false, false] rfl)
      · refine w_aload_n rfl rfl ?_
        refine w_callV (t' := 1) [] [] rfl s_428 rfl rfl ?_
        refine w_C.more (Q := fun r5 m5 => _) h (fun r5 m5 h => ?_)
        replace h := id h
        exact w_W.less h (w_sub [true, true, true, false, true, false, false, false, false, false] rfl)
    · refine w_aload_n rfl rfl ?_
      refine w_iconst rfl (by decide) ?_
      refine w_callV (t' := 0) [(0, 0)] [] rfl s_428 rfl rfl ?_
      refine w_C.more (Q := fun r6 m6 => _) h (fun r6 m6 h => ?_)
      replace h := id h
      refine w_callS (t' := 0) [(0, r6)] [] rfl (by decide) rfl rfl ?_
      refine w_C.more (Q := fun r7 m7 => _) h (fun r7 m7 h => ?_)
      replace h := id h
      refine w_ifne rfl (w_ite h (fun h => ?_) (fun h => ?_))
      · refine w_aload_n rfl rfl ?_
        refine w_iload_n rfl rfl ?_
        refine w_pfI rfl s_428 rfl (w_EM (by decide)) rfl (kk := 21) rfl ?_
        refine w_goto rfl ?_
        exact w_W.less h (w_sub [true, true, false, false, false, false, false, false, false, false] rfl)
      · refine w_iconst rfl (by decide) ?_
        refine w_istore_n (lv' := [some (2, 428), some (0, l1), some (0, 1), some (0, m1 428 21), none, none, none, none, none, none]) rfl rfl rfl ?_
        refine w_aload_n rfl rfl ?_
        refine w_callV (t' := 1) [] [] rfl s_428 rfl rfl ?_
        refine w_C.more (Q := fun r8 m8 => _) h (fun r8 m8 h => ?_)
        replace h := id h
        refine w_lstore (lv' := [some (2, 428), some (0, l1), some (0, 1), some (0, m1 428 21), some (1, r8), none, none, none, none, none]) rfl rfl rfl ?_
        refine w_aload_n rfl rfl ?_
        refine w_callV (t' := 3) [] [] rfl s_428 rfl rfl ?_
        refine w_C.more (Q := fun r9 m9 => _) h (fun r9 m9 h => ?_)
        replace h := id h
        refine w_lload rfl rfl ?_
        refine w_ldc2 (a := (-1)) rfl (by decide +kernel) (by decide) ?_
        refine w_lcne rfl rfl (w_ite h (fun h => ?_) (fun h => ?_))
        · refine w_ldc2 (a := (-1)) rfl (by decide +kernel) (by decide) ?_
          refine w_goto rfl ?_
          exact w_W.less h (w_sub [true, true, true, false, true, false, false, false, false, false] rfl)
        · refine w_aload_n rfl rfl ?_
          refine w_callV (t' := 1) [] [] rfl s_428 rfl rfl ?_
          refine w_C.more (Q := fun r10 m10 => _) h (fun r10 m10 h => ?_)
          replace h := id h
          exact w_W.less h (w_sub [true, true, true, false, true, false, false, false, false, false] rfl)
theorem xr_m_table_72 {d : Nat} {l1 l2 l4 s0 : Int} {m : w_M} {Q : Int → w_M → Prop} (h : if l4 = (-1) then (xc_m_fail d 3 l1 m (fun r1 m1 => Q (-1) m1)) else (if s0 = (-1) then (xc_m_fail d 3 l1 m (fun r2 m2 => Q (-1) m2)) else (if l4 = (-2) then (xc_m_fail d 5 l1 m (fun r3 m3 => Q (-1) m3)) else (if s0 = (-2) then (xc_m_fail d 5 l1 m (fun r4 m4 => Q (-1) m4)) else (if 200 < (w_64 (l4 + s0)) then (xc_m_fail d 5 l1 m (fun r5 m5 => Q (-1) m5)) else (xc_m_peek d 0 m (fun r6 m6 => if r6 = 32 then (xp_m_table_158 d l1 l2 l4 s0 (m 428 21) 1 m6 Q) else (xp_m_table_158 d l1 l2 l4 s0 (m 428 21) 0 m6 Q)))))))) : xp_m_table_72 d l1 l2 l4 s0 m Q := by
  refine w_lstore (lv' := [some (2, 428), some (0, l1), some (0, l2), none, some (1, l4), none, some (1, s0), none, none, none]) rfl rfl rfl ?_
  refine w_lload rfl rfl ?_
  refine w_ldc2 (a := (-1)) rfl (by decide +kernel) (by decide) ?_
  refine w_lceq rfl rfl (w_ite h (fun h => ?_) (fun h => ?_))
  · refine w_aload_n rfl rfl ?_
    refine w_iconst rfl (by decide) ?_
    refine w_iload_n rfl rfl ?_
    refine w_callV (t' := 3) [(0, l1), (0, 3)] [] rfl s_428 rfl rfl ?_
    refine w_C.more (Q := fun r1 m1 => _) h (fun r1 m1 h => ?_)
    replace h := id h
    refine w_iconst rfl (by decide) ?_
    exact w_iret rfl rfl h
  · refine w_lload rfl rfl ?_
    refine w_ldc2 (a := (-1)) rfl (by decide +kernel) (by decide) ?_
    refine w_lcne rfl rfl (w_ite h (fun h => ?_) (fun h => ?_))
    · refine w_aload_n rfl rfl ?_
      refine w_iconst rfl (by decide) ?_
      refine w_iload_n rfl rfl ?_
      refine w_callV (t' := 3) [(0, l1), (0, 3)] [] rfl s_428 rfl rfl ?_
      refine w_C.more (Q := fun r2 m2 => _) h (fun r2 m2 h => ?_)
      replace h := id h
      refine w_iconst rfl (by decide) ?_
      exact w_iret rfl rfl h
    · refine w_lload rfl rfl ?_
      refine w_ldc2 (a := (-2)) rfl (by decide +kernel) (by decide) ?_
      refine w_lceq rfl rfl (w_ite h (fun h => ?_) (fun h => ?_))
      · refine w_aload_n rfl rfl ?_
        refine w_iconst rfl (by decide) ?_
        refine w_iload_n rfl rfl ?_
        refine w_callV (t' := 3) [(0, l1), (0, 5)] [] rfl s_428 rfl rfl ?_
        refine w_C.more (Q := fun r3 m3 => _) h (fun r3 m3 h => ?_)
        replace h := id h
        refine w_iconst rfl (by decide) ?_
        exact w_iret rfl rfl h
      · refine w_lload rfl rfl ?_
        refine w_ldc2 (a := (-2)) rfl (by decide +kernel) (by decide) ?_
        refine w_lceq rfl rfl (w_ite h (fun h => ?_) (fun h => ?_))
        · refine w_aload_n rfl rfl ?_
          refine w_iconst rfl (by decide) ?_
          refine w_iload_n rfl rfl ?_
          refine w_callV (t' := 3) [(0, l1), (0, 5)] [] rfl s_428 rfl rfl ?_
          refine w_C.more (Q := fun r4 m4 => _) h (fun r4 m4 h => ?_)
          replace h := id h
          refine w_iconst rfl (by decide) ?_
          exact w_iret rfl rfl h
        · refine w_lload rfl rfl ?_
          refine w_lload rfl rfl ?_
          refine w_ladd' rfl ?_
          refine w_ldc2 (a := 200) rfl (by decide +kernel) (by decide) ?_
          refine w_lcle rfl rfl (w_ite h (fun h => ?_) (fun h => ?_))
          · refine w_aload_n rfl rfl ?_
            refine w_iconst rfl (by decide) ?_
            refine w_iload_n rfl rfl ?_
            refine w_callV (t' := 3) [(0, l1), (0, 5)] [] rfl s_428 rfl rfl ?_
            refine w_C.more (Q := fun r5 m5 => _) h (fun r5 m5 h => ?_)
            replace h := id h
            refine w_iconst rfl (by decide) ?_
            exact w_iret rfl rfl h
          · refine w_aload_n rfl rfl ?_
            refine w_dup rfl (show (2 : Nat) ≠ 1 by decide) ?_
            refine x_gfI rfl s_428 rfl (kk := 21) rfl rfl ?_
            refine w_aload_n rfl rfl ?_
            refine w_iconst rfl (by decide) ?_
            refine w_callV (t' := 0) [(0, 0)] [(0, m 428 21), (2, 428)] rfl s_428 rfl rfl ?_
            refine w_C.more (Q := fun r6 m6 => _) h (fun r6 m6 h => ?_)
            replace h := id h
            refine w_bipush rfl (by decide) ?_
            refine w_icne rfl (w_ite h (fun h => ?_) (fun h => ?_))
            · refine w_iconst rfl (by decide) ?_
              refine w_goto rfl ?_
              exact w_W.less h (w_sub [true, true, true, false, true, false, true, false, false, false] rfl)
            · refine w_iconst rfl (by decide) ?_
              exact w_W.less h (w_sub [true, true, true, false, true, false, true, false, false, false] rfl)
theorem xr_m_table_158 {d : Nat} {l1 l2 l4 l6 s1 s2 : Int} {m : w_M} {Q : Int → w_M → Prop} (h : xc_m_peek d 0 (w_up m 428 21 (w_32 (s1 + s2))) (fun r1 m1 => if r1 = 13 then (xc_m_peek d 1 m1 (fun r2 m2 => if r2 = 10 then (xp_m_table_240 d l1 l2 l4 l6 0 (w_up m2 428 21 (w_32 ((m2 428 21) + 2))) Q) else (xp_m_table_186 d l1 l2 l4 l6 m2 Q))) else (xp_m_table_186 d l1 l2 l4 l6 m1 Q))) : xp_m_table_158 d l1 l2 l4 l6 s1 s2 m Q := by
  refine w_iadd rfl ?_
  refine w_pfI rfl s_428 rfl (w_EM (by decide)) rfl (kk := 21) rfl ?_
  refine w_aload_n rfl rfl ?_
  refine w_iconst rfl (by decide) ?_
  refine w_callV (t' := 0) [(0, 0)] [] rfl s_428 rfl rfl ?_
  refine w_C.more (Q := fun r1 m1 => _) h (fun r1 m1 h => ?_)
  replace h := id h
  refine w_bipush rfl (by decide) ?_
  refine w_icne rfl (w_ite h (fun h => ?_) (fun h => ?_))
  · refine w_aload_n rfl rfl ?_
    refine w_iconst rfl (by decide) ?_
    refine w_callV (t' := 0) [(0, 1)] [] rfl s_428 rfl rfl ?_
    refine w_C.more (Q := fun r2 m2 => _) h (fun r2 m2 h => ?_)
    replace h := id h
    refine w_bipush rfl (by decide) ?_
    refine w_icne rfl (w_ite h (fun h => ?_) (fun h => ?_))
    · refine w_iconst rfl (by decide) ?_
      refine w_goto rfl ?_
      refine w_istore (lv' := [some (2, 428), some (0, l1), some (0, l2), none, some (1, l4), none, some (1, l6), none, some (0, 2), none]) rfl rfl rfl ?_
      refine w_iload rfl rfl ?_
      refine w_ifne rfl (w_iff (by decide) ?_)
      refine w_aload_n rfl rfl ?_
      refine w_dup rfl (show (2 : Nat) ≠ 1 by decide) ?_
      refine x_gfI rfl s_428 rfl (kk := 21) rfl rfl ?_
      refine w_iload rfl rfl ?_
      refine w_iadd rfl ?_
      refine w_pfI rfl s_428 rfl (w_EM (by decide)) rfl (kk := 21) rfl ?_
      refine w_iconst rfl (by decide) ?_
      refine w_istore (lv' := [some (2, 428), some (0, l1), some (0, l2), none, some (1, l4), none, some (1, l6), none, some (0, 2), some (0, 0)]) rfl rfl rfl ?_
      exact w_W.less h (w_sub [true, true, true, false, true, false, true, false, false, true] rfl)
    · exact w_W.less h (w_sub [true, true, true, false, true, false, true, false, false, false] rfl)
  · exact w_W.less h (w_sub [true, true, true, false, true, false, true, false, false, false] rfl)
theorem xr_m_table_186 {d : Nat} {l1 l2 l4 l6 : Int} {m : w_M} {Q : Int → w_M → Prop} (h : xc_m_peek d 0 m (fun r1 m1 => if r1 = 10 then (xp_m_table_240 d l1 l2 l4 l6 0 (w_up m1 428 21 (w_32 ((m1 428 21) + 1))) Q) else (xc_m_peek d 0 m1 (fun r2 m2 => if r2 = 13 then (xp_m_table_240 d l1 l2 l4 l6 0 (w_up m2 428 21 (w_32 ((m2 428 21) + 1))) Q) else (xc_m_fail d 3 l1 m2 (fun r3 m3 => Q (-1) m3)))))) : xp_m_table_186 d l1 l2 l4 l6 m Q := by
  refine w_aload_n rfl rfl ?_
  refine w_iconst rfl (by decide) ?_
  refine w_callV (t' := 0) [(0, 0)] [] rfl s_428 rfl rfl ?_
  refine w_C.more (Q := fun r1 m1 => _) h (fun r1 m1 h => ?_)
  replace h := id h
  refine w_bipush rfl (by decide) ?_
  refine w_iceq rfl (w_ite h (fun h => ?_) (fun h => ?_))
  · refine w_iconst rfl (by decide) ?_
    refine w_goto rfl ?_
    refine w_istore (lv' := [some (2, 428), some (0, l1), some (0, l2), none, some (1, l4), none, some (1, l6), none, some (0, 1), none]) rfl rfl rfl ?_
    refine w_iload rfl rfl ?_
    refine w_ifne rfl (w_iff (by decide) ?_)
    refine w_aload_n rfl rfl ?_
    refine w_dup rfl (show (2 : Nat) ≠ 1 by decide) ?_
    refine x_gfI rfl s_428 rfl (kk := 21) rfl rfl ?_
    refine w_iload rfl rfl ?_
    refine w_iadd rfl ?_
    refine w_pfI rfl s_428 rfl (w_EM (by decide)) rfl (kk := 21) rfl ?_
    refine w_iconst rfl (by decide) ?_
    refine w_istore (lv' := [some (2, 428), some (0, l1), some (0, l2), none, some (1, l4), none, some (1, l6), none, some (0, 1), some (0, 0)]) rfl rfl rfl ?_
    exact w_W.less h (w_sub [true, true, true, false, true, false, true, false, false, true] rfl)
  · refine w_aload_n rfl rfl ?_
    refine w_iconst rfl (by decide) ?_
    refine w_callV (t' := 0) [(0, 0)] [] rfl s_428 rfl rfl ?_
    refine w_C.more (Q := fun r2 m2 => _) h (fun r2 m2 h => ?_)
    replace h := id h
    refine w_bipush rfl (by decide) ?_
    refine w_icne rfl (w_ite h (fun h => ?_) (fun h => ?_))
    · refine w_iconst rfl (by decide) ?_
      refine w_goto rfl ?_
      refine w_istore (lv' := [some (2, 428), some (0, l1), some (0, l2), none, some (1, l4), none, some (1, l6), none, some (0, 1), none]) rfl rfl rfl ?_
      refine w_iload rfl rfl ?_
      refine w_ifne rfl (w_iff (by decide) ?_)
      refine w_aload_n rfl rfl ?_
      refine w_dup rfl (show (2 : Nat) ≠ 1 by decide) ?_
      refine x_gfI rfl s_428 rfl (kk := 21) rfl rfl ?_
      refine w_iload rfl rfl ?_
      refine w_iadd rfl ?_
      refine w_pfI rfl s_428 rfl (w_EM (by decide)) rfl (kk := 21) rfl ?_
      refine w_iconst rfl (by decide) ?_
      refine w_istore (lv' := [some (2, 428), some (0, l1), some (0, l2), none, some (1, l4), none, some (1, l6), none, some (0, 1), some (0, 0)]) rfl rfl rfl ?_
      exact w_W.less h (w_sub [true, true, true, false, true, false, true, false, false, true] rfl)
    · refine w_iconst rfl (by decide) ?_
      refine w_istore (lv' := [some (2, 428), some (0, l1), some (0, l2), none, some (1, l4), none, some (1, l6), none, some (0, 0), none]) rfl rfl rfl ?_
      refine w_iload rfl rfl ?_
      refine w_ifne rfl (w_ift (by decide) ?_)
      refine w_aload_n rfl rfl ?_
      refine w_iconst rfl (by decide) ?_
      refine w_iload_n rfl rfl ?_
      refine w_callV (t' := 3) [(0, l1), (0, 3)] [] rfl s_428 rfl rfl ?_
      refine w_C.more (Q := fun r3 m3 => _) h (fun r3 m3 h => ?_)
      replace h := id h
      refine w_iconst rfl (by decide) ?_
      exact w_iret rfl rfl h
theorem xr_m_table_240 {d : Nat} {l1 l2 l4 l6 l9 : Int} {m : w_M} {Q : Int → w_M → Prop} (h : if l9 < l6 then (xc_m_isEntry d m (fun r1 m1 => if r1 = 0 then (xc_m_fail d 3 (m1 428 21) m1 (fun r2 m2 => Q (-1) m2)) else (xc_m_peek d 17 m1 (fun r3 m3 => if r3 = 110 then (xc_m_digits d 0 10 m3 (fun r4 m4 => xc_m_digits d 11 5 m4 (fun r5 m5 => xc_m_tell d (w_32 ((w_32 l4) + l9)) 1 r4 r5 m5 (fun r6 m6 => xp_m_table_240 d l1 l2 l4 l6 (w_32 (l9 + 1)) (w_up m6 428 21 (w_32 ((m6 428 21) + 20))) Q)))) else (xc_m_digits d 0 10 m3 (fun r7 m7 => xc_m_digits d 11 5 m7 (fun r8 m8 => xc_m_tell d (w_32 ((w_32 l4) + l9)) 0 r7 r8 m8 (fun r9 m9 => xp_m_table_240 d l1 l2 l4 l6 (w_32 (l9 + 1)) (w_up m9 428 21 (w_32 ((m9 428 21) + 20))) Q)))))))) else (xp_m_table_2 d l1 l2 m Q)) : xp_m_table_240 d l1 l2 l4 l6 l9 m Q := by
  refine w_iload rfl rfl ?_
  refine w_i2l rfl ?_
  refine w_lload rfl rfl ?_
  refine w_lcge rfl rfl (w_ite h (fun h => ?_) (fun h => ?_))
  · refine w_aload_n rfl rfl ?_
    refine w_callV (t' := 0) [] [] rfl s_428 rfl rfl ?_
    refine w_C.more (Q := fun r1 m1 => _) h (fun r1 m1 h => ?_)
    replace h := id h
    refine w_ifne rfl (w_ite h (fun h => ?_) (fun h => ?_))
    · refine w_aload_n rfl rfl ?_
      refine w_iconst rfl (by decide) ?_
      refine w_aload_n rfl rfl ?_
      refine x_gfI rfl s_428 rfl (kk := 21) rfl rfl ?_
      refine w_callV (t' := 3) [(0, m1 428 21), (0, 3)] [] rfl s_428 rfl rfl ?_
      refine w_C.more (Q := fun r2 m2 => _) h (fun r2 m2 h => ?_)
      replace h := id h
      refine w_iconst rfl (by decide) ?_
      exact w_iret rfl rfl h
    · refine w_aload_n rfl rfl ?_
      refine w_lload rfl rfl ?_
      refine w_l2i rfl ?_
      refine w_iload rfl rfl ?_
      refine w_iadd rfl ?_
      refine w_aload_n rfl rfl ?_
      refine w_bipush rfl (by decide) ?_
      refine w_callV (t' := 0) [(0, 17)] [(0, w_32 ((w_32 l4) + l9)), (2, 428)] rfl s_428 rfl rfl ?_
      refine w_C.more (Q := fun r3 m3 => _) h (fun r3 m3 h => ?_)
      replace h := id h
      refine w_bipush rfl (by decide) ?_
      refine w_icne rfl (w_ite h (fun h => ?_) (fun h => ?_))
      · refine w_iconst rfl (by decide) ?_
        refine w_goto rfl ?_
        refine w_aload_n rfl rfl ?_
        refine w_iconst rfl (by decide) ?_
        refine w_bipush rfl (by decide) ?_
        refine w_callV (t' := 1) [(0, 10), (0, 0)] [(0, 1), (0, w_32 ((w_32 l4) + l9)), (2, 428)] rfl s_428 rfl rfl ?_
        refine w_C.more (Q := fun r4 m4 => _) h (fun r4 m4 h => ?_)
        replace h := id h
        refine w_aload_n rfl rfl ?_
        refine w_bipush rfl (by decide) ?_
        refine w_iconst rfl (by decide) ?_
        refine w_callV (t' := 1) [(0, 5), (0, 11)] [(1, r4), (0, 1), (0, w_32 ((w_32 l4) + l9)), (2, 428)] rfl s_428 rfl rfl ?_
        refine w_C.more (Q := fun r5 m5 => _) h (fun r5 m5 h => ?_)
        replace h := id h
        refine w_callV (t' := 3) [(1, r5), (1, r4), (0, 1), (0, w_32 ((w_32 l4) + l9))] [] rfl s_428 rfl rfl ?_
        refine w_C.more (Q := fun r6 m6 => _) h (fun r6 m6 h => ?_)
        replace h := id h
        refine w_aload_n rfl rfl ?_
        refine w_dup rfl (show (2 : Nat) ≠ 1 by decide) ?_
        refine x_gfI rfl s_428 rfl (kk := 21) rfl rfl ?_
        refine w_bipush rfl (by decide) ?_
        refine w_iadd rfl ?_
        refine w_pfI rfl s_428 rfl (w_EM (by decide)) rfl (kk := 21) rfl ?_
        refine w_iinc (lv' := [some (2, 428), some (0, l1), some (0, l2), none, some (1, l4), none, some (1, l6), none, none, some (0, w_32 (l9 + 1))]) rfl rfl rfl rfl ?_
        refine w_goto rfl ?_
        exact w_W.less h (w_sub [true, true, true, false, true, false, true, false, false, true] rfl)
      · refine w_iconst rfl (by decide) ?_
        refine w_aload_n rfl rfl ?_
        refine w_iconst rfl (by decide) ?_
        refine w_bipush rfl (by decide) ?_
        refine w_callV (t' := 1) [(0, 10), (0, 0)] [(0, 0), (0, w_32 ((w_32 l4) + l9)), (2, 428)] rfl s_428 rfl rfl ?_
        refine w_C.more (Q := fun r7 m7 => _) h (fun r7 m7 h => ?_)
        replace h := id h
        refine w_aload_n rfl rfl ?_
        refine w_bipush rfl (by decide) ?_
        refine w_iconst rfl (by decide) ?_
        refine w_callV (t' := 1) [(0, 5), (0, 11)] [(1, r7), (0, 0), (0, w_32 ((w_32 l4) + l9)), (2, 428)] rfl s_428 rfl rfl ?_
        refine w_C.more (Q := fun r8 m8 => _) h (fun r8 m8 h => ?_)
        replace h := id h
        refine w_callV (t' := 3) [(1, r8), (1, r7), (0, 0), (0, w_32 ((w_32 l4) + l9))] [] rfl s_428 rfl rfl ?_
        refine w_C.more (Q := fun r9 m9 => _) h (fun r9 m9 h => ?_)
        replace h := id h
        refine w_aload_n rfl rfl ?_
        refine w_dup rfl (show (2 : Nat) ≠ 1 by decide) ?_
        refine x_gfI rfl s_428 rfl (kk := 21) rfl rfl ?_
        refine w_bipush rfl (by decide) ?_
        refine w_iadd rfl ?_
        refine w_pfI rfl s_428 rfl (w_EM (by decide)) rfl (kk := 21) rfl ?_
        refine w_iinc (lv' := [some (2, 428), some (0, l1), some (0, l2), none, some (1, l4), none, some (1, l6), none, none, some (0, w_32 (l9 + 1))]) rfl rfl rfl rfl ?_
        refine w_goto rfl ?_
        exact w_W.less h (w_sub [true, true, true, false, true, false, true, false, false, true] rfl)
  · refine w_goto rfl ?_
    exact w_W.less h (w_sub [true, true, true, false, false, false, false, false, false, false] rfl)
theorem xr_m_table_327 {d : Nat} {l1 : Int} {m : w_M} {Q : Int → w_M → Prop} (h : xc_m_token d m (fun r1 m1 => xc_m_isWord d 316 m1 (fun r2 m2 => if r2 = 0 then (xc_m_fail d 3 l1 m2 (fun r3 m3 => Q (-1) m3)) else (xc_m_token d m2 (fun r4 m4 => xc_m_object d 0 1 m4 (fun r5 m5 => xc_m_good d m5 (fun r6 m6 => if r6 = 0 then (Q r5 m6) else (((0 : Int) ≤ r5 ∧ r5 < 40000) ∧ (if (m6 432 r5) = 7 then (Q r5 m6) else (xc_m_fail d 3 l1 m6 (fun r7 m7 => Q r5 m7))))))))))) : xp_m_table_327 d l1 m Q := by
  refine w_aload_n rfl rfl ?_
  refine w_callV (t' := 3) [] [] rfl s_428 rfl rfl ?_
  refine w_C.more (Q := fun r1 m1 => _) h (fun r1 m1 h => ?_)
  replace h := id h
  refine w_aload_n rfl rfl ?_
  refine w_ldcwR rfl ?_
  refine w_callV (t' := 0) [(2, 316)] [] rfl s_428 rfl rfl ?_
  refine w_C.more (Q := fun r2 m2 => _) h (fun r2 m2 h => ?_)
  replace h := id h
  refine w_ifne rfl (w_ite h (fun h => ?_) (fun h => ?_))
  · refine w_aload_n rfl rfl ?_
    refine w_iconst rfl (by decide) ?_
    refine w_iload_n rfl rfl ?_
    refine w_callV (t' := 3) [(0, l1), (0, 3)] [] rfl s_428 rfl rfl ?_
    refine w_C.more (Q := fun r3 m3 => _) h (fun r3 m3 h => ?_)
    replace h := id h
    refine w_iconst rfl (by decide) ?_
    exact w_iret rfl rfl h
  · refine w_aload_n rfl rfl ?_
    refine w_callV (t' := 3) [] [] rfl s_428 rfl rfl ?_
    refine w_C.more (Q := fun r4 m4 => _) h (fun r4 m4 h => ?_)
    replace h := id h
    refine w_aload_n rfl rfl ?_
    refine w_iconst rfl (by decide) ?_
    refine w_iconst rfl (by decide) ?_
    refine w_callV (t' := 0) [(0, 1), (0, 0)] [] rfl s_428 rfl rfl ?_
    refine w_C.more (Q := fun r5 m5 => _) h (fun r5 m5 h => ?_)
    replace h := id h
    refine w_istore_n (lv' := [some (2, 428), some (0, l1), none, some (0, r5), none, none, none, none, none, none]) rfl rfl rfl ?_
    refine w_aload_n rfl rfl ?_
    refine w_callV (t' := 0) [] [] rfl s_428 rfl rfl ?_
    refine w_C.more (Q := fun r6 m6 => _) h (fun r6 m6 h => ?_)
    replace h := id h
    refine w_ifeq rfl (w_ite h (fun h => ?_) (fun h => ?_))
    · refine w_iload_n rfl rfl ?_
      exact w_iret rfl rfl h
    · refine w_aload_n rfl rfl ?_
      refine w_gfC (c := 432) rfl s_428 rfl rfl ?_
      refine w_iload_n rfl rfl ?_
      refine w_bald rfl s_432 (n := 40000) rfl h.1 ?_
      replace h := h.2
      refine w_bipush rfl (by decide) ?_
      refine w_iceq rfl (w_ite h (fun h => ?_) (fun h => ?_))
      · refine w_iload_n rfl rfl ?_
        exact w_iret rfl rfl h
      · refine w_aload_n rfl rfl ?_
        refine w_iconst rfl (by decide) ?_
        refine w_iload_n rfl rfl ?_
        refine w_callV (t' := 3) [(0, l1), (0, 3)] [] rfl s_428 rfl rfl ?_
        refine w_C.more (Q := fun r7 m7 => _) h (fun r7 m7 h => ?_)
        replace h := id h
        refine w_iload_n rfl rfl ?_
        exact w_iret rfl rfl h
theorem xr_m_tableSection {d : Nat} {m : w_M} {Q : Int → w_M → Prop} (h : xc_m_sayText d 318 m (fun r1 m1 => xp_m_tableSection_11 d 0 0 m1 Q)) : xc_m_tableSection (d + 1) m Q := by
  refine w_enter (q := 4) (lv := [some (2, 428), none, none, none, none]) rfl rfl rfl ?_
  refine w_aload_n rfl rfl ?_
  refine w_ldcwR rfl ?_
  refine w_callV (t' := 3) [(2, 318)] [] rfl s_428 rfl rfl ?_
  refine w_C.more (Q := fun r1 m1 => _) h (fun r1 m1 h => ?_)
  replace h := id h
  refine w_iconst rfl (by decide) ?_
  refine w_istore_n (lv' := [some (2, 428), some (0, 0), none, none, none]) rfl rfl rfl ?_
  refine w_iconst rfl (by decide) ?_
  refine w_istore_n (lv' := [some (2, 428), some (0, 0), some (0, 0), none, none]) rfl rfl rfl ?_
  exact w_W.less h (w_sub [true, true, true, false, false] rfl)
theorem xr_m_tableSection_11 {d : Nat} {l1 l2 : Int} {m : w_M} {Q : Int → w_M → Prop} (h : if l2 < (m 428 60) then (xc_m_runFrom d l2 (m 428 60) m (fun r1 m1 => if r1 = 0 then (xp_m_tableSection_11 d l1 (w_32 (l2 + 1)) m1 Q) else (xc_m_sayNumber d l2 m1 (fun r2 m2 => xc_m_say d 32 m2 (fun r3 m3 => xc_m_sayNumber d r1 m3 (fun r4 m4 => xc_m_say d 10 m4 (fun r5 m5 => xp_m_tableSection_68 d 1 l2 r1 l2 m5 Q))))))) else (if l1 = 0 then (xc_m_sayText d 322 m (fun r6 m6 => xc_m_sayText d 324 m6 (fun r7 m7 => xc_m_sayNumber d (m7 428 60) m7 (fun r8 m8 => xc_m_say d 32 m8 (fun r9 m9 => xc_m_known d m9 (fun r10 m10 => xc_m_sayText d 326 m10 (fun r11 m11 => Q 0 m11))))))) else (xc_m_sayText d 324 m (fun r12 m12 => xc_m_sayNumber d (m12 428 60) m12 (fun r13 m13 => xc_m_say d 32 m13 (fun r14 m14 => xc_m_known d m14 (fun r15 m15 => xc_m_sayText d 326 m15 (fun r16 m16 => Q 0 m16)))))))) : xp_m_tableSection_11 d l1 l2 m Q := by
  refine w_iload_n rfl rfl ?_
  refine w_aload_n rfl rfl ?_
  refine x_gfI rfl s_428 rfl (kk := 60) rfl rfl ?_
  refine w_icge rfl (w_ite h (fun h => ?_) (fun h => ?_))
  · refine w_aload_n rfl rfl ?_
    refine w_iload_n rfl rfl ?_
    refine w_aload_n rfl rfl ?_
    refine x_gfI rfl s_428 rfl (kk := 60) rfl rfl ?_
    refine w_callV (t' := 0) [(0, m 428 60), (0, l2)] [] rfl s_428 rfl rfl ?_
    refine w_C.more (Q := fun r1 m1 => _) h (fun r1 m1 h => ?_)
    replace h := id h
    refine w_istore_n (lv' := [some (2, 428), some (0, l1), some (0, l2), some (0, r1), none]) rfl rfl rfl ?_
    refine w_iload_n rfl rfl ?_
    refine w_ifne rfl (w_ite h (fun h => ?_) (fun h => ?_))
    · refine w_iinc (lv' := [some (2, 428), some (0, l1), some (0, w_32 (l2 + 1)), some (0, r1), none]) rfl rfl rfl rfl ?_
      refine w_goto rfl ?_
      exact w_W.less h (w_sub [true, true, true, false, false] rfl)
    · refine w_iconst rfl (by decide) ?_
      refine w_istore_n (lv' := [some (2, 428), some (0, 1), some (0, l2), some (0, r1), none]) rfl rfl rfl ?_
      refine w_aload_n rfl rfl ?_
      refine w_iload_n rfl rfl ?_
      refine w_i2l rfl ?_
      refine w_callV (t' := 3) [(1, l2)] [] rfl s_428 rfl rfl ?_
      refine w_C.more (Q := fun r2 m2 => _) h (fun r2 m2 h => ?_)
      replace h := id h
      refine w_aload_n rfl rfl ?_
      refine w_bipush rfl (by decide) ?_
      refine w_callV (t' := 3) [(0, 32)] [] rfl s_428 rfl rfl ?_
      refine w_C.more (Q := fun r3 m3 => _) h (fun r3 m3 h => ?_)
      replace h := id h
      refine w_aload_n rfl rfl ?_
      refine w_iload_n rfl rfl ?_
      refine w_i2l rfl ?_
      refine w_callV (t' := 3) [(1, r1)] [] rfl s_428 rfl rfl ?_
      refine w_C.more (Q := fun r4 m4 => _) h (fun r4 m4 h => ?_)
      replace h := id h
      refine w_aload_n rfl rfl ?_
      refine w_bipush rfl (by decide) ?_
      refine w_callV (t' := 3) [(0, 10)] [] rfl s_428 rfl rfl ?_
      refine w_C.more (Q := fun r5 m5 => _) h (fun r5 m5 h => ?_)
      replace h := id h
      refine w_iload_n rfl rfl ?_
      refine w_istore (lv' := [some (2, 428), some (0, 1), some (0, l2), some (0, r1), some (0, l2)]) rfl rfl rfl ?_
      exact w_W.less h (w_sub [true, true, true, true, true] rfl)
  · refine w_iload_n rfl rfl ?_
    refine w_ifne rfl (w_ite h (fun h => ?_) (fun h => ?_))
    · refine w_aload_n rfl rfl ?_
      refine w_ldcwR rfl ?_
      refine w_callV (t' := 3) [(2, 322)] [] rfl s_428 rfl rfl ?_
      refine w_C.more (Q := fun r6 m6 => _) h (fun r6 m6 h => ?_)
      replace h := id h
      refine w_aload_n rfl rfl ?_
      refine w_ldcwR rfl ?_
      refine w_callV (t' := 3) [(2, 324)] [] rfl s_428 rfl rfl ?_
      refine w_C.more (Q := fun r7 m7 => _) h (fun r7 m7 h => ?_)
      replace h := id h
      refine w_aload_n rfl rfl ?_
      refine w_aload_n rfl rfl ?_
      refine x_gfI rfl s_428 rfl (kk := 60) rfl rfl ?_
      refine w_i2l rfl ?_
      refine w_callV (t' := 3) [(1, m7 428 60)] [] rfl s_428 rfl rfl ?_
      refine w_C.more (Q := fun r8 m8 => _) h (fun r8 m8 h => ?_)
      replace h := id h
      refine w_aload_n rfl rfl ?_
      refine w_bipush rfl (by decide) ?_
      refine w_callV (t' := 3) [(0, 32)] [] rfl s_428 rfl rfl ?_
      refine w_C.more (Q := fun r9 m9 => _) h (fun r9 m9 h => ?_)
      replace h := id h
      refine w_aload_n rfl rfl ?_
      refine w_callV (t' := 3) [] [] rfl s_428 rfl rfl ?_
      refine w_C.more (Q := fun r10 m10 => _) h (fun r10 m10 h => ?_)
      replace h := id h
      refine w_aload_n rfl rfl ?_
      refine w_ldcwR rfl ?_
      refine w_callV (t' := 3) [(2, 326)] [] rfl s_428 rfl rfl ?_
      refine w_C.more (Q := fun r11 m11 => _) h (fun r11 m11 h => ?_)
      replace h := id h
      exact w_vret rfl rfl h
    · refine w_aload_n rfl rfl ?_
      refine w_ldcwR rfl ?_
      refine w_callV (t' := 3) [(2, 324)] [] rfl s_428 rfl rfl ?_
      refine w_C.more (Q := fun r12 m12 => _) h (fun r12 m12 h => ?_)
      replace h := id h
      refine w_aload_n rfl rfl ?_
      refine w_aload_n rfl rfl ?_
      refine x_gfI rfl s_428 rfl (kk := 60) rfl rfl ?_
      refine w_i2l rfl ?_
      refine w_callV (t' := 3) [(1, m12 428 60)] [] rfl s_428 rfl rfl ?_
      refine w_C.more (Q := fun r13 m13 => _) h (fun r13 m13 h => ?_)
      replace h := id h
      refine w_aload_n rfl rfl ?_
      refine w_bipush rfl (by decide) ?_
      refine w_callV (t' := 3) [(0, 32)] [] rfl s_428 rfl rfl ?_
      refine w_C.more (Q := fun r14 m14 => _) h (fun r14 m14 h => ?_)
      replace h := id h
      refine w_aload_n rfl rfl ?_
      refine w_callV (t' := 3) [] [] rfl s_428 rfl rfl ?_
      refine w_C.more (Q := fun r15 m15 => _) h (fun r15 m15 h => ?_)
      replace h := id h
      refine w_aload_n rfl rfl ?_
      refine w_ldcwR rfl ?_
      refine w_callV (t' := 3) [(2, 326)] [] rfl s_428 rfl rfl ?_
      refine w_C.more (Q := fun r16 m16 => _) h (fun r16 m16 h => ?_)
      replace h := id h
      exact w_vret rfl rfl h
theorem xr_m_tableSection_68 {d : Nat} {l1 l2 l3 l4 : Int} {m : w_M} {Q : Int → w_M → Prop} (h : if l4 < (w_32 (l2 + l3)) then (((0 : Int) ≤ l4 ∧ l4 < 200) ∧ (if (m 460 l4) = 0 then (xc_m_sayText d 320 m (fun r1 m1 => xp_m_tableSection_68 d l1 l2 l3 (w_32 (l4 + 1)) m1 Q)) else (((0 : Int) ≤ l4 ∧ l4 < 201) ∧ (xc_m_generationOf d l4 m (fun r2 m2 => xc_m_sayEntry d (m 485 l4) r2 m2 (fun r3 m3 => xp_m_tableSection_68 d l1 l2 l3 (w_32 (l4 + 1)) m3 Q)))))) else (xp_m_tableSection_11 d l1 (w_32 (l2 + l3)) m Q)) : xp_m_tableSection_68 d l1 l2 l3 l4 m Q := by
  refine w_iload rfl rfl ?_
  refine w_iload_n rfl rfl ?_
  refine w_iload_n rfl rfl ?_
  refine w_iadd rfl ?_
  refine w_icge rfl (w_ite h (fun h => ?_) (fun h => ?_))
  · refine w_aload_n rfl rfl ?_
    refine w_gfC (c := 460) rfl s_428 rfl rfl ?_
    refine w_iload rfl rfl ?_
    refine w_zald rfl s_460 (n := 200) rfl h.1 ?_
    replace h := h.2
    refine w_ifeq rfl (w_ite h (fun h => ?_) (fun h => ?_))
    · refine w_aload_n rfl rfl ?_
      refine w_ldcwR rfl ?_
      refine w_callV (t' := 3) [(2, 320)] [] rfl s_428 rfl rfl ?_
      refine w_C.more (Q := fun r1 m1 => _) h (fun r1 m1 h => ?_)
      replace h := id h
      refine w_iinc (lv' := [some (2, 428), some (0, l1), some (0, l2), some (0, l3), some (0, w_32 (l4 + 1))]) rfl rfl rfl rfl ?_
      refine w_goto rfl ?_
      exact w_W.less h (w_sub [true, true, true, true, true] rfl)
    · refine w_aload_n rfl rfl ?_
      refine w_aload_n rfl rfl ?_
      refine w_gfC (c := 485) rfl s_428 rfl rfl ?_
      refine w_iload rfl rfl ?_
      refine w_iald rfl s_485 (n := 201) rfl h.1 ?_
      replace h := h.2
      refine w_i2l rfl ?_
      refine w_aload_n rfl rfl ?_
      refine w_iload rfl rfl ?_
      refine w_callV (t' := 1) [(0, l4)] [(1, m 485 l4), (2, 428)] rfl s_428 rfl rfl ?_
      refine w_C.more (Q := fun r2 m2 => _) h (fun r2 m2 h => ?_)
      replace h := id h
      refine w_callV (t' := 3) [(1, r2), (1, m 485 l4)] [] rfl s_428 rfl rfl ?_
      refine w_C.more (Q := fun r3 m3 => _) h (fun r3 m3 h => ?_)
      replace h := id h
      refine w_goto rfl ?_
      refine w_iinc (lv' := [some (2, 428), some (0, l1), some (0, l2), some (0, l3), some (0, w_32 (l4 + 1))]) rfl rfl rfl rfl ?_
      refine w_goto rfl ?_
      exact w_W.less h (w_sub [true, true, true, true, true] rfl)
  · refine w_iload_n rfl rfl ?_
    refine w_iload_n rfl rfl ?_
    refine w_iadd rfl ?_
    refine w_istore_n (lv' := [some (2, 428), some (0, l1), some (0, w_32 (l2 + l3)), some (0, l3), some (0, l4)]) rfl rfl rfl ?_
    refine w_goto rfl ?_
    exact w_W.less h (w_sub [true, true, true, false, false] rfl)
theorem xr_m_take1 {d : Nat} {m : w_M} {Q : Int → w_M → Prop} (h : if 8000 < (m 428 5) then (Q (-1) m) else (xp_m_take1_14 d 0 m Q)) : xc_m_take1 (d + 1) m Q := by
  refine w_enter (q := 1) (lv := [some (2, 428), none]) rfl rfl rfl ?_
  refine w_aload_n rfl rfl ?_
  refine x_gfI rfl s_428 rfl (kk := 5) rfl rfl ?_
  refine w_sipush rfl (by decide) ?_
  refine w_icle rfl (w_ite h (fun h => ?_) (fun h => ?_))
  · refine w_iconst rfl (by decide) ?_
    exact w_iret rfl rfl h
  · refine w_iconst rfl (by decide) ?_
    refine w_istore_n (lv' := [some (2, 428), some (0, 0)]) rfl rfl rfl ?_
    exact w_W.less h (w_sub [true, true] rfl)
theorem xr_m_take1_14 {d : Nat} {l1 : Int} {m : w_M} {Q : Int → w_M → Prop} (h : if l1 < (m 428 5) then (((0 : Int) ≤ l1 ∧ l1 < 30100) ∧ (((0 : Int) ≤ l1 ∧ l1 < 8000) ∧ (xp_m_take1_14 d (w_32 (l1 + 1)) (w_up m 429 l1 (w_8 (m 431 l1))) Q))) else (Q (m 428 5) (w_up m 428 1 (m 428 5)))) : xp_m_take1_14 d l1 m Q := by
  refine w_iload_n rfl rfl ?_
  refine w_aload_n rfl rfl ?_
  refine x_gfI rfl s_428 rfl (kk := 5) rfl rfl ?_
  refine w_icge rfl (w_ite h (fun h => ?_) (fun h => ?_))
  · refine w_aload_n rfl rfl ?_
    refine w_gfC (c := 429) rfl s_428 rfl rfl ?_
    refine w_iload_n rfl rfl ?_
    refine w_aload_n rfl rfl ?_
    refine w_gfC (c := 431) rfl s_428 rfl rfl ?_
    refine w_iload_n rfl rfl ?_
    refine w_bald rfl s_431 (n := 30100) rfl h.1 ?_
    replace h := h.2
    refine w_bast rfl s_429 (w_EM (by decide)) (n := 8000) rfl h.1 ?_
    replace h := h.2
    refine w_iinc (lv' := [some (2, 428), some (0, w_32 (l1 + 1))]) rfl rfl rfl rfl ?_
    refine w_goto rfl ?_
    exact w_W.less h (w_sub [true, true] rfl)
  · refine w_aload_n rfl rfl ?_
    refine w_aload_n rfl rfl ?_
    refine x_gfI rfl s_428 rfl (kk := 5) rfl rfl ?_
    refine w_pfI rfl s_428 rfl (w_EM (by decide)) rfl (kk := 1) rfl ?_
    refine w_aload_n rfl rfl ?_
    refine x_gfI rfl s_428 rfl (kk := 5) rfl (w_up_nb (by decide)) ?_
    exact w_iret rfl rfl h
theorem xr_m_take2 {d : Nat} {l1 : Int} {m : w_M} {Q : Int → w_M → Prop} (h : xp_m_take2_2 d l1 0 m Q) : xc_m_take2 (d + 1) l1 m Q := by
  refine w_enter (q := 1) (lv := [some (2, 428), some (0, l1), none]) rfl rfl rfl ?_
  refine w_iconst rfl (by decide) ?_
  refine w_istore_n (lv' := [some (2, 428), some (0, l1), some (0, 0)]) rfl rfl rfl ?_
  exact w_W.less h (w_sub [true, true, true] rfl)
theorem xr_m_take2_2 {d : Nat} {l1 l2 : Int} {m : w_M} {Q : Int → w_M → Prop} (h : if l2 < l1 then (((0 : Int) ≤ l2 ∧ l2 < 8200) ∧ (((0 : Int) ≤ l2 ∧ l2 < 8200) ∧ (xp_m_take2_2 d l1 (w_32 (l2 + 1)) (w_up m 442 l2 (w_8 (m 443 l2))) Q))) else (Q 0 (w_up m 428 37 l1))) : xp_m_take2_2 d l1 l2 m Q := by
  refine w_iload_n rfl rfl ?_
  refine w_iload_n rfl rfl ?_
  refine w_icge rfl (w_ite h (fun h => ?_) (fun h => ?_))
  · refine w_aload_n rfl rfl ?_
    refine w_gfC (c := 442) rfl s_428 rfl rfl ?_
    refine w_iload_n rfl rfl ?_
    refine w_aload_n rfl rfl ?_
    refine w_gfC (c := 443) rfl s_428 rfl rfl ?_
    refine w_iload_n rfl rfl ?_
    refine w_bald rfl s_443 (n := 8200) rfl h.1 ?_
    replace h := h.2
    refine w_bast rfl s_442 (w_EM (by decide)) (n := 8200) rfl h.1 ?_
    replace h := h.2
    refine w_iinc (lv' := [some (2, 428), some (0, l1), some (0, w_32 (l2 + 1))]) rfl rfl rfl rfl ?_
    refine w_goto rfl ?_
    exact w_W.less h (w_sub [true, true, true] rfl)
  · refine w_aload_n rfl rfl ?_
    refine w_iload_n rfl rfl ?_
    refine w_pfI rfl s_428 rfl (w_EM (by decide)) rfl (kk := 37) rfl ?_
    exact w_vret rfl rfl h
theorem xr_m_takeOut {d : Nat} {l1 : Int} {m : w_M} {Q : Int → w_M → Prop} (h : ((0 : Int) ≤ l1 ∧ l1 < 61) ∧ (((0 : Int) ≤ (m 468 l1) ∧ (m 468 l1) < 200) ∧ (xc_m_kidsOf d (m 469 (m 468 l1)) m (fun r1 m1 => xc_m_element d r1 (m 468 l1) m1 (fun r2 m2 => ((0 : Int) ≤ r1 ∧ r1 < 40000) ∧ (if (m2 436 r1) = r2 then (((0 : Int) ≤ r2 ∧ r2 < 40000) ∧ (((0 : Int) ≤ r1 ∧ r1 < 40000) ∧ (xp_m_takeOut_106 d l1 (m 469 (m 468 l1)) r1 r2 (w_up m2 436 r1 (m2 437 r2)) Q))) else (((0 : Int) ≤ r1 ∧ r1 < 40000) ∧ (xp_m_takeOut_68 d l1 (m 469 (m 468 l1)) r1 r2 (m2 436 r1) m2 Q)))))))) : xc_m_takeOut (d + 1) l1 m Q := by
  refine w_enter (q := 5) (lv := [some (2, 428), some (0, l1), none, none, none, none, none]) rfl rfl rfl ?_
  refine w_aload_n rfl rfl ?_
  refine w_gfC (c := 468) rfl s_428 rfl rfl ?_
  refine w_iload_n rfl rfl ?_
  refine w_iald rfl s_468 (n := 61) rfl h.1 ?_
  replace h := h.2
  refine w_istore_n (lv' := [some (2, 428), some (0, l1), some (0, m 468 l1), none, none, none, none]) rfl rfl rfl ?_
  refine w_aload_n rfl rfl ?_
  refine w_gfC (c := 469) rfl s_428 rfl rfl ?_
  refine w_iload_n rfl rfl ?_
  refine w_iald rfl s_469 (n := 200) rfl h.1 ?_
  replace h := h.2
  refine w_istore_n (lv' := [some (2, 428), some (0, l1), some (0, m 468 l1), some (0, m 469 (m 468 l1)), none, none, none]) rfl rfl rfl ?_
  refine w_aload_n rfl rfl ?_
  refine w_iload_n rfl rfl ?_
  refine w_callV (t' := 0) [(0, m 469 (m 468 l1))] [] rfl s_428 rfl rfl ?_
  refine w_C.more (Q := fun r1 m1 => _) h (fun r1 m1 h => ?_)
  replace h := id h
  refine w_istore (lv' := [some (2, 428), some (0, l1), some (0, m 468 l1), some (0, m 469 (m 468 l1)), some (0, r1), none, none]) rfl rfl rfl ?_
  refine w_aload_n rfl rfl ?_
  refine w_iload rfl rfl ?_
  refine w_iload_n rfl rfl ?_
  refine w_callV (t' := 0) [(0, m 468 l1), (0, r1)] [] rfl s_428 rfl rfl ?_
  refine w_C.more (Q := fun r2 m2 => _) h (fun r2 m2 h => ?_)
  replace h := id h
  refine w_istore (lv' := [some (2, 428), some (0, l1), some (0, m 468 l1), some (0, m 469 (m 468 l1)), some (0, r1), some (0, r2), none]) rfl rfl rfl ?_
  refine w_aload_n rfl rfl ?_
  refine w_gfC (c := 436) rfl s_428 rfl rfl ?_
  refine w_iload rfl rfl ?_
  refine w_iald rfl s_436 (n := 40000) rfl h.1 ?_
  replace h := h.2
  refine w_iload rfl rfl ?_
  refine w_icne rfl (w_ite h (fun h => ?_) (fun h => ?_))
  · refine w_aload_n rfl rfl ?_
    refine w_gfC (c := 436) rfl s_428 rfl rfl ?_
    refine w_iload rfl rfl ?_
    refine w_aload_n rfl rfl ?_
    refine w_gfC (c := 437) rfl s_428 rfl rfl ?_
    refine w_iload rfl rfl ?_
    refine w_iald rfl s_437 (n := 40000) rfl h.1 ?_
    replace h := h.2
    refine w_iast rfl s_436 (w_EM (by decide)) (n := 40000) rfl h.1 ?_
    replace h := h.2
    refine w_goto rfl ?_
    exact w_W.less h (w_sub [true, true, false, true, true, true, false] rfl)
  · refine w_aload_n rfl rfl ?_
    refine w_gfC (c := 436) rfl s_428 rfl rfl ?_
    refine w_iload rfl rfl ?_
    refine w_iald rfl s_436 (n := 40000) rfl h.1 ?_
    replace h := h.2
    refine w_istore (lv' := [some (2, 428), some (0, l1), some (0, m 468 l1), some (0, m 469 (m 468 l1)), some (0, r1), some (0, r2), some (0, m2 436 r1)]) rfl rfl rfl ?_
    exact w_W.less h (w_sub [true, true, false, true, true, true, true] rfl)
theorem xr_m_takeOut_68 {d : Nat} {l1 l3 l4 l5 l6 : Int} {m : w_M} {Q : Int → w_M → Prop} (h : ((0 : Int) ≤ l6 ∧ l6 < 40000) ∧ (if (m 437 l6) = l5 then (((0 : Int) ≤ l5 ∧ l5 < 40000) ∧ (((0 : Int) ≤ l6 ∧ l6 < 40000) ∧ (xp_m_takeOut_106 d l1 l3 l4 l5 (w_up m 437 l6 (m 437 l5)) Q))) else (((0 : Int) ≤ l6 ∧ l6 < 40000) ∧ (xp_m_takeOut_68 d l1 l3 l4 l5 (m 437 l6) m Q)))) : xp_m_takeOut_68 d l1 l3 l4 l5 l6 m Q := by
  refine w_aload_n rfl rfl ?_
  refine w_gfC (c := 437) rfl s_428 rfl rfl ?_
  refine w_iload rfl rfl ?_
  refine w_iald rfl s_437 (n := 40000) rfl h.1 ?_
  replace h := h.2
  refine w_iload rfl rfl ?_
  refine w_iceq rfl (w_ite h (fun h => ?_) (fun h => ?_))
  · refine w_aload_n rfl rfl ?_
    refine w_gfC (c := 437) rfl s_428 rfl rfl ?_
    refine w_iload rfl rfl ?_
    refine w_aload_n rfl rfl ?_
    refine w_gfC (c := 437) rfl s_428 rfl rfl ?_
    refine w_iload rfl rfl ?_
    refine w_iald rfl s_437 (n := 40000) rfl h.1 ?_
    replace h := h.2
    refine w_iast rfl s_437 (w_EM (by decide)) (n := 40000) rfl h.1 ?_
    replace h := h.2
    exact w_W.less h (w_sub [true, true, false, true, true, true, false] rfl)
  · refine w_aload_n rfl rfl ?_
    refine w_gfC (c := 437) rfl s_428 rfl rfl ?_
    refine w_iload rfl rfl ?_
    refine w_iald rfl s_437 (n := 40000) rfl h.1 ?_
    replace h := h.2
    refine w_istore (lv' := [some (2, 428), some (0, l1), none, some (0, l3), some (0, l4), some (0, l5), some (0, m 437 l6)]) rfl rfl rfl ?_
    refine w_goto rfl ?_
    exact w_W.less h (w_sub [true, true, false, true, true, true, true] rfl)
theorem xr_m_takeOut_106 {d : Nat} {l1 l3 l4 l5 : Int} {m : w_M} {Q : Int → w_M → Prop} (h : ((0 : Int) ≤ l5 ∧ l5 < 40000) ∧ (((0 : Int) ≤ l4 ∧ l4 < 40000) ∧ (((0 : Int) ≤ l4 ∧ l4 < 40000) ∧ (xc_m_countTo d l3 (-1) (w_up (w_up m 437 l5 (-1)) 435 l4 (w_32 (((w_up m 437 l5 (-1)) 435 l4) - 1))) (fun r1 m1 => xp_m_takeOut_144 d l5 l1 (w_up m1 428 84 (w_32 ((m1 428 84) - 1))) Q))))) : xp_m_takeOut_106 d l1 l3 l4 l5 m Q := by
  refine w_aload_n rfl rfl ?_
  refine w_gfC (c := 437) rfl s_428 rfl rfl ?_
  refine w_iload rfl rfl ?_
  refine w_iconst rfl (by decide) ?_
  refine w_iast rfl s_437 (w_EM (by decide)) (n := 40000) rfl h.1 ?_
  replace h := h.2
  refine w_aload_n rfl rfl ?_
  refine w_gfC (c := 435) rfl s_428 rfl rfl ?_
  refine w_iload rfl rfl ?_
  refine w_dup2 rfl (show (0 : Nat) ≠ 1 by decide) (show (2 : Nat) ≠ 1 by decide) ?_
  refine w_iald rfl s_435 (n := 40000) rfl h.1 ?_
  replace h := h.2
  refine w_iconst rfl (by decide) ?_
  refine w_isub rfl ?_
  refine w_iast rfl s_435 (w_EM (by decide)) (n := 40000) rfl h.1 ?_
  replace h := h.2
  refine w_aload_n rfl rfl ?_
  refine w_iload_n rfl rfl ?_
  refine w_iconst rfl (by decide) ?_
  refine w_callV (t' := 3) [(0, (-1)), (0, l3)] [] rfl s_428 rfl rfl ?_
  refine w_C.more (Q := fun r1 m1 => _) h (fun r1 m1 h => ?_)
  replace h := id h
  refine w_aload_n rfl rfl ?_
  refine w_dup rfl (show (2 : Nat) ≠ 1 by decide) ?_
  refine x_gfI rfl s_428 rfl (kk := 84) rfl rfl ?_
  refine w_iconst rfl (by decide) ?_
  refine w_isub rfl ?_
  refine w_pfI rfl s_428 rfl (w_EM (by decide)) rfl (kk := 84) rfl ?_
  refine w_iload_n rfl rfl ?_
  refine w_istore (lv' := [some (2, 428), some (0, l1), none, some (0, l3), some (0, l4), some (0, l5), some (0, l1)]) rfl rfl rfl ?_
  exact w_W.less h (w_sub [true, false, false, false, false, true, true] rfl)
theorem xr_m_takeOut_144 {d : Nat} {l5 l6 : Int} {m : w_M} {Q : Int → w_M → Prop} (h : if l6 < (m 428 84) then (((0 : Int) ≤ (w_32 (l6 + 1)) ∧ (w_32 (l6 + 1)) < 61) ∧ (((0 : Int) ≤ l6 ∧ l6 < 61) ∧ (xp_m_takeOut_144 d l5 (w_32 (l6 + 1)) (w_up m 468 l6 (m 468 (w_32 (l6 + 1)))) Q))) else (Q l5 (w_up m 428 88 (-1)))) : xp_m_takeOut_144 d l5 l6 m Q := by
  refine w_iload rfl rfl ?_
  refine w_aload_n rfl rfl ?_
  refine x_gfI rfl s_428 rfl (kk := 84) rfl rfl ?_
  refine w_icge rfl (w_ite h (fun h => ?_) (fun h => ?_))
  · refine w_aload_n rfl rfl ?_
    refine w_gfC (c := 468) rfl s_428 rfl rfl ?_
    refine w_iload rfl rfl ?_
    refine w_aload_n rfl rfl ?_
    refine w_gfC (c := 468) rfl s_428 rfl rfl ?_
    refine w_iload rfl rfl ?_
    refine w_iconst rfl (by decide) ?_
    refine w_iadd rfl ?_
    refine w_iald rfl s_468 (n := 61) rfl h.1 ?_
    replace h := h.2
    refine w_iast rfl s_468 (w_EM (by decide)) (n := 61) rfl h.1 ?_
    replace h := h.2
    refine w_iinc (lv' := [some (2, 428), none, none, none, none, some (0, l5), some (0, w_32 (l6 + 1))]) rfl rfl rfl rfl ?_
    refine w_goto rfl ?_
    exact w_W.less h (w_sub [true, false, false, false, false, true, true] rfl)
  · refine w_aload_n rfl rfl ?_
    refine w_iconst rfl (by decide) ?_
    refine w_pfI rfl s_428 rfl (w_EM (by decide)) rfl (kk := 88) rfl ?_
    refine w_iload rfl rfl ?_
    exact w_iret rfl rfl h
theorem xr_m_takeOver {d : Nat} {l1 l2 : Int} {m : w_M} {Q : Int → w_M → Prop} (h : ((0 : Int) ≤ l1 ∧ l1 < 200) ∧ (xc_m_entry d (m 455 l1) l2 m (fun r1 m1 => xc_m_isNothing d r1 m1 (fun r2 m2 => if r2 = 0 then (Q 0 m2) else (xc_m_holder d l1 l2 m2 (fun r3 m3 => if r3 = 0 then (Q 0 m3) else (((0 : Int) ≤ r3 ∧ r3 < 200) ∧ (xc_m_rawEntry d (m3 455 r3) l2 m3 (fun r4 m4 => ((0 : Int) ≤ l1 ∧ l1 < 200) ∧ (((0 : Int) ≤ r4 ∧ r4 < 40000) ∧ (((0 : Int) ≤ r4 ∧ r4 < 40000) ∧ (((0 : Int) ≤ r4 ∧ r4 < 40000) ∧ (xc_m_entryTo d (m4 455 l1) l2 (m4 432 r4) (m4 433 r4) (m4 434 r4) m4 (fun r5 m5 => ((0 : Int) ≤ r4 ∧ r4 < 40000) ∧ (((0 : Int) ≤ r5 ∧ r5 < 40000) ∧ (((0 : Int) ≤ r4 ∧ r4 < 40000) ∧ (((0 : Int) ≤ r5 ∧ r5 < 40000) ∧ (Q 0 (w_up (w_up m5 435 r5 (m5 435 r4)) 436 r5 ((w_up m5 435 r5 (m5 435 r4)) 436 r4)))))))))))))))))))) : xc_m_takeOver (d + 1) l1 l2 m Q := by
  refine w_enter (q := 3) (lv := [some (2, 428), some (0, l1), some (2, l2), none, none, none]) rfl rfl rfl ?_
  refine w_aload_n rfl rfl ?_
  refine w_aload_n rfl rfl ?_
  refine w_aload_n rfl rfl ?_
  refine w_gfC (c := 455) rfl s_428 rfl rfl ?_
  refine w_iload_n rfl rfl ?_
  refine w_iald rfl s_455 (n := 200) rfl h.1 ?_
  replace h := h.2
  refine w_aload_n rfl rfl ?_
  refine w_callV (t' := 0) [(2, l2), (0, m 455 l1)] [(2, 428)] rfl s_428 rfl rfl ?_
  refine w_C.more (Q := fun r1 m1 => _) h (fun r1 m1 h => ?_)
  replace h := id h
  refine w_callV (t' := 0) [(0, r1)] [] rfl s_428 rfl rfl ?_
  refine w_C.more (Q := fun r2 m2 => _) h (fun r2 m2 h => ?_)
  replace h := id h
  refine w_ifne rfl (w_ite h (fun h => ?_) (fun h => ?_))
  · exact w_vret rfl rfl h
  · refine w_aload_n rfl rfl ?_
    refine w_iload_n rfl rfl ?_
    refine w_aload_n rfl rfl ?_
    refine w_callV (t' := 0) [(2, l2), (0, l1)] [] rfl s_428 rfl rfl ?_
    refine w_C.more (Q := fun r3 m3 => _) h (fun r3 m3 h => ?_)
    replace h := id h
    refine w_istore_n (lv' := [some (2, 428), some (0, l1), some (2, l2), some (0, r3), none, none]) rfl rfl rfl ?_
    refine w_iload_n rfl rfl ?_
    refine w_ifne rfl (w_ite h (fun h => ?_) (fun h => ?_))
    · exact w_vret rfl rfl h
    · refine w_aload_n rfl rfl ?_
      refine w_aload_n rfl rfl ?_
      refine w_gfC (c := 455) rfl s_428 rfl rfl ?_
      refine w_iload_n rfl rfl ?_
      refine w_iald rfl s_455 (n := 200) rfl h.1 ?_
      replace h := h.2
      refine w_aload_n rfl rfl ?_
      refine w_callV (t' := 0) [(2, l2), (0, m3 455 r3)] [] rfl s_428 rfl rfl ?_
      refine w_C.more (Q := fun r4 m4 => _) h (fun r4 m4 h => ?_)
      replace h := id h
      refine w_istore (lv' := [some (2, 428), some (0, l1), some (2, l2), some (0, r3), some (0, r4), none]) rfl rfl rfl ?_
      refine w_aload_n rfl rfl ?_
      refine w_aload_n rfl rfl ?_
      refine w_gfC (c := 455) rfl s_428 rfl rfl ?_
      refine w_iload_n rfl rfl ?_
      refine w_iald rfl s_455 (n := 200) rfl h.1 ?_
      replace h := h.2
      refine w_aload_n rfl rfl ?_
      refine w_aload_n rfl rfl ?_
      refine w_gfC (c := 432) rfl s_428 rfl rfl ?_
      refine w_iload rfl rfl ?_
      refine w_bald rfl s_432 (n := 40000) rfl h.1 ?_
      replace h := h.2
      refine w_aload_n rfl rfl ?_
      refine w_gfC (c := 433) rfl s_428 rfl rfl ?_
      refine w_iload rfl rfl ?_
      refine w_iald rfl s_433 (n := 40000) rfl h.1 ?_
      replace h := h.2
      refine w_aload_n rfl rfl ?_
      refine w_gfC (c := 434) rfl s_428 rfl rfl ?_
      refine w_iload rfl rfl ?_
      refine w_iald rfl s_434 (n := 40000) rfl h.1 ?_
      replace h := h.2
      refine w_callV (t' := 0) [(0, m4 434 r4), (0, m4 433 r4), (0, m4 432 r4), (2, l2), (0, m4 455 l1)] [] rfl s_428 rfl rfl ?_
      refine w_C.more (Q := fun r5 m5 => _) h (fun r5 m5 h => ?_)
      replace h := id h
      refine w_istore (lv' := [some (2, 428), some (0, l1), some (2, l2), some (0, r3), some (0, r4), some (0, r5)]) rfl rfl rfl ?_
      refine w_aload_n rfl rfl ?_
      refine w_gfC (c := 435) rfl s_428 rfl rfl ?_
      refine w_iload rfl rfl ?_
      refine w_aload_n rfl rfl ?_
      refine w_gfC (c := 435) rfl s_428 rfl rfl ?_
      refine w_iload rfl rfl ?_
      refine w_iald rfl s_435 (n := 40000) rfl h.1 ?_
      replace h := h.2
      refine w_iast rfl s_435 (w_EM (by decide)) (n := 40000) rfl h.1 ?_
      replace h := h.2
      refine w_aload_n rfl rfl ?_
      refine w_gfC (c := 436) rfl s_428 rfl rfl ?_
      refine w_iload rfl rfl ?_
      refine w_aload_n rfl rfl ?_
      refine w_gfC (c := 436) rfl s_428 rfl rfl ?_
      refine w_iload rfl rfl ?_
      refine w_iald rfl s_436 (n := 40000) rfl h.1 ?_
      replace h := h.2
      refine w_iast rfl s_436 (w_EM (by decide)) (n := 40000) rfl h.1 ?_
      replace h := h.2
      exact w_vret rfl rfl h
theorem xr_m_target {d : Nat} {l1 : Int} {m : w_M} {Q : Int → w_M → Prop} (h : ((0 : Int) ≤ l1 ∧ l1 < 40000) ∧ (if (m 433 l1) < (m 428 60) then (((0 : Int) ≤ (m 433 l1) ∧ (m 433 l1) < 200) ∧ (if (m 451 (m 433 l1)) = 0 then (Q (-1) m) else (xc_m_generationOf d (m 433 l1) m (fun r1 m1 => ((0 : Int) ≤ l1 ∧ l1 < 40000) ∧ (if r1 = (m1 434 l1) then (Q (m 433 l1) m1) else (Q (-1) m1)))))) else (Q (-1) m))) : xc_m_target (d + 1) l1 m Q := by
  refine w_enter (q := 1) (lv := [some (2, 428), some (0, l1), none]) rfl rfl rfl ?_
  refine w_aload_n rfl rfl ?_
  refine w_gfC (c := 433) rfl s_428 rfl rfl ?_
  refine w_iload_n rfl rfl ?_
  refine w_iald rfl s_433 (n := 40000) rfl h.1 ?_
  replace h := h.2
  refine w_istore_n (lv' := [some (2, 428), some (0, l1), some (0, m 433 l1)]) rfl rfl rfl ?_
  refine w_iload_n rfl rfl ?_
  refine w_aload_n rfl rfl ?_
  refine x_gfI rfl s_428 rfl (kk := 60) rfl rfl ?_
  refine w_icge rfl (w_ite h (fun h => ?_) (fun h => ?_))
  · refine w_aload_n rfl rfl ?_
    refine w_gfC (c := 451) rfl s_428 rfl rfl ?_
    refine w_iload_n rfl rfl ?_
    refine w_bald rfl s_451 (n := 200) rfl h.1 ?_
    replace h := h.2
    refine w_ifeq rfl (w_ite h (fun h => ?_) (fun h => ?_))
    · refine w_iconst rfl (by decide) ?_
      exact w_iret rfl rfl h
    · refine w_aload_n rfl rfl ?_
      refine w_iload_n rfl rfl ?_
      refine w_callV (t' := 1) [(0, m 433 l1)] [] rfl s_428 rfl rfl ?_
      refine w_C.more (Q := fun r1 m1 => _) h (fun r1 m1 h => ?_)
      replace h := id h
      refine w_aload_n rfl rfl ?_
      refine w_gfC (c := 434) rfl s_428 rfl rfl ?_
      refine w_iload_n rfl rfl ?_
      refine w_iald rfl s_434 (n := 40000) rfl h.1 ?_
      replace h := h.2
      refine w_i2l rfl ?_
      refine w_lcne rfl rfl (w_ite h (fun h => ?_) (fun h => ?_))
      · refine w_iload_n rfl rfl ?_
        refine w_goto rfl ?_
        exact w_iret rfl rfl h
      · refine w_iconst rfl (by decide) ?_
        exact w_iret rfl rfl h
  · refine w_iconst rfl (by decide) ?_
    exact w_iret rfl rfl h
theorem xr_m_tell {d : Nat} {l1 l2 l3 l5 : Int} {m : w_M} {Q : Int → w_M → Prop} (h : if (m 428 75) < l1 then (xp_m_tell_17 d l1 l2 l3 l5 l1 m Q) else (xp_m_tell_17 d l1 l2 l3 l5 (m 428 75) m Q)) : xc_m_tell (d + 1) l1 l2 l3 l5 m Q := by
  refine w_enter (q := 0) (lv := [some (2, 428), some (0, l1), some (0, l2), some (1, l3), none, some (1, l5), none]) rfl rfl rfl ?_
  refine w_aload_n rfl rfl ?_
  refine w_aload_n rfl rfl ?_
  refine x_gfI rfl s_428 rfl (kk := 75) rfl rfl ?_
  refine w_iload_n rfl rfl ?_
  refine w_icge rfl (w_ite h (fun h => ?_) (fun h => ?_))
  · refine w_iload_n rfl rfl ?_
    refine w_goto rfl ?_
    exact w_W.less h (w_sub [true, true, true, true, false, true, false] rfl)
  · refine w_aload_n rfl rfl ?_
    refine x_gfI rfl s_428 rfl (kk := 75) rfl rfl ?_
    exact w_W.less h (w_sub [true, true, true, true, false, true, false] rfl)
theorem xr_m_tell_17 {d : Nat} {l1 l2 l3 l5 s1 : Int} {m : w_M} {Q : Int → w_M → Prop} (h : ((0 : Int) ≤ l1 ∧ l1 < 200) ∧ (if ((w_up m 428 75 s1) 464 l1) < 0 then (((0 : Int) ≤ l1 ∧ l1 < 200) ∧ (((0 : Int) ≤ l1 ∧ l1 < 200) ∧ (((0 : Int) ≤ l1 ∧ l1 < 200) ∧ (Q 0 (w_up (w_up (w_up (w_up m 428 75 s1) 464 l1 (w_8 (w_8 l2))) 465 l1 l3) 466 l1 l5))))) else (Q 0 (w_up m 428 75 s1)))) : xp_m_tell_17 d l1 l2 l3 l5 s1 m Q := by
  refine w_pfI rfl s_428 rfl (w_EM (by decide)) rfl (kk := 75) rfl ?_
  refine w_aload_n rfl rfl ?_
  refine w_gfC (c := 464) rfl s_428 rfl rfl ?_
  refine w_iload_n rfl rfl ?_
  refine w_bald rfl s_464 (n := 200) rfl h.1 ?_
  replace h := h.2
  refine w_ifge rfl (w_ite h (fun h => ?_) (fun h => ?_))
  · refine w_aload_n rfl rfl ?_
    refine w_gfC (c := 464) rfl s_428 rfl rfl ?_
    refine w_iload_n rfl rfl ?_
    refine w_iload_n rfl rfl ?_
    refine w_i2b rfl ?_
    refine w_bast rfl s_464 (w_EM (by decide)) (n := 200) rfl h.1 ?_
    replace h := h.2
    refine w_aload_n rfl rfl ?_
    refine w_gfC (c := 465) rfl s_428 rfl rfl ?_
    refine w_iload_n rfl rfl ?_
    refine w_lload_n rfl rfl ?_
    refine w_last rfl s_465 (w_EM (by decide)) (n := 200) rfl h.1 ?_
    replace h := h.2
    refine w_aload_n rfl rfl ?_
    refine w_gfC (c := 466) rfl s_428 rfl rfl ?_
    refine w_iload_n rfl rfl ?_
    refine w_lload rfl rfl ?_
    refine w_last rfl s_466 (w_EM (by decide)) (n := 200) rfl h.1 ?_
    replace h := h.2
    exact w_vret rfl rfl h
  · exact w_vret rfl rfl h
theorem xr_m_thousandth {d : Nat} {l0 : Int} {m : w_M} {Q : Int → w_M → Prop} (h : if (w_64 (l0 + 32768000)) < 0 then (Q (w_64 (-(Int.tdiv (w_64 ((w_64 (-(w_64 (l0 + 32768000)))) + 65535999)) 65536000))) m) else (Q (Int.tdiv (w_64 (l0 + 32768000)) 65536000) m)) : xc_m_thousandth (d + 1) l0 m Q := by
  refine w_enter (q := 2) (lv := [some (1, l0), none, none, none]) rfl rfl rfl ?_
  refine w_lload_n rfl rfl ?_
  refine w_ldc2 (a := 32768000) rfl (by decide +kernel) (by decide) ?_
  refine w_ladd' rfl ?_
  refine w_lstore_n (lv' := [some (1, l0), none, some (1, w_64 (l0 + 32768000)), none]) rfl rfl rfl ?_
  refine w_lload_n rfl rfl ?_
  refine w_lconst rfl rfl ?_
  refine w_lclt rfl rfl (w_ite h (fun h => ?_) (fun h => ?_))
  · refine w_lload_n rfl rfl ?_
    refine w_lneg rfl ?_
    refine w_ldc2 (a := 65535999) rfl (by decide +kernel) (by decide) ?_
    refine w_ladd' rfl ?_
    refine w_ldc2 (a := 65536000) rfl (by decide +kernel) (by decide) ?_
    refine w_ldivk rfl (by decide) ?_
    refine w_lneg rfl ?_
    exact w_lret rfl rfl h
  · refine w_lload_n rfl rfl ?_
    refine w_ldc2 (a := 65536000) rfl (by decide +kernel) (by decide) ?_
    refine w_ldivk rfl (by decide) ?_
    refine w_goto rfl ?_
    exact w_lret rfl rfl h
theorem xr_m_times {d : Nat} {l0 l2 : Int} {m : w_M} {Q : Int → w_M → Prop} (h : Q ((w_64 ((w_64 (l0 * l2)) + 32768)) / 65536) m) : xc_m_times (d + 1) l0 l2 m Q := by
  refine w_enter (q := 0) (lv := [some (1, l0), none, some (1, l2), none]) rfl rfl rfl ?_
  refine w_lload_n rfl rfl ?_
  refine w_lload_n rfl rfl ?_
  refine w_lmul' rfl ?_
  refine w_ldc2 (a := 32768) rfl (by decide +kernel) (by decide) ?_
  refine w_ladd' rfl ?_
  refine w_bipush rfl (by decide) ?_
  refine w_lshrk (c := 65536) rfl (by decide) (by decide) rfl ?_
  exact w_lret rfl rfl h
theorem xr_m_token {d : Nat} {m : w_M} {Q : Int → w_M → Prop} (h : xc_m_white d m (fun r1 m1 => xc_m_peek d 0 (w_up m1 428 23 (m1 428 21)) (fun r2 m2 => if r2 < 0 then (Q 0 (w_up m2 428 22 0)) else (xc_m_isRegular d r2 m2 (fun r3 m3 => if r3 = 0 then (if r2 = 47 then (xc_m_readName d m3 (fun r4 m4 => Q 0 m4)) else (if r2 = 40 then (xc_m_readString d m3 (fun r5 m5 => Q 0 m5)) else (if r2 = 60 then (xc_m_peek d 1 m3 (fun r6 m6 => if r6 = 60 then (Q 0 (w_up (w_up m6 428 22 8) 428 21 (w_32 ((m6 428 21) + 2)))) else (xp_m_token_105 d r2 m6 Q))) else (xp_m_token_105 d r2 m3 Q)))) else (xc_m_row1 d m3 (fun r7 m7 => Q 0 m7))))))) : xc_m_token (d + 1) m Q := by
  refine w_enter (q := 1) (lv := [some (2, 428), none]) rfl rfl rfl ?_
  refine w_aload_n rfl rfl ?_
  refine w_callV (t' := 3) [] [] rfl s_428 rfl rfl ?_
  refine w_C.more (Q := fun r1 m1 => _) h (fun r1 m1 h => ?_)
  replace h := id h
  refine w_aload_n rfl rfl ?_
  refine w_aload_n rfl rfl ?_
  refine x_gfI rfl s_428 rfl (kk := 21) rfl rfl ?_
  refine w_pfI rfl s_428 rfl (w_EM (by decide)) rfl (kk := 23) rfl ?_
  refine w_aload_n rfl rfl ?_
  refine w_iconst rfl (by decide) ?_
  refine w_callV (t' := 0) [(0, 0)] [] rfl s_428 rfl rfl ?_
  refine w_C.more (Q := fun r2 m2 => _) h (fun r2 m2 h => ?_)
  replace h := id h
  refine w_istore_n (lv' := [some (2, 428), some (0, r2)]) rfl rfl rfl ?_
  refine w_iload_n rfl rfl ?_
  refine w_ifge rfl (w_ite h (fun h => ?_) (fun h => ?_))
  · refine w_aload_n rfl rfl ?_
    refine w_iconst rfl (by decide) ?_
    refine w_pfI rfl s_428 rfl (w_EM (by decide)) rfl (kk := 22) rfl ?_
    refine w_goto rfl ?_
    exact w_vret rfl rfl h
  · refine w_iload_n rfl rfl ?_
    refine w_callS (t' := 0) [(0, r2)] [] rfl (by decide) rfl rfl ?_
    refine w_C.more (Q := fun r3 m3 => _) h (fun r3 m3 h => ?_)
    replace h := id h
    refine w_ifeq rfl (w_ite h (fun h => ?_) (fun h => ?_))
    · refine w_iload_n rfl rfl ?_
      refine w_bipush rfl (by decide) ?_
      refine w_icne rfl (w_ite h (fun h => ?_) (fun h => ?_))
      · refine w_aload_n rfl rfl ?_
        refine w_callV (t' := 3) [] [] rfl s_428 rfl rfl ?_
        refine w_C.more (Q := fun r4 m4 => _) h (fun r4 m4 h => ?_)
        replace h := id h
        refine w_goto rfl ?_
        exact w_vret rfl rfl h
      · refine w_iload_n rfl rfl ?_
        refine w_bipush rfl (by decide) ?_
        refine w_icne rfl (w_ite h (fun h => ?_) (fun h => ?_))
        · refine w_aload_n rfl rfl ?_
          refine w_callV (t' := 3) [] [] rfl s_428 rfl rfl ?_
          refine w_C.more (Q := fun r5 m5 => _) h (fun r5 m5 h => ?_)
          replace h := id h
          refine w_goto rfl ?_
          exact w_vret rfl rfl h
        · refine w_iload_n rfl rfl ?_
          refine w_bipush rfl (by decide) ?_
          refine w_icne rfl (w_ite h (fun h => ?_) (fun h => ?_))
          · refine w_aload_n rfl rfl ?_
            refine w_iconst rfl (by decide) ?_
            refine w_callV (t' := 0) [(0, 1)] [] rfl s_428 rfl rfl ?_
            refine w_C.more (Q := fun r6 m6 => _) h (fun r6 m6 h => ?_)
            replace h := id h
            refine w_bipush rfl (by decide) ?_
            refine w_icne rfl (w_ite h (fun h => ?_) (fun h => ?_))
            · refine w_aload_n rfl rfl ?_
              refine w_bipush rfl (by decide) ?_
              refine w_pfI rfl s_428 rfl (w_EM (by decide)) rfl (kk := 22) rfl ?_
              refine w_aload_n rfl rfl ?_
              refine w_dup rfl (show (2 : Nat) ≠ 1 by decide) ?_
              refine x_gfI rfl s_428 rfl (kk := 21) rfl (w_up_nb (by decide)) ?_
              refine w_iconst rfl (by decide) ?_
              refine w_iadd rfl ?_
              refine w_pfI rfl s_428 rfl (w_EM (by decide)) rfl (kk := 21) rfl ?_
              refine w_goto rfl ?_
              exact w_vret rfl rfl h
            · exact w_W.less h (w_sub [true, true] rfl)
          · exact w_W.less h (w_sub [true, true] rfl)
    · refine w_aload_n rfl rfl ?_
      refine w_callV (t' := 3) [] [] rfl s_428 rfl rfl ?_
      refine w_C.more (Q := fun r7 m7 => _) h (fun r7 m7 h => ?_)
      replace h := id h
      refine w_goto rfl ?_
      exact w_vret rfl rfl h
theorem xr_m_token_105 {d : Nat} {l1 : Int} {m : w_M} {Q : Int → w_M → Prop} (h : if l1 = 60 then (xc_m_readHex d m (fun r1 m1 => Q 0 m1)) else (if l1 = 62 then (xc_m_peek d 1 m (fun r2 m2 => if r2 = 62 then (Q 0 (w_up (w_up m2 428 22 9) 428 21 (w_32 ((m2 428 21) + 2)))) else (if l1 = 91 then (xp_m_token_165 d l1 m2 Q) else (if l1 = 93 then (xp_m_token_165 d l1 m2 Q) else (Q 0 (w_up m2 428 22 10)))))) else (if l1 = 91 then (xp_m_token_165 d l1 m Q) else (if l1 = 93 then (xp_m_token_165 d l1 m Q) else (Q 0 (w_up m 428 22 10)))))) : xp_m_token_105 d l1 m Q := by
  refine w_iload_n rfl rfl ?_
  refine w_bipush rfl (by decide) ?_
  refine w_icne rfl (w_ite h (fun h => ?_) (fun h => ?_))
  · refine w_aload_n rfl rfl ?_
    refine w_callV (t' := 3) [] [] rfl s_428 rfl rfl ?_
    refine w_C.more (Q := fun r1 m1 => _) h (fun r1 m1 h => ?_)
    replace h := id h
    refine w_goto rfl ?_
    exact w_vret rfl rfl h
  · refine w_iload_n rfl rfl ?_
    refine w_bipush rfl (by decide) ?_
    refine w_icne rfl (w_ite h (fun h => ?_) (fun h => ?_))
    · refine w_aload_n rfl rfl ?_
      refine w_iconst rfl (by decide) ?_
      refine w_callV (t' := 0) [(0, 1)] [] rfl s_428 rfl rfl ?_
      refine w_C.more (Q := fun r2 m2 => _) h (fun r2 m2 h => ?_)
      replace h := id h
      refine w_bipush rfl (by decide) ?_
      refine w_icne rfl (w_ite h (fun h => ?_) (fun h => ?_))
      · refine w_aload_n rfl rfl ?_
        refine w_bipush rfl (by decide) ?_
        refine w_pfI rfl s_428 rfl (w_EM (by decide)) rfl (kk := 22) rfl ?_
        refine w_aload_n rfl rfl ?_
        refine w_dup rfl (show (2 : Nat) ≠ 1 by decide) ?_
        refine x_gfI rfl s_428 rfl (kk := 21) rfl (w_up_nb (by decide)) ?_
        refine w_iconst rfl (by decide) ?_
        refine w_iadd rfl ?_
        refine w_pfI rfl s_428 rfl (w_EM (by decide)) rfl (kk := 21) rfl ?_
        refine w_goto rfl ?_
        exact w_vret rfl rfl h
      · refine w_iload_n rfl rfl ?_
        refine w_bipush rfl (by decide) ?_
        refine w_iceq rfl (w_ite h (fun h => ?_) (fun h => ?_))
        · exact w_W.less h (w_sub [true, true] rfl)
        · refine w_iload_n rfl rfl ?_
          refine w_bipush rfl (by decide) ?_
          refine w_icne rfl (w_ite h (fun h => ?_) (fun h => ?_))
          · exact w_W.less h (w_sub [true, true] rfl)
          · refine w_aload_n rfl rfl ?_
            refine w_bipush rfl (by decide) ?_
            refine w_pfI rfl s_428 rfl (w_EM (by decide)) rfl (kk := 22) rfl ?_
            exact w_vret rfl rfl h
    · refine w_iload_n rfl rfl ?_
      refine w_bipush rfl (by decide) ?_
      refine w_iceq rfl (w_ite h (fun h => ?_) (fun h => ?_))
      · exact w_W.less h (w_sub [true, true] rfl)
      · refine w_iload_n rfl rfl ?_
        refine w_bipush rfl (by decide) ?_
        refine w_icne rfl (w_ite h (fun h => ?_) (fun h => ?_))
        · exact w_W.less h (w_sub [true, true] rfl)
        · refine w_aload_n rfl rfl ?_
          refine w_bipush rfl (by decide) ?_
          refine w_pfI rfl s_428 rfl (w_EM (by decide)) rfl (kk := 22) rfl ?_
          exact w_vret rfl rfl h
theorem xr_m_token_165 {d : Nat} {l1 : Int} {m : w_M} {Q : Int → w_M → Prop} (h : if l1 = 91 then (Q 0 (w_up (w_up m 428 22 6) 428 21 (w_32 ((m 428 21) + 1)))) else (Q 0 (w_up (w_up m 428 22 7) 428 21 (w_32 ((m 428 21) + 1))))) : xp_m_token_165 d l1 m Q := by
  refine w_aload_n rfl rfl ?_
  refine w_iload_n rfl rfl ?_
  refine w_bipush rfl (by decide) ?_
  refine w_icne rfl (w_ite h (fun h => ?_) (fun h => ?_))
  · refine w_bipush rfl (by decide) ?_
    refine w_goto rfl ?_
    refine w_pfI rfl s_428 rfl (w_EM (by decide)) rfl (kk := 22) rfl ?_
    refine w_aload_n rfl rfl ?_
    refine w_dup rfl (show (2 : Nat) ≠ 1 by decide) ?_
    refine x_gfI rfl s_428 rfl (kk := 21) rfl (w_up_nb (by decide)) ?_
    refine w_iconst rfl (by decide) ?_
    refine w_iadd rfl ?_
    refine w_pfI rfl s_428 rfl (w_EM (by decide)) rfl (kk := 21) rfl ?_
    refine w_goto rfl ?_
    exact w_vret rfl rfl h
  · refine w_bipush rfl (by decide) ?_
    refine w_pfI rfl s_428 rfl (w_EM (by decide)) rfl (kk := 22) rfl ?_
    refine w_aload_n rfl rfl ?_
    refine w_dup rfl (show (2 : Nat) ≠ 1 by decide) ?_
    refine x_gfI rfl s_428 rfl (kk := 21) rfl (w_up_nb (by decide)) ?_
    refine w_iconst rfl (by decide) ?_
    refine w_iadd rfl ?_
    refine w_pfI rfl s_428 rfl (w_EM (by decide)) rfl (kk := 21) rfl ?_
    refine w_goto rfl ?_
    exact w_vret rfl rfl h
theorem xr_m_tree {d : Nat} {m : w_M} {Q : Int → w_M → Prop} (h : xc_m_rawEntry d (m 428 64) 328 m (fun r1 m1 => xc_m_rawEntry d (m1 428 64) 330 (w_up m1 428 65 r1) (fun r2 m2 => xc_m_dictNumber d (m2 428 65) (w_up m2 428 66 r2) (fun r3 m3 => if r3 = 0 then (xc_m_fail d 10 0 (w_up m3 428 81 r3) (fun r4 m4 => Q 0 m4)) else (((0 : Int) ≤ r3 ∧ r3 < 200) ∧ (xc_m_entry d ((w_up m3 428 81 r3) 455 r3) 218 (w_up m3 428 81 r3) (fun r5 m5 => xc_m_isName d r5 332 m5 (fun r6 m6 => if r6 = 0 then (xc_m_fail d 10 (m6 428 81) m6 (fun r7 m7 => Q 0 m7)) else (xc_m_rawEntry d ((w_up m3 428 81 r3) 455 r3) 254 m6 (fun r8 m8 => xc_m_dictNumber d r8 m8 (fun r9 m9 => if r9 = 0 then (xc_m_fail d 10 (m9 428 81) (w_up m9 428 83 r9) (fun r10 m10 => Q 0 m10)) else (xp_m_tree_132 d 0 (w_up m9 428 83 r9) Q)))))))))))) : xc_m_tree (d + 1) m Q := by
  refine w_enter (q := 2) (lv := [some (2, 428), none, none]) rfl rfl rfl ?_
  refine w_aload_n rfl rfl ?_
  refine w_aload_n rfl rfl ?_
  refine w_aload_n rfl rfl ?_
  refine x_gfI rfl s_428 rfl (kk := 64) rfl rfl ?_
  refine w_ldcwR rfl ?_
  refine w_callV (t' := 0) [(2, 328), (0, m 428 64)] [(2, 428)] rfl s_428 rfl rfl ?_
  refine w_C.more (Q := fun r1 m1 => _) h (fun r1 m1 h => ?_)
  replace h := id h
  refine w_pfI rfl s_428 rfl (w_EM (by decide)) rfl (kk := 65) rfl ?_
  refine w_aload_n rfl rfl ?_
  refine w_aload_n rfl rfl ?_
  refine w_aload_n rfl rfl ?_
  refine x_gfI rfl s_428 rfl (kk := 64) rfl (w_up_nb (by decide)) ?_
  refine w_ldcwR rfl ?_
  refine w_callV (t' := 0) [(2, 330), (0, m1 428 64)] [(2, 428)] rfl s_428 rfl rfl ?_
  refine w_C.more (Q := fun r2 m2 => _) h (fun r2 m2 h => ?_)
  replace h := id h
  refine w_pfI rfl s_428 rfl (w_EM (by decide)) rfl (kk := 66) rfl ?_
  refine w_aload_n rfl rfl ?_
  refine w_aload_n rfl rfl ?_
  refine w_aload_n rfl rfl ?_
  refine x_gfI rfl s_428 rfl (kk := 65) rfl (w_up_nb (by decide)) ?_
  refine w_callV (t' := 0) [(0, m2 428 65)] [(2, 428)] rfl s_428 rfl rfl ?_
  refine w_C.more (Q := fun r3 m3 => _) h (fun r3 m3 h => ?_)
  replace h := id h
  refine w_pfI rfl s_428 rfl (w_EM (by decide)) rfl (kk := 81) rfl ?_
  refine w_aload_n rfl rfl ?_
  refine x_gfI rfl s_428 rfl (kk := 81) rfl (w_up_eq) ?_
  refine w_ifne rfl (w_ite h (fun h => ?_) (fun h => ?_))
  · refine w_aload_n rfl rfl ?_
    refine w_bipush rfl (by decide) ?_
    refine w_iconst rfl (by decide) ?_
    refine w_callV (t' := 3) [(0, 0), (0, 10)] [] rfl s_428 rfl rfl ?_
    refine w_C.more (Q := fun r4 m4 => _) h (fun r4 m4 h => ?_)
    replace h := id h
    exact w_vret rfl rfl h
  · refine w_aload_n rfl rfl ?_
    refine w_gfC (c := 455) rfl s_428 rfl rfl ?_
    refine w_aload_n rfl rfl ?_
    refine x_gfI rfl s_428 rfl (kk := 81) rfl (w_up_eq) ?_
    refine w_iald rfl s_455 (n := 200) rfl h.1 ?_
    replace h := h.2
    refine w_istore_n (lv' := [some (2, 428), some (0, (w_up m3 428 81 r3) 455 r3), none]) rfl rfl rfl ?_
    refine w_aload_n rfl rfl ?_
    refine w_aload_n rfl rfl ?_
    refine w_iload_n rfl rfl ?_
    refine w_ldcwR rfl ?_
    refine w_callV (t' := 0) [(2, 218), (0, (w_up m3 428 81 r3) 455 r3)] [(2, 428)] rfl s_428 rfl rfl ?_
    refine w_C.more (Q := fun r5 m5 => _) h (fun r5 m5 h => ?_)
    replace h := id h
    refine w_ldcwR rfl ?_
    refine w_callV (t' := 0) [(2, 332), (0, r5)] [] rfl s_428 rfl rfl ?_
    refine w_C.more (Q := fun r6 m6 => _) h (fun r6 m6 h => ?_)
    replace h := id h
    refine w_ifne rfl (w_ite h (fun h => ?_) (fun h => ?_))
    · refine w_aload_n rfl rfl ?_
      refine w_bipush rfl (by decide) ?_
      refine w_aload_n rfl rfl ?_
      refine x_gfI rfl s_428 rfl (kk := 81) rfl rfl ?_
      refine w_callV (t' := 3) [(0, m6 428 81), (0, 10)] [] rfl s_428 rfl rfl ?_
      refine w_C.more (Q := fun r7 m7 => _) h (fun r7 m7 h => ?_)
      replace h := id h
      exact w_vret rfl rfl h
    · refine w_aload_n rfl rfl ?_
      refine w_aload_n rfl rfl ?_
      refine w_aload_n rfl rfl ?_
      refine w_iload_n rfl rfl ?_
      refine w_ldcwR rfl ?_
      refine w_callV (t' := 0) [(2, 254), (0, (w_up m3 428 81 r3) 455 r3)] [(2, 428), (2, 428)] rfl s_428 rfl rfl ?_
      refine w_C.more (Q := fun r8 m8 => _) h (fun r8 m8 h => ?_)
      replace h := id h
      refine w_callV (t' := 0) [(0, r8)] [(2, 428)] rfl s_428 rfl rfl ?_
      refine w_C.more (Q := fun r9 m9 => _) h (fun r9 m9 h => ?_)
      replace h := id h
      refine w_pfI rfl s_428 rfl (w_EM (by decide)) rfl (kk := 83) rfl ?_
      refine w_aload_n rfl rfl ?_
      refine x_gfI rfl s_428 rfl (kk := 83) rfl (w_up_eq) ?_
      refine w_ifne rfl (w_ite h (fun h => ?_) (fun h => ?_))
      · refine w_aload_n rfl rfl ?_
        refine w_bipush rfl (by decide) ?_
        refine w_aload_n rfl rfl ?_
        refine x_gfI rfl s_428 rfl (kk := 81) rfl (w_up_nb (by decide)) ?_
        refine w_callV (t' := 3) [(0, m9 428 81), (0, 10)] [] rfl s_428 rfl rfl ?_
        refine w_C.more (Q := fun r10 m10 => _) h (fun r10 m10 h => ?_)
        replace h := id h
        exact w_vret rfl rfl h
      · refine w_iconst rfl (by decide) ?_
        refine w_istore_n (lv' := [some (2, 428), some (0, (w_up m3 428 81 r3) 455 r3), some (0, 0)]) rfl rfl rfl ?_
        exact w_W.less h (w_sub [true, false, true] rfl)
theorem xr_m_tree_132 {d : Nat} {l2 : Int} {m : w_M} {Q : Int → w_M → Prop} (h : if l2 < 200 then (((0 : Int) ≤ l2 ∧ l2 < 200) ∧ (((0 : Int) ≤ l2 ∧ l2 < 200) ∧ (xp_m_tree_132 d (w_32 (l2 + 1)) (w_up (w_up m 470 l2 0) 469 l2 0) Q))) else (xc_m_meet d (m 428 83) 0 1 (w_up m 428 84 0) (fun r1 m1 => xc_m_good d (w_up m1 428 82 0) (fun r2 m2 => if r2 = 0 then (Q 0 m2) else (if (m2 428 66) < 0 then (Q 0 m2) else (xc_m_dictNumber d (m2 428 66) m2 (fun r3 m3 => if r3 = 0 then (xc_m_fail d 10 0 (w_up m3 428 82 r3) (fun r4 m4 => Q 0 m4)) else (Q 0 (w_up m3 428 82 r3))))))))) : xp_m_tree_132 d l2 m Q := by
  refine w_iload_n rfl rfl ?_
  refine w_sipush rfl (by decide) ?_
  refine w_icge rfl (w_ite h (fun h => ?_) (fun h => ?_))
  · refine w_aload_n rfl rfl ?_
    refine w_gfC (c := 470) rfl s_428 rfl rfl ?_
    refine w_iload_n rfl rfl ?_
    refine w_iconst rfl (by decide) ?_
    refine w_zast rfl s_470 (w_EM (by decide)) (n := 200) rfl h.1 (by decide) ?_
    replace h := h.2
    refine w_aload_n rfl rfl ?_
    refine w_gfC (c := 469) rfl s_428 rfl rfl ?_
    refine w_iload_n rfl rfl ?_
    refine w_iconst rfl (by decide) ?_
    refine w_iast rfl s_469 (w_EM (by decide)) (n := 200) rfl h.1 ?_
    replace h := h.2
    refine w_iinc (lv' := [some (2, 428), none, some (0, w_32 (l2 + 1))]) rfl rfl rfl rfl ?_
    refine w_goto rfl ?_
    exact w_W.less h (w_sub [true, false, true] rfl)
  · refine w_aload_n rfl rfl ?_
    refine w_iconst rfl (by decide) ?_
    refine w_pfI rfl s_428 rfl (w_EM (by decide)) rfl (kk := 84) rfl ?_
    refine w_aload_n rfl rfl ?_
    refine w_aload_n rfl rfl ?_
    refine x_gfI rfl s_428 rfl (kk := 83) rfl (w_up_nb (by decide)) ?_
    refine w_iconst rfl (by decide) ?_
    refine w_iconst rfl (by decide) ?_
    refine w_callV (t' := 3) [(0, 1), (0, 0), (0, m 428 83)] [] rfl s_428 rfl rfl ?_
    refine w_C.more (Q := fun r1 m1 => _) h (fun r1 m1 h => ?_)
    replace h := id h
    refine w_aload_n rfl rfl ?_
    refine w_iconst rfl (by decide) ?_
    refine w_pfI rfl s_428 rfl (w_EM (by decide)) rfl (kk := 82) rfl ?_
    refine w_aload_n rfl rfl ?_
    refine w_callV (t' := 0) [] [] rfl s_428 rfl rfl ?_
    refine w_C.more (Q := fun r2 m2 => _) h (fun r2 m2 h => ?_)
    replace h := id h
    refine w_ifeq rfl (w_ite h (fun h => ?_) (fun h => ?_))
    · exact w_vret rfl rfl h
    · refine w_aload_n rfl rfl ?_
      refine x_gfI rfl s_428 rfl (kk := 66) rfl rfl ?_
      refine w_iflt rfl (w_ite h (fun h => ?_) (fun h => ?_))
      · exact w_vret rfl rfl h
      · refine w_aload_n rfl rfl ?_
        refine w_aload_n rfl rfl ?_
        refine w_aload_n rfl rfl ?_
        refine x_gfI rfl s_428 rfl (kk := 66) rfl rfl ?_
        refine w_callV (t' := 0) [(0, m2 428 66)] [(2, 428)] rfl s_428 rfl rfl ?_
        refine w_C.more (Q := fun r3 m3 => _) h (fun r3 m3 h => ?_)
        replace h := id h
        refine w_pfI rfl s_428 rfl (w_EM (by decide)) rfl (kk := 82) rfl ?_
        refine w_aload_n rfl rfl ?_
        refine x_gfI rfl s_428 rfl (kk := 82) rfl (w_up_eq) ?_
        refine w_ifne rfl (w_ite h (fun h => ?_) (fun h => ?_))
        · refine w_aload_n rfl rfl ?_
          refine w_bipush rfl (by decide) ?_
          refine w_iconst rfl (by decide) ?_
          refine w_callV (t' := 3) [(0, 0), (0, 10)] [] rfl s_428 rfl rfl ?_
          refine w_C.more (Q := fun r4 m4 => _) h (fun r4 m4 h => ?_)
          replace h := id h
          exact w_vret rfl rfl h
        · exact w_vret rfl rfl h
theorem xr_m_turn {d : Nat} {l1 l2 : Int} {m : w_M} {Q : Int → w_M → Prop} (h : xc_m_isPage d l1 m (fun r1 m1 => if r1 = 0 then (Q 0 m1) else (if l2 < (-360) then (Q 0 m1) else (if 360 < l2 then (Q 0 m1) else (if (Int.tmod l2 90) = 0 then (((0 : Int) ≤ l1 ∧ l1 < 61) ∧ (((0 : Int) ≤ (m1 468 l1) ∧ (m1 468 l1) < 200) ∧ (xc_m_entryTo d (m1 455 (m1 468 l1)) 258 2 l2 0 m1 (fun r2 m2 => ((0 : Int) ≤ l1 ∧ l1 < 61) ∧ (xc_m_changed d (m2 468 l1) m2 (fun r3 m3 => Q 1 (w_up m3 428 88 (-1)))))))) else (Q 0 m1)))))) : xc_m_turn (d + 1) l1 l2 m Q := by
  refine w_enter (q := 0) (lv := [some (2, 428), some (0, l1), some (0, l2)]) rfl rfl rfl ?_
  refine w_aload_n rfl rfl ?_
  refine w_iload_n rfl rfl ?_
  refine w_callV (t' := 0) [(0, l1)] [] rfl s_428 rfl rfl ?_
  refine w_C.more (Q := fun r1 m1 => _) h (fun r1 m1 h => ?_)
  replace h := id h
  refine w_ifeq rfl (w_ite h (fun h => ?_) (fun h => ?_))
  · refine w_iconst rfl (by decide) ?_
    exact w_zret rfl rfl (by decide) h
  · refine w_iload_n rfl rfl ?_
    refine w_sipush rfl (by decide) ?_
    refine w_iclt rfl (w_ite h (fun h => ?_) (fun h => ?_))
    · refine w_iconst rfl (by decide) ?_
      exact w_zret rfl rfl (by decide) h
    · refine w_iload_n rfl rfl ?_
      refine w_sipush rfl (by decide) ?_
      refine w_icgt rfl (w_ite h (fun h => ?_) (fun h => ?_))
      · refine w_iconst rfl (by decide) ?_
        exact w_zret rfl rfl (by decide) h
      · refine w_iload_n rfl rfl ?_
        refine w_bipush rfl (by decide) ?_
        refine w_iremk rfl (by decide) ?_
        refine w_ifeq rfl (w_ite h (fun h => ?_) (fun h => ?_))
        · refine w_aload_n rfl rfl ?_
          refine w_aload_n rfl rfl ?_
          refine w_gfC (c := 455) rfl s_428 rfl rfl ?_
          refine w_aload_n rfl rfl ?_
          refine w_gfC (c := 468) rfl s_428 rfl rfl ?_
          refine w_iload_n rfl rfl ?_
          refine w_iald rfl s_468 (n := 61) rfl h.1 ?_
          replace h := h.2
          refine w_iald rfl s_455 (n := 200) rfl h.1 ?_
          replace h := h.2
          refine w_ldcwR rfl ?_
          refine w_iconst rfl (by decide) ?_
          refine w_iload_n rfl rfl ?_
          refine w_iconst rfl (by decide) ?_
          refine w_callV (t' := 0) [(0, 0), (0, l2), (0, 2), (2, 258), (0, m1 455 (m1 468 l1))] [] rfl s_428 rfl rfl ?_
          refine w_C.more (Q := fun r2 m2 => _) h (fun r2 m2 h => ?_)
          replace h := id h
          refine w_pop rfl (show (0 : Nat) ≠ 1 by decide) ?_
          refine w_aload_n rfl rfl ?_
          refine w_aload_n rfl rfl ?_
          refine w_gfC (c := 468) rfl s_428 rfl rfl ?_
          refine w_iload_n rfl rfl ?_
          refine w_iald rfl s_468 (n := 61) rfl h.1 ?_
          replace h := h.2
          refine w_callV (t' := 3) [(0, m2 468 l1)] [] rfl s_428 rfl rfl ?_
          refine w_C.more (Q := fun r3 m3 => _) h (fun r3 m3 h => ?_)
          replace h := id h
          refine w_aload_n rfl rfl ?_
          refine w_iconst rfl (by decide) ?_
          refine w_pfI rfl s_428 rfl (w_EM (by decide)) rfl (kk := 88) rfl ?_
          refine w_iconst rfl (by decide) ?_
          exact w_zret rfl rfl (by decide) h
        · refine w_iconst rfl (by decide) ?_
          exact w_zret rfl rfl (by decide) h
theorem xr_m_unhex {d : Nat} {m : w_M} {Q : Int → w_M → Prop} (h : xp_m_unhex_9 d (-1) 0 (w_up m 428 38 0) Q) : xc_m_unhex (d + 1) m Q := by
  refine w_enter (q := 4) (lv := [some (2, 428), none, none, none, none]) rfl rfl rfl ?_
  refine w_aload_n rfl rfl ?_
  refine w_iconst rfl (by decide) ?_
  refine w_pfI rfl s_428 rfl (w_EM (by decide)) rfl (kk := 38) rfl ?_
  refine w_iconst rfl (by decide) ?_
  refine w_istore_n (lv' := [some (2, 428), some (0, (-1)), none, none, none]) rfl rfl rfl ?_
  refine w_iconst rfl (by decide) ?_
  refine w_istore_n (lv' := [some (2, 428), some (0, (-1)), some (0, 0), none, none]) rfl rfl rfl ?_
  exact w_W.less h (w_sub [true, true, true, false, false] rfl)
theorem xr_m_unhex_9 {d : Nat} {l1 l2 : Int} {m : w_M} {Q : Int → w_M → Prop} (h : if l2 < (m 428 37) then (((0 : Int) ≤ l2 ∧ l2 < 8200) ∧ (if (m 442 l2) = 62 then (xp_m_unhex_114 d l1 l2 m Q) else (((0 : Int) ≤ l2 ∧ l2 < 8200) ∧ (xc_m_hexOf d ((m 442 l2) % 256) m (fun r1 m1 => if r1 < 0 then (xc_m_isBlank d ((m 442 l2) % 256) m1 (fun r2 m2 => if r2 = 0 then (Q 0 m2) else (xp_m_unhex_59 d l1 l2 r1 m2 Q))) else (xp_m_unhex_59 d l1 l2 r1 m1 Q)))))) else (xp_m_unhex_114 d l1 l2 m Q)) : xp_m_unhex_9 d l1 l2 m Q := by
  refine w_iload_n rfl rfl ?_
  refine w_aload_n rfl rfl ?_
  refine x_gfI rfl s_428 rfl (kk := 37) rfl rfl ?_
  refine w_icge rfl (w_ite h (fun h => ?_) (fun h => ?_))
  · refine w_aload_n rfl rfl ?_
    refine w_gfC (c := 442) rfl s_428 rfl rfl ?_
    refine w_iload_n rfl rfl ?_
    refine w_bald rfl s_442 (n := 8200) rfl h.1 ?_
    replace h := h.2
    refine w_bipush rfl (by decide) ?_
    refine w_iceq rfl (w_ite h (fun h => ?_) (fun h => ?_))
    · exact w_W.less h (w_sub [true, true, true, false, false] rfl)
    · refine w_aload_n rfl rfl ?_
      refine w_gfC (c := 442) rfl s_428 rfl rfl ?_
      refine w_iload_n rfl rfl ?_
      refine w_bald rfl s_442 (n := 8200) rfl h.1 ?_
      replace h := h.2
      refine w_sipush rfl (by decide) ?_
      refine w_iandm 8 (c := 256) rfl (by decide) rfl rfl ?_
      refine w_istore_n (lv' := [some (2, 428), some (0, l1), some (0, l2), some (0, (m 442 l2) % 256), none]) rfl rfl rfl ?_
      refine w_iload_n rfl rfl ?_
      refine w_callS (t' := 0) [(0, (m 442 l2) % 256)] [] rfl (by decide) rfl rfl ?_
      refine w_C.more (Q := fun r1 m1 => _) h (fun r1 m1 h => ?_)
      replace h := id h
      refine w_istore (lv' := [some (2, 428), some (0, l1), some (0, l2), some (0, (m 442 l2) % 256), some (0, r1)]) rfl rfl rfl ?_
      refine w_iload rfl rfl ?_
      refine w_ifge rfl (w_ite h (fun h => ?_) (fun h => ?_))
      · refine w_iload_n rfl rfl ?_
        refine w_callS (t' := 0) [(0, (m 442 l2) % 256)] [] rfl (by decide) rfl rfl ?_
        refine w_C.more (Q := fun r2 m2 => _) h (fun r2 m2 h => ?_)
        replace h := id h
        refine w_ifne rfl (w_ite h (fun h => ?_) (fun h => ?_))
        · refine w_iconst rfl (by decide) ?_
          exact w_zret rfl rfl (by decide) h
        · exact w_W.less h (w_sub [true, true, true, false, true] rfl)
      · exact w_W.less h (w_sub [true, true, true, false, true] rfl)
  · exact w_W.less h (w_sub [true, true, true, false, false] rfl)
theorem xr_m_unhex_59 {d : Nat} {l1 l2 l4 : Int} {m : w_M} {Q : Int → w_M → Prop} (h : if l4 < 0 then (if l4 < 0 then (xp_m_unhex_9 d l1 (w_32 (l2 + 1)) m Q) else (xp_m_unhex_9 d l4 (w_32 (l2 + 1)) m Q)) else (if l1 < 0 then (if l4 < 0 then (xp_m_unhex_9 d l1 (w_32 (l2 + 1)) m Q) else (xp_m_unhex_9 d l4 (w_32 (l2 + 1)) m Q)) else (((0 : Int) ≤ (m 428 38) ∧ (m 428 38) < 8200) ∧ (xp_m_unhex_9 d (-1) (w_32 (l2 + 1)) (w_up (w_up m 443 (m 428 38) (w_8 (w_8 (w_32 ((w_32 (16 * l1)) + l4))))) 428 38 (w_32 ((m 428 38) + 1))) Q)))) : xp_m_unhex_59 d l1 l2 l4 m Q := by
  refine w_iload rfl rfl ?_
  refine w_iflt rfl (w_ite h (fun h => ?_) (fun h => ?_))
  · refine w_iload rfl rfl ?_
    refine w_iflt rfl (w_ite h (fun h => ?_) (fun h => ?_))
    · refine w_iinc (lv' := [some (2, 428), some (0, l1), some (0, w_32 (l2 + 1)), none, some (0, l4)]) rfl rfl rfl rfl ?_
      refine w_goto rfl ?_
      exact w_W.less h (w_sub [true, true, true, false, false] rfl)
    · refine w_iload rfl rfl ?_
      refine w_istore_n (lv' := [some (2, 428), some (0, l4), some (0, l2), none, some (0, l4)]) rfl rfl rfl ?_
      refine w_iinc (lv' := [some (2, 428), some (0, l4), some (0, w_32 (l2 + 1)), none, some (0, l4)]) rfl rfl rfl rfl ?_
      refine w_goto rfl ?_
      exact w_W.less h (w_sub [true, true, true, false, false] rfl)
  · refine w_iload_n rfl rfl ?_
    refine w_iflt rfl (w_ite h (fun h => ?_) (fun h => ?_))
    · refine w_iload rfl rfl ?_
      refine w_iflt rfl (w_ite h (fun h => ?_) (fun h => ?_))
      · refine w_iinc (lv' := [some (2, 428), some (0, l1), some (0, w_32 (l2 + 1)), none, some (0, l4)]) rfl rfl rfl rfl ?_
        refine w_goto rfl ?_
        exact w_W.less h (w_sub [true, true, true, false, false] rfl)
      · refine w_iload rfl rfl ?_
        refine w_istore_n (lv' := [some (2, 428), some (0, l4), some (0, l2), none, some (0, l4)]) rfl rfl rfl ?_
        refine w_iinc (lv' := [some (2, 428), some (0, l4), some (0, w_32 (l2 + 1)), none, some (0, l4)]) rfl rfl rfl rfl ?_
        refine w_goto rfl ?_
        exact w_W.less h (w_sub [true, true, true, false, false] rfl)
    · refine w_aload_n rfl rfl ?_
      refine w_gfC (c := 443) rfl s_428 rfl rfl ?_
      refine w_aload_n rfl rfl ?_
      refine x_gfI rfl s_428 rfl (kk := 38) rfl rfl ?_
      refine w_bipush rfl (by decide) ?_
      refine w_iload_n rfl rfl ?_
      refine w_imul rfl ?_
      refine w_iload rfl rfl ?_
      refine w_iadd rfl ?_
      refine w_i2b rfl ?_
      refine w_bast rfl s_443 (w_EM (by decide)) (n := 8200) rfl h.1 ?_
      replace h := h.2
      refine w_aload_n rfl rfl ?_
      refine w_dup rfl (show (2 : Nat) ≠ 1 by decide) ?_
      refine x_gfI rfl s_428 rfl (kk := 38) rfl (w_up_ne (by decide)) ?_
      refine w_iconst rfl (by decide) ?_
      refine w_iadd rfl ?_
      refine w_pfI rfl s_428 rfl (w_EM (by decide)) rfl (kk := 38) rfl ?_
      refine w_iconst rfl (by decide) ?_
      refine w_istore_n (lv' := [some (2, 428), some (0, (-1)), some (0, l2), none, some (0, l4)]) rfl rfl rfl ?_
      refine w_goto rfl ?_
      refine w_iinc (lv' := [some (2, 428), some (0, (-1)), some (0, w_32 (l2 + 1)), none, some (0, l4)]) rfl rfl rfl rfl ?_
      refine w_goto rfl ?_
      exact w_W.less h (w_sub [true, true, true, false, false] rfl)
theorem xr_m_unhex_114 {d : Nat} {l1 l2 : Int} {m : w_M} {Q : Int → w_M → Prop} (h : if l2 = (m 428 37) then (Q 0 m) else (if l1 < 0 then (xp_m_unhex_159 d 1 (w_32 (l2 + 1)) m Q) else (((0 : Int) ≤ (m 428 38) ∧ (m 428 38) < 8200) ∧ (xp_m_unhex_159 d 1 (w_32 (l2 + 1)) (w_up (w_up m 443 (m 428 38) (w_8 (w_8 (w_32 (16 * l1))))) 428 38 (w_32 ((m 428 38) + 1))) Q)))) : xp_m_unhex_114 d l1 l2 m Q := by
  refine w_iload_n rfl rfl ?_
  refine w_aload_n rfl rfl ?_
  refine x_gfI rfl s_428 rfl (kk := 37) rfl rfl ?_
  refine w_icne rfl (w_ite h (fun h => ?_) (fun h => ?_))
  · refine w_iconst rfl (by decide) ?_
    exact w_zret rfl rfl (by decide) h
  · refine w_iload_n rfl rfl ?_
    refine w_iflt rfl (w_ite h (fun h => ?_) (fun h => ?_))
    · refine w_iconst rfl (by decide) ?_
      refine w_istore_n (lv' := [some (2, 428), some (0, l1), some (0, l2), some (0, 1), none]) rfl rfl rfl ?_
      refine w_iload_n rfl rfl ?_
      refine w_iconst rfl (by decide) ?_
      refine w_iadd rfl ?_
      refine w_istore (lv' := [some (2, 428), some (0, l1), some (0, l2), some (0, 1), some (0, w_32 (l2 + 1))]) rfl rfl rfl ?_
      exact w_W.less h (w_sub [true, false, false, true, true] rfl)
    · refine w_aload_n rfl rfl ?_
      refine w_gfC (c := 443) rfl s_428 rfl rfl ?_
      refine w_aload_n rfl rfl ?_
      refine x_gfI rfl s_428 rfl (kk := 38) rfl rfl ?_
      refine w_bipush rfl (by decide) ?_
      refine w_iload_n rfl rfl ?_
      refine w_imul rfl ?_
      refine w_i2b rfl ?_
      refine w_bast rfl s_443 (w_EM (by decide)) (n := 8200) rfl h.1 ?_
      replace h := h.2
      refine w_aload_n rfl rfl ?_
      refine w_dup rfl (show (2 : Nat) ≠ 1 by decide) ?_
      refine x_gfI rfl s_428 rfl (kk := 38) rfl (w_up_ne (by decide)) ?_
      refine w_iconst rfl (by decide) ?_
      refine w_iadd rfl ?_
      refine w_pfI rfl s_428 rfl (w_EM (by decide)) rfl (kk := 38) rfl ?_
      refine w_iconst rfl (by decide) ?_
      refine w_istore_n (lv' := [some (2, 428), some (0, l1), some (0, l2), some (0, 1), none]) rfl rfl rfl ?_
      refine w_iload_n rfl rfl ?_
      refine w_iconst rfl (by decide) ?_
      refine w_iadd rfl ?_
      refine w_istore (lv' := [some (2, 428), some (0, l1), some (0, l2), some (0, 1), some (0, w_32 (l2 + 1))]) rfl rfl rfl ?_
      exact w_W.less h (w_sub [true, false, false, true, true] rfl)
theorem xr_m_unhex_159 {d : Nat} {l3 l4 : Int} {m : w_M} {Q : Int → w_M → Prop} (h : if l4 < (m 428 37) then (if l3 = 0 then (xp_m_unhex_159 d 0 (w_32 (l4 + 1)) m Q) else (((0 : Int) ≤ l4 ∧ l4 < 8200) ∧ (xc_m_isBlank d ((m 442 l4) % 256) m (fun r1 m1 => if r1 = 0 then (xp_m_unhex_159 d 0 (w_32 (l4 + 1)) m1 Q) else (xp_m_unhex_159 d 1 (w_32 (l4 + 1)) m1 Q))))) else ((l3 = 0 ∨ l3 = 1) ∧ Q l3 m)) : xp_m_unhex_159 d l3 l4 m Q := by
  refine w_iload rfl rfl ?_
  refine w_aload_n rfl rfl ?_
  refine x_gfI rfl s_428 rfl (kk := 37) rfl rfl ?_
  refine w_icge rfl (w_ite h (fun h => ?_) (fun h => ?_))
  · refine w_iload_n rfl rfl ?_
    refine w_ifeq rfl (w_ite h (fun h => ?_) (fun h => ?_))
    · refine w_iconst rfl (by decide) ?_
      refine w_istore_n (lv' := [some (2, 428), none, none, some (0, 0), some (0, l4)]) rfl rfl rfl ?_
      refine w_iinc (lv' := [some (2, 428), none, none, some (0, 0), some (0, w_32 (l4 + 1))]) rfl rfl rfl rfl ?_
      refine w_goto rfl ?_
      exact w_W.less h (w_sub [true, false, false, true, true] rfl)
    · refine w_aload_n rfl rfl ?_
      refine w_gfC (c := 442) rfl s_428 rfl rfl ?_
      refine w_iload rfl rfl ?_
      refine w_bald rfl s_442 (n := 8200) rfl h.1 ?_
      replace h := h.2
      refine w_sipush rfl (by decide) ?_
      refine w_iandm 8 (c := 256) rfl (by decide) rfl rfl ?_
      refine w_callS (t' := 0) [(0, (m 442 l4) % 256)] [] rfl (by decide) rfl rfl ?_
      refine w_C.more (Q := fun r1 m1 => _) h (fun r1 m1 h => ?_)
      replace h := id h
      refine w_ifeq rfl (w_ite h (fun h => ?_) (fun h => ?_))
      · refine w_iconst rfl (by decide) ?_
        refine w_istore_n (lv' := [some (2, 428), none, none, some (0, 0), some (0, l4)]) rfl rfl rfl ?_
        refine w_iinc (lv' := [some (2, 428), none, none, some (0, 0), some (0, w_32 (l4 + 1))]) rfl rfl rfl rfl ?_
        refine w_goto rfl ?_
        exact w_W.less h (w_sub [true, false, false, true, true] rfl)
      · refine w_iconst rfl (by decide) ?_
        refine w_goto rfl ?_
        refine w_istore_n (lv' := [some (2, 428), none, none, some (0, 1), some (0, l4)]) rfl rfl rfl ?_
        refine w_iinc (lv' := [some (2, 428), none, none, some (0, 1), some (0, w_32 (l4 + 1))]) rfl rfl rfl rfl ?_
        refine w_goto rfl ?_
        exact w_W.less h (w_sub [true, false, false, true, true] rfl)
  · refine w_iload_n rfl rfl ?_
    exact w_zret rfl rfl h.1 h.2
theorem xr_m_unitsOf {d : Nat} {l1 : Int} {m : w_M} {Q : Int → w_M → Prop} (h : ((0 : Int) ≤ l1 ∧ l1 < 40000) ∧ (if (m 432 l1) = 3 then (((0 : Int) ≤ l1 ∧ l1 < 40000) ∧ (Q (m 433 l1) m)) else (((0 : Int) ≤ l1 ∧ l1 < 40000) ∧ (Q (w_32 (65536 * (m 433 l1))) m)))) : xc_m_unitsOf (d + 1) l1 m Q := by
  refine w_enter (q := 0) (lv := [some (2, 428), some (0, l1)]) rfl rfl rfl ?_
  refine w_aload_n rfl rfl ?_
  refine w_gfC (c := 432) rfl s_428 rfl rfl ?_
  refine w_iload_n rfl rfl ?_
  refine w_bald rfl s_432 (n := 40000) rfl h.1 ?_
  replace h := h.2
  refine w_iconst rfl (by decide) ?_
  refine w_icne rfl (w_ite h (fun h => ?_) (fun h => ?_))
  · refine w_aload_n rfl rfl ?_
    refine w_gfC (c := 433) rfl s_428 rfl rfl ?_
    refine w_iload_n rfl rfl ?_
    refine w_iald rfl s_433 (n := 40000) rfl h.1 ?_
    replace h := h.2
    refine w_goto rfl ?_
    exact w_iret rfl rfl h
  · refine w_ldcw (a := 65536) rfl (by decide +kernel) (by decide) ?_
    refine w_aload_n rfl rfl ?_
    refine w_gfC (c := 433) rfl s_428 rfl rfl ?_
    refine w_iload_n rfl rfl ?_
    refine w_iald rfl s_433 (n := 40000) rfl h.1 ?_
    replace h := h.2
    refine w_imul rfl ?_
    exact w_iret rfl rfl h
theorem xr_m_unpredict {d : Nat} {l1 : Int} {m : w_M} {Q : Int → w_M → Prop} (h : (w_32 (l1 + 1)) ≠ 0 ∧ (if (w_rem (m 428 37) (w_32 (l1 + 1))) = 0 then (xp_m_unpredict_20 d l1 0 (w_up m 428 38 0) Q) else (Q 0 m))) : xc_m_unpredict (d + 1) l1 m Q := by
  refine w_enter (q := 7) (lv := [some (2, 428), some (0, l1), none, none, none, none, none, none, none]) rfl rfl rfl ?_
  refine w_aload_n rfl rfl ?_
  refine x_gfI rfl s_428 rfl (kk := 37) rfl rfl ?_
  refine w_iload_n rfl rfl ?_
  refine w_iconst rfl (by decide) ?_
  refine w_iadd rfl ?_
  refine w_irem rfl h.1 ?_
  replace h := h.2
  refine w_ifeq rfl (w_ite h (fun h => ?_) (fun h => ?_))
  · refine w_aload_n rfl rfl ?_
    refine w_iconst rfl (by decide) ?_
    refine w_pfI rfl s_428 rfl (w_EM (by decide)) rfl (kk := 38) rfl ?_
    refine w_iconst rfl (by decide) ?_
    refine w_istore_n (lv' := [some (2, 428), some (0, l1), some (0, 0), none, none, none, none, none, none]) rfl rfl rfl ?_
    exact w_W.less h (w_sub [true, true, true, false, false, false, false, false, false] rfl)
  · refine w_iconst rfl (by decide) ?_
    exact w_zret rfl rfl (by decide) h
theorem xr_m_unpredict_20 {d : Nat} {l1 l2 : Int} {m : w_M} {Q : Int → w_M → Prop} (h : (w_32 (l1 + 1)) ≠ 0 ∧ (if l2 < (w_div (m 428 37) (w_32 (l1 + 1))) then (((0 : Int) ≤ (w_32 (l2 * (w_32 (l1 + 1)))) ∧ (w_32 (l2 * (w_32 (l1 + 1)))) < 8200) ∧ (if (m 442 (w_32 (l2 * (w_32 (l1 + 1))))) < 0 then (Q 0 m) else (if 4 < (m 442 (w_32 (l2 * (w_32 (l1 + 1))))) then (Q 0 m) else (xp_m_unpredict_57 d l1 l2 (m 442 (w_32 (l2 * (w_32 (l1 + 1))))) 0 m Q)))) else (Q 1 m))) : xp_m_unpredict_20 d l1 l2 m Q := by
  refine w_iload_n rfl rfl ?_
  refine w_aload_n rfl rfl ?_
  refine x_gfI rfl s_428 rfl (kk := 37) rfl rfl ?_
  refine w_iload_n rfl rfl ?_
  refine w_iconst rfl (by decide) ?_
  refine w_iadd rfl ?_
  refine w_idiv rfl h.1 ?_
  replace h := h.2
  refine w_icge rfl (w_ite h (fun h => ?_) (fun h => ?_))
  · refine w_aload_n rfl rfl ?_
    refine w_gfC (c := 442) rfl s_428 rfl rfl ?_
    refine w_iload_n rfl rfl ?_
    refine w_iload_n rfl rfl ?_
    refine w_iconst rfl (by decide) ?_
    refine w_iadd rfl ?_
    refine w_imul rfl ?_
    refine w_bald rfl s_442 (n := 8200) rfl h.1 ?_
    replace h := h.2
    refine w_istore_n (lv' := [some (2, 428), some (0, l1), some (0, l2), some (0, m 442 (w_32 (l2 * (w_32 (l1 + 1))))), none, none, none, none, none]) rfl rfl rfl ?_
    refine w_iload_n rfl rfl ?_
    refine w_iflt rfl (w_ite h (fun h => ?_) (fun h => ?_))
    · refine w_iconst rfl (by decide) ?_
      exact w_zret rfl rfl (by decide) h
    · refine w_iload_n rfl rfl ?_
      refine w_iconst rfl (by decide) ?_
      refine w_icle rfl (w_ite h (fun h => ?_) (fun h => ?_))
      · refine w_iconst rfl (by decide) ?_
        exact w_zret rfl rfl (by decide) h
      · refine w_iconst rfl (by decide) ?_
        refine w_istore (lv' := [some (2, 428), some (0, l1), some (0, l2), some (0, m 442 (w_32 (l2 * (w_32 (l1 + 1))))), some (0, 0), none, none, none, none]) rfl rfl rfl ?_
        exact w_W.less h (w_sub [true, true, true, true, true, false, false, false, false] rfl)
  · refine w_iconst rfl (by decide) ?_
    exact w_zret rfl rfl (by decide) h
theorem xr_m_unpredict_57 {d : Nat} {l1 l2 l3 l4 : Int} {m : w_M} {Q : Int → w_M → Prop} (h : if l4 < l1 then (if 0 < l4 then (((0 : Int) ≤ (w_32 ((m 428 38) - 1)) ∧ (w_32 ((m 428 38) - 1)) < 8200) ∧ (xp_m_unpredict_87 d l1 l2 l3 l4 ((m 443 (w_32 ((m 428 38) - 1))) % 256) m Q)) else (xp_m_unpredict_87 d l1 l2 l3 l4 0 m Q)) else (xp_m_unpredict_20 d l1 (w_32 (l2 + 1)) m Q)) : xp_m_unpredict_57 d l1 l2 l3 l4 m Q := by
  refine w_iload rfl rfl ?_
  refine w_iload_n rfl rfl ?_
  refine w_icge rfl (w_ite h (fun h => ?_) (fun h => ?_))
  · refine w_iload rfl rfl ?_
    refine w_ifle rfl (w_ite h (fun h => ?_) (fun h => ?_))
    · refine w_aload_n rfl rfl ?_
      refine w_gfC (c := 443) rfl s_428 rfl rfl ?_
      refine w_aload_n rfl rfl ?_
      refine x_gfI rfl s_428 rfl (kk := 38) rfl rfl ?_
      refine w_iconst rfl (by decide) ?_
      refine w_isub rfl ?_
      refine w_bald rfl s_443 (n := 8200) rfl h.1 ?_
      replace h := h.2
      refine w_sipush rfl (by decide) ?_
      refine w_iandm 8 (c := 256) rfl (by decide) rfl rfl ?_
      refine w_goto rfl ?_
      exact w_W.less h (w_sub [true, true, true, true, true, false, false, false, false] rfl)
    · refine w_iconst rfl (by decide) ?_
      exact w_W.less h (w_sub [true, true, true, true, true, false, false, false, false] rfl)
  · refine w_iinc (lv' := [some (2, 428), some (0, l1), some (0, w_32 (l2 + 1)), some (0, l3), some (0, l4), none, none, none, none]) rfl rfl rfl rfl ?_
    refine w_goto rfl ?_
    exact w_W.less h (w_sub [true, true, true, false, false, false, false, false, false] rfl)
theorem xr_m_unpredict_87 {d : Nat} {l1 l2 l3 l4 s0 : Int} {m : w_M} {Q : Int → w_M → Prop} (h : if 0 < l2 then (((0 : Int) ≤ (w_32 ((m 428 38) - l1)) ∧ (w_32 ((m 428 38) - l1)) < 8200) ∧ (if 0 < l4 then (if 0 < l2 then (((0 : Int) ≤ (w_32 ((w_32 ((m 428 38) - l1)) - 1)) ∧ (w_32 ((w_32 ((m 428 38) - l1)) - 1)) < 8200) ∧ (xp_m_unpredict_144 d l1 l2 l3 l4 s0 ((m 443 (w_32 ((m 428 38) - l1))) % 256) ((m 443 (w_32 ((w_32 ((m 428 38) - l1)) - 1))) % 256) m Q)) else (xp_m_unpredict_144 d l1 l2 l3 l4 s0 ((m 443 (w_32 ((m 428 38) - l1))) % 256) 0 m Q)) else (xp_m_unpredict_144 d l1 l2 l3 l4 s0 ((m 443 (w_32 ((m 428 38) - l1))) % 256) 0 m Q))) else (if 0 < l4 then (if 0 < l2 then (((0 : Int) ≤ (w_32 ((w_32 ((m 428 38) - l1)) - 1)) ∧ (w_32 ((w_32 ((m 428 38) - l1)) - 1)) < 8200) ∧ (xp_m_unpredict_144 d l1 l2 l3 l4 s0 0 ((m 443 (w_32 ((w_32 ((m 428 38) - l1)) - 1))) % 256) m Q)) else (xp_m_unpredict_144 d l1 l2 l3 l4 s0 0 0 m Q)) else (xp_m_unpredict_144 d l1 l2 l3 l4 s0 0 0 m Q))) : xp_m_unpredict_87 d l1 l2 l3 l4 s0 m Q := by
  refine w_istore (lv' := [some (2, 428), some (0, l1), some (0, l2), some (0, l3), some (0, l4), some (0, s0), none, none, none]) rfl rfl rfl ?_
  refine w_iload_n rfl rfl ?_
  refine w_ifle rfl (w_ite h (fun h => ?_) (fun h => ?_))
  · refine w_aload_n rfl rfl ?_
    refine w_gfC (c := 443) rfl s_428 rfl rfl ?_
    refine w_aload_n rfl rfl ?_
    refine x_gfI rfl s_428 rfl (kk := 38) rfl rfl ?_
    refine w_iload_n rfl rfl ?_
    refine w_isub rfl ?_
    refine w_bald rfl s_443 (n := 8200) rfl h.1 ?_
    replace h := h.2
    refine w_sipush rfl (by decide) ?_
    refine w_iandm 8 (c := 256) rfl (by decide) rfl rfl ?_
    refine w_goto rfl ?_
    refine w_istore (lv' := [some (2, 428), some (0, l1), some (0, l2), some (0, l3), some (0, l4), some (0, s0), some (0, (m 443 (w_32 ((m 428 38) - l1))) % 256), none, none]) rfl rfl rfl ?_
    refine w_iload rfl rfl ?_
    refine w_ifle rfl (w_ite h (fun h => ?_) (fun h => ?_))
    · refine w_iload_n rfl rfl ?_
      refine w_ifle rfl (w_ite h (fun h => ?_) (fun h => ?_))
      · refine w_aload_n rfl rfl ?_
        refine w_gfC (c := 443) rfl s_428 rfl rfl ?_
        refine w_aload_n rfl rfl ?_
        refine x_gfI rfl s_428 rfl (kk := 38) rfl rfl ?_
        refine w_iload_n rfl rfl ?_
        refine w_isub rfl ?_
        refine w_iconst rfl (by decide) ?_
        refine w_isub rfl ?_
        refine w_bald rfl s_443 (n := 8200) rfl h.1 ?_
        replace h := h.2
        refine w_sipush rfl (by decide) ?_
        refine w_iandm 8 (c := 256) rfl (by decide) rfl rfl ?_
        refine w_goto rfl ?_
        exact w_W.less h (w_sub [true, true, true, true, true, true, true, false, false] rfl)
      · refine w_iconst rfl (by decide) ?_
        exact w_W.less h (w_sub [true, true, true, true, true, true, true, false, false] rfl)
    · refine w_iconst rfl (by decide) ?_
      exact w_W.less h (w_sub [true, true, true, true, true, true, true, false, false] rfl)
  · refine w_iconst rfl (by decide) ?_
    refine w_istore (lv' := [some (2, 428), some (0, l1), some (0, l2), some (0, l3), some (0, l4), some (0, s0), some (0, 0), none, none]) rfl rfl rfl ?_
    refine w_iload rfl rfl ?_
    refine w_ifle rfl (w_ite h (fun h => ?_) (fun h => ?_))
    · refine w_iload_n rfl rfl ?_
      refine w_ifle rfl (w_ite h (fun h => ?_) (fun h => ?_))
      · refine w_aload_n rfl rfl ?_
        refine w_gfC (c := 443) rfl s_428 rfl rfl ?_
        refine w_aload_n rfl rfl ?_
        refine x_gfI rfl s_428 rfl (kk := 38) rfl rfl ?_
        refine w_iload_n rfl rfl ?_
        refine w_isub rfl ?_
        refine w_iconst rfl (by decide) ?_
        refine w_isub rfl ?_
        refine w_bald rfl s_443 (n := 8200) rfl h.1 ?_
        replace h := h.2
        refine w_sipush rfl (by decide) ?_
        refine w_iandm 8 (c := 256) rfl (by decide) rfl rfl ?_
        refine w_goto rfl ?_
        exact w_W.less h (w_sub [true, true, true, true, true, true, true, false, false] rfl)
      · refine w_iconst rfl (by decide) ?_
        exact w_W.less h (w_sub [true, true, true, true, true, true, true, false, false] rfl)
    · refine w_iconst rfl (by decide) ?_
      exact w_W.less h (w_sub [true, true, true, true, true, true, true, false, false] rfl)
theorem xr_m_unpredict_144 {d : Nat} {l1 l2 l3 l4 l5 l6 s0 : Int} {m : w_M} {Q : Int → w_M → Prop} (h : if l3 = 0 then (xp_m_unpredict_198 d l1 l2 l3 l4 0 m Q) else (if l3 = 1 then (xp_m_unpredict_198 d l1 l2 l3 l4 l5 m Q) else (if l3 = 2 then (xp_m_unpredict_198 d l1 l2 l3 l4 l6 m Q) else (if l3 = 3 then (xp_m_unpredict_198 d l1 l2 l3 l4 (Int.tdiv (w_32 (l5 + l6)) 2) m Q) else (xc_m_paeth d l5 l6 s0 m (fun r1 m1 => xp_m_unpredict_198 d l1 l2 l3 l4 r1 m1 Q)))))) : xp_m_unpredict_144 d l1 l2 l3 l4 l5 l6 s0 m Q := by
  refine w_istore (lv' := [some (2, 428), some (0, l1), some (0, l2), some (0, l3), some (0, l4), some (0, l5), some (0, l6), some (0, s0), none]) rfl rfl rfl ?_
  refine w_iload_n rfl rfl ?_
  refine w_ifne rfl (w_ite h (fun h => ?_) (fun h => ?_))
  · refine w_iconst rfl (by decide) ?_
    refine w_goto rfl ?_
    exact w_W.less h (w_sub [true, true, true, true, true, false, false, false, false] rfl)
  · refine w_iload_n rfl rfl ?_
    refine w_iconst rfl (by decide) ?_
    refine w_icne rfl (w_ite h (fun h => ?_) (fun h => ?_))
    · refine w_iload rfl rfl ?_
      refine w_goto rfl ?_
      exact w_W.less h (w_sub [true, true, true, true, true, false, false, false, false] rfl)
    · refine w_iload_n rfl rfl ?_
      refine w_iconst rfl (by decide) ?_
      refine w_icne rfl (w_ite h (fun h => ?_) (fun h => ?_))
      · refine w_iload rfl rfl ?_
        refine w_goto rfl ?_
        exact w_W.less h (w_sub [true, true, true, true, true, false, false, false, false] rfl)
      · refine w_iload_n rfl rfl ?_
        refine w_iconst rfl (by decide) ?_
        refine w_icne rfl (w_ite h (fun h => ?_) (fun h => ?_))
        · refine w_iload rfl rfl ?_
          refine w_iload rfl rfl ?_
          refine w_iadd rfl ?_
          refine w_iconst rfl (by decide) ?_
          refine w_idivk rfl (by decide) ?_
          refine w_goto rfl ?_
          exact w_W.less h (w_sub [true, true, true, true, true, false, false, false, false] rfl)
        · refine w_iload rfl rfl ?_
          refine w_iload rfl rfl ?_
          refine w_iload rfl rfl ?_
          refine w_callS (t' := 0) [(0, s0), (0, l6), (0, l5)] [] rfl (by decide) rfl rfl ?_
          refine w_C.more (Q := fun r1 m1 => _) h (fun r1 m1 h => ?_)
          replace h := id h
          exact w_W.less h (w_sub [true, true, true, true, true, false, false, false, false] rfl)
theorem xr_m_unpredict_198 {d : Nat} {l1 l2 l3 l4 s0 : Int} {m : w_M} {Q : Int → w_M → Prop} (h : ((0 : Int) ≤ (w_32 ((w_32 ((w_32 (l2 * (w_32 (l1 + 1)))) + 1)) + l4)) ∧ (w_32 ((w_32 ((w_32 (l2 * (w_32 (l1 + 1)))) + 1)) + l4)) < 8200) ∧ (((0 : Int) ≤ (m 428 38) ∧ (m 428 38) < 8200) ∧ (xp_m_unpredict_57 d l1 l2 l3 (w_32 (l4 + 1)) (w_up (w_up m 443 (m 428 38) (w_8 (w_8 (w_32 ((m 442 (w_32 ((w_32 ((w_32 (l2 * (w_32 (l1 + 1)))) + 1)) + l4))) + s0))))) 428 38 (w_32 ((m 428 38) + 1))) Q))) : xp_m_unpredict_198 d l1 l2 l3 l4 s0 m Q := by
  refine w_istore (lv' := [some (2, 428), some (0, l1), some (0, l2), some (0, l3), some (0, l4), none, none, none, some (0, s0)]) rfl rfl rfl ?_
  refine w_aload_n rfl rfl ?_
  refine w_gfC (c := 443) rfl s_428 rfl rfl ?_
  refine w_aload_n rfl rfl ?_
  refine x_gfI rfl s_428 rfl (kk := 38) rfl rfl ?_
  refine w_aload_n rfl rfl ?_
  refine w_gfC (c := 442) rfl s_428 rfl rfl ?_
  refine w_iload_n rfl rfl ?_
  refine w_iload_n rfl rfl ?_
  refine w_iconst rfl (by decide) ?_
  refine w_iadd rfl ?_
  refine w_imul rfl ?_
  refine w_iconst rfl (by decide) ?_
  refine w_iadd rfl ?_
  refine w_iload rfl rfl ?_
  refine w_iadd rfl ?_
  refine w_bald rfl s_442 (n := 8200) rfl h.1 ?_
  replace h := h.2
  refine w_iload rfl rfl ?_
  refine w_iadd rfl ?_
  refine w_i2b rfl ?_
  refine w_bast rfl s_443 (w_EM (by decide)) (n := 8200) rfl h.1 ?_
  replace h := h.2
  refine w_aload_n rfl rfl ?_
  refine w_dup rfl (show (2 : Nat) ≠ 1 by decide) ?_
  refine x_gfI rfl s_428 rfl (kk := 38) rfl (w_up_ne (by decide)) ?_
  refine w_iconst rfl (by decide) ?_
  refine w_iadd rfl ?_
  refine w_pfI rfl s_428 rfl (w_EM (by decide)) rfl (kk := 38) rfl ?_
  refine w_iinc (lv' := [some (2, 428), some (0, l1), some (0, l2), some (0, l3), some (0, w_32 (l4 + 1)), none, none, none, some (0, s0)]) rfl rfl rfl rfl ?_
  refine w_goto rfl ?_
  exact w_W.less h (w_sub [true, true, true, true, true, false, false, false, false] rfl)
theorem xr_m_unsigned {d : Nat} {l1 l2 : Int} {m : w_M} {Q : Int → w_M → Prop} (h : xp_m_unsigned_5 d l1 l2 0 l1 m Q) : xc_m_unsigned (d + 1) l1 l2 m Q := by
  refine w_enter (q := 3) (lv := [some (2, 428), some (0, l1), some (0, l2), none, none, none]) rfl rfl rfl ?_
  refine w_lconst rfl rfl ?_
  refine w_lstore_n (lv' := [some (2, 428), some (0, l1), some (0, l2), some (1, 0), none, none]) rfl rfl rfl ?_
  refine w_iload_n rfl rfl ?_
  refine w_istore (lv' := [some (2, 428), some (0, l1), some (0, l2), some (1, 0), none, some (0, l1)]) rfl rfl rfl ?_
  exact w_W.less h (w_sub [true, true, true, true, false, true] rfl)
theorem xr_m_unsigned_5 {d : Nat} {l1 l2 l3 l5 : Int} {m : w_M} {Q : Int → w_M → Prop} (h : if l5 < (w_32 (l1 + l2)) then (((0 : Int) ≤ (w_32 ((m 428 34) + l5)) ∧ (w_32 ((m 428 34) + l5)) < 57000) ∧ (xp_m_unsigned_5 d l1 l2 (w_lor (w_lshl l3 8) (w_land (m 441 (w_32 ((m 428 34) + l5))) 255)) (w_32 (l5 + 1)) m Q)) else (Q l3 m)) : xp_m_unsigned_5 d l1 l2 l3 l5 m Q := by
  refine w_iload rfl rfl ?_
  refine w_iload_n rfl rfl ?_
  refine w_iload_n rfl rfl ?_
  refine w_iadd rfl ?_
  refine w_icge rfl (w_ite h (fun h => ?_) (fun h => ?_))
  · refine w_lload_n rfl rfl ?_
    refine w_bipush rfl (by decide) ?_
    refine w_lshl' rfl ?_
    refine w_aload_n rfl rfl ?_
    refine w_gfC (c := 441) rfl s_428 rfl rfl ?_
    refine w_aload_n rfl rfl ?_
    refine x_gfI rfl s_428 rfl (kk := 34) rfl rfl ?_
    refine w_iload rfl rfl ?_
    refine w_iadd rfl ?_
    refine w_bald rfl s_441 (n := 57000) rfl h.1 ?_
    replace h := h.2
    refine w_i2l rfl ?_
    refine w_ldc2 (a := 255) rfl (by decide +kernel) (by decide) ?_
    refine w_land' rfl ?_
    refine w_lor' rfl ?_
    refine w_lstore_n (lv' := [some (2, 428), some (0, l1), some (0, l2), some (1, w_lor (w_lshl l3 8) (w_land (m 441 (w_32 ((m 428 34) + l5))) 255)), none, some (0, l5)]) rfl rfl rfl ?_
    refine w_iinc (lv' := [some (2, 428), some (0, l1), some (0, l2), some (1, w_lor (w_lshl l3 8) (w_land (m 441 (w_32 ((m 428 34) + l5))) 255)), none, some (0, w_32 (l5 + 1))]) rfl rfl rfl rfl ?_
    refine w_goto rfl ?_
    exact w_W.less h (w_sub [true, true, true, true, false, true] rfl)
  · refine w_lload_n rfl rfl ?_
    exact w_lret rfl rfl h
theorem xr_m_up {d : Nat} {m : w_M} {Q : Int → w_M → Prop} (h : if (m 428 88) < 1 then (Q (-1) m) else (Q (w_32 ((m 428 88) - 1)) (w_up m 428 88 (w_32 ((m 428 88) - 1))))) : xc_m_up (d + 1) m Q := by
  refine w_enter (q := 0) (lv := [some (2, 428)]) rfl rfl rfl ?_
  refine w_aload_n rfl rfl ?_
  refine x_gfI rfl s_428 rfl (kk := 88) rfl rfl ?_
  refine w_iconst rfl (by decide) ?_
  refine w_icge rfl (w_ite h (fun h => ?_) (fun h => ?_))
  · refine w_iconst rfl (by decide) ?_
    exact w_iret rfl rfl h
  · refine w_aload_n rfl rfl ?_
    refine w_dup rfl (show (2 : Nat) ≠ 1 by decide) ?_
    refine x_gfI rfl s_428 rfl (kk := 88) rfl rfl ?_
    refine w_iconst rfl (by decide) ?_
    refine w_isub rfl ?_
    refine w_pfI rfl s_428 rfl (w_EM (by decide)) rfl (kk := 88) rfl ?_
    refine w_aload_n rfl rfl ?_
    refine x_gfI rfl s_428 rfl (kk := 88) rfl (w_up_eq) ?_
    exact w_iret rfl rfl h
theorem xr_m_which {d : Nat} {m : w_M} {Q : Int → w_M → Prop} (h : xc_m_word d m (fun r1 m1 => w_isS r1 ∧ (xc_js_hashCode sM d r1 m1 (fun r2 m2 => if r2 = 39 then (w_isS r1 ∧ (xc_js_equals sM d r1 122 m2 (fun r3 m3 => if r3 = 0 then (xp_m_which_383 d r1 (-1) m3 Q) else (xp_m_which_383 d r1 14 m3 Q)))) else (if r2 = 81 then (w_isS r1 ∧ (xc_js_equals sM d r1 96 m2 (fun r4 m4 => if r4 = 0 then (xp_m_which_383 d r1 (-1) m4 Q) else (xp_m_which_383 d r1 1 m4 Q)))) else (if r2 = 113 then (w_isS r1 ∧ (xc_js_equals sM d r1 94 m2 (fun r5 m5 => if r5 = 0 then (xp_m_which_383 d r1 (-1) m5 Q) else (xp_m_which_383 d r1 0 m5 Q)))) else (if r2 = 2130 then (w_isS r1 ∧ (xc_js_equals sM d r1 98 m2 (fun r6 m6 => if r6 = 0 then (xp_m_which_383 d r1 (-1) m6 Q) else (xp_m_which_383 d r1 2 m6 Q)))) else (if r2 = 2223 then (w_isS r1 ∧ (xc_js_equals sM d r1 100 m2 (fun r7 m7 => if r7 = 0 then (xp_m_which_383 d r1 (-1) m7 Q) else (xp_m_which_383 d r1 3 m7 Q)))) else (if r2 = 2646 then (w_isS r1 ∧ (xc_js_equals sM d r1 102 m2 (fun r8 m8 => if r8 = 0 then (xp_m_which_383 d r1 (-1) m8 Q) else (xp_m_which_383 d r1 4 m8 Q)))) else (if r2 = 2672 then (w_isS r1 ∧ (xc_js_equals sM d r1 110 m2 (fun r9 m9 => if r9 = 0 then (xp_m_which_383 d r1 (-1) m9 Q) else (xp_m_which_383 d r1 8 m9 Q)))) else (if r2 = 2678 then (w_isS r1 ∧ (xc_js_equals sM d r1 124 m2 (fun r10 m10 => if r10 = 0 then (xp_m_which_383 d r1 (-1) m10 Q) else (xp_m_which_383 d r1 15 m10 Q)))) else (if r2 = 2680 then (w_isS r1 ∧ (xc_js_equals sM d r1 116 m2 (fun r11 m11 => if r11 = 0 then (xp_m_which_383 d r1 (-1) m11 Q) else (xp_m_which_383 d r1 11 m11 Q)))) else (if r2 = 2703 then (w_isS r1 ∧ (xc_js_equals sM d r1 112 m2 (fun r12 m12 => if r12 = 0 then (xp_m_which_383 d r1 (-1) m12 Q) else (xp_m_which_383 d r1 9 m12 Q)))) else (if r2 = 2704 then (w_isS r1 ∧ (xc_js_equals sM d r1 108 m2 (fun r13 m13 => if r13 = 0 then (xp_m_which_383 d r1 (-1) m13 Q) else (xp_m_which_383 d r1 7 m13 Q)))) else (if r2 = 2706 then (w_isS r1 ∧ (xc_js_equals sM d r1 118 m2 (fun r14 m14 => if r14 = 0 then (xp_m_which_383 d r1 (-1) m14 Q) else (xp_m_which_383 d r1 12 m14 Q)))) else (if r2 = 2710 then (w_isS r1 ∧ (xc_js_equals sM d r1 120 m2 (fun r15 m15 => if r15 = 0 then (xp_m_which_383 d r1 (-1) m15 Q) else (xp_m_which_383 d r1 13 m15 Q)))) else (if r2 = 2713 then (w_isS r1 ∧ (xc_js_equals sM d r1 106 m2 (fun r16 m16 => if r16 = 0 then (xp_m_which_383 d r1 (-1) m16 Q) else (xp_m_which_383 d r1 6 m16 Q)))) else (if r2 = 2723 then (w_isS r1 ∧ (xc_js_equals sM d r1 114 m2 (fun r17 m17 => if r17 = 0 then (xp_m_which_383 d r1 (-1) m17 Q) else (xp_m_which_383 d r1 10 m17 Q)))) else (if r2 = 3178 then (w_isS r1 ∧ (xc_js_equals sM d r1 104 m2 (fun r18 m18 => if r18 = 0 then (xp_m_which_383 d r1 (-1) m18 Q) else (xp_m_which_383 d r1 5 m18 Q)))) else (xp_m_which_383 d r1 (-1) m2 Q)))))))))))))))))))) : xc_m_which (d + 1) m Q := by
  refine w_enter (q := 3) (lv := [some (2, 428), none, none, none]) rfl rfl rfl ?_
  refine w_aload_n rfl rfl ?_
  refine w_callV (t' := 2) [] [] rfl s_428 rfl rfl ?_
  refine w_C.more (Q := fun r1 m1 => _) h (fun r1 m1 h => ?_)
  replace h := id h
  refine w_astore_n (lv' := [some (2, 428), some (2, r1), none, none]) rfl rfl rfl ?_
  refine w_aload_n rfl rfl ?_
  refine w_astore_n (lv' := [some (2, 428), some (2, r1), some (2, r1), none]) rfl rfl rfl ?_
  refine w_iconst rfl (by decide) ?_
  refine w_istore_n (lv' := [some (2, 428), some (2, r1), some (2, r1), some (0, (-1))]) rfl rfl rfl ?_
  refine w_aload_n rfl rfl ?_
  refine w_callV (t' := 0) [] [] rfl (w_isS_s h.1) rfl rfl ?_
  replace h := h.2
  refine w_C.more (Q := fun r2 m2 => _) h (fun r2 m2 h => ?_)
  replace h := id h
  refine w_lswitch (pd := 383) [(39, 356), (81, 166), (113, 152), (2130, 180), (2223, 194), (2646, 208), (2672, 266), (2678, 371), (2680, 311), (2703, 281), (2704, 251), (2706, 326), (2710, 341), (2713, 236), (2723, 296), (3178, 222)] rfl rfl rfl ?_
  refine w_ite h (fun h => ?_) (fun h => ?_)
  · refine w_aload_n rfl rfl ?_
    refine w_ldcR rfl ?_
    refine w_callV (t' := 0) [(2, 122)] [] rfl (w_isS_s h.1) rfl rfl ?_
    replace h := h.2
    refine w_C.more (Q := fun r3 m3 => _) h (fun r3 m3 h => ?_)
    replace h := id h
    refine w_ifeq rfl (w_ite h (fun h => ?_) (fun h => ?_))
    · exact w_W.less h (w_sub [true, true, false, true] rfl)
    · refine w_bipush rfl (by decide) ?_
      refine w_istore_n (lv' := [some (2, 428), some (2, r1), some (2, r1), some (0, 14)]) rfl rfl rfl ?_
      refine w_goto rfl ?_
      exact w_W.less h (w_sub [true, true, false, true] rfl)
  ·
    refine w_ite h (fun h => ?_) (fun h => ?_)
    · refine w_aload_n rfl rfl ?_
      refine w_ldcR rfl ?_
      refine w_callV (t' := 0) [(2, 96)] [] rfl (w_isS_s h.1) rfl rfl ?_
      replace h := h.2
      refine w_C.more (Q := fun r4 m4 => _) h (fun r4 m4 h => ?_)
      replace h := id h
      refine w_ifeq rfl (w_ite h (fun h => ?_) (fun h => ?_))
      · exact w_W.less h (w_sub [true, true, false, true] rfl)
      · refine w_iconst rfl (by decide) ?_
        refine w_istore_n (lv' := [some (2, 428), some (2, r1), some (2, r1), some (0, 1)]) rfl rfl rfl ?_
        refine w_goto rfl ?_
        exact w_W.less h (w_sub [true, true, false, true] rfl)
    ·
      refine w_ite h (fun h => ?_) (fun h => ?_)
      · refine w_aload_n rfl rfl ?_
        refine w_ldcR rfl ?_
        refine w_callV (t' := 0) [(2, 94)] [] rfl (w_isS_s h.1) rfl rfl ?_
        replace h := h.2
        refine w_C.more (Q := fun r5 m5 => _) h (fun r5 m5 h => ?_)
        replace h := id h
        refine w_ifeq rfl (w_ite h (fun h => ?_) (fun h => ?_))
        · exact w_W.less h (w_sub [true, true, false, true] rfl)
        · refine w_iconst rfl (by decide) ?_
          refine w_istore_n (lv' := [some (2, 428), some (2, r1), some (2, r1), some (0, 0)]) rfl rfl rfl ?_
          refine w_goto rfl ?_
          exact w_W.less h (w_sub [true, true, false, true] rfl)
      ·
        refine w_ite h (fun h => ?_) (fun h => ?_)
        · refine w_aload_n rfl rfl ?_
          refine w_ldcR rfl ?_
          refine w_callV (t' := 0) [(2, 98)] [] rfl (w_isS_s h.1) rfl rfl ?_
          replace h := h.2
          refine w_C.more (Q := fun r6 m6 => _) h (fun r6 m6 h => ?_)
          replace h := id h
          refine w_ifeq rfl (w_ite h (fun h => ?_) (fun h => ?_))
          · exact w_W.less h (w_sub [true, true, false, true] rfl)
          · refine w_iconst rfl (by decide) ?_
            refine w_istore_n (lv' := [some (2, 428), some (2, r1), some (2, r1), some (0, 2)]) rfl rfl rfl ?_
            refine w_goto rfl ?_
            exact w_W.less h (w_sub [true, true, false, true] rfl)
        ·
          refine w_ite h (fun h => ?_) (fun h => ?_)
          · refine w_aload_n rfl rfl ?_
            refine w_ldcR rfl ?_
            refine w_callV (t' := 0) [(2, 100)] [] rfl (w_isS_s h.1) rfl rfl ?_
            replace h := h.2
            refine w_C.more (Q := fun r7 m7 => _) h (fun r7 m7 h => ?_)
            replace h := id h
            refine w_ifeq rfl (w_ite h (fun h => ?_) (fun h => ?_))
            · exact w_W.less h (w_sub [true, true, false, true] rfl)
            · refine w_iconst rfl (by decide) ?_
              refine w_istore_n (lv' := [some (2, 428), some (2, r1), some (2, r1), some (0, 3)]) rfl rfl rfl ?_
              refine w_goto rfl ?_
              exact w_W.less h (w_sub [true, true, false, true] rfl)
          ·
            refine w_ite h (fun h => ?_) (fun h => ?_)
            · refine w_aload_n rfl rfl ?_
              refine w_ldcR rfl ?_
              refine w_callV (t' := 0) [(2, 102)] [] rfl (w_isS_s h.1) rfl rfl ?_
              replace h := h.2
              refine w_C.more (Q := fun r8 m8 => _) h (fun r8 m8 h => ?_)
              replace h := id h
              refine w_ifeq rfl (w_ite h (fun h => ?_) (fun h => ?_))
              · exact w_W.less h (w_sub [true, true, false, true] rfl)
              · refine w_iconst rfl (by decide) ?_
                refine w_istore_n (lv' := [some (2, 428), some (2, r1), some (2, r1), some (0, 4)]) rfl rfl rfl ?_
                refine w_goto rfl ?_
                exact w_W.less h (w_sub [true, true, false, true] rfl)
            ·
              refine w_ite h (fun h => ?_) (fun h => ?_)
              · refine w_aload_n rfl rfl ?_
                refine w_ldcR rfl ?_
                refine w_callV (t' := 0) [(2, 110)] [] rfl (w_isS_s h.1) rfl rfl ?_
                replace h := h.2
                refine w_C.more (Q := fun r9 m9 => _) h (fun r9 m9 h => ?_)
                replace h := id h
                refine w_ifeq rfl (w_ite h (fun h => ?_) (fun h => ?_))
                · exact w_W.less h (w_sub [true, true, false, true] rfl)
                · refine w_bipush rfl (by decide) ?_
                  refine w_istore_n (lv' := [some (2, 428), some (2, r1), some (2, r1), some (0, 8)]) rfl rfl rfl ?_
                  refine w_goto rfl ?_
                  exact w_W.less h (w_sub [true, true, false, true] rfl)
              ·
                refine w_ite h (fun h => ?_) (fun h => ?_)
                · refine w_aload_n rfl rfl ?_
                  refine w_ldcR rfl ?_
                  refine w_callV (t' := 0) [(2, 124)] [] rfl (w_isS_s h.1) rfl rfl ?_
                  replace h := h.2
                  refine w_C.more (Q := fun r10 m10 => _) h (fun r10 m10 h => ?_)
                  replace h := id h
                  refine w_ifeq rfl (w_ite h (fun h => ?_) (fun h => ?_))
                  · exact w_W.less h (w_sub [true, true, false, true] rfl)
                  · refine w_bipush rfl (by decide) ?_
                    refine w_istore_n (lv' := [some (2, 428), some (2, r1), some (2, r1), some (0, 15)]) rfl rfl rfl ?_
                    exact w_W.less h (w_sub [true, true, false, true] rfl)
                ·
                  refine w_ite h (fun h => ?_) (fun h => ?_)
                  · refine w_aload_n rfl rfl ?_
                    refine w_ldcR rfl ?_
                    refine w_callV (t' := 0) [(2, 116)] [] rfl (w_isS_s h.1) rfl rfl ?_
                    replace h := h.2
                    refine w_C.more (Q := fun r11 m11 => _) h (fun r11 m11 h => ?_)
                    replace h := id h
                    refine w_ifeq rfl (w_ite h (fun h => ?_) (fun h => ?_))
                    · exact w_W.less h (w_sub [true, true, false, true] rfl)
                    · refine w_bipush rfl (by decide) ?_
                      refine w_istore_n (lv' := [some (2, 428), some (2, r1), some (2, r1), some (0, 11)]) rfl rfl rfl ?_
                      refine w_goto rfl ?_
                      exact w_W.less h (w_sub [true, true, false, true] rfl)
                  ·
                    refine w_ite h (fun h => ?_) (fun h => ?_)
                    · refine w_aload_n rfl rfl ?_
                      refine w_ldcR rfl ?_
                      refine w_callV (t' := 0) [(2, 112)] [] rfl (w_isS_s h.1) rfl rfl ?_
                      replace h := h.2
                      refine w_C.more (Q := fun r12 m12 => _) h (fun r12 m12 h => ?_)
                      replace h := id h
                      refine w_ifeq rfl (w_ite h (fun h => ?_) (fun h => ?_))
                      · exact w_W.less h (w_sub [true, true, false, true] rfl)
                      · refine w_bipush rfl (by decide) ?_
                        refine w_istore_n (lv' := [some (2, 428), some (2, r1), some (2, r1), some (0, 9)]) rfl rfl rfl ?_
                        refine w_goto rfl ?_
                        exact w_W.less h (w_sub [true, true, false, true] rfl)
                    ·
                      refine w_ite h (fun h => ?_) (fun h => ?_)
                      · refine w_aload_n rfl rfl ?_
                        refine w_ldcR rfl ?_
                        refine w_callV (t' := 0) [(2, 108)] [] rfl (w_isS_s h.1) rfl rfl ?_
                        replace h := h.2
                        refine w_C.more (Q := fun r13 m13 => _) h (fun r13 m13 h => ?_)
                        replace h := id h
                        refine w_ifeq rfl (w_ite h (fun h => ?_) (fun h => ?_))
                        · exact w_W.less h (w_sub [true, true, false, true] rfl)
                        · refine w_bipush rfl (by decide) ?_
                          refine w_istore_n (lv' := [some (2, 428), some (2, r1), some (2, r1), some (0, 7)]) rfl rfl rfl ?_
                          refine w_goto rfl ?_
                          exact w_W.less h (w_sub [true, true, false, true] rfl)
                      ·
                        refine w_ite h (fun h => ?_) (fun h => ?_)
                        · refine w_aload_n rfl rfl ?_
                          refine w_ldcR rfl ?_
                          refine w_callV (t' := 0) [(2, 118)] [] rfl (w_isS_s h.1) rfl rfl ?_
                          replace h := h.2
                          refine w_C.more (Q := fun r14 m14 => _) h (fun r14 m14 h => ?_)
                          replace h := id h
                          refine w_ifeq rfl (w_ite h (fun h => ?_) (fun h => ?_))
                          · exact w_W.less h (w_sub [true, true, false, true] rfl)
                          · refine w_bipush rfl (by decide) ?_
                            refine w_istore_n (lv' := [some (2, 428), some (2, r1), some (2, r1), some (0, 12)]) rfl rfl rfl ?_
                            refine w_goto rfl ?_
                            exact w_W.less h (w_sub [true, true, false, true] rfl)
                        ·
                          refine w_ite h (fun h => ?_) (fun h => ?_)
                          · refine w_aload_n rfl rfl ?_
                            refine w_ldcR rfl ?_
                            refine w_callV (t' := 0) [(2, 120)] [] rfl (w_isS_s h.1) rfl rfl ?_
                            replace h := h.2
                            refine w_C.more (Q := fun r15 m15 => _) h (fun r15 m15 h => ?_)
                            replace h := id h
                            refine w_ifeq rfl (w_ite h (fun h => ?_) (fun h => ?_))
                            · exact w_W.less h (w_sub [true, true, false, true] rfl)
                            · refine w_bipush rfl (by decide) ?_
                              refine w_istore_n (lv' := [some (2, 428), some (2, r1), some (2, r1), some (0, 13)]) rfl rfl rfl ?_
                              refine w_goto rfl ?_
                              exact w_W.less h (w_sub [true, true, false, true] rfl)
                          ·
                            refine w_ite h (fun h => ?_) (fun h => ?_)
                            · refine w_aload_n rfl rfl ?_
                              refine w_ldcR rfl ?_
                              refine w_callV (t' := 0) [(2, 106)] [] rfl (w_isS_s h.1) rfl rfl ?_
                              replace h := h.2
                              refine w_C.more (Q := fun r16 m16 => _) h (fun r16 m16 h => ?_)
                              replace h := id h
                              refine w_ifeq rfl (w_ite h (fun h => ?_) (fun h => ?_))
                              · exact w_W.less h (w_sub [true, true, false, true] rfl)
                              · refine w_bipush rfl (by decide) ?_
                                refine w_istore_n (lv' := [some (2, 428), some (2, r1), some (2, r1), some (0, 6)]) rfl rfl rfl ?_
                                refine w_goto rfl ?_
                                exact w_W.less h (w_sub [true, true, false, true] rfl)
                            ·
                              refine w_ite h (fun h => ?_) (fun h => ?_)
                              · refine w_aload_n rfl rfl ?_
                                refine w_ldcR rfl ?_
                                refine w_callV (t' := 0) [(2, 114)] [] rfl (w_isS_s h.1) rfl rfl ?_
                                replace h := h.2
                                refine w_C.more (Q := fun r17 m17 => _) h (fun r17 m17 h => ?_)
                                replace h := id h
                                refine w_ifeq rfl (w_ite h (fun h => ?_) (fun h => ?_))
                                · exact w_W.less h (w_sub [true, true, false, true] rfl)
                                · refine w_bipush rfl (by decide) ?_
                                  refine w_istore_n (lv' := [some (2, 428), some (2, r1), some (2, r1), some (0, 10)]) rfl rfl rfl ?_
                                  refine w_goto rfl ?_
                                  exact w_W.less h (w_sub [true, true, false, true] rfl)
                              ·
                                refine w_ite h (fun h => ?_) (fun h => ?_)
                                · refine w_aload_n rfl rfl ?_
                                  refine w_ldcR rfl ?_
                                  refine w_callV (t' := 0) [(2, 104)] [] rfl (w_isS_s h.1) rfl rfl ?_
                                  replace h := h.2
                                  refine w_C.more (Q := fun r18 m18 => _) h (fun r18 m18 h => ?_)
                                  replace h := id h
                                  refine w_ifeq rfl (w_ite h (fun h => ?_) (fun h => ?_))
                                  · exact w_W.less h (w_sub [true, true, false, true] rfl)
                                  · refine w_iconst rfl (by decide) ?_
                                    refine w_istore_n (lv' := [some (2, 428), some (2, r1), some (2, r1), some (0, 5)]) rfl rfl rfl ?_
                                    refine w_goto rfl ?_
                                    exact w_W.less h (w_sub [true, true, false, true] rfl)
                                · exact w_W.less h (w_sub [true, true, false, true] rfl)
theorem xr_m_which_383 {d : Nat} {l1 l3 : Int} {m : w_M} {Q : Int → w_M → Prop} (h : if l3 = 0 then (if (m 428 94) = 0 then (Q 1 m) else (Q 0 m)) else (if l3 = 1 then (if (m 428 94) = 0 then (Q 1 m) else (Q 0 m)) else (if l3 = 2 then (if (m 428 94) = 0 then (Q 1 m) else (Q 0 m)) else (if l3 = 3 then (if (m 428 94) = 0 then (Q 1 m) else (Q 0 m)) else (if l3 = 4 then (if (m 428 94) = 0 then (Q 1 m) else (Q 0 m)) else (if l3 = 5 then (xc_m_areNumbers d 6 m (fun r1 m1 => if r1 = 0 then (Q 0 m1) else (Q 1 m1))) else (if l3 = 6 then (xc_m_areNumbers d 6 m (fun r2 m2 => if r2 = 0 then (Q 0 m2) else (Q 1 m2))) else (if l3 = 7 then (xc_m_areNumbers d 2 m (fun r3 m3 => if r3 = 0 then (Q 0 m3) else (Q 1 m3))) else (if l3 = 8 then (xc_m_areNumbers d 2 m (fun r4 m4 => if r4 = 0 then (Q 0 m4) else (Q 1 m4))) else (if l3 = 9 then (xc_m_areNumbers d 1 m (fun r5 m5 => if r5 = 0 then (Q 0 m5) else (Q 1 m5))) else (if l3 = 10 then (xc_m_areNumbers d 1 m (fun r6 m6 => if r6 = 0 then (Q 0 m6) else (Q 1 m6))) else (if l3 = 11 then (xc_m_areNumbers d 1 m (fun r7 m7 => if r7 = 0 then (Q 0 m7) else (Q 1 m7))) else (if l3 = 12 then (if (m 428 94) = 2 then (((0 : Int) ≤ (m 473 0) ∧ (m 473 0) < 40000) ∧ (if (m 432 (m 473 0)) = 4 then (xc_m_isNumber d (m 473 1) m (fun r8 m8 => if r8 = 0 then (Q 0 m8) else (Q 1 m8))) else (Q 0 m))) else (Q 0 m)) else (if l3 = 13 then (xc_m_isOf d 1 5 m (fun r9 m9 => if r9 = 0 then (Q 0 m9) else (Q 1 m9))) else (if l3 = 14 then (xc_m_isOf d 1 5 m (fun r10 m10 => if r10 = 0 then (Q 0 m10) else (Q 1 m10))) else (if l3 = 15 then (xc_m_isOf d 1 6 m (fun r11 m11 => if r11 = 0 then (Q 0 m11) else (xc_m_areShown d (m11 473 0) m11 (fun r12 m12 => if r12 = 0 then (Q 0 m12) else (Q 1 m12))))) else (xc_m_idle d l1 m (fun r13 m13 => if r13 = 0 then (Q 0 m13) else (Q 2 m13))))))))))))))))))) : xp_m_which_383 d l1 l3 m Q := by
  refine w_iload_n rfl rfl ?_
  refine w_tswitch (pd := 606) [(0, 464), (1, 464), (2, 464), (3, 464), (4, 464), (5, 477), (6, 477), (7, 492), (8, 492), (9, 506), (10, 506), (11, 506), (12, 520), (13, 562), (14, 562), (15, 577)] rfl rfl (by decide) (w_tsw_ok _ _ (by decide)) (by decide) ?_
  refine w_ite h (fun h => ?_) (fun h => ?_)
  · refine w_aload_n rfl rfl ?_
    refine x_gfI rfl s_428 rfl (kk := 94) rfl rfl ?_
    refine w_ifne rfl (w_ite h (fun h => ?_) (fun h => ?_))
    · refine w_iconst rfl (by decide) ?_
      refine w_goto rfl ?_
      exact w_iret rfl rfl h
    · refine w_iconst rfl (by decide) ?_
      exact w_iret rfl rfl h
  ·
    refine w_ite h (fun h => ?_) (fun h => ?_)
    · refine w_aload_n rfl rfl ?_
      refine x_gfI rfl s_428 rfl (kk := 94) rfl rfl ?_
      refine w_ifne rfl (w_ite h (fun h => ?_) (fun h => ?_))
      · refine w_iconst rfl (by decide) ?_
        refine w_goto rfl ?_
        exact w_iret rfl rfl h
      · refine w_iconst rfl (by decide) ?_
        exact w_iret rfl rfl h
    ·
      refine w_ite h (fun h => ?_) (fun h => ?_)
      · refine w_aload_n rfl rfl ?_
        refine x_gfI rfl s_428 rfl (kk := 94) rfl rfl ?_
        refine w_ifne rfl (w_ite h (fun h => ?_) (fun h => ?_))
        · refine w_iconst rfl (by decide) ?_
          refine w_goto rfl ?_
          exact w_iret rfl rfl h
        · refine w_iconst rfl (by decide) ?_
          exact w_iret rfl rfl h
      ·
        refine w_ite h (fun h => ?_) (fun h => ?_)
        · refine w_aload_n rfl rfl ?_
          refine x_gfI rfl s_428 rfl (kk := 94) rfl rfl ?_
          refine w_ifne rfl (w_ite h (fun h => ?_) (fun h => ?_))
          · refine w_iconst rfl (by decide) ?_
            refine w_goto rfl ?_
            exact w_iret rfl rfl h
          · refine w_iconst rfl (by decide) ?_
            exact w_iret rfl rfl h
        ·
          refine w_ite h (fun h => ?_) (fun h => ?_)
          · refine w_aload_n rfl rfl ?_
            refine x_gfI rfl s_428 rfl (kk := 94) rfl rfl ?_
            refine w_ifne rfl (w_ite h (fun h => ?_) (fun h => ?_))
            · refine w_iconst rfl (by decide) ?_
              refine w_goto rfl ?_
              exact w_iret rfl rfl h
            · refine w_iconst rfl (by decide) ?_
              exact w_iret rfl rfl h
          ·
            refine w_ite h (fun h => ?_) (fun h => ?_)
            · refine w_aload_n rfl rfl ?_
              refine w_bipush rfl (by decide) ?_
              refine w_callV (t' := 0) [(0, 6)] [] rfl s_428 rfl rfl ?_
              refine w_C.more (Q := fun r1 m1 => _) h (fun r1 m1 h => ?_)
              replace h := id h
              refine w_ifeq rfl (w_ite h (fun h => ?_) (fun h => ?_))
              · refine w_iconst rfl (by decide) ?_
                exact w_iret rfl rfl h
              · refine w_iconst rfl (by decide) ?_
                refine w_goto rfl ?_
                exact w_iret rfl rfl h
            ·
              refine w_ite h (fun h => ?_) (fun h => ?_)
              · refine w_aload_n rfl rfl ?_
                refine w_bipush rfl (by decide) ?_
                refine w_callV (t' := 0) [(0, 6)] [] rfl s_428 rfl rfl ?_
                refine w_C.more (Q := fun r2 m2 => _) h (fun r2 m2 h => ?_)
                replace h := id h
                refine w_ifeq rfl (w_ite h (fun h => ?_) (fun h => ?_))
                · refine w_iconst rfl (by decide) ?_
                  exact w_iret rfl rfl h
                · refine w_iconst rfl (by decide) ?_
                  refine w_goto rfl ?_
                  exact w_iret rfl rfl h
              ·
                refine w_ite h (fun h => ?_) (fun h => ?_)
                · refine w_aload_n rfl rfl ?_
                  refine w_iconst rfl (by decide) ?_
                  refine w_callV (t' := 0) [(0, 2)] [] rfl s_428 rfl rfl ?_
                  refine w_C.more (Q := fun r3 m3 => _) h (fun r3 m3 h => ?_)
                  replace h := id h
                  refine w_ifeq rfl (w_ite h (fun h => ?_) (fun h => ?_))
                  · refine w_iconst rfl (by decide) ?_
                    exact w_iret rfl rfl h
                  · refine w_iconst rfl (by decide) ?_
                    refine w_goto rfl ?_
                    exact w_iret rfl rfl h
                ·
                  refine w_ite h (fun h => ?_) (fun h => ?_)
                  · refine w_aload_n rfl rfl ?_
                    refine w_iconst rfl (by decide) ?_
                    refine w_callV (t' := 0) [(0, 2)] [] rfl s_428 rfl rfl ?_
                    refine w_C.more (Q := fun r4 m4 => _) h (fun r4 m4 h => ?_)
                    replace h := id h
                    refine w_ifeq rfl (w_ite h (fun h => ?_) (fun h => ?_))
                    · refine w_iconst rfl (by decide) ?_
                      exact w_iret rfl rfl h
                    · refine w_iconst rfl (by decide) ?_
                      refine w_goto rfl ?_
                      exact w_iret rfl rfl h
                  ·
                    refine w_ite h (fun h => ?_) (fun h => ?_)
                    · refine w_aload_n rfl rfl ?_
                      refine w_iconst rfl (by decide) ?_
                      refine w_callV (t' := 0) [(0, 1)] [] rfl s_428 rfl rfl ?_
                      refine w_C.more (Q := fun r5 m5 => _) h (fun r5 m5 h => ?_)
                      replace h := id h
                      refine w_ifeq rfl (w_ite h (fun h => ?_) (fun h => ?_))
                      · refine w_iconst rfl (by decide) ?_
                        exact w_iret rfl rfl h
                      · refine w_iconst rfl (by decide) ?_
                        refine w_goto rfl ?_
                        exact w_iret rfl rfl h
                    ·
                      refine w_ite h (fun h => ?_) (fun h => ?_)
                      · refine w_aload_n rfl rfl ?_
                        refine w_iconst rfl (by decide) ?_
                        refine w_callV (t' := 0) [(0, 1)] [] rfl s_428 rfl rfl ?_
                        refine w_C.more (Q := fun r6 m6 => _) h (fun r6 m6 h => ?_)
                        replace h := id h
                        refine w_ifeq rfl (w_ite h (fun h => ?_) (fun h => ?_))
                        · refine w_iconst rfl (by decide) ?_
                          exact w_iret rfl rfl h
                        · refine w_iconst rfl (by decide) ?_
                          refine w_goto rfl ?_
                          exact w_iret rfl rfl h
                      ·
                        refine w_ite h (fun h => ?_) (fun h => ?_)
                        · refine w_aload_n rfl rfl ?_
                          refine w_iconst rfl (by decide) ?_
                          refine w_callV (t' := 0) [(0, 1)] [] rfl s_428 rfl rfl ?_
                          refine w_C.more (Q := fun r7 m7 => _) h (fun r7 m7 h => ?_)
                          replace h := id h
                          refine w_ifeq rfl (w_ite h (fun h => ?_) (fun h => ?_))
                          · refine w_iconst rfl (by decide) ?_
                            exact w_iret rfl rfl h
                          · refine w_iconst rfl (by decide) ?_
                            refine w_goto rfl ?_
                            exact w_iret rfl rfl h
                        ·
                          refine w_ite h (fun h => ?_) (fun h => ?_)
                          · refine w_aload_n rfl rfl ?_
                            refine x_gfI rfl s_428 rfl (kk := 94) rfl rfl ?_
                            refine w_iconst rfl (by decide) ?_
                            refine w_icne rfl (w_ite h (fun h => ?_) (fun h => ?_))
                            · refine w_aload_n rfl rfl ?_
                              refine w_gfC (c := 432) rfl s_428 rfl rfl ?_
                              refine w_aload_n rfl rfl ?_
                              refine w_gfC (c := 473) rfl s_428 rfl rfl ?_
                              refine w_iconst rfl (by decide) ?_
                              refine w_iald rfl s_473 (n := 40) rfl (by decide) ?_
                              refine w_bald rfl s_432 (n := 40000) rfl h.1 ?_
                              replace h := h.2
                              refine w_iconst rfl (by decide) ?_
                              refine w_icne rfl (w_ite h (fun h => ?_) (fun h => ?_))
                              · refine w_aload_n rfl rfl ?_
                                refine w_aload_n rfl rfl ?_
                                refine w_gfC (c := 473) rfl s_428 rfl rfl ?_
                                refine w_iconst rfl (by decide) ?_
                                refine w_iald rfl s_473 (n := 40) rfl (by decide) ?_
                                refine w_callV (t' := 0) [(0, m 473 1)] [] rfl s_428 rfl rfl ?_
                                refine w_C.more (Q := fun r8 m8 => _) h (fun r8 m8 h => ?_)
                                replace h := id h
                                refine w_ifeq rfl (w_ite h (fun h => ?_) (fun h => ?_))
                                · refine w_iconst rfl (by decide) ?_
                                  exact w_iret rfl rfl h
                                · refine w_iconst rfl (by decide) ?_
                                  refine w_goto rfl ?_
                                  exact w_iret rfl rfl h
                              · refine w_iconst rfl (by decide) ?_
                                exact w_iret rfl rfl h
                            · refine w_iconst rfl (by decide) ?_
                              exact w_iret rfl rfl h
                          ·
                            refine w_ite h (fun h => ?_) (fun h => ?_)
                            · refine w_aload_n rfl rfl ?_
                              refine w_iconst rfl (by decide) ?_
                              refine w_iconst rfl (by decide) ?_
                              refine w_callV (t' := 0) [(0, 5), (0, 1)] [] rfl s_428 rfl rfl ?_
                              refine w_C.more (Q := fun r9 m9 => _) h (fun r9 m9 h => ?_)
                              replace h := id h
                              refine w_ifeq rfl (w_ite h (fun h => ?_) (fun h => ?_))
                              · refine w_iconst rfl (by decide) ?_
                                exact w_iret rfl rfl h
                              · refine w_iconst rfl (by decide) ?_
                                refine w_goto rfl ?_
                                exact w_iret rfl rfl h
                            ·
                              refine w_ite h (fun h => ?_) (fun h => ?_)
                              · refine w_aload_n rfl rfl ?_
                                refine w_iconst rfl (by decide) ?_
                                refine w_iconst rfl (by decide) ?_
                                refine w_callV (t' := 0) [(0, 5), (0, 1)] [] rfl s_428 rfl rfl ?_
                                refine w_C.more (Q := fun r10 m10 => _) h (fun r10 m10 h => ?_)
                                replace h := id h
                                refine w_ifeq rfl (w_ite h (fun h => ?_) (fun h => ?_))
                                · refine w_iconst rfl (by decide) ?_
                                  exact w_iret rfl rfl h
                                · refine w_iconst rfl (by decide) ?_
                                  refine w_goto rfl ?_
                                  exact w_iret rfl rfl h
                              ·
                                refine w_ite h (fun h => ?_) (fun h => ?_)
                                · refine w_aload_n rfl rfl ?_
                                  refine w_iconst rfl (by decide) ?_
                                  refine w_bipush rfl (by decide) ?_
                                  refine w_callV (t' := 0) [(0, 6), (0, 1)] [] rfl s_428 rfl rfl ?_
                                  refine w_C.more (Q := fun r11 m11 => _) h (fun r11 m11 h => ?_)
                                  replace h := id h
                                  refine w_ifeq rfl (w_ite h (fun h => ?_) (fun h => ?_))
                                  · refine w_iconst rfl (by decide) ?_
                                    exact w_iret rfl rfl h
                                  · refine w_aload_n rfl rfl ?_
                                    refine w_aload_n rfl rfl ?_
                                    refine w_gfC (c := 473) rfl s_428 rfl rfl ?_
                                    refine w_iconst rfl (by decide) ?_
                                    refine w_iald rfl s_473 (n := 40) rfl (by decide) ?_
                                    refine w_callV (t' := 0) [(0, m11 473 0)] [] rfl s_428 rfl rfl ?_
                                    refine w_C.more (Q := fun r12 m12 => _) h (fun r12 m12 h => ?_)
                                    replace h := id h
                                    refine w_ifeq rfl (w_ite h (fun h => ?_) (fun h => ?_))
                                    · refine w_iconst rfl (by decide) ?_
                                      exact w_iret rfl rfl h
                                    · refine w_iconst rfl (by decide) ?_
                                      refine w_goto rfl ?_
                                      exact w_iret rfl rfl h
                                · refine w_aload_n rfl rfl ?_
                                  refine w_aload_n rfl rfl ?_
                                  refine w_callV (t' := 0) [(2, l1)] [] rfl s_428 rfl rfl ?_
                                  refine w_C.more (Q := fun r13 m13 => _) h (fun r13 m13 h => ?_)
                                  replace h := id h
                                  refine w_ifeq rfl (w_ite h (fun h => ?_) (fun h => ?_))
                                  · refine w_iconst rfl (by decide) ?_
                                    exact w_iret rfl rfl h
                                  · refine w_iconst rfl (by decide) ?_
                                    refine w_goto rfl ?_
                                    exact w_iret rfl rfl h
theorem xr_m_white {d : Nat} {m : w_M} {Q : Int → w_M → Prop} (h : xc_m_blanks d m (fun r1 m1 => xp_m_white_4 d m1 Q)) : xc_m_white (d + 1) m Q := by
  refine w_enter (q := 0) (lv := [some (2, 428)]) rfl rfl rfl ?_
  refine w_aload_n rfl rfl ?_
  refine w_callV (t' := 3) [] [] rfl s_428 rfl rfl ?_
  refine w_C.more (Q := fun r1 m1 => _) h (fun r1 m1 h => ?_)
  replace h := id h
  exact w_W.less h (w_sub [true] rfl)
theorem xr_m_white_4 {d : Nat} {m : w_M} {Q : Int → w_M → Prop} (h : xc_m_peek d 0 m (fun r1 m1 => if r1 = 37 then (xp_m_white_14 d m1 Q) else (Q 0 m1))) : xp_m_white_4 d m Q := by
  refine w_aload_n rfl rfl ?_
  refine w_iconst rfl (by decide) ?_
  refine w_callV (t' := 0) [(0, 0)] [] rfl s_428 rfl rfl ?_
  refine w_C.more (Q := fun r1 m1 => _) h (fun r1 m1 h => ?_)
  replace h := id h
  refine w_bipush rfl (by decide) ?_
  refine w_icne rfl (w_ite h (fun h => ?_) (fun h => ?_))
  · exact w_W.less h (w_sub [true] rfl)
  · exact w_vret rfl rfl h
theorem xr_m_white_14 {d : Nat} {m : w_M} {Q : Int → w_M → Prop} (h : xc_m_peek d 0 m (fun r1 m1 => if r1 < 0 then (xc_m_blanks d m1 (fun r2 m2 => xp_m_white_4 d m2 Q)) else (xc_m_peek d 0 m1 (fun r3 m3 => if r3 = 10 then (xc_m_blanks d m3 (fun r4 m4 => xp_m_white_4 d m4 Q)) else (xc_m_peek d 0 m3 (fun r5 m5 => if r5 = 13 then (xc_m_blanks d m5 (fun r6 m6 => xp_m_white_4 d m6 Q)) else (xp_m_white_14 d (w_up m5 428 21 (w_32 ((m5 428 21) + 1))) Q))))))) : xp_m_white_14 d m Q := by
  refine w_aload_n rfl rfl ?_
  refine w_iconst rfl (by decide) ?_
  refine w_callV (t' := 0) [(0, 0)] [] rfl s_428 rfl rfl ?_
  refine w_C.more (Q := fun r1 m1 => _) h (fun r1 m1 h => ?_)
  replace h := id h
  refine w_iflt rfl (w_ite h (fun h => ?_) (fun h => ?_))
  · refine w_aload_n rfl rfl ?_
    refine w_callV (t' := 3) [] [] rfl s_428 rfl rfl ?_
    refine w_C.more (Q := fun r2 m2 => _) h (fun r2 m2 h => ?_)
    replace h := id h
    refine w_goto rfl ?_
    exact w_W.less h (w_sub [true] rfl)
  · refine w_aload_n rfl rfl ?_
    refine w_iconst rfl (by decide) ?_
    refine w_callV (t' := 0) [(0, 0)] [] rfl s_428 rfl rfl ?_
    refine w_C.more (Q := fun r3 m3 => _) h (fun r3 m3 h => ?_)
    replace h := id h
    refine w_bipush rfl (by decide) ?_
    refine w_iceq rfl (w_ite h (fun h => ?_) (fun h => ?_))
    · refine w_aload_n rfl rfl ?_
      refine w_callV (t' := 3) [] [] rfl s_428 rfl rfl ?_
      refine w_C.more (Q := fun r4 m4 => _) h (fun r4 m4 h => ?_)
      replace h := id h
      refine w_goto rfl ?_
      exact w_W.less h (w_sub [true] rfl)
    · refine w_aload_n rfl rfl ?_
      refine w_iconst rfl (by decide) ?_
      refine w_callV (t' := 0) [(0, 0)] [] rfl s_428 rfl rfl ?_
      refine w_C.more (Q := fun r5 m5 => _) h (fun r5 m5 h => ?_)
      replace h := id h
      refine w_bipush rfl (by decide) ?_
      refine w_iceq rfl (w_ite h (fun h => ?_) (fun h => ?_))
      · refine w_aload_n rfl rfl ?_
        refine w_callV (t' := 3) [] [] rfl s_428 rfl rfl ?_
        refine w_C.more (Q := fun r6 m6 => _) h (fun r6 m6 h => ?_)
        replace h := id h
        refine w_goto rfl ?_
        exact w_W.less h (w_sub [true] rfl)
      · refine w_aload_n rfl rfl ?_
        refine w_dup rfl (show (2 : Nat) ≠ 1 by decide) ?_
        refine x_gfI rfl s_428 rfl (kk := 21) rfl rfl ?_
        refine w_iconst rfl (by decide) ?_
        refine w_iadd rfl ?_
        refine w_pfI rfl s_428 rfl (w_EM (by decide)) rfl (kk := 21) rfl ?_
        refine w_goto rfl ?_
        exact w_W.less h (w_sub [true] rfl)
theorem xr_m_whole {d : Nat} {m : w_M} {Q : Int → w_M → Prop} (h : if (m 428 6) = 0 then (Q (-1) (w_up m 428 5 0)) else (xp_m_whole_26 d 0 (w_up (w_up (w_up m 428 5 0) 428 109 1) 428 112 0) Q)) : xc_m_whole (d + 1) m Q := by
  refine w_enter (q := 2) (lv := [some (2, 428), none, none]) rfl rfl rfl ?_
  refine w_aload_n rfl rfl ?_
  refine w_iconst rfl (by decide) ?_
  refine w_pfI rfl s_428 rfl (w_EM (by decide)) rfl (kk := 5) rfl ?_
  refine w_aload_n rfl rfl ?_
  refine x_gfZ rfl s_428 rfl (kk := 6) rfl (w_up_nb (by decide)) ?_
  refine w_ifne rfl (w_ite h (fun h => ?_) (fun h => ?_))
  · refine w_iconst rfl (by decide) ?_
    exact w_iret rfl rfl h
  · refine w_aload_n rfl rfl ?_
    refine w_iconst rfl (by decide) ?_
    refine w_pfZ rfl s_428 rfl (w_EM (by decide)) rfl (kk := 109) rfl (by decide) ?_
    refine w_aload_n rfl rfl ?_
    refine w_iconst rfl (by decide) ?_
    refine w_pfI rfl s_428 rfl (w_EM (by decide)) rfl (kk := 112) rfl ?_
    refine w_iconst rfl (by decide) ?_
    refine w_istore_n (lv' := [some (2, 428), some (0, 0), none]) rfl rfl rfl ?_
    exact w_W.less h (w_sub [true, true, false] rfl)
theorem xr_m_whole_26 {d : Nat} {l1 : Int} {m : w_M} {Q : Int → w_M → Prop} (h : if l1 < 200 then (((0 : Int) ≤ l1 ∧ l1 < 200) ∧ (xp_m_whole_26 d (w_32 (l1 + 1)) (w_up m 483 l1 0) Q)) else (xc_m_sayText d 334 m (fun r1 m1 => xc_m_numberOf d (m1 428 81) m1 (fun r2 m2 => if (m2 428 82) = 0 then (xp_m_whole_80 d 0 m2 Q) else (xc_m_numberOf d (m2 428 82) m2 (fun r3 m3 => xp_m_whole_80 d 0 m3 Q)))))) : xp_m_whole_26 d l1 m Q := by
  refine w_iload_n rfl rfl ?_
  refine w_sipush rfl (by decide) ?_
  refine w_icge rfl (w_ite h (fun h => ?_) (fun h => ?_))
  · refine w_aload_n rfl rfl ?_
    refine w_gfC (c := 483) rfl s_428 rfl rfl ?_
    refine w_iload_n rfl rfl ?_
    refine w_iconst rfl (by decide) ?_
    refine w_iast rfl s_483 (w_EM (by decide)) (n := 200) rfl h.1 ?_
    replace h := h.2
    refine w_iinc (lv' := [some (2, 428), some (0, w_32 (l1 + 1)), none]) rfl rfl rfl rfl ?_
    refine w_goto rfl ?_
    exact w_W.less h (w_sub [true, true, false] rfl)
  · refine w_aload_n rfl rfl ?_
    refine w_ldcwR rfl ?_
    refine w_callV (t' := 3) [(2, 334)] [] rfl s_428 rfl rfl ?_
    refine w_C.more (Q := fun r1 m1 => _) h (fun r1 m1 h => ?_)
    replace h := id h
    refine w_aload_n rfl rfl ?_
    refine w_aload_n rfl rfl ?_
    refine x_gfI rfl s_428 rfl (kk := 81) rfl rfl ?_
    refine w_callV (t' := 0) [(0, m1 428 81)] [] rfl s_428 rfl rfl ?_
    refine w_C.more (Q := fun r2 m2 => _) h (fun r2 m2 h => ?_)
    replace h := id h
    refine w_pop rfl (show (0 : Nat) ≠ 1 by decide) ?_
    refine w_aload_n rfl rfl ?_
    refine x_gfI rfl s_428 rfl (kk := 82) rfl rfl ?_
    refine w_ifeq rfl (w_ite h (fun h => ?_) (fun h => ?_))
    · refine w_iconst rfl (by decide) ?_
      refine w_istore_n (lv' := [some (2, 428), some (0, 0), none]) rfl rfl rfl ?_
      exact w_W.less h (w_sub [true, true, false] rfl)
    · refine w_aload_n rfl rfl ?_
      refine w_aload_n rfl rfl ?_
      refine x_gfI rfl s_428 rfl (kk := 82) rfl rfl ?_
      refine w_callV (t' := 0) [(0, m2 428 82)] [] rfl s_428 rfl rfl ?_
      refine w_C.more (Q := fun r3 m3 => _) h (fun r3 m3 h => ?_)
      replace h := id h
      refine w_pop rfl (show (0 : Nat) ≠ 1 by decide) ?_
      refine w_iconst rfl (by decide) ?_
      refine w_istore_n (lv' := [some (2, 428), some (0, 0), none]) rfl rfl rfl ?_
      exact w_W.less h (w_sub [true, true, false] rfl)
theorem xr_m_whole_80 {d : Nat} {l1 : Int} {m : w_M} {Q : Int → w_M → Prop} (h : if l1 < (m 428 112) then (((0 : Int) ≤ l1 ∧ l1 < 201) ∧ (((0 : Int) ≤ l1 ∧ l1 < 200) ∧ (xc_m_numbered d ((w_up m 485 l1 (m 428 5)) 484 l1) (w_32 (l1 + 1)) 0 (w_up m 485 l1 (m 428 5)) (fun r1 m1 => xp_m_whole_80 d (w_32 (l1 + 1)) m1 Q)))) else (xc_m_sayText d 336 m (fun r2 m2 => xc_m_sayNumber d (w_32 ((m2 428 112) + 1)) m2 (fun r3 m3 => xc_m_sayText d 338 m3 (fun r4 m4 => xp_m_whole_150 d (m 428 5) 0 m4 Q))))) : xp_m_whole_80 d l1 m Q := by
  refine w_iload_n rfl rfl ?_
  refine w_aload_n rfl rfl ?_
  refine x_gfI rfl s_428 rfl (kk := 112) rfl rfl ?_
  refine w_icge rfl (w_ite h (fun h => ?_) (fun h => ?_))
  · refine w_aload_n rfl rfl ?_
    refine w_gfC (c := 485) rfl s_428 rfl rfl ?_
    refine w_iload_n rfl rfl ?_
    refine w_aload_n rfl rfl ?_
    refine x_gfI rfl s_428 rfl (kk := 5) rfl rfl ?_
    refine w_iast rfl s_485 (w_EM (by decide)) (n := 201) rfl h.1 ?_
    replace h := h.2
    refine w_aload_n rfl rfl ?_
    refine w_aload_n rfl rfl ?_
    refine w_gfC (c := 484) rfl s_428 rfl rfl ?_
    refine w_iload_n rfl rfl ?_
    refine w_iald rfl s_484 (n := 200) rfl h.1 ?_
    replace h := h.2
    refine w_iload_n rfl rfl ?_
    refine w_iconst rfl (by decide) ?_
    refine w_iadd rfl ?_
    refine w_lconst rfl rfl ?_
    refine w_callV (t' := 3) [(1, 0), (0, w_32 (l1 + 1)), (0, (w_up m 485 l1 (m 428 5)) 484 l1)] [] rfl s_428 rfl rfl ?_
    refine w_C.more (Q := fun r1 m1 => _) h (fun r1 m1 h => ?_)
    replace h := id h
    refine w_iinc (lv' := [some (2, 428), some (0, w_32 (l1 + 1)), none]) rfl rfl rfl rfl ?_
    refine w_goto rfl ?_
    exact w_W.less h (w_sub [true, true, false] rfl)
  · refine w_aload_n rfl rfl ?_
    refine x_gfI rfl s_428 rfl (kk := 5) rfl rfl ?_
    refine w_istore_n (lv' := [some (2, 428), some (0, m 428 5), none]) rfl rfl rfl ?_
    refine w_aload_n rfl rfl ?_
    refine w_ldcwR rfl ?_
    refine w_callV (t' := 3) [(2, 336)] [] rfl s_428 rfl rfl ?_
    refine w_C.more (Q := fun r2 m2 => _) h (fun r2 m2 h => ?_)
    replace h := id h
    refine w_aload_n rfl rfl ?_
    refine w_aload_n rfl rfl ?_
    refine x_gfI rfl s_428 rfl (kk := 112) rfl rfl ?_
    refine w_iconst rfl (by decide) ?_
    refine w_iadd rfl ?_
    refine w_i2l rfl ?_
    refine w_callV (t' := 3) [(1, w_32 ((m2 428 112) + 1))] [] rfl s_428 rfl rfl ?_
    refine w_C.more (Q := fun r3 m3 => _) h (fun r3 m3 h => ?_)
    replace h := id h
    refine w_aload_n rfl rfl ?_
    refine w_ldcwR rfl ?_
    refine w_callV (t' := 3) [(2, 338)] [] rfl s_428 rfl rfl ?_
    refine w_C.more (Q := fun r4 m4 => _) h (fun r4 m4 h => ?_)
    replace h := id h
    refine w_iconst rfl (by decide) ?_
    refine w_istore_n (lv' := [some (2, 428), some (0, m 428 5), some (0, 0)]) rfl rfl rfl ?_
    exact w_W.less h (w_sub [true, true, true] rfl)
theorem xr_m_whole_150 {d : Nat} {l1 l2 : Int} {m : w_M} {Q : Int → w_M → Prop} (h : if l2 < (m 428 112) then (((0 : Int) ≤ l2 ∧ l2 < 201) ∧ (xc_m_sayEntry d (m 485 l2) 0 m (fun r1 m1 => xp_m_whole_150 d l1 (w_32 (l2 + 1)) m1 Q))) else (xc_m_sayText d 324 m (fun r2 m2 => xc_m_sayNumber d (w_32 ((m2 428 112) + 1)) m2 (fun r3 m3 => xc_m_sayText d 340 m3 (fun r4 m4 => if (m4 428 82) = 0 then (xc_m_sayText d 326 m4 (fun r5 m5 => xc_m_finish d l1 m5 (fun r6 m6 => Q r6 m6))) else (xc_m_sayText d 250 m4 (fun r7 m7 => ((0 : Int) ≤ (m7 428 82) ∧ (m7 428 82) < 200) ∧ (xc_m_sayReference d (m7 483 (m7 428 82)) 0 m7 (fun r8 m8 => xc_m_say d 32 m8 (fun r9 m9 => xc_m_sayText d 326 m9 (fun r10 m10 => xc_m_finish d l1 m10 (fun r11 m11 => Q r11 m11)))))))))))) : xp_m_whole_150 d l1 l2 m Q := by
  refine w_iload_n rfl rfl ?_
  refine w_aload_n rfl rfl ?_
  refine x_gfI rfl s_428 rfl (kk := 112) rfl rfl ?_
  refine w_icge rfl (w_ite h (fun h => ?_) (fun h => ?_))
  · refine w_aload_n rfl rfl ?_
    refine w_aload_n rfl rfl ?_
    refine w_gfC (c := 485) rfl s_428 rfl rfl ?_
    refine w_iload_n rfl rfl ?_
    refine w_iald rfl s_485 (n := 201) rfl h.1 ?_
    replace h := h.2
    refine w_i2l rfl ?_
    refine w_lconst rfl rfl ?_
    refine w_callV (t' := 3) [(1, 0), (1, m 485 l2)] [] rfl s_428 rfl rfl ?_
    refine w_C.more (Q := fun r1 m1 => _) h (fun r1 m1 h => ?_)
    replace h := id h
    refine w_iinc (lv' := [some (2, 428), some (0, l1), some (0, w_32 (l2 + 1))]) rfl rfl rfl rfl ?_
    refine w_goto rfl ?_
    exact w_W.less h (w_sub [true, true, true] rfl)
  · refine w_aload_n rfl rfl ?_
    refine w_ldcwR rfl ?_
    refine w_callV (t' := 3) [(2, 324)] [] rfl s_428 rfl rfl ?_
    refine w_C.more (Q := fun r2 m2 => _) h (fun r2 m2 h => ?_)
    replace h := id h
    refine w_aload_n rfl rfl ?_
    refine w_aload_n rfl rfl ?_
    refine x_gfI rfl s_428 rfl (kk := 112) rfl rfl ?_
    refine w_iconst rfl (by decide) ?_
    refine w_iadd rfl ?_
    refine w_i2l rfl ?_
    refine w_callV (t' := 3) [(1, w_32 ((m2 428 112) + 1))] [] rfl s_428 rfl rfl ?_
    refine w_C.more (Q := fun r3 m3 => _) h (fun r3 m3 h => ?_)
    replace h := id h
    refine w_aload_n rfl rfl ?_
    refine w_ldcwR rfl ?_
    refine w_callV (t' := 3) [(2, 340)] [] rfl s_428 rfl rfl ?_
    refine w_C.more (Q := fun r4 m4 => _) h (fun r4 m4 h => ?_)
    replace h := id h
    refine w_aload_n rfl rfl ?_
    refine x_gfI rfl s_428 rfl (kk := 82) rfl rfl ?_
    refine w_ifeq rfl (w_ite h (fun h => ?_) (fun h => ?_))
    · refine w_aload_n rfl rfl ?_
      refine w_ldcwR rfl ?_
      refine w_callV (t' := 3) [(2, 326)] [] rfl s_428 rfl rfl ?_
      refine w_C.more (Q := fun r5 m5 => _) h (fun r5 m5 h => ?_)
      replace h := id h
      refine w_aload_n rfl rfl ?_
      refine w_iload_n rfl rfl ?_
      refine w_callV (t' := 0) [(0, l1)] [] rfl s_428 rfl rfl ?_
      refine w_C.more (Q := fun r6 m6 => _) h (fun r6 m6 h => ?_)
      replace h := id h
      exact w_iret rfl rfl h
    · refine w_aload_n rfl rfl ?_
      refine w_ldcwR rfl ?_
      refine w_callV (t' := 3) [(2, 250)] [] rfl s_428 rfl rfl ?_
      refine w_C.more (Q := fun r7 m7 => _) h (fun r7 m7 h => ?_)
      replace h := id h
      refine w_aload_n rfl rfl ?_
      refine w_aload_n rfl rfl ?_
      refine w_gfC (c := 483) rfl s_428 rfl rfl ?_
      refine w_aload_n rfl rfl ?_
      refine x_gfI rfl s_428 rfl (kk := 82) rfl rfl ?_
      refine w_iald rfl s_483 (n := 200) rfl h.1 ?_
      replace h := h.2
      refine w_lconst rfl rfl ?_
      refine w_callV (t' := 3) [(1, 0), (0, m7 483 (m7 428 82))] [] rfl s_428 rfl rfl ?_
      refine w_C.more (Q := fun r8 m8 => _) h (fun r8 m8 h => ?_)
      replace h := id h
      refine w_aload_n rfl rfl ?_
      refine w_bipush rfl (by decide) ?_
      refine w_callV (t' := 3) [(0, 32)] [] rfl s_428 rfl rfl ?_
      refine w_C.more (Q := fun r9 m9 => _) h (fun r9 m9 h => ?_)
      replace h := id h
      refine w_aload_n rfl rfl ?_
      refine w_ldcwR rfl ?_
      refine w_callV (t' := 3) [(2, 326)] [] rfl s_428 rfl rfl ?_
      refine w_C.more (Q := fun r10 m10 => _) h (fun r10 m10 h => ?_)
      replace h := id h
      refine w_aload_n rfl rfl ?_
      refine w_iload_n rfl rfl ?_
      refine w_callV (t' := 0) [(0, l1)] [] rfl s_428 rfl rfl ?_
      refine w_C.more (Q := fun r11 m11 => _) h (fun r11 m11 h => ?_)
      replace h := id h
      exact w_iret rfl rfl h
theorem xr_m_wholeAt {d : Nat} {l1 l2 l3 : Int} {m : w_M} {Q : Int → w_M → Prop} (h : xc_m_direct d l1 l2 m (fun r1 m1 => if r1 < 0 then (Q l3 m1) else (((0 : Int) ≤ r1 ∧ r1 < 40000) ∧ (if (m1 432 r1) = 2 then (((0 : Int) ≤ r1 ∧ r1 < 40000) ∧ (Q (m1 433 r1) m1)) else (Q (-1) m1))))) : xc_m_wholeAt (d + 1) l1 l2 l3 m Q := by
  refine w_enter (q := 1) (lv := [some (2, 428), some (0, l1), some (2, l2), some (0, l3), none]) rfl rfl rfl ?_
  refine w_aload_n rfl rfl ?_
  refine w_iload_n rfl rfl ?_
  refine w_aload_n rfl rfl ?_
  refine w_callV (t' := 0) [(2, l2), (0, l1)] [] rfl s_428 rfl rfl ?_
  refine w_C.more (Q := fun r1 m1 => _) h (fun r1 m1 h => ?_)
  replace h := id h
  refine w_istore (lv' := [some (2, 428), some (0, l1), some (2, l2), some (0, l3), some (0, r1)]) rfl rfl rfl ?_
  refine w_iload rfl rfl ?_
  refine w_ifge rfl (w_ite h (fun h => ?_) (fun h => ?_))
  · refine w_iload_n rfl rfl ?_
    refine w_goto rfl ?_
    exact w_iret rfl rfl h
  · refine w_aload_n rfl rfl ?_
    refine w_gfC (c := 432) rfl s_428 rfl rfl ?_
    refine w_iload rfl rfl ?_
    refine w_bald rfl s_432 (n := 40000) rfl h.1 ?_
    replace h := h.2
    refine w_iconst rfl (by decide) ?_
    refine w_icne rfl (w_ite h (fun h => ?_) (fun h => ?_))
    · refine w_aload_n rfl rfl ?_
      refine w_gfC (c := 433) rfl s_428 rfl rfl ?_
      refine w_iload rfl rfl ?_
      refine w_iald rfl s_433 (n := 40000) rfl h.1 ?_
      replace h := h.2
      refine w_goto rfl ?_
      exact w_iret rfl rfl h
    · refine w_iconst rfl (by decide) ?_
      exact w_iret rfl rfl h
theorem xr_m_wholeOrReference {d : Nat} {m : w_M} {Q : Int → w_M → Prop} (h : xc_m_token d m (fun r1 m1 => if (m1 428 22) = 1 then (if (m1 428 25) = 0 then (xc_m_token d m1 (fun r2 m2 => xc_m_isWord d 342 m2 (fun r3 m3 => xp_m_wholeOrReference_65 d (m 428 24) (m 428 23) (m 428 21) r3 (m1 428 24) m3 Q))) else (xp_m_wholeOrReference_65 d (m 428 24) (m 428 23) (m 428 21) 0 (m1 428 24) m1 Q)) else (xp_m_wholeOrReference_65 d (m 428 24) (m 428 23) (m 428 21) 0 (m1 428 24) m1 Q))) : xc_m_wholeOrReference (d + 1) m Q := by
  refine w_enter (q := 6) (lv := [some (2, 428), none, none, none, none, none, none]) rfl rfl rfl ?_
  refine w_aload_n rfl rfl ?_
  refine x_gfI rfl s_428 rfl (kk := 24) rfl rfl ?_
  refine w_istore_n (lv' := [some (2, 428), some (0, m 428 24), none, none, none, none, none]) rfl rfl rfl ?_
  refine w_aload_n rfl rfl ?_
  refine x_gfI rfl s_428 rfl (kk := 23) rfl rfl ?_
  refine w_istore_n (lv' := [some (2, 428), some (0, m 428 24), some (0, m 428 23), none, none, none, none]) rfl rfl rfl ?_
  refine w_aload_n rfl rfl ?_
  refine x_gfI rfl s_428 rfl (kk := 21) rfl rfl ?_
  refine w_istore_n (lv' := [some (2, 428), some (0, m 428 24), some (0, m 428 23), some (0, m 428 21), none, none, none]) rfl rfl rfl ?_
  refine w_aload_n rfl rfl ?_
  refine w_callV (t' := 3) [] [] rfl s_428 rfl rfl ?_
  refine w_C.more (Q := fun r1 m1 => _) h (fun r1 m1 h => ?_)
  replace h := id h
  refine w_aload_n rfl rfl ?_
  refine x_gfI rfl s_428 rfl (kk := 22) rfl rfl ?_
  refine w_iconst rfl (by decide) ?_
  refine w_icne rfl (w_ite h (fun h => ?_) (fun h => ?_))
  · refine w_aload_n rfl rfl ?_
    refine x_gfZ rfl s_428 rfl (kk := 25) rfl rfl ?_
    refine w_ifne rfl (w_ite h (fun h => ?_) (fun h => ?_))
    · refine w_iconst rfl (by decide) ?_
      refine w_goto rfl ?_
      refine w_istore (lv' := [some (2, 428), some (0, m 428 24), some (0, m 428 23), some (0, m 428 21), some (0, 1), none, none]) rfl rfl rfl ?_
      refine w_aload_n rfl rfl ?_
      refine x_gfI rfl s_428 rfl (kk := 24) rfl rfl ?_
      refine w_istore (lv' := [some (2, 428), some (0, m 428 24), some (0, m 428 23), some (0, m 428 21), some (0, 1), some (0, m1 428 24), none]) rfl rfl rfl ?_
      refine w_iload rfl rfl ?_
      refine w_ifeq rfl (w_iff (by decide) ?_)
      refine w_aload_n rfl rfl ?_
      refine w_callV (t' := 3) [] [] rfl s_428 rfl rfl ?_
      refine w_C.more (Q := fun r2 m2 => _) h (fun r2 m2 h => ?_)
      replace h := id h
      refine w_aload_n rfl rfl ?_
      refine w_ldcwR rfl ?_
      refine w_callV (t' := 0) [(2, 342)] [] rfl s_428 rfl rfl ?_
      refine w_C.more (Q := fun r3 m3 => _) h (fun r3 m3 h => ?_)
      replace h := id h
      refine w_istore (lv' := [some (2, 428), some (0, m 428 24), some (0, m 428 23), some (0, m 428 21), some (0, r3), some (0, m1 428 24), none]) rfl rfl rfl ?_
      exact w_W.less h (w_sub [true, true, true, true, true, true, false] rfl)
    · refine w_iconst rfl (by decide) ?_
      refine w_istore (lv' := [some (2, 428), some (0, m 428 24), some (0, m 428 23), some (0, m 428 21), some (0, 0), none, none]) rfl rfl rfl ?_
      refine w_aload_n rfl rfl ?_
      refine x_gfI rfl s_428 rfl (kk := 24) rfl rfl ?_
      refine w_istore (lv' := [some (2, 428), some (0, m 428 24), some (0, m 428 23), some (0, m 428 21), some (0, 0), some (0, m1 428 24), none]) rfl rfl rfl ?_
      refine w_iload rfl rfl ?_
      refine w_ifeq rfl (w_ift (by decide) ?_)
      exact w_W.less h (w_sub [true, true, true, true, true, true, false] rfl)
  · refine w_iconst rfl (by decide) ?_
    refine w_istore (lv' := [some (2, 428), some (0, m 428 24), some (0, m 428 23), some (0, m 428 21), some (0, 0), none, none]) rfl rfl rfl ?_
    refine w_aload_n rfl rfl ?_
    refine x_gfI rfl s_428 rfl (kk := 24) rfl rfl ?_
    refine w_istore (lv' := [some (2, 428), some (0, m 428 24), some (0, m 428 23), some (0, m 428 21), some (0, 0), some (0, m1 428 24), none]) rfl rfl rfl ?_
    refine w_iload rfl rfl ?_
    refine w_ifeq rfl (w_ift (by decide) ?_)
    exact w_W.less h (w_sub [true, true, true, true, true, true, false] rfl)
theorem xr_m_wholeOrReference_65 {d : Nat} {l1 l2 l3 l4 l5 : Int} {m : w_M} {Q : Int → w_M → Prop} (h : if l4 = 0 then (xc_m_newNode d 2 l1 (w_up m 428 21 l3) (fun r1 m1 => Q r1 m1)) else (if l1 < 1 then (xc_m_fail d 5 l2 m (fun r2 m2 => Q (-1) m2)) else (if l1 < 200 then (if 65535 < l5 then (xc_m_fail d 5 l2 m (fun r3 m3 => Q (-1) m3)) else (xc_m_newNode d 8 l1 m (fun r4 m4 => ((0 : Int) ≤ r4 ∧ r4 < 40000) ∧ (Q r4 (w_up m4 434 r4 l5))))) else (xc_m_fail d 5 l2 m (fun r5 m5 => Q (-1) m5))))) : xp_m_wholeOrReference_65 d l1 l2 l3 l4 l5 m Q := by
  refine w_iload rfl rfl ?_
  refine w_ifne rfl (w_ite h (fun h => ?_) (fun h => ?_))
  · refine w_aload_n rfl rfl ?_
    refine w_iload_n rfl rfl ?_
    refine w_pfI rfl s_428 rfl (w_EM (by decide)) rfl (kk := 21) rfl ?_
    refine w_aload_n rfl rfl ?_
    refine w_iconst rfl (by decide) ?_
    refine w_iload_n rfl rfl ?_
    refine w_callV (t' := 0) [(0, l1), (0, 2)] [] rfl s_428 rfl rfl ?_
    refine w_C.more (Q := fun r1 m1 => _) h (fun r1 m1 h => ?_)
    replace h := id h
    exact w_iret rfl rfl h
  · refine w_iload_n rfl rfl ?_
    refine w_iconst rfl (by decide) ?_
    refine w_iclt rfl (w_ite h (fun h => ?_) (fun h => ?_))
    · refine w_aload_n rfl rfl ?_
      refine w_iconst rfl (by decide) ?_
      refine w_iload_n rfl rfl ?_
      refine w_callV (t' := 3) [(0, l2), (0, 5)] [] rfl s_428 rfl rfl ?_
      refine w_C.more (Q := fun r2 m2 => _) h (fun r2 m2 h => ?_)
      replace h := id h
      refine w_iconst rfl (by decide) ?_
      exact w_iret rfl rfl h
    · refine w_iload_n rfl rfl ?_
      refine w_sipush rfl (by decide) ?_
      refine w_icge rfl (w_ite h (fun h => ?_) (fun h => ?_))
      · refine w_iload rfl rfl ?_
        refine w_ldcw (a := 65535) rfl (by decide +kernel) (by decide) ?_
        refine w_icle rfl (w_ite h (fun h => ?_) (fun h => ?_))
        · refine w_aload_n rfl rfl ?_
          refine w_iconst rfl (by decide) ?_
          refine w_iload_n rfl rfl ?_
          refine w_callV (t' := 3) [(0, l2), (0, 5)] [] rfl s_428 rfl rfl ?_
          refine w_C.more (Q := fun r3 m3 => _) h (fun r3 m3 h => ?_)
          replace h := id h
          refine w_iconst rfl (by decide) ?_
          exact w_iret rfl rfl h
        · refine w_aload_n rfl rfl ?_
          refine w_bipush rfl (by decide) ?_
          refine w_iload_n rfl rfl ?_
          refine w_callV (t' := 0) [(0, l1), (0, 8)] [] rfl s_428 rfl rfl ?_
          refine w_C.more (Q := fun r4 m4 => _) h (fun r4 m4 h => ?_)
          replace h := id h
          refine w_istore (lv' := [some (2, 428), some (0, l1), some (0, l2), some (0, l3), some (0, l4), some (0, l5), some (0, r4)]) rfl rfl rfl ?_
          refine w_aload_n rfl rfl ?_
          refine w_gfC (c := 434) rfl s_428 rfl rfl ?_
          refine w_iload rfl rfl ?_
          refine w_iload rfl rfl ?_
          refine w_iast rfl s_434 (w_EM (by decide)) (n := 40000) rfl h.1 ?_
          replace h := h.2
          refine w_iload rfl rfl ?_
          exact w_iret rfl rfl h
      · refine w_aload_n rfl rfl ?_
        refine w_iconst rfl (by decide) ?_
        refine w_iload_n rfl rfl ?_
        refine w_callV (t' := 3) [(0, l2), (0, 5)] [] rfl s_428 rfl rfl ?_
        refine w_C.more (Q := fun r5 m5 => _) h (fun r5 m5 h => ?_)
        replace h := id h
        refine w_iconst rfl (by decide) ?_
        exact w_iret rfl rfl h
theorem xr_m_widthOf {d : Nat} {l1 : Int} {m : w_M} {Q : Int → w_M → Prop} (h : if l1 < (m 479 2) then (Q 0 m) else (if (m 479 3) < l1 then (Q 0 m) else (((0 : Int) ≤ (m 479 4) ∧ (m 479 4) < 40000) ∧ (xp_m_widthOf_41 d l1 (m 436 (m 479 4)) (m 479 2) m Q)))) : xc_m_widthOf (d + 1) l1 m Q := by
  refine w_enter (q := 2) (lv := [some (2, 428), some (0, l1), none, none]) rfl rfl rfl ?_
  refine w_iload_n rfl rfl ?_
  refine w_aload_n rfl rfl ?_
  refine w_gfC (c := 479) rfl s_428 rfl rfl ?_
  refine w_iconst rfl (by decide) ?_
  refine w_iald rfl s_479 (n := 9) rfl (by decide) ?_
  refine w_iclt rfl (w_ite h (fun h => ?_) (fun h => ?_))
  · refine w_iconst rfl (by decide) ?_
    exact w_iret rfl rfl h
  · refine w_iload_n rfl rfl ?_
    refine w_aload_n rfl rfl ?_
    refine w_gfC (c := 479) rfl s_428 rfl rfl ?_
    refine w_iconst rfl (by decide) ?_
    refine w_iald rfl s_479 (n := 9) rfl (by decide) ?_
    refine w_icle rfl (w_ite h (fun h => ?_) (fun h => ?_))
    · refine w_iconst rfl (by decide) ?_
      exact w_iret rfl rfl h
    · refine w_aload_n rfl rfl ?_
      refine w_gfC (c := 436) rfl s_428 rfl rfl ?_
      refine w_aload_n rfl rfl ?_
      refine w_gfC (c := 479) rfl s_428 rfl rfl ?_
      refine w_iconst rfl (by decide) ?_
      refine w_iald rfl s_479 (n := 9) rfl (by decide) ?_
      refine w_iald rfl s_436 (n := 40000) rfl h.1 ?_
      replace h := h.2
      refine w_istore_n (lv' := [some (2, 428), some (0, l1), some (0, m 436 (m 479 4)), none]) rfl rfl rfl ?_
      refine w_aload_n rfl rfl ?_
      refine w_gfC (c := 479) rfl s_428 rfl rfl ?_
      refine w_iconst rfl (by decide) ?_
      refine w_iald rfl s_479 (n := 9) rfl (by decide) ?_
      refine w_istore_n (lv' := [some (2, 428), some (0, l1), some (0, m 436 (m 479 4)), some (0, m 479 2)]) rfl rfl rfl ?_
      exact w_W.less h (w_sub [true, true, true, true] rfl)
theorem xr_m_widthOf_41 {d : Nat} {l1 l2 l3 : Int} {m : w_M} {Q : Int → w_M → Prop} (h : if l3 < l1 then (((0 : Int) ≤ l2 ∧ l2 < 40000) ∧ (xp_m_widthOf_41 d l1 (m 437 l2) (w_32 (l3 + 1)) m Q)) else (xc_m_resolve d l2 m (fun r1 m1 => xc_m_unitsOf d r1 m1 (fun r2 m2 => Q r2 m2)))) : xp_m_widthOf_41 d l1 l2 l3 m Q := by
  refine w_iload_n rfl rfl ?_
  refine w_iload_n rfl rfl ?_
  refine w_icge rfl (w_ite h (fun h => ?_) (fun h => ?_))
  · refine w_aload_n rfl rfl ?_
    refine w_gfC (c := 437) rfl s_428 rfl rfl ?_
    refine w_iload_n rfl rfl ?_
    refine w_iald rfl s_437 (n := 40000) rfl h.1 ?_
    replace h := h.2
    refine w_istore_n (lv' := [some (2, 428), some (0, l1), some (0, m 437 l2), some (0, l3)]) rfl rfl rfl ?_
    refine w_iinc (lv' := [some (2, 428), some (0, l1), some (0, m 437 l2), some (0, w_32 (l3 + 1))]) rfl rfl rfl rfl ?_
    refine w_goto rfl ?_
    exact w_W.less h (w_sub [true, true, true, true] rfl)
  · refine w_aload_n rfl rfl ?_
    refine w_aload_n rfl rfl ?_
    refine w_iload_n rfl rfl ?_
    refine w_callV (t' := 0) [(0, l2)] [(2, 428)] rfl s_428 rfl rfl ?_
    refine w_C.more (Q := fun r1 m1 => _) h (fun r1 m1 h => ?_)
    replace h := id h
    refine w_callV (t' := 0) [(0, r1)] [] rfl s_428 rfl rfl ?_
    refine w_C.more (Q := fun r2 m2 => _) h (fun r2 m2 h => ?_)
    replace h := id h
    exact w_iret rfl rfl h
theorem xr_m_word {d : Nat} {m : w_M} {Q : Int → w_M → Prop} (h : xp_m_word_2 d 0 m Q) : xc_m_word (d + 1) m Q := by
  refine w_enter (q := 1) (lv := [some (2, 428), none]) rfl rfl rfl ?_
  refine w_iconst rfl (by decide) ?_
  refine w_istore_n (lv' := [some (2, 428), some (0, 0)]) rfl rfl rfl ?_
  exact w_W.less h (w_sub [true, true] rfl)
theorem xr_m_word_2 {d : Nat} {l1 : Int} {m : w_M} {Q : Int → w_M → Prop} (h : if l1 < 47 then (((0 : Int) ≤ l1 ∧ l1 < 47) ∧ 0 ≤ m 482 l1 ∧ (xc_m_isWord d (m 482 l1) m (fun r1 m1 => if r1 = 0 then (xp_m_word_2 d (w_32 (l1 + 1)) m1 Q) else (((0 : Int) ≤ l1 ∧ l1 < 47) ∧ 0 ≤ m1 482 l1 ∧ (Q (m1 482 l1) m1))))) else (Q 344 m)) : xp_m_word_2 d l1 m Q := by
  refine w_iload_n rfl rfl ?_
  refine w_aload_n rfl rfl ?_
  refine w_gfC (c := 482) rfl s_428 rfl rfl ?_
  refine w_len rfl s_482 (by decide) (n := 47) rfl (by decide) ?_
  refine w_icge rfl (w_ite h (fun h => ?_) (fun h => ?_))
  · refine w_aload_n rfl rfl ?_
    refine w_aload_n rfl rfl ?_
    refine w_gfC (c := 482) rfl s_428 rfl rfl ?_
    refine w_iload_n rfl rfl ?_
    refine w_aald rfl s_482 (w_EM (by decide)) (n := 47) rfl h.1 h.2.1 ?_
    replace h := h.2.2
    refine w_callV (t' := 0) [(2, m 482 l1)] [] rfl s_428 rfl rfl ?_
    refine w_C.more (Q := fun r1 m1 => _) h (fun r1 m1 h => ?_)
    replace h := id h
    refine w_ifeq rfl (w_ite h (fun h => ?_) (fun h => ?_))
    · refine w_iinc (lv' := [some (2, 428), some (0, w_32 (l1 + 1))]) rfl rfl rfl rfl ?_
      refine w_goto rfl ?_
      exact w_W.less h (w_sub [true, true] rfl)
    · refine w_aload_n rfl rfl ?_
      refine w_gfC (c := 482) rfl s_428 rfl rfl ?_
      refine w_iload_n rfl rfl ?_
      refine w_aald rfl s_482 (w_EM (by decide)) (n := 47) rfl h.1 h.2.1 ?_
      replace h := h.2.2
      exact w_aret rfl rfl h
  · refine w_ldcwR rfl ?_
    exact w_aret rfl rfl h
theorem xr_m_write {d : Nat} {l1 : Int} {m : w_M} {Q : Int → w_M → Prop} (h : ((0 : Int) ≤ l1 ∧ l1 < 40000) ∧ (if (m 432 l1) = 0 then (xc_m_sayText d 266 m (fun r1 m1 => Q 0 m1)) else (if (m 432 l1) = 1 then (((0 : Int) ≤ l1 ∧ l1 < 40000) ∧ (if (m 433 l1) = 1 then (xc_m_sayText d 268 m (fun r2 m2 => Q 0 m2)) else (xc_m_sayText d 270 m (fun r3 m3 => Q 0 m3)))) else (if (m 432 l1) = 2 then (((0 : Int) ≤ l1 ∧ l1 < 40000) ∧ (xc_m_sayNumber d (m 433 l1) m (fun r4 m4 => Q 0 m4))) else (if (m 432 l1) = 3 then (((0 : Int) ≤ l1 ∧ l1 < 40000) ∧ (xc_m_sayReal d (m 433 l1) m (fun r5 m5 => Q 0 m5))) else (if (m 432 l1) = 4 then (((0 : Int) ≤ l1 ∧ l1 < 40000) ∧ (((0 : Int) ≤ l1 ∧ l1 < 40000) ∧ (xc_m_sayName d (m 436 l1) (m 435 l1) m (fun r6 m6 => Q 0 m6)))) else (if (m 432 l1) = 5 then (xc_m_sayString d l1 m (fun r7 m7 => Q 0 m7)) else (if (m 432 l1) = 6 then (xc_m_sayText d 346 m (fun r8 m8 => ((0 : Int) ≤ l1 ∧ l1 < 40000) ∧ (xp_m_write_156 d (m8 436 l1) m8 Q))) else (if (m 432 l1) = 7 then (xc_m_sayText d 262 m (fun r9 m9 => xc_m_entries2 d l1 0 m9 (fun r10 m10 => xc_m_sayText d 348 m10 (fun r11 m11 => Q 0 m11)))) else (xc_m_reference d l1 m (fun r12 m12 => Q 0 m12))))))))))) : xc_m_write (d + 1) l1 m Q := by
  refine w_enter (q := 1) (lv := [some (2, 428), some (0, l1), none]) rfl rfl rfl ?_
  refine w_aload_n rfl rfl ?_
  refine w_gfC (c := 432) rfl s_428 rfl rfl ?_
  refine w_iload_n rfl rfl ?_
  refine w_bald rfl s_432 (n := 40000) rfl h.1 ?_
  replace h := h.2
  refine w_tswitch (pd := 213) [(0, 52), (1, 62), (2, 88), (3, 102), (4, 115), (5, 134), (6, 142), (7, 190)] rfl rfl (by decide) (w_tsw_ok _ _ (by decide)) (by decide) ?_
  refine w_ite h (fun h => ?_) (fun h => ?_)
  · refine w_aload_n rfl rfl ?_
    refine w_ldcwR rfl ?_
    refine w_callV (t' := 3) [(2, 266)] [] rfl s_428 rfl rfl ?_
    refine w_C.more (Q := fun r1 m1 => _) h (fun r1 m1 h => ?_)
    replace h := id h
    refine w_goto rfl ?_
    exact w_vret rfl rfl h
  ·
    refine w_ite h (fun h => ?_) (fun h => ?_)
    · refine w_aload_n rfl rfl ?_
      refine w_aload_n rfl rfl ?_
      refine w_gfC (c := 433) rfl s_428 rfl rfl ?_
      refine w_iload_n rfl rfl ?_
      refine w_iald rfl s_433 (n := 40000) rfl h.1 ?_
      replace h := h.2
      refine w_iconst rfl (by decide) ?_
      refine w_icne rfl (w_ite h (fun h => ?_) (fun h => ?_))
      · refine w_ldcwR rfl ?_
        refine w_goto rfl ?_
        refine w_callV (t' := 3) [(2, 268)] [] rfl s_428 rfl rfl ?_
        refine w_C.more (Q := fun r2 m2 => _) h (fun r2 m2 h => ?_)
        replace h := id h
        refine w_goto rfl ?_
        exact w_vret rfl rfl h
      · refine w_ldcwR rfl ?_
        refine w_callV (t' := 3) [(2, 270)] [] rfl s_428 rfl rfl ?_
        refine w_C.more (Q := fun r3 m3 => _) h (fun r3 m3 h => ?_)
        replace h := id h
        refine w_goto rfl ?_
        exact w_vret rfl rfl h
    ·
      refine w_ite h (fun h => ?_) (fun h => ?_)
      · refine w_aload_n rfl rfl ?_
        refine w_aload_n rfl rfl ?_
        refine w_gfC (c := 433) rfl s_428 rfl rfl ?_
        refine w_iload_n rfl rfl ?_
        refine w_iald rfl s_433 (n := 40000) rfl h.1 ?_
        replace h := h.2
        refine w_i2l rfl ?_
        refine w_callV (t' := 3) [(1, m 433 l1)] [] rfl s_428 rfl rfl ?_
        refine w_C.more (Q := fun r4 m4 => _) h (fun r4 m4 h => ?_)
        replace h := id h
        refine w_goto rfl ?_
        exact w_vret rfl rfl h
      ·
        refine w_ite h (fun h => ?_) (fun h => ?_)
        · refine w_aload_n rfl rfl ?_
          refine w_aload_n rfl rfl ?_
          refine w_gfC (c := 433) rfl s_428 rfl rfl ?_
          refine w_iload_n rfl rfl ?_
          refine w_iald rfl s_433 (n := 40000) rfl h.1 ?_
          replace h := h.2
          refine w_callV (t' := 3) [(0, m 433 l1)] [] rfl s_428 rfl rfl ?_
          refine w_C.more (Q := fun r5 m5 => _) h (fun r5 m5 h => ?_)
          replace h := id h
          refine w_goto rfl ?_
          exact w_vret rfl rfl h
        ·
          refine w_ite h (fun h => ?_) (fun h => ?_)
          · refine w_aload_n rfl rfl ?_
            refine w_aload_n rfl rfl ?_
            refine w_gfC (c := 436) rfl s_428 rfl rfl ?_
            refine w_iload_n rfl rfl ?_
            refine w_iald rfl s_436 (n := 40000) rfl h.1 ?_
            replace h := h.2
            refine w_aload_n rfl rfl ?_
            refine w_gfC (c := 435) rfl s_428 rfl rfl ?_
            refine w_iload_n rfl rfl ?_
            refine w_iald rfl s_435 (n := 40000) rfl h.1 ?_
            replace h := h.2
            refine w_callV (t' := 3) [(0, m 435 l1), (0, m 436 l1)] [] rfl s_428 rfl rfl ?_
            refine w_C.more (Q := fun r6 m6 => _) h (fun r6 m6 h => ?_)
            replace h := id h
            refine w_goto rfl ?_
            exact w_vret rfl rfl h
          ·
            refine w_ite h (fun h => ?_) (fun h => ?_)
            · refine w_aload_n rfl rfl ?_
              refine w_iload_n rfl rfl ?_
              refine w_callV (t' := 3) [(0, l1)] [] rfl s_428 rfl rfl ?_
              refine w_C.more (Q := fun r7 m7 => _) h (fun r7 m7 h => ?_)
              replace h := id h
              refine w_goto rfl ?_
              exact w_vret rfl rfl h
            ·
              refine w_ite h (fun h => ?_) (fun h => ?_)
              · refine w_aload_n rfl rfl ?_
                refine w_ldcwR rfl ?_
                refine w_callV (t' := 3) [(2, 346)] [] rfl s_428 rfl rfl ?_
                refine w_C.more (Q := fun r8 m8 => _) h (fun r8 m8 h => ?_)
                replace h := id h
                refine w_aload_n rfl rfl ?_
                refine w_gfC (c := 436) rfl s_428 rfl rfl ?_
                refine w_iload_n rfl rfl ?_
                refine w_iald rfl s_436 (n := 40000) rfl h.1 ?_
                replace h := h.2
                refine w_istore_n (lv' := [some (2, 428), some (0, l1), some (0, m8 436 l1)]) rfl rfl rfl ?_
                exact w_W.less h (w_sub [true, false, true] rfl)
              ·
                refine w_ite h (fun h => ?_) (fun h => ?_)
                · refine w_aload_n rfl rfl ?_
                  refine w_ldcwR rfl ?_
                  refine w_callV (t' := 3) [(2, 262)] [] rfl s_428 rfl rfl ?_
                  refine w_C.more (Q := fun r9 m9 => _) h (fun r9 m9 h => ?_)
                  replace h := id h
                  refine w_aload_n rfl rfl ?_
                  refine w_iload_n rfl rfl ?_
                  refine w_iconst rfl (by decide) ?_
                  refine w_callV (t' := 3) [(0, 0), (0, l1)] [] rfl s_428 rfl rfl ?_
                  refine w_C.more (Q := fun r10 m10 => _) h (fun r10 m10 h => ?_)
                  replace h := id h
                  refine w_aload_n rfl rfl ?_
                  refine w_ldcwR rfl ?_
                  refine w_callV (t' := 3) [(2, 348)] [] rfl s_428 rfl rfl ?_
                  refine w_C.more (Q := fun r11 m11 => _) h (fun r11 m11 h => ?_)
                  replace h := id h
                  refine w_goto rfl ?_
                  exact w_vret rfl rfl h
                · refine w_aload_n rfl rfl ?_
                  refine w_iload_n rfl rfl ?_
                  refine w_callV (t' := 3) [(0, l1)] [] rfl s_428 rfl rfl ?_
                  refine w_C.more (Q := fun r12 m12 => _) h (fun r12 m12 h => ?_)
                  replace h := id h
                  exact w_vret rfl rfl h
theorem xr_m_write_156 {d : Nat} {l2 : Int} {m : w_M} {Q : Int → w_M → Prop} (h : if l2 < 0 then (xc_m_say d 93 m (fun r1 m1 => Q 0 m1)) else (xc_m_write d l2 m (fun r2 m2 => xc_m_say d 32 m2 (fun r3 m3 => ((0 : Int) ≤ l2 ∧ l2 < 40000) ∧ (xp_m_write_156 d (m3 437 l2) m3 Q))))) : xp_m_write_156 d l2 m Q := by
  refine w_iload_n rfl rfl ?_
  refine w_iflt rfl (w_ite h (fun h => ?_) (fun h => ?_))
  · refine w_aload_n rfl rfl ?_
    refine w_bipush rfl (by decide) ?_
    refine w_callV (t' := 3) [(0, 93)] [] rfl s_428 rfl rfl ?_
    refine w_C.more (Q := fun r1 m1 => _) h (fun r1 m1 h => ?_)
    replace h := id h
    refine w_goto rfl ?_
    exact w_vret rfl rfl h
  · refine w_aload_n rfl rfl ?_
    refine w_iload_n rfl rfl ?_
    refine w_callV (t' := 3) [(0, l2)] [] rfl s_428 rfl rfl ?_
    refine w_C.more (Q := fun r2 m2 => _) h (fun r2 m2 h => ?_)
    replace h := id h
    refine w_aload_n rfl rfl ?_
    refine w_bipush rfl (by decide) ?_
    refine w_callV (t' := 3) [(0, 32)] [] rfl s_428 rfl rfl ?_
    refine w_C.more (Q := fun r3 m3 => _) h (fun r3 m3 h => ?_)
    replace h := id h
    refine w_aload_n rfl rfl ?_
    refine w_gfC (c := 437) rfl s_428 rfl rfl ?_
    refine w_iload_n rfl rfl ?_
    refine w_iald rfl s_437 (n := 40000) rfl h.1 ?_
    replace h := h.2
    refine w_istore_n (lv' := [some (2, 428), none, some (0, m3 437 l2)]) rfl rfl rfl ?_
    refine w_goto rfl ?_
    exact w_W.less h (w_sub [true, false, true] rfl)
