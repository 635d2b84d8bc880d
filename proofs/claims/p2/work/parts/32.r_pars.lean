/-! ===== regions (printed by program): ps_.* ===== -/
set_option maxRecDepth 100000
theorem xr_ps_at {d : Nat} {l0 l1 : Int} {m : w_M} {Q : Int → w_M → Prop} (hl0 : w_isP l0) (h : if l1 < (m l0 3) then (Q (-1) m) else (if l1 < (m l0 5) then ((0 : Int) ≤ (m l0 2) ∧ (w_isR (m l0 2) ∧ (if l1 < (w_ln (m l0 2)) then ((0 : Int) ≤ (m l0 2) ∧ (w_isA 1 (m l0 2) ∧ ((0 : Int) ≤ l1 ∧ l1 < w_ln (m l0 2)) ∧ (Q ((m (m l0 2) l1) % 256) m))) else (Q (-1) m)))) else (Q (-1) m))) : xc_ps_at (d + 1) l0 l1 m Q := by
  refine w_enter (q := 0) (lv := [some (2, l0), some (0, l1)]) rfl rfl rfl ?_
  refine w_iload_n rfl rfl ?_
  refine w_aload_n rfl rfl ?_
  refine x_gfI rfl (s_P hl0) rfl (kk := 3) rfl rfl ?_
  refine w_iclt rfl (w_ite h (fun h => ?_) (fun h => ?_))
  · refine w_iconst rfl (by decide) ?_
    exact w_iret rfl rfl h
  · refine w_iload_n rfl rfl ?_
    refine w_aload_n rfl rfl ?_
    refine x_gfI rfl (s_P hl0) rfl (kk := 5) rfl rfl ?_
    refine w_icge rfl (w_ite h (fun h => ?_) (fun h => ?_))
    · refine w_iload_n rfl rfl ?_
      refine w_aload_n rfl rfl ?_
      refine x_gfR rfl (s_P hl0) rfl (kk := 2) rfl rfl h.1 ?_
      replace h := h.2
      refine x_len rfl h.1 ?_
      replace h := h.2
      refine w_icge rfl (w_ite h (fun h => ?_) (fun h => ?_))
      · refine w_aload_n rfl rfl ?_
        refine x_gfR rfl (s_P hl0) rfl (kk := 2) rfl rfl h.1 ?_
        replace h := h.2
        refine w_iload_n rfl rfl ?_
        refine x_bald rfl h.1 h.2.1 ?_
        replace h := h.2.2
        refine w_sipush rfl (by decide) ?_
        refine w_iandm 8 (c := 256) rfl (by decide) rfl rfl ?_
        refine w_goto rfl ?_
        exact w_iret rfl rfl h
      · refine w_iconst rfl (by decide) ?_
        exact w_iret rfl rfl h
    · refine w_iconst rfl (by decide) ?_
      exact w_iret rfl rfl h
theorem xr_ps_body {d : Nat} {l0 : Int} {m : w_M} {Q : Int → w_M → Prop} (hl0 : w_isP l0) (h : xc_ps_at d l0 (m l0 4) m (fun r1 m1 => if r1 = 13 then (xc_ps_at d l0 (w_32 ((m1 l0 4) + 1)) m1 (fun r2 m2 => if r2 = 10 then (Q (w_32 ((m2 l0 4) + 2)) m2) else (xc_ps_at d l0 (m2 l0 4) m2 (fun r3 m3 => if r3 = 10 then (Q (w_32 ((m3 l0 4) + 1)) m3) else (Q (-1) m3))))) else (xc_ps_at d l0 (m1 l0 4) m1 (fun r4 m4 => if r4 = 10 then (Q (w_32 ((m4 l0 4) + 1)) m4) else (Q (-1) m4))))) : xc_ps_body (d + 1) l0 m Q := by
  refine w_enter (q := 0) (lv := [some (2, l0)]) rfl rfl rfl ?_
  refine w_aload_n rfl rfl ?_
  refine w_aload_n rfl rfl ?_
  refine x_gfI rfl (s_P hl0) rfl (kk := 4) rfl rfl ?_
  refine w_callV (t' := 0) [(0, m l0 4)] [] rfl (s_P hl0) rfl rfl ?_
  refine w_C.more (Q := fun r1 m1 => _) h (fun r1 m1 h => ?_)
  replace h := id h
  refine w_bipush rfl (by decide) ?_
  refine w_icne rfl (w_ite h (fun h => ?_) (fun h => ?_))
  · refine w_aload_n rfl rfl ?_
    refine w_aload_n rfl rfl ?_
    refine x_gfI rfl (s_P hl0) rfl (kk := 4) rfl rfl ?_
    refine w_iconst rfl (by decide) ?_
    refine w_iadd rfl ?_
    refine w_callV (t' := 0) [(0, w_32 ((m1 l0 4) + 1))] [] rfl (s_P hl0) rfl rfl ?_
    refine w_C.more (Q := fun r2 m2 => _) h (fun r2 m2 h => ?_)
    replace h := id h
    refine w_bipush rfl (by decide) ?_
    refine w_icne rfl (w_ite h (fun h => ?_) (fun h => ?_))
    · refine w_aload_n rfl rfl ?_
      refine x_gfI rfl (s_P hl0) rfl (kk := 4) rfl rfl ?_
      refine w_iconst rfl (by decide) ?_
      refine w_iadd rfl ?_
      exact w_iret rfl rfl h
    · refine w_aload_n rfl rfl ?_
      refine w_aload_n rfl rfl ?_
      refine x_gfI rfl (s_P hl0) rfl (kk := 4) rfl rfl ?_
      refine w_callV (t' := 0) [(0, m2 l0 4)] [] rfl (s_P hl0) rfl rfl ?_
      refine w_C.more (Q := fun r3 m3 => _) h (fun r3 m3 h => ?_)
      replace h := id h
      refine w_bipush rfl (by decide) ?_
      refine w_icne rfl (w_ite h (fun h => ?_) (fun h => ?_))
      · refine w_aload_n rfl rfl ?_
        refine x_gfI rfl (s_P hl0) rfl (kk := 4) rfl rfl ?_
        refine w_iconst rfl (by decide) ?_
        refine w_iadd rfl ?_
        refine w_goto rfl ?_
        exact w_iret rfl rfl h
      · refine w_iconst rfl (by decide) ?_
        exact w_iret rfl rfl h
  · refine w_aload_n rfl rfl ?_
    refine w_aload_n rfl rfl ?_
    refine x_gfI rfl (s_P hl0) rfl (kk := 4) rfl rfl ?_
    refine w_callV (t' := 0) [(0, m1 l0 4)] [] rfl (s_P hl0) rfl rfl ?_
    refine w_C.more (Q := fun r4 m4 => _) h (fun r4 m4 h => ?_)
    replace h := id h
    refine w_bipush rfl (by decide) ?_
    refine w_icne rfl (w_ite h (fun h => ?_) (fun h => ?_))
    · refine w_aload_n rfl rfl ?_
      refine x_gfI rfl (s_P hl0) rfl (kk := 4) rfl rfl ?_
      refine w_iconst rfl (by decide) ?_
      refine w_iadd rfl ?_
      refine w_goto rfl ?_
      exact w_iret rfl rfl h
    · refine w_iconst rfl (by decide) ?_
      exact w_iret rfl rfl h
theorem xr_ps_closes {d : Nat} {l0 l1 l2 : Int} {m : w_M} {Q : Int → w_M → Prop} (hl0 : w_isP l0) (h : if l1 < 0 then (Q 0 m) else (if l2 < 0 then (Q 0 m) else (if (w_32 ((m l0 5) - l1)) < l2 then (Q 0 m) else (xc_ps_word d l0 12 (w_up m l0 4 (w_32 (l1 + l2))) (fun r1 m1 => if r1 = 0 then (Q 0 m1) else (xc_ps_word d l0 14 m1 (fun r2 m2 => if r2 = 0 then (Q 0 m2) else (Q 1 m2)))))))) : xc_ps_closes (d + 1) l0 l1 l2 m Q := by
  refine w_enter (q := 0) (lv := [some (2, l0), some (0, l1), some (0, l2)]) rfl rfl rfl ?_
  refine w_iload_n rfl rfl ?_
  refine w_iflt rfl (w_ite h (fun h => ?_) (fun h => ?_))
  · refine w_iconst rfl (by decide) ?_
    exact w_zret rfl rfl (by decide) h
  · refine w_iload_n rfl rfl ?_
    refine w_iflt rfl (w_ite h (fun h => ?_) (fun h => ?_))
    · refine w_iconst rfl (by decide) ?_
      exact w_zret rfl rfl (by decide) h
    · refine w_iload_n rfl rfl ?_
      refine w_aload_n rfl rfl ?_
      refine x_gfI rfl (s_P hl0) rfl (kk := 5) rfl rfl ?_
      refine w_iload_n rfl rfl ?_
      refine w_isub rfl ?_
      refine w_icle rfl (w_ite h (fun h => ?_) (fun h => ?_))
      · refine w_iconst rfl (by decide) ?_
        exact w_zret rfl rfl (by decide) h
      · refine w_aload_n rfl rfl ?_
        refine w_iload_n rfl rfl ?_
        refine w_iload_n rfl rfl ?_
        refine w_iadd rfl ?_
        refine w_pfI rfl (s_P hl0) rfl (w_EP hl0) rfl (kk := 4) rfl ?_
        refine w_aload_n rfl rfl ?_
        refine w_ldcR rfl ?_
        refine w_callV (t' := 0) [(2, 12)] [] rfl (s_P hl0) rfl rfl ?_
        refine w_C.more (Q := fun r1 m1 => _) h (fun r1 m1 h => ?_)
        replace h := id h
        refine w_ifeq rfl (w_ite h (fun h => ?_) (fun h => ?_))
        · refine w_iconst rfl (by decide) ?_
          exact w_zret rfl rfl (by decide) h
        · refine w_aload_n rfl rfl ?_
          refine w_ldcR rfl ?_
          refine w_callV (t' := 0) [(2, 14)] [] rfl (s_P hl0) rfl rfl ?_
          refine w_C.more (Q := fun r2 m2 => _) h (fun r2 m2 h => ?_)
          replace h := id h
          refine w_ifeq rfl (w_ite h (fun h => ?_) (fun h => ?_))
          · refine w_iconst rfl (by decide) ?_
            exact w_zret rfl rfl (by decide) h
          · refine w_iconst rfl (by decide) ?_
            refine w_goto rfl ?_
            exact w_zret rfl rfl (by decide) h
theorem xr_ps_compound {d : Nat} {l0 l1 l2 : Int} {m : w_M} {Q : Int → w_M → Prop} (hl0 : w_isP l0) (h : if l1 < 20 then (if l2 = 0 then (xc_ps_make d l0 6 (-1) 0 (m l0 4) m (fun r1 m1 => xp_ps_compound_33 d l0 l1 l2 (m l0 4) r1 m1 Q)) else (xc_ps_make d l0 7 (-1) 0 (m l0 4) m (fun r2 m2 => xp_ps_compound_33 d l0 l1 l2 (m l0 4) r2 m2 Q))) else (xp_ps_compound_33 d l0 l1 l2 (m l0 4) (-1) m Q)) : xc_ps_compound (d + 1) l0 l1 l2 m Q := by
  refine w_enter (q := 7) (lv := [some (2, l0), some (0, l1), some (0, l2), none, none, none, none, none, none, none]) rfl rfl rfl ?_
  refine w_aload_n rfl rfl ?_
  refine x_gfI rfl (s_P hl0) rfl (kk := 4) rfl rfl ?_
  refine w_istore_n (lv' := [some (2, l0), some (0, l1), some (0, l2), some (0, m l0 4), none, none, none, none, none, none]) rfl rfl rfl ?_
  refine w_iload_n rfl rfl ?_
  refine w_bipush rfl (by decide) ?_
  refine w_icge rfl (w_ite h (fun h => ?_) (fun h => ?_))
  · refine w_aload_n rfl rfl ?_
    refine w_iload_n rfl rfl ?_
    refine w_ifeq rfl (w_ite h (fun h => ?_) (fun h => ?_))
    · refine w_bipush rfl (by decide) ?_
      refine w_iconst rfl (by decide) ?_
      refine w_iconst rfl (by decide) ?_
      refine w_iload_n rfl rfl ?_
      refine w_callV (t' := 0) [(0, m l0 4), (0, 0), (0, (-1)), (0, 6)] [] rfl (s_P hl0) rfl rfl ?_
      refine w_C.more (Q := fun r1 m1 => _) h (fun r1 m1 h => ?_)
      replace h := id h
      refine w_goto rfl ?_
      exact w_W.less h (w_sub [true, true, true, true, false, false, false, false, false, false] rfl)
    · refine w_bipush rfl (by decide) ?_
      refine w_goto rfl ?_
      refine w_iconst rfl (by decide) ?_
      refine w_iconst rfl (by decide) ?_
      refine w_iload_n rfl rfl ?_
      refine w_callV (t' := 0) [(0, m l0 4), (0, 0), (0, (-1)), (0, 7)] [] rfl (s_P hl0) rfl rfl ?_
      refine w_C.more (Q := fun r2 m2 => _) h (fun r2 m2 h => ?_)
      replace h := id h
      refine w_goto rfl ?_
      exact w_W.less h (w_sub [true, true, true, true, false, false, false, false, false, false] rfl)
  · refine w_iconst rfl (by decide) ?_
    exact w_W.less h (w_sub [true, true, true, true, false, false, false, false, false, false] rfl)
theorem xr_ps_compound_33 {d : Nat} {l0 l1 l2 l3 s0 : Int} {m : w_M} {Q : Int → w_M → Prop} (hl0 : w_isP l0) (h : if s0 < 0 then (xc_ps_failAt d l0 5 l3 m (fun r1 m1 => Q r1 m1)) else (if l2 = 0 then (xp_ps_compound_71 d l0 l1 l2 s0 (-1) 0 (w_up m l0 4 (w_32 ((m l0 4) + 1))) Q) else (xp_ps_compound_71 d l0 l1 l2 s0 (-1) 0 (w_up m l0 4 (w_32 ((m l0 4) + 2))) Q))) : xp_ps_compound_33 d l0 l1 l2 l3 s0 m Q := by
  refine w_istore (lv' := [some (2, l0), some (0, l1), some (0, l2), some (0, l3), some (0, s0), none, none, none, none, none]) rfl rfl rfl ?_
  refine w_iload rfl rfl ?_
  refine w_ifge rfl (w_ite h (fun h => ?_) (fun h => ?_))
  · refine w_aload_n rfl rfl ?_
    refine w_iconst rfl (by decide) ?_
    refine w_iload_n rfl rfl ?_
    refine w_callV (t' := 0) [(0, l3), (0, 5)] [] rfl (s_P hl0) rfl rfl ?_
    refine w_C.more (Q := fun r1 m1 => _) h (fun r1 m1 h => ?_)
    replace h := id h
    exact w_iret rfl rfl h
  · refine w_aload_n rfl rfl ?_
    refine w_dup rfl (show (2 : Nat) ≠ 1 by decide) ?_
    refine x_gfI rfl (s_P hl0) rfl (kk := 4) rfl rfl ?_
    refine w_iload_n rfl rfl ?_
    refine w_ifeq rfl (w_ite h (fun h => ?_) (fun h => ?_))
    · refine w_iconst rfl (by decide) ?_
      refine w_iadd rfl ?_
      refine w_pfI rfl (s_P hl0) rfl (w_EP hl0) rfl (kk := 4) rfl ?_
      refine w_iconst rfl (by decide) ?_
      refine w_istore (lv' := [some (2, l0), some (0, l1), some (0, l2), some (0, l3), some (0, s0), some (0, (-1)), none, none, none, none]) rfl rfl rfl ?_
      refine w_iconst rfl (by decide) ?_
      refine w_istore (lv' := [some (2, l0), some (0, l1), some (0, l2), some (0, l3), some (0, s0), some (0, (-1)), some (0, 0), none, none, none]) rfl rfl rfl ?_
      exact w_W.less h (w_sub [true, true, true, false, true, true, true, false, false, false] rfl)
    · refine w_iconst rfl (by decide) ?_
      refine w_goto rfl ?_
      refine w_iadd rfl ?_
      refine w_pfI rfl (s_P hl0) rfl (w_EP hl0) rfl (kk := 4) rfl ?_
      refine w_iconst rfl (by decide) ?_
      refine w_istore (lv' := [some (2, l0), some (0, l1), some (0, l2), some (0, l3), some (0, s0), some (0, (-1)), none, none, none, none]) rfl rfl rfl ?_
      refine w_iconst rfl (by decide) ?_
      refine w_istore (lv' := [some (2, l0), some (0, l1), some (0, l2), some (0, l3), some (0, s0), some (0, (-1)), some (0, 0), none, none, none]) rfl rfl rfl ?_
      exact w_W.less h (w_sub [true, true, true, false, true, true, true, false, false, false] rfl)
theorem xr_ps_compound_71 {d : Nat} {l0 l1 l2 l4 l5 l6 : Int} {m : w_M} {Q : Int → w_M → Prop} (hl0 : w_isP l0) (h : if 6000 < l6 then (Q (-1) m) else (xc_ps_skipWhite d l0 m (fun r1 m1 => if l2 = 0 then (xc_ps_at d l0 (m1 l0 4) m1 (fun r2 m2 => if r2 = 93 then (if l2 = 0 then (Q l4 (w_up m2 l0 4 (w_32 ((m2 l0 4) + 1)))) else (Q l4 (w_up m2 l0 4 (w_32 ((m2 l0 4) + 2))))) else (if l2 = 0 then (xp_ps_compound_184 d l0 l1 l2 l4 l5 l6 (m1 l0 4) (-1) m2 Q) else (xc_ps_at d l0 (m1 l0 4) m2 (fun r3 m3 => if r3 = 47 then (xc_ps_name d l0 m3 (fun r4 m4 => xp_ps_compound_184 d l0 l1 l2 l4 l5 l6 (m1 l0 4) r4 m4 Q)) else (xc_ps_noKey d l0 (m1 l0 4) m3 (fun r5 m5 => xp_ps_compound_184 d l0 l1 l2 l4 l5 l6 (m1 l0 4) r5 m5 Q))))))) else (xc_ps_at d l0 (m1 l0 4) m1 (fun r6 m6 => if r6 = 62 then (xc_ps_at d l0 (w_32 ((m1 l0 4) + 1)) m6 (fun r7 m7 => if r7 = 62 then (if l2 = 0 then (Q l4 (w_up m7 l0 4 (w_32 ((m7 l0 4) + 1)))) else (Q l4 (w_up m7 l0 4 (w_32 ((m7 l0 4) + 2))))) else (if l2 = 0 then (xp_ps_compound_184 d l0 l1 l2 l4 l5 l6 (m1 l0 4) (-1) m7 Q) else (xc_ps_at d l0 (m1 l0 4) m7 (fun r8 m8 => if r8 = 47 then (xc_ps_name d l0 m8 (fun r9 m9 => xp_ps_compound_184 d l0 l1 l2 l4 l5 l6 (m1 l0 4) r9 m9 Q)) else (xc_ps_noKey d l0 (m1 l0 4) m8 (fun r10 m10 => xp_ps_compound_184 d l0 l1 l2 l4 l5 l6 (m1 l0 4) r10 m10 Q))))))) else (if l2 = 0 then (xp_ps_compound_184 d l0 l1 l2 l4 l5 l6 (m1 l0 4) (-1) m6 Q) else (xc_ps_at d l0 (m1 l0 4) m6 (fun r11 m11 => if r11 = 47 then (xc_ps_name d l0 m11 (fun r12 m12 => xp_ps_compound_184 d l0 l1 l2 l4 l5 l6 (m1 l0 4) r12 m12 Q)) else (xc_ps_noKey d l0 (m1 l0 4) m11 (fun r13 m13 => xp_ps_compound_184 d l0 l1 l2 l4 l5 l6 (m1 l0 4) r13 m13 Q)))))))))) : xp_ps_compound_71 d l0 l1 l2 l4 l5 l6 m Q := by
  refine w_iload rfl rfl ?_
  refine w_sipush rfl (by decide) ?_
  refine w_icgt rfl (w_ite h (fun h => ?_) (fun h => ?_))
  · refine w_iconst rfl (by decide) ?_
    exact w_iret rfl rfl h
  · refine w_aload_n rfl rfl ?_
    refine w_callV (t' := 3) [] [] rfl (s_P hl0) rfl rfl ?_
    refine w_C.more (Q := fun r1 m1 => _) h (fun r1 m1 h => ?_)
    replace h := id h
    refine w_aload_n rfl rfl ?_
    refine x_gfI rfl (s_P hl0) rfl (kk := 4) rfl rfl ?_
    refine w_istore (lv' := [some (2, l0), some (0, l1), some (0, l2), none, some (0, l4), some (0, l5), some (0, l6), some (0, m1 l0 4), none, none]) rfl rfl rfl ?_
    refine w_iload_n rfl rfl ?_
    refine w_ifeq rfl (w_ite h (fun h => ?_) (fun h => ?_))
    · refine w_aload_n rfl rfl ?_
      refine w_iload rfl rfl ?_
      refine w_callV (t' := 0) [(0, m1 l0 4)] [] rfl (s_P hl0) rfl rfl ?_
      refine w_C.more (Q := fun r2 m2 => _) h (fun r2 m2 h => ?_)
      replace h := id h
      refine w_bipush rfl (by decide) ?_
      refine w_icne rfl (w_ite h (fun h => ?_) (fun h => ?_))
      · refine w_aload_n rfl rfl ?_
        refine w_dup rfl (show (2 : Nat) ≠ 1 by decide) ?_
        refine x_gfI rfl (s_P hl0) rfl (kk := 4) rfl rfl ?_
        refine w_iload_n rfl rfl ?_
        refine w_ifeq rfl (w_ite h (fun h => ?_) (fun h => ?_))
        · refine w_iconst rfl (by decide) ?_
          refine w_iadd rfl ?_
          refine w_pfI rfl (s_P hl0) rfl (w_EP hl0) rfl (kk := 4) rfl ?_
          refine w_iload rfl rfl ?_
          exact w_iret rfl rfl h
        · refine w_iconst rfl (by decide) ?_
          refine w_goto rfl ?_
          refine w_iadd rfl ?_
          refine w_pfI rfl (s_P hl0) rfl (w_EP hl0) rfl (kk := 4) rfl ?_
          refine w_iload rfl rfl ?_
          exact w_iret rfl rfl h
      · refine w_iload_n rfl rfl ?_
        refine w_ifne rfl (w_ite h (fun h => ?_) (fun h => ?_))
        · refine w_iconst rfl (by decide) ?_
          refine w_goto rfl ?_
          exact w_W.less h (w_sub [true, true, true, false, true, true, true, true, false, false] rfl)
        · refine w_aload_n rfl rfl ?_
          refine w_iload rfl rfl ?_
          refine w_callV (t' := 0) [(0, m1 l0 4)] [] rfl (s_P hl0) rfl rfl ?_
          refine w_C.more (Q := fun r3 m3 => _) h (fun r3 m3 h => ?_)
          replace h := id h
          refine w_bipush rfl (by decide) ?_
          refine w_icne rfl (w_ite h (fun h => ?_) (fun h => ?_))
          · refine w_aload_n rfl rfl ?_
            refine w_callV (t' := 0) [] [] rfl (s_P hl0) rfl rfl ?_
            refine w_C.more (Q := fun r4 m4 => _) h (fun r4 m4 h => ?_)
            replace h := id h
            refine w_goto rfl ?_
            exact w_W.less h (w_sub [true, true, true, false, true, true, true, true, false, false] rfl)
          · refine w_aload_n rfl rfl ?_
            refine w_iload rfl rfl ?_
            refine w_callV (t' := 0) [(0, m1 l0 4)] [] rfl (s_P hl0) rfl rfl ?_
            refine w_C.more (Q := fun r5 m5 => _) h (fun r5 m5 h => ?_)
            replace h := id h
            exact w_W.less h (w_sub [true, true, true, false, true, true, true, true, false, false] rfl)
    · refine w_aload_n rfl rfl ?_
      refine w_iload rfl rfl ?_
      refine w_callV (t' := 0) [(0, m1 l0 4)] [] rfl (s_P hl0) rfl rfl ?_
      refine w_C.more (Q := fun r6 m6 => _) h (fun r6 m6 h => ?_)
      replace h := id h
      refine w_bipush rfl (by decide) ?_
      refine w_icne rfl (w_ite h (fun h => ?_) (fun h => ?_))
      · refine w_aload_n rfl rfl ?_
        refine w_iload rfl rfl ?_
        refine w_iconst rfl (by decide) ?_
        refine w_iadd rfl ?_
        refine w_callV (t' := 0) [(0, w_32 ((m1 l0 4) + 1))] [] rfl (s_P hl0) rfl rfl ?_
        refine w_C.more (Q := fun r7 m7 => _) h (fun r7 m7 h => ?_)
        replace h := id h
        refine w_bipush rfl (by decide) ?_
        refine w_icne rfl (w_ite h (fun h => ?_) (fun h => ?_))
        · refine w_goto rfl ?_
          refine w_aload_n rfl rfl ?_
          refine w_dup rfl (show (2 : Nat) ≠ 1 by decide) ?_
          refine x_gfI rfl (s_P hl0) rfl (kk := 4) rfl rfl ?_
          refine w_iload_n rfl rfl ?_
          refine w_ifeq rfl (w_ite h (fun h => ?_) (fun h => ?_))
          · refine w_iconst rfl (by decide) ?_
            refine w_iadd rfl ?_
            refine w_pfI rfl (s_P hl0) rfl (w_EP hl0) rfl (kk := 4) rfl ?_
            refine w_iload rfl rfl ?_
            exact w_iret rfl rfl h
          · refine w_iconst rfl (by decide) ?_
            refine w_goto rfl ?_
            refine w_iadd rfl ?_
            refine w_pfI rfl (s_P hl0) rfl (w_EP hl0) rfl (kk := 4) rfl ?_
            refine w_iload rfl rfl ?_
            exact w_iret rfl rfl h
        · refine w_iload_n rfl rfl ?_
          refine w_ifne rfl (w_ite h (fun h => ?_) (fun h => ?_))
          · refine w_iconst rfl (by decide) ?_
            refine w_goto rfl ?_
            exact w_W.less h (w_sub [true, true, true, false, true, true, true, true, false, false] rfl)
          · refine w_aload_n rfl rfl ?_
            refine w_iload rfl rfl ?_
            refine w_callV (t' := 0) [(0, m1 l0 4)] [] rfl (s_P hl0) rfl rfl ?_
            refine w_C.more (Q := fun r8 m8 => _) h (fun r8 m8 h => ?_)
            replace h := id h
            refine w_bipush rfl (by decide) ?_
            refine w_icne rfl (w_ite h (fun h => ?_) (fun h => ?_))
            · refine w_aload_n rfl rfl ?_
              refine w_callV (t' := 0) [] [] rfl (s_P hl0) rfl rfl ?_
              refine w_C.more (Q := fun r9 m9 => _) h (fun r9 m9 h => ?_)
              replace h := id h
              refine w_goto rfl ?_
              exact w_W.less h (w_sub [true, true, true, false, true, true, true, true, false, false] rfl)
            · refine w_aload_n rfl rfl ?_
              refine w_iload rfl rfl ?_
              refine w_callV (t' := 0) [(0, m1 l0 4)] [] rfl (s_P hl0) rfl rfl ?_
              refine w_C.more (Q := fun r10 m10 => _) h (fun r10 m10 h => ?_)
              replace h := id h
              exact w_W.less h (w_sub [true, true, true, false, true, true, true, true, false, false] rfl)
      · refine w_iload_n rfl rfl ?_
        refine w_ifne rfl (w_ite h (fun h => ?_) (fun h => ?_))
        · refine w_iconst rfl (by decide) ?_
          refine w_goto rfl ?_
          exact w_W.less h (w_sub [true, true, true, false, true, true, true, true, false, false] rfl)
        · refine w_aload_n rfl rfl ?_
          refine w_iload rfl rfl ?_
          refine w_callV (t' := 0) [(0, m1 l0 4)] [] rfl (s_P hl0) rfl rfl ?_
          refine w_C.more (Q := fun r11 m11 => _) h (fun r11 m11 h => ?_)
          replace h := id h
          refine w_bipush rfl (by decide) ?_
          refine w_icne rfl (w_ite h (fun h => ?_) (fun h => ?_))
          · refine w_aload_n rfl rfl ?_
            refine w_callV (t' := 0) [] [] rfl (s_P hl0) rfl rfl ?_
            refine w_C.more (Q := fun r12 m12 => _) h (fun r12 m12 h => ?_)
            replace h := id h
            refine w_goto rfl ?_
            exact w_W.less h (w_sub [true, true, true, false, true, true, true, true, false, false] rfl)
          · refine w_aload_n rfl rfl ?_
            refine w_iload rfl rfl ?_
            refine w_callV (t' := 0) [(0, m1 l0 4)] [] rfl (s_P hl0) rfl rfl ?_
            refine w_C.more (Q := fun r13 m13 => _) h (fun r13 m13 h => ?_)
            replace h := id h
            exact w_W.less h (w_sub [true, true, true, false, true, true, true, true, false, false] rfl)
theorem xr_ps_compound_184 {d : Nat} {l0 l1 l2 l4 l5 l6 l7 s0 : Int} {m : w_M} {Q : Int → w_M → Prop} (hl0 : w_isP l0) (h : if l2 = 0 then (if l2 = 0 then (xc_ps_object d l0 (w_32 (l1 + 1)) m (fun r1 m1 => xp_ps_compound_234 d l0 l1 l2 l4 l5 l6 s0 r1 m1 Q)) else (if s0 < 0 then (xp_ps_compound_234 d l0 l1 l2 l4 l5 l6 s0 (-1) m Q) else (xc_ps_object d l0 (w_32 (l1 + 1)) m (fun r2 m2 => xp_ps_compound_234 d l0 l1 l2 l4 l5 l6 s0 r2 m2 Q)))) else (if s0 < 0 then (if l2 = 0 then (xc_ps_object d l0 (w_32 (l1 + 1)) m (fun r3 m3 => xp_ps_compound_234 d l0 l1 l2 l4 l5 l6 s0 r3 m3 Q)) else (if s0 < 0 then (xp_ps_compound_234 d l0 l1 l2 l4 l5 l6 s0 (-1) m Q) else (xc_ps_object d l0 (w_32 (l1 + 1)) m (fun r4 m4 => xp_ps_compound_234 d l0 l1 l2 l4 l5 l6 s0 r4 m4 Q)))) else (xc_ps_isTwice d l0 l4 s0 m (fun r5 m5 => if r5 = 0 then (if l2 = 0 then (xc_ps_object d l0 (w_32 (l1 + 1)) m5 (fun r6 m6 => xp_ps_compound_234 d l0 l1 l2 l4 l5 l6 s0 r6 m6 Q)) else (if s0 < 0 then (xp_ps_compound_234 d l0 l1 l2 l4 l5 l6 s0 (-1) m5 Q) else (xc_ps_object d l0 (w_32 (l1 + 1)) m5 (fun r7 m7 => xp_ps_compound_234 d l0 l1 l2 l4 l5 l6 s0 r7 m7 Q)))) else (xc_ps_failAt d l0 5 l7 m5 (fun r8 m8 => Q r8 m8)))))) : xp_ps_compound_184 d l0 l1 l2 l4 l5 l6 l7 s0 m Q := by
  refine w_istore (lv' := [some (2, l0), some (0, l1), some (0, l2), none, some (0, l4), some (0, l5), some (0, l6), some (0, l7), some (0, s0), none]) rfl rfl rfl ?_
  refine w_iload_n rfl rfl ?_
  refine w_ifeq rfl (w_ite h (fun h => ?_) (fun h => ?_))
  · refine w_iload_n rfl rfl ?_
    refine w_ifeq rfl (w_ite h (fun h => ?_) (fun h => ?_))
    · refine w_aload_n rfl rfl ?_
      refine w_iload_n rfl rfl ?_
      refine w_iconst rfl (by decide) ?_
      refine w_iadd rfl ?_
      refine w_callV (t' := 0) [(0, w_32 (l1 + 1))] [] rfl (s_P hl0) rfl rfl ?_
      refine w_C.more (Q := fun r1 m1 => _) h (fun r1 m1 h => ?_)
      replace h := id h
      exact w_W.less h (w_sub [true, true, true, false, true, true, true, false, true, false] rfl)
    · refine w_iload rfl rfl ?_
      refine w_ifge rfl (w_ite h (fun h => ?_) (fun h => ?_))
      · refine w_iconst rfl (by decide) ?_
        refine w_goto rfl ?_
        exact w_W.less h (w_sub [true, true, true, false, true, true, true, false, true, false] rfl)
      · refine w_aload_n rfl rfl ?_
        refine w_iload_n rfl rfl ?_
        refine w_iconst rfl (by decide) ?_
        refine w_iadd rfl ?_
        refine w_callV (t' := 0) [(0, w_32 (l1 + 1))] [] rfl (s_P hl0) rfl rfl ?_
        refine w_C.more (Q := fun r2 m2 => _) h (fun r2 m2 h => ?_)
        replace h := id h
        exact w_W.less h (w_sub [true, true, true, false, true, true, true, false, true, false] rfl)
  · refine w_iload rfl rfl ?_
    refine w_iflt rfl (w_ite h (fun h => ?_) (fun h => ?_))
    · refine w_iload_n rfl rfl ?_
      refine w_ifeq rfl (w_ite h (fun h => ?_) (fun h => ?_))
      · refine w_aload_n rfl rfl ?_
        refine w_iload_n rfl rfl ?_
        refine w_iconst rfl (by decide) ?_
        refine w_iadd rfl ?_
        refine w_callV (t' := 0) [(0, w_32 (l1 + 1))] [] rfl (s_P hl0) rfl rfl ?_
        refine w_C.more (Q := fun r3 m3 => _) h (fun r3 m3 h => ?_)
        replace h := id h
        exact w_W.less h (w_sub [true, true, true, false, true, true, true, false, true, false] rfl)
      · refine w_iload rfl rfl ?_
        refine w_ifge rfl (w_ite h (fun h => ?_) (fun h => ?_))
        · refine w_iconst rfl (by decide) ?_
          refine w_goto rfl ?_
          exact w_W.less h (w_sub [true, true, true, false, true, true, true, false, true, false] rfl)
        · refine w_aload_n rfl rfl ?_
          refine w_iload_n rfl rfl ?_
          refine w_iconst rfl (by decide) ?_
          refine w_iadd rfl ?_
          refine w_callV (t' := 0) [(0, w_32 (l1 + 1))] [] rfl (s_P hl0) rfl rfl ?_
          refine w_C.more (Q := fun r4 m4 => _) h (fun r4 m4 h => ?_)
          replace h := id h
          exact w_W.less h (w_sub [true, true, true, false, true, true, true, false, true, false] rfl)
    · refine w_aload_n rfl rfl ?_
      refine w_iload rfl rfl ?_
      refine w_iload rfl rfl ?_
      refine w_callV (t' := 0) [(0, s0), (0, l4)] [] rfl (s_P hl0) rfl rfl ?_
      refine w_C.more (Q := fun r5 m5 => _) h (fun r5 m5 h => ?_)
      replace h := id h
      refine w_ifeq rfl (w_ite h (fun h => ?_) (fun h => ?_))
      · refine w_iload_n rfl rfl ?_
        refine w_ifeq rfl (w_ite h (fun h => ?_) (fun h => ?_))
        · refine w_aload_n rfl rfl ?_
          refine w_iload_n rfl rfl ?_
          refine w_iconst rfl (by decide) ?_
          refine w_iadd rfl ?_
          refine w_callV (t' := 0) [(0, w_32 (l1 + 1))] [] rfl (s_P hl0) rfl rfl ?_
          refine w_C.more (Q := fun r6 m6 => _) h (fun r6 m6 h => ?_)
          replace h := id h
          exact w_W.less h (w_sub [true, true, true, false, true, true, true, false, true, false] rfl)
        · refine w_iload rfl rfl ?_
          refine w_ifge rfl (w_ite h (fun h => ?_) (fun h => ?_))
          · refine w_iconst rfl (by decide) ?_
            refine w_goto rfl ?_
            exact w_W.less h (w_sub [true, true, true, false, true, true, true, false, true, false] rfl)
          · refine w_aload_n rfl rfl ?_
            refine w_iload_n rfl rfl ?_
            refine w_iconst rfl (by decide) ?_
            refine w_iadd rfl ?_
            refine w_callV (t' := 0) [(0, w_32 (l1 + 1))] [] rfl (s_P hl0) rfl rfl ?_
            refine w_C.more (Q := fun r7 m7 => _) h (fun r7 m7 h => ?_)
            replace h := id h
            exact w_W.less h (w_sub [true, true, true, false, true, true, true, false, true, false] rfl)
      · refine w_aload_n rfl rfl ?_
        refine w_iconst rfl (by decide) ?_
        refine w_iload rfl rfl ?_
        refine w_callV (t' := 0) [(0, l7), (0, 5)] [] rfl (s_P hl0) rfl rfl ?_
        refine w_C.more (Q := fun r8 m8 => _) h (fun r8 m8 h => ?_)
        replace h := id h
        exact w_iret rfl rfl h
theorem xr_ps_compound_234 {d : Nat} {l0 l1 l2 l4 l5 l6 l8 s0 : Int} {m : w_M} {Q : Int → w_M → Prop} (hl0 : w_isP l0) (h : if s0 < 0 then (Q (-1) m) else (xc_st_name d s0 l8 m (fun r1 m1 => xc_st_link d l5 s0 m1 (fun r2 m2 => if l6 = 0 then (xc_st_setParts d l4 s0 (w_32 (l6 + 1)) m2 (fun r3 m3 => xp_ps_compound_71 d l0 l1 l2 l4 s0 (w_32 (l6 + 1)) m3 Q)) else (xc_st_oneOf d l4 m2 (fun r4 m4 => xc_st_setParts d l4 r4 (w_32 (l6 + 1)) m4 (fun r5 m5 => xp_ps_compound_71 d l0 l1 l2 l4 s0 (w_32 (l6 + 1)) m5 Q))))))) : xp_ps_compound_234 d l0 l1 l2 l4 l5 l6 l8 s0 m Q := by
  refine w_istore (lv' := [some (2, l0), some (0, l1), some (0, l2), none, some (0, l4), some (0, l5), some (0, l6), none, some (0, l8), some (0, s0)]) rfl rfl rfl ?_
  refine w_iload rfl rfl ?_
  refine w_ifge rfl (w_ite h (fun h => ?_) (fun h => ?_))
  · refine w_iconst rfl (by decide) ?_
    exact w_iret rfl rfl h
  · refine w_aload_n rfl rfl ?_
    refine w_gfC (c := 359) rfl (s_P hl0) rfl rfl ?_
    refine w_iload rfl rfl ?_
    refine w_iload rfl rfl ?_
    refine w_callV (t' := 3) [(0, l8), (0, s0)] [] rfl s_359 rfl rfl ?_
    refine w_C.more (Q := fun r1 m1 => _) h (fun r1 m1 h => ?_)
    replace h := id h
    refine w_aload_n rfl rfl ?_
    refine w_gfC (c := 359) rfl (s_P hl0) rfl rfl ?_
    refine w_iload rfl rfl ?_
    refine w_iload rfl rfl ?_
    refine w_callV (t' := 3) [(0, s0), (0, l5)] [] rfl s_359 rfl rfl ?_
    refine w_C.more (Q := fun r2 m2 => _) h (fun r2 m2 h => ?_)
    replace h := id h
    refine w_aload_n rfl rfl ?_
    refine w_gfC (c := 359) rfl (s_P hl0) rfl rfl ?_
    refine w_iload rfl rfl ?_
    refine w_iload rfl rfl ?_
    refine w_ifne rfl (w_ite h (fun h => ?_) (fun h => ?_))
    · refine w_iload rfl rfl ?_
      refine w_goto rfl ?_
      refine w_iload rfl rfl ?_
      refine w_iconst rfl (by decide) ?_
      refine w_iadd rfl ?_
      refine w_callV (t' := 3) [(0, w_32 (l6 + 1)), (0, s0), (0, l4)] [] rfl s_359 rfl rfl ?_
      refine w_C.more (Q := fun r3 m3 => _) h (fun r3 m3 h => ?_)
      replace h := id h
      refine w_iload rfl rfl ?_
      refine w_istore (lv' := [some (2, l0), some (0, l1), some (0, l2), none, some (0, l4), some (0, s0), some (0, l6), none, some (0, l8), some (0, s0)]) rfl rfl rfl ?_
      refine w_iinc (lv' := [some (2, l0), some (0, l1), some (0, l2), none, some (0, l4), some (0, s0), some (0, w_32 (l6 + 1)), none, some (0, l8), some (0, s0)]) rfl rfl rfl rfl ?_
      refine w_goto rfl ?_
      exact w_W.less h (w_sub [true, true, true, false, true, true, true, false, false, false] rfl)
    · refine w_aload_n rfl rfl ?_
      refine w_gfC (c := 359) rfl (s_P hl0) rfl rfl ?_
      refine w_iload rfl rfl ?_
      refine w_callV (t' := 0) [(0, l4)] [(0, l4), (2, 359)] rfl s_359 rfl rfl ?_
      refine w_C.more (Q := fun r4 m4 => _) h (fun r4 m4 h => ?_)
      replace h := id h
      refine w_iload rfl rfl ?_
      refine w_iconst rfl (by decide) ?_
      refine w_iadd rfl ?_
      refine w_callV (t' := 3) [(0, w_32 (l6 + 1)), (0, r4), (0, l4)] [] rfl s_359 rfl rfl ?_
      refine w_C.more (Q := fun r5 m5 => _) h (fun r5 m5 h => ?_)
      replace h := id h
      refine w_iload rfl rfl ?_
      refine w_istore (lv' := [some (2, l0), some (0, l1), some (0, l2), none, some (0, l4), some (0, s0), some (0, l6), none, some (0, l8), some (0, s0)]) rfl rfl rfl ?_
      refine w_iinc (lv' := [some (2, l0), some (0, l1), some (0, l2), none, some (0, l4), some (0, s0), some (0, w_32 (l6 + 1)), none, some (0, l8), some (0, s0)]) rfl rfl rfl rfl ?_
      refine w_goto rfl ?_
      exact w_W.less h (w_sub [true, true, true, false, true, true, true, false, false, false] rfl)
theorem xr_ps_countAnew {d : Nat} {l0 : Int} {m : w_M} {Q : Int → w_M → Prop} (hl0 : w_isP l0) (h : Q 0 (w_up (w_up m l0 8 (m 359 6)) l0 9 (m 359 7))) : xc_ps_countAnew (d + 1) l0 m Q := by
  refine w_enter (q := 0) (lv := [some (2, l0)]) rfl rfl rfl ?_
  refine w_aload_n rfl rfl ?_
  refine w_aload_n rfl rfl ?_
  refine w_gfC (c := 359) rfl (s_P hl0) rfl rfl ?_
  refine x_gfI rfl s_359 rfl (kk := 6) rfl rfl ?_
  refine w_pfI rfl (s_P hl0) rfl (w_EP hl0) rfl (kk := 8) rfl ?_
  refine w_aload_n rfl rfl ?_
  refine w_aload_n rfl rfl ?_
  refine w_gfC (c := 359) rfl (s_P hl0) rfl rfl ?_
  refine x_gfI rfl s_359 rfl (kk := 7) rfl (w_up_ne (Ne.symm (w_isP_ne hl0 (by decide)))) ?_
  refine w_pfI rfl (s_P hl0) rfl (w_EP hl0) rfl (kk := 9) rfl ?_
  exact w_vret rfl rfl h
theorem xr_ps_digits {d : Nat} {l0 : Int} {m : w_M} {Q : Int → w_M → Prop} (hl0 : w_isP l0) (h : xc_ps_at d l0 (m l0 4) m (fun r1 m1 => xc_ps_isDigit d r1 m1 (fun r2 m2 => if r2 = 0 then (Q (-1) m2) else (xp_ps_digits_20 d l0 0 m2 Q)))) : xc_ps_digits (d + 1) l0 m Q := by
  refine w_enter (q := 2) (lv := [some (2, l0), none, none]) rfl rfl rfl ?_
  refine w_aload_n rfl rfl ?_
  refine w_aload_n rfl rfl ?_
  refine x_gfI rfl (s_P hl0) rfl (kk := 4) rfl rfl ?_
  refine w_callV (t' := 0) [(0, m l0 4)] [] rfl (s_P hl0) rfl rfl ?_
  refine w_C.more (Q := fun r1 m1 => _) h (fun r1 m1 h => ?_)
  replace h := id h
  refine w_callS (t' := 0) [(0, r1)] [] rfl (by decide) rfl rfl ?_
  refine w_C.more (Q := fun r2 m2 => _) h (fun r2 m2 h => ?_)
  replace h := id h
  refine w_ifne rfl (w_ite h (fun h => ?_) (fun h => ?_))
  · refine w_ldc2 (a := (-1)) rfl (by decide +kernel) (by decide) ?_
    exact w_lret rfl rfl h
  · refine w_lconst rfl rfl ?_
    refine w_lstore_n (lv' := [some (2, l0), some (1, 0), none]) rfl rfl rfl ?_
    exact w_W.less h (w_sub [true, true, false] rfl)
theorem xr_ps_digits_20 {d : Nat} {l0 l1 : Int} {m : w_M} {Q : Int → w_M → Prop} (hl0 : w_isP l0) (h : if (m l0 4) < (m l0 5) then (xc_ps_at d l0 (m l0 4) m (fun r1 m1 => xc_ps_isDigit d r1 m1 (fun r2 m2 => if r2 = 0 then (Q l1 m2) else (xc_ps_at d l0 (m2 l0 4) m2 (fun r3 m3 => xp_ps_digits_20 d l0 (min (w_64 ((w_64 (l1 * 10)) + (w_32 (r3 - 48)))) 1099511627776) (w_up m3 l0 4 (w_32 ((m3 l0 4) + 1))) Q))))) else (Q l1 m)) : xp_ps_digits_20 d l0 l1 m Q := by
  refine w_aload_n rfl rfl ?_
  refine x_gfI rfl (s_P hl0) rfl (kk := 4) rfl rfl ?_
  refine w_aload_n rfl rfl ?_
  refine x_gfI rfl (s_P hl0) rfl (kk := 5) rfl rfl ?_
  refine w_icge rfl (w_ite h (fun h => ?_) (fun h => ?_))
  · refine w_aload_n rfl rfl ?_
    refine w_aload_n rfl rfl ?_
    refine x_gfI rfl (s_P hl0) rfl (kk := 4) rfl rfl ?_
    refine w_callV (t' := 0) [(0, m l0 4)] [] rfl (s_P hl0) rfl rfl ?_
    refine w_C.more (Q := fun r1 m1 => _) h (fun r1 m1 h => ?_)
    replace h := id h
    refine w_callS (t' := 0) [(0, r1)] [] rfl (by decide) rfl rfl ?_
    refine w_C.more (Q := fun r2 m2 => _) h (fun r2 m2 h => ?_)
    replace h := id h
    refine w_ifeq rfl (w_ite h (fun h => ?_) (fun h => ?_))
    · refine w_lload_n rfl rfl ?_
      exact w_lret rfl rfl h
    · refine w_lload_n rfl rfl ?_
      refine w_ldc2 (a := 10) rfl (by decide +kernel) (by decide) ?_
      refine w_lmul' rfl ?_
      refine w_aload_n rfl rfl ?_
      refine w_aload_n rfl rfl ?_
      refine x_gfI rfl (s_P hl0) rfl (kk := 4) rfl rfl ?_
      refine w_callV (t' := 0) [(0, m2 l0 4)] [(1, w_64 (l1 * 10))] rfl (s_P hl0) rfl rfl ?_
      refine w_C.more (Q := fun r3 m3 => _) h (fun r3 m3 h => ?_)
      replace h := id h
      refine w_bipush rfl (by decide) ?_
      refine w_isub rfl ?_
      refine w_i2l rfl ?_
      refine w_ladd' rfl ?_
      refine w_ldc2 (a := 1099511627776) rfl (by decide +kernel) (by decide) ?_
      refine w_lmin rfl rfl ?_
      refine w_lstore_n (lv' := [some (2, l0), some (1, min (w_64 ((w_64 (l1 * 10)) + (w_32 (r3 - 48)))) 1099511627776), none]) rfl rfl rfl ?_
      refine w_aload_n rfl rfl ?_
      refine w_dup rfl (show (2 : Nat) ≠ 1 by decide) ?_
      refine x_gfI rfl (s_P hl0) rfl (kk := 4) rfl rfl ?_
      refine w_iconst rfl (by decide) ?_
      refine w_iadd rfl ?_
      refine w_pfI rfl (s_P hl0) rfl (w_EP hl0) rfl (kk := 4) rfl ?_
      refine w_goto rfl ?_
      exact w_W.less h (w_sub [true, true, false] rfl)
  · refine w_lload_n rfl rfl ?_
    exact w_lret rfl rfl h
theorem xr_ps_escaped {d : Nat} {l0 : Int} {m : w_M} {Q : Int → w_M → Prop} (h : if l0 = 40 then (Q l0 m) else (if l0 = 41 then (Q l0 m) else (if l0 = 92 then (Q l0 m) else (if l0 = 98 then (Q 8 m) else (if l0 = 102 then (Q 12 m) else (if l0 = 110 then (Q 10 m) else (if l0 = 114 then (Q 13 m) else (if l0 = 116 then (Q 9 m) else (Q (-1) m))))))))) : xc_ps_escaped (d + 1) l0 m Q := by
  refine w_enter (q := 0) (lv := [some (0, l0)]) rfl rfl rfl ?_
  refine w_iload_n rfl rfl ?_
  refine w_lswitch (pd := 93) [(40, 91), (41, 91), (92, 91), (98, 85), (102, 88), (110, 76), (114, 79), (116, 82)] rfl rfl rfl ?_
  refine w_ite h (fun h => ?_) (fun h => ?_)
  · refine w_iload_n rfl rfl ?_
    exact w_iret rfl rfl h
  ·
    refine w_ite h (fun h => ?_) (fun h => ?_)
    · refine w_iload_n rfl rfl ?_
      exact w_iret rfl rfl h
    ·
      refine w_ite h (fun h => ?_) (fun h => ?_)
      · refine w_iload_n rfl rfl ?_
        exact w_iret rfl rfl h
      ·
        refine w_ite h (fun h => ?_) (fun h => ?_)
        · refine w_bipush rfl (by decide) ?_
          exact w_iret rfl rfl h
        ·
          refine w_ite h (fun h => ?_) (fun h => ?_)
          · refine w_bipush rfl (by decide) ?_
            exact w_iret rfl rfl h
          ·
            refine w_ite h (fun h => ?_) (fun h => ?_)
            · refine w_bipush rfl (by decide) ?_
              exact w_iret rfl rfl h
            ·
              refine w_ite h (fun h => ?_) (fun h => ?_)
              · refine w_bipush rfl (by decide) ?_
                exact w_iret rfl rfl h
              ·
                refine w_ite h (fun h => ?_) (fun h => ?_)
                · refine w_bipush rfl (by decide) ?_
                  exact w_iret rfl rfl h
                · refine w_iconst rfl (by decide) ?_
                  exact w_iret rfl rfl h
theorem xr_ps_fail {d : Nat} {l0 l1 l2 : Int} {m : w_M} {Q : Int → w_M → Prop} (hl0 : w_isP l0) (h : if (m l0 6) = 0 then (Q (-1) (w_up (w_up m l0 6 l1) l0 7 l2)) else (Q (-1) m)) : xc_ps_fail (d + 1) l0 l1 l2 m Q := by
  refine w_enter (q := 0) (lv := [some (2, l0), some (0, l1), some (0, l2)]) rfl rfl rfl ?_
  refine w_aload_n rfl rfl ?_
  refine x_gfI rfl (s_P hl0) rfl (kk := 6) rfl rfl ?_
  refine w_ifne rfl (w_ite h (fun h => ?_) (fun h => ?_))
  · refine w_aload_n rfl rfl ?_
    refine w_iload_n rfl rfl ?_
    refine w_pfI rfl (s_P hl0) rfl (w_EP hl0) rfl (kk := 6) rfl ?_
    refine w_aload_n rfl rfl ?_
    refine w_iload_n rfl rfl ?_
    refine w_pfI rfl (s_P hl0) rfl (w_EP hl0) rfl (kk := 7) rfl ?_
    refine w_iconst rfl (by decide) ?_
    exact w_iret rfl rfl h
  · refine w_iconst rfl (by decide) ?_
    exact w_iret rfl rfl h
theorem xr_ps_failAt {d : Nat} {l0 l1 l2 : Int} {m : w_M} {Q : Int → w_M → Prop} (hl0 : w_isP l0) (h : if (m l0 6) = 0 then (Q (-1) (w_up (w_up m l0 6 l1) l0 7 (w_32 (l2 - (m l0 3))))) else (Q (-1) m)) : xc_ps_failAt (d + 1) l0 l1 l2 m Q := by
  refine w_enter (q := 0) (lv := [some (2, l0), some (0, l1), some (0, l2)]) rfl rfl rfl ?_
  refine w_aload_n rfl rfl ?_
  refine x_gfI rfl (s_P hl0) rfl (kk := 6) rfl rfl ?_
  refine w_ifne rfl (w_ite h (fun h => ?_) (fun h => ?_))
  · refine w_aload_n rfl rfl ?_
    refine w_iload_n rfl rfl ?_
    refine w_pfI rfl (s_P hl0) rfl (w_EP hl0) rfl (kk := 6) rfl ?_
    refine w_aload_n rfl rfl ?_
    refine w_iload_n rfl rfl ?_
    refine w_aload_n rfl rfl ?_
    refine x_gfI rfl (s_P hl0) rfl (kk := 3) rfl (w_up_nb (by decide)) ?_
    refine w_isub rfl ?_
    refine w_pfI rfl (s_P hl0) rfl (w_EP hl0) rfl (kk := 7) rfl ?_
    refine w_iconst rfl (by decide) ?_
    exact w_iret rfl rfl h
  · refine w_iconst rfl (by decide) ?_
    exact w_iret rfl rfl h
theorem xr_ps_hex {d : Nat} {l0 : Int} {m : w_M} {Q : Int → w_M → Prop} (h : if l0 < 48 then (xp_ps_hex_17 d l0 m Q) else (if 57 < l0 then (xp_ps_hex_17 d l0 m Q) else (Q (w_32 (l0 - 48)) m))) : xc_ps_hex (d + 1) l0 m Q := by
  refine w_enter (q := 0) (lv := [some (0, l0)]) rfl rfl rfl ?_
  refine w_iload_n rfl rfl ?_
  refine w_bipush rfl (by decide) ?_
  refine w_iclt rfl (w_ite h (fun h => ?_) (fun h => ?_))
  · exact w_W.less h (w_sub [true] rfl)
  · refine w_iload_n rfl rfl ?_
    refine w_bipush rfl (by decide) ?_
    refine w_icgt rfl (w_ite h (fun h => ?_) (fun h => ?_))
    · exact w_W.less h (w_sub [true] rfl)
    · refine w_iload_n rfl rfl ?_
      refine w_bipush rfl (by decide) ?_
      refine w_isub rfl ?_
      exact w_iret rfl rfl h
theorem xr_ps_hex_17 {d : Nat} {l0 : Int} {m : w_M} {Q : Int → w_M → Prop} (h : if l0 < 65 then (if l0 < 97 then (Q (-1) m) else (if 102 < l0 then (Q (-1) m) else (Q (w_32 ((w_32 (l0 - 97)) + 10)) m))) else (if 70 < l0 then (if l0 < 97 then (Q (-1) m) else (if 102 < l0 then (Q (-1) m) else (Q (w_32 ((w_32 (l0 - 97)) + 10)) m))) else (Q (w_32 ((w_32 (l0 - 65)) + 10)) m))) : xp_ps_hex_17 d l0 m Q := by
  refine w_iload_n rfl rfl ?_
  refine w_bipush rfl (by decide) ?_
  refine w_iclt rfl (w_ite h (fun h => ?_) (fun h => ?_))
  · refine w_iload_n rfl rfl ?_
    refine w_bipush rfl (by decide) ?_
    refine w_iclt rfl (w_ite h (fun h => ?_) (fun h => ?_))
    · refine w_iconst rfl (by decide) ?_
      exact w_iret rfl rfl h
    · refine w_iload_n rfl rfl ?_
      refine w_bipush rfl (by decide) ?_
      refine w_icgt rfl (w_ite h (fun h => ?_) (fun h => ?_))
      · refine w_iconst rfl (by decide) ?_
        exact w_iret rfl rfl h
      · refine w_iload_n rfl rfl ?_
        refine w_bipush rfl (by decide) ?_
        refine w_isub rfl ?_
        refine w_bipush rfl (by decide) ?_
        refine w_iadd rfl ?_
        refine w_goto rfl ?_
        exact w_iret rfl rfl h
  · refine w_iload_n rfl rfl ?_
    refine w_bipush rfl (by decide) ?_
    refine w_icgt rfl (w_ite h (fun h => ?_) (fun h => ?_))
    · refine w_iload_n rfl rfl ?_
      refine w_bipush rfl (by decide) ?_
      refine w_iclt rfl (w_ite h (fun h => ?_) (fun h => ?_))
      · refine w_iconst rfl (by decide) ?_
        exact w_iret rfl rfl h
      · refine w_iload_n rfl rfl ?_
        refine w_bipush rfl (by decide) ?_
        refine w_icgt rfl (w_ite h (fun h => ?_) (fun h => ?_))
        · refine w_iconst rfl (by decide) ?_
          exact w_iret rfl rfl h
        · refine w_iload_n rfl rfl ?_
          refine w_bipush rfl (by decide) ?_
          refine w_isub rfl ?_
          refine w_bipush rfl (by decide) ?_
          refine w_iadd rfl ?_
          refine w_goto rfl ?_
          exact w_iret rfl rfl h
    · refine w_iload_n rfl rfl ?_
      refine w_bipush rfl (by decide) ?_
      refine w_isub rfl ?_
      refine w_bipush rfl (by decide) ?_
      refine w_iadd rfl ?_
      exact w_iret rfl rfl h
theorem xr_ps_isDigit {d : Nat} {l0 : Int} {m : w_M} {Q : Int → w_M → Prop} (h : if l0 < 48 then (Q 0 m) else (if 57 < l0 then (Q 0 m) else (Q 1 m))) : xc_ps_isDigit (d + 1) l0 m Q := by
  refine w_enter (q := 0) (lv := [some (0, l0)]) rfl rfl rfl ?_
  refine w_iload_n rfl rfl ?_
  refine w_bipush rfl (by decide) ?_
  refine w_iclt rfl (w_ite h (fun h => ?_) (fun h => ?_))
  · refine w_iconst rfl (by decide) ?_
    exact w_zret rfl rfl (by decide) h
  · refine w_iload_n rfl rfl ?_
    refine w_bipush rfl (by decide) ?_
    refine w_icgt rfl (w_ite h (fun h => ?_) (fun h => ?_))
    · refine w_iconst rfl (by decide) ?_
      exact w_zret rfl rfl (by decide) h
    · refine w_iconst rfl (by decide) ?_
      refine w_goto rfl ?_
      exact w_zret rfl rfl (by decide) h
theorem xr_ps_isRegular {d : Nat} {l0 : Int} {m : w_M} {Q : Int → w_M → Prop} (h : if l0 = (-1) then (Q 0 m) else (if l0 = 0 then (Q 0 m) else (if l0 = 9 then (Q 0 m) else (if l0 = 10 then (Q 0 m) else (if l0 = 12 then (Q 0 m) else (if l0 = 13 then (Q 0 m) else (if l0 = 32 then (Q 0 m) else (if l0 = 37 then (Q 0 m) else (if l0 = 40 then (Q 0 m) else (if l0 = 41 then (Q 0 m) else (if l0 = 47 then (Q 0 m) else (if l0 = 60 then (Q 0 m) else (if l0 = 62 then (Q 0 m) else (if l0 = 91 then (Q 0 m) else (if l0 = 93 then (Q 0 m) else (if l0 = 123 then (Q 0 m) else (if l0 = 125 then (Q 0 m) else (Q 1 m)))))))))))))))))) : xc_ps_isRegular (d + 1) l0 m Q := by
  refine w_enter (q := 0) (lv := [some (0, l0)]) rfl rfl rfl ?_
  refine w_iload_n rfl rfl ?_
  refine w_lswitch (pd := 150) [((-1), 148), (0, 148), (9, 148), (10, 148), (12, 148), (13, 148), (32, 148), (37, 148), (40, 148), (41, 148), (47, 148), (60, 148), (62, 148), (91, 148), (93, 148), (123, 148), (125, 148)] rfl rfl rfl ?_
  refine w_ite h (fun h => ?_) (fun h => ?_)
  · refine w_iconst rfl (by decide) ?_
    exact w_zret rfl rfl (by decide) h
  ·
    refine w_ite h (fun h => ?_) (fun h => ?_)
    · refine w_iconst rfl (by decide) ?_
      exact w_zret rfl rfl (by decide) h
    ·
      refine w_ite h (fun h => ?_) (fun h => ?_)
      · refine w_iconst rfl (by decide) ?_
        exact w_zret rfl rfl (by decide) h
      ·
        refine w_ite h (fun h => ?_) (fun h => ?_)
        · refine w_iconst rfl (by decide) ?_
          exact w_zret rfl rfl (by decide) h
        ·
          refine w_ite h (fun h => ?_) (fun h => ?_)
          · refine w_iconst rfl (by decide) ?_
            exact w_zret rfl rfl (by decide) h
          ·
            refine w_ite h (fun h => ?_) (fun h => ?_)
            · refine w_iconst rfl (by decide) ?_
              exact w_zret rfl rfl (by decide) h
            ·
              refine w_ite h (fun h => ?_) (fun h => ?_)
              · refine w_iconst rfl (by decide) ?_
                exact w_zret rfl rfl (by decide) h
              ·
                refine w_ite h (fun h => ?_) (fun h => ?_)
                · refine w_iconst rfl (by decide) ?_
                  exact w_zret rfl rfl (by decide) h
                ·
                  refine w_ite h (fun h => ?_) (fun h => ?_)
                  · refine w_iconst rfl (by decide) ?_
                    exact w_zret rfl rfl (by decide) h
                  ·
                    refine w_ite h (fun h => ?_) (fun h => ?_)
                    · refine w_iconst rfl (by decide) ?_
                      exact w_zret rfl rfl (by decide) h
                    ·
                      refine w_ite h (fun h => ?_) (fun h => ?_)
                      · refine w_iconst rfl (by decide) ?_
                        exact w_zret rfl rfl (by decide) h
                      ·
                        refine w_ite h (fun h => ?_) (fun h => ?_)
                        · refine w_iconst rfl (by decide) ?_
                          exact w_zret rfl rfl (by decide) h
                        ·
                          refine w_ite h (fun h => ?_) (fun h => ?_)
                          · refine w_iconst rfl (by decide) ?_
                            exact w_zret rfl rfl (by decide) h
                          ·
                            refine w_ite h (fun h => ?_) (fun h => ?_)
                            · refine w_iconst rfl (by decide) ?_
                              exact w_zret rfl rfl (by decide) h
                            ·
                              refine w_ite h (fun h => ?_) (fun h => ?_)
                              · refine w_iconst rfl (by decide) ?_
                                exact w_zret rfl rfl (by decide) h
                              ·
                                refine w_ite h (fun h => ?_) (fun h => ?_)
                                · refine w_iconst rfl (by decide) ?_
                                  exact w_zret rfl rfl (by decide) h
                                ·
                                  refine w_ite h (fun h => ?_) (fun h => ?_)
                                  · refine w_iconst rfl (by decide) ?_
                                    exact w_zret rfl rfl (by decide) h
                                  · refine w_iconst rfl (by decide) ?_
                                    exact w_zret rfl rfl (by decide) h
theorem xr_ps_isTwice {d : Nat} {l0 l1 l2 : Int} {m : w_M} {Q : Int → w_M → Prop} (hl0 : w_isP l0) (h : xp_ps_isTwice_5 d l0 l1 l2 0 0 m Q) : xc_ps_isTwice (d + 1) l0 l1 l2 m Q := by
  refine w_enter (q := 4) (lv := [some (2, l0), some (0, l1), some (0, l2), none, none, none, none]) rfl rfl rfl ?_
  refine w_iconst rfl (by decide) ?_
  refine w_istore_n (lv' := [some (2, l0), some (0, l1), some (0, l2), some (0, 0), none, none, none]) rfl rfl rfl ?_
  refine w_iconst rfl (by decide) ?_
  refine w_istore (lv' := [some (2, l0), some (0, l1), some (0, l2), some (0, 0), some (0, 0), none, none]) rfl rfl rfl ?_
  exact w_W.less h (w_sub [true, true, true, true, true, false, false] rfl)
theorem xr_ps_isTwice_5 {d : Nat} {l0 l1 l2 l3 l4 : Int} {m : w_M} {Q : Int → w_M → Prop} (hl0 : w_isP l0) (h : xc_st_twoOf d l2 m (fun r1 m1 => if l4 < r1 then (xc_st_letterOf d l2 l4 m1 (fun r2 m2 => xp_ps_isTwice_5 d l0 l1 l2 (w_32 ((w_32 (l3 * 31)) + r2)) (w_32 (l4 + 1)) m2 Q)) else (xc_st_link d l2 l3 m1 (fun r3 m3 => xc_st_firstPart d l1 m3 (fun r4 m4 => xc_st_parts d l1 m4 (fun r5 m5 => xp_ps_isTwice_69 d l0 l2 l3 r4 r5 m5 Q)))))) : xp_ps_isTwice_5 d l0 l1 l2 l3 l4 m Q := by
  refine w_iload rfl rfl ?_
  refine w_aload_n rfl rfl ?_
  refine w_gfC (c := 359) rfl (s_P hl0) rfl rfl ?_
  refine w_iload_n rfl rfl ?_
  refine w_callV (t' := 0) [(0, l2)] [(0, l4)] rfl s_359 rfl rfl ?_
  refine w_C.more (Q := fun r1 m1 => _) h (fun r1 m1 h => ?_)
  replace h := id h
  refine w_icge rfl (w_ite h (fun h => ?_) (fun h => ?_))
  · refine w_iload_n rfl rfl ?_
    refine w_bipush rfl (by decide) ?_
    refine w_imul rfl ?_
    refine w_aload_n rfl rfl ?_
    refine w_gfC (c := 359) rfl (s_P hl0) rfl rfl ?_
    refine w_iload_n rfl rfl ?_
    refine w_iload rfl rfl ?_
    refine w_callV (t' := 0) [(0, l4), (0, l2)] [(0, w_32 (l3 * 31))] rfl s_359 rfl rfl ?_
    refine w_C.more (Q := fun r2 m2 => _) h (fun r2 m2 h => ?_)
    replace h := id h
    refine w_iadd rfl ?_
    refine w_istore_n (lv' := [some (2, l0), some (0, l1), some (0, l2), some (0, w_32 ((w_32 (l3 * 31)) + r2)), some (0, l4), none, none]) rfl rfl rfl ?_
    refine w_iinc (lv' := [some (2, l0), some (0, l1), some (0, l2), some (0, w_32 ((w_32 (l3 * 31)) + r2)), some (0, w_32 (l4 + 1)), none, none]) rfl rfl rfl rfl ?_
    refine w_goto rfl ?_
    exact w_W.less h (w_sub [true, true, true, true, true, false, false] rfl)
  · refine w_aload_n rfl rfl ?_
    refine w_gfC (c := 359) rfl (s_P hl0) rfl rfl ?_
    refine w_iload_n rfl rfl ?_
    refine w_iload_n rfl rfl ?_
    refine w_callV (t' := 3) [(0, l3), (0, l2)] [] rfl s_359 rfl rfl ?_
    refine w_C.more (Q := fun r3 m3 => _) h (fun r3 m3 h => ?_)
    replace h := id h
    refine w_aload_n rfl rfl ?_
    refine w_gfC (c := 359) rfl (s_P hl0) rfl rfl ?_
    refine w_iload_n rfl rfl ?_
    refine w_callV (t' := 0) [(0, l1)] [] rfl s_359 rfl rfl ?_
    refine w_C.more (Q := fun r4 m4 => _) h (fun r4 m4 h => ?_)
    replace h := id h
    refine w_istore (lv' := [some (2, l0), some (0, l1), some (0, l2), some (0, l3), some (0, r4), none, none]) rfl rfl rfl ?_
    refine w_aload_n rfl rfl ?_
    refine w_gfC (c := 359) rfl (s_P hl0) rfl rfl ?_
    refine w_iload_n rfl rfl ?_
    refine w_callV (t' := 0) [(0, l1)] [] rfl s_359 rfl rfl ?_
    refine w_C.more (Q := fun r5 m5 => _) h (fun r5 m5 h => ?_)
    replace h := id h
    refine w_istore (lv' := [some (2, l0), some (0, l1), some (0, l2), some (0, l3), some (0, r4), some (0, r5), none]) rfl rfl rfl ?_
    exact w_W.less h (w_sub [true, false, true, true, true, true, false] rfl)
theorem xr_ps_isTwice_69 {d : Nat} {l0 l2 l3 l4 l5 : Int} {m : w_M} {Q : Int → w_M → Prop} (hl0 : w_isP l0) (h : if 0 < l5 then (if l4 < 0 then (Q 0 m) else (xc_st_keyOf d l4 m (fun r1 m1 => xc_st_nextOf d r1 m1 (fun r2 m2 => if r2 = l3 then (xc_st_same d r1 l2 m2 (fun r3 m3 => if r3 = 0 then (xc_st_nextOf d l4 m3 (fun r4 m4 => xp_ps_isTwice_69 d l0 l2 l3 r4 (w_32 (l5 + (-1))) m4 Q)) else (Q 1 m3))) else (xc_st_nextOf d l4 m2 (fun r5 m5 => xp_ps_isTwice_69 d l0 l2 l3 r5 (w_32 (l5 + (-1))) m5 Q)))))) else (Q 0 m)) : xp_ps_isTwice_69 d l0 l2 l3 l4 l5 m Q := by
  refine w_iload rfl rfl ?_
  refine w_ifle rfl (w_ite h (fun h => ?_) (fun h => ?_))
  · refine w_iload rfl rfl ?_
    refine w_iflt rfl (w_ite h (fun h => ?_) (fun h => ?_))
    · refine w_iconst rfl (by decide) ?_
      exact w_zret rfl rfl (by decide) h
    · refine w_aload_n rfl rfl ?_
      refine w_gfC (c := 359) rfl (s_P hl0) rfl rfl ?_
      refine w_iload rfl rfl ?_
      refine w_callV (t' := 0) [(0, l4)] [] rfl s_359 rfl rfl ?_
      refine w_C.more (Q := fun r1 m1 => _) h (fun r1 m1 h => ?_)
      replace h := id h
      refine w_istore (lv' := [some (2, l0), none, some (0, l2), some (0, l3), some (0, l4), some (0, l5), some (0, r1)]) rfl rfl rfl ?_
      refine w_aload_n rfl rfl ?_
      refine w_gfC (c := 359) rfl (s_P hl0) rfl rfl ?_
      refine w_iload rfl rfl ?_
      refine w_callV (t' := 0) [(0, r1)] [] rfl s_359 rfl rfl ?_
      refine w_C.more (Q := fun r2 m2 => _) h (fun r2 m2 h => ?_)
      replace h := id h
      refine w_iload_n rfl rfl ?_
      refine w_icne rfl (w_ite h (fun h => ?_) (fun h => ?_))
      · refine w_aload_n rfl rfl ?_
        refine w_gfC (c := 359) rfl (s_P hl0) rfl rfl ?_
        refine w_iload rfl rfl ?_
        refine w_iload_n rfl rfl ?_
        refine w_callV (t' := 0) [(0, l2), (0, r1)] [] rfl s_359 rfl rfl ?_
        refine w_C.more (Q := fun r3 m3 => _) h (fun r3 m3 h => ?_)
        replace h := id h
        refine w_ifeq rfl (w_ite h (fun h => ?_) (fun h => ?_))
        · refine w_aload_n rfl rfl ?_
          refine w_gfC (c := 359) rfl (s_P hl0) rfl rfl ?_
          refine w_iload rfl rfl ?_
          refine w_callV (t' := 0) [(0, l4)] [] rfl s_359 rfl rfl ?_
          refine w_C.more (Q := fun r4 m4 => _) h (fun r4 m4 h => ?_)
          replace h := id h
          refine w_istore (lv' := [some (2, l0), none, some (0, l2), some (0, l3), some (0, r4), some (0, l5), some (0, r1)]) rfl rfl rfl ?_
          refine w_iinc (lv' := [some (2, l0), none, some (0, l2), some (0, l3), some (0, r4), some (0, w_32 (l5 + (-1))), some (0, r1)]) rfl rfl rfl rfl ?_
          refine w_goto rfl ?_
          exact w_W.less h (w_sub [true, false, true, true, true, true, false] rfl)
        · refine w_iconst rfl (by decide) ?_
          exact w_zret rfl rfl (by decide) h
      · refine w_aload_n rfl rfl ?_
        refine w_gfC (c := 359) rfl (s_P hl0) rfl rfl ?_
        refine w_iload rfl rfl ?_
        refine w_callV (t' := 0) [(0, l4)] [] rfl s_359 rfl rfl ?_
        refine w_C.more (Q := fun r5 m5 => _) h (fun r5 m5 h => ?_)
        replace h := id h
        refine w_istore (lv' := [some (2, l0), none, some (0, l2), some (0, l3), some (0, r5), some (0, l5), some (0, r1)]) rfl rfl rfl ?_
        refine w_iinc (lv' := [some (2, l0), none, some (0, l2), some (0, l3), some (0, r5), some (0, w_32 (l5 + (-1))), some (0, r1)]) rfl rfl rfl rfl ?_
        refine w_goto rfl ?_
        exact w_W.less h (w_sub [true, false, true, true, true, true, false] rfl)
  · refine w_iconst rfl (by decide) ?_
    exact w_zret rfl rfl (by decide) h
theorem xr_ps_isWhite {d : Nat} {l0 : Int} {m : w_M} {Q : Int → w_M → Prop} (h : if l0 = 32 then (Q 1 m) else (if l0 = 10 then (Q 1 m) else (if l0 = 13 then (Q 1 m) else (if l0 = 9 then (Q 1 m) else (if l0 = 12 then (Q 1 m) else (if l0 = 0 then (Q 1 m) else (Q 0 m))))))) : xc_ps_isWhite (d + 1) l0 m Q := by
  refine w_enter (q := 0) (lv := [some (0, l0)]) rfl rfl rfl ?_
  refine w_iload_n rfl rfl ?_
  refine w_bipush rfl (by decide) ?_
  refine w_iceq rfl (w_ite h (fun h => ?_) (fun h => ?_))
  · refine w_iconst rfl (by decide) ?_
    refine w_goto rfl ?_
    exact w_zret rfl rfl (by decide) h
  · refine w_iload_n rfl rfl ?_
    refine w_bipush rfl (by decide) ?_
    refine w_iceq rfl (w_ite h (fun h => ?_) (fun h => ?_))
    · refine w_iconst rfl (by decide) ?_
      refine w_goto rfl ?_
      exact w_zret rfl rfl (by decide) h
    · refine w_iload_n rfl rfl ?_
      refine w_bipush rfl (by decide) ?_
      refine w_iceq rfl (w_ite h (fun h => ?_) (fun h => ?_))
      · refine w_iconst rfl (by decide) ?_
        refine w_goto rfl ?_
        exact w_zret rfl rfl (by decide) h
      · refine w_iload_n rfl rfl ?_
        refine w_bipush rfl (by decide) ?_
        refine w_iceq rfl (w_ite h (fun h => ?_) (fun h => ?_))
        · refine w_iconst rfl (by decide) ?_
          refine w_goto rfl ?_
          exact w_zret rfl rfl (by decide) h
        · refine w_iload_n rfl rfl ?_
          refine w_bipush rfl (by decide) ?_
          refine w_iceq rfl (w_ite h (fun h => ?_) (fun h => ?_))
          · refine w_iconst rfl (by decide) ?_
            refine w_goto rfl ?_
            exact w_zret rfl rfl (by decide) h
          · refine w_iload_n rfl rfl ?_
            refine w_ifne rfl (w_ite h (fun h => ?_) (fun h => ?_))
            · refine w_iconst rfl (by decide) ?_
              refine w_goto rfl ?_
              exact w_zret rfl rfl (by decide) h
            · refine w_iconst rfl (by decide) ?_
              exact w_zret rfl rfl (by decide) h
theorem xr_ps_literal {d : Nat} {l0 l1 : Int} {m : w_M} {Q : Int → w_M → Prop} (hl0 : w_isP l0) (h : xc_ps_rowIs d l0 16 m (fun r1 m1 => if r1 = 0 then (xc_ps_rowIs d l0 18 m1 (fun r2 m2 => if r2 = 0 then (xc_ps_rowIs d l0 20 m2 (fun r3 m3 => if r3 = 0 then (xc_ps_failAt d l0 4 l1 m3 (fun r4 m4 => Q r4 m4)) else (xc_ps_make d l0 0 0 0 l1 (w_up m3 l0 4 (m3 l0 12)) (fun r5 m5 => Q r5 m5)))) else (if r1 = 0 then (xc_ps_make d l0 1 0 0 l1 (w_up m2 l0 4 (m2 l0 12)) (fun r6 m6 => Q r6 m6)) else (xc_ps_make d l0 1 1 0 l1 (w_up m2 l0 4 (m2 l0 12)) (fun r7 m7 => Q r7 m7))))) else (if r1 = 0 then (xc_ps_make d l0 1 0 0 l1 (w_up m1 l0 4 (m1 l0 12)) (fun r8 m8 => Q r8 m8)) else (xc_ps_make d l0 1 1 0 l1 (w_up m1 l0 4 (m1 l0 12)) (fun r9 m9 => Q r9 m9))))) : xc_ps_literal (d + 1) l0 l1 m Q := by
  refine w_enter (q := 1) (lv := [some (2, l0), some (0, l1), none]) rfl rfl rfl ?_
  refine w_aload_n rfl rfl ?_
  refine w_ldcR rfl ?_
  refine w_callV (t' := 0) [(2, 16)] [] rfl (s_P hl0) rfl rfl ?_
  refine w_C.more (Q := fun r1 m1 => _) h (fun r1 m1 h => ?_)
  replace h := id h
  refine w_istore_n (lv' := [some (2, l0), some (0, l1), some (0, r1)]) rfl rfl rfl ?_
  refine w_iload_n rfl rfl ?_
  refine w_ifne rfl (w_ite h (fun h => ?_) (fun h => ?_))
  · refine w_aload_n rfl rfl ?_
    refine w_ldcR rfl ?_
    refine w_callV (t' := 0) [(2, 18)] [] rfl (s_P hl0) rfl rfl ?_
    refine w_C.more (Q := fun r2 m2 => _) h (fun r2 m2 h => ?_)
    replace h := id h
    refine w_ifeq rfl (w_ite h (fun h => ?_) (fun h => ?_))
    · refine w_aload_n rfl rfl ?_
      refine w_ldcR rfl ?_
      refine w_callV (t' := 0) [(2, 20)] [] rfl (s_P hl0) rfl rfl ?_
      refine w_C.more (Q := fun r3 m3 => _) h (fun r3 m3 h => ?_)
      replace h := id h
      refine w_ifeq rfl (w_ite h (fun h => ?_) (fun h => ?_))
      · refine w_aload_n rfl rfl ?_
        refine w_iconst rfl (by decide) ?_
        refine w_iload_n rfl rfl ?_
        refine w_callV (t' := 0) [(0, l1), (0, 4)] [] rfl (s_P hl0) rfl rfl ?_
        refine w_C.more (Q := fun r4 m4 => _) h (fun r4 m4 h => ?_)
        replace h := id h
        exact w_iret rfl rfl h
      · refine w_aload_n rfl rfl ?_
        refine w_aload_n rfl rfl ?_
        refine x_gfI rfl (s_P hl0) rfl (kk := 12) rfl rfl ?_
        refine w_pfI rfl (s_P hl0) rfl (w_EP hl0) rfl (kk := 4) rfl ?_
        refine w_aload_n rfl rfl ?_
        refine w_iconst rfl (by decide) ?_
        refine w_iconst rfl (by decide) ?_
        refine w_iconst rfl (by decide) ?_
        refine w_iload_n rfl rfl ?_
        refine w_callV (t' := 0) [(0, l1), (0, 0), (0, 0), (0, 0)] [] rfl (s_P hl0) rfl rfl ?_
        refine w_C.more (Q := fun r5 m5 => _) h (fun r5 m5 h => ?_)
        replace h := id h
        exact w_iret rfl rfl h
    · refine w_aload_n rfl rfl ?_
      refine w_aload_n rfl rfl ?_
      refine x_gfI rfl (s_P hl0) rfl (kk := 12) rfl rfl ?_
      refine w_pfI rfl (s_P hl0) rfl (w_EP hl0) rfl (kk := 4) rfl ?_
      refine w_aload_n rfl rfl ?_
      refine w_iconst rfl (by decide) ?_
      refine w_iload_n rfl rfl ?_
      refine w_ifeq rfl (w_ite h (fun h => ?_) (fun h => ?_))
      · refine w_iconst rfl (by decide) ?_
        refine w_iconst rfl (by decide) ?_
        refine w_iload_n rfl rfl ?_
        refine w_callV (t' := 0) [(0, l1), (0, 0), (0, 0), (0, 1)] [] rfl (s_P hl0) rfl rfl ?_
        refine w_C.more (Q := fun r6 m6 => _) h (fun r6 m6 h => ?_)
        replace h := id h
        exact w_iret rfl rfl h
      · refine w_iconst rfl (by decide) ?_
        refine w_goto rfl ?_
        refine w_iconst rfl (by decide) ?_
        refine w_iload_n rfl rfl ?_
        refine w_callV (t' := 0) [(0, l1), (0, 0), (0, 1), (0, 1)] [] rfl (s_P hl0) rfl rfl ?_
        refine w_C.more (Q := fun r7 m7 => _) h (fun r7 m7 h => ?_)
        replace h := id h
        exact w_iret rfl rfl h
  · refine w_aload_n rfl rfl ?_
    refine w_aload_n rfl rfl ?_
    refine x_gfI rfl (s_P hl0) rfl (kk := 12) rfl rfl ?_
    refine w_pfI rfl (s_P hl0) rfl (w_EP hl0) rfl (kk := 4) rfl ?_
    refine w_aload_n rfl rfl ?_
    refine w_iconst rfl (by decide) ?_
    refine w_iload_n rfl rfl ?_
    refine w_ifeq rfl (w_ite h (fun h => ?_) (fun h => ?_))
    · refine w_iconst rfl (by decide) ?_
      refine w_iconst rfl (by decide) ?_
      refine w_iload_n rfl rfl ?_
      refine w_callV (t' := 0) [(0, l1), (0, 0), (0, 0), (0, 1)] [] rfl (s_P hl0) rfl rfl ?_
      refine w_C.more (Q := fun r8 m8 => _) h (fun r8 m8 h => ?_)
      replace h := id h
      exact w_iret rfl rfl h
    · refine w_iconst rfl (by decide) ?_
      refine w_goto rfl ?_
      refine w_iconst rfl (by decide) ?_
      refine w_iload_n rfl rfl ?_
      refine w_callV (t' := 0) [(0, l1), (0, 0), (0, 1), (0, 1)] [] rfl (s_P hl0) rfl rfl ?_
      refine w_C.more (Q := fun r9 m9 => _) h (fun r9 m9 h => ?_)
      replace h := id h
      exact w_iret rfl rfl h
theorem xr_ps_lookAtRow {d : Nat} {l0 : Int} {m : w_M} {Q : Int → w_M → Prop} (hl0 : w_isP l0) (h : if (m l0 11) = (m l0 4) then (Q 0 m) else (xp_ps_lookAtRow_52 d l0 0 0 0 0 0 0 0 1 (m l0 4) (w_up (w_up m l0 11 (m l0 4)) l0 16 0) Q)) : xc_ps_lookAtRow (d + 1) l0 m Q := by
  refine w_enter (q := 14) (lv := [some (2, l0), none, none, none, none, none, none, none, none, none, none, none, none, none, none]) rfl rfl rfl ?_
  refine w_aload_n rfl rfl ?_
  refine x_gfI rfl (s_P hl0) rfl (kk := 11) rfl rfl ?_
  refine w_aload_n rfl rfl ?_
  refine x_gfI rfl (s_P hl0) rfl (kk := 4) rfl rfl ?_
  refine w_icne rfl (w_ite h (fun h => ?_) (fun h => ?_))
  · exact w_vret rfl rfl h
  · refine w_aload_n rfl rfl ?_
    refine w_aload_n rfl rfl ?_
    refine x_gfI rfl (s_P hl0) rfl (kk := 4) rfl rfl ?_
    refine w_pfI rfl (s_P hl0) rfl (w_EP hl0) rfl (kk := 11) rfl ?_
    refine w_aload_n rfl rfl ?_
    refine w_iconst rfl (by decide) ?_
    refine w_pfZ rfl (s_P hl0) rfl (w_EP hl0) rfl (kk := 16) rfl (by decide) ?_
    refine w_iconst rfl (by decide) ?_
    refine w_istore_n (lv' := [some (2, l0), some (0, 0), none, none, none, none, none, none, none, none, none, none, none, none, none]) rfl rfl rfl ?_
    refine w_iconst rfl (by decide) ?_
    refine w_istore_n (lv' := [some (2, l0), some (0, 0), some (0, 0), none, none, none, none, none, none, none, none, none, none, none, none]) rfl rfl rfl ?_
    refine w_iconst rfl (by decide) ?_
    refine w_istore_n (lv' := [some (2, l0), some (0, 0), some (0, 0), some (0, 0), none, none, none, none, none, none, none, none, none, none, none]) rfl rfl rfl ?_
    refine w_iconst rfl (by decide) ?_
    refine w_istore (lv' := [some (2, l0), some (0, 0), some (0, 0), some (0, 0), some (0, 0), none, none, none, none, none, none, none, none, none, none]) rfl rfl rfl ?_
    refine w_iconst rfl (by decide) ?_
    refine w_istore (lv' := [some (2, l0), some (0, 0), some (0, 0), some (0, 0), some (0, 0), some (0, 0), none, none, none, none, none, none, none, none, none]) rfl rfl rfl ?_
    refine w_lconst rfl rfl ?_
    refine w_lstore (lv' := [some (2, l0), some (0, 0), some (0, 0), some (0, 0), some (0, 0), some (0, 0), some (1, 0), none, none, none, none, none, none, none, none]) rfl rfl rfl ?_
    refine w_lconst rfl rfl ?_
    refine w_lstore (lv' := [some (2, l0), some (0, 0), some (0, 0), some (0, 0), some (0, 0), some (0, 0), some (1, 0), none, some (1, 0), none, none, none, none, none, none]) rfl rfl rfl ?_
    refine w_lconst rfl rfl ?_
    refine w_lstore (lv' := [some (2, l0), some (0, 0), some (0, 0), some (0, 0), some (0, 0), some (0, 0), some (1, 0), none, some (1, 0), none, some (1, 1), none, none, none, none]) rfl rfl rfl ?_
    refine w_aload_n rfl rfl ?_
    refine x_gfI rfl (s_P hl0) rfl (kk := 4) rfl ((w_up_nb (by decide)).trans (w_up_nb (by decide))) ?_
    refine w_istore (lv' := [some (2, l0), some (0, 0), some (0, 0), some (0, 0), some (0, 0), some (0, 0), some (1, 0), none, some (1, 0), none, some (1, 1), none, some (0, m l0 4), none, none]) rfl rfl rfl ?_
    exact w_W.less h (w_sub [true, true, true, true, true, true, true, false, true, false, true, false, true, false, false] rfl)
theorem xr_ps_lookAtRow_52 {d : Nat} {l0 l1 l2 l3 l4 l5 l6 l8 l10 l12 : Int} {m : w_M} {Q : Int → w_M → Prop} (hl0 : w_isP l0) (h : if l12 < (m l0 5) then (xc_ps_at d l0 l12 m (fun r1 m1 => xc_ps_isDigit d r1 m1 (fun r2 m2 => if r2 = 0 then (xp_ps_lookAtRow_108 d l0 l1 l2 l3 l4 l5 l6 l8 l10 l12 r1 m2 Q) else (if l3 = 0 then (xp_ps_lookAtRow_52 d l0 l1 l2 l3 (w_32 (l4 + 1)) l5 (min (w_64 ((w_64 (l6 * 10)) + (w_32 (r1 - 48)))) 1099511627776) l8 l10 (w_32 (l12 + 1)) m2 Q) else (xp_ps_lookAtRow_108 d l0 l1 l2 l3 l4 l5 l6 l8 l10 l12 r1 m2 Q))))) else (xp_ps_lookAtRow_242 d l0 l1 l2 l3 l4 l5 l6 l8 l10 l12 m Q)) : xp_ps_lookAtRow_52 d l0 l1 l2 l3 l4 l5 l6 l8 l10 l12 m Q := by
  refine w_iload rfl rfl ?_
  refine w_aload_n rfl rfl ?_
  refine x_gfI rfl (s_P hl0) rfl (kk := 5) rfl rfl ?_
  refine w_icge rfl (w_ite h (fun h => ?_) (fun h => ?_))
  · refine w_aload_n rfl rfl ?_
    refine w_iload rfl rfl ?_
    refine w_callV (t' := 0) [(0, l12)] [] rfl (s_P hl0) rfl rfl ?_
    refine w_C.more (Q := fun r1 m1 => _) h (fun r1 m1 h => ?_)
    replace h := id h
    refine w_istore (lv' := [some (2, l0), some (0, l1), some (0, l2), some (0, l3), some (0, l4), some (0, l5), some (1, l6), none, some (1, l8), none, some (1, l10), none, some (0, l12), some (0, r1), none]) rfl rfl rfl ?_
    refine w_iload rfl rfl ?_
    refine w_callS (t' := 0) [(0, r1)] [] rfl (by decide) rfl rfl ?_
    refine w_C.more (Q := fun r2 m2 => _) h (fun r2 m2 h => ?_)
    replace h := id h
    refine w_ifeq rfl (w_ite h (fun h => ?_) (fun h => ?_))
    · exact w_W.less h (w_sub [true, true, true, true, true, true, true, false, true, false, true, false, true, true, false] rfl)
    · refine w_iload_n rfl rfl ?_
      refine w_ifne rfl (w_ite h (fun h => ?_) (fun h => ?_))
      · refine w_iinc (lv' := [some (2, l0), some (0, l1), some (0, l2), some (0, l3), some (0, w_32 (l4 + 1)), some (0, l5), some (1, l6), none, some (1, l8), none, some (1, l10), none, some (0, l12), some (0, r1), none]) rfl rfl rfl rfl ?_
        refine w_lload rfl rfl ?_
        refine w_ldc2 (a := 10) rfl (by decide +kernel) (by decide) ?_
        refine w_lmul' rfl ?_
        refine w_iload rfl rfl ?_
        refine w_bipush rfl (by decide) ?_
        refine w_isub rfl ?_
        refine w_i2l rfl ?_
        refine w_ladd' rfl ?_
        refine w_ldc2 (a := 1099511627776) rfl (by decide +kernel) (by decide) ?_
        refine w_lmin rfl rfl ?_
        refine w_lstore (lv' := [some (2, l0), some (0, l1), some (0, l2), some (0, l3), some (0, w_32 (l4 + 1)), some (0, l5), some (1, min (w_64 ((w_64 (l6 * 10)) + (w_32 (r1 - 48)))) 1099511627776), none, some (1, l8), none, some (1, l10), none, some (0, l12), some (0, r1), none]) rfl rfl rfl ?_
        refine w_goto rfl ?_
        refine w_iinc (lv' := [some (2, l0), some (0, l1), some (0, l2), some (0, l3), some (0, w_32 (l4 + 1)), some (0, l5), some (1, min (w_64 ((w_64 (l6 * 10)) + (w_32 (r1 - 48)))) 1099511627776), none, some (1, l8), none, some (1, l10), none, some (0, w_32 (l12 + 1)), some (0, r1), none]) rfl rfl rfl rfl ?_
        refine w_goto rfl ?_
        exact w_W.less h (w_sub [true, true, true, true, true, true, true, false, true, false, true, false, true, false, false] rfl)
      · exact w_W.less h (w_sub [true, true, true, true, true, true, true, false, true, false, true, false, true, true, false] rfl)
  · exact w_W.less h (w_sub [true, true, true, true, true, true, true, false, true, false, true, false, true, false, false] rfl)
theorem xr_ps_lookAtRow_108 {d : Nat} {l0 l1 l2 l3 l4 l5 l6 l8 l10 l12 l13 : Int} {m : w_M} {Q : Int → w_M → Prop} (hl0 : w_isP l0) (h : xc_ps_isDigit d l13 m (fun r1 m1 => if r1 = 0 then (if l13 = 46 then (xp_ps_lookAtRow_52 d l0 l1 l2 (w_32 (l3 + 1)) l4 l5 l6 l8 l10 (w_32 (l12 + 1)) m1 Q) else (if l12 = (m1 l0 4) then (if l13 = 43 then (if l13 = 45 then (xp_ps_lookAtRow_52 d l0 1 l2 l3 l4 l5 l6 l8 l10 (w_32 (l12 + 1)) (w_up m1 l0 16 1) Q) else (xp_ps_lookAtRow_52 d l0 0 l2 l3 l4 l5 l6 l8 l10 (w_32 (l12 + 1)) (w_up m1 l0 16 1) Q)) else (if l13 = 45 then (if l13 = 45 then (xp_ps_lookAtRow_52 d l0 1 l2 l3 l4 l5 l6 l8 l10 (w_32 (l12 + 1)) (w_up m1 l0 16 1) Q) else (xp_ps_lookAtRow_52 d l0 0 l2 l3 l4 l5 l6 l8 l10 (w_32 (l12 + 1)) (w_up m1 l0 16 1) Q)) else (xc_ps_isRegular d l13 m1 (fun r2 m2 => if r2 = 0 then (xp_ps_lookAtRow_242 d l0 l1 l2 l3 l4 l5 l6 l8 l10 l12 m2 Q) else (xp_ps_lookAtRow_52 d l0 l1 1 l3 l4 l5 l6 l8 l10 (w_32 (l12 + 1)) m2 Q))))) else (xc_ps_isRegular d l13 m1 (fun r3 m3 => if r3 = 0 then (xp_ps_lookAtRow_242 d l0 l1 l2 l3 l4 l5 l6 l8 l10 l12 m3 Q) else (xp_ps_lookAtRow_52 d l0 l1 1 l3 l4 l5 l6 l8 l10 (w_32 (l12 + 1)) m3 Q))))) else (if 9 < (w_32 (l5 + 1)) then (if 9 < (w_32 (l5 + 1)) then (xp_ps_lookAtRow_52 d l0 l1 l2 l3 l4 (w_32 (l5 + 1)) l6 l8 l10 (w_32 (l12 + 1)) m1 Q) else (xp_ps_lookAtRow_52 d l0 l1 l2 l3 l4 (w_32 (l5 + 1)) l6 l8 (w_64 (l10 * 10)) (w_32 (l12 + 1)) m1 Q)) else (if 9 < (w_32 (l5 + 1)) then (xp_ps_lookAtRow_52 d l0 l1 l2 l3 l4 (w_32 (l5 + 1)) l6 (w_64 ((w_64 (l8 * 10)) + (w_32 (l13 - 48)))) l10 (w_32 (l12 + 1)) m1 Q) else (xp_ps_lookAtRow_52 d l0 l1 l2 l3 l4 (w_32 (l5 + 1)) l6 (w_64 ((w_64 (l8 * 10)) + (w_32 (l13 - 48)))) (w_64 (l10 * 10)) (w_32 (l12 + 1)) m1 Q))))) : xp_ps_lookAtRow_108 d l0 l1 l2 l3 l4 l5 l6 l8 l10 l12 l13 m Q := by
  refine w_iload rfl rfl ?_
  refine w_callS (t' := 0) [(0, l13)] [] rfl (by decide) rfl rfl ?_
  refine w_C.more (Q := fun r1 m1 => _) h (fun r1 m1 h => ?_)
  replace h := id h
  refine w_ifeq rfl (w_ite h (fun h => ?_) (fun h => ?_))
  · refine w_iload rfl rfl ?_
    refine w_bipush rfl (by decide) ?_
    refine w_icne rfl (w_ite h (fun h => ?_) (fun h => ?_))
    · refine w_iinc (lv' := [some (2, l0), some (0, l1), some (0, l2), some (0, w_32 (l3 + 1)), some (0, l4), some (0, l5), some (1, l6), none, some (1, l8), none, some (1, l10), none, some (0, l12), some (0, l13), none]) rfl rfl rfl rfl ?_
      refine w_goto rfl ?_
      refine w_iinc (lv' := [some (2, l0), some (0, l1), some (0, l2), some (0, w_32 (l3 + 1)), some (0, l4), some (0, l5), some (1, l6), none, some (1, l8), none, some (1, l10), none, some (0, w_32 (l12 + 1)), some (0, l13), none]) rfl rfl rfl rfl ?_
      refine w_goto rfl ?_
      exact w_W.less h (w_sub [true, true, true, true, true, true, true, false, true, false, true, false, true, false, false] rfl)
    · refine w_iload rfl rfl ?_
      refine w_aload_n rfl rfl ?_
      refine x_gfI rfl (s_P hl0) rfl (kk := 4) rfl rfl ?_
      refine w_icne rfl (w_ite h (fun h => ?_) (fun h => ?_))
      · refine w_iload rfl rfl ?_
        refine w_bipush rfl (by decide) ?_
        refine w_iceq rfl (w_ite h (fun h => ?_) (fun h => ?_))
        · refine w_aload_n rfl rfl ?_
          refine w_iconst rfl (by decide) ?_
          refine w_pfZ rfl (s_P hl0) rfl (w_EP hl0) rfl (kk := 16) rfl (by decide) ?_
          refine w_iload rfl rfl ?_
          refine w_bipush rfl (by decide) ?_
          refine w_icne rfl (w_ite h (fun h => ?_) (fun h => ?_))
          · refine w_iconst rfl (by decide) ?_
            refine w_goto rfl ?_
            refine w_istore_n (lv' := [some (2, l0), some (0, 1), some (0, l2), some (0, l3), some (0, l4), some (0, l5), some (1, l6), none, some (1, l8), none, some (1, l10), none, some (0, l12), some (0, l13), none]) rfl rfl rfl ?_
            refine w_goto rfl ?_
            refine w_iinc (lv' := [some (2, l0), some (0, 1), some (0, l2), some (0, l3), some (0, l4), some (0, l5), some (1, l6), none, some (1, l8), none, some (1, l10), none, some (0, w_32 (l12 + 1)), some (0, l13), none]) rfl rfl rfl rfl ?_
            refine w_goto rfl ?_
            exact w_W.less h (w_sub [true, true, true, true, true, true, true, false, true, false, true, false, true, false, false] rfl)
          · refine w_iconst rfl (by decide) ?_
            refine w_istore_n (lv' := [some (2, l0), some (0, 0), some (0, l2), some (0, l3), some (0, l4), some (0, l5), some (1, l6), none, some (1, l8), none, some (1, l10), none, some (0, l12), some (0, l13), none]) rfl rfl rfl ?_
            refine w_goto rfl ?_
            refine w_iinc (lv' := [some (2, l0), some (0, 0), some (0, l2), some (0, l3), some (0, l4), some (0, l5), some (1, l6), none, some (1, l8), none, some (1, l10), none, some (0, w_32 (l12 + 1)), some (0, l13), none]) rfl rfl rfl rfl ?_
            refine w_goto rfl ?_
            exact w_W.less h (w_sub [true, true, true, true, true, true, true, false, true, false, true, false, true, false, false] rfl)
        · refine w_iload rfl rfl ?_
          refine w_bipush rfl (by decide) ?_
          refine w_icne rfl (w_ite h (fun h => ?_) (fun h => ?_))
          · refine w_aload_n rfl rfl ?_
            refine w_iconst rfl (by decide) ?_
            refine w_pfZ rfl (s_P hl0) rfl (w_EP hl0) rfl (kk := 16) rfl (by decide) ?_
            refine w_iload rfl rfl ?_
            refine w_bipush rfl (by decide) ?_
            refine w_icne rfl (w_ite h (fun h => ?_) (fun h => ?_))
            · refine w_iconst rfl (by decide) ?_
              refine w_goto rfl ?_
              refine w_istore_n (lv' := [some (2, l0), some (0, 1), some (0, l2), some (0, l3), some (0, l4), some (0, l5), some (1, l6), none, some (1, l8), none, some (1, l10), none, some (0, l12), some (0, l13), none]) rfl rfl rfl ?_
              refine w_goto rfl ?_
              refine w_iinc (lv' := [some (2, l0), some (0, 1), some (0, l2), some (0, l3), some (0, l4), some (0, l5), some (1, l6), none, some (1, l8), none, some (1, l10), none, some (0, w_32 (l12 + 1)), some (0, l13), none]) rfl rfl rfl rfl ?_
              refine w_goto rfl ?_
              exact w_W.less h (w_sub [true, true, true, true, true, true, true, false, true, false, true, false, true, false, false] rfl)
            · refine w_iconst rfl (by decide) ?_
              refine w_istore_n (lv' := [some (2, l0), some (0, 0), some (0, l2), some (0, l3), some (0, l4), some (0, l5), some (1, l6), none, some (1, l8), none, some (1, l10), none, some (0, l12), some (0, l13), none]) rfl rfl rfl ?_
              refine w_goto rfl ?_
              refine w_iinc (lv' := [some (2, l0), some (0, 0), some (0, l2), some (0, l3), some (0, l4), some (0, l5), some (1, l6), none, some (1, l8), none, some (1, l10), none, some (0, w_32 (l12 + 1)), some (0, l13), none]) rfl rfl rfl rfl ?_
              refine w_goto rfl ?_
              exact w_W.less h (w_sub [true, true, true, true, true, true, true, false, true, false, true, false, true, false, false] rfl)
          · refine w_iload rfl rfl ?_
            refine w_callS (t' := 0) [(0, l13)] [] rfl (by decide) rfl rfl ?_
            refine w_C.more (Q := fun r2 m2 => _) h (fun r2 m2 h => ?_)
            replace h := id h
            refine w_ifeq rfl (w_ite h (fun h => ?_) (fun h => ?_))
            · exact w_W.less h (w_sub [true, true, true, true, true, true, true, false, true, false, true, false, true, false, false] rfl)
            · refine w_iconst rfl (by decide) ?_
              refine w_istore_n (lv' := [some (2, l0), some (0, l1), some (0, 1), some (0, l3), some (0, l4), some (0, l5), some (1, l6), none, some (1, l8), none, some (1, l10), none, some (0, l12), some (0, l13), none]) rfl rfl rfl ?_
              refine w_iinc (lv' := [some (2, l0), some (0, l1), some (0, 1), some (0, l3), some (0, l4), some (0, l5), some (1, l6), none, some (1, l8), none, some (1, l10), none, some (0, w_32 (l12 + 1)), some (0, l13), none]) rfl rfl rfl rfl ?_
              refine w_goto rfl ?_
              exact w_W.less h (w_sub [true, true, true, true, true, true, true, false, true, false, true, false, true, false, false] rfl)
      · refine w_iload rfl rfl ?_
        refine w_callS (t' := 0) [(0, l13)] [] rfl (by decide) rfl rfl ?_
        refine w_C.more (Q := fun r3 m3 => _) h (fun r3 m3 h => ?_)
        replace h := id h
        refine w_ifeq rfl (w_ite h (fun h => ?_) (fun h => ?_))
        · exact w_W.less h (w_sub [true, true, true, true, true, true, true, false, true, false, true, false, true, false, false] rfl)
        · refine w_iconst rfl (by decide) ?_
          refine w_istore_n (lv' := [some (2, l0), some (0, l1), some (0, 1), some (0, l3), some (0, l4), some (0, l5), some (1, l6), none, some (1, l8), none, some (1, l10), none, some (0, l12), some (0, l13), none]) rfl rfl rfl ?_
          refine w_iinc (lv' := [some (2, l0), some (0, l1), some (0, 1), some (0, l3), some (0, l4), some (0, l5), some (1, l6), none, some (1, l8), none, some (1, l10), none, some (0, w_32 (l12 + 1)), some (0, l13), none]) rfl rfl rfl rfl ?_
          refine w_goto rfl ?_
          exact w_W.less h (w_sub [true, true, true, true, true, true, true, false, true, false, true, false, true, false, false] rfl)
  · refine w_iinc (lv' := [some (2, l0), some (0, l1), some (0, l2), some (0, l3), some (0, l4), some (0, w_32 (l5 + 1)), some (1, l6), none, some (1, l8), none, some (1, l10), none, some (0, l12), some (0, l13), none]) rfl rfl rfl rfl ?_
    refine w_iload rfl rfl ?_
    refine w_bipush rfl (by decide) ?_
    refine w_icle rfl (w_ite h (fun h => ?_) (fun h => ?_))
    · refine w_lload rfl rfl ?_
      refine w_goto rfl ?_
      refine w_lstore (lv' := [some (2, l0), some (0, l1), some (0, l2), some (0, l3), some (0, l4), some (0, w_32 (l5 + 1)), some (1, l6), none, some (1, l8), none, some (1, l10), none, some (0, l12), some (0, l13), none]) rfl rfl rfl ?_
      refine w_iload rfl rfl ?_
      refine w_bipush rfl (by decide) ?_
      refine w_icle rfl (w_ite h (fun h => ?_) (fun h => ?_))
      · refine w_lload rfl rfl ?_
        refine w_goto rfl ?_
        refine w_lstore (lv' := [some (2, l0), some (0, l1), some (0, l2), some (0, l3), some (0, l4), some (0, w_32 (l5 + 1)), some (1, l6), none, some (1, l8), none, some (1, l10), none, some (0, l12), some (0, l13), none]) rfl rfl rfl ?_
        refine w_goto rfl ?_
        refine w_iinc (lv' := [some (2, l0), some (0, l1), some (0, l2), some (0, l3), some (0, l4), some (0, w_32 (l5 + 1)), some (1, l6), none, some (1, l8), none, some (1, l10), none, some (0, w_32 (l12 + 1)), some (0, l13), none]) rfl rfl rfl rfl ?_
        refine w_goto rfl ?_
        exact w_W.less h (w_sub [true, true, true, true, true, true, true, false, true, false, true, false, true, false, false] rfl)
      · refine w_lload rfl rfl ?_
        refine w_ldc2 (a := 10) rfl (by decide +kernel) (by decide) ?_
        refine w_lmul' rfl ?_
        refine w_lstore (lv' := [some (2, l0), some (0, l1), some (0, l2), some (0, l3), some (0, l4), some (0, w_32 (l5 + 1)), some (1, l6), none, some (1, l8), none, some (1, w_64 (l10 * 10)), none, some (0, l12), some (0, l13), none]) rfl rfl rfl ?_
        refine w_goto rfl ?_
        refine w_iinc (lv' := [some (2, l0), some (0, l1), some (0, l2), some (0, l3), some (0, l4), some (0, w_32 (l5 + 1)), some (1, l6), none, some (1, l8), none, some (1, w_64 (l10 * 10)), none, some (0, w_32 (l12 + 1)), some (0, l13), none]) rfl rfl rfl rfl ?_
        refine w_goto rfl ?_
        exact w_W.less h (w_sub [true, true, true, true, true, true, true, false, true, false, true, false, true, false, false] rfl)
    · refine w_lload rfl rfl ?_
      refine w_ldc2 (a := 10) rfl (by decide +kernel) (by decide) ?_
      refine w_lmul' rfl ?_
      refine w_iload rfl rfl ?_
      refine w_bipush rfl (by decide) ?_
      refine w_isub rfl ?_
      refine w_i2l rfl ?_
      refine w_ladd' rfl ?_
      refine w_lstore (lv' := [some (2, l0), some (0, l1), some (0, l2), some (0, l3), some (0, l4), some (0, w_32 (l5 + 1)), some (1, l6), none, some (1, w_64 ((w_64 (l8 * 10)) + (w_32 (l13 - 48)))), none, some (1, l10), none, some (0, l12), some (0, l13), none]) rfl rfl rfl ?_
      refine w_iload rfl rfl ?_
      refine w_bipush rfl (by decide) ?_
      refine w_icle rfl (w_ite h (fun h => ?_) (fun h => ?_))
      · refine w_lload rfl rfl ?_
        refine w_goto rfl ?_
        refine w_lstore (lv' := [some (2, l0), some (0, l1), some (0, l2), some (0, l3), some (0, l4), some (0, w_32 (l5 + 1)), some (1, l6), none, some (1, w_64 ((w_64 (l8 * 10)) + (w_32 (l13 - 48)))), none, some (1, l10), none, some (0, l12), some (0, l13), none]) rfl rfl rfl ?_
        refine w_goto rfl ?_
        refine w_iinc (lv' := [some (2, l0), some (0, l1), some (0, l2), some (0, l3), some (0, l4), some (0, w_32 (l5 + 1)), some (1, l6), none, some (1, w_64 ((w_64 (l8 * 10)) + (w_32 (l13 - 48)))), none, some (1, l10), none, some (0, w_32 (l12 + 1)), some (0, l13), none]) rfl rfl rfl rfl ?_
        refine w_goto rfl ?_
        exact w_W.less h (w_sub [true, true, true, true, true, true, true, false, true, false, true, false, true, false, false] rfl)
      · refine w_lload rfl rfl ?_
        refine w_ldc2 (a := 10) rfl (by decide +kernel) (by decide) ?_
        refine w_lmul' rfl ?_
        refine w_lstore (lv' := [some (2, l0), some (0, l1), some (0, l2), some (0, l3), some (0, l4), some (0, w_32 (l5 + 1)), some (1, l6), none, some (1, w_64 ((w_64 (l8 * 10)) + (w_32 (l13 - 48)))), none, some (1, w_64 (l10 * 10)), none, some (0, l12), some (0, l13), none]) rfl rfl rfl ?_
        refine w_goto rfl ?_
        refine w_iinc (lv' := [some (2, l0), some (0, l1), some (0, l2), some (0, l3), some (0, l4), some (0, w_32 (l5 + 1)), some (1, l6), none, some (1, w_64 ((w_64 (l8 * 10)) + (w_32 (l13 - 48)))), none, some (1, w_64 (l10 * 10)), none, some (0, w_32 (l12 + 1)), some (0, l13), none]) rfl rfl rfl rfl ?_
        refine w_goto rfl ?_
        exact w_W.less h (w_sub [true, true, true, true, true, true, true, false, true, false, true, false, true, false, false] rfl)
theorem xr_ps_lookAtRow_242 {d : Nat} {l0 l1 l2 l3 l4 l5 l6 l8 l10 l12 : Int} {m : w_M} {Q : Int → w_M → Prop} (hl0 : w_isP l0) (h : if l2 = 0 then (if 1 < l3 then (xp_ps_lookAtRow_279 d l0 l1 l3 l4 l5 l6 l8 l10 (-1) (w_up m l0 12 l12) Q) else (if (w_32 (l4 + l5)) = 0 then (xp_ps_lookAtRow_279 d l0 l1 l3 l4 l5 l6 l8 l10 (-1) (w_up m l0 12 l12) Q) else (if l3 = 0 then (xp_ps_lookAtRow_279 d l0 l1 l3 l4 l5 l6 l8 l10 2 (w_up m l0 12 l12) Q) else (xp_ps_lookAtRow_279 d l0 l1 l3 l4 l5 l6 l8 l10 3 (w_up m l0 12 l12) Q)))) else (xp_ps_lookAtRow_279 d l0 l1 l3 l4 l5 l6 l8 l10 (-1) (w_up m l0 12 l12) Q)) : xp_ps_lookAtRow_242 d l0 l1 l2 l3 l4 l5 l6 l8 l10 l12 m Q := by
  refine w_aload_n rfl rfl ?_
  refine w_iload rfl rfl ?_
  refine w_pfI rfl (s_P hl0) rfl (w_EP hl0) rfl (kk := 12) rfl ?_
  refine w_aload_n rfl rfl ?_
  refine w_iload_n rfl rfl ?_
  refine w_ifne rfl (w_ite h (fun h => ?_) (fun h => ?_))
  · refine w_iload_n rfl rfl ?_
    refine w_iconst rfl (by decide) ?_
    refine w_icgt rfl (w_ite h (fun h => ?_) (fun h => ?_))
    · refine w_iconst rfl (by decide) ?_
      refine w_goto rfl ?_
      exact w_W.less h (w_sub [true, true, false, true, true, true, true, false, true, false, true, false, false, false, false] rfl)
    · refine w_iload rfl rfl ?_
      refine w_iload rfl rfl ?_
      refine w_iadd rfl ?_
      refine w_ifne rfl (w_ite h (fun h => ?_) (fun h => ?_))
      · refine w_iconst rfl (by decide) ?_
        refine w_goto rfl ?_
        exact w_W.less h (w_sub [true, true, false, true, true, true, true, false, true, false, true, false, false, false, false] rfl)
      · refine w_iload_n rfl rfl ?_
        refine w_ifne rfl (w_ite h (fun h => ?_) (fun h => ?_))
        · refine w_iconst rfl (by decide) ?_
          refine w_goto rfl ?_
          exact w_W.less h (w_sub [true, true, false, true, true, true, true, false, true, false, true, false, false, false, false] rfl)
        · refine w_iconst rfl (by decide) ?_
          exact w_W.less h (w_sub [true, true, false, true, true, true, true, false, true, false, true, false, false, false, false] rfl)
  · refine w_iconst rfl (by decide) ?_
    refine w_goto rfl ?_
    exact w_W.less h (w_sub [true, true, false, true, true, true, true, false, true, false, true, false, false, false, false] rfl)
theorem xr_ps_lookAtRow_279 {d : Nat} {l0 l1 l3 l4 l5 l6 l8 l10 s1 : Int} {m : w_M} {Q : Int → w_M → Prop} (hl0 : w_isP l0) (h : if l3 = 1 then ((max 1 (w_64 (2 * l10))) ≠ 0 ∧ (if l1 = 0 then (xp_ps_lookAtRow_328 d l0 l3 l4 l5 (w_64 ((w_64 (l6 * 65536)) + (w_ldiv (w_64 ((w_64 (l8 * 131072)) + l10)) (max 1 (w_64 (2 * l10)))))) (w_up m l0 13 s1) Q) else (xp_ps_lookAtRow_328 d l0 l3 l4 l5 (w_64 (-(w_64 ((w_64 (l6 * 65536)) + (w_ldiv (w_64 ((w_64 (l8 * 131072)) + l10)) (max 1 (w_64 (2 * l10)))))))) (w_up m l0 13 s1) Q))) else (if l1 = 0 then (xp_ps_lookAtRow_328 d l0 l3 l4 l5 l6 (w_up m l0 13 s1) Q) else (xp_ps_lookAtRow_328 d l0 l3 l4 l5 (w_64 (-l6)) (w_up m l0 13 s1) Q))) : xp_ps_lookAtRow_279 d l0 l1 l3 l4 l5 l6 l8 l10 s1 m Q := by
  refine w_pfI rfl (s_P hl0) rfl (w_EP hl0) rfl (kk := 13) rfl ?_
  refine w_iload_n rfl rfl ?_
  refine w_iconst rfl (by decide) ?_
  refine w_icne rfl (w_ite h (fun h => ?_) (fun h => ?_))
  · refine w_lload rfl rfl ?_
    refine w_ldc2 (a := 65536) rfl (by decide +kernel) (by decide) ?_
    refine w_lmul' rfl ?_
    refine w_lload rfl rfl ?_
    refine w_ldc2 (a := 131072) rfl (by decide +kernel) (by decide) ?_
    refine w_lmul' rfl ?_
    refine w_lload rfl rfl ?_
    refine w_ladd' rfl ?_
    refine w_lconst rfl rfl ?_
    refine w_ldc2 (a := 2) rfl (by decide +kernel) (by decide) ?_
    refine w_lload rfl rfl ?_
    refine w_lmul' rfl ?_
    refine w_lmax rfl rfl ?_
    refine w_ldiv' rfl h.1 ?_
    replace h := h.2
    refine w_ladd' rfl ?_
    refine w_lstore (lv' := [some (2, l0), some (0, l1), none, some (0, l3), some (0, l4), some (0, l5), some (1, w_64 ((w_64 (l6 * 65536)) + (w_ldiv (w_64 ((w_64 (l8 * 131072)) + l10)) (max 1 (w_64 (2 * l10)))))), none, some (1, l8), none, some (1, l10), none, none, none, none]) rfl rfl rfl ?_
    refine w_iload_n rfl rfl ?_
    refine w_ifeq rfl (w_ite h (fun h => ?_) (fun h => ?_))
    · refine w_lload rfl rfl ?_
      exact w_W.less h (w_sub [true, false, false, true, true, true, false, false, false, false, false, false, false, false, false] rfl)
    · refine w_lload rfl rfl ?_
      refine w_lneg rfl ?_
      refine w_goto rfl ?_
      exact w_W.less h (w_sub [true, false, false, true, true, true, false, false, false, false, false, false, false, false, false] rfl)
  · refine w_iload_n rfl rfl ?_
    refine w_ifeq rfl (w_ite h (fun h => ?_) (fun h => ?_))
    · refine w_lload rfl rfl ?_
      exact w_W.less h (w_sub [true, false, false, true, true, true, false, false, false, false, false, false, false, false, false] rfl)
    · refine w_lload rfl rfl ?_
      refine w_lneg rfl ?_
      refine w_goto rfl ?_
      exact w_W.less h (w_sub [true, false, false, true, true, true, false, false, false, false, false, false, false, false, false] rfl)
theorem xr_ps_lookAtRow_328 {d : Nat} {l0 l3 l4 l5 s0 : Int} {m : w_M} {Q : Int → w_M → Prop} (hl0 : w_isP l0) (h : if l3 = 1 then (if 9 < l4 then (Q 0 (w_up (w_up m l0 14 (w_32 s0)) l0 15 1)) else (if 9 < l5 then (Q 0 (w_up (w_up m l0 14 (w_32 s0)) l0 15 1)) else (if s0 < (-2147483648) then (Q 0 (w_up (w_up m l0 14 (w_32 s0)) l0 15 1)) else (if 2147483647 < s0 then (Q 0 (w_up (w_up m l0 14 (w_32 s0)) l0 15 1)) else (Q 0 (w_up (w_up m l0 14 (w_32 s0)) l0 15 0)))))) else (if s0 < (-2147483648) then (Q 0 (w_up (w_up m l0 14 (w_32 s0)) l0 15 1)) else (if 2147483647 < s0 then (Q 0 (w_up (w_up m l0 14 (w_32 s0)) l0 15 1)) else (Q 0 (w_up (w_up m l0 14 (w_32 s0)) l0 15 0))))) : xp_ps_lookAtRow_328 d l0 l3 l4 l5 s0 m Q := by
  refine w_lstore (lv' := [some (2, l0), none, none, some (0, l3), some (0, l4), some (0, l5), none, none, none, none, none, none, none, some (1, s0), none]) rfl rfl rfl ?_
  refine w_aload_n rfl rfl ?_
  refine w_lload rfl rfl ?_
  refine w_l2i rfl ?_
  refine w_pfI rfl (s_P hl0) rfl (w_EP hl0) rfl (kk := 14) rfl ?_
  refine w_aload_n rfl rfl ?_
  refine w_iload_n rfl rfl ?_
  refine w_iconst rfl (by decide) ?_
  refine w_icne rfl (w_ite h (fun h => ?_) (fun h => ?_))
  · refine w_iload rfl rfl ?_
    refine w_bipush rfl (by decide) ?_
    refine w_icgt rfl (w_ite h (fun h => ?_) (fun h => ?_))
    · refine w_iconst rfl (by decide) ?_
      refine w_goto rfl ?_
      refine w_pfZ rfl (s_P hl0) rfl (w_EP hl0) rfl (kk := 15) rfl (by decide) ?_
      exact w_vret rfl rfl h
    · refine w_iload rfl rfl ?_
      refine w_bipush rfl (by decide) ?_
      refine w_icgt rfl (w_ite h (fun h => ?_) (fun h => ?_))
      · refine w_iconst rfl (by decide) ?_
        refine w_goto rfl ?_
        refine w_pfZ rfl (s_P hl0) rfl (w_EP hl0) rfl (kk := 15) rfl (by decide) ?_
        exact w_vret rfl rfl h
      · refine w_lload rfl rfl ?_
        refine w_ldc2 (a := (-2147483648)) rfl (by decide +kernel) (by decide) ?_
        refine w_lclt rfl rfl (w_ite h (fun h => ?_) (fun h => ?_))
        · refine w_iconst rfl (by decide) ?_
          refine w_goto rfl ?_
          refine w_pfZ rfl (s_P hl0) rfl (w_EP hl0) rfl (kk := 15) rfl (by decide) ?_
          exact w_vret rfl rfl h
        · refine w_lload rfl rfl ?_
          refine w_ldc2 (a := 2147483647) rfl (by decide +kernel) (by decide) ?_
          refine w_lcle rfl rfl (w_ite h (fun h => ?_) (fun h => ?_))
          · refine w_iconst rfl (by decide) ?_
            refine w_goto rfl ?_
            refine w_pfZ rfl (s_P hl0) rfl (w_EP hl0) rfl (kk := 15) rfl (by decide) ?_
            exact w_vret rfl rfl h
          · refine w_iconst rfl (by decide) ?_
            refine w_pfZ rfl (s_P hl0) rfl (w_EP hl0) rfl (kk := 15) rfl (by decide) ?_
            exact w_vret rfl rfl h
  · refine w_lload rfl rfl ?_
    refine w_ldc2 (a := (-2147483648)) rfl (by decide +kernel) (by decide) ?_
    refine w_lclt rfl rfl (w_ite h (fun h => ?_) (fun h => ?_))
    · refine w_iconst rfl (by decide) ?_
      refine w_goto rfl ?_
      refine w_pfZ rfl (s_P hl0) rfl (w_EP hl0) rfl (kk := 15) rfl (by decide) ?_
      exact w_vret rfl rfl h
    · refine w_lload rfl rfl ?_
      refine w_ldc2 (a := 2147483647) rfl (by decide +kernel) (by decide) ?_
      refine w_lcle rfl rfl (w_ite h (fun h => ?_) (fun h => ?_))
      · refine w_iconst rfl (by decide) ?_
        refine w_goto rfl ?_
        refine w_pfZ rfl (s_P hl0) rfl (w_EP hl0) rfl (kk := 15) rfl (by decide) ?_
        exact w_vret rfl rfl h
      · refine w_iconst rfl (by decide) ?_
        refine w_pfZ rfl (s_P hl0) rfl (w_EP hl0) rfl (kk := 15) rfl (by decide) ?_
        exact w_vret rfl rfl h
theorem xr_ps_make {d : Nat} {l0 l1 l2 l3 l4 : Int} {m : w_M} {Q : Int → w_M → Prop} (hl0 : w_isP l0) (h : if l1 = 4 then (xp_ps_make_15 d l0 l1 l2 l3 l4 l3 m Q) else (if l1 = 5 then (xp_ps_make_15 d l0 l1 l2 l3 l4 l3 m Q) else (xp_ps_make_15 d l0 l1 l2 l3 l4 0 m Q))) : xc_ps_make (d + 1) l0 l1 l2 l3 l4 m Q := by
  refine w_enter (q := 2) (lv := [some (2, l0), some (0, l1), some (0, l2), some (0, l3), some (0, l4), none, none]) rfl rfl rfl ?_
  refine w_iload_n rfl rfl ?_
  refine w_iconst rfl (by decide) ?_
  refine w_iceq rfl (w_ite h (fun h => ?_) (fun h => ?_))
  · refine w_iload_n rfl rfl ?_
    refine w_goto rfl ?_
    exact w_W.less h (w_sub [true, true, true, true, true, false, false] rfl)
  · refine w_iload_n rfl rfl ?_
    refine w_iconst rfl (by decide) ?_
    refine w_icne rfl (w_ite h (fun h => ?_) (fun h => ?_))
    · refine w_iload_n rfl rfl ?_
      refine w_goto rfl ?_
      exact w_W.less h (w_sub [true, true, true, true, true, false, false] rfl)
    · refine w_iconst rfl (by decide) ?_
      exact w_W.less h (w_sub [true, true, true, true, true, false, false] rfl)
theorem xr_ps_make_15 {d : Nat} {l0 l1 l2 l3 l4 s0 : Int} {m : w_M} {Q : Int → w_M → Prop} (hl0 : w_isP l0) (h : if (w_32 ((m 359 6) - (m l0 8))) < 6000 then (if 60000 < (w_32 ((w_32 ((m 359 7) - (m l0 9))) + s0)) then (xc_ps_failAt d l0 5 l4 m (fun r1 m1 => Q r1 m1)) else (if 108612 < (w_32 ((m 359 7) + s0)) then (xc_ps_failAt d l0 5 l4 m (fun r2 m2 => Q r2 m2)) else (xc_st_add d l1 l2 l3 m (fun r3 m3 => if r3 < 0 then (xc_ps_failAt d l0 5 l4 m3 (fun r4 m4 => Q r4 m4)) else (Q r3 (w_up m3 359 7 (w_32 ((m3 359 7) + s0)))))))) else (xc_ps_failAt d l0 5 l4 m (fun r5 m5 => Q r5 m5))) : xp_ps_make_15 d l0 l1 l2 l3 l4 s0 m Q := by
  refine w_istore (lv' := [some (2, l0), some (0, l1), some (0, l2), some (0, l3), some (0, l4), some (0, s0), none]) rfl rfl rfl ?_
  refine w_aload_n rfl rfl ?_
  refine w_gfC (c := 359) rfl (s_P hl0) rfl rfl ?_
  refine x_gfI rfl s_359 rfl (kk := 6) rfl rfl ?_
  refine w_aload_n rfl rfl ?_
  refine x_gfI rfl (s_P hl0) rfl (kk := 8) rfl rfl ?_
  refine w_isub rfl ?_
  refine w_sipush rfl (by decide) ?_
  refine w_icge rfl (w_ite h (fun h => ?_) (fun h => ?_))
  · refine w_aload_n rfl rfl ?_
    refine w_gfC (c := 359) rfl (s_P hl0) rfl rfl ?_
    refine x_gfI rfl s_359 rfl (kk := 7) rfl rfl ?_
    refine w_aload_n rfl rfl ?_
    refine x_gfI rfl (s_P hl0) rfl (kk := 9) rfl rfl ?_
    refine w_isub rfl ?_
    refine w_iload rfl rfl ?_
    refine w_iadd rfl ?_
    refine w_ldc (a := 60000) rfl (by decide +kernel) (by decide) ?_
    refine w_icgt rfl (w_ite h (fun h => ?_) (fun h => ?_))
    · refine w_aload_n rfl rfl ?_
      refine w_iconst rfl (by decide) ?_
      refine w_iload rfl rfl ?_
      refine w_callV (t' := 0) [(0, l4), (0, 5)] [] rfl (s_P hl0) rfl rfl ?_
      refine w_C.more (Q := fun r1 m1 => _) h (fun r1 m1 h => ?_)
      replace h := id h
      exact w_iret rfl rfl h
    · refine w_aload_n rfl rfl ?_
      refine w_gfC (c := 359) rfl (s_P hl0) rfl rfl ?_
      refine x_gfI rfl s_359 rfl (kk := 7) rfl rfl ?_
      refine w_iload rfl rfl ?_
      refine w_iadd rfl ?_
      refine w_aload_n rfl rfl ?_
      refine w_gfC (c := 365) rfl (s_P hl0) rfl rfl ?_
      refine w_len rfl s_365 (by decide) (n := 108612) rfl (by decide) ?_
      refine w_icle rfl (w_ite h (fun h => ?_) (fun h => ?_))
      · refine w_aload_n rfl rfl ?_
        refine w_iconst rfl (by decide) ?_
        refine w_iload rfl rfl ?_
        refine w_callV (t' := 0) [(0, l4), (0, 5)] [] rfl (s_P hl0) rfl rfl ?_
        refine w_C.more (Q := fun r2 m2 => _) h (fun r2 m2 h => ?_)
        replace h := id h
        exact w_iret rfl rfl h
      · refine w_aload_n rfl rfl ?_
        refine w_gfC (c := 359) rfl (s_P hl0) rfl rfl ?_
        refine w_iload_n rfl rfl ?_
        refine w_iload_n rfl rfl ?_
        refine w_iload_n rfl rfl ?_
        refine w_callV (t' := 0) [(0, l3), (0, l2), (0, l1)] [] rfl s_359 rfl rfl ?_
        refine w_C.more (Q := fun r3 m3 => _) h (fun r3 m3 h => ?_)
        replace h := id h
        refine w_istore (lv' := [some (2, l0), some (0, l1), some (0, l2), some (0, l3), some (0, l4), some (0, s0), some (0, r3)]) rfl rfl rfl ?_
        refine w_iload rfl rfl ?_
        refine w_ifge rfl (w_ite h (fun h => ?_) (fun h => ?_))
        · refine w_aload_n rfl rfl ?_
          refine w_iconst rfl (by decide) ?_
          refine w_iload rfl rfl ?_
          refine w_callV (t' := 0) [(0, l4), (0, 5)] [] rfl (s_P hl0) rfl rfl ?_
          refine w_C.more (Q := fun r4 m4 => _) h (fun r4 m4 h => ?_)
          replace h := id h
          exact w_iret rfl rfl h
        · refine w_aload_n rfl rfl ?_
          refine w_gfC (c := 359) rfl (s_P hl0) rfl rfl ?_
          refine w_dup rfl (show (2 : Nat) ≠ 1 by decide) ?_
          refine x_gfI rfl s_359 rfl (kk := 7) rfl rfl ?_
          refine w_iload rfl rfl ?_
          refine w_iadd rfl ?_
          refine w_pfI rfl s_359 rfl (w_EC (by decide)) rfl (kk := 7) rfl ?_
          refine w_iload rfl rfl ?_
          exact w_iret rfl rfl h
  · refine w_aload_n rfl rfl ?_
    refine w_iconst rfl (by decide) ?_
    refine w_iload rfl rfl ?_
    refine w_callV (t' := 0) [(0, l4), (0, 5)] [] rfl (s_P hl0) rfl rfl ?_
    refine w_C.more (Q := fun r5 m5 => _) h (fun r5 m5 h => ?_)
    replace h := id h
    exact w_iret rfl rfl h
theorem xr_ps_name {d : Nat} {l0 : Int} {m : w_M} {Q : Int → w_M → Prop} (hl0 : w_isP l0) (h : xp_ps_name_14 d l0 (m l0 4) (w_32 ((m l0 4) + 1)) (w_up m l0 17 0) Q) : xc_ps_name (d + 1) l0 m Q := by
  refine w_enter (q := 5) (lv := [some (2, l0), none, none, none, none, none]) rfl rfl rfl ?_
  refine w_aload_n rfl rfl ?_
  refine x_gfI rfl (s_P hl0) rfl (kk := 4) rfl rfl ?_
  refine w_istore_n (lv' := [some (2, l0), some (0, m l0 4), none, none, none, none]) rfl rfl rfl ?_
  refine w_aload_n rfl rfl ?_
  refine w_iconst rfl (by decide) ?_
  refine w_pfI rfl (s_P hl0) rfl (w_EP hl0) rfl (kk := 17) rfl ?_
  refine w_iload_n rfl rfl ?_
  refine w_iconst rfl (by decide) ?_
  refine w_iadd rfl ?_
  refine w_istore_n (lv' := [some (2, l0), some (0, m l0 4), some (0, w_32 ((m l0 4) + 1)), none, none, none]) rfl rfl rfl ?_
  exact w_W.less h (w_sub [true, true, true, false, false, false] rfl)
theorem xr_ps_name_14 {d : Nat} {l0 l1 l2 : Int} {m : w_M} {Q : Int → w_M → Prop} (hl0 : w_isP l0) (h : if l2 < (m l0 5) then (xc_ps_at d l0 l2 m (fun r1 m1 => xc_ps_isRegular d r1 m1 (fun r2 m2 => if r2 = 0 then (xp_ps_name_113 d l0 l1 l2 m2 Q) else (xc_ps_at d l0 l2 m2 (fun r3 m3 => if r3 = 35 then (xc_ps_at d l0 (w_32 (l2 + 1)) m3 (fun r4 m4 => xc_ps_hex d r4 m4 (fun r5 m5 => xc_ps_at d l0 (w_32 (l2 + 2)) m5 (fun r6 m6 => xc_ps_hex d r6 m6 (fun r7 m7 => if r5 < 0 then (xc_ps_failAt d l0 4 l1 m7 (fun r8 m8 => Q r8 m8)) else (if r7 < 0 then (xc_ps_failAt d l0 4 l1 m7 (fun r9 m9 => Q r9 m9)) else (if (w_32 ((w_32 (r5 * 16)) + r7)) = 0 then (xc_ps_failAt d l0 4 l1 m7 (fun r10 m10 => Q r10 m10)) else (xc_ps_put d l0 (w_32 ((w_32 (r5 * 16)) + r7)) m7 (fun r11 m11 => xp_ps_name_14 d l0 l1 (w_32 (w_32 (l2 + 2) + 1)) m11 Q))))))))) else (xc_ps_put d l0 r3 m3 (fun r12 m12 => xp_ps_name_14 d l0 l1 (w_32 (l2 + 1)) m12 Q))))))) else (xp_ps_name_113 d l0 l1 l2 m Q)) : xp_ps_name_14 d l0 l1 l2 m Q := by
  refine w_iload_n rfl rfl ?_
  refine w_aload_n rfl rfl ?_
  refine x_gfI rfl (s_P hl0) rfl (kk := 5) rfl rfl ?_
  refine w_icge rfl (w_ite h (fun h => ?_) (fun h => ?_))
  · refine w_aload_n rfl rfl ?_
    refine w_iload_n rfl rfl ?_
    refine w_callV (t' := 0) [(0, l2)] [] rfl (s_P hl0) rfl rfl ?_
    refine w_C.more (Q := fun r1 m1 => _) h (fun r1 m1 h => ?_)
    replace h := id h
    refine w_callS (t' := 0) [(0, r1)] [] rfl (by decide) rfl rfl ?_
    refine w_C.more (Q := fun r2 m2 => _) h (fun r2 m2 h => ?_)
    replace h := id h
    refine w_ifeq rfl (w_ite h (fun h => ?_) (fun h => ?_))
    · exact w_W.less h (w_sub [true, true, true, false, false, false] rfl)
    · refine w_aload_n rfl rfl ?_
      refine w_iload_n rfl rfl ?_
      refine w_callV (t' := 0) [(0, l2)] [] rfl (s_P hl0) rfl rfl ?_
      refine w_C.more (Q := fun r3 m3 => _) h (fun r3 m3 h => ?_)
      replace h := id h
      refine w_istore_n (lv' := [some (2, l0), some (0, l1), some (0, l2), some (0, r3), none, none]) rfl rfl rfl ?_
      refine w_iload_n rfl rfl ?_
      refine w_bipush rfl (by decide) ?_
      refine w_icne rfl (w_ite h (fun h => ?_) (fun h => ?_))
      · refine w_aload_n rfl rfl ?_
        refine w_iload_n rfl rfl ?_
        refine w_iconst rfl (by decide) ?_
        refine w_iadd rfl ?_
        refine w_callV (t' := 0) [(0, w_32 (l2 + 1))] [] rfl (s_P hl0) rfl rfl ?_
        refine w_C.more (Q := fun r4 m4 => _) h (fun r4 m4 h => ?_)
        replace h := id h
        refine w_callS (t' := 0) [(0, r4)] [] rfl (by decide) rfl rfl ?_
        refine w_C.more (Q := fun r5 m5 => _) h (fun r5 m5 h => ?_)
        replace h := id h
        refine w_istore (lv' := [some (2, l0), some (0, l1), some (0, l2), some (0, r3), some (0, r5), none]) rfl rfl rfl ?_
        refine w_aload_n rfl rfl ?_
        refine w_iload_n rfl rfl ?_
        refine w_iconst rfl (by decide) ?_
        refine w_iadd rfl ?_
        refine w_callV (t' := 0) [(0, w_32 (l2 + 2))] [] rfl (s_P hl0) rfl rfl ?_
        refine w_C.more (Q := fun r6 m6 => _) h (fun r6 m6 h => ?_)
        replace h := id h
        refine w_callS (t' := 0) [(0, r6)] [] rfl (by decide) rfl rfl ?_
        refine w_C.more (Q := fun r7 m7 => _) h (fun r7 m7 h => ?_)
        replace h := id h
        refine w_istore (lv' := [some (2, l0), some (0, l1), some (0, l2), some (0, r3), some (0, r5), some (0, r7)]) rfl rfl rfl ?_
        refine w_iload rfl rfl ?_
        refine w_bipush rfl (by decide) ?_
        refine w_imul rfl ?_
        refine w_iload rfl rfl ?_
        refine w_iadd rfl ?_
        refine w_istore_n (lv' := [some (2, l0), some (0, l1), some (0, l2), some (0, w_32 ((w_32 (r5 * 16)) + r7)), some (0, r5), some (0, r7)]) rfl rfl rfl ?_
        refine w_iload rfl rfl ?_
        refine w_iflt rfl (w_ite h (fun h => ?_) (fun h => ?_))
        · refine w_aload_n rfl rfl ?_
          refine w_iconst rfl (by decide) ?_
          refine w_iload_n rfl rfl ?_
          refine w_callV (t' := 0) [(0, l1), (0, 4)] [] rfl (s_P hl0) rfl rfl ?_
          refine w_C.more (Q := fun r8 m8 => _) h (fun r8 m8 h => ?_)
          replace h := id h
          exact w_iret rfl rfl h
        · refine w_iload rfl rfl ?_
          refine w_iflt rfl (w_ite h (fun h => ?_) (fun h => ?_))
          · refine w_aload_n rfl rfl ?_
            refine w_iconst rfl (by decide) ?_
            refine w_iload_n rfl rfl ?_
            refine w_callV (t' := 0) [(0, l1), (0, 4)] [] rfl (s_P hl0) rfl rfl ?_
            refine w_C.more (Q := fun r9 m9 => _) h (fun r9 m9 h => ?_)
            replace h := id h
            exact w_iret rfl rfl h
          · refine w_iload_n rfl rfl ?_
            refine w_ifne rfl (w_ite h (fun h => ?_) (fun h => ?_))
            · refine w_aload_n rfl rfl ?_
              refine w_iconst rfl (by decide) ?_
              refine w_iload_n rfl rfl ?_
              refine w_callV (t' := 0) [(0, l1), (0, 4)] [] rfl (s_P hl0) rfl rfl ?_
              refine w_C.more (Q := fun r10 m10 => _) h (fun r10 m10 h => ?_)
              replace h := id h
              exact w_iret rfl rfl h
            · refine w_iinc (lv' := [some (2, l0), some (0, l1), some (0, w_32 (l2 + 2)), some (0, w_32 ((w_32 (r5 * 16)) + r7)), some (0, r5), some (0, r7)]) rfl rfl rfl rfl ?_
              refine w_aload_n rfl rfl ?_
              refine w_iload_n rfl rfl ?_
              refine w_callV (t' := 3) [(0, w_32 ((w_32 (r5 * 16)) + r7))] [] rfl (s_P hl0) rfl rfl ?_
              refine w_C.more (Q := fun r11 m11 => _) h (fun r11 m11 h => ?_)
              replace h := id h
              refine w_iinc (lv' := [some (2, l0), some (0, l1), some (0, w_32 (w_32 (l2 + 2) + 1)), some (0, w_32 ((w_32 (r5 * 16)) + r7)), some (0, r5), some (0, r7)]) rfl rfl rfl rfl ?_
              refine w_goto rfl ?_
              exact w_W.less h (w_sub [true, true, true, false, false, false] rfl)
      · refine w_aload_n rfl rfl ?_
        refine w_iload_n rfl rfl ?_
        refine w_callV (t' := 3) [(0, r3)] [] rfl (s_P hl0) rfl rfl ?_
        refine w_C.more (Q := fun r12 m12 => _) h (fun r12 m12 h => ?_)
        replace h := id h
        refine w_iinc (lv' := [some (2, l0), some (0, l1), some (0, w_32 (l2 + 1)), some (0, r3), none, none]) rfl rfl rfl rfl ?_
        refine w_goto rfl ?_
        exact w_W.less h (w_sub [true, true, true, false, false, false] rfl)
  · exact w_W.less h (w_sub [true, true, true, false, false, false] rfl)
theorem xr_ps_name_113 {d : Nat} {l0 l1 l2 : Int} {m : w_M} {Q : Int → w_M → Prop} (hl0 : w_isP l0) (h : if 60 < (m l0 17) then (xc_ps_failAt d l0 5 l1 (w_up m l0 4 l2) (fun r1 m1 => Q r1 m1)) else (xc_ps_make d l0 4 (m 359 7) (m l0 17) l1 (w_up m l0 4 l2) (fun r2 m2 => Q r2 m2))) : xp_ps_name_113 d l0 l1 l2 m Q := by
  refine w_aload_n rfl rfl ?_
  refine w_iload_n rfl rfl ?_
  refine w_pfI rfl (s_P hl0) rfl (w_EP hl0) rfl (kk := 4) rfl ?_
  refine w_aload_n rfl rfl ?_
  refine x_gfI rfl (s_P hl0) rfl (kk := 17) rfl (w_up_nb (by decide)) ?_
  refine w_bipush rfl (by decide) ?_
  refine w_icle rfl (w_ite h (fun h => ?_) (fun h => ?_))
  · refine w_aload_n rfl rfl ?_
    refine w_iconst rfl (by decide) ?_
    refine w_iload_n rfl rfl ?_
    refine w_callV (t' := 0) [(0, l1), (0, 5)] [] rfl (s_P hl0) rfl rfl ?_
    refine w_C.more (Q := fun r1 m1 => _) h (fun r1 m1 h => ?_)
    replace h := id h
    refine w_goto rfl ?_
    exact w_iret rfl rfl h
  · refine w_aload_n rfl rfl ?_
    refine w_iconst rfl (by decide) ?_
    refine w_aload_n rfl rfl ?_
    refine w_gfC (c := 359) rfl (s_P hl0) rfl rfl ?_
    refine x_gfI rfl s_359 rfl (kk := 7) rfl (w_up_ne (Ne.symm (w_isP_ne hl0 (by decide)))) ?_
    refine w_aload_n rfl rfl ?_
    refine x_gfI rfl (s_P hl0) rfl (kk := 17) rfl (w_up_nb (by decide)) ?_
    refine w_iload_n rfl rfl ?_
    refine w_callV (t' := 0) [(0, l1), (0, m l0 17), (0, m 359 7), (0, 4)] [] rfl (s_P hl0) rfl rfl ?_
    refine w_C.more (Q := fun r2 m2 => _) h (fun r2 m2 h => ?_)
    replace h := id h
    exact w_iret rfl rfl h
theorem xr_ps_noKey {d : Nat} {l0 l1 : Int} {m : w_M} {Q : Int → w_M → Prop} (hl0 : w_isP l0) (h : xc_ps_at d l0 l1 m (fun r1 m1 => if r1 = 40 then (xp_ps_noKey_30 d l0 l1 r1 m1 Q) else (if r1 = 60 then (xc_ps_at d l0 (w_32 (l1 + 1)) m1 (fun r2 m2 => if r2 = 60 then (xp_ps_noKey_84 d l0 l1 m2 Q) else (xp_ps_noKey_30 d l0 l1 r1 m2 Q))) else (xp_ps_noKey_84 d l0 l1 m1 Q)))) : xc_ps_noKey (d + 1) l0 l1 m Q := by
  refine w_enter (q := 2) (lv := [some (2, l0), some (0, l1), none, none]) rfl rfl rfl ?_
  refine w_aload_n rfl rfl ?_
  refine w_iload_n rfl rfl ?_
  refine w_callV (t' := 0) [(0, l1)] [] rfl (s_P hl0) rfl rfl ?_
  refine w_C.more (Q := fun r1 m1 => _) h (fun r1 m1 h => ?_)
  replace h := id h
  refine w_istore_n (lv' := [some (2, l0), some (0, l1), some (0, r1), none]) rfl rfl rfl ?_
  refine w_iload_n rfl rfl ?_
  refine w_bipush rfl (by decide) ?_
  refine w_iceq rfl (w_ite h (fun h => ?_) (fun h => ?_))
  · exact w_W.less h (w_sub [true, true, true, false] rfl)
  · refine w_iload_n rfl rfl ?_
    refine w_bipush rfl (by decide) ?_
    refine w_icne rfl (w_ite h (fun h => ?_) (fun h => ?_))
    · refine w_aload_n rfl rfl ?_
      refine w_iload_n rfl rfl ?_
      refine w_iconst rfl (by decide) ?_
      refine w_iadd rfl ?_
      refine w_callV (t' := 0) [(0, w_32 (l1 + 1))] [] rfl (s_P hl0) rfl rfl ?_
      refine w_C.more (Q := fun r2 m2 => _) h (fun r2 m2 h => ?_)
      replace h := id h
      refine w_bipush rfl (by decide) ?_
      refine w_iceq rfl (w_ite h (fun h => ?_) (fun h => ?_))
      · exact w_W.less h (w_sub [true, true, false, false] rfl)
      · exact w_W.less h (w_sub [true, true, true, false] rfl)
    · exact w_W.less h (w_sub [true, true, false, false] rfl)
theorem xr_ps_noKey_30 {d : Nat} {l0 l1 l2 : Int} {m : w_M} {Q : Int → w_M → Prop} (hl0 : w_isP l0) (h : if l2 = 40 then (xc_ps_scanRound d l0 m (fun r1 m1 => if r1 = 0 then (xc_ps_failAt d l0 4 l1 m1 (fun r2 m2 => Q r2 m2)) else (xp_ps_noKey_53 d l0 l1 m1 Q))) else (xc_ps_scanHex d l0 m (fun r3 m3 => if r3 = 0 then (xc_ps_failAt d l0 4 l1 m3 (fun r4 m4 => Q r4 m4)) else (xp_ps_noKey_53 d l0 l1 m3 Q)))) : xp_ps_noKey_30 d l0 l1 l2 m Q := by
  refine w_iload_n rfl rfl ?_
  refine w_bipush rfl (by decide) ?_
  refine w_icne rfl (w_ite h (fun h => ?_) (fun h => ?_))
  · refine w_aload_n rfl rfl ?_
    refine w_callV (t' := 0) [] [] rfl (s_P hl0) rfl rfl ?_
    refine w_C.more (Q := fun r1 m1 => _) h (fun r1 m1 h => ?_)
    replace h := id h
    refine w_ifeq rfl (w_ite h (fun h => ?_) (fun h => ?_))
    · refine w_iconst rfl (by decide) ?_
      refine w_istore_n (lv' := [some (2, l0), some (0, l1), some (0, l2), some (0, 0)]) rfl rfl rfl ?_
      refine w_aload_n rfl rfl ?_
      refine w_iload_n rfl rfl ?_
      refine w_ifeq rfl (w_ift (by decide) ?_)
      refine w_iconst rfl (by decide) ?_
      refine w_iload_n rfl rfl ?_
      refine w_callV (t' := 0) [(0, l1), (0, 4)] [] rfl (s_P hl0) rfl rfl ?_
      refine w_C.more (Q := fun r2 m2 => _) h (fun r2 m2 h => ?_)
      replace h := id h
      exact w_iret rfl rfl h
    · refine w_goto rfl ?_
      exact w_W.less h (w_sub [true, true, false, false] rfl)
  · refine w_aload_n rfl rfl ?_
    refine w_callV (t' := 0) [] [] rfl (s_P hl0) rfl rfl ?_
    refine w_C.more (Q := fun r3 m3 => _) h (fun r3 m3 h => ?_)
    replace h := id h
    refine w_ifeq rfl (w_ite h (fun h => ?_) (fun h => ?_))
    · refine w_iconst rfl (by decide) ?_
      refine w_istore_n (lv' := [some (2, l0), some (0, l1), some (0, l2), some (0, 0)]) rfl rfl rfl ?_
      refine w_aload_n rfl rfl ?_
      refine w_iload_n rfl rfl ?_
      refine w_ifeq rfl (w_ift (by decide) ?_)
      refine w_iconst rfl (by decide) ?_
      refine w_iload_n rfl rfl ?_
      refine w_callV (t' := 0) [(0, l1), (0, 4)] [] rfl (s_P hl0) rfl rfl ?_
      refine w_C.more (Q := fun r4 m4 => _) h (fun r4 m4 h => ?_)
      replace h := id h
      exact w_iret rfl rfl h
    · exact w_W.less h (w_sub [true, true, false, false] rfl)
theorem xr_ps_noKey_53 {d : Nat} {l0 l1 : Int} {m : w_M} {Q : Int → w_M → Prop} (hl0 : w_isP l0) (h : if 2000 < (m l0 17) then (xc_ps_failAt d l0 5 l1 m (fun r1 m1 => Q r1 m1)) else (xc_ps_failAt d l0 4 l1 m (fun r2 m2 => Q r2 m2))) : xp_ps_noKey_53 d l0 l1 m Q := by
  refine w_aload_n rfl rfl ?_
  refine x_gfI rfl (s_P hl0) rfl (kk := 17) rfl rfl ?_
  refine w_sipush rfl (by decide) ?_
  refine w_icle rfl (w_ite h (fun h => ?_) (fun h => ?_))
  · refine w_iconst rfl (by decide) ?_
    refine w_goto rfl ?_
    refine w_istore_n (lv' := [some (2, l0), some (0, l1), none, some (0, 1)]) rfl rfl rfl ?_
    refine w_aload_n rfl rfl ?_
    refine w_iload_n rfl rfl ?_
    refine w_ifeq rfl (w_iff (by decide) ?_)
    refine w_iconst rfl (by decide) ?_
    refine w_goto rfl ?_
    refine w_iload_n rfl rfl ?_
    refine w_callV (t' := 0) [(0, l1), (0, 5)] [] rfl (s_P hl0) rfl rfl ?_
    refine w_C.more (Q := fun r1 m1 => _) h (fun r1 m1 h => ?_)
    replace h := id h
    exact w_iret rfl rfl h
  · refine w_iconst rfl (by decide) ?_
    refine w_istore_n (lv' := [some (2, l0), some (0, l1), none, some (0, 0)]) rfl rfl rfl ?_
    refine w_aload_n rfl rfl ?_
    refine w_iload_n rfl rfl ?_
    refine w_ifeq rfl (w_ift (by decide) ?_)
    refine w_iconst rfl (by decide) ?_
    refine w_iload_n rfl rfl ?_
    refine w_callV (t' := 0) [(0, l1), (0, 4)] [] rfl (s_P hl0) rfl rfl ?_
    refine w_C.more (Q := fun r2 m2 => _) h (fun r2 m2 h => ?_)
    replace h := id h
    exact w_iret rfl rfl h
theorem xr_ps_noKey_84 {d : Nat} {l0 l1 : Int} {m : w_M} {Q : Int → w_M → Prop} (hl0 : w_isP l0) (h : xc_ps_lookAtRow d l0 m (fun r1 m1 => if (m1 l0 13) = (-1) then (xc_ps_failAt d l0 4 l1 m1 (fun r2 m2 => Q r2 m2)) else (if (m1 l0 15) = 0 then (xc_ps_failAt d l0 4 l1 m1 (fun r3 m3 => Q r3 m3)) else (xc_ps_failAt d l0 5 l1 m1 (fun r4 m4 => Q r4 m4))))) : xp_ps_noKey_84 d l0 l1 m Q := by
  refine w_aload_n rfl rfl ?_
  refine w_callV (t' := 3) [] [] rfl (s_P hl0) rfl rfl ?_
  refine w_C.more (Q := fun r1 m1 => _) h (fun r1 m1 h => ?_)
  replace h := id h
  refine w_aload_n rfl rfl ?_
  refine w_aload_n rfl rfl ?_
  refine x_gfI rfl (s_P hl0) rfl (kk := 13) rfl rfl ?_
  refine w_iconst rfl (by decide) ?_
  refine w_iceq rfl (w_ite h (fun h => ?_) (fun h => ?_))
  · refine w_iconst rfl (by decide) ?_
    refine w_iload_n rfl rfl ?_
    refine w_callV (t' := 0) [(0, l1), (0, 4)] [] rfl (s_P hl0) rfl rfl ?_
    refine w_C.more (Q := fun r2 m2 => _) h (fun r2 m2 h => ?_)
    replace h := id h
    exact w_iret rfl rfl h
  · refine w_aload_n rfl rfl ?_
    refine x_gfZ rfl (s_P hl0) rfl (kk := 15) rfl rfl ?_
    refine w_ifeq rfl (w_ite h (fun h => ?_) (fun h => ?_))
    · refine w_iconst rfl (by decide) ?_
      refine w_iload_n rfl rfl ?_
      refine w_callV (t' := 0) [(0, l1), (0, 4)] [] rfl (s_P hl0) rfl rfl ?_
      refine w_C.more (Q := fun r3 m3 => _) h (fun r3 m3 h => ?_)
      replace h := id h
      exact w_iret rfl rfl h
    · refine w_iconst rfl (by decide) ?_
      refine w_goto rfl ?_
      refine w_iload_n rfl rfl ?_
      refine w_callV (t' := 0) [(0, l1), (0, 5)] [] rfl (s_P hl0) rfl rfl ?_
      refine w_C.more (Q := fun r4 m4 => _) h (fun r4 m4 h => ?_)
      replace h := id h
      exact w_iret rfl rfl h
theorem xr_ps_object {d : Nat} {l0 l1 : Int} {m : w_M} {Q : Int → w_M → Prop} (hl0 : w_isP l0) (h : xc_ps_skipWhite d l0 m (fun r1 m1 => xc_ps_at d l0 (m1 l0 4) m1 (fun r2 m2 => if r2 = 40 then (xc_ps_string d l0 m2 (fun r3 m3 => Q r3 m3)) else (if r2 = 47 then (xc_ps_name d l0 m2 (fun r4 m4 => Q r4 m4)) else (if r2 = 60 then (xc_ps_at d l0 (w_32 ((m1 l0 4) + 1)) m2 (fun r5 m5 => if r5 = 60 then (xc_ps_compound d l0 l1 1 m5 (fun r6 m6 => Q r6 m6)) else (xc_ps_string d l0 m5 (fun r7 m7 => Q r7 m7)))) else (if r2 = 91 then (xc_ps_compound d l0 l1 0 m2 (fun r8 m8 => Q r8 m8)) else (xc_ps_at d l0 (m1 l0 4) m2 (fun r9 m9 => xc_ps_isRegular d r9 m9 (fun r10 m10 => if r10 = 0 then (xc_ps_failAt d l0 4 (m1 l0 4) m10 (fun r11 m11 => Q r11 m11)) else (xc_ps_plain d l0 (m1 l0 4) m10 (fun r12 m12 => Q r12 m12))))))))))) : xc_ps_object (d + 1) l0 l1 m Q := by
  refine w_enter (q := 1) (lv := [some (2, l0), some (0, l1), none]) rfl rfl rfl ?_
  refine w_aload_n rfl rfl ?_
  refine w_callV (t' := 3) [] [] rfl (s_P hl0) rfl rfl ?_
  refine w_C.more (Q := fun r1 m1 => _) h (fun r1 m1 h => ?_)
  replace h := id h
  refine w_aload_n rfl rfl ?_
  refine x_gfI rfl (s_P hl0) rfl (kk := 4) rfl rfl ?_
  refine w_istore_n (lv' := [some (2, l0), some (0, l1), some (0, m1 l0 4)]) rfl rfl rfl ?_
  refine w_aload_n rfl rfl ?_
  refine w_iload_n rfl rfl ?_
  refine w_callV (t' := 0) [(0, m1 l0 4)] [] rfl (s_P hl0) rfl rfl ?_
  refine w_C.more (Q := fun r2 m2 => _) h (fun r2 m2 h => ?_)
  replace h := id h
  refine w_lswitch (pd := 99) [(40, 61), (47, 56), (60, 66), (91, 92)] rfl rfl rfl ?_
  refine w_ite h (fun h => ?_) (fun h => ?_)
  · refine w_aload_n rfl rfl ?_
    refine w_callV (t' := 0) [] [] rfl (s_P hl0) rfl rfl ?_
    refine w_C.more (Q := fun r3 m3 => _) h (fun r3 m3 h => ?_)
    replace h := id h
    exact w_iret rfl rfl h
  ·
    refine w_ite h (fun h => ?_) (fun h => ?_)
    · refine w_aload_n rfl rfl ?_
      refine w_callV (t' := 0) [] [] rfl (s_P hl0) rfl rfl ?_
      refine w_C.more (Q := fun r4 m4 => _) h (fun r4 m4 h => ?_)
      replace h := id h
      exact w_iret rfl rfl h
    ·
      refine w_ite h (fun h => ?_) (fun h => ?_)
      · refine w_aload_n rfl rfl ?_
        refine w_iload_n rfl rfl ?_
        refine w_iconst rfl (by decide) ?_
        refine w_iadd rfl ?_
        refine w_callV (t' := 0) [(0, w_32 ((m1 l0 4) + 1))] [] rfl (s_P hl0) rfl rfl ?_
        refine w_C.more (Q := fun r5 m5 => _) h (fun r5 m5 h => ?_)
        replace h := id h
        refine w_bipush rfl (by decide) ?_
        refine w_icne rfl (w_ite h (fun h => ?_) (fun h => ?_))
        · refine w_aload_n rfl rfl ?_
          refine w_iload_n rfl rfl ?_
          refine w_iconst rfl (by decide) ?_
          refine w_callV (t' := 0) [(0, 1), (0, l1)] [] rfl (s_P hl0) rfl rfl ?_
          refine w_C.more (Q := fun r6 m6 => _) h (fun r6 m6 h => ?_)
          replace h := id h
          refine w_goto rfl ?_
          exact w_iret rfl rfl h
        · refine w_aload_n rfl rfl ?_
          refine w_callV (t' := 0) [] [] rfl (s_P hl0) rfl rfl ?_
          refine w_C.more (Q := fun r7 m7 => _) h (fun r7 m7 h => ?_)
          replace h := id h
          exact w_iret rfl rfl h
      ·
        refine w_ite h (fun h => ?_) (fun h => ?_)
        · refine w_aload_n rfl rfl ?_
          refine w_iload_n rfl rfl ?_
          refine w_iconst rfl (by decide) ?_
          refine w_callV (t' := 0) [(0, 0), (0, l1)] [] rfl (s_P hl0) rfl rfl ?_
          refine w_C.more (Q := fun r8 m8 => _) h (fun r8 m8 h => ?_)
          replace h := id h
          exact w_iret rfl rfl h
        · refine w_aload_n rfl rfl ?_
          refine w_iload_n rfl rfl ?_
          refine w_callV (t' := 0) [(0, m1 l0 4)] [] rfl (s_P hl0) rfl rfl ?_
          refine w_C.more (Q := fun r9 m9 => _) h (fun r9 m9 h => ?_)
          replace h := id h
          refine w_callS (t' := 0) [(0, r9)] [] rfl (by decide) rfl rfl ?_
          refine w_C.more (Q := fun r10 m10 => _) h (fun r10 m10 h => ?_)
          replace h := id h
          refine w_ifeq rfl (w_ite h (fun h => ?_) (fun h => ?_))
          · refine w_aload_n rfl rfl ?_
            refine w_iconst rfl (by decide) ?_
            refine w_iload_n rfl rfl ?_
            refine w_callV (t' := 0) [(0, m1 l0 4), (0, 4)] [] rfl (s_P hl0) rfl rfl ?_
            refine w_C.more (Q := fun r11 m11 => _) h (fun r11 m11 h => ?_)
            replace h := id h
            exact w_iret rfl rfl h
          · refine w_aload_n rfl rfl ?_
            refine w_iload_n rfl rfl ?_
            refine w_callV (t' := 0) [(0, m1 l0 4)] [] rfl (s_P hl0) rfl rfl ?_
            refine w_C.more (Q := fun r12 m12 => _) h (fun r12 m12 h => ?_)
            replace h := id h
            refine w_goto rfl ?_
            exact w_iret rfl rfl h
theorem xr_ps_open {d : Nat} {l0 l1 l2 l3 : Int} {m : w_M} {Q : Int → w_M → Prop} (hl0 : w_isP l0) (h : w_isR l1 ∧ (Q 0 (w_up (w_up (w_up (w_up (w_up m l0 2 l1) l0 5 (max 0 (min l3 (w_ln l1)))) l0 3 (max 0 (min l2 (max 0 (min l3 (w_ln l1)))))) l0 4 (max 0 (min l2 (max 0 (min l3 (w_ln l1)))))) l0 11 (-1)))) : xc_ps_open (d + 1) l0 l1 l2 l3 m Q := by
  refine w_enter (q := 0) (lv := [some (2, l0), some (2, l1), some (0, l2), some (0, l3)]) rfl rfl rfl ?_
  refine w_aload_n rfl rfl ?_
  refine w_aload_n rfl rfl ?_
  refine w_pfR rfl (s_P hl0) rfl (w_EP hl0) rfl (fun _ => rfl) (kk := 2) rfl ?_
  refine w_aload_n rfl rfl ?_
  refine w_iconst rfl (by decide) ?_
  refine w_iload_n rfl rfl ?_
  refine w_aload_n rfl rfl ?_
  refine x_len rfl h.1 ?_
  replace h := h.2
  refine w_min rfl rfl ?_
  refine w_max rfl rfl ?_
  refine w_pfI rfl (s_P hl0) rfl (w_EP hl0) rfl (kk := 5) rfl ?_
  refine w_aload_n rfl rfl ?_
  refine w_iconst rfl (by decide) ?_
  refine w_iload_n rfl rfl ?_
  refine w_aload_n rfl rfl ?_
  refine x_gfI rfl (s_P hl0) rfl (kk := 5) rfl (w_up_eq) ?_
  refine w_min rfl rfl ?_
  refine w_max rfl rfl ?_
  refine w_pfI rfl (s_P hl0) rfl (w_EP hl0) rfl (kk := 3) rfl ?_
  refine w_aload_n rfl rfl ?_
  refine w_aload_n rfl rfl ?_
  refine x_gfI rfl (s_P hl0) rfl (kk := 3) rfl (w_up_eq) ?_
  refine w_pfI rfl (s_P hl0) rfl (w_EP hl0) rfl (kk := 4) rfl ?_
  refine w_aload_n rfl rfl ?_
  refine w_iconst rfl (by decide) ?_
  refine w_pfI rfl (s_P hl0) rfl (w_EP hl0) rfl (kk := 11) rfl ?_
  exact w_vret rfl rfl h
theorem xr_ps_operator {d : Nat} {l0 : Int} {m : w_M} {Q : Int → w_M → Prop} (hl0 : w_isP l0) (h : xc_ps_at d l0 (m l0 4) m (fun r1 m1 => xc_ps_isRegular d r1 m1 (fun r2 m2 => if r2 = 0 then (Q (-1) m2) else (xc_ps_lookAtRow d l0 m2 (fun r3 m3 => if (m3 l0 13) = (-1) then (xc_ps_rowIs d l0 20 m3 (fun r4 m4 => if r4 = 0 then (xc_ps_rowIs d l0 16 m4 (fun r5 m5 => if r5 = 0 then (xc_ps_rowIs d l0 18 m5 (fun r6 m6 => if r6 = 0 then (if (w_32 ((m6 l0 12) - (m6 l0 4))) = 1 then (xc_ps_at d l0 (m6 l0 4) m6 (fun r7 m7 => Q r7 (w_up m7 l0 4 (m7 l0 12)))) else (if (w_32 ((m6 l0 12) - (m6 l0 4))) = 2 then (xc_ps_at d l0 (m6 l0 4) m6 (fun r8 m8 => xc_ps_at d l0 (w_32 ((m8 l0 4) + 1)) m8 (fun r9 m9 => Q (w_32 ((w_32 (r8 * 256)) + r9)) (w_up m9 l0 4 (m9 l0 12))))) else (Q 0 (w_up m6 l0 4 (m6 l0 12))))) else (Q (-1) m6))) else (Q (-1) m5))) else (Q (-1) m4))) else (Q (-1) m3)))))) : xc_ps_operator (d + 1) l0 m Q := by
  refine w_enter (q := 2) (lv := [some (2, l0), none, none]) rfl rfl rfl ?_
  refine w_aload_n rfl rfl ?_
  refine w_aload_n rfl rfl ?_
  refine x_gfI rfl (s_P hl0) rfl (kk := 4) rfl rfl ?_
  refine w_callV (t' := 0) [(0, m l0 4)] [] rfl (s_P hl0) rfl rfl ?_
  refine w_C.more (Q := fun r1 m1 => _) h (fun r1 m1 h => ?_)
  replace h := id h
  refine w_callS (t' := 0) [(0, r1)] [] rfl (by decide) rfl rfl ?_
  refine w_C.more (Q := fun r2 m2 => _) h (fun r2 m2 h => ?_)
  replace h := id h
  refine w_ifne rfl (w_ite h (fun h => ?_) (fun h => ?_))
  · refine w_iconst rfl (by decide) ?_
    exact w_iret rfl rfl h
  · refine w_aload_n rfl rfl ?_
    refine w_callV (t' := 3) [] [] rfl (s_P hl0) rfl rfl ?_
    refine w_C.more (Q := fun r3 m3 => _) h (fun r3 m3 h => ?_)
    replace h := id h
    refine w_aload_n rfl rfl ?_
    refine x_gfI rfl (s_P hl0) rfl (kk := 13) rfl rfl ?_
    refine w_iconst rfl (by decide) ?_
    refine w_icne rfl (w_ite h (fun h => ?_) (fun h => ?_))
    · refine w_aload_n rfl rfl ?_
      refine w_ldcR rfl ?_
      refine w_callV (t' := 0) [(2, 20)] [] rfl (s_P hl0) rfl rfl ?_
      refine w_C.more (Q := fun r4 m4 => _) h (fun r4 m4 h => ?_)
      replace h := id h
      refine w_ifne rfl (w_ite h (fun h => ?_) (fun h => ?_))
      · refine w_aload_n rfl rfl ?_
        refine w_ldcR rfl ?_
        refine w_callV (t' := 0) [(2, 16)] [] rfl (s_P hl0) rfl rfl ?_
        refine w_C.more (Q := fun r5 m5 => _) h (fun r5 m5 h => ?_)
        replace h := id h
        refine w_ifne rfl (w_ite h (fun h => ?_) (fun h => ?_))
        · refine w_aload_n rfl rfl ?_
          refine w_ldcR rfl ?_
          refine w_callV (t' := 0) [(2, 18)] [] rfl (s_P hl0) rfl rfl ?_
          refine w_C.more (Q := fun r6 m6 => _) h (fun r6 m6 h => ?_)
          replace h := id h
          refine w_ifeq rfl (w_ite h (fun h => ?_) (fun h => ?_))
          · refine w_aload_n rfl rfl ?_
            refine x_gfI rfl (s_P hl0) rfl (kk := 12) rfl rfl ?_
            refine w_aload_n rfl rfl ?_
            refine x_gfI rfl (s_P hl0) rfl (kk := 4) rfl rfl ?_
            refine w_isub rfl ?_
            refine w_istore_n (lv' := [some (2, l0), some (0, w_32 ((m6 l0 12) - (m6 l0 4))), none]) rfl rfl rfl ?_
            refine w_iload_n rfl rfl ?_
            refine w_iconst rfl (by decide) ?_
            refine w_icne rfl (w_ite h (fun h => ?_) (fun h => ?_))
            · refine w_aload_n rfl rfl ?_
              refine w_aload_n rfl rfl ?_
              refine x_gfI rfl (s_P hl0) rfl (kk := 4) rfl rfl ?_
              refine w_callV (t' := 0) [(0, m6 l0 4)] [] rfl (s_P hl0) rfl rfl ?_
              refine w_C.more (Q := fun r7 m7 => _) h (fun r7 m7 h => ?_)
              replace h := id h
              refine w_goto rfl ?_
              refine w_istore_n (lv' := [some (2, l0), some (0, w_32 ((m6 l0 12) - (m6 l0 4))), some (0, r7)]) rfl rfl rfl ?_
              refine w_aload_n rfl rfl ?_
              refine w_aload_n rfl rfl ?_
              refine x_gfI rfl (s_P hl0) rfl (kk := 12) rfl rfl ?_
              refine w_pfI rfl (s_P hl0) rfl (w_EP hl0) rfl (kk := 4) rfl ?_
              refine w_iload_n rfl rfl ?_
              exact w_iret rfl rfl h
            · refine w_iload_n rfl rfl ?_
              refine w_iconst rfl (by decide) ?_
              refine w_icne rfl (w_ite h (fun h => ?_) (fun h => ?_))
              · refine w_aload_n rfl rfl ?_
                refine w_aload_n rfl rfl ?_
                refine x_gfI rfl (s_P hl0) rfl (kk := 4) rfl rfl ?_
                refine w_callV (t' := 0) [(0, m6 l0 4)] [] rfl (s_P hl0) rfl rfl ?_
                refine w_C.more (Q := fun r8 m8 => _) h (fun r8 m8 h => ?_)
                replace h := id h
                refine w_sipush rfl (by decide) ?_
                refine w_imul rfl ?_
                refine w_aload_n rfl rfl ?_
                refine w_aload_n rfl rfl ?_
                refine x_gfI rfl (s_P hl0) rfl (kk := 4) rfl rfl ?_
                refine w_iconst rfl (by decide) ?_
                refine w_iadd rfl ?_
                refine w_callV (t' := 0) [(0, w_32 ((m8 l0 4) + 1))] [(0, w_32 (r8 * 256))] rfl (s_P hl0) rfl rfl ?_
                refine w_C.more (Q := fun r9 m9 => _) h (fun r9 m9 h => ?_)
                replace h := id h
                refine w_iadd rfl ?_
                refine w_goto rfl ?_
                refine w_istore_n (lv' := [some (2, l0), some (0, w_32 ((m6 l0 12) - (m6 l0 4))), some (0, w_32 ((w_32 (r8 * 256)) + r9))]) rfl rfl rfl ?_
                refine w_aload_n rfl rfl ?_
                refine w_aload_n rfl rfl ?_
                refine x_gfI rfl (s_P hl0) rfl (kk := 12) rfl rfl ?_
                refine w_pfI rfl (s_P hl0) rfl (w_EP hl0) rfl (kk := 4) rfl ?_
                refine w_iload_n rfl rfl ?_
                exact w_iret rfl rfl h
              · refine w_iconst rfl (by decide) ?_
                refine w_istore_n (lv' := [some (2, l0), some (0, w_32 ((m6 l0 12) - (m6 l0 4))), some (0, 0)]) rfl rfl rfl ?_
                refine w_aload_n rfl rfl ?_
                refine w_aload_n rfl rfl ?_
                refine x_gfI rfl (s_P hl0) rfl (kk := 12) rfl rfl ?_
                refine w_pfI rfl (s_P hl0) rfl (w_EP hl0) rfl (kk := 4) rfl ?_
                refine w_iload_n rfl rfl ?_
                exact w_iret rfl rfl h
          · refine w_iconst rfl (by decide) ?_
            exact w_iret rfl rfl h
        · refine w_iconst rfl (by decide) ?_
          exact w_iret rfl rfl h
      · refine w_iconst rfl (by decide) ?_
        exact w_iret rfl rfl h
    · refine w_iconst rfl (by decide) ?_
      exact w_iret rfl rfl h
theorem xr_ps_plain {d : Nat} {l0 l1 : Int} {m : w_M} {Q : Int → w_M → Prop} (hl0 : w_isP l0) (h : xc_ps_lookAtRow d l0 m (fun r1 m1 => if (m1 l0 13) = (-1) then (xc_ps_literal d l0 l1 m1 (fun r2 m2 => Q r2 m2)) else (if (m1 l0 15) = 0 then (if (m1 l0 13) = 2 then (if (m1 l0 16) = 0 then (if (m1 l0 10) = 0 then (xc_ps_make d l0 (m1 l0 13) (m1 l0 14) 0 l1 (w_up m1 l0 4 (m1 l0 12)) (fun r3 m3 => Q r3 m3)) else (xc_ps_unsigned d l0 (w_up m1 l0 4 (m1 l0 12)) (fun r4 m4 => if r4 < 0 then (xc_ps_make d l0 (m1 l0 13) (m1 l0 14) 0 l1 (w_up m4 l0 4 (m1 l0 12)) (fun r5 m5 => Q r5 m5)) else (xc_ps_word d l0 22 m4 (fun r6 m6 => if r6 = 0 then (xc_ps_make d l0 (m1 l0 13) (m1 l0 14) 0 l1 (w_up m6 l0 4 (m1 l0 12)) (fun r7 m7 => Q r7 m7)) else (if (m1 l0 14) < 1 then (xc_ps_failAt d l0 5 l1 m6 (fun r8 m8 => Q r8 m8)) else (if (m1 l0 14) < 200 then (if 65535 < r4 then (xc_ps_failAt d l0 5 l1 m6 (fun r9 m9 => Q r9 m9)) else (xc_ps_make d l0 8 (m1 l0 14) r4 l1 m6 (fun r10 m10 => Q r10 m10))) else (xc_ps_failAt d l0 5 l1 m6 (fun r11 m11 => Q r11 m11))))))))) else (xc_ps_make d l0 (m1 l0 13) (m1 l0 14) 0 l1 (w_up m1 l0 4 (m1 l0 12)) (fun r12 m12 => Q r12 m12))) else (xc_ps_make d l0 (m1 l0 13) (m1 l0 14) 0 l1 (w_up m1 l0 4 (m1 l0 12)) (fun r13 m13 => Q r13 m13))) else (xc_ps_failAt d l0 5 l1 m1 (fun r14 m14 => Q r14 m14))))) : xc_ps_plain (d + 1) l0 l1 m Q := by
  refine w_enter (q := 6) (lv := [some (2, l0), some (0, l1), none, none, none, none, none, none]) rfl rfl rfl ?_
  refine w_aload_n rfl rfl ?_
  refine w_callV (t' := 3) [] [] rfl (s_P hl0) rfl rfl ?_
  refine w_C.more (Q := fun r1 m1 => _) h (fun r1 m1 h => ?_)
  replace h := id h
  refine w_aload_n rfl rfl ?_
  refine x_gfI rfl (s_P hl0) rfl (kk := 13) rfl rfl ?_
  refine w_istore_n (lv' := [some (2, l0), some (0, l1), some (0, m1 l0 13), none, none, none, none, none]) rfl rfl rfl ?_
  refine w_aload_n rfl rfl ?_
  refine x_gfI rfl (s_P hl0) rfl (kk := 14) rfl rfl ?_
  refine w_istore_n (lv' := [some (2, l0), some (0, l1), some (0, m1 l0 13), some (0, m1 l0 14), none, none, none, none]) rfl rfl rfl ?_
  refine w_aload_n rfl rfl ?_
  refine x_gfZ rfl (s_P hl0) rfl (kk := 16) rfl rfl ?_
  refine w_istore (lv' := [some (2, l0), some (0, l1), some (0, m1 l0 13), some (0, m1 l0 14), some (0, m1 l0 16), none, none, none]) rfl rfl rfl ?_
  refine w_iload_n rfl rfl ?_
  refine w_iconst rfl (by decide) ?_
  refine w_icne rfl (w_ite h (fun h => ?_) (fun h => ?_))
  · refine w_aload_n rfl rfl ?_
    refine w_iload_n rfl rfl ?_
    refine w_callV (t' := 0) [(0, l1)] [] rfl (s_P hl0) rfl rfl ?_
    refine w_C.more (Q := fun r2 m2 => _) h (fun r2 m2 h => ?_)
    replace h := id h
    exact w_iret rfl rfl h
  · refine w_aload_n rfl rfl ?_
    refine x_gfZ rfl (s_P hl0) rfl (kk := 15) rfl rfl ?_
    refine w_ifeq rfl (w_ite h (fun h => ?_) (fun h => ?_))
    · refine w_aload_n rfl rfl ?_
      refine w_aload_n rfl rfl ?_
      refine x_gfI rfl (s_P hl0) rfl (kk := 12) rfl rfl ?_
      refine w_pfI rfl (s_P hl0) rfl (w_EP hl0) rfl (kk := 4) rfl ?_
      refine w_iload_n rfl rfl ?_
      refine w_iconst rfl (by decide) ?_
      refine w_icne rfl (w_ite h (fun h => ?_) (fun h => ?_))
      · refine w_iload rfl rfl ?_
        refine w_ifne rfl (w_ite h (fun h => ?_) (fun h => ?_))
        · refine w_aload_n rfl rfl ?_
          refine x_gfZ rfl (s_P hl0) rfl (kk := 10) rfl (w_up_nb (by decide)) ?_
          refine w_ifeq rfl (w_ite h (fun h => ?_) (fun h => ?_))
          · refine w_aload_n rfl rfl ?_
            refine w_iload_n rfl rfl ?_
            refine w_iload_n rfl rfl ?_
            refine w_iconst rfl (by decide) ?_
            refine w_iload_n rfl rfl ?_
            refine w_callV (t' := 0) [(0, l1), (0, 0), (0, m1 l0 14), (0, m1 l0 13)] [] rfl (s_P hl0) rfl rfl ?_
            refine w_C.more (Q := fun r3 m3 => _) h (fun r3 m3 h => ?_)
            replace h := id h
            exact w_iret rfl rfl h
          · refine w_aload_n rfl rfl ?_
            refine x_gfI rfl (s_P hl0) rfl (kk := 4) rfl (w_up_eq) ?_
            refine w_istore (lv' := [some (2, l0), some (0, l1), some (0, m1 l0 13), some (0, m1 l0 14), some (0, m1 l0 16), some (0, m1 l0 12), none, none]) rfl rfl rfl ?_
            refine w_aload_n rfl rfl ?_
            refine w_callV (t' := 0) [] [] rfl (s_P hl0) rfl rfl ?_
            refine w_C.more (Q := fun r4 m4 => _) h (fun r4 m4 h => ?_)
            replace h := id h
            refine w_istore (lv' := [some (2, l0), some (0, l1), some (0, m1 l0 13), some (0, m1 l0 14), some (0, m1 l0 16), some (0, m1 l0 12), some (0, r4), none]) rfl rfl rfl ?_
            refine w_iload rfl rfl ?_
            refine w_iflt rfl (w_ite h (fun h => ?_) (fun h => ?_))
            · refine w_aload_n rfl rfl ?_
              refine w_iload rfl rfl ?_
              refine w_pfI rfl (s_P hl0) rfl (w_EP hl0) rfl (kk := 4) rfl ?_
              refine w_aload_n rfl rfl ?_
              refine w_iload_n rfl rfl ?_
              refine w_iload_n rfl rfl ?_
              refine w_iconst rfl (by decide) ?_
              refine w_iload_n rfl rfl ?_
              refine w_callV (t' := 0) [(0, l1), (0, 0), (0, m1 l0 14), (0, m1 l0 13)] [] rfl (s_P hl0) rfl rfl ?_
              refine w_C.more (Q := fun r5 m5 => _) h (fun r5 m5 h => ?_)
              replace h := id h
              exact w_iret rfl rfl h
            · refine w_aload_n rfl rfl ?_
              refine w_ldcR rfl ?_
              refine w_callV (t' := 0) [(2, 22)] [] rfl (s_P hl0) rfl rfl ?_
              refine w_C.more (Q := fun r6 m6 => _) h (fun r6 m6 h => ?_)
              replace h := id h
              refine w_ifeq rfl (w_ite h (fun h => ?_) (fun h => ?_))
              · refine w_aload_n rfl rfl ?_
                refine w_iload rfl rfl ?_
                refine w_pfI rfl (s_P hl0) rfl (w_EP hl0) rfl (kk := 4) rfl ?_
                refine w_aload_n rfl rfl ?_
                refine w_iload_n rfl rfl ?_
                refine w_iload_n rfl rfl ?_
                refine w_iconst rfl (by decide) ?_
                refine w_iload_n rfl rfl ?_
                refine w_callV (t' := 0) [(0, l1), (0, 0), (0, m1 l0 14), (0, m1 l0 13)] [] rfl (s_P hl0) rfl rfl ?_
                refine w_C.more (Q := fun r7 m7 => _) h (fun r7 m7 h => ?_)
                replace h := id h
                exact w_iret rfl rfl h
              · refine w_iload_n rfl rfl ?_
                refine w_iconst rfl (by decide) ?_
                refine w_iclt rfl (w_ite h (fun h => ?_) (fun h => ?_))
                · refine w_iconst rfl (by decide) ?_
                  refine w_istore (lv' := [some (2, l0), some (0, l1), some (0, m1 l0 13), some (0, m1 l0 14), some (0, m1 l0 16), some (0, m1 l0 12), some (0, r4), some (0, 0)]) rfl rfl rfl ?_
                  refine w_iload rfl rfl ?_
                  refine w_ifeq rfl (w_ift (by decide) ?_)
                  refine w_aload_n rfl rfl ?_
                  refine w_iconst rfl (by decide) ?_
                  refine w_iload_n rfl rfl ?_
                  refine w_callV (t' := 0) [(0, l1), (0, 5)] [] rfl (s_P hl0) rfl rfl ?_
                  refine w_C.more (Q := fun r8 m8 => _) h (fun r8 m8 h => ?_)
                  replace h := id h
                  exact w_iret rfl rfl h
                · refine w_iload_n rfl rfl ?_
                  refine w_sipush rfl (by decide) ?_
                  refine w_icge rfl (w_ite h (fun h => ?_) (fun h => ?_))
                  · refine w_iload rfl rfl ?_
                    refine w_ldc (a := 65535) rfl (by decide +kernel) (by decide) ?_
                    refine w_icgt rfl (w_ite h (fun h => ?_) (fun h => ?_))
                    · refine w_iconst rfl (by decide) ?_
                      refine w_istore (lv' := [some (2, l0), some (0, l1), some (0, m1 l0 13), some (0, m1 l0 14), some (0, m1 l0 16), some (0, m1 l0 12), some (0, r4), some (0, 0)]) rfl rfl rfl ?_
                      refine w_iload rfl rfl ?_
                      refine w_ifeq rfl (w_ift (by decide) ?_)
                      refine w_aload_n rfl rfl ?_
                      refine w_iconst rfl (by decide) ?_
                      refine w_iload_n rfl rfl ?_
                      refine w_callV (t' := 0) [(0, l1), (0, 5)] [] rfl (s_P hl0) rfl rfl ?_
                      refine w_C.more (Q := fun r9 m9 => _) h (fun r9 m9 h => ?_)
                      replace h := id h
                      exact w_iret rfl rfl h
                    · refine w_iconst rfl (by decide) ?_
                      refine w_goto rfl ?_
                      refine w_istore (lv' := [some (2, l0), some (0, l1), some (0, m1 l0 13), some (0, m1 l0 14), some (0, m1 l0 16), some (0, m1 l0 12), some (0, r4), some (0, 1)]) rfl rfl rfl ?_
                      refine w_iload rfl rfl ?_
                      refine w_ifeq rfl (w_iff (by decide) ?_)
                      refine w_aload_n rfl rfl ?_
                      refine w_bipush rfl (by decide) ?_
                      refine w_iload_n rfl rfl ?_
                      refine w_iload rfl rfl ?_
                      refine w_iload_n rfl rfl ?_
                      refine w_callV (t' := 0) [(0, l1), (0, r4), (0, m1 l0 14), (0, 8)] [] rfl (s_P hl0) rfl rfl ?_
                      refine w_C.more (Q := fun r10 m10 => _) h (fun r10 m10 h => ?_)
                      replace h := id h
                      refine w_goto rfl ?_
                      exact w_iret rfl rfl h
                  · refine w_iconst rfl (by decide) ?_
                    refine w_istore (lv' := [some (2, l0), some (0, l1), some (0, m1 l0 13), some (0, m1 l0 14), some (0, m1 l0 16), some (0, m1 l0 12), some (0, r4), some (0, 0)]) rfl rfl rfl ?_
                    refine w_iload rfl rfl ?_
                    refine w_ifeq rfl (w_ift (by decide) ?_)
                    refine w_aload_n rfl rfl ?_
                    refine w_iconst rfl (by decide) ?_
                    refine w_iload_n rfl rfl ?_
                    refine w_callV (t' := 0) [(0, l1), (0, 5)] [] rfl (s_P hl0) rfl rfl ?_
                    refine w_C.more (Q := fun r11 m11 => _) h (fun r11 m11 h => ?_)
                    replace h := id h
                    exact w_iret rfl rfl h
        · refine w_aload_n rfl rfl ?_
          refine w_iload_n rfl rfl ?_
          refine w_iload_n rfl rfl ?_
          refine w_iconst rfl (by decide) ?_
          refine w_iload_n rfl rfl ?_
          refine w_callV (t' := 0) [(0, l1), (0, 0), (0, m1 l0 14), (0, m1 l0 13)] [] rfl (s_P hl0) rfl rfl ?_
          refine w_C.more (Q := fun r12 m12 => _) h (fun r12 m12 h => ?_)
          replace h := id h
          exact w_iret rfl rfl h
      · refine w_aload_n rfl rfl ?_
        refine w_iload_n rfl rfl ?_
        refine w_iload_n rfl rfl ?_
        refine w_iconst rfl (by decide) ?_
        refine w_iload_n rfl rfl ?_
        refine w_callV (t' := 0) [(0, l1), (0, 0), (0, m1 l0 14), (0, m1 l0 13)] [] rfl (s_P hl0) rfl rfl ?_
        refine w_C.more (Q := fun r13 m13 => _) h (fun r13 m13 h => ?_)
        replace h := id h
        exact w_iret rfl rfl h
    · refine w_aload_n rfl rfl ?_
      refine w_iconst rfl (by decide) ?_
      refine w_iload_n rfl rfl ?_
      refine w_callV (t' := 0) [(0, l1), (0, 5)] [] rfl (s_P hl0) rfl rfl ?_
      refine w_C.more (Q := fun r14 m14 => _) h (fun r14 m14 h => ?_)
      replace h := id h
      exact w_iret rfl rfl h
theorem xr_ps_put {d : Nat} {l0 l1 : Int} {m : w_M} {Q : Int → w_M → Prop} (hl0 : w_isP l0) (h : if (m l0 17) < 2000 then (if (w_32 ((m 359 7) + (m l0 17))) < 0 then (Q 0 (w_up m l0 17 (w_32 ((m l0 17) + 1)))) else (if (w_32 ((m 359 7) + (m l0 17))) < 108612 then (((0 : Int) ≤ (w_32 ((m 359 7) + (m l0 17))) ∧ (w_32 ((m 359 7) + (m l0 17))) < 108612) ∧ (Q 0 (w_up (w_up m 365 (w_32 ((m 359 7) + (m l0 17))) (w_8 (w_8 l1))) l0 17 (w_32 ((m l0 17) + 1))))) else (Q 0 (w_up m l0 17 (w_32 ((m l0 17) + 1)))))) else (Q 0 (w_up m l0 17 (w_32 ((m l0 17) + 1))))) : xc_ps_put (d + 1) l0 l1 m Q := by
  refine w_enter (q := 1) (lv := [some (2, l0), some (0, l1), none]) rfl rfl rfl ?_
  refine w_aload_n rfl rfl ?_
  refine w_gfC (c := 359) rfl (s_P hl0) rfl rfl ?_
  refine x_gfI rfl s_359 rfl (kk := 7) rfl rfl ?_
  refine w_aload_n rfl rfl ?_
  refine x_gfI rfl (s_P hl0) rfl (kk := 17) rfl rfl ?_
  refine w_iadd rfl ?_
  refine w_istore_n (lv' := [some (2, l0), some (0, l1), some (0, w_32 ((m 359 7) + (m l0 17)))]) rfl rfl rfl ?_
  refine w_aload_n rfl rfl ?_
  refine x_gfI rfl (s_P hl0) rfl (kk := 17) rfl rfl ?_
  refine w_sipush rfl (by decide) ?_
  refine w_icge rfl (w_ite h (fun h => ?_) (fun h => ?_))
  · refine w_iload_n rfl rfl ?_
    refine w_iflt rfl (w_ite h (fun h => ?_) (fun h => ?_))
    · refine w_aload_n rfl rfl ?_
      refine w_dup rfl (show (2 : Nat) ≠ 1 by decide) ?_
      refine x_gfI rfl (s_P hl0) rfl (kk := 17) rfl rfl ?_
      refine w_iconst rfl (by decide) ?_
      refine w_iadd rfl ?_
      refine w_pfI rfl (s_P hl0) rfl (w_EP hl0) rfl (kk := 17) rfl ?_
      exact w_vret rfl rfl h
    · refine w_iload_n rfl rfl ?_
      refine w_aload_n rfl rfl ?_
      refine w_gfC (c := 365) rfl (s_P hl0) rfl rfl ?_
      refine w_len rfl s_365 (by decide) (n := 108612) rfl (by decide) ?_
      refine w_icge rfl (w_ite h (fun h => ?_) (fun h => ?_))
      · refine w_aload_n rfl rfl ?_
        refine w_gfC (c := 365) rfl (s_P hl0) rfl rfl ?_
        refine w_iload_n rfl rfl ?_
        refine w_iload_n rfl rfl ?_
        refine w_i2b rfl ?_
        refine w_bast rfl s_365 (w_EC (by decide)) (n := 108612) rfl h.1 ?_
        replace h := h.2
        refine w_aload_n rfl rfl ?_
        refine w_dup rfl (show (2 : Nat) ≠ 1 by decide) ?_
        refine x_gfI rfl (s_P hl0) rfl (kk := 17) rfl (w_up_ne (w_isP_ne hl0 (by decide))) ?_
        refine w_iconst rfl (by decide) ?_
        refine w_iadd rfl ?_
        refine w_pfI rfl (s_P hl0) rfl (w_EP hl0) rfl (kk := 17) rfl ?_
        exact w_vret rfl rfl h
      · refine w_aload_n rfl rfl ?_
        refine w_dup rfl (show (2 : Nat) ≠ 1 by decide) ?_
        refine x_gfI rfl (s_P hl0) rfl (kk := 17) rfl rfl ?_
        refine w_iconst rfl (by decide) ?_
        refine w_iadd rfl ?_
        refine w_pfI rfl (s_P hl0) rfl (w_EP hl0) rfl (kk := 17) rfl ?_
        exact w_vret rfl rfl h
  · refine w_aload_n rfl rfl ?_
    refine w_dup rfl (show (2 : Nat) ≠ 1 by decide) ?_
    refine x_gfI rfl (s_P hl0) rfl (kk := 17) rfl rfl ?_
    refine w_iconst rfl (by decide) ?_
    refine w_iadd rfl ?_
    refine w_pfI rfl (s_P hl0) rfl (w_EP hl0) rfl (kk := 17) rfl ?_
    exact w_vret rfl rfl h
theorem xr_ps_restart {d : Nat} {l0 l1 : Int} {m : w_M} {Q : Int → w_M → Prop} (hl0 : w_isP l0) (h : (l1 = 0 ∨ l1 = 1) ∧ (xc_ps_countAnew d l0 (w_up (w_up (w_up m l0 6 0) l0 7 (-1)) l0 10 l1) (fun r1 m1 => Q 0 m1))) : xc_ps_restart (d + 1) l0 l1 m Q := by
  refine w_enter (q := 0) (lv := [some (2, l0), some (0, l1)]) rfl rfl rfl ?_
  refine w_aload_n rfl rfl ?_
  refine w_iconst rfl (by decide) ?_
  refine w_pfI rfl (s_P hl0) rfl (w_EP hl0) rfl (kk := 6) rfl ?_
  refine w_aload_n rfl rfl ?_
  refine w_iconst rfl (by decide) ?_
  refine w_pfI rfl (s_P hl0) rfl (w_EP hl0) rfl (kk := 7) rfl ?_
  refine w_aload_n rfl rfl ?_
  refine w_iload_n rfl rfl ?_
  refine w_pfZ rfl (s_P hl0) rfl (w_EP hl0) rfl (kk := 10) rfl h.1 ?_
  replace h := h.2
  refine w_aload_n rfl rfl ?_
  refine w_callV (t' := 3) [] [] rfl (s_P hl0) rfl rfl ?_
  refine w_C.more (Q := fun r1 m1 => _) h (fun r1 m1 h => ?_)
  replace h := id h
  exact w_vret rfl rfl h
theorem xr_ps_rowIs {d : Nat} {l0 l1 : Int} {m : w_M} {Q : Int → w_M → Prop} (hl0 : w_isP l0) (h : w_isS l1 ∧ (xc_js_length sC d l1 m (fun r1 m1 => if (w_32 ((m l0 12) - (m l0 4))) = r1 then (xp_ps_rowIs_20 d l0 l1 0 m1 Q) else (Q 0 m1)))) : xc_ps_rowIs (d + 1) l0 l1 m Q := by
  refine w_enter (q := 1) (lv := [some (2, l0), some (2, l1), none]) rfl rfl rfl ?_
  refine w_aload_n rfl rfl ?_
  refine x_gfI rfl (s_P hl0) rfl (kk := 12) rfl rfl ?_
  refine w_aload_n rfl rfl ?_
  refine x_gfI rfl (s_P hl0) rfl (kk := 4) rfl rfl ?_
  refine w_isub rfl ?_
  refine w_aload_n rfl rfl ?_
  refine w_callV (t' := 0) [] [(0, w_32 ((m l0 12) - (m l0 4)))] rfl (w_isS_s h.1) rfl rfl ?_
  replace h := h.2
  refine w_C.more (Q := fun r1 m1 => _) h (fun r1 m1 h => ?_)
  replace h := id h
  refine w_iceq rfl (w_ite h (fun h => ?_) (fun h => ?_))
  · refine w_iconst rfl (by decide) ?_
    refine w_istore_n (lv' := [some (2, l0), some (2, l1), some (0, 0)]) rfl rfl rfl ?_
    exact w_W.less h (w_sub [true, true, true] rfl)
  · refine w_iconst rfl (by decide) ?_
    exact w_zret rfl rfl (by decide) h
theorem xr_ps_rowIs_20 {d : Nat} {l0 l1 l2 : Int} {m : w_M} {Q : Int → w_M → Prop} (hl0 : w_isP l0) (h : w_isS l1 ∧ (xc_js_length sC d l1 m (fun r1 m1 => if l2 < r1 then (xc_ps_at d l0 (w_32 ((m1 l0 4) + l2)) m1 (fun r2 m2 => w_isS l1 ∧ (xc_js_charAt sC d l1 l2 m2 (fun r3 m3 => if r2 = r3 then (xp_ps_rowIs_20 d l0 l1 (w_32 (l2 + 1)) m3 Q) else (Q 0 m3))))) else (Q 1 m1)))) : xp_ps_rowIs_20 d l0 l1 l2 m Q := by
  refine w_iload_n rfl rfl ?_
  refine w_aload_n rfl rfl ?_
  refine w_callV (t' := 0) [] [(0, l2)] rfl (w_isS_s h.1) rfl rfl ?_
  replace h := h.2
  refine w_C.more (Q := fun r1 m1 => _) h (fun r1 m1 h => ?_)
  replace h := id h
  refine w_icge rfl (w_ite h (fun h => ?_) (fun h => ?_))
  · refine w_aload_n rfl rfl ?_
    refine w_aload_n rfl rfl ?_
    refine x_gfI rfl (s_P hl0) rfl (kk := 4) rfl rfl ?_
    refine w_iload_n rfl rfl ?_
    refine w_iadd rfl ?_
    refine w_callV (t' := 0) [(0, w_32 ((m1 l0 4) + l2))] [] rfl (s_P hl0) rfl rfl ?_
    refine w_C.more (Q := fun r2 m2 => _) h (fun r2 m2 h => ?_)
    replace h := id h
    refine w_aload_n rfl rfl ?_
    refine w_iload_n rfl rfl ?_
    refine w_callV (t' := 0) [(0, l2)] [(0, r2)] rfl (w_isS_s h.1) rfl rfl ?_
    replace h := h.2
    refine w_C.more (Q := fun r3 m3 => _) h (fun r3 m3 h => ?_)
    replace h := id h
    refine w_iceq rfl (w_ite h (fun h => ?_) (fun h => ?_))
    · refine w_iinc (lv' := [some (2, l0), some (2, l1), some (0, w_32 (l2 + 1))]) rfl rfl rfl rfl ?_
      refine w_goto rfl ?_
      exact w_W.less h (w_sub [true, true, true] rfl)
    · refine w_iconst rfl (by decide) ?_
      exact w_zret rfl rfl (by decide) h
  · refine w_iconst rfl (by decide) ?_
    exact w_zret rfl rfl (by decide) h
theorem xr_ps_rowOfDigits {d : Nat} {l0 : Int} {m : w_M} {Q : Int → w_M → Prop} (hl0 : w_isP l0) (h : xc_ps_digits d l0 m (fun r1 m1 => xc_ps_at d l0 (m1 l0 4) m1 (fun r2 m2 => xc_ps_isRegular d r2 m2 (fun r3 m3 => if r3 = 0 then (Q r1 m3) else (Q (-1) (w_up m3 l0 4 (m l0 4))))))) : xc_ps_rowOfDigits (d + 1) l0 m Q := by
  refine w_enter (q := 3) (lv := [some (2, l0), none, none, none]) rfl rfl rfl ?_
  refine w_aload_n rfl rfl ?_
  refine x_gfI rfl (s_P hl0) rfl (kk := 4) rfl rfl ?_
  refine w_istore_n (lv' := [some (2, l0), some (0, m l0 4), none, none]) rfl rfl rfl ?_
  refine w_aload_n rfl rfl ?_
  refine w_callV (t' := 1) [] [] rfl (s_P hl0) rfl rfl ?_
  refine w_C.more (Q := fun r1 m1 => _) h (fun r1 m1 h => ?_)
  replace h := id h
  refine w_lstore_n (lv' := [some (2, l0), some (0, m l0 4), some (1, r1), none]) rfl rfl rfl ?_
  refine w_aload_n rfl rfl ?_
  refine w_aload_n rfl rfl ?_
  refine x_gfI rfl (s_P hl0) rfl (kk := 4) rfl rfl ?_
  refine w_callV (t' := 0) [(0, m1 l0 4)] [] rfl (s_P hl0) rfl rfl ?_
  refine w_C.more (Q := fun r2 m2 => _) h (fun r2 m2 h => ?_)
  replace h := id h
  refine w_callS (t' := 0) [(0, r2)] [] rfl (by decide) rfl rfl ?_
  refine w_C.more (Q := fun r3 m3 => _) h (fun r3 m3 h => ?_)
  replace h := id h
  refine w_ifeq rfl (w_ite h (fun h => ?_) (fun h => ?_))
  · refine w_lload_n rfl rfl ?_
    exact w_lret rfl rfl h
  · refine w_aload_n rfl rfl ?_
    refine w_iload_n rfl rfl ?_
    refine w_pfI rfl (s_P hl0) rfl (w_EP hl0) rfl (kk := 4) rfl ?_
    refine w_ldc2 (a := (-1)) rfl (by decide +kernel) (by decide) ?_
    exact w_lret rfl rfl h
theorem xr_ps_scanEscape {d : Nat} {l0 : Int} {m : w_M} {Q : Int → w_M → Prop} (hl0 : w_isP l0) (h : xc_ps_at d l0 (m l0 4) m (fun r1 m1 => xc_ps_escaped d r1 m1 (fun r2 m2 => if r2 < 0 then (if r1 < 48 then (xp_ps_scanEscape_130 d l0 r1 m2 Q) else (if 55 < r1 then (xp_ps_scanEscape_130 d l0 r1 m2 Q) else (xp_ps_scanEscape_53 d l0 0 0 m2 Q))) else (xc_ps_put d l0 r2 (w_up m2 l0 4 (w_32 ((m2 l0 4) + 1))) (fun r3 m3 => Q 0 m3))))) : xc_ps_scanEscape (d + 1) l0 m Q := by
  refine w_enter (q := 4) (lv := [some (2, l0), none, none, none, none]) rfl rfl rfl ?_
  refine w_aload_n rfl rfl ?_
  refine w_aload_n rfl rfl ?_
  refine x_gfI rfl (s_P hl0) rfl (kk := 4) rfl rfl ?_
  refine w_callV (t' := 0) [(0, m l0 4)] [] rfl (s_P hl0) rfl rfl ?_
  refine w_C.more (Q := fun r1 m1 => _) h (fun r1 m1 h => ?_)
  replace h := id h
  refine w_istore_n (lv' := [some (2, l0), some (0, r1), none, none, none]) rfl rfl rfl ?_
  refine w_iload_n rfl rfl ?_
  refine w_callS (t' := 0) [(0, r1)] [] rfl (by decide) rfl rfl ?_
  refine w_C.more (Q := fun r2 m2 => _) h (fun r2 m2 h => ?_)
  replace h := id h
  refine w_istore_n (lv' := [some (2, l0), some (0, r1), some (0, r2), none, none]) rfl rfl rfl ?_
  refine w_iload_n rfl rfl ?_
  refine w_iflt rfl (w_ite h (fun h => ?_) (fun h => ?_))
  · refine w_iload_n rfl rfl ?_
    refine w_bipush rfl (by decide) ?_
    refine w_iclt rfl (w_ite h (fun h => ?_) (fun h => ?_))
    · exact w_W.less h (w_sub [true, true, false, false, false] rfl)
    · refine w_iload_n rfl rfl ?_
      refine w_bipush rfl (by decide) ?_
      refine w_icgt rfl (w_ite h (fun h => ?_) (fun h => ?_))
      · exact w_W.less h (w_sub [true, true, false, false, false] rfl)
      · refine w_iconst rfl (by decide) ?_
        refine w_istore_n (lv' := [some (2, l0), some (0, r1), some (0, r2), some (0, 0), none]) rfl rfl rfl ?_
        refine w_iconst rfl (by decide) ?_
        refine w_istore (lv' := [some (2, l0), some (0, r1), some (0, r2), some (0, 0), some (0, 0)]) rfl rfl rfl ?_
        exact w_W.less h (w_sub [true, false, false, true, true] rfl)
  · refine w_aload_n rfl rfl ?_
    refine w_dup rfl (show (2 : Nat) ≠ 1 by decide) ?_
    refine x_gfI rfl (s_P hl0) rfl (kk := 4) rfl rfl ?_
    refine w_iconst rfl (by decide) ?_
    refine w_iadd rfl ?_
    refine w_pfI rfl (s_P hl0) rfl (w_EP hl0) rfl (kk := 4) rfl ?_
    refine w_aload_n rfl rfl ?_
    refine w_iload_n rfl rfl ?_
    refine w_callV (t' := 3) [(0, r2)] [] rfl (s_P hl0) rfl rfl ?_
    refine w_C.more (Q := fun r3 m3 => _) h (fun r3 m3 h => ?_)
    replace h := id h
    refine w_goto rfl ?_
    exact w_vret rfl rfl h
theorem xr_ps_scanEscape_53 {d : Nat} {l0 l3 l4 : Int} {m : w_M} {Q : Int → w_M → Prop} (hl0 : w_isP l0) (h : if l4 < 3 then (xc_ps_at d l0 (m l0 4) m (fun r1 m1 => if r1 < 48 then (xc_ps_put d l0 (l3 % 256) m1 (fun r2 m2 => Q 0 m2)) else (xc_ps_at d l0 (m1 l0 4) m1 (fun r3 m3 => if 55 < r3 then (xc_ps_put d l0 (l3 % 256) m3 (fun r4 m4 => Q 0 m4)) else (xc_ps_at d l0 (m3 l0 4) m3 (fun r5 m5 => xp_ps_scanEscape_53 d l0 (w_32 ((w_32 (l3 * 8)) + (w_32 (r5 - 48)))) (w_32 (l4 + 1)) (w_up m5 l0 4 (w_32 ((m5 l0 4) + 1))) Q)))))) else (xc_ps_put d l0 (l3 % 256) m (fun r6 m6 => Q 0 m6))) : xp_ps_scanEscape_53 d l0 l3 l4 m Q := by
  refine w_iload rfl rfl ?_
  refine w_iconst rfl (by decide) ?_
  refine w_icge rfl (w_ite h (fun h => ?_) (fun h => ?_))
  · refine w_aload_n rfl rfl ?_
    refine w_aload_n rfl rfl ?_
    refine x_gfI rfl (s_P hl0) rfl (kk := 4) rfl rfl ?_
    refine w_callV (t' := 0) [(0, m l0 4)] [] rfl (s_P hl0) rfl rfl ?_
    refine w_C.more (Q := fun r1 m1 => _) h (fun r1 m1 h => ?_)
    replace h := id h
    refine w_bipush rfl (by decide) ?_
    refine w_iclt rfl (w_ite h (fun h => ?_) (fun h => ?_))
    · refine w_aload_n rfl rfl ?_
      refine w_iload_n rfl rfl ?_
      refine w_sipush rfl (by decide) ?_
      refine w_iandm 8 (c := 256) rfl (by decide) rfl rfl ?_
      refine w_callV (t' := 3) [(0, l3 % 256)] [] rfl (s_P hl0) rfl rfl ?_
      refine w_C.more (Q := fun r2 m2 => _) h (fun r2 m2 h => ?_)
      replace h := id h
      refine w_goto rfl ?_
      exact w_vret rfl rfl h
    · refine w_aload_n rfl rfl ?_
      refine w_aload_n rfl rfl ?_
      refine x_gfI rfl (s_P hl0) rfl (kk := 4) rfl rfl ?_
      refine w_callV (t' := 0) [(0, m1 l0 4)] [] rfl (s_P hl0) rfl rfl ?_
      refine w_C.more (Q := fun r3 m3 => _) h (fun r3 m3 h => ?_)
      replace h := id h
      refine w_bipush rfl (by decide) ?_
      refine w_icgt rfl (w_ite h (fun h => ?_) (fun h => ?_))
      · refine w_aload_n rfl rfl ?_
        refine w_iload_n rfl rfl ?_
        refine w_sipush rfl (by decide) ?_
        refine w_iandm 8 (c := 256) rfl (by decide) rfl rfl ?_
        refine w_callV (t' := 3) [(0, l3 % 256)] [] rfl (s_P hl0) rfl rfl ?_
        refine w_C.more (Q := fun r4 m4 => _) h (fun r4 m4 h => ?_)
        replace h := id h
        refine w_goto rfl ?_
        exact w_vret rfl rfl h
      · refine w_iload_n rfl rfl ?_
        refine w_bipush rfl (by decide) ?_
        refine w_imul rfl ?_
        refine w_aload_n rfl rfl ?_
        refine w_aload_n rfl rfl ?_
        refine x_gfI rfl (s_P hl0) rfl (kk := 4) rfl rfl ?_
        refine w_callV (t' := 0) [(0, m3 l0 4)] [(0, w_32 (l3 * 8))] rfl (s_P hl0) rfl rfl ?_
        refine w_C.more (Q := fun r5 m5 => _) h (fun r5 m5 h => ?_)
        replace h := id h
        refine w_bipush rfl (by decide) ?_
        refine w_isub rfl ?_
        refine w_iadd rfl ?_
        refine w_istore_n (lv' := [some (2, l0), none, none, some (0, w_32 ((w_32 (l3 * 8)) + (w_32 (r5 - 48)))), some (0, l4)]) rfl rfl rfl ?_
        refine w_aload_n rfl rfl ?_
        refine w_dup rfl (show (2 : Nat) ≠ 1 by decide) ?_
        refine x_gfI rfl (s_P hl0) rfl (kk := 4) rfl rfl ?_
        refine w_iconst rfl (by decide) ?_
        refine w_iadd rfl ?_
        refine w_pfI rfl (s_P hl0) rfl (w_EP hl0) rfl (kk := 4) rfl ?_
        refine w_iinc (lv' := [some (2, l0), none, none, some (0, w_32 ((w_32 (l3 * 8)) + (w_32 (r5 - 48)))), some (0, w_32 (l4 + 1))]) rfl rfl rfl rfl ?_
        refine w_goto rfl ?_
        exact w_W.less h (w_sub [true, false, false, true, true] rfl)
  · refine w_aload_n rfl rfl ?_
    refine w_iload_n rfl rfl ?_
    refine w_sipush rfl (by decide) ?_
    refine w_iandm 8 (c := 256) rfl (by decide) rfl rfl ?_
    refine w_callV (t' := 3) [(0, l3 % 256)] [] rfl (s_P hl0) rfl rfl ?_
    refine w_C.more (Q := fun r6 m6 => _) h (fun r6 m6 h => ?_)
    replace h := id h
    refine w_goto rfl ?_
    exact w_vret rfl rfl h
theorem xr_ps_scanEscape_130 {d : Nat} {l0 l1 : Int} {m : w_M} {Q : Int → w_M → Prop} (hl0 : w_isP l0) (h : if l1 = 13 then (xc_ps_at d l0 (w_32 ((m l0 4) + 1)) m (fun r1 m1 => if r1 = 10 then (Q 0 (w_up m1 l0 4 (w_32 ((m l0 4) + 2)))) else (Q 0 (w_up m1 l0 4 (w_32 ((m l0 4) + 1)))))) else (if l1 = 10 then (Q 0 (w_up m l0 4 (w_32 ((m l0 4) + 1)))) else (Q 0 m))) : xp_ps_scanEscape_130 d l0 l1 m Q := by
  refine w_iload_n rfl rfl ?_
  refine w_bipush rfl (by decide) ?_
  refine w_icne rfl (w_ite h (fun h => ?_) (fun h => ?_))
  · refine w_aload_n rfl rfl ?_
    refine w_dup rfl (show (2 : Nat) ≠ 1 by decide) ?_
    refine x_gfI rfl (s_P hl0) rfl (kk := 4) rfl rfl ?_
    refine w_aload_n rfl rfl ?_
    refine w_aload_n rfl rfl ?_
    refine x_gfI rfl (s_P hl0) rfl (kk := 4) rfl rfl ?_
    refine w_iconst rfl (by decide) ?_
    refine w_iadd rfl ?_
    refine w_callV (t' := 0) [(0, w_32 ((m l0 4) + 1))] [(0, m l0 4), (2, l0)] rfl (s_P hl0) rfl rfl ?_
    refine w_C.more (Q := fun r1 m1 => _) h (fun r1 m1 h => ?_)
    replace h := id h
    refine w_bipush rfl (by decide) ?_
    refine w_icne rfl (w_ite h (fun h => ?_) (fun h => ?_))
    · refine w_iconst rfl (by decide) ?_
      refine w_goto rfl ?_
      refine w_iadd rfl ?_
      refine w_pfI rfl (s_P hl0) rfl (w_EP hl0) rfl (kk := 4) rfl ?_
      refine w_goto rfl ?_
      exact w_vret rfl rfl h
    · refine w_iconst rfl (by decide) ?_
      refine w_iadd rfl ?_
      refine w_pfI rfl (s_P hl0) rfl (w_EP hl0) rfl (kk := 4) rfl ?_
      refine w_goto rfl ?_
      exact w_vret rfl rfl h
  · refine w_iload_n rfl rfl ?_
    refine w_bipush rfl (by decide) ?_
    refine w_icne rfl (w_ite h (fun h => ?_) (fun h => ?_))
    · refine w_aload_n rfl rfl ?_
      refine w_dup rfl (show (2 : Nat) ≠ 1 by decide) ?_
      refine x_gfI rfl (s_P hl0) rfl (kk := 4) rfl rfl ?_
      refine w_iconst rfl (by decide) ?_
      refine w_iadd rfl ?_
      refine w_pfI rfl (s_P hl0) rfl (w_EP hl0) rfl (kk := 4) rfl ?_
      exact w_vret rfl rfl h
    · exact w_vret rfl rfl h
theorem xr_ps_scanHex {d : Nat} {l0 : Int} {m : w_M} {Q : Int → w_M → Prop} (hl0 : w_isP l0) (h : xp_ps_scanHex_17 d l0 (-1) (w_up (w_up m l0 17 0) l0 4 (w_32 ((m l0 4) + 1))) Q) : xc_ps_scanHex (d + 1) l0 m Q := by
  refine w_enter (q := 3) (lv := [some (2, l0), none, none, none]) rfl rfl rfl ?_
  refine w_iconst rfl (by decide) ?_
  refine w_istore_n (lv' := [some (2, l0), some (0, (-1)), none, none]) rfl rfl rfl ?_
  refine w_aload_n rfl rfl ?_
  refine w_iconst rfl (by decide) ?_
  refine w_pfI rfl (s_P hl0) rfl (w_EP hl0) rfl (kk := 17) rfl ?_
  refine w_aload_n rfl rfl ?_
  refine w_dup rfl (show (2 : Nat) ≠ 1 by decide) ?_
  refine x_gfI rfl (s_P hl0) rfl (kk := 4) rfl (w_up_nb (by decide)) ?_
  refine w_iconst rfl (by decide) ?_
  refine w_iadd rfl ?_
  refine w_pfI rfl (s_P hl0) rfl (w_EP hl0) rfl (kk := 4) rfl ?_
  exact w_W.less h (w_sub [true, true, false, false] rfl)
theorem xr_ps_scanHex_17 {d : Nat} {l0 l1 : Int} {m : w_M} {Q : Int → w_M → Prop} (hl0 : w_isP l0) (h : if (m l0 4) < (m l0 5) then (xc_ps_at d l0 (m l0 4) m (fun r1 m1 => xc_ps_hex d r1 m1 (fun r2 m2 => if r1 = 62 then (if l1 < 0 then (Q 1 (w_up m2 l0 4 (w_32 ((m2 l0 4) + 1)))) else (xc_ps_put d l0 (w_32 (l1 * 16)) (w_up m2 l0 4 (w_32 ((m2 l0 4) + 1))) (fun r3 m3 => Q 1 m3))) else (if r2 < 0 then (xc_ps_isWhite d r1 (w_up m2 l0 4 (w_32 ((m2 l0 4) + 1))) (fun r4 m4 => if r4 = 0 then (Q 0 m4) else (xp_ps_scanHex_85 d l0 l1 r2 m4 Q))) else (xp_ps_scanHex_85 d l0 l1 r2 (w_up m2 l0 4 (w_32 ((m2 l0 4) + 1))) Q))))) else (Q 0 m)) : xp_ps_scanHex_17 d l0 l1 m Q := by
  refine w_aload_n rfl rfl ?_
  refine x_gfI rfl (s_P hl0) rfl (kk := 4) rfl rfl ?_
  refine w_aload_n rfl rfl ?_
  refine x_gfI rfl (s_P hl0) rfl (kk := 5) rfl rfl ?_
  refine w_icge rfl (w_ite h (fun h => ?_) (fun h => ?_))
  · refine w_aload_n rfl rfl ?_
    refine w_aload_n rfl rfl ?_
    refine x_gfI rfl (s_P hl0) rfl (kk := 4) rfl rfl ?_
    refine w_callV (t' := 0) [(0, m l0 4)] [] rfl (s_P hl0) rfl rfl ?_
    refine w_C.more (Q := fun r1 m1 => _) h (fun r1 m1 h => ?_)
    replace h := id h
    refine w_istore_n (lv' := [some (2, l0), some (0, l1), some (0, r1), none]) rfl rfl rfl ?_
    refine w_iload_n rfl rfl ?_
    refine w_callS (t' := 0) [(0, r1)] [] rfl (by decide) rfl rfl ?_
    refine w_C.more (Q := fun r2 m2 => _) h (fun r2 m2 h => ?_)
    replace h := id h
    refine w_istore_n (lv' := [some (2, l0), some (0, l1), some (0, r1), some (0, r2)]) rfl rfl rfl ?_
    refine w_aload_n rfl rfl ?_
    refine w_dup rfl (show (2 : Nat) ≠ 1 by decide) ?_
    refine x_gfI rfl (s_P hl0) rfl (kk := 4) rfl rfl ?_
    refine w_iconst rfl (by decide) ?_
    refine w_iadd rfl ?_
    refine w_pfI rfl (s_P hl0) rfl (w_EP hl0) rfl (kk := 4) rfl ?_
    refine w_iload_n rfl rfl ?_
    refine w_bipush rfl (by decide) ?_
    refine w_icne rfl (w_ite h (fun h => ?_) (fun h => ?_))
    · refine w_iload_n rfl rfl ?_
      refine w_iflt rfl (w_ite h (fun h => ?_) (fun h => ?_))
      · refine w_iconst rfl (by decide) ?_
        exact w_zret rfl rfl (by decide) h
      · refine w_aload_n rfl rfl ?_
        refine w_iload_n rfl rfl ?_
        refine w_bipush rfl (by decide) ?_
        refine w_imul rfl ?_
        refine w_callV (t' := 3) [(0, w_32 (l1 * 16))] [] rfl (s_P hl0) rfl rfl ?_
        refine w_C.more (Q := fun r3 m3 => _) h (fun r3 m3 h => ?_)
        replace h := id h
        refine w_iconst rfl (by decide) ?_
        exact w_zret rfl rfl (by decide) h
    · refine w_iload_n rfl rfl ?_
      refine w_ifge rfl (w_ite h (fun h => ?_) (fun h => ?_))
      · refine w_iload_n rfl rfl ?_
        refine w_callS (t' := 0) [(0, r1)] [] rfl (by decide) rfl rfl ?_
        refine w_C.more (Q := fun r4 m4 => _) h (fun r4 m4 h => ?_)
        replace h := id h
        refine w_ifne rfl (w_ite h (fun h => ?_) (fun h => ?_))
        · refine w_iconst rfl (by decide) ?_
          exact w_zret rfl rfl (by decide) h
        · exact w_W.less h (w_sub [true, true, false, true] rfl)
      · exact w_W.less h (w_sub [true, true, false, true] rfl)
  · refine w_iconst rfl (by decide) ?_
    exact w_zret rfl rfl (by decide) h
theorem xr_ps_scanHex_85 {d : Nat} {l0 l1 l3 : Int} {m : w_M} {Q : Int → w_M → Prop} (hl0 : w_isP l0) (h : if l3 < 0 then (if l3 < 0 then (xp_ps_scanHex_17 d l0 l1 m Q) else (xp_ps_scanHex_17 d l0 l3 m Q)) else (if l1 < 0 then (if l3 < 0 then (xp_ps_scanHex_17 d l0 l1 m Q) else (xp_ps_scanHex_17 d l0 l3 m Q)) else (xc_ps_put d l0 (w_32 ((w_32 (l1 * 16)) + l3)) m (fun r1 m1 => xp_ps_scanHex_17 d l0 (-1) m1 Q)))) : xp_ps_scanHex_85 d l0 l1 l3 m Q := by
  refine w_iload_n rfl rfl ?_
  refine w_iflt rfl (w_ite h (fun h => ?_) (fun h => ?_))
  · refine w_iload_n rfl rfl ?_
    refine w_iflt rfl (w_ite h (fun h => ?_) (fun h => ?_))
    · refine w_goto rfl ?_
      exact w_W.less h (w_sub [true, true, false, false] rfl)
    · refine w_iload_n rfl rfl ?_
      refine w_istore_n (lv' := [some (2, l0), some (0, l3), none, some (0, l3)]) rfl rfl rfl ?_
      refine w_goto rfl ?_
      exact w_W.less h (w_sub [true, true, false, false] rfl)
  · refine w_iload_n rfl rfl ?_
    refine w_iflt rfl (w_ite h (fun h => ?_) (fun h => ?_))
    · refine w_iload_n rfl rfl ?_
      refine w_iflt rfl (w_ite h (fun h => ?_) (fun h => ?_))
      · refine w_goto rfl ?_
        exact w_W.less h (w_sub [true, true, false, false] rfl)
      · refine w_iload_n rfl rfl ?_
        refine w_istore_n (lv' := [some (2, l0), some (0, l3), none, some (0, l3)]) rfl rfl rfl ?_
        refine w_goto rfl ?_
        exact w_W.less h (w_sub [true, true, false, false] rfl)
    · refine w_aload_n rfl rfl ?_
      refine w_iload_n rfl rfl ?_
      refine w_bipush rfl (by decide) ?_
      refine w_imul rfl ?_
      refine w_iload_n rfl rfl ?_
      refine w_iadd rfl ?_
      refine w_callV (t' := 3) [(0, w_32 ((w_32 (l1 * 16)) + l3))] [] rfl (s_P hl0) rfl rfl ?_
      refine w_C.more (Q := fun r1 m1 => _) h (fun r1 m1 h => ?_)
      replace h := id h
      refine w_iconst rfl (by decide) ?_
      refine w_istore_n (lv' := [some (2, l0), some (0, (-1)), none, some (0, l3)]) rfl rfl rfl ?_
      refine w_goto rfl ?_
      refine w_goto rfl ?_
      exact w_W.less h (w_sub [true, true, false, false] rfl)
theorem xr_ps_scanRound {d : Nat} {l0 : Int} {m : w_M} {Q : Int → w_M → Prop} (hl0 : w_isP l0) (h : xp_ps_scanRound_17 d l0 1 (w_up (w_up m l0 17 0) l0 4 (w_32 ((m l0 4) + 1))) Q) : xc_ps_scanRound (d + 1) l0 m Q := by
  refine w_enter (q := 2) (lv := [some (2, l0), none, none]) rfl rfl rfl ?_
  refine w_iconst rfl (by decide) ?_
  refine w_istore_n (lv' := [some (2, l0), some (0, 1), none]) rfl rfl rfl ?_
  refine w_aload_n rfl rfl ?_
  refine w_iconst rfl (by decide) ?_
  refine w_pfI rfl (s_P hl0) rfl (w_EP hl0) rfl (kk := 17) rfl ?_
  refine w_aload_n rfl rfl ?_
  refine w_dup rfl (show (2 : Nat) ≠ 1 by decide) ?_
  refine x_gfI rfl (s_P hl0) rfl (kk := 4) rfl (w_up_nb (by decide)) ?_
  refine w_iconst rfl (by decide) ?_
  refine w_iadd rfl ?_
  refine w_pfI rfl (s_P hl0) rfl (w_EP hl0) rfl (kk := 4) rfl ?_
  exact w_W.less h (w_sub [true, true, false] rfl)
theorem xr_ps_scanRound_17 {d : Nat} {l0 l1 : Int} {m : w_M} {Q : Int → w_M → Prop} (hl0 : w_isP l0) (h : if (m l0 4) < (m l0 5) then (xc_ps_at d l0 (m l0 4) m (fun r1 m1 => if r1 = 92 then (xc_ps_scanEscape d l0 (w_up m1 l0 4 (w_32 ((m1 l0 4) + 1))) (fun r2 m2 => xp_ps_scanRound_17 d l0 l1 m2 Q)) else (if r1 = 13 then (xc_ps_at d l0 (w_32 ((m1 l0 4) + 1)) (w_up m1 l0 4 (w_32 ((m1 l0 4) + 1))) (fun r3 m3 => if r3 = 10 then (xc_ps_put d l0 10 (w_up m3 l0 4 (w_32 ((w_32 ((m1 l0 4) + 1)) + 1))) (fun r4 m4 => xp_ps_scanRound_17 d l0 l1 m4 Q)) else (xc_ps_put d l0 10 (w_up m3 l0 4 (w_32 ((w_32 ((m1 l0 4) + 1)) + 0))) (fun r5 m5 => xp_ps_scanRound_17 d l0 l1 m5 Q)))) else (if r1 = 41 then (if l1 = 1 then (Q 1 (w_up m1 l0 4 (w_32 ((m1 l0 4) + 1)))) else (xp_ps_scanRound_115 d l0 l1 r1 (w_up m1 l0 4 (w_32 ((m1 l0 4) + 1))) Q)) else (xp_ps_scanRound_115 d l0 l1 r1 (w_up m1 l0 4 (w_32 ((m1 l0 4) + 1))) Q))))) else (Q 0 m)) : xp_ps_scanRound_17 d l0 l1 m Q := by
  refine w_aload_n rfl rfl ?_
  refine x_gfI rfl (s_P hl0) rfl (kk := 4) rfl rfl ?_
  refine w_aload_n rfl rfl ?_
  refine x_gfI rfl (s_P hl0) rfl (kk := 5) rfl rfl ?_
  refine w_icge rfl (w_ite h (fun h => ?_) (fun h => ?_))
  · refine w_aload_n rfl rfl ?_
    refine w_aload_n rfl rfl ?_
    refine x_gfI rfl (s_P hl0) rfl (kk := 4) rfl rfl ?_
    refine w_callV (t' := 0) [(0, m l0 4)] [] rfl (s_P hl0) rfl rfl ?_
    refine w_C.more (Q := fun r1 m1 => _) h (fun r1 m1 h => ?_)
    replace h := id h
    refine w_istore_n (lv' := [some (2, l0), some (0, l1), some (0, r1)]) rfl rfl rfl ?_
    refine w_aload_n rfl rfl ?_
    refine w_dup rfl (show (2 : Nat) ≠ 1 by decide) ?_
    refine x_gfI rfl (s_P hl0) rfl (kk := 4) rfl rfl ?_
    refine w_iconst rfl (by decide) ?_
    refine w_iadd rfl ?_
    refine w_pfI rfl (s_P hl0) rfl (w_EP hl0) rfl (kk := 4) rfl ?_
    refine w_iload_n rfl rfl ?_
    refine w_bipush rfl (by decide) ?_
    refine w_icne rfl (w_ite h (fun h => ?_) (fun h => ?_))
    · refine w_aload_n rfl rfl ?_
      refine w_callV (t' := 3) [] [] rfl (s_P hl0) rfl rfl ?_
      refine w_C.more (Q := fun r2 m2 => _) h (fun r2 m2 h => ?_)
      replace h := id h
      refine w_goto rfl ?_
      refine w_goto rfl ?_
      exact w_W.less h (w_sub [true, true, false] rfl)
    · refine w_iload_n rfl rfl ?_
      refine w_bipush rfl (by decide) ?_
      refine w_icne rfl (w_ite h (fun h => ?_) (fun h => ?_))
      · refine w_aload_n rfl rfl ?_
        refine w_dup rfl (show (2 : Nat) ≠ 1 by decide) ?_
        refine x_gfI rfl (s_P hl0) rfl (kk := 4) rfl (w_up_eq) ?_
        refine w_aload_n rfl rfl ?_
        refine w_aload_n rfl rfl ?_
        refine x_gfI rfl (s_P hl0) rfl (kk := 4) rfl (w_up_eq) ?_
        refine w_callV (t' := 0) [(0, w_32 ((m1 l0 4) + 1))] [(0, w_32 ((m1 l0 4) + 1)), (2, l0)] rfl (s_P hl0) rfl rfl ?_
        refine w_C.more (Q := fun r3 m3 => _) h (fun r3 m3 h => ?_)
        replace h := id h
        refine w_bipush rfl (by decide) ?_
        refine w_icne rfl (w_ite h (fun h => ?_) (fun h => ?_))
        · refine w_iconst rfl (by decide) ?_
          refine w_goto rfl ?_
          refine w_iadd rfl ?_
          refine w_pfI rfl (s_P hl0) rfl (w_EP hl0) rfl (kk := 4) rfl ?_
          refine w_aload_n rfl rfl ?_
          refine w_bipush rfl (by decide) ?_
          refine w_callV (t' := 3) [(0, 10)] [] rfl (s_P hl0) rfl rfl ?_
          refine w_C.more (Q := fun r4 m4 => _) h (fun r4 m4 h => ?_)
          replace h := id h
          refine w_goto rfl ?_
          refine w_goto rfl ?_
          exact w_W.less h (w_sub [true, true, false] rfl)
        · refine w_iconst rfl (by decide) ?_
          refine w_iadd rfl ?_
          refine w_pfI rfl (s_P hl0) rfl (w_EP hl0) rfl (kk := 4) rfl ?_
          refine w_aload_n rfl rfl ?_
          refine w_bipush rfl (by decide) ?_
          refine w_callV (t' := 3) [(0, 10)] [] rfl (s_P hl0) rfl rfl ?_
          refine w_C.more (Q := fun r5 m5 => _) h (fun r5 m5 h => ?_)
          replace h := id h
          refine w_goto rfl ?_
          refine w_goto rfl ?_
          exact w_W.less h (w_sub [true, true, false] rfl)
      · refine w_iload_n rfl rfl ?_
        refine w_bipush rfl (by decide) ?_
        refine w_icne rfl (w_ite h (fun h => ?_) (fun h => ?_))
        · refine w_iload_n rfl rfl ?_
          refine w_iconst rfl (by decide) ?_
          refine w_icne rfl (w_ite h (fun h => ?_) (fun h => ?_))
          · refine w_iconst rfl (by decide) ?_
            exact w_zret rfl rfl (by decide) h
          · exact w_W.less h (w_sub [true, true, true] rfl)
        · exact w_W.less h (w_sub [true, true, true] rfl)
  · refine w_iconst rfl (by decide) ?_
    exact w_zret rfl rfl (by decide) h
theorem xr_ps_scanRound_115 {d : Nat} {l0 l1 l2 : Int} {m : w_M} {Q : Int → w_M → Prop} (hl0 : w_isP l0) (h : if l2 = 40 then (xc_ps_put d l0 l2 m (fun r1 m1 => xp_ps_scanRound_17 d l0 (w_32 (l1 + 1)) m1 Q)) else (if l2 = 41 then (xc_ps_put d l0 l2 m (fun r2 m2 => xp_ps_scanRound_17 d l0 (w_32 (l1 + (-1))) m2 Q)) else (xc_ps_put d l0 l2 m (fun r3 m3 => xp_ps_scanRound_17 d l0 (w_32 (l1 + 0)) m3 Q)))) : xp_ps_scanRound_115 d l0 l1 l2 m Q := by
  refine w_iload_n rfl rfl ?_
  refine w_iload_n rfl rfl ?_
  refine w_bipush rfl (by decide) ?_
  refine w_icne rfl (w_ite h (fun h => ?_) (fun h => ?_))
  · refine w_iconst rfl (by decide) ?_
    refine w_goto rfl ?_
    refine w_iadd rfl ?_
    refine w_istore_n (lv' := [some (2, l0), some (0, w_32 (l1 + 1)), some (0, l2)]) rfl rfl rfl ?_
    refine w_aload_n rfl rfl ?_
    refine w_iload_n rfl rfl ?_
    refine w_callV (t' := 3) [(0, l2)] [] rfl (s_P hl0) rfl rfl ?_
    refine w_C.more (Q := fun r1 m1 => _) h (fun r1 m1 h => ?_)
    replace h := id h
    refine w_goto rfl ?_
    exact w_W.less h (w_sub [true, true, false] rfl)
  · refine w_iload_n rfl rfl ?_
    refine w_bipush rfl (by decide) ?_
    refine w_icne rfl (w_ite h (fun h => ?_) (fun h => ?_))
    · refine w_iconst rfl (by decide) ?_
      refine w_goto rfl ?_
      refine w_iadd rfl ?_
      refine w_istore_n (lv' := [some (2, l0), some (0, w_32 (l1 + (-1))), some (0, l2)]) rfl rfl rfl ?_
      refine w_aload_n rfl rfl ?_
      refine w_iload_n rfl rfl ?_
      refine w_callV (t' := 3) [(0, l2)] [] rfl (s_P hl0) rfl rfl ?_
      refine w_C.more (Q := fun r2 m2 => _) h (fun r2 m2 h => ?_)
      replace h := id h
      refine w_goto rfl ?_
      exact w_W.less h (w_sub [true, true, false] rfl)
    · refine w_iconst rfl (by decide) ?_
      refine w_iadd rfl ?_
      refine w_istore_n (lv' := [some (2, l0), some (0, w_32 (l1 + 0)), some (0, l2)]) rfl rfl rfl ?_
      refine w_aload_n rfl rfl ?_
      refine w_iload_n rfl rfl ?_
      refine w_callV (t' := 3) [(0, l2)] [] rfl (s_P hl0) rfl rfl ?_
      refine w_C.more (Q := fun r3 m3 => _) h (fun r3 m3 h => ?_)
      replace h := id h
      refine w_goto rfl ?_
      exact w_W.less h (w_sub [true, true, false] rfl)
theorem xr_ps_skipBlanks {d : Nat} {l0 : Int} {m : w_M} {Q : Int → w_M → Prop} (hl0 : w_isP l0) (h : xp_ps_skipBlanks_0 d l0 m Q) : xc_ps_skipBlanks (d + 1) l0 m Q := by
  refine w_enter (q := 0) (lv := [some (2, l0)]) rfl rfl rfl (w_W.less h (w_sub [true] rfl))
theorem xr_ps_skipBlanks_0 {d : Nat} {l0 : Int} {m : w_M} {Q : Int → w_M → Prop} (hl0 : w_isP l0) (h : if (m l0 4) < (m l0 5) then (xc_ps_at d l0 (m l0 4) m (fun r1 m1 => xc_ps_isWhite d r1 m1 (fun r2 m2 => if r2 = 0 then (Q 0 m2) else (xp_ps_skipBlanks_0 d l0 (w_up m2 l0 4 (w_32 ((m2 l0 4) + 1))) Q)))) else (Q 0 m)) : xp_ps_skipBlanks_0 d l0 m Q := by
  refine w_aload_n rfl rfl ?_
  refine x_gfI rfl (s_P hl0) rfl (kk := 4) rfl rfl ?_
  refine w_aload_n rfl rfl ?_
  refine x_gfI rfl (s_P hl0) rfl (kk := 5) rfl rfl ?_
  refine w_icge rfl (w_ite h (fun h => ?_) (fun h => ?_))
  · refine w_aload_n rfl rfl ?_
    refine w_aload_n rfl rfl ?_
    refine x_gfI rfl (s_P hl0) rfl (kk := 4) rfl rfl ?_
    refine w_callV (t' := 0) [(0, m l0 4)] [] rfl (s_P hl0) rfl rfl ?_
    refine w_C.more (Q := fun r1 m1 => _) h (fun r1 m1 h => ?_)
    replace h := id h
    refine w_callS (t' := 0) [(0, r1)] [] rfl (by decide) rfl rfl ?_
    refine w_C.more (Q := fun r2 m2 => _) h (fun r2 m2 h => ?_)
    replace h := id h
    refine w_ifeq rfl (w_ite h (fun h => ?_) (fun h => ?_))
    · exact w_vret rfl rfl h
    · refine w_aload_n rfl rfl ?_
      refine w_dup rfl (show (2 : Nat) ≠ 1 by decide) ?_
      refine x_gfI rfl (s_P hl0) rfl (kk := 4) rfl rfl ?_
      refine w_iconst rfl (by decide) ?_
      refine w_iadd rfl ?_
      refine w_pfI rfl (s_P hl0) rfl (w_EP hl0) rfl (kk := 4) rfl ?_
      refine w_goto rfl ?_
      exact w_W.less h (w_sub [true] rfl)
  · exact w_vret rfl rfl h
theorem xr_ps_skipLineEnd {d : Nat} {l0 : Int} {m : w_M} {Q : Int → w_M → Prop} (hl0 : w_isP l0) (h : xc_ps_at d l0 (m l0 4) m (fun r1 m1 => if r1 = 13 then (xc_ps_at d l0 (w_32 ((m1 l0 4) + 1)) m1 (fun r2 m2 => if r2 = 10 then (Q 1 (w_up m2 l0 4 (w_32 ((m1 l0 4) + 2)))) else (Q 1 (w_up m2 l0 4 (w_32 ((m1 l0 4) + 1)))))) else (if r1 = 10 then (Q 1 (w_up m1 l0 4 (w_32 ((m1 l0 4) + 1)))) else (Q 0 m1)))) : xc_ps_skipLineEnd (d + 1) l0 m Q := by
  refine w_enter (q := 1) (lv := [some (2, l0), none]) rfl rfl rfl ?_
  refine w_aload_n rfl rfl ?_
  refine w_aload_n rfl rfl ?_
  refine x_gfI rfl (s_P hl0) rfl (kk := 4) rfl rfl ?_
  refine w_callV (t' := 0) [(0, m l0 4)] [] rfl (s_P hl0) rfl rfl ?_
  refine w_C.more (Q := fun r1 m1 => _) h (fun r1 m1 h => ?_)
  replace h := id h
  refine w_istore_n (lv' := [some (2, l0), some (0, r1)]) rfl rfl rfl ?_
  refine w_iload_n rfl rfl ?_
  refine w_bipush rfl (by decide) ?_
  refine w_icne rfl (w_ite h (fun h => ?_) (fun h => ?_))
  · refine w_aload_n rfl rfl ?_
    refine w_dup rfl (show (2 : Nat) ≠ 1 by decide) ?_
    refine x_gfI rfl (s_P hl0) rfl (kk := 4) rfl rfl ?_
    refine w_aload_n rfl rfl ?_
    refine w_aload_n rfl rfl ?_
    refine x_gfI rfl (s_P hl0) rfl (kk := 4) rfl rfl ?_
    refine w_iconst rfl (by decide) ?_
    refine w_iadd rfl ?_
    refine w_callV (t' := 0) [(0, w_32 ((m1 l0 4) + 1))] [(0, m1 l0 4), (2, l0)] rfl (s_P hl0) rfl rfl ?_
    refine w_C.more (Q := fun r2 m2 => _) h (fun r2 m2 h => ?_)
    replace h := id h
    refine w_bipush rfl (by decide) ?_
    refine w_icne rfl (w_ite h (fun h => ?_) (fun h => ?_))
    · refine w_iconst rfl (by decide) ?_
      refine w_goto rfl ?_
      refine w_iadd rfl ?_
      refine w_pfI rfl (s_P hl0) rfl (w_EP hl0) rfl (kk := 4) rfl ?_
      refine w_iconst rfl (by decide) ?_
      exact w_zret rfl rfl (by decide) h
    · refine w_iconst rfl (by decide) ?_
      refine w_iadd rfl ?_
      refine w_pfI rfl (s_P hl0) rfl (w_EP hl0) rfl (kk := 4) rfl ?_
      refine w_iconst rfl (by decide) ?_
      exact w_zret rfl rfl (by decide) h
  · refine w_iload_n rfl rfl ?_
    refine w_bipush rfl (by decide) ?_
    refine w_icne rfl (w_ite h (fun h => ?_) (fun h => ?_))
    · refine w_aload_n rfl rfl ?_
      refine w_dup rfl (show (2 : Nat) ≠ 1 by decide) ?_
      refine x_gfI rfl (s_P hl0) rfl (kk := 4) rfl rfl ?_
      refine w_iconst rfl (by decide) ?_
      refine w_iadd rfl ?_
      refine w_pfI rfl (s_P hl0) rfl (w_EP hl0) rfl (kk := 4) rfl ?_
      refine w_iconst rfl (by decide) ?_
      exact w_zret rfl rfl (by decide) h
    · refine w_iconst rfl (by decide) ?_
      exact w_zret rfl rfl (by decide) h
theorem xr_ps_skipWhite {d : Nat} {l0 : Int} {m : w_M} {Q : Int → w_M → Prop} (hl0 : w_isP l0) (h : xp_ps_skipWhite_2 d l0 0 m Q) : xc_ps_skipWhite (d + 1) l0 m Q := by
  refine w_enter (q := 2) (lv := [some (2, l0), none, none]) rfl rfl rfl ?_
  refine w_iconst rfl (by decide) ?_
  refine w_istore_n (lv' := [some (2, l0), some (0, 0), none]) rfl rfl rfl ?_
  exact w_W.less h (w_sub [true, true, false] rfl)
theorem xr_ps_skipWhite_2 {d : Nat} {l0 l1 : Int} {m : w_M} {Q : Int → w_M → Prop} (hl0 : w_isP l0) (h : if (m l0 4) < (m l0 5) then (xc_ps_at d l0 (m l0 4) m (fun r1 m1 => if r1 = 10 then (xp_ps_skipWhite_2 d l0 0 (w_up m1 l0 4 (w_32 ((m1 l0 4) + 1))) Q) else (if r1 = 13 then (xp_ps_skipWhite_2 d l0 0 (w_up m1 l0 4 (w_32 ((m1 l0 4) + 1))) Q) else (if r1 = 37 then (xp_ps_skipWhite_2 d l0 1 (w_up m1 l0 4 (w_32 ((m1 l0 4) + 1))) Q) else (if l1 = 0 then (xc_ps_isWhite d r1 m1 (fun r2 m2 => if r2 = 0 then (Q 0 m2) else (xp_ps_skipWhite_2 d l0 l1 (w_up m2 l0 4 (w_32 ((m2 l0 4) + 1))) Q))) else (xp_ps_skipWhite_2 d l0 l1 (w_up m1 l0 4 (w_32 ((m1 l0 4) + 1))) Q)))))) else (Q 0 m)) : xp_ps_skipWhite_2 d l0 l1 m Q := by
  refine w_aload_n rfl rfl ?_
  refine x_gfI rfl (s_P hl0) rfl (kk := 4) rfl rfl ?_
  refine w_aload_n rfl rfl ?_
  refine x_gfI rfl (s_P hl0) rfl (kk := 5) rfl rfl ?_
  refine w_icge rfl (w_ite h (fun h => ?_) (fun h => ?_))
  · refine w_aload_n rfl rfl ?_
    refine w_aload_n rfl rfl ?_
    refine x_gfI rfl (s_P hl0) rfl (kk := 4) rfl rfl ?_
    refine w_callV (t' := 0) [(0, m l0 4)] [] rfl (s_P hl0) rfl rfl ?_
    refine w_C.more (Q := fun r1 m1 => _) h (fun r1 m1 h => ?_)
    replace h := id h
    refine w_istore_n (lv' := [some (2, l0), some (0, l1), some (0, r1)]) rfl rfl rfl ?_
    refine w_iload_n rfl rfl ?_
    refine w_bipush rfl (by decide) ?_
    refine w_iceq rfl (w_ite h (fun h => ?_) (fun h => ?_))
    · refine w_iconst rfl (by decide) ?_
      refine w_istore_n (lv' := [some (2, l0), some (0, 0), some (0, r1)]) rfl rfl rfl ?_
      refine w_goto rfl ?_
      refine w_aload_n rfl rfl ?_
      refine w_dup rfl (show (2 : Nat) ≠ 1 by decide) ?_
      refine x_gfI rfl (s_P hl0) rfl (kk := 4) rfl rfl ?_
      refine w_iconst rfl (by decide) ?_
      refine w_iadd rfl ?_
      refine w_pfI rfl (s_P hl0) rfl (w_EP hl0) rfl (kk := 4) rfl ?_
      refine w_goto rfl ?_
      exact w_W.less h (w_sub [true, true, false] rfl)
    · refine w_iload_n rfl rfl ?_
      refine w_bipush rfl (by decide) ?_
      refine w_icne rfl (w_ite h (fun h => ?_) (fun h => ?_))
      · refine w_iconst rfl (by decide) ?_
        refine w_istore_n (lv' := [some (2, l0), some (0, 0), some (0, r1)]) rfl rfl rfl ?_
        refine w_goto rfl ?_
        refine w_aload_n rfl rfl ?_
        refine w_dup rfl (show (2 : Nat) ≠ 1 by decide) ?_
        refine x_gfI rfl (s_P hl0) rfl (kk := 4) rfl rfl ?_
        refine w_iconst rfl (by decide) ?_
        refine w_iadd rfl ?_
        refine w_pfI rfl (s_P hl0) rfl (w_EP hl0) rfl (kk := 4) rfl ?_
        refine w_goto rfl ?_
        exact w_W.less h (w_sub [true, true, false] rfl)
      · refine w_iload_n rfl rfl ?_
        refine w_bipush rfl (by decide) ?_
        refine w_icne rfl (w_ite h (fun h => ?_) (fun h => ?_))
        · refine w_iconst rfl (by decide) ?_
          refine w_istore_n (lv' := [some (2, l0), some (0, 1), some (0, r1)]) rfl rfl rfl ?_
          refine w_goto rfl ?_
          refine w_aload_n rfl rfl ?_
          refine w_dup rfl (show (2 : Nat) ≠ 1 by decide) ?_
          refine x_gfI rfl (s_P hl0) rfl (kk := 4) rfl rfl ?_
          refine w_iconst rfl (by decide) ?_
          refine w_iadd rfl ?_
          refine w_pfI rfl (s_P hl0) rfl (w_EP hl0) rfl (kk := 4) rfl ?_
          refine w_goto rfl ?_
          exact w_W.less h (w_sub [true, true, false] rfl)
        · refine w_iload_n rfl rfl ?_
          refine w_ifne rfl (w_ite h (fun h => ?_) (fun h => ?_))
          · refine w_iload_n rfl rfl ?_
            refine w_callS (t' := 0) [(0, r1)] [] rfl (by decide) rfl rfl ?_
            refine w_C.more (Q := fun r2 m2 => _) h (fun r2 m2 h => ?_)
            replace h := id h
            refine w_ifne rfl (w_ite h (fun h => ?_) (fun h => ?_))
            · exact w_vret rfl rfl h
            · refine w_aload_n rfl rfl ?_
              refine w_dup rfl (show (2 : Nat) ≠ 1 by decide) ?_
              refine x_gfI rfl (s_P hl0) rfl (kk := 4) rfl rfl ?_
              refine w_iconst rfl (by decide) ?_
              refine w_iadd rfl ?_
              refine w_pfI rfl (s_P hl0) rfl (w_EP hl0) rfl (kk := 4) rfl ?_
              refine w_goto rfl ?_
              exact w_W.less h (w_sub [true, true, false] rfl)
          · refine w_aload_n rfl rfl ?_
            refine w_dup rfl (show (2 : Nat) ≠ 1 by decide) ?_
            refine x_gfI rfl (s_P hl0) rfl (kk := 4) rfl rfl ?_
            refine w_iconst rfl (by decide) ?_
            refine w_iadd rfl ?_
            refine w_pfI rfl (s_P hl0) rfl (w_EP hl0) rfl (kk := 4) rfl ?_
            refine w_goto rfl ?_
            exact w_W.less h (w_sub [true, true, false] rfl)
  · exact w_vret rfl rfl h
theorem xr_ps_string {d : Nat} {l0 : Int} {m : w_M} {Q : Int → w_M → Prop} (hl0 : w_isP l0) (h : xc_ps_at d l0 (m l0 4) m (fun r1 m1 => if r1 = 40 then (xc_ps_scanRound d l0 m1 (fun r2 m2 => xp_ps_string_26 d l0 (m l0 4) r2 m2 Q)) else (xc_ps_scanHex d l0 m1 (fun r3 m3 => xp_ps_string_26 d l0 (m l0 4) r3 m3 Q)))) : xc_ps_string (d + 1) l0 m Q := by
  refine w_enter (q := 2) (lv := [some (2, l0), none, none]) rfl rfl rfl ?_
  refine w_aload_n rfl rfl ?_
  refine x_gfI rfl (s_P hl0) rfl (kk := 4) rfl rfl ?_
  refine w_istore_n (lv' := [some (2, l0), some (0, m l0 4), none]) rfl rfl rfl ?_
  refine w_aload_n rfl rfl ?_
  refine w_iload_n rfl rfl ?_
  refine w_callV (t' := 0) [(0, m l0 4)] [] rfl (s_P hl0) rfl rfl ?_
  refine w_C.more (Q := fun r1 m1 => _) h (fun r1 m1 h => ?_)
  replace h := id h
  refine w_bipush rfl (by decide) ?_
  refine w_icne rfl (w_ite h (fun h => ?_) (fun h => ?_))
  · refine w_aload_n rfl rfl ?_
    refine w_callV (t' := 0) [] [] rfl (s_P hl0) rfl rfl ?_
    refine w_C.more (Q := fun r2 m2 => _) h (fun r2 m2 h => ?_)
    replace h := id h
    refine w_goto rfl ?_
    exact w_W.less h (w_sub [true, true, false] rfl)
  · refine w_aload_n rfl rfl ?_
    refine w_callV (t' := 0) [] [] rfl (s_P hl0) rfl rfl ?_
    refine w_C.more (Q := fun r3 m3 => _) h (fun r3 m3 h => ?_)
    replace h := id h
    exact w_W.less h (w_sub [true, true, false] rfl)
theorem xr_ps_string_26 {d : Nat} {l0 l1 s0 : Int} {m : w_M} {Q : Int → w_M → Prop} (hl0 : w_isP l0) (h : if s0 = 0 then (xc_ps_failAt d l0 4 l1 m (fun r1 m1 => Q r1 m1)) else (if 2000 < (m l0 17) then (xc_ps_failAt d l0 5 l1 m (fun r2 m2 => Q r2 m2)) else (xc_ps_make d l0 5 (m 359 7) (m l0 17) l1 m (fun r3 m3 => Q r3 m3)))) : xp_ps_string_26 d l0 l1 s0 m Q := by
  refine w_istore_n (lv' := [some (2, l0), some (0, l1), some (0, s0)]) rfl rfl rfl ?_
  refine w_iload_n rfl rfl ?_
  refine w_ifne rfl (w_ite h (fun h => ?_) (fun h => ?_))
  · refine w_aload_n rfl rfl ?_
    refine w_iconst rfl (by decide) ?_
    refine w_iload_n rfl rfl ?_
    refine w_callV (t' := 0) [(0, l1), (0, 4)] [] rfl (s_P hl0) rfl rfl ?_
    refine w_C.more (Q := fun r1 m1 => _) h (fun r1 m1 h => ?_)
    replace h := id h
    exact w_iret rfl rfl h
  · refine w_aload_n rfl rfl ?_
    refine x_gfI rfl (s_P hl0) rfl (kk := 17) rfl rfl ?_
    refine w_sipush rfl (by decide) ?_
    refine w_icle rfl (w_ite h (fun h => ?_) (fun h => ?_))
    · refine w_aload_n rfl rfl ?_
      refine w_iconst rfl (by decide) ?_
      refine w_iload_n rfl rfl ?_
      refine w_callV (t' := 0) [(0, l1), (0, 5)] [] rfl (s_P hl0) rfl rfl ?_
      refine w_C.more (Q := fun r2 m2 => _) h (fun r2 m2 h => ?_)
      replace h := id h
      refine w_goto rfl ?_
      exact w_iret rfl rfl h
    · refine w_aload_n rfl rfl ?_
      refine w_iconst rfl (by decide) ?_
      refine w_aload_n rfl rfl ?_
      refine w_gfC (c := 359) rfl (s_P hl0) rfl rfl ?_
      refine x_gfI rfl s_359 rfl (kk := 7) rfl rfl ?_
      refine w_aload_n rfl rfl ?_
      refine x_gfI rfl (s_P hl0) rfl (kk := 17) rfl rfl ?_
      refine w_iload_n rfl rfl ?_
      refine w_callV (t' := 0) [(0, l1), (0, m l0 17), (0, m 359 7), (0, 5)] [] rfl (s_P hl0) rfl rfl ?_
      refine w_C.more (Q := fun r3 m3 => _) h (fun r3 m3 h => ?_)
      replace h := id h
      exact w_iret rfl rfl h
theorem xr_ps_unsigned {d : Nat} {l0 : Int} {m : w_M} {Q : Int → w_M → Prop} (hl0 : w_isP l0) (h : xc_ps_skipWhite d l0 m (fun r1 m1 => xc_ps_lookAtRow d l0 m1 (fun r2 m2 => if (m2 l0 13) = 2 then (if (m2 l0 16) = 0 then (if (m2 l0 15) = 0 then (Q (m2 l0 14) (w_up m2 l0 4 (m2 l0 12))) else (Q (-1) m2)) else (Q (-1) m2)) else (Q (-1) m2)))) : xc_ps_unsigned (d + 1) l0 m Q := by
  refine w_enter (q := 0) (lv := [some (2, l0)]) rfl rfl rfl ?_
  refine w_aload_n rfl rfl ?_
  refine w_callV (t' := 3) [] [] rfl (s_P hl0) rfl rfl ?_
  refine w_C.more (Q := fun r1 m1 => _) h (fun r1 m1 h => ?_)
  replace h := id h
  refine w_aload_n rfl rfl ?_
  refine w_callV (t' := 3) [] [] rfl (s_P hl0) rfl rfl ?_
  refine w_C.more (Q := fun r2 m2 => _) h (fun r2 m2 h => ?_)
  replace h := id h
  refine w_aload_n rfl rfl ?_
  refine x_gfI rfl (s_P hl0) rfl (kk := 13) rfl rfl ?_
  refine w_iconst rfl (by decide) ?_
  refine w_icne rfl (w_ite h (fun h => ?_) (fun h => ?_))
  · refine w_aload_n rfl rfl ?_
    refine x_gfZ rfl (s_P hl0) rfl (kk := 16) rfl rfl ?_
    refine w_ifne rfl (w_ite h (fun h => ?_) (fun h => ?_))
    · refine w_aload_n rfl rfl ?_
      refine x_gfZ rfl (s_P hl0) rfl (kk := 15) rfl rfl ?_
      refine w_ifeq rfl (w_ite h (fun h => ?_) (fun h => ?_))
      · refine w_aload_n rfl rfl ?_
        refine w_aload_n rfl rfl ?_
        refine x_gfI rfl (s_P hl0) rfl (kk := 12) rfl rfl ?_
        refine w_pfI rfl (s_P hl0) rfl (w_EP hl0) rfl (kk := 4) rfl ?_
        refine w_aload_n rfl rfl ?_
        refine x_gfI rfl (s_P hl0) rfl (kk := 14) rfl (w_up_nb (by decide)) ?_
        exact w_iret rfl rfl h
      · refine w_iconst rfl (by decide) ?_
        exact w_iret rfl rfl h
    · refine w_iconst rfl (by decide) ?_
      exact w_iret rfl rfl h
  · refine w_iconst rfl (by decide) ?_
    exact w_iret rfl rfl h
theorem xr_ps_word {d : Nat} {l0 l1 : Int} {m : w_M} {Q : Int → w_M → Prop} (hl0 : w_isP l0) (h : xc_ps_skipWhite d l0 m (fun r1 m1 => xc_ps_lookAtRow d l0 m1 (fun r2 m2 => xc_ps_rowIs d l0 l1 m2 (fun r3 m3 => if r3 = 0 then ((r3 = 0 ∨ r3 = 1) ∧ Q r3 (w_up m3 l0 4 (m3 l0 4))) else ((r3 = 0 ∨ r3 = 1) ∧ Q r3 (w_up m3 l0 4 (m3 l0 12))))))) : xc_ps_word (d + 1) l0 l1 m Q := by
  refine w_enter (q := 1) (lv := [some (2, l0), some (2, l1), none]) rfl rfl rfl ?_
  refine w_aload_n rfl rfl ?_
  refine w_callV (t' := 3) [] [] rfl (s_P hl0) rfl rfl ?_
  refine w_C.more (Q := fun r1 m1 => _) h (fun r1 m1 h => ?_)
  replace h := id h
  refine w_aload_n rfl rfl ?_
  refine w_callV (t' := 3) [] [] rfl (s_P hl0) rfl rfl ?_
  refine w_C.more (Q := fun r2 m2 => _) h (fun r2 m2 h => ?_)
  replace h := id h
  refine w_aload_n rfl rfl ?_
  refine w_aload_n rfl rfl ?_
  refine w_callV (t' := 0) [(2, l1)] [] rfl (s_P hl0) rfl rfl ?_
  refine w_C.more (Q := fun r3 m3 => _) h (fun r3 m3 h => ?_)
  replace h := id h
  refine w_istore_n (lv' := [some (2, l0), some (2, l1), some (0, r3)]) rfl rfl rfl ?_
  refine w_aload_n rfl rfl ?_
  refine w_iload_n rfl rfl ?_
  refine w_ifeq rfl (w_ite h (fun h => ?_) (fun h => ?_))
  · refine w_aload_n rfl rfl ?_
    refine x_gfI rfl (s_P hl0) rfl (kk := 4) rfl rfl ?_
    refine w_pfI rfl (s_P hl0) rfl (w_EP hl0) rfl (kk := 4) rfl ?_
    refine w_iload_n rfl rfl ?_
    exact w_zret rfl rfl h.1 h.2
  · refine w_aload_n rfl rfl ?_
    refine x_gfI rfl (s_P hl0) rfl (kk := 12) rfl rfl ?_
    refine w_goto rfl ?_
    refine w_pfI rfl (s_P hl0) rfl (w_EP hl0) rfl (kk := 4) rfl ?_
    refine w_iload_n rfl rfl ?_
    exact w_zret rfl rfl h.1 h.2
theorem xr_ps_wordHere {d : Nat} {l0 l1 : Int} {m : w_M} {Q : Int → w_M → Prop} (hl0 : w_isP l0) (h : xc_ps_lookAtRow d l0 m (fun r1 m1 => xc_ps_rowIs d l0 l1 m1 (fun r2 m2 => if r2 = 0 then (Q 0 m2) else (Q 1 (w_up m2 l0 4 (m2 l0 12)))))) : xc_ps_wordHere (d + 1) l0 l1 m Q := by
  refine w_enter (q := 0) (lv := [some (2, l0), some (2, l1)]) rfl rfl rfl ?_
  refine w_aload_n rfl rfl ?_
  refine w_callV (t' := 3) [] [] rfl (s_P hl0) rfl rfl ?_
  refine w_C.more (Q := fun r1 m1 => _) h (fun r1 m1 h => ?_)
  replace h := id h
  refine w_aload_n rfl rfl ?_
  refine w_aload_n rfl rfl ?_
  refine w_callV (t' := 0) [(2, l1)] [] rfl (s_P hl0) rfl rfl ?_
  refine w_C.more (Q := fun r2 m2 => _) h (fun r2 m2 h => ?_)
  replace h := id h
  refine w_ifne rfl (w_ite h (fun h => ?_) (fun h => ?_))
  · refine w_iconst rfl (by decide) ?_
    exact w_zret rfl rfl (by decide) h
  · refine w_aload_n rfl rfl ?_
    refine w_aload_n rfl rfl ?_
    refine x_gfI rfl (s_P hl0) rfl (kk := 12) rfl rfl ?_
    refine w_pfI rfl (s_P hl0) rfl (w_EP hl0) rfl (kk := 4) rfl ?_
    refine w_iconst rfl (by decide) ?_
    exact w_zret rfl rfl (by decide) h
