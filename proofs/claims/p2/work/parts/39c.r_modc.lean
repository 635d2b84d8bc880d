/-! ===== regions (printed by program): m_[m-q].* ===== -/
set_option maxRecDepth 100000
theorem xr_m_meet {d : Nat} {l1 l2 l3 : Int} {m : w_M} {Q : Int → w_M → Prop} (h : ((0 : Int) ≤ l1 ∧ l1 < 200) ∧ (if (m 470 l1) = 0 then (((0 : Int) ≤ l1 ∧ l1 < 200) ∧ (if 20 < l3 then (xc_m_fail d 5 l1 (w_up m 470 l1 1) (fun r1 m1 => Q 0 m1)) else (((0 : Int) ≤ l1 ∧ l1 < 200) ∧ (((0 : Int) ≤ l1 ∧ l1 < 200) ∧ (xc_m_entry d ((w_up (w_up m 470 l1 1) 469 l1 l2) 455 l1) 218 (w_up (w_up m 470 l1 1) 469 l1 l2) (fun r2 m2 => xc_m_isName d r2 254 m2 (fun r3 m3 => if r3 = 0 then (if l2 = 0 then (xc_m_fail d 10 l1 m3 (fun r4 m4 => Q 0 m4)) else (xc_m_isName d r2 236 m3 (fun r5 m5 => if r5 = 0 then (xc_m_fail d 10 l1 m5 (fun r6 m6 => Q 0 m6)) else (if l2 = 0 then (xp_m_meet_132 d l1 l3 ((w_up (w_up m 470 l1 1) 469 l1 l2) 455 l1) r3 m5 Q) else (xc_m_rawEntry d ((w_up (w_up m 470 l1 1) 469 l1 l2) 455 l1) 238 m5 (fun r7 m7 => xc_m_dictNumber d r7 m7 (fun r8 m8 => if r8 = l2 then (xp_m_meet_132 d l1 l3 ((w_up (w_up m 470 l1 1) 469 l1 l2) 455 l1) r3 m8 Q) else (xc_m_fail d 10 l1 m8 (fun r9 m9 => Q 0 m9))))))))) else (if l2 = 0 then (xp_m_meet_132 d l1 l3 ((w_up (w_up m 470 l1 1) 469 l1 l2) 455 l1) r3 m3 Q) else (xc_m_rawEntry d ((w_up (w_up m 470 l1 1) 469 l1 l2) 455 l1) 238 m3 (fun r10 m10 => xc_m_dictNumber d r10 m10 (fun r11 m11 => if r11 = l2 then (xp_m_meet_132 d l1 l3 ((w_up (w_up m 470 l1 1) 469 l1 l2) 455 l1) r3 m11 Q) else (xc_m_fail d 10 l1 m11 (fun r12 m12 => Q 0 m12))))))))))))) else (xc_m_fail d 10 l2 m (fun r13 m13 => Q 0 m13)))) : xc_m_meet (d + 1) l1 l2 l3 m Q := by
  refine w_enter (q := 3) (lv := [some (2, 428), some (0, l1), some (0, l2), some (0, l3), none, none, none]) rfl rfl rfl ?_
  refine w_aload_n rfl rfl ?_
  refine w_gfC (c := 470) rfl s_428 rfl rfl ?_
  refine w_iload_n rfl rfl ?_
  refine w_zald rfl s_470 (n := 200) rfl h.1 ?_
  replace h := h.2
  refine w_ifeq rfl (w_ite h (fun h => ?_) (fun h => ?_))
  · refine w_aload_n rfl rfl ?_
    refine w_gfC (c := 470) rfl s_428 rfl rfl ?_
    refine w_iload_n rfl rfl ?_
    refine w_iconst rfl (by decide) ?_
    refine w_zast rfl s_470 (w_EM (by decide)) (n := 200) rfl h.1 (by decide) ?_
    replace h := h.2
    refine w_iload_n rfl rfl ?_
    refine w_bipush rfl (by decide) ?_
    refine w_icle rfl (w_ite h (fun h => ?_) (fun h => ?_))
    · refine w_aload_n rfl rfl ?_
      refine w_iconst rfl (by decide) ?_
      refine w_iload_n rfl rfl ?_
      refine w_callV (t' := 3) [(0, l1), (0, 5)] [] rfl s_428 rfl rfl ?_
      refine w_C.more (Q := fun r1 m1 => _) h (fun r1 m1 h => ?_)
      replace h := id h
      exact w_vret rfl rfl h
    · refine w_aload_n rfl rfl ?_
      refine w_gfC (c := 469) rfl s_428 rfl rfl ?_
      refine w_iload_n rfl rfl ?_
      refine w_iload_n rfl rfl ?_
      refine w_iast rfl s_469 (w_EM (by decide)) (n := 200) rfl h.1 ?_
      replace h := h.2
      refine w_aload_n rfl rfl ?_
      refine w_gfC (c := 455) rfl s_428 rfl rfl ?_
      refine w_iload_n rfl rfl ?_
      refine w_iald rfl s_455 (n := 200) rfl h.1 ?_
      replace h := h.2
      refine w_istore (lv' := [some (2, 428), some (0, l1), some (0, l2), some (0, l3), some (0, (w_up (w_up m 470 l1 1) 469 l1 l2) 455 l1), none, none]) rfl rfl rfl ?_
      refine w_aload_n rfl rfl ?_
      refine w_iload rfl rfl ?_
      refine w_ldcwR rfl ?_
      refine w_callV (t' := 0) [(2, 218), (0, (w_up (w_up m 470 l1 1) 469 l1 l2) 455 l1)] [] rfl s_428 rfl rfl ?_
      refine w_C.more (Q := fun r2 m2 => _) h (fun r2 m2 h => ?_)
      replace h := id h
      refine w_istore (lv' := [some (2, 428), some (0, l1), some (0, l2), some (0, l3), some (0, (w_up (w_up m 470 l1 1) 469 l1 l2) 455 l1), some (0, r2), none]) rfl rfl rfl ?_
      refine w_aload_n rfl rfl ?_
      refine w_iload rfl rfl ?_
      refine w_ldcwR rfl ?_
      refine w_callV (t' := 0) [(2, 254), (0, r2)] [] rfl s_428 rfl rfl ?_
      refine w_C.more (Q := fun r3 m3 => _) h (fun r3 m3 h => ?_)
      replace h := id h
      refine w_istore (lv' := [some (2, 428), some (0, l1), some (0, l2), some (0, l3), some (0, (w_up (w_up m 470 l1 1) 469 l1 l2) 455 l1), some (0, r2), some (0, r3)]) rfl rfl rfl ?_
      refine w_iload rfl rfl ?_
      refine w_ifne rfl (w_ite h (fun h => ?_) (fun h => ?_))
      · refine w_iload_n rfl rfl ?_
        refine w_ifeq rfl (w_ite h (fun h => ?_) (fun h => ?_))
        · refine w_aload_n rfl rfl ?_
          refine w_bipush rfl (by decide) ?_
          refine w_iload_n rfl rfl ?_
          refine w_callV (t' := 3) [(0, l1), (0, 10)] [] rfl s_428 rfl rfl ?_
          refine w_C.more (Q := fun r4 m4 => _) h (fun r4 m4 h => ?_)
          replace h := id h
          exact w_vret rfl rfl h
        · refine w_aload_n rfl rfl ?_
          refine w_iload rfl rfl ?_
          refine w_ldcwR rfl ?_
          refine w_callV (t' := 0) [(2, 236), (0, r2)] [] rfl s_428 rfl rfl ?_
          refine w_C.more (Q := fun r5 m5 => _) h (fun r5 m5 h => ?_)
          replace h := id h
          refine w_ifne rfl (w_ite h (fun h => ?_) (fun h => ?_))
          · refine w_aload_n rfl rfl ?_
            refine w_bipush rfl (by decide) ?_
            refine w_iload_n rfl rfl ?_
            refine w_callV (t' := 3) [(0, l1), (0, 10)] [] rfl s_428 rfl rfl ?_
            refine w_C.more (Q := fun r6 m6 => _) h (fun r6 m6 h => ?_)
            replace h := id h
            exact w_vret rfl rfl h
          · refine w_iload_n rfl rfl ?_
            refine w_ifeq rfl (w_ite h (fun h => ?_) (fun h => ?_))
            · exact w_W.less h (w_sub [true, true, false, true, true, false, true] rfl)
            · refine w_aload_n rfl rfl ?_
              refine w_aload_n rfl rfl ?_
              refine w_iload rfl rfl ?_
              refine w_ldcwR rfl ?_
              refine w_callV (t' := 0) [(2, 238), (0, (w_up (w_up m 470 l1 1) 469 l1 l2) 455 l1)] [(2, 428)] rfl s_428 rfl rfl ?_
              refine w_C.more (Q := fun r7 m7 => _) h (fun r7 m7 h => ?_)
              replace h := id h
              refine w_callV (t' := 0) [(0, r7)] [] rfl s_428 rfl rfl ?_
              refine w_C.more (Q := fun r8 m8 => _) h (fun r8 m8 h => ?_)
              replace h := id h
              refine w_iload_n rfl rfl ?_
              refine w_iceq rfl (w_ite h (fun h => ?_) (fun h => ?_))
              · exact w_W.less h (w_sub [true, true, false, true, true, false, true] rfl)
              · refine w_aload_n rfl rfl ?_
                refine w_bipush rfl (by decide) ?_
                refine w_iload_n rfl rfl ?_
                refine w_callV (t' := 3) [(0, l1), (0, 10)] [] rfl s_428 rfl rfl ?_
                refine w_C.more (Q := fun r9 m9 => _) h (fun r9 m9 h => ?_)
                replace h := id h
                exact w_vret rfl rfl h
      · refine w_iload_n rfl rfl ?_
        refine w_ifeq rfl (w_ite h (fun h => ?_) (fun h => ?_))
        · exact w_W.less h (w_sub [true, true, false, true, true, false, true] rfl)
        · refine w_aload_n rfl rfl ?_
          refine w_aload_n rfl rfl ?_
          refine w_iload rfl rfl ?_
          refine w_ldcwR rfl ?_
          refine w_callV (t' := 0) [(2, 238), (0, (w_up (w_up m 470 l1 1) 469 l1 l2) 455 l1)] [(2, 428)] rfl s_428 rfl rfl ?_
          refine w_C.more (Q := fun r10 m10 => _) h (fun r10 m10 h => ?_)
          replace h := id h
          refine w_callV (t' := 0) [(0, r10)] [] rfl s_428 rfl rfl ?_
          refine w_C.more (Q := fun r11 m11 => _) h (fun r11 m11 h => ?_)
          replace h := id h
          refine w_iload_n rfl rfl ?_
          refine w_iceq rfl (w_ite h (fun h => ?_) (fun h => ?_))
          · exact w_W.less h (w_sub [true, true, false, true, true, false, true] rfl)
          · refine w_aload_n rfl rfl ?_
            refine w_bipush rfl (by decide) ?_
            refine w_iload_n rfl rfl ?_
            refine w_callV (t' := 3) [(0, l1), (0, 10)] [] rfl s_428 rfl rfl ?_
            refine w_C.more (Q := fun r12 m12 => _) h (fun r12 m12 h => ?_)
            replace h := id h
            exact w_vret rfl rfl h
  · refine w_aload_n rfl rfl ?_
    refine w_bipush rfl (by decide) ?_
    refine w_iload_n rfl rfl ?_
    refine w_callV (t' := 3) [(0, l2), (0, 10)] [] rfl s_428 rfl rfl ?_
    refine w_C.more (Q := fun r13 m13 => _) h (fun r13 m13 h => ?_)
    replace h := id h
    exact w_vret rfl rfl h
theorem xr_m_meet_132 {d : Nat} {l1 l3 l4 l6 : Int} {m : w_M} {Q : Int → w_M → Prop} (h : xc_m_ownsRight d l4 m (fun r1 m1 => if r1 = 0 then (xc_m_fail d 10 l1 m1 (fun r2 m2 => Q 0 m2)) else (if l6 = 0 then (xc_m_meetPage d l1 l4 m1 (fun r3 m3 => Q 0 m3)) else (xc_m_meetNode d l1 l4 l3 m1 (fun r4 m4 => Q 0 m4))))) : xp_m_meet_132 d l1 l3 l4 l6 m Q := by
  refine w_aload_n rfl rfl ?_
  refine w_iload rfl rfl ?_
  refine w_callV (t' := 0) [(0, l4)] [] rfl s_428 rfl rfl ?_
  refine w_C.more (Q := fun r1 m1 => _) h (fun r1 m1 h => ?_)
  replace h := id h
  refine w_ifne rfl (w_ite h (fun h => ?_) (fun h => ?_))
  · refine w_aload_n rfl rfl ?_
    refine w_bipush rfl (by decide) ?_
    refine w_iload_n rfl rfl ?_
    refine w_callV (t' := 3) [(0, l1), (0, 10)] [] rfl s_428 rfl rfl ?_
    refine w_C.more (Q := fun r2 m2 => _) h (fun r2 m2 h => ?_)
    replace h := id h
    exact w_vret rfl rfl h
  · refine w_iload rfl rfl ?_
    refine w_ifeq rfl (w_ite h (fun h => ?_) (fun h => ?_))
    · refine w_aload_n rfl rfl ?_
      refine w_iload_n rfl rfl ?_
      refine w_iload rfl rfl ?_
      refine w_callV (t' := 3) [(0, l4), (0, l1)] [] rfl s_428 rfl rfl ?_
      refine w_C.more (Q := fun r3 m3 => _) h (fun r3 m3 h => ?_)
      replace h := id h
      exact w_vret rfl rfl h
    · refine w_aload_n rfl rfl ?_
      refine w_iload_n rfl rfl ?_
      refine w_iload rfl rfl ?_
      refine w_iload_n rfl rfl ?_
      refine w_callV (t' := 3) [(0, l3), (0, l4), (0, l1)] [] rfl s_428 rfl rfl ?_
      refine w_C.more (Q := fun r4 m4 => _) h (fun r4 m4 h => ?_)
      replace h := id h
      refine w_goto rfl ?_
      exact w_vret rfl rfl h
theorem xr_m_meetNode {d : Nat} {l1 l2 l3 : Int} {m : w_M} {Q : Int → w_M → Prop} (h : xc_m_entry d l2 246 m (fun r1 m1 => if r1 < 0 then (xc_m_fail d 10 l1 m1 (fun r2 m2 => Q 0 m2)) else (((0 : Int) ≤ r1 ∧ r1 < 40000) ∧ (if (m1 432 r1) = 6 then (((0 : Int) ≤ r1 ∧ r1 < 40000) ∧ (xp_m_meetNode_50 d l1 l2 l3 (m1 428 84) (m1 436 r1) m1 Q)) else (xc_m_fail d 10 l1 m1 (fun r3 m3 => Q 0 m3)))))) : xc_m_meetNode (d + 1) l1 l2 l3 m Q := by
  refine w_enter (q := 4) (lv := [some (2, 428), some (0, l1), some (0, l2), some (0, l3), none, none, none, none]) rfl rfl rfl ?_
  refine w_aload_n rfl rfl ?_
  refine w_iload_n rfl rfl ?_
  refine w_ldcwR rfl ?_
  refine w_callV (t' := 0) [(2, 246), (0, l2)] [] rfl s_428 rfl rfl ?_
  refine w_C.more (Q := fun r1 m1 => _) h (fun r1 m1 h => ?_)
  replace h := id h
  refine w_istore (lv' := [some (2, 428), some (0, l1), some (0, l2), some (0, l3), some (0, r1), none, none, none]) rfl rfl rfl ?_
  refine w_iload rfl rfl ?_
  refine w_iflt rfl (w_ite h (fun h => ?_) (fun h => ?_))
  · refine w_aload_n rfl rfl ?_
    refine w_bipush rfl (by decide) ?_
    refine w_iload_n rfl rfl ?_
    refine w_callV (t' := 3) [(0, l1), (0, 10)] [] rfl s_428 rfl rfl ?_
    refine w_C.more (Q := fun r2 m2 => _) h (fun r2 m2 h => ?_)
    replace h := id h
    exact w_vret rfl rfl h
  · refine w_aload_n rfl rfl ?_
    refine w_gfC (c := 432) rfl s_428 rfl rfl ?_
    refine w_iload rfl rfl ?_
    refine w_bald rfl s_432 (n := 40000) rfl h.1 ?_
    replace h := h.2
    refine w_bipush rfl (by decide) ?_
    refine w_iceq rfl (w_ite h (fun h => ?_) (fun h => ?_))
    · refine w_aload_n rfl rfl ?_
      refine x_gfI rfl s_428 rfl (kk := 84) rfl rfl ?_
      refine w_istore (lv' := [some (2, 428), some (0, l1), some (0, l2), some (0, l3), some (0, r1), some (0, m1 428 84), none, none]) rfl rfl rfl ?_
      refine w_aload_n rfl rfl ?_
      refine w_gfC (c := 436) rfl s_428 rfl rfl ?_
      refine w_iload rfl rfl ?_
      refine w_iald rfl s_436 (n := 40000) rfl h.1 ?_
      replace h := h.2
      refine w_istore (lv' := [some (2, 428), some (0, l1), some (0, l2), some (0, l3), some (0, r1), some (0, m1 428 84), some (0, m1 436 r1), none]) rfl rfl rfl ?_
      exact w_W.less h (w_sub [true, true, true, true, false, true, true, false] rfl)
    · refine w_aload_n rfl rfl ?_
      refine w_bipush rfl (by decide) ?_
      refine w_iload_n rfl rfl ?_
      refine w_callV (t' := 3) [(0, l1), (0, 10)] [] rfl s_428 rfl rfl ?_
      refine w_C.more (Q := fun r3 m3 => _) h (fun r3 m3 h => ?_)
      replace h := id h
      exact w_vret rfl rfl h
theorem xr_m_meetNode_50 {d : Nat} {l1 l2 l3 l5 l6 : Int} {m : w_M} {Q : Int → w_M → Prop} (h : if l6 < 0 then (xp_m_meetNode_107 d l1 l2 l5 m Q) else (xc_m_good d m (fun r1 m1 => if r1 = 0 then (xp_m_meetNode_107 d l1 l2 l5 m1 Q) else (xc_m_dictNumber d l6 m1 (fun r2 m2 => if r2 = 0 then (xc_m_fail d 10 l1 m2 (fun r3 m3 => ((0 : Int) ≤ l6 ∧ l6 < 40000) ∧ (xp_m_meetNode_50 d l1 l2 l3 l5 (m3 437 l6) m3 Q))) else (xc_m_meet d r2 l1 (w_32 (l3 + 1)) m2 (fun r4 m4 => ((0 : Int) ≤ l6 ∧ l6 < 40000) ∧ (xp_m_meetNode_50 d l1 l2 l3 l5 (m4 437 l6) m4 Q)))))))) : xp_m_meetNode_50 d l1 l2 l3 l5 l6 m Q := by
  refine w_iload rfl rfl ?_
  refine w_iflt rfl (w_ite h (fun h => ?_) (fun h => ?_))
  · exact w_W.less h (w_sub [true, true, true, false, false, true, false, false] rfl)
  · refine w_aload_n rfl rfl ?_
    refine w_callV (t' := 0) [] [] rfl s_428 rfl rfl ?_
    refine w_C.more (Q := fun r1 m1 => _) h (fun r1 m1 h => ?_)
    replace h := id h
    refine w_ifeq rfl (w_ite h (fun h => ?_) (fun h => ?_))
    · exact w_W.less h (w_sub [true, true, true, false, false, true, false, false] rfl)
    · refine w_aload_n rfl rfl ?_
      refine w_iload rfl rfl ?_
      refine w_callV (t' := 0) [(0, l6)] [] rfl s_428 rfl rfl ?_
      refine w_C.more (Q := fun r2 m2 => _) h (fun r2 m2 h => ?_)
      replace h := id h
      refine w_istore (lv' := [some (2, 428), some (0, l1), some (0, l2), some (0, l3), none, some (0, l5), some (0, l6), some (0, r2)]) rfl rfl rfl ?_
      refine w_iload rfl rfl ?_
      refine w_ifne rfl (w_ite h (fun h => ?_) (fun h => ?_))
      · refine w_aload_n rfl rfl ?_
        refine w_bipush rfl (by decide) ?_
        refine w_iload_n rfl rfl ?_
        refine w_callV (t' := 3) [(0, l1), (0, 10)] [] rfl s_428 rfl rfl ?_
        refine w_C.more (Q := fun r3 m3 => _) h (fun r3 m3 h => ?_)
        replace h := id h
        refine w_goto rfl ?_
        refine w_aload_n rfl rfl ?_
        refine w_gfC (c := 437) rfl s_428 rfl rfl ?_
        refine w_iload rfl rfl ?_
        refine w_iald rfl s_437 (n := 40000) rfl h.1 ?_
        replace h := h.2
        refine w_istore (lv' := [some (2, 428), some (0, l1), some (0, l2), some (0, l3), none, some (0, l5), some (0, m3 437 l6), some (0, r2)]) rfl rfl rfl ?_
        refine w_goto rfl ?_
        exact w_W.less h (w_sub [true, true, true, true, false, true, true, false] rfl)
      · refine w_aload_n rfl rfl ?_
        refine w_iload rfl rfl ?_
        refine w_iload_n rfl rfl ?_
        refine w_iload_n rfl rfl ?_
        refine w_iconst rfl (by decide) ?_
        refine w_iadd rfl ?_
        refine w_callV (t' := 3) [(0, w_32 (l3 + 1)), (0, l1), (0, r2)] [] rfl s_428 rfl rfl ?_
        refine w_C.more (Q := fun r4 m4 => _) h (fun r4 m4 h => ?_)
        replace h := id h
        refine w_aload_n rfl rfl ?_
        refine w_gfC (c := 437) rfl s_428 rfl rfl ?_
        refine w_iload rfl rfl ?_
        refine w_iald rfl s_437 (n := 40000) rfl h.1 ?_
        replace h := h.2
        refine w_istore (lv' := [some (2, 428), some (0, l1), some (0, l2), some (0, l3), none, some (0, l5), some (0, m4 437 l6), some (0, r2)]) rfl rfl rfl ?_
        refine w_goto rfl ?_
        exact w_W.less h (w_sub [true, true, true, true, false, true, true, false] rfl)
theorem xr_m_meetNode_107 {d : Nat} {l1 l2 l5 : Int} {m : w_M} {Q : Int → w_M → Prop} (h : xc_m_good d m (fun r1 m1 => if r1 = 0 then (Q 0 m1) else (xc_m_entry d l2 190 m1 (fun r2 m2 => if r2 < 0 then (xc_m_fail d 10 l1 m2 (fun r3 m3 => Q 0 m3)) else (((0 : Int) ≤ r2 ∧ r2 < 40000) ∧ (if (m2 432 r2) = 2 then (((0 : Int) ≤ r2 ∧ r2 < 40000) ∧ (if (m2 433 r2) = (w_32 ((m2 428 84) - l5)) then (Q 0 m2) else (xc_m_fail d 10 l1 m2 (fun r4 m4 => Q 0 m4)))) else (xc_m_fail d 10 l1 m2 (fun r5 m5 => Q 0 m5)))))))) : xp_m_meetNode_107 d l1 l2 l5 m Q := by
  refine w_aload_n rfl rfl ?_
  refine w_callV (t' := 0) [] [] rfl s_428 rfl rfl ?_
  refine w_C.more (Q := fun r1 m1 => _) h (fun r1 m1 h => ?_)
  replace h := id h
  refine w_ifne rfl (w_ite h (fun h => ?_) (fun h => ?_))
  · exact w_vret rfl rfl h
  · refine w_aload_n rfl rfl ?_
    refine w_iload_n rfl rfl ?_
    refine w_ldcwR rfl ?_
    refine w_callV (t' := 0) [(2, 190), (0, l2)] [] rfl s_428 rfl rfl ?_
    refine w_C.more (Q := fun r2 m2 => _) h (fun r2 m2 h => ?_)
    replace h := id h
    refine w_istore (lv' := [some (2, 428), some (0, l1), some (0, l2), none, none, some (0, l5), some (0, r2), none]) rfl rfl rfl ?_
    refine w_iload rfl rfl ?_
    refine w_iflt rfl (w_ite h (fun h => ?_) (fun h => ?_))
    · refine w_aload_n rfl rfl ?_
      refine w_bipush rfl (by decide) ?_
      refine w_iload_n rfl rfl ?_
      refine w_callV (t' := 3) [(0, l1), (0, 10)] [] rfl s_428 rfl rfl ?_
      refine w_C.more (Q := fun r3 m3 => _) h (fun r3 m3 h => ?_)
      replace h := id h
      exact w_vret rfl rfl h
    · refine w_aload_n rfl rfl ?_
      refine w_gfC (c := 432) rfl s_428 rfl rfl ?_
      refine w_iload rfl rfl ?_
      refine w_bald rfl s_432 (n := 40000) rfl h.1 ?_
      replace h := h.2
      refine w_iconst rfl (by decide) ?_
      refine w_icne rfl (w_ite h (fun h => ?_) (fun h => ?_))
      · refine w_aload_n rfl rfl ?_
        refine w_gfC (c := 433) rfl s_428 rfl rfl ?_
        refine w_iload rfl rfl ?_
        refine w_iald rfl s_433 (n := 40000) rfl h.1 ?_
        replace h := h.2
        refine w_aload_n rfl rfl ?_
        refine x_gfI rfl s_428 rfl (kk := 84) rfl rfl ?_
        refine w_iload rfl rfl ?_
        refine w_isub rfl ?_
        refine w_iceq rfl (w_ite h (fun h => ?_) (fun h => ?_))
        · exact w_vret rfl rfl h
        · refine w_aload_n rfl rfl ?_
          refine w_bipush rfl (by decide) ?_
          refine w_iload_n rfl rfl ?_
          refine w_callV (t' := 3) [(0, l1), (0, 10)] [] rfl s_428 rfl rfl ?_
          refine w_C.more (Q := fun r4 m4 => _) h (fun r4 m4 h => ?_)
          replace h := id h
          exact w_vret rfl rfl h
      · refine w_aload_n rfl rfl ?_
        refine w_bipush rfl (by decide) ?_
        refine w_iload_n rfl rfl ?_
        refine w_callV (t' := 3) [(0, l1), (0, 10)] [] rfl s_428 rfl rfl ?_
        refine w_C.more (Q := fun r5 m5 => _) h (fun r5 m5 h => ?_)
        replace h := id h
        exact w_vret rfl rfl h
theorem xr_m_meetPage {d : Nat} {l1 l2 : Int} {m : w_M} {Q : Int → w_M → Prop} (h : xc_m_inherited d l1 240 m (fun r1 m1 => if r1 < 0 then (xc_m_fail d 10 l1 m1 (fun r2 m2 => Q 0 m2)) else (xc_m_contentsOf d l1 m1 (fun r3 m3 => if r3 < 0 then (xc_m_fail d 10 l1 m3 (fun r4 m4 => Q 0 m4)) else (if 40000 < r3 then (xc_m_fail d 5 l1 m3 (fun r5 m5 => Q 0 m5)) else (if (m3 428 84) = 60 then (xc_m_fail d 5 l1 m3 (fun r6 m6 => Q 0 m6)) else (((0 : Int) ≤ (m3 428 84) ∧ (m3 428 84) < 61) ∧ (Q 0 (w_up (w_up m3 468 (m3 428 84) l1) 428 84 (w_32 ((m3 428 84) + 1))))))))))) : xc_m_meetPage (d + 1) l1 l2 m Q := by
  refine w_enter (q := 1) (lv := [some (2, 428), some (0, l1), some (0, l2), none]) rfl rfl rfl ?_
  refine w_aload_n rfl rfl ?_
  refine w_iload_n rfl rfl ?_
  refine w_ldcwR rfl ?_
  refine w_callV (t' := 0) [(2, 240), (0, l1)] [] rfl s_428 rfl rfl ?_
  refine w_C.more (Q := fun r1 m1 => _) h (fun r1 m1 h => ?_)
  replace h := id h
  refine w_ifge rfl (w_ite h (fun h => ?_) (fun h => ?_))
  · refine w_aload_n rfl rfl ?_
    refine w_bipush rfl (by decide) ?_
    refine w_iload_n rfl rfl ?_
    refine w_callV (t' := 3) [(0, l1), (0, 10)] [] rfl s_428 rfl rfl ?_
    refine w_C.more (Q := fun r2 m2 => _) h (fun r2 m2 h => ?_)
    replace h := id h
    exact w_vret rfl rfl h
  · refine w_aload_n rfl rfl ?_
    refine w_iload_n rfl rfl ?_
    refine w_callV (t' := 0) [(0, l1)] [] rfl s_428 rfl rfl ?_
    refine w_C.more (Q := fun r3 m3 => _) h (fun r3 m3 h => ?_)
    replace h := id h
    refine w_istore_n (lv' := [some (2, 428), some (0, l1), some (0, l2), some (0, r3)]) rfl rfl rfl ?_
    refine w_iload_n rfl rfl ?_
    refine w_ifge rfl (w_ite h (fun h => ?_) (fun h => ?_))
    · refine w_aload_n rfl rfl ?_
      refine w_bipush rfl (by decide) ?_
      refine w_iload_n rfl rfl ?_
      refine w_callV (t' := 3) [(0, l1), (0, 10)] [] rfl s_428 rfl rfl ?_
      refine w_C.more (Q := fun r4 m4 => _) h (fun r4 m4 h => ?_)
      replace h := id h
      refine w_goto rfl ?_
      exact w_vret rfl rfl h
    · refine w_iload_n rfl rfl ?_
      refine w_ldc (a := 40000) rfl (by decide +kernel) (by decide) ?_
      refine w_icgt rfl (w_ite h (fun h => ?_) (fun h => ?_))
      · refine w_aload_n rfl rfl ?_
        refine w_iconst rfl (by decide) ?_
        refine w_iload_n rfl rfl ?_
        refine w_callV (t' := 3) [(0, l1), (0, 5)] [] rfl s_428 rfl rfl ?_
        refine w_C.more (Q := fun r5 m5 => _) h (fun r5 m5 h => ?_)
        replace h := id h
        refine w_goto rfl ?_
        exact w_vret rfl rfl h
      · refine w_aload_n rfl rfl ?_
        refine x_gfI rfl s_428 rfl (kk := 84) rfl rfl ?_
        refine w_bipush rfl (by decide) ?_
        refine w_icne rfl (w_ite h (fun h => ?_) (fun h => ?_))
        · refine w_aload_n rfl rfl ?_
          refine w_iconst rfl (by decide) ?_
          refine w_iload_n rfl rfl ?_
          refine w_callV (t' := 3) [(0, l1), (0, 5)] [] rfl s_428 rfl rfl ?_
          refine w_C.more (Q := fun r6 m6 => _) h (fun r6 m6 h => ?_)
          replace h := id h
          refine w_goto rfl ?_
          exact w_vret rfl rfl h
        · refine w_aload_n rfl rfl ?_
          refine w_gfC (c := 468) rfl s_428 rfl rfl ?_
          refine w_aload_n rfl rfl ?_
          refine x_gfI rfl s_428 rfl (kk := 84) rfl rfl ?_
          refine w_iload_n rfl rfl ?_
          refine w_iast rfl s_468 (w_EM (by decide)) (n := 61) rfl h.1 ?_
          replace h := h.2
          refine w_aload_n rfl rfl ?_
          refine w_dup rfl (show (2 : Nat) ≠ 1 by decide) ?_
          refine x_gfI rfl s_428 rfl (kk := 84) rfl (w_up_ne (by decide)) ?_
          refine w_iconst rfl (by decide) ?_
          refine w_iadd rfl ?_
          refine w_pfI rfl s_428 rfl (w_EM (by decide)) rfl (kk := 84) rfl ?_
          exact w_vret rfl rfl h
theorem xr_m_more {d : Nat} {m : w_M} {Q : Int → w_M → Prop} (h : if (m 428 6) = 0 then (Q (-1) (w_up m 428 5 0)) else (if (m 428 63) = 0 then (xp_m_more_38 d 0 (w_up (w_up m 428 5 0) 428 109 0) Q) else (xc_m_nextNumber d (w_up m 428 5 0) (fun r1 m1 => if r1 = 200 then (Q (-1) m1) else (xp_m_more_38 d 0 (w_up m1 428 109 0) Q))))) : xc_m_more (d + 1) m Q := by
  refine w_enter (q := 1) (lv := [some (2, 428), none]) rfl rfl rfl ?_
  refine w_aload_n rfl rfl ?_
  refine w_iconst rfl (by decide) ?_
  refine w_pfI rfl s_428 rfl (w_EM (by decide)) rfl (kk := 5) rfl ?_
  refine w_aload_n rfl rfl ?_
  refine x_gfZ rfl s_428 rfl (kk := 6) rfl (w_up_nb (by decide)) ?_
  refine w_ifeq rfl (w_ite h (fun h => ?_) (fun h => ?_))
  · refine w_iconst rfl (by decide) ?_
    exact w_iret rfl rfl h
  · refine w_aload_n rfl rfl ?_
    refine x_gfZ rfl s_428 rfl (kk := 63) rfl (w_up_nb (by decide)) ?_
    refine w_ifeq rfl (w_ite h (fun h => ?_) (fun h => ?_))
    · refine w_aload_n rfl rfl ?_
      refine w_iconst rfl (by decide) ?_
      refine w_pfZ rfl s_428 rfl (w_EM (by decide)) rfl (kk := 109) rfl (by decide) ?_
      refine w_iconst rfl (by decide) ?_
      refine w_istore_n (lv' := [some (2, 428), some (0, 0)]) rfl rfl rfl ?_
      exact w_W.less h (w_sub [true, true] rfl)
    · refine w_aload_n rfl rfl ?_
      refine w_callV (t' := 0) [] [] rfl s_428 rfl rfl ?_
      refine w_C.more (Q := fun r1 m1 => _) h (fun r1 m1 h => ?_)
      replace h := id h
      refine w_sipush rfl (by decide) ?_
      refine w_icne rfl (w_ite h (fun h => ?_) (fun h => ?_))
      · refine w_iconst rfl (by decide) ?_
        exact w_iret rfl rfl h
      · refine w_aload_n rfl rfl ?_
        refine w_iconst rfl (by decide) ?_
        refine w_pfZ rfl s_428 rfl (w_EM (by decide)) rfl (kk := 109) rfl (by decide) ?_
        refine w_iconst rfl (by decide) ?_
        refine w_istore_n (lv' := [some (2, 428), some (0, 0)]) rfl rfl rfl ?_
        exact w_W.less h (w_sub [true, true] rfl)
theorem xr_m_more_38 {d : Nat} {l1 : Int} {m : w_M} {Q : Int → w_M → Prop} (h : if l1 < (m 428 3) then (((0 : Int) ≤ l1 ∧ l1 < 8000) ∧ (xc_m_say d (m 430 l1) m (fun r1 m1 => xp_m_more_38 d (w_32 (l1 + 1)) m1 Q))) else (if 0 < (m 428 3) then (((0 : Int) ≤ (w_32 ((m 428 3) - 1)) ∧ (w_32 ((m 428 3) - 1)) < 8000) ∧ (if (m 430 (w_32 ((m 428 3) - 1))) = 10 then (xp_m_more_93 d 0 m Q) else (xc_m_say d 10 m (fun r2 m2 => xp_m_more_93 d 0 m2 Q)))) else (xp_m_more_93 d 0 m Q))) : xp_m_more_38 d l1 m Q := by
  refine w_iload_n rfl rfl ?_
  refine w_aload_n rfl rfl ?_
  refine x_gfI rfl s_428 rfl (kk := 3) rfl rfl ?_
  refine w_icge rfl (w_ite h (fun h => ?_) (fun h => ?_))
  · refine w_aload_n rfl rfl ?_
    refine w_aload_n rfl rfl ?_
    refine w_gfC (c := 430) rfl s_428 rfl rfl ?_
    refine w_iload_n rfl rfl ?_
    refine w_bald rfl s_430 (n := 8000) rfl h.1 ?_
    replace h := h.2
    refine w_callV (t' := 3) [(0, m 430 l1)] [] rfl s_428 rfl rfl ?_
    refine w_C.more (Q := fun r1 m1 => _) h (fun r1 m1 h => ?_)
    replace h := id h
    refine w_iinc (lv' := [some (2, 428), some (0, w_32 (l1 + 1))]) rfl rfl rfl rfl ?_
    refine w_goto rfl ?_
    exact w_W.less h (w_sub [true, true] rfl)
  · refine w_aload_n rfl rfl ?_
    refine x_gfI rfl s_428 rfl (kk := 3) rfl rfl ?_
    refine w_ifle rfl (w_ite h (fun h => ?_) (fun h => ?_))
    · refine w_aload_n rfl rfl ?_
      refine w_gfC (c := 430) rfl s_428 rfl rfl ?_
      refine w_aload_n rfl rfl ?_
      refine x_gfI rfl s_428 rfl (kk := 3) rfl rfl ?_
      refine w_iconst rfl (by decide) ?_
      refine w_isub rfl ?_
      refine w_bald rfl s_430 (n := 8000) rfl h.1 ?_
      replace h := h.2
      refine w_bipush rfl (by decide) ?_
      refine w_iceq rfl (w_ite h (fun h => ?_) (fun h => ?_))
      · refine w_iconst rfl (by decide) ?_
        refine w_istore_n (lv' := [some (2, 428), some (0, 0)]) rfl rfl rfl ?_
        exact w_W.less h (w_sub [true, true] rfl)
      · refine w_aload_n rfl rfl ?_
        refine w_bipush rfl (by decide) ?_
        refine w_callV (t' := 3) [(0, 10)] [] rfl s_428 rfl rfl ?_
        refine w_C.more (Q := fun r2 m2 => _) h (fun r2 m2 h => ?_)
        replace h := id h
        refine w_iconst rfl (by decide) ?_
        refine w_istore_n (lv' := [some (2, 428), some (0, 0)]) rfl rfl rfl ?_
        exact w_W.less h (w_sub [true, true] rfl)
    · refine w_iconst rfl (by decide) ?_
      refine w_istore_n (lv' := [some (2, 428), some (0, 0)]) rfl rfl rfl ?_
      exact w_W.less h (w_sub [true, true] rfl)
theorem xr_m_more_93 {d : Nat} {l1 : Int} {m : w_M} {Q : Int → w_M → Prop} (h : if l1 < (m 428 60) then (((0 : Int) ≤ l1 ∧ l1 < 200) ∧ (if (m 460 l1) = 0 then (xp_m_more_93 d (w_32 (l1 + 1)) m Q) else (((0 : Int) ≤ l1 ∧ l1 < 201) ∧ (xc_m_generationOf d l1 (w_up m 485 l1 (m 428 5)) (fun r1 m1 => xc_m_numbered d l1 l1 r1 m1 (fun r2 m2 => xp_m_more_93 d (w_32 (l1 + 1)) m2 Q)))))) else (if (m 428 63) = 0 then (xc_m_tableSection d m (fun r3 m3 => xc_m_finish d (m 428 5) m3 (fun r4 m4 => Q r4 m4))) else (xc_m_rowSection d (m 428 5) m (fun r5 m5 => xc_m_finish d (m 428 5) m5 (fun r6 m6 => Q r6 m6))))) : xp_m_more_93 d l1 m Q := by
  refine w_iload_n rfl rfl ?_
  refine w_aload_n rfl rfl ?_
  refine x_gfI rfl s_428 rfl (kk := 60) rfl rfl ?_
  refine w_icge rfl (w_ite h (fun h => ?_) (fun h => ?_))
  · refine w_aload_n rfl rfl ?_
    refine w_gfC (c := 460) rfl s_428 rfl rfl ?_
    refine w_iload_n rfl rfl ?_
    refine w_zald rfl s_460 (n := 200) rfl h.1 ?_
    replace h := h.2
    refine w_ifeq rfl (w_ite h (fun h => ?_) (fun h => ?_))
    · refine w_iinc (lv' := [some (2, 428), some (0, w_32 (l1 + 1))]) rfl rfl rfl rfl ?_
      refine w_goto rfl ?_
      exact w_W.less h (w_sub [true, true] rfl)
    · refine w_aload_n rfl rfl ?_
      refine w_gfC (c := 485) rfl s_428 rfl rfl ?_
      refine w_iload_n rfl rfl ?_
      refine w_aload_n rfl rfl ?_
      refine x_gfI rfl s_428 rfl (kk := 5) rfl rfl ?_
      refine w_iast rfl s_485 (w_EM (by decide)) (n := 201) rfl h.1 ?_
      replace h := h.2
      refine w_aload_n rfl rfl ?_
      refine w_iload_n rfl rfl ?_
      refine w_iload_n rfl rfl ?_
      refine w_aload_n rfl rfl ?_
      refine w_iload_n rfl rfl ?_
      refine w_callV (t' := 1) [(0, l1)] [(0, l1), (0, l1), (2, 428)] rfl s_428 rfl rfl ?_
      refine w_C.more (Q := fun r1 m1 => _) h (fun r1 m1 h => ?_)
      replace h := id h
      refine w_callV (t' := 3) [(1, r1), (0, l1), (0, l1)] [] rfl s_428 rfl rfl ?_
      refine w_C.more (Q := fun r2 m2 => _) h (fun r2 m2 h => ?_)
      replace h := id h
      refine w_iinc (lv' := [some (2, 428), some (0, w_32 (l1 + 1))]) rfl rfl rfl rfl ?_
      refine w_goto rfl ?_
      exact w_W.less h (w_sub [true, true] rfl)
  · refine w_aload_n rfl rfl ?_
    refine x_gfI rfl s_428 rfl (kk := 5) rfl rfl ?_
    refine w_istore_n (lv' := [some (2, 428), some (0, m 428 5)]) rfl rfl rfl ?_
    refine w_aload_n rfl rfl ?_
    refine x_gfZ rfl s_428 rfl (kk := 63) rfl rfl ?_
    refine w_ifeq rfl (w_ite h (fun h => ?_) (fun h => ?_))
    · refine w_aload_n rfl rfl ?_
      refine w_callV (t' := 3) [] [] rfl s_428 rfl rfl ?_
      refine w_C.more (Q := fun r3 m3 => _) h (fun r3 m3 h => ?_)
      replace h := id h
      refine w_aload_n rfl rfl ?_
      refine w_iload_n rfl rfl ?_
      refine w_callV (t' := 0) [(0, m 428 5)] [] rfl s_428 rfl rfl ?_
      refine w_C.more (Q := fun r4 m4 => _) h (fun r4 m4 h => ?_)
      replace h := id h
      exact w_iret rfl rfl h
    · refine w_aload_n rfl rfl ?_
      refine w_iload_n rfl rfl ?_
      refine w_callV (t' := 3) [(0, m 428 5)] [] rfl s_428 rfl rfl ?_
      refine w_C.more (Q := fun r5 m5 => _) h (fun r5 m5 h => ?_)
      replace h := id h
      refine w_goto rfl ?_
      refine w_aload_n rfl rfl ?_
      refine w_iload_n rfl rfl ?_
      refine w_callV (t' := 0) [(0, m 428 5)] [] rfl s_428 rfl rfl ?_
      refine w_C.more (Q := fun r6 m6 => _) h (fun r6 m6 h => ?_)
      replace h := id h
      exact w_iret rfl rfl h
theorem xr_m_move {d : Nat} {l1 l2 : Int} {m : w_M} {Q : Int → w_M → Prop} (h : xc_m_isPage d l1 m (fun r1 m1 => if r1 = 0 then (Q (-1) m1) else (if l2 < 0 then (Q (-1) m1) else (if (w_32 ((m1 428 84) - 1)) < l2 then (Q (-1) m1) else (((0 : Int) ≤ l1 ∧ l1 < 61) ∧ (xc_m_takeOver d (m1 468 l1) 240 m1 (fun r2 m2 => xc_m_takeOver d (m1 468 l1) 256 m2 (fun r3 m3 => xc_m_takeOver d (m1 468 l1) 258 m3 (fun r4 m4 => xc_m_takeOut d l1 m4 (fun r5 m5 => xc_m_put2 d (m1 468 l1) l2 r5 m5 (fun r6 m6 => Q (m1 468 l1) m6))))))))))) : xc_m_move (d + 1) l1 l2 m Q := by
  refine w_enter (q := 2) (lv := [some (2, 428), some (0, l1), some (0, l2), none, none]) rfl rfl rfl ?_
  refine w_aload_n rfl rfl ?_
  refine w_iload_n rfl rfl ?_
  refine w_callV (t' := 0) [(0, l1)] [] rfl s_428 rfl rfl ?_
  refine w_C.more (Q := fun r1 m1 => _) h (fun r1 m1 h => ?_)
  replace h := id h
  refine w_ifeq rfl (w_ite h (fun h => ?_) (fun h => ?_))
  · refine w_iconst rfl (by decide) ?_
    exact w_iret rfl rfl h
  · refine w_iload_n rfl rfl ?_
    refine w_iflt rfl (w_ite h (fun h => ?_) (fun h => ?_))
    · refine w_iconst rfl (by decide) ?_
      exact w_iret rfl rfl h
    · refine w_iload_n rfl rfl ?_
      refine w_aload_n rfl rfl ?_
      refine x_gfI rfl s_428 rfl (kk := 84) rfl rfl ?_
      refine w_iconst rfl (by decide) ?_
      refine w_isub rfl ?_
      refine w_icle rfl (w_ite h (fun h => ?_) (fun h => ?_))
      · refine w_iconst rfl (by decide) ?_
        exact w_iret rfl rfl h
      · refine w_aload_n rfl rfl ?_
        refine w_gfC (c := 468) rfl s_428 rfl rfl ?_
        refine w_iload_n rfl rfl ?_
        refine w_iald rfl s_468 (n := 61) rfl h.1 ?_
        replace h := h.2
        refine w_istore_n (lv' := [some (2, 428), some (0, l1), some (0, l2), some (0, m1 468 l1), none]) rfl rfl rfl ?_
        refine w_aload_n rfl rfl ?_
        refine w_iload_n rfl rfl ?_
        refine w_ldcwR rfl ?_
        refine w_callV (t' := 3) [(2, 240), (0, m1 468 l1)] [] rfl s_428 rfl rfl ?_
        refine w_C.more (Q := fun r2 m2 => _) h (fun r2 m2 h => ?_)
        replace h := id h
        refine w_aload_n rfl rfl ?_
        refine w_iload_n rfl rfl ?_
        refine w_ldcwR rfl ?_
        refine w_callV (t' := 3) [(2, 256), (0, m1 468 l1)] [] rfl s_428 rfl rfl ?_
        refine w_C.more (Q := fun r3 m3 => _) h (fun r3 m3 h => ?_)
        replace h := id h
        refine w_aload_n rfl rfl ?_
        refine w_iload_n rfl rfl ?_
        refine w_ldcwR rfl ?_
        refine w_callV (t' := 3) [(2, 258), (0, m1 468 l1)] [] rfl s_428 rfl rfl ?_
        refine w_C.more (Q := fun r4 m4 => _) h (fun r4 m4 h => ?_)
        replace h := id h
        refine w_aload_n rfl rfl ?_
        refine w_iload_n rfl rfl ?_
        refine w_callV (t' := 0) [(0, l1)] [] rfl s_428 rfl rfl ?_
        refine w_C.more (Q := fun r5 m5 => _) h (fun r5 m5 h => ?_)
        replace h := id h
        refine w_istore (lv' := [some (2, 428), some (0, l1), some (0, l2), some (0, m1 468 l1), some (0, r5)]) rfl rfl rfl ?_
        refine w_aload_n rfl rfl ?_
        refine w_iload_n rfl rfl ?_
        refine w_iload_n rfl rfl ?_
        refine w_iload rfl rfl ?_
        refine w_callV (t' := 3) [(0, r5), (0, l2), (0, m1 468 l1)] [] rfl s_428 rfl rfl ?_
        refine w_C.more (Q := fun r6 m6 => _) h (fun r6 m6 h => ?_)
        replace h := id h
        refine w_iload_n rfl rfl ?_
        exact w_iret rfl rfl h
theorem xr_m_moves {d : Nat} {l1 : Int} {m : w_M} {Q : Int → w_M → Prop} (h : xc_m_near d l1 m (fun r1 m1 => xc_m_good d m1 (fun r2 m2 => if r2 = 0 then (Q 0 m2) else (xc_m_identity d 477 m2 (fun r3 m3 => xc_m_product d 477 475 475 (w_up m3 477 4 (w_32 l1)) (fun r4 m4 => Q 0 m4)))))) : xc_m_moves (d + 1) l1 m Q := by
  refine w_enter (q := 0) (lv := [some (2, 428), some (1, l1), none]) rfl rfl rfl ?_
  refine w_aload_n rfl rfl ?_
  refine w_lload_n rfl rfl ?_
  refine w_callV (t' := 3) [(1, l1)] [] rfl s_428 rfl rfl ?_
  refine w_C.more (Q := fun r1 m1 => _) h (fun r1 m1 h => ?_)
  replace h := id h
  refine w_aload_n rfl rfl ?_
  refine w_callV (t' := 0) [] [] rfl s_428 rfl rfl ?_
  refine w_C.more (Q := fun r2 m2 => _) h (fun r2 m2 h => ?_)
  replace h := id h
  refine w_ifeq rfl (w_ite h (fun h => ?_) (fun h => ?_))
  · exact w_vret rfl rfl h
  · refine w_aload_n rfl rfl ?_
    refine w_gfC (c := 477) rfl s_428 rfl rfl ?_
    refine w_callS (t' := 3) [(2, 477)] [] rfl (by decide) rfl rfl ?_
    refine w_C.more (Q := fun r3 m3 => _) h (fun r3 m3 h => ?_)
    replace h := id h
    refine w_aload_n rfl rfl ?_
    refine w_gfC (c := 477) rfl s_428 rfl rfl ?_
    refine w_iconst rfl (by decide) ?_
    refine w_lload_n rfl rfl ?_
    refine w_l2i rfl ?_
    refine w_iast rfl s_477 (w_EM (by decide)) (n := 6) rfl (by decide) ?_
    refine w_aload_n rfl rfl ?_
    refine w_aload_n rfl rfl ?_
    refine w_gfC (c := 477) rfl s_428 rfl rfl ?_
    refine w_aload_n rfl rfl ?_
    refine w_gfC (c := 475) rfl s_428 rfl rfl ?_
    refine w_aload_n rfl rfl ?_
    refine w_gfC (c := 475) rfl s_428 rfl rfl ?_
    refine w_callV (t' := 3) [(2, 475), (2, 475), (2, 477)] [] rfl s_428 rfl rfl ?_
    refine w_C.more (Q := fun r4 m4 => _) h (fun r4 m4 h => ?_)
    replace h := id h
    exact w_vret rfl rfl h
theorem xr_m_name {d : Nat} {l1 l2 : Int} {m : w_M} {Q : Int → w_M → Prop} (h : xc_m_keep d l2 m (fun r1 m1 => ((0 : Int) ≤ l1 ∧ l1 < 40000) ∧ (w_isS l2 ∧ (xc_js_length sM d l2 (w_up m1 438 l1 r1) (fun r2 m2 => ((0 : Int) ≤ l1 ∧ l1 < 40000) ∧ (Q 0 (w_up m2 439 l1 r2))))))) : xc_m_name (d + 1) l1 l2 m Q := by
  refine w_enter (q := 0) (lv := [some (2, 428), some (0, l1), some (2, l2)]) rfl rfl rfl ?_
  refine w_aload_n rfl rfl ?_
  refine w_gfC (c := 438) rfl s_428 rfl rfl ?_
  refine w_iload_n rfl rfl ?_
  refine w_aload_n rfl rfl ?_
  refine w_aload_n rfl rfl ?_
  refine w_callV (t' := 0) [(2, l2)] [(0, l1), (2, 438)] rfl s_428 rfl rfl ?_
  refine w_C.more (Q := fun r1 m1 => _) h (fun r1 m1 h => ?_)
  replace h := id h
  refine w_iast rfl s_438 (w_EM (by decide)) (n := 40000) rfl h.1 ?_
  replace h := h.2
  refine w_aload_n rfl rfl ?_
  refine w_gfC (c := 439) rfl s_428 rfl rfl ?_
  refine w_iload_n rfl rfl ?_
  refine w_aload_n rfl rfl ?_
  refine w_callV (t' := 0) [] [(0, l1), (2, 439)] rfl (w_isS_s h.1) rfl rfl ?_
  replace h := h.2
  refine w_C.more (Q := fun r2 m2 => _) h (fun r2 m2 h => ?_)
  replace h := id h
  refine w_iast rfl s_439 (w_EM (by decide)) (n := 40000) rfl h.1 ?_
  replace h := h.2
  exact w_vret rfl rfl h
theorem xr_m_nameAll {d : Nat} {l1 : Int} {m : w_M} {Q : Int → w_M → Prop} (h : ((0 : Int) ≤ l1 ∧ l1 < 40000) ∧ (if (m 432 l1) = 8 then (((0 : Int) ≤ l1 ∧ l1 < 40000) ∧ (((0 : Int) ≤ (m 433 l1) ∧ (m 433 l1) < 200) ∧ (Q 0 (w_up m 461 (m 433 l1) 1)))) else (((0 : Int) ≤ l1 ∧ l1 < 40000) ∧ (if (m 432 l1) = 6 then (((0 : Int) ≤ l1 ∧ l1 < 40000) ∧ (xp_m_nameAll_55 d (m 436 l1) m Q)) else (((0 : Int) ≤ l1 ∧ l1 < 40000) ∧ (if (m 432 l1) = 7 then (((0 : Int) ≤ l1 ∧ l1 < 40000) ∧ (xp_m_nameAll_55 d (m 436 l1) m Q)) else (Q 0 m))))))) : xc_m_nameAll (d + 1) l1 m Q := by
  refine w_enter (q := 1) (lv := [some (2, 428), some (0, l1), none]) rfl rfl rfl ?_
  refine w_aload_n rfl rfl ?_
  refine w_gfC (c := 432) rfl s_428 rfl rfl ?_
  refine w_iload_n rfl rfl ?_
  refine w_bald rfl s_432 (n := 40000) rfl h.1 ?_
  replace h := h.2
  refine w_bipush rfl (by decide) ?_
  refine w_icne rfl (w_ite h (fun h => ?_) (fun h => ?_))
  · refine w_aload_n rfl rfl ?_
    refine w_gfC (c := 461) rfl s_428 rfl rfl ?_
    refine w_aload_n rfl rfl ?_
    refine w_gfC (c := 433) rfl s_428 rfl rfl ?_
    refine w_iload_n rfl rfl ?_
    refine w_iald rfl s_433 (n := 40000) rfl h.1 ?_
    replace h := h.2
    refine w_iconst rfl (by decide) ?_
    refine w_zast rfl s_461 (w_EM (by decide)) (n := 200) rfl h.1 (by decide) ?_
    replace h := h.2
    refine w_goto rfl ?_
    exact w_vret rfl rfl h
  · refine w_aload_n rfl rfl ?_
    refine w_gfC (c := 432) rfl s_428 rfl rfl ?_
    refine w_iload_n rfl rfl ?_
    refine w_bald rfl s_432 (n := 40000) rfl h.1 ?_
    replace h := h.2
    refine w_bipush rfl (by decide) ?_
    refine w_iceq rfl (w_ite h (fun h => ?_) (fun h => ?_))
    · refine w_aload_n rfl rfl ?_
      refine w_gfC (c := 436) rfl s_428 rfl rfl ?_
      refine w_iload_n rfl rfl ?_
      refine w_iald rfl s_436 (n := 40000) rfl h.1 ?_
      replace h := h.2
      refine w_istore_n (lv' := [some (2, 428), some (0, l1), some (0, m 436 l1)]) rfl rfl rfl ?_
      exact w_W.less h (w_sub [true, false, true] rfl)
    · refine w_aload_n rfl rfl ?_
      refine w_gfC (c := 432) rfl s_428 rfl rfl ?_
      refine w_iload_n rfl rfl ?_
      refine w_bald rfl s_432 (n := 40000) rfl h.1 ?_
      replace h := h.2
      refine w_bipush rfl (by decide) ?_
      refine w_icne rfl (w_ite h (fun h => ?_) (fun h => ?_))
      · refine w_aload_n rfl rfl ?_
        refine w_gfC (c := 436) rfl s_428 rfl rfl ?_
        refine w_iload_n rfl rfl ?_
        refine w_iald rfl s_436 (n := 40000) rfl h.1 ?_
        replace h := h.2
        refine w_istore_n (lv' := [some (2, 428), some (0, l1), some (0, m 436 l1)]) rfl rfl rfl ?_
        exact w_W.less h (w_sub [true, false, true] rfl)
      · exact w_vret rfl rfl h
theorem xr_m_nameAll_55 {d : Nat} {l2 : Int} {m : w_M} {Q : Int → w_M → Prop} (h : if l2 < 0 then (Q 0 m) else (xc_m_nameAll d l2 m (fun r1 m1 => ((0 : Int) ≤ l2 ∧ l2 < 40000) ∧ (xp_m_nameAll_55 d (m1 437 l2) m1 Q)))) : xp_m_nameAll_55 d l2 m Q := by
  refine w_iload_n rfl rfl ?_
  refine w_iflt rfl (w_ite h (fun h => ?_) (fun h => ?_))
  · exact w_vret rfl rfl h
  · refine w_aload_n rfl rfl ?_
    refine w_iload_n rfl rfl ?_
    refine w_callV (t' := 3) [(0, l2)] [] rfl s_428 rfl rfl ?_
    refine w_C.more (Q := fun r1 m1 => _) h (fun r1 m1 h => ?_)
    replace h := id h
    refine w_aload_n rfl rfl ?_
    refine w_gfC (c := 437) rfl s_428 rfl rfl ?_
    refine w_iload_n rfl rfl ?_
    refine w_iald rfl s_437 (n := 40000) rfl h.1 ?_
    replace h := h.2
    refine w_istore_n (lv' := [some (2, 428), none, some (0, m1 437 l2)]) rfl rfl rfl ?_
    refine w_goto rfl ?_
    exact w_W.less h (w_sub [true, false, true] rfl)
theorem xr_m_nameNode {d : Nat} {l1 : Int} {m : w_M} {Q : Int → w_M → Prop} (h : xc_m_newNode d 4 0 m (fun r1 m1 => xc_m_keep d l1 m1 (fun r2 m2 => ((0 : Int) ≤ r1 ∧ r1 < 40000) ∧ (w_isS l1 ∧ (xc_js_length sM d l1 (w_up m2 436 r1 r2) (fun r3 m3 => ((0 : Int) ≤ r1 ∧ r1 < 40000) ∧ (Q r1 (w_up m3 435 r1 r3)))))))) : xc_m_nameNode (d + 1) l1 m Q := by
  refine w_enter (q := 1) (lv := [some (2, 428), some (2, l1), none]) rfl rfl rfl ?_
  refine w_aload_n rfl rfl ?_
  refine w_iconst rfl (by decide) ?_
  refine w_iconst rfl (by decide) ?_
  refine w_callV (t' := 0) [(0, 0), (0, 4)] [] rfl s_428 rfl rfl ?_
  refine w_C.more (Q := fun r1 m1 => _) h (fun r1 m1 h => ?_)
  replace h := id h
  refine w_istore_n (lv' := [some (2, 428), some (2, l1), some (0, r1)]) rfl rfl rfl ?_
  refine w_aload_n rfl rfl ?_
  refine w_gfC (c := 436) rfl s_428 rfl rfl ?_
  refine w_iload_n rfl rfl ?_
  refine w_aload_n rfl rfl ?_
  refine w_aload_n rfl rfl ?_
  refine w_callV (t' := 0) [(2, l1)] [(0, r1), (2, 436)] rfl s_428 rfl rfl ?_
  refine w_C.more (Q := fun r2 m2 => _) h (fun r2 m2 h => ?_)
  replace h := id h
  refine w_iast rfl s_436 (w_EM (by decide)) (n := 40000) rfl h.1 ?_
  replace h := h.2
  refine w_aload_n rfl rfl ?_
  refine w_gfC (c := 435) rfl s_428 rfl rfl ?_
  refine w_iload_n rfl rfl ?_
  refine w_aload_n rfl rfl ?_
  refine w_callV (t' := 0) [] [(0, r1), (2, 435)] rfl (w_isS_s h.1) rfl rfl ?_
  replace h := h.2
  refine w_C.more (Q := fun r3 m3 => _) h (fun r3 m3 h => ?_)
  replace h := id h
  refine w_iast rfl s_435 (w_EM (by decide)) (n := 40000) rfl h.1 ?_
  replace h := h.2
  refine w_iload_n rfl rfl ?_
  exact w_iret rfl rfl h
theorem xr_m_near {d : Nat} {l1 : Int} {m : w_M} {Q : Int → w_M → Prop} (h : if l1 < (-2147483648) then (xc_m_fail d 14 (m 428 106) m (fun r1 m1 => Q 0 m1)) else (if 2147483647 < l1 then (xc_m_fail d 14 (m 428 106) m (fun r2 m2 => Q 0 m2)) else (Q 0 m))) : xc_m_near (d + 1) l1 m Q := by
  refine w_enter (q := 0) (lv := [some (2, 428), some (1, l1), none]) rfl rfl rfl ?_
  refine w_lload_n rfl rfl ?_
  refine w_ldc2 (a := (-2147483648)) rfl (by decide +kernel) (by decide) ?_
  refine w_lclt rfl rfl (w_ite h (fun h => ?_) (fun h => ?_))
  · refine w_aload_n rfl rfl ?_
    refine w_bipush rfl (by decide) ?_
    refine w_aload_n rfl rfl ?_
    refine x_gfI rfl s_428 rfl (kk := 106) rfl rfl ?_
    refine w_callV (t' := 3) [(0, m 428 106), (0, 14)] [] rfl s_428 rfl rfl ?_
    refine w_C.more (Q := fun r1 m1 => _) h (fun r1 m1 h => ?_)
    replace h := id h
    exact w_vret rfl rfl h
  · refine w_lload_n rfl rfl ?_
    refine w_ldc2 (a := 2147483647) rfl (by decide +kernel) (by decide) ?_
    refine w_lcle rfl rfl (w_ite h (fun h => ?_) (fun h => ?_))
    · refine w_aload_n rfl rfl ?_
      refine w_bipush rfl (by decide) ?_
      refine w_aload_n rfl rfl ?_
      refine x_gfI rfl s_428 rfl (kk := 106) rfl rfl ?_
      refine w_callV (t' := 3) [(0, m 428 106), (0, 14)] [] rfl s_428 rfl rfl ?_
      refine w_C.more (Q := fun r2 m2 => _) h (fun r2 m2 h => ?_)
      replace h := id h
      exact w_vret rfl rfl h
    · exact w_vret rfl rfl h
theorem xr_m_newLine {d : Nat} {m : w_M} {Q : Int → w_M → Prop} (h : xc_m_near d (w_64 (-(m 479 8))) m (fun r1 m1 => xc_m_good d m1 (fun r2 m2 => if r2 = 0 then (Q 0 m2) else (xc_m_goes d 0 (w_32 (w_64 (-(m 479 8)))) m2 (fun r3 m3 => Q 0 m3))))) : xc_m_newLine (d + 1) m Q := by
  refine w_enter (q := 2) (lv := [some (2, 428), none, none]) rfl rfl rfl ?_
  refine w_aload_n rfl rfl ?_
  refine w_gfC (c := 479) rfl s_428 rfl rfl ?_
  refine w_bipush rfl (by decide) ?_
  refine w_iald rfl s_479 (n := 9) rfl (by decide) ?_
  refine w_i2l rfl ?_
  refine w_lneg rfl ?_
  refine w_lstore_n (lv' := [some (2, 428), some (1, w_64 (-(m 479 8))), none]) rfl rfl rfl ?_
  refine w_aload_n rfl rfl ?_
  refine w_lload_n rfl rfl ?_
  refine w_callV (t' := 3) [(1, w_64 (-(m 479 8)))] [] rfl s_428 rfl rfl ?_
  refine w_C.more (Q := fun r1 m1 => _) h (fun r1 m1 h => ?_)
  replace h := id h
  refine w_aload_n rfl rfl ?_
  refine w_callV (t' := 0) [] [] rfl s_428 rfl rfl ?_
  refine w_C.more (Q := fun r2 m2 => _) h (fun r2 m2 h => ?_)
  replace h := id h
  refine w_ifeq rfl (w_ite h (fun h => ?_) (fun h => ?_))
  · exact w_vret rfl rfl h
  · refine w_aload_n rfl rfl ?_
    refine w_iconst rfl (by decide) ?_
    refine w_lload_n rfl rfl ?_
    refine w_l2i rfl ?_
    refine w_callV (t' := 3) [(0, w_32 (w_64 (-(m 479 8)))), (0, 0)] [] rfl s_428 rfl rfl ?_
    refine w_C.more (Q := fun r3 m3 => _) h (fun r3 m3 h => ?_)
    replace h := id h
    exact w_vret rfl rfl h
theorem xr_m_newNode {d : Nat} {l1 l2 : Int} {m : w_M} {Q : Int → w_M → Prop} (h : ((0 : Int) ≤ (m 428 15) ∧ (m 428 15) < 40000) ∧ (((0 : Int) ≤ (m 428 15) ∧ (m 428 15) < 40000) ∧ (((0 : Int) ≤ (m 428 15) ∧ (m 428 15) < 40000) ∧ (((0 : Int) ≤ (m 428 15) ∧ (m 428 15) < 40000) ∧ (((0 : Int) ≤ (m 428 15) ∧ (m 428 15) < 40000) ∧ (((0 : Int) ≤ (m 428 15) ∧ (m 428 15) < 40000) ∧ (((0 : Int) ≤ (m 428 15) ∧ (m 428 15) < 40000) ∧ (((0 : Int) ≤ (m 428 15) ∧ (m 428 15) < 40000) ∧ (Q (m 428 15) (w_up (w_up (w_up (w_up (w_up (w_up (w_up (w_up (w_up m 428 15 (w_32 ((m 428 15) + 1))) 432 (m 428 15) (w_8 (w_8 l1))) 433 (m 428 15) l2) 434 (m 428 15) 0) 435 (m 428 15) 0) 436 (m 428 15) (-1)) 437 (m 428 15) (-1)) 438 (m 428 15) 0) 439 (m 428 15) 0)))))))))) : xc_m_newNode (d + 1) l1 l2 m Q := by
  refine w_enter (q := 1) (lv := [some (2, 428), some (0, l1), some (0, l2), none]) rfl rfl rfl ?_
  refine w_aload_n rfl rfl ?_
  refine x_gfI rfl s_428 rfl (kk := 15) rfl rfl ?_
  refine w_istore_n (lv' := [some (2, 428), some (0, l1), some (0, l2), some (0, m 428 15)]) rfl rfl rfl ?_
  refine w_aload_n rfl rfl ?_
  refine w_dup rfl (show (2 : Nat) ≠ 1 by decide) ?_
  refine x_gfI rfl s_428 rfl (kk := 15) rfl rfl ?_
  refine w_iconst rfl (by decide) ?_
  refine w_iadd rfl ?_
  refine w_pfI rfl s_428 rfl (w_EM (by decide)) rfl (kk := 15) rfl ?_
  refine w_aload_n rfl rfl ?_
  refine w_gfC (c := 432) rfl s_428 rfl rfl ?_
  refine w_iload_n rfl rfl ?_
  refine w_iload_n rfl rfl ?_
  refine w_i2b rfl ?_
  refine w_bast rfl s_432 (w_EM (by decide)) (n := 40000) rfl h.1 ?_
  replace h := h.2
  refine w_aload_n rfl rfl ?_
  refine w_gfC (c := 433) rfl s_428 rfl rfl ?_
  refine w_iload_n rfl rfl ?_
  refine w_iload_n rfl rfl ?_
  refine w_iast rfl s_433 (w_EM (by decide)) (n := 40000) rfl h.1 ?_
  replace h := h.2
  refine w_aload_n rfl rfl ?_
  refine w_gfC (c := 434) rfl s_428 rfl rfl ?_
  refine w_iload_n rfl rfl ?_
  refine w_iconst rfl (by decide) ?_
  refine w_iast rfl s_434 (w_EM (by decide)) (n := 40000) rfl h.1 ?_
  replace h := h.2
  refine w_aload_n rfl rfl ?_
  refine w_gfC (c := 435) rfl s_428 rfl rfl ?_
  refine w_iload_n rfl rfl ?_
  refine w_iconst rfl (by decide) ?_
  refine w_iast rfl s_435 (w_EM (by decide)) (n := 40000) rfl h.1 ?_
  replace h := h.2
  refine w_aload_n rfl rfl ?_
  refine w_gfC (c := 436) rfl s_428 rfl rfl ?_
  refine w_iload_n rfl rfl ?_
  refine w_iconst rfl (by decide) ?_
  refine w_iast rfl s_436 (w_EM (by decide)) (n := 40000) rfl h.1 ?_
  replace h := h.2
  refine w_aload_n rfl rfl ?_
  refine w_gfC (c := 437) rfl s_428 rfl rfl ?_
  refine w_iload_n rfl rfl ?_
  refine w_iconst rfl (by decide) ?_
  refine w_iast rfl s_437 (w_EM (by decide)) (n := 40000) rfl h.1 ?_
  replace h := h.2
  refine w_aload_n rfl rfl ?_
  refine w_gfC (c := 438) rfl s_428 rfl rfl ?_
  refine w_iload_n rfl rfl ?_
  refine w_iconst rfl (by decide) ?_
  refine w_iast rfl s_438 (w_EM (by decide)) (n := 40000) rfl h.1 ?_
  replace h := h.2
  refine w_aload_n rfl rfl ?_
  refine w_gfC (c := 439) rfl s_428 rfl rfl ?_
  refine w_iload_n rfl rfl ?_
  refine w_iconst rfl (by decide) ?_
  refine w_iast rfl s_439 (w_EM (by decide)) (n := 40000) rfl h.1 ?_
  replace h := h.2
  refine w_iload_n rfl rfl ?_
  exact w_iret rfl rfl h
theorem xr_m_newObject {d : Nat} {l1 : Int} {m : w_M} {Q : Int → w_M → Prop} (h : xc_m_nextNumber d m (fun r1 m1 => xp_m_newObject_10 d l1 r1 (m1 428 60) m1 Q)) : xc_m_newObject (d + 1) l1 m Q := by
  refine w_enter (q := 2) (lv := [some (2, 428), some (0, l1), none, none]) rfl rfl rfl ?_
  refine w_aload_n rfl rfl ?_
  refine w_callV (t' := 0) [] [] rfl s_428 rfl rfl ?_
  refine w_C.more (Q := fun r1 m1 => _) h (fun r1 m1 h => ?_)
  replace h := id h
  refine w_istore_n (lv' := [some (2, 428), some (0, l1), some (0, r1), none]) rfl rfl rfl ?_
  refine w_aload_n rfl rfl ?_
  refine x_gfI rfl s_428 rfl (kk := 60) rfl rfl ?_
  refine w_istore_n (lv' := [some (2, 428), some (0, l1), some (0, r1), some (0, m1 428 60)]) rfl rfl rfl ?_
  exact w_W.less h (w_sub [true, true, true, true] rfl)
theorem xr_m_newObject_10 {d : Nat} {l1 l2 l3 : Int} {m : w_M} {Q : Int → w_M → Prop} (h : if l3 < l2 then (((0 : Int) ≤ l3 ∧ l3 < 200) ∧ (xp_m_newObject_10 d l1 l2 (w_32 (l3 + 1)) (w_up m 462 l3 1) Q)) else (((0 : Int) ≤ l2 ∧ l2 < 200) ∧ (((0 : Int) ≤ l2 ∧ l2 < 200) ∧ (((0 : Int) ≤ l2 ∧ l2 < 200) ∧ (((0 : Int) ≤ l2 ∧ l2 < 200) ∧ (((0 : Int) ≤ l2 ∧ l2 < 200) ∧ (((0 : Int) ≤ l2 ∧ l2 < 200) ∧ (((0 : Int) ≤ l2 ∧ l2 < 200) ∧ (((0 : Int) ≤ l2 ∧ l2 < 200) ∧ (Q l2 (w_up (w_up (w_up (w_up (w_up (w_up (w_up (w_up (w_up m 428 60 (w_32 (l2 + 1))) 451 l2 (w_8 1)) 452 l2 0) 453 l2 0) 456 l2 (w_8 2)) 455 l2 l1) 457 l2 0) 469 l2 0) 460 l2 1))))))))))) : xp_m_newObject_10 d l1 l2 l3 m Q := by
  refine w_iload_n rfl rfl ?_
  refine w_iload_n rfl rfl ?_
  refine w_icge rfl (w_ite h (fun h => ?_) (fun h => ?_))
  · refine w_aload_n rfl rfl ?_
    refine w_gfC (c := 462) rfl s_428 rfl rfl ?_
    refine w_iload_n rfl rfl ?_
    refine w_iconst rfl (by decide) ?_
    refine w_zast rfl s_462 (w_EM (by decide)) (n := 200) rfl h.1 (by decide) ?_
    replace h := h.2
    refine w_iinc (lv' := [some (2, 428), some (0, l1), some (0, l2), some (0, w_32 (l3 + 1))]) rfl rfl rfl rfl ?_
    refine w_goto rfl ?_
    exact w_W.less h (w_sub [true, true, true, true] rfl)
  · refine w_aload_n rfl rfl ?_
    refine w_iload_n rfl rfl ?_
    refine w_iconst rfl (by decide) ?_
    refine w_iadd rfl ?_
    refine w_pfI rfl s_428 rfl (w_EM (by decide)) rfl (kk := 60) rfl ?_
    refine w_aload_n rfl rfl ?_
    refine w_gfC (c := 451) rfl s_428 rfl rfl ?_
    refine w_iload_n rfl rfl ?_
    refine w_iconst rfl (by decide) ?_
    refine w_bast rfl s_451 (w_EM (by decide)) (n := 200) rfl h.1 ?_
    replace h := h.2
    refine w_aload_n rfl rfl ?_
    refine w_gfC (c := 452) rfl s_428 rfl rfl ?_
    refine w_iload_n rfl rfl ?_
    refine w_lconst rfl rfl ?_
    refine w_last rfl s_452 (w_EM (by decide)) (n := 200) rfl h.1 ?_
    replace h := h.2
    refine w_aload_n rfl rfl ?_
    refine w_gfC (c := 453) rfl s_428 rfl rfl ?_
    refine w_iload_n rfl rfl ?_
    refine w_lconst rfl rfl ?_
    refine w_last rfl s_453 (w_EM (by decide)) (n := 200) rfl h.1 ?_
    replace h := h.2
    refine w_aload_n rfl rfl ?_
    refine w_gfC (c := 456) rfl s_428 rfl rfl ?_
    refine w_iload_n rfl rfl ?_
    refine w_iconst rfl (by decide) ?_
    refine w_bast rfl s_456 (w_EM (by decide)) (n := 200) rfl h.1 ?_
    replace h := h.2
    refine w_aload_n rfl rfl ?_
    refine w_gfC (c := 455) rfl s_428 rfl rfl ?_
    refine w_iload_n rfl rfl ?_
    refine w_iload_n rfl rfl ?_
    refine w_iast rfl s_455 (w_EM (by decide)) (n := 200) rfl h.1 ?_
    replace h := h.2
    refine w_aload_n rfl rfl ?_
    refine w_gfC (c := 457) rfl s_428 rfl rfl ?_
    refine w_iload_n rfl rfl ?_
    refine w_iconst rfl (by decide) ?_
    refine w_zast rfl s_457 (w_EM (by decide)) (n := 200) rfl h.1 (by decide) ?_
    replace h := h.2
    refine w_aload_n rfl rfl ?_
    refine w_gfC (c := 469) rfl s_428 rfl rfl ?_
    refine w_iload_n rfl rfl ?_
    refine w_iconst rfl (by decide) ?_
    refine w_iast rfl s_469 (w_EM (by decide)) (n := 200) rfl h.1 ?_
    replace h := h.2
    refine w_aload_n rfl rfl ?_
    refine w_gfC (c := 460) rfl s_428 rfl rfl ?_
    refine w_iload_n rfl rfl ?_
    refine w_iconst rfl (by decide) ?_
    refine w_zast rfl s_460 (w_EM (by decide)) (n := 200) rfl h.1 (by decide) ?_
    replace h := h.2
    refine w_iload_n rfl rfl ?_
    exact w_iret rfl rfl h
theorem xr_m_nextNumber {d : Nat} {m : w_M} {Q : Int → w_M → Prop} (h : xp_m_nextNumber_5 d (m 428 60) m Q) : xc_m_nextNumber (d + 1) m Q := by
  refine w_enter (q := 1) (lv := [some (2, 428), none]) rfl rfl rfl ?_
  refine w_aload_n rfl rfl ?_
  refine x_gfI rfl s_428 rfl (kk := 60) rfl rfl ?_
  refine w_istore_n (lv' := [some (2, 428), some (0, m 428 60)]) rfl rfl rfl ?_
  exact w_W.less h (w_sub [true, true] rfl)
theorem xr_m_nextNumber_5 {d : Nat} {l1 : Int} {m : w_M} {Q : Int → w_M → Prop} (h : if l1 < 200 then (((0 : Int) ≤ l1 ∧ l1 < 200) ∧ (if (m 461 l1) = 0 then (Q l1 m) else (xp_m_nextNumber_5 d (w_32 (l1 + 1)) m Q))) else (Q l1 m)) : xp_m_nextNumber_5 d l1 m Q := by
  refine w_iload_n rfl rfl ?_
  refine w_sipush rfl (by decide) ?_
  refine w_icge rfl (w_ite h (fun h => ?_) (fun h => ?_))
  · refine w_aload_n rfl rfl ?_
    refine w_gfC (c := 461) rfl s_428 rfl rfl ?_
    refine w_iload_n rfl rfl ?_
    refine w_zald rfl s_461 (n := 200) rfl h.1 ?_
    replace h := h.2
    refine w_ifeq rfl (w_ite h (fun h => ?_) (fun h => ?_))
    · refine w_iload_n rfl rfl ?_
      exact w_iret rfl rfl h
    · refine w_iinc (lv' := [some (2, 428), some (0, w_32 (l1 + 1))]) rfl rfl rfl rfl ?_
      refine w_goto rfl ?_
      exact w_W.less h (w_sub [true, true] rfl)
  · refine w_iload_n rfl rfl ?_
    exact w_iret rfl rfl h
theorem xr_m_numberOf {d : Nat} {l1 : Int} {m : w_M} {Q : Int → w_M → Prop} (h : ((0 : Int) ≤ l1 ∧ l1 < 200) ∧ (if (m 483 l1) = 0 then (((0 : Int) ≤ (m 428 112) ∧ (m 428 112) < 200) ∧ (((0 : Int) ≤ l1 ∧ l1 < 200) ∧ (((0 : Int) ≤ l1 ∧ l1 < 200) ∧ (Q ((w_up (w_up (w_up m 484 (m 428 112) l1) 428 112 (w_32 ((m 428 112) + 1))) 483 l1 (w_32 ((m 428 112) + 1))) 483 l1) (w_up (w_up (w_up m 484 (m 428 112) l1) 428 112 (w_32 ((m 428 112) + 1))) 483 l1 (w_32 ((m 428 112) + 1))))))) else (((0 : Int) ≤ l1 ∧ l1 < 200) ∧ (Q (m 483 l1) m)))) : xc_m_numberOf (d + 1) l1 m Q := by
  refine w_enter (q := 0) (lv := [some (2, 428), some (0, l1)]) rfl rfl rfl ?_
  refine w_aload_n rfl rfl ?_
  refine w_gfC (c := 483) rfl s_428 rfl rfl ?_
  refine w_iload_n rfl rfl ?_
  refine w_iald rfl s_483 (n := 200) rfl h.1 ?_
  replace h := h.2
  refine w_ifne rfl (w_ite h (fun h => ?_) (fun h => ?_))
  · refine w_aload_n rfl rfl ?_
    refine w_gfC (c := 484) rfl s_428 rfl rfl ?_
    refine w_aload_n rfl rfl ?_
    refine x_gfI rfl s_428 rfl (kk := 112) rfl rfl ?_
    refine w_iload_n rfl rfl ?_
    refine w_iast rfl s_484 (w_EM (by decide)) (n := 200) rfl h.1 ?_
    replace h := h.2
    refine w_aload_n rfl rfl ?_
    refine w_dup rfl (show (2 : Nat) ≠ 1 by decide) ?_
    refine x_gfI rfl s_428 rfl (kk := 112) rfl (w_up_ne (by decide)) ?_
    refine w_iconst rfl (by decide) ?_
    refine w_iadd rfl ?_
    refine w_pfI rfl s_428 rfl (w_EM (by decide)) rfl (kk := 112) rfl ?_
    refine w_aload_n rfl rfl ?_
    refine w_gfC (c := 483) rfl s_428 rfl rfl ?_
    refine w_iload_n rfl rfl ?_
    refine w_aload_n rfl rfl ?_
    refine x_gfI rfl s_428 rfl (kk := 112) rfl (w_up_eq) ?_
    refine w_iast rfl s_483 (w_EM (by decide)) (n := 200) rfl h.1 ?_
    replace h := h.2
    refine w_aload_n rfl rfl ?_
    refine w_gfC (c := 483) rfl s_428 rfl rfl ?_
    refine w_iload_n rfl rfl ?_
    refine w_iald rfl s_483 (n := 200) rfl h.1 ?_
    replace h := h.2
    exact w_iret rfl rfl h
  · refine w_aload_n rfl rfl ?_
    refine w_gfC (c := 483) rfl s_428 rfl rfl ?_
    refine w_iload_n rfl rfl ?_
    refine w_iald rfl s_483 (n := 200) rfl h.1 ?_
    replace h := h.2
    exact w_iret rfl rfl h
theorem xr_m_numbered {d : Nat} {l1 l2 l3 : Int} {m : w_M} {Q : Int → w_M → Prop} (h : xc_m_sayNumber d l2 m (fun r1 m1 => xc_m_say d 32 m1 (fun r2 m2 => xc_m_sayNumber d l3 m2 (fun r3 m3 => xc_m_sayText d 260 m3 (fun r4 m4 => ((0 : Int) ≤ l1 ∧ l1 < 200) ∧ (if (m4 457 l1) = 0 then (((0 : Int) ≤ l1 ∧ l1 < 200) ∧ (xc_m_write d (m4 455 l1) m4 (fun r5 m5 => xc_m_sayText d 264 m5 (fun r6 m6 => Q 0 m6)))) else (xc_m_sayText d 262 m4 (fun r7 m7 => ((0 : Int) ≤ l1 ∧ l1 < 200) ∧ (xc_m_entries2 d (m7 455 l1) 1 m7 (fun r8 m8 => ((0 : Int) ≤ l1 ∧ l1 < 200) ∧ (((0 : Int) ≤ l1 ∧ l1 < 200) ∧ (xc_m_codeOf d 441 (m8 458 l1) (m8 459 l1) m8 (fun r9 m9 => xc_m_streamTail d m9 (fun r10 m10 => xc_m_sayText d 264 m10 (fun r11 m11 => Q 0 m11))))))))))))))) : xc_m_numbered (d + 1) l1 l2 l3 m Q := by
  refine w_enter (q := 0) (lv := [some (2, 428), some (0, l1), some (0, l2), some (1, l3), none]) rfl rfl rfl ?_
  refine w_aload_n rfl rfl ?_
  refine w_iload_n rfl rfl ?_
  refine w_i2l rfl ?_
  refine w_callV (t' := 3) [(1, l2)] [] rfl s_428 rfl rfl ?_
  refine w_C.more (Q := fun r1 m1 => _) h (fun r1 m1 h => ?_)
  replace h := id h
  refine w_aload_n rfl rfl ?_
  refine w_bipush rfl (by decide) ?_
  refine w_callV (t' := 3) [(0, 32)] [] rfl s_428 rfl rfl ?_
  refine w_C.more (Q := fun r2 m2 => _) h (fun r2 m2 h => ?_)
  replace h := id h
  refine w_aload_n rfl rfl ?_
  refine w_lload_n rfl rfl ?_
  refine w_callV (t' := 3) [(1, l3)] [] rfl s_428 rfl rfl ?_
  refine w_C.more (Q := fun r3 m3 => _) h (fun r3 m3 h => ?_)
  replace h := id h
  refine w_aload_n rfl rfl ?_
  refine w_ldcwR rfl ?_
  refine w_callV (t' := 3) [(2, 260)] [] rfl s_428 rfl rfl ?_
  refine w_C.more (Q := fun r4 m4 => _) h (fun r4 m4 h => ?_)
  replace h := id h
  refine w_aload_n rfl rfl ?_
  refine w_gfC (c := 457) rfl s_428 rfl rfl ?_
  refine w_iload_n rfl rfl ?_
  refine w_zald rfl s_457 (n := 200) rfl h.1 ?_
  replace h := h.2
  refine w_ifeq rfl (w_ite h (fun h => ?_) (fun h => ?_))
  · refine w_aload_n rfl rfl ?_
    refine w_aload_n rfl rfl ?_
    refine w_gfC (c := 455) rfl s_428 rfl rfl ?_
    refine w_iload_n rfl rfl ?_
    refine w_iald rfl s_455 (n := 200) rfl h.1 ?_
    replace h := h.2
    refine w_callV (t' := 3) [(0, m4 455 l1)] [] rfl s_428 rfl rfl ?_
    refine w_C.more (Q := fun r5 m5 => _) h (fun r5 m5 h => ?_)
    replace h := id h
    refine w_aload_n rfl rfl ?_
    refine w_ldcwR rfl ?_
    refine w_callV (t' := 3) [(2, 264)] [] rfl s_428 rfl rfl ?_
    refine w_C.more (Q := fun r6 m6 => _) h (fun r6 m6 h => ?_)
    replace h := id h
    exact w_vret rfl rfl h
  · refine w_aload_n rfl rfl ?_
    refine w_ldcwR rfl ?_
    refine w_callV (t' := 3) [(2, 262)] [] rfl s_428 rfl rfl ?_
    refine w_C.more (Q := fun r7 m7 => _) h (fun r7 m7 h => ?_)
    replace h := id h
    refine w_aload_n rfl rfl ?_
    refine w_aload_n rfl rfl ?_
    refine w_gfC (c := 455) rfl s_428 rfl rfl ?_
    refine w_iload_n rfl rfl ?_
    refine w_iald rfl s_455 (n := 200) rfl h.1 ?_
    replace h := h.2
    refine w_iconst rfl (by decide) ?_
    refine w_callV (t' := 3) [(0, 1), (0, m7 455 l1)] [] rfl s_428 rfl rfl ?_
    refine w_C.more (Q := fun r8 m8 => _) h (fun r8 m8 h => ?_)
    replace h := id h
    refine w_aload_n rfl rfl ?_
    refine w_aload_n rfl rfl ?_
    refine w_gfC (c := 441) rfl s_428 rfl rfl ?_
    refine w_aload_n rfl rfl ?_
    refine w_gfC (c := 458) rfl s_428 rfl rfl ?_
    refine w_iload_n rfl rfl ?_
    refine w_iald rfl s_458 (n := 200) rfl h.1 ?_
    replace h := h.2
    refine w_aload_n rfl rfl ?_
    refine w_gfC (c := 459) rfl s_428 rfl rfl ?_
    refine w_iload_n rfl rfl ?_
    refine w_iald rfl s_459 (n := 200) rfl h.1 ?_
    replace h := h.2
    refine w_callV (t' := 3) [(0, m8 459 l1), (0, m8 458 l1), (2, 441)] [] rfl s_428 rfl rfl ?_
    refine w_C.more (Q := fun r9 m9 => _) h (fun r9 m9 h => ?_)
    replace h := id h
    refine w_aload_n rfl rfl ?_
    refine w_callV (t' := 3) [] [] rfl s_428 rfl rfl ?_
    refine w_C.more (Q := fun r10 m10 => _) h (fun r10 m10 h => ?_)
    replace h := id h
    refine w_goto rfl ?_
    refine w_aload_n rfl rfl ?_
    refine w_ldcwR rfl ?_
    refine w_callV (t' := 3) [(2, 264)] [] rfl s_428 rfl rfl ?_
    refine w_C.more (Q := fun r11 m11 => _) h (fun r11 m11 h => ?_)
    replace h := id h
    exact w_vret rfl rfl h
theorem xr_m_object {d : Nat} {l1 l2 : Int} {m : w_M} {Q : Int → w_M → Prop} (h : if (m 428 22) = 11 then (xc_m_fail d 5 (m 428 23) m (fun r1 m1 => Q (-1) m1)) else (if (m 428 22) = 0 then (xp_m_object_59 d l1 l2 0 m Q) else (if (m 428 22) = 10 then (xp_m_object_59 d l1 l2 0 m Q) else (if (m 428 22) = 7 then (xp_m_object_59 d l1 l2 0 m Q) else (if (m 428 22) = 9 then (xp_m_object_59 d l1 l2 0 m Q) else (xp_m_object_59 d l1 l2 1 m Q)))))) : xc_m_object (d + 1) l1 l2 m Q := by
  refine w_enter (q := 2) (lv := [some (2, 428), some (0, l1), some (0, l2), none, none]) rfl rfl rfl ?_
  refine w_aload_n rfl rfl ?_
  refine x_gfI rfl s_428 rfl (kk := 22) rfl rfl ?_
  refine w_bipush rfl (by decide) ?_
  refine w_icne rfl (w_ite h (fun h => ?_) (fun h => ?_))
  · refine w_aload_n rfl rfl ?_
    refine w_iconst rfl (by decide) ?_
    refine w_aload_n rfl rfl ?_
    refine x_gfI rfl s_428 rfl (kk := 23) rfl rfl ?_
    refine w_callV (t' := 3) [(0, m 428 23), (0, 5)] [] rfl s_428 rfl rfl ?_
    refine w_C.more (Q := fun r1 m1 => _) h (fun r1 m1 h => ?_)
    replace h := id h
    refine w_iconst rfl (by decide) ?_
    exact w_iret rfl rfl h
  · refine w_aload_n rfl rfl ?_
    refine x_gfI rfl s_428 rfl (kk := 22) rfl rfl ?_
    refine w_ifeq rfl (w_ite h (fun h => ?_) (fun h => ?_))
    · refine w_iconst rfl (by decide) ?_
      exact w_W.less h (w_sub [true, true, true, false, false] rfl)
    · refine w_aload_n rfl rfl ?_
      refine x_gfI rfl s_428 rfl (kk := 22) rfl rfl ?_
      refine w_bipush rfl (by decide) ?_
      refine w_iceq rfl (w_ite h (fun h => ?_) (fun h => ?_))
      · refine w_iconst rfl (by decide) ?_
        exact w_W.less h (w_sub [true, true, true, false, false] rfl)
      · refine w_aload_n rfl rfl ?_
        refine x_gfI rfl s_428 rfl (kk := 22) rfl rfl ?_
        refine w_bipush rfl (by decide) ?_
        refine w_iceq rfl (w_ite h (fun h => ?_) (fun h => ?_))
        · refine w_iconst rfl (by decide) ?_
          exact w_W.less h (w_sub [true, true, true, false, false] rfl)
        · refine w_aload_n rfl rfl ?_
          refine x_gfI rfl s_428 rfl (kk := 22) rfl rfl ?_
          refine w_bipush rfl (by decide) ?_
          refine w_iceq rfl (w_ite h (fun h => ?_) (fun h => ?_))
          · refine w_iconst rfl (by decide) ?_
            exact w_W.less h (w_sub [true, true, true, false, false] rfl)
          · refine w_iconst rfl (by decide) ?_
            refine w_goto rfl ?_
            exact w_W.less h (w_sub [true, true, true, false, false] rfl)
theorem xr_m_object_59 {d : Nat} {l1 l2 s0 : Int} {m : w_M} {Q : Int → w_M → Prop} (h : if s0 = 0 then (xc_m_fail d 4 (m 428 23) m (fun r1 m1 => Q (-1) m1)) else (if (m 428 22) = 3 then (xc_m_isWord d 266 m (fun r2 m2 => if r2 = 0 then (xc_m_isWord d 268 m2 (fun r3 m3 => if r3 = 0 then (xc_m_isWord d 270 m3 (fun r4 m4 => if r4 = 0 then (xc_m_fail d 4 (m4 428 23) m4 (fun r5 m5 => Q (-1) m5)) else (xp_m_object_113 d l1 l2 m4 Q))) else (xp_m_object_113 d l1 l2 m3 Q))) else (xp_m_object_113 d l1 l2 m2 Q))) else (xp_m_object_113 d l1 l2 m Q))) : xp_m_object_59 d l1 l2 s0 m Q := by
  refine w_istore_n (lv' := [some (2, 428), some (0, l1), some (0, l2), some (0, s0), none]) rfl rfl rfl ?_
  refine w_iload_n rfl rfl ?_
  refine w_ifeq rfl (w_ite h (fun h => ?_) (fun h => ?_))
  · refine w_aload_n rfl rfl ?_
    refine w_iconst rfl (by decide) ?_
    refine w_aload_n rfl rfl ?_
    refine x_gfI rfl s_428 rfl (kk := 23) rfl rfl ?_
    refine w_callV (t' := 3) [(0, m 428 23), (0, 4)] [] rfl s_428 rfl rfl ?_
    refine w_C.more (Q := fun r1 m1 => _) h (fun r1 m1 h => ?_)
    replace h := id h
    refine w_iconst rfl (by decide) ?_
    exact w_iret rfl rfl h
  · refine w_aload_n rfl rfl ?_
    refine x_gfI rfl s_428 rfl (kk := 22) rfl rfl ?_
    refine w_iconst rfl (by decide) ?_
    refine w_icne rfl (w_ite h (fun h => ?_) (fun h => ?_))
    · refine w_aload_n rfl rfl ?_
      refine w_ldcwR rfl ?_
      refine w_callV (t' := 0) [(2, 266)] [] rfl s_428 rfl rfl ?_
      refine w_C.more (Q := fun r2 m2 => _) h (fun r2 m2 h => ?_)
      replace h := id h
      refine w_ifne rfl (w_ite h (fun h => ?_) (fun h => ?_))
      · refine w_aload_n rfl rfl ?_
        refine w_ldcwR rfl ?_
        refine w_callV (t' := 0) [(2, 268)] [] rfl s_428 rfl rfl ?_
        refine w_C.more (Q := fun r3 m3 => _) h (fun r3 m3 h => ?_)
        replace h := id h
        refine w_ifne rfl (w_ite h (fun h => ?_) (fun h => ?_))
        · refine w_aload_n rfl rfl ?_
          refine w_ldcwR rfl ?_
          refine w_callV (t' := 0) [(2, 270)] [] rfl s_428 rfl rfl ?_
          refine w_C.more (Q := fun r4 m4 => _) h (fun r4 m4 h => ?_)
          replace h := id h
          refine w_ifne rfl (w_ite h (fun h => ?_) (fun h => ?_))
          · refine w_aload_n rfl rfl ?_
            refine w_iconst rfl (by decide) ?_
            refine w_aload_n rfl rfl ?_
            refine x_gfI rfl s_428 rfl (kk := 23) rfl rfl ?_
            refine w_callV (t' := 3) [(0, m4 428 23), (0, 4)] [] rfl s_428 rfl rfl ?_
            refine w_C.more (Q := fun r5 m5 => _) h (fun r5 m5 h => ?_)
            replace h := id h
            refine w_iconst rfl (by decide) ?_
            exact w_iret rfl rfl h
          · exact w_W.less h (w_sub [true, true, true, false, false] rfl)
        · exact w_W.less h (w_sub [true, true, true, false, false] rfl)
      · exact w_W.less h (w_sub [true, true, true, false, false] rfl)
    · exact w_W.less h (w_sub [true, true, true, false, false] rfl)
theorem xr_m_object_113 {d : Nat} {l1 l2 : Int} {m : w_M} {Q : Int → w_M → Prop} (h : if (m 428 22) = 6 then (if l1 = 20 then (xc_m_fail d 5 (m 428 23) m (fun r1 m1 => Q (-1) m1)) else (xp_m_object_148 d l1 l2 m Q)) else (if (m 428 22) = 8 then (if l1 = 20 then (xc_m_fail d 5 (m 428 23) m (fun r2 m2 => Q (-1) m2)) else (xp_m_object_148 d l1 l2 m Q)) else (xp_m_object_148 d l1 l2 m Q))) : xp_m_object_113 d l1 l2 m Q := by
  refine w_aload_n rfl rfl ?_
  refine x_gfI rfl s_428 rfl (kk := 22) rfl rfl ?_
  refine w_bipush rfl (by decide) ?_
  refine w_iceq rfl (w_ite h (fun h => ?_) (fun h => ?_))
  · refine w_iload_n rfl rfl ?_
    refine w_bipush rfl (by decide) ?_
    refine w_icne rfl (w_ite h (fun h => ?_) (fun h => ?_))
    · refine w_aload_n rfl rfl ?_
      refine w_iconst rfl (by decide) ?_
      refine w_aload_n rfl rfl ?_
      refine x_gfI rfl s_428 rfl (kk := 23) rfl rfl ?_
      refine w_callV (t' := 3) [(0, m 428 23), (0, 5)] [] rfl s_428 rfl rfl ?_
      refine w_C.more (Q := fun r1 m1 => _) h (fun r1 m1 h => ?_)
      replace h := id h
      refine w_iconst rfl (by decide) ?_
      exact w_iret rfl rfl h
    · exact w_W.less h (w_sub [true, true, true, false, false] rfl)
  · refine w_aload_n rfl rfl ?_
    refine x_gfI rfl s_428 rfl (kk := 22) rfl rfl ?_
    refine w_bipush rfl (by decide) ?_
    refine w_icne rfl (w_ite h (fun h => ?_) (fun h => ?_))
    · refine w_iload_n rfl rfl ?_
      refine w_bipush rfl (by decide) ?_
      refine w_icne rfl (w_ite h (fun h => ?_) (fun h => ?_))
      · refine w_aload_n rfl rfl ?_
        refine w_iconst rfl (by decide) ?_
        refine w_aload_n rfl rfl ?_
        refine x_gfI rfl s_428 rfl (kk := 23) rfl rfl ?_
        refine w_callV (t' := 3) [(0, m 428 23), (0, 5)] [] rfl s_428 rfl rfl ?_
        refine w_C.more (Q := fun r2 m2 => _) h (fun r2 m2 h => ?_)
        replace h := id h
        refine w_iconst rfl (by decide) ?_
        exact w_iret rfl rfl h
      · exact w_W.less h (w_sub [true, true, true, false, false] rfl)
    · exact w_W.less h (w_sub [true, true, true, false, false] rfl)
theorem xr_m_object_148 {d : Nat} {l1 l2 : Int} {m : w_M} {Q : Int → w_M → Prop} (h : xc_m_counted d m (fun r1 m1 => xc_m_good d m1 (fun r2 m2 => if r2 = 0 then (Q (-1) m2) else (if (m2 428 22) = 1 then (if l2 = 0 then (xc_m_newNode d 2 (m2 428 24) m2 (fun r3 m3 => Q r3 m3)) else (if (m2 428 25) = 0 then (xc_m_wholeOrReference d m2 (fun r4 m4 => Q r4 m4)) else (xc_m_newNode d 2 (m2 428 24) m2 (fun r5 m5 => Q r5 m5)))) else (if (m2 428 22) = 2 then (xc_m_newNode d 3 (m2 428 24) m2 (fun r6 m6 => Q r6 m6)) else (if (m2 428 22) = 3 then (xc_m_isWord d 266 m2 (fun r7 m7 => if r7 = 0 then (xc_m_isWord d 268 m7 (fun r8 m8 => if r8 = 0 then (xc_m_newNode d 1 0 m8 (fun r9 m9 => Q r9 m9)) else (xc_m_newNode d 1 1 m8 (fun r10 m10 => Q r10 m10)))) else (xc_m_isWord d 268 m7 (fun r11 m11 => if r11 = 0 then (xc_m_newNode d 0 0 m11 (fun r12 m12 => Q r12 m12)) else (xc_m_newNode d 0 1 m11 (fun r13 m13 => Q r13 m13)))))) else (if (m2 428 22) = 4 then (if (m2 428 22) = 4 then (xp_m_object_291 d 4 m2 Q) else (xp_m_object_291 d 5 m2 Q)) else (if (m2 428 22) = 5 then (if (m2 428 22) = 4 then (xp_m_object_291 d 4 m2 Q) else (xp_m_object_291 d 5 m2 Q)) else (if (m2 428 22) = 6 then (xc_m_array d (w_32 (l1 + 1)) l2 m2 (fun r14 m14 => Q r14 m14)) else (xc_m_dict d (w_32 (l1 + 1)) l2 m2 (fun r15 m15 => Q r15 m15))))))))))) : xp_m_object_148 d l1 l2 m Q := by
  refine w_aload_n rfl rfl ?_
  refine w_callV (t' := 3) [] [] rfl s_428 rfl rfl ?_
  refine w_C.more (Q := fun r1 m1 => _) h (fun r1 m1 h => ?_)
  replace h := id h
  refine w_aload_n rfl rfl ?_
  refine w_callV (t' := 0) [] [] rfl s_428 rfl rfl ?_
  refine w_C.more (Q := fun r2 m2 => _) h (fun r2 m2 h => ?_)
  replace h := id h
  refine w_ifne rfl (w_ite h (fun h => ?_) (fun h => ?_))
  · refine w_iconst rfl (by decide) ?_
    exact w_iret rfl rfl h
  · refine w_aload_n rfl rfl ?_
    refine x_gfI rfl s_428 rfl (kk := 22) rfl rfl ?_
    refine w_tswitch (pd := 344) [(1, 239), (2, 267), (3, 204), (4, 277), (5, 277), (6, 335)] rfl rfl (by decide) (w_tsw_ok _ _ (by decide)) (by decide) ?_
    refine w_ite h (fun h => ?_) (fun h => ?_)
    · refine w_iload_n rfl rfl ?_
      refine w_ifeq rfl (w_ite h (fun h => ?_) (fun h => ?_))
      · refine w_aload_n rfl rfl ?_
        refine w_iconst rfl (by decide) ?_
        refine w_aload_n rfl rfl ?_
        refine x_gfI rfl s_428 rfl (kk := 24) rfl rfl ?_
        refine w_callV (t' := 0) [(0, m2 428 24), (0, 2)] [] rfl s_428 rfl rfl ?_
        refine w_C.more (Q := fun r3 m3 => _) h (fun r3 m3 h => ?_)
        replace h := id h
        exact w_iret rfl rfl h
      · refine w_aload_n rfl rfl ?_
        refine x_gfZ rfl s_428 rfl (kk := 25) rfl rfl ?_
        refine w_ifne rfl (w_ite h (fun h => ?_) (fun h => ?_))
        · refine w_aload_n rfl rfl ?_
          refine w_callV (t' := 0) [] [] rfl s_428 rfl rfl ?_
          refine w_C.more (Q := fun r4 m4 => _) h (fun r4 m4 h => ?_)
          replace h := id h
          refine w_goto rfl ?_
          exact w_iret rfl rfl h
        · refine w_aload_n rfl rfl ?_
          refine w_iconst rfl (by decide) ?_
          refine w_aload_n rfl rfl ?_
          refine x_gfI rfl s_428 rfl (kk := 24) rfl rfl ?_
          refine w_callV (t' := 0) [(0, m2 428 24), (0, 2)] [] rfl s_428 rfl rfl ?_
          refine w_C.more (Q := fun r5 m5 => _) h (fun r5 m5 h => ?_)
          replace h := id h
          exact w_iret rfl rfl h
    ·
      refine w_ite h (fun h => ?_) (fun h => ?_)
      · refine w_aload_n rfl rfl ?_
        refine w_iconst rfl (by decide) ?_
        refine w_aload_n rfl rfl ?_
        refine x_gfI rfl s_428 rfl (kk := 24) rfl rfl ?_
        refine w_callV (t' := 0) [(0, m2 428 24), (0, 3)] [] rfl s_428 rfl rfl ?_
        refine w_C.more (Q := fun r6 m6 => _) h (fun r6 m6 h => ?_)
        replace h := id h
        exact w_iret rfl rfl h
      ·
        refine w_ite h (fun h => ?_) (fun h => ?_)
        · refine w_aload_n rfl rfl ?_
          refine w_aload_n rfl rfl ?_
          refine w_ldcwR rfl ?_
          refine w_callV (t' := 0) [(2, 266)] [(2, 428)] rfl s_428 rfl rfl ?_
          refine w_C.more (Q := fun r7 m7 => _) h (fun r7 m7 h => ?_)
          replace h := id h
          refine w_ifeq rfl (w_ite h (fun h => ?_) (fun h => ?_))
          · refine w_iconst rfl (by decide) ?_
            refine w_aload_n rfl rfl ?_
            refine w_ldcwR rfl ?_
            refine w_callV (t' := 0) [(2, 268)] [(0, 1), (2, 428)] rfl s_428 rfl rfl ?_
            refine w_C.more (Q := fun r8 m8 => _) h (fun r8 m8 h => ?_)
            replace h := id h
            refine w_ifeq rfl (w_ite h (fun h => ?_) (fun h => ?_))
            · refine w_iconst rfl (by decide) ?_
              refine w_callV (t' := 0) [(0, 0), (0, 1)] [] rfl s_428 rfl rfl ?_
              refine w_C.more (Q := fun r9 m9 => _) h (fun r9 m9 h => ?_)
              replace h := id h
              exact w_iret rfl rfl h
            · refine w_iconst rfl (by decide) ?_
              refine w_goto rfl ?_
              refine w_callV (t' := 0) [(0, 1), (0, 1)] [] rfl s_428 rfl rfl ?_
              refine w_C.more (Q := fun r10 m10 => _) h (fun r10 m10 h => ?_)
              replace h := id h
              exact w_iret rfl rfl h
          · refine w_iconst rfl (by decide) ?_
            refine w_goto rfl ?_
            refine w_aload_n rfl rfl ?_
            refine w_ldcwR rfl ?_
            refine w_callV (t' := 0) [(2, 268)] [(0, 0), (2, 428)] rfl s_428 rfl rfl ?_
            refine w_C.more (Q := fun r11 m11 => _) h (fun r11 m11 h => ?_)
            replace h := id h
            refine w_ifeq rfl (w_ite h (fun h => ?_) (fun h => ?_))
            · refine w_iconst rfl (by decide) ?_
              refine w_callV (t' := 0) [(0, 0), (0, 0)] [] rfl s_428 rfl rfl ?_
              refine w_C.more (Q := fun r12 m12 => _) h (fun r12 m12 h => ?_)
              replace h := id h
              exact w_iret rfl rfl h
            · refine w_iconst rfl (by decide) ?_
              refine w_goto rfl ?_
              refine w_callV (t' := 0) [(0, 1), (0, 0)] [] rfl s_428 rfl rfl ?_
              refine w_C.more (Q := fun r13 m13 => _) h (fun r13 m13 h => ?_)
              replace h := id h
              exact w_iret rfl rfl h
        ·
          refine w_ite h (fun h => ?_) (fun h => ?_)
          · refine w_aload_n rfl rfl ?_
            refine w_aload_n rfl rfl ?_
            refine x_gfI rfl s_428 rfl (kk := 22) rfl rfl ?_
            refine w_iconst rfl (by decide) ?_
            refine w_icne rfl (w_ite h (fun h => ?_) (fun h => ?_))
            · refine w_iconst rfl (by decide) ?_
              refine w_goto rfl ?_
              exact w_W.less h (w_sub [true, false, false, false, false] rfl)
            · refine w_iconst rfl (by decide) ?_
              exact w_W.less h (w_sub [true, false, false, false, false] rfl)
          ·
            refine w_ite h (fun h => ?_) (fun h => ?_)
            · refine w_aload_n rfl rfl ?_
              refine w_aload_n rfl rfl ?_
              refine x_gfI rfl s_428 rfl (kk := 22) rfl rfl ?_
              refine w_iconst rfl (by decide) ?_
              refine w_icne rfl (w_ite h (fun h => ?_) (fun h => ?_))
              · refine w_iconst rfl (by decide) ?_
                refine w_goto rfl ?_
                exact w_W.less h (w_sub [true, false, false, false, false] rfl)
              · refine w_iconst rfl (by decide) ?_
                exact w_W.less h (w_sub [true, false, false, false, false] rfl)
            ·
              refine w_ite h (fun h => ?_) (fun h => ?_)
              · refine w_aload_n rfl rfl ?_
                refine w_iload_n rfl rfl ?_
                refine w_iconst rfl (by decide) ?_
                refine w_iadd rfl ?_
                refine w_iload_n rfl rfl ?_
                refine w_callV (t' := 0) [(0, l2), (0, w_32 (l1 + 1))] [] rfl s_428 rfl rfl ?_
                refine w_C.more (Q := fun r14 m14 => _) h (fun r14 m14 h => ?_)
                replace h := id h
                exact w_iret rfl rfl h
              · refine w_aload_n rfl rfl ?_
                refine w_iload_n rfl rfl ?_
                refine w_iconst rfl (by decide) ?_
                refine w_iadd rfl ?_
                refine w_iload_n rfl rfl ?_
                refine w_callV (t' := 0) [(0, l2), (0, w_32 (l1 + 1))] [] rfl s_428 rfl rfl ?_
                refine w_C.more (Q := fun r15 m15 => _) h (fun r15 m15 h => ?_)
                replace h := id h
                exact w_iret rfl rfl h
theorem xr_m_object_291 {d : Nat} {s1 : Int} {m : w_M} {Q : Int → w_M → Prop} (h : xc_m_newNode d s1 0 m (fun r1 m1 => ((0 : Int) ≤ r1 ∧ r1 < 40000) ∧ (((0 : Int) ≤ r1 ∧ r1 < 40000) ∧ (Q r1 (w_up (w_up (w_up m1 436 r1 (m1 428 17)) 435 r1 (m1 428 26)) 428 17 (w_32 ((m1 428 17) + (m1 428 26)))))))) : xp_m_object_291 d s1 m Q := by
  refine w_iconst rfl (by decide) ?_
  refine w_callV (t' := 0) [(0, 0), (0, s1)] [] rfl s_428 rfl rfl ?_
  refine w_C.more (Q := fun r1 m1 => _) h (fun r1 m1 h => ?_)
  replace h := id h
  refine w_istore (lv' := [some (2, 428), none, none, none, some (0, r1)]) rfl rfl rfl ?_
  refine w_aload_n rfl rfl ?_
  refine w_gfC (c := 436) rfl s_428 rfl rfl ?_
  refine w_iload rfl rfl ?_
  refine w_aload_n rfl rfl ?_
  refine x_gfI rfl s_428 rfl (kk := 17) rfl rfl ?_
  refine w_iast rfl s_436 (w_EM (by decide)) (n := 40000) rfl h.1 ?_
  replace h := h.2
  refine w_aload_n rfl rfl ?_
  refine w_gfC (c := 435) rfl s_428 rfl rfl ?_
  refine w_iload rfl rfl ?_
  refine w_aload_n rfl rfl ?_
  refine x_gfI rfl s_428 rfl (kk := 26) rfl (w_up_ne (by decide)) ?_
  refine w_iast rfl s_435 (w_EM (by decide)) (n := 40000) rfl h.1 ?_
  replace h := h.2
  refine w_aload_n rfl rfl ?_
  refine w_dup rfl (show (2 : Nat) ≠ 1 by decide) ?_
  refine x_gfI rfl s_428 rfl (kk := 17) rfl ((w_up_ne (by decide)).trans (w_up_ne (by decide))) ?_
  refine w_aload_n rfl rfl ?_
  refine x_gfI rfl s_428 rfl (kk := 26) rfl ((w_up_ne (by decide)).trans (w_up_ne (by decide))) ?_
  refine w_iadd rfl ?_
  refine w_pfI rfl s_428 rfl (w_EM (by decide)) rfl (kk := 17) rfl ?_
  refine w_iload rfl rfl ?_
  exact w_iret rfl rfl h
theorem xr_m_objects {d : Nat} {m : w_M} {Q : Int → w_M → Prop} (h : if (m 428 6) = 0 then (Q (-1) m) else (xp_m_objects_13 d 0 0 m Q)) : xc_m_objects (d + 1) m Q := by
  refine w_enter (q := 2) (lv := [some (2, 428), none, none]) rfl rfl rfl ?_
  refine w_aload_n rfl rfl ?_
  refine x_gfZ rfl s_428 rfl (kk := 6) rfl rfl ?_
  refine w_ifne rfl (w_ite h (fun h => ?_) (fun h => ?_))
  · refine w_iconst rfl (by decide) ?_
    exact w_iret rfl rfl h
  · refine w_iconst rfl (by decide) ?_
    refine w_istore_n (lv' := [some (2, 428), some (0, 0), none]) rfl rfl rfl ?_
    refine w_iconst rfl (by decide) ?_
    refine w_istore_n (lv' := [some (2, 428), some (0, 0), some (0, 0)]) rfl rfl rfl ?_
    exact w_W.less h (w_sub [true, true, true] rfl)
theorem xr_m_objects_13 {d : Nat} {l1 l2 : Int} {m : w_M} {Q : Int → w_M → Prop} (h : if l2 < (m 428 60) then (((0 : Int) ≤ l2 ∧ l2 < 200) ∧ (if (m 451 l2) = 0 then (xp_m_objects_13 d (w_32 (l1 + 0)) (w_32 (l2 + 1)) m Q) else (xp_m_objects_13 d (w_32 (l1 + 1)) (w_32 (l2 + 1)) m Q))) else (Q l1 m)) : xp_m_objects_13 d l1 l2 m Q := by
  refine w_iload_n rfl rfl ?_
  refine w_aload_n rfl rfl ?_
  refine x_gfI rfl s_428 rfl (kk := 60) rfl rfl ?_
  refine w_icge rfl (w_ite h (fun h => ?_) (fun h => ?_))
  · refine w_iload_n rfl rfl ?_
    refine w_aload_n rfl rfl ?_
    refine w_gfC (c := 451) rfl s_428 rfl rfl ?_
    refine w_iload_n rfl rfl ?_
    refine w_bald rfl s_451 (n := 200) rfl h.1 ?_
    replace h := h.2
    refine w_ifeq rfl (w_ite h (fun h => ?_) (fun h => ?_))
    · refine w_iconst rfl (by decide) ?_
      refine w_iadd rfl ?_
      refine w_istore_n (lv' := [some (2, 428), some (0, w_32 (l1 + 0)), some (0, l2)]) rfl rfl rfl ?_
      refine w_iinc (lv' := [some (2, 428), some (0, w_32 (l1 + 0)), some (0, w_32 (l2 + 1))]) rfl rfl rfl rfl ?_
      refine w_goto rfl ?_
      exact w_W.less h (w_sub [true, true, true] rfl)
    · refine w_iconst rfl (by decide) ?_
      refine w_goto rfl ?_
      refine w_iadd rfl ?_
      refine w_istore_n (lv' := [some (2, 428), some (0, w_32 (l1 + 1)), some (0, l2)]) rfl rfl rfl ?_
      refine w_iinc (lv' := [some (2, 428), some (0, w_32 (l1 + 1)), some (0, w_32 (l2 + 1))]) rfl rfl rfl rfl ?_
      refine w_goto rfl ?_
      exact w_W.less h (w_sub [true, true, true] rfl)
  · refine w_iload_n rfl rfl ?_
    exact w_iret rfl rfl h
theorem xr_m_operandsTo {d : Nat} {l1 : Int} {m : w_M} {Q : Int → w_M → Prop} (h : xp_m_operandsTo_2 d l1 0 m Q) : xc_m_operandsTo (d + 1) l1 m Q := by
  refine w_enter (q := 1) (lv := [some (2, 428), some (2, l1), none]) rfl rfl rfl ?_
  refine w_iconst rfl (by decide) ?_
  refine w_istore_n (lv' := [some (2, 428), some (2, l1), some (0, 0)]) rfl rfl rfl ?_
  exact w_W.less h (w_sub [true, true, true] rfl)
theorem xr_m_operandsTo_2 {d : Nat} {l1 l2 : Int} {m : w_M} {Q : Int → w_M → Prop} (h : if l2 < 6 then (((0 : Int) ≤ l2 ∧ l2 < 40) ∧ (xc_m_unitsOf d (m 473 l2) m (fun r1 m1 => w_isA 0 l1 ∧ w_wr (w_G0 sM) (Int.toNat l1) ∧ ((0 : Int) ≤ l2 ∧ l2 < w_ln l1) ∧ (xp_m_operandsTo_2 d l1 (w_32 (l2 + 1)) (w_up m1 l1 l2 r1) Q)))) else (Q 0 m)) : xp_m_operandsTo_2 d l1 l2 m Q := by
  refine w_iload_n rfl rfl ?_
  refine w_bipush rfl (by decide) ?_
  refine w_icge rfl (w_ite h (fun h => ?_) (fun h => ?_))
  · refine w_aload_n rfl rfl ?_
    refine w_iload_n rfl rfl ?_
    refine w_aload_n rfl rfl ?_
    refine w_aload_n rfl rfl ?_
    refine w_gfC (c := 473) rfl s_428 rfl rfl ?_
    refine w_iload_n rfl rfl ?_
    refine w_iald rfl s_473 (n := 40) rfl h.1 ?_
    replace h := h.2
    refine w_callV (t' := 0) [(0, m 473 l2)] [(0, l2), (2, l1)] rfl s_428 rfl rfl ?_
    refine w_C.more (Q := fun r1 m1 => _) h (fun r1 m1 h => ?_)
    replace h := id h
    refine x_iast rfl h.1 h.2.1 h.2.2.1 ?_
    replace h := h.2.2.2
    refine w_iinc (lv' := [some (2, 428), some (2, l1), some (0, w_32 (l2 + 1))]) rfl rfl rfl rfl ?_
    refine w_goto rfl ?_
    exact w_W.less h (w_sub [true, true, true] rfl)
  · exact w_vret rfl rfl h
theorem xr_m_operator {d : Nat} {m : w_M} {Q : Int → w_M → Prop} (h : xc_m_which d m (fun r1 m1 => if r1 = 0 then (xc_m_fail d 11 (m1 428 106) m1 (fun r2 m2 => xp_m_operator_19 d r1 m2 Q)) else (xp_m_operator_19 d r1 m1 Q))) : xc_m_operator (d + 1) m Q := by
  refine w_enter (q := 9) (lv := [some (2, 428), none, none, none, none, none, none, none, none, none]) rfl rfl rfl ?_
  refine w_aload_n rfl rfl ?_
  refine w_callV (t' := 0) [] [] rfl s_428 rfl rfl ?_
  refine w_C.more (Q := fun r1 m1 => _) h (fun r1 m1 h => ?_)
  replace h := id h
  refine w_istore_n (lv' := [some (2, 428), some (0, r1), none, none, none, none, none, none, none, none]) rfl rfl rfl ?_
  refine w_iload_n rfl rfl ?_
  refine w_ifne rfl (w_ite h (fun h => ?_) (fun h => ?_))
  · refine w_aload_n rfl rfl ?_
    refine w_bipush rfl (by decide) ?_
    refine w_aload_n rfl rfl ?_
    refine x_gfI rfl s_428 rfl (kk := 106) rfl rfl ?_
    refine w_callV (t' := 3) [(0, m1 428 106), (0, 11)] [] rfl s_428 rfl rfl ?_
    refine w_C.more (Q := fun r2 m2 => _) h (fun r2 m2 h => ?_)
    replace h := id h
    exact w_W.less h (w_sub [true, true, false, false, false, false, false, false, false, false] rfl)
  · exact w_W.less h (w_sub [true, true, false, false, false, false, false, false, false, false] rfl)
theorem xr_m_operator_19 {d : Nat} {l1 : Int} {m : w_M} {Q : Int → w_M → Prop} (h : if l1 = 1 then (xc_m_word d m (fun r1 m1 => w_isS r1 ∧ (xc_js_equals sM d r1 94 m1 (fun r2 m2 => if r2 = 0 then (w_isS r1 ∧ (xc_js_equals sM d r1 96 m2 (fun r3 m3 => if r3 = 0 then (w_isS r1 ∧ (xc_js_equals sM d r1 104 m3 (fun r4 m4 => if r4 = 0 then (w_isS r1 ∧ (xc_js_equals sM d r1 98 m4 (fun r5 m5 => if r5 = 0 then (xp_m_operator_71 d r1 0 m5 Q) else (xp_m_operator_71 d r1 1 m5 Q)))) else (xp_m_operator_71 d r1 1 m4 Q)))) else (xp_m_operator_71 d r1 1 m3 Q)))) else (xp_m_operator_71 d r1 1 m2 Q))))) else (Q 0 m)) : xp_m_operator_19 d l1 m Q := by
  refine w_iload_n rfl rfl ?_
  refine w_iconst rfl (by decide) ?_
  refine w_iceq rfl (w_ite h (fun h => ?_) (fun h => ?_))
  · refine w_aload_n rfl rfl ?_
    refine w_callV (t' := 2) [] [] rfl s_428 rfl rfl ?_
    refine w_C.more (Q := fun r1 m1 => _) h (fun r1 m1 h => ?_)
    replace h := id h
    refine w_astore_n (lv' := [some (2, 428), some (0, l1), some (2, r1), none, none, none, none, none, none, none]) rfl rfl rfl ?_
    refine w_aload_n rfl rfl ?_
    refine w_ldcR rfl ?_
    refine w_callV (t' := 0) [(2, 94)] [] rfl (w_isS_s h.1) rfl rfl ?_
    replace h := h.2
    refine w_C.more (Q := fun r2 m2 => _) h (fun r2 m2 h => ?_)
    replace h := id h
    refine w_ifne rfl (w_ite h (fun h => ?_) (fun h => ?_))
    · refine w_aload_n rfl rfl ?_
      refine w_ldcR rfl ?_
      refine w_callV (t' := 0) [(2, 96)] [] rfl (w_isS_s h.1) rfl rfl ?_
      replace h := h.2
      refine w_C.more (Q := fun r3 m3 => _) h (fun r3 m3 h => ?_)
      replace h := id h
      refine w_ifne rfl (w_ite h (fun h => ?_) (fun h => ?_))
      · refine w_aload_n rfl rfl ?_
        refine w_ldcR rfl ?_
        refine w_callV (t' := 0) [(2, 104)] [] rfl (w_isS_s h.1) rfl rfl ?_
        replace h := h.2
        refine w_C.more (Q := fun r4 m4 => _) h (fun r4 m4 h => ?_)
        replace h := id h
        refine w_ifne rfl (w_ite h (fun h => ?_) (fun h => ?_))
        · refine w_aload_n rfl rfl ?_
          refine w_ldcR rfl ?_
          refine w_callV (t' := 0) [(2, 98)] [] rfl (w_isS_s h.1) rfl rfl ?_
          replace h := h.2
          refine w_C.more (Q := fun r5 m5 => _) h (fun r5 m5 h => ?_)
          replace h := id h
          refine w_ifeq rfl (w_ite h (fun h => ?_) (fun h => ?_))
          · refine w_iconst rfl (by decide) ?_
            exact w_W.less h (w_sub [true, false, true, false, false, false, false, false, false, false] rfl)
          · refine w_iconst rfl (by decide) ?_
            refine w_goto rfl ?_
            exact w_W.less h (w_sub [true, false, true, false, false, false, false, false, false, false] rfl)
        · refine w_iconst rfl (by decide) ?_
          refine w_goto rfl ?_
          exact w_W.less h (w_sub [true, false, true, false, false, false, false, false, false, false] rfl)
      · refine w_iconst rfl (by decide) ?_
        refine w_goto rfl ?_
        exact w_W.less h (w_sub [true, false, true, false, false, false, false, false, false, false] rfl)
    · refine w_iconst rfl (by decide) ?_
      refine w_goto rfl ?_
      exact w_W.less h (w_sub [true, false, true, false, false, false, false, false, false, false] rfl)
  · exact w_vret rfl rfl h
theorem xr_m_operator_71 {d : Nat} {l2 s0 : Int} {m : w_M} {Q : Int → w_M → Prop} (h : w_isS l2 ∧ (xc_js_equals sM d l2 100 m (fun r1 m1 => if r1 = 0 then (w_isS l2 ∧ (xc_js_equals sM d l2 108 m1 (fun r2 m2 => if r2 = 0 then (w_isS l2 ∧ (xc_js_equals sM d l2 110 m2 (fun r3 m3 => if r3 = 0 then (w_isS l2 ∧ (xc_js_equals sM d l2 106 m3 (fun r4 m4 => if r4 = 0 then (w_isS l2 ∧ (xc_js_equals sM d l2 102 m4 (fun r5 m5 => if r5 = 0 then (w_isS l2 ∧ (xc_js_equals sM d l2 120 m5 (fun r6 m6 => if r6 = 0 then (w_isS l2 ∧ (xc_js_equals sM d l2 122 m6 (fun r7 m7 => if r7 = 0 then (w_isS l2 ∧ (xc_js_equals sM d l2 124 m7 (fun r8 m8 => if r8 = 0 then (xp_m_operator_149 d l2 s0 0 m8 Q) else (xp_m_operator_149 d l2 s0 1 m8 Q)))) else (xp_m_operator_149 d l2 s0 1 m7 Q)))) else (xp_m_operator_149 d l2 s0 1 m6 Q)))) else (xp_m_operator_149 d l2 s0 1 m5 Q)))) else (xp_m_operator_149 d l2 s0 1 m4 Q)))) else (xp_m_operator_149 d l2 s0 1 m3 Q)))) else (xp_m_operator_149 d l2 s0 1 m2 Q)))) else (xp_m_operator_149 d l2 s0 1 m1 Q)))) : xp_m_operator_71 d l2 s0 m Q := by
  refine w_istore_n (lv' := [some (2, 428), none, some (2, l2), some (0, s0), none, none, none, none, none, none]) rfl rfl rfl ?_
  refine w_aload_n rfl rfl ?_
  refine w_ldcR rfl ?_
  refine w_callV (t' := 0) [(2, 100)] [] rfl (w_isS_s h.1) rfl rfl ?_
  replace h := h.2
  refine w_C.more (Q := fun r1 m1 => _) h (fun r1 m1 h => ?_)
  replace h := id h
  refine w_ifne rfl (w_ite h (fun h => ?_) (fun h => ?_))
  · refine w_aload_n rfl rfl ?_
    refine w_ldcR rfl ?_
    refine w_callV (t' := 0) [(2, 108)] [] rfl (w_isS_s h.1) rfl rfl ?_
    replace h := h.2
    refine w_C.more (Q := fun r2 m2 => _) h (fun r2 m2 h => ?_)
    replace h := id h
    refine w_ifne rfl (w_ite h (fun h => ?_) (fun h => ?_))
    · refine w_aload_n rfl rfl ?_
      refine w_ldcR rfl ?_
      refine w_callV (t' := 0) [(2, 110)] [] rfl (w_isS_s h.1) rfl rfl ?_
      replace h := h.2
      refine w_C.more (Q := fun r3 m3 => _) h (fun r3 m3 h => ?_)
      replace h := id h
      refine w_ifne rfl (w_ite h (fun h => ?_) (fun h => ?_))
      · refine w_aload_n rfl rfl ?_
        refine w_ldcR rfl ?_
        refine w_callV (t' := 0) [(2, 106)] [] rfl (w_isS_s h.1) rfl rfl ?_
        replace h := h.2
        refine w_C.more (Q := fun r4 m4 => _) h (fun r4 m4 h => ?_)
        replace h := id h
        refine w_ifne rfl (w_ite h (fun h => ?_) (fun h => ?_))
        · refine w_aload_n rfl rfl ?_
          refine w_ldcR rfl ?_
          refine w_callV (t' := 0) [(2, 102)] [] rfl (w_isS_s h.1) rfl rfl ?_
          replace h := h.2
          refine w_C.more (Q := fun r5 m5 => _) h (fun r5 m5 h => ?_)
          replace h := id h
          refine w_ifne rfl (w_ite h (fun h => ?_) (fun h => ?_))
          · refine w_aload_n rfl rfl ?_
            refine w_ldcR rfl ?_
            refine w_callV (t' := 0) [(2, 120)] [] rfl (w_isS_s h.1) rfl rfl ?_
            replace h := h.2
            refine w_C.more (Q := fun r6 m6 => _) h (fun r6 m6 h => ?_)
            replace h := id h
            refine w_ifne rfl (w_ite h (fun h => ?_) (fun h => ?_))
            · refine w_aload_n rfl rfl ?_
              refine w_ldcR rfl ?_
              refine w_callV (t' := 0) [(2, 122)] [] rfl (w_isS_s h.1) rfl rfl ?_
              replace h := h.2
              refine w_C.more (Q := fun r7 m7 => _) h (fun r7 m7 h => ?_)
              replace h := id h
              refine w_ifne rfl (w_ite h (fun h => ?_) (fun h => ?_))
              · refine w_aload_n rfl rfl ?_
                refine w_ldcR rfl ?_
                refine w_callV (t' := 0) [(2, 124)] [] rfl (w_isS_s h.1) rfl rfl ?_
                replace h := h.2
                refine w_C.more (Q := fun r8 m8 => _) h (fun r8 m8 h => ?_)
                replace h := id h
                refine w_ifeq rfl (w_ite h (fun h => ?_) (fun h => ?_))
                · refine w_iconst rfl (by decide) ?_
                  exact w_W.less h (w_sub [true, false, true, true, false, false, false, false, false, false] rfl)
                · refine w_iconst rfl (by decide) ?_
                  refine w_goto rfl ?_
                  exact w_W.less h (w_sub [true, false, true, true, false, false, false, false, false, false] rfl)
              · refine w_iconst rfl (by decide) ?_
                refine w_goto rfl ?_
                exact w_W.less h (w_sub [true, false, true, true, false, false, false, false, false, false] rfl)
            · refine w_iconst rfl (by decide) ?_
              refine w_goto rfl ?_
              exact w_W.less h (w_sub [true, false, true, true, false, false, false, false, false, false] rfl)
          · refine w_iconst rfl (by decide) ?_
            refine w_goto rfl ?_
            exact w_W.less h (w_sub [true, false, true, true, false, false, false, false, false, false] rfl)
        · refine w_iconst rfl (by decide) ?_
          refine w_goto rfl ?_
          exact w_W.less h (w_sub [true, false, true, true, false, false, false, false, false, false] rfl)
      · refine w_iconst rfl (by decide) ?_
        refine w_goto rfl ?_
        exact w_W.less h (w_sub [true, false, true, true, false, false, false, false, false, false] rfl)
    · refine w_iconst rfl (by decide) ?_
      refine w_goto rfl ?_
      exact w_W.less h (w_sub [true, false, true, true, false, false, false, false, false, false] rfl)
  · refine w_iconst rfl (by decide) ?_
    refine w_goto rfl ?_
    exact w_W.less h (w_sub [true, false, true, true, false, false, false, false, false, false] rfl)
theorem xr_m_operator_149 {d : Nat} {l2 l3 s0 : Int} {m : w_M} {Q : Int → w_M → Prop} (h : w_isS l2 ∧ (xc_js_equals sM d l2 94 m (fun r1 m1 => if r1 = 0 then (w_isS l2 ∧ (xc_js_equals sM d l2 96 m1 (fun r2 m2 => if r2 = 0 then (xp_m_operator_190 d l2 l3 s0 0 m2 Q) else (if (m2 428 102) = 0 then (xp_m_operator_190 d l2 l3 s0 1 m2 Q) else (xp_m_operator_190 d l2 l3 s0 0 m2 Q))))) else (if (m1 428 102) = 20 then (xp_m_operator_190 d l2 l3 s0 1 m1 Q) else (w_isS l2 ∧ (xc_js_equals sM d l2 96 m1 (fun r3 m3 => if r3 = 0 then (xp_m_operator_190 d l2 l3 s0 0 m3 Q) else (if (m3 428 102) = 0 then (xp_m_operator_190 d l2 l3 s0 1 m3 Q) else (xp_m_operator_190 d l2 l3 s0 0 m3 Q))))))))) : xp_m_operator_149 d l2 l3 s0 m Q := by
  refine w_istore (lv' := [some (2, 428), none, some (2, l2), some (0, l3), some (0, s0), none, none, none, none, none]) rfl rfl rfl ?_
  refine w_aload_n rfl rfl ?_
  refine w_ldcR rfl ?_
  refine w_callV (t' := 0) [(2, 94)] [] rfl (w_isS_s h.1) rfl rfl ?_
  replace h := h.2
  refine w_C.more (Q := fun r1 m1 => _) h (fun r1 m1 h => ?_)
  replace h := id h
  refine w_ifeq rfl (w_ite h (fun h => ?_) (fun h => ?_))
  · refine w_aload_n rfl rfl ?_
    refine w_ldcR rfl ?_
    refine w_callV (t' := 0) [(2, 96)] [] rfl (w_isS_s h.1) rfl rfl ?_
    replace h := h.2
    refine w_C.more (Q := fun r2 m2 => _) h (fun r2 m2 h => ?_)
    replace h := id h
    refine w_ifeq rfl (w_ite h (fun h => ?_) (fun h => ?_))
    · refine w_iconst rfl (by decide) ?_
      exact w_W.less h (w_sub [true, false, true, true, true, false, false, false, false, false] rfl)
    · refine w_aload_n rfl rfl ?_
      refine x_gfI rfl s_428 rfl (kk := 102) rfl rfl ?_
      refine w_ifne rfl (w_ite h (fun h => ?_) (fun h => ?_))
      · refine w_iconst rfl (by decide) ?_
        refine w_goto rfl ?_
        exact w_W.less h (w_sub [true, false, true, true, true, false, false, false, false, false] rfl)
      · refine w_iconst rfl (by decide) ?_
        exact w_W.less h (w_sub [true, false, true, true, true, false, false, false, false, false] rfl)
  · refine w_aload_n rfl rfl ?_
    refine x_gfI rfl s_428 rfl (kk := 102) rfl rfl ?_
    refine w_bipush rfl (by decide) ?_
    refine w_iceq rfl (w_ite h (fun h => ?_) (fun h => ?_))
    · refine w_iconst rfl (by decide) ?_
      refine w_goto rfl ?_
      exact w_W.less h (w_sub [true, false, true, true, true, false, false, false, false, false] rfl)
    · refine w_aload_n rfl rfl ?_
      refine w_ldcR rfl ?_
      refine w_callV (t' := 0) [(2, 96)] [] rfl (w_isS_s h.1) rfl rfl ?_
      replace h := h.2
      refine w_C.more (Q := fun r3 m3 => _) h (fun r3 m3 h => ?_)
      replace h := id h
      refine w_ifeq rfl (w_ite h (fun h => ?_) (fun h => ?_))
      · refine w_iconst rfl (by decide) ?_
        exact w_W.less h (w_sub [true, false, true, true, true, false, false, false, false, false] rfl)
      · refine w_aload_n rfl rfl ?_
        refine x_gfI rfl s_428 rfl (kk := 102) rfl rfl ?_
        refine w_ifne rfl (w_ite h (fun h => ?_) (fun h => ?_))
        · refine w_iconst rfl (by decide) ?_
          refine w_goto rfl ?_
          exact w_W.less h (w_sub [true, false, true, true, true, false, false, false, false, false] rfl)
        · refine w_iconst rfl (by decide) ?_
          exact w_W.less h (w_sub [true, false, true, true, true, false, false, false, false, false] rfl)
theorem xr_m_operator_190 {d : Nat} {l2 l3 l4 s0 : Int} {m : w_M} {Q : Int → w_M → Prop} (h : if l3 = 0 then (if l4 = 0 then (xp_m_operator_215 d l2 s0 m Q) else (if (m 428 103) = 0 then (xc_m_fail d 12 (m 428 106) m (fun r1 m1 => Q 0 m1)) else (xp_m_operator_215 d l2 s0 m Q))) else (if (m 428 103) = 0 then (if l4 = 0 then (xp_m_operator_215 d l2 s0 m Q) else (if (m 428 103) = 0 then (xc_m_fail d 12 (m 428 106) m (fun r2 m2 => Q 0 m2)) else (xp_m_operator_215 d l2 s0 m Q))) else (xc_m_fail d 12 (m 428 106) m (fun r3 m3 => Q 0 m3)))) : xp_m_operator_190 d l2 l3 l4 s0 m Q := by
  refine w_istore (lv' := [some (2, 428), none, some (2, l2), some (0, l3), some (0, l4), some (0, s0), none, none, none, none]) rfl rfl rfl ?_
  refine w_iload_n rfl rfl ?_
  refine w_ifeq rfl (w_ite h (fun h => ?_) (fun h => ?_))
  · refine w_iload rfl rfl ?_
    refine w_ifeq rfl (w_ite h (fun h => ?_) (fun h => ?_))
    · exact w_W.less h (w_sub [true, false, true, false, false, true, false, false, false, false] rfl)
    · refine w_aload_n rfl rfl ?_
      refine x_gfZ rfl s_428 rfl (kk := 103) rfl rfl ?_
      refine w_ifeq rfl (w_ite h (fun h => ?_) (fun h => ?_))
      · refine w_aload_n rfl rfl ?_
        refine w_bipush rfl (by decide) ?_
        refine w_aload_n rfl rfl ?_
        refine x_gfI rfl s_428 rfl (kk := 106) rfl rfl ?_
        refine w_callV (t' := 3) [(0, m 428 106), (0, 12)] [] rfl s_428 rfl rfl ?_
        refine w_C.more (Q := fun r1 m1 => _) h (fun r1 m1 h => ?_)
        replace h := id h
        exact w_vret rfl rfl h
      · exact w_W.less h (w_sub [true, false, true, false, false, true, false, false, false, false] rfl)
  · refine w_aload_n rfl rfl ?_
    refine x_gfZ rfl s_428 rfl (kk := 103) rfl rfl ?_
    refine w_ifne rfl (w_ite h (fun h => ?_) (fun h => ?_))
    · refine w_iload rfl rfl ?_
      refine w_ifeq rfl (w_ite h (fun h => ?_) (fun h => ?_))
      · exact w_W.less h (w_sub [true, false, true, false, false, true, false, false, false, false] rfl)
      · refine w_aload_n rfl rfl ?_
        refine x_gfZ rfl s_428 rfl (kk := 103) rfl rfl ?_
        refine w_ifeq rfl (w_ite h (fun h => ?_) (fun h => ?_))
        · refine w_aload_n rfl rfl ?_
          refine w_bipush rfl (by decide) ?_
          refine w_aload_n rfl rfl ?_
          refine x_gfI rfl s_428 rfl (kk := 106) rfl rfl ?_
          refine w_callV (t' := 3) [(0, m 428 106), (0, 12)] [] rfl s_428 rfl rfl ?_
          refine w_C.more (Q := fun r2 m2 => _) h (fun r2 m2 h => ?_)
          replace h := id h
          exact w_vret rfl rfl h
        · exact w_W.less h (w_sub [true, false, true, false, false, true, false, false, false, false] rfl)
    · refine w_aload_n rfl rfl ?_
      refine w_bipush rfl (by decide) ?_
      refine w_aload_n rfl rfl ?_
      refine x_gfI rfl s_428 rfl (kk := 106) rfl rfl ?_
      refine w_callV (t' := 3) [(0, m 428 106), (0, 12)] [] rfl s_428 rfl rfl ?_
      refine w_C.more (Q := fun r3 m3 => _) h (fun r3 m3 h => ?_)
      replace h := id h
      exact w_vret rfl rfl h
theorem xr_m_operator_215 {d : Nat} {l2 l5 : Int} {m : w_M} {Q : Int → w_M → Prop} (h : if l5 = 0 then (w_isS l2 ∧ (xc_js_hashCode sM d l2 m (fun r1 m1 => if r1 = 39 then (w_isS l2 ∧ (xc_js_equals sM d l2 122 m1 (fun r2 m2 => if r2 = 0 then (xp_m_operator_618 d (-1) m2 Q) else (xp_m_operator_618 d 14 m2 Q)))) else (if r1 = 81 then (w_isS l2 ∧ (xc_js_equals sM d l2 96 m1 (fun r3 m3 => if r3 = 0 then (xp_m_operator_618 d (-1) m3 Q) else (xp_m_operator_618 d 1 m3 Q)))) else (if r1 = 113 then (w_isS l2 ∧ (xc_js_equals sM d l2 94 m1 (fun r4 m4 => if r4 = 0 then (xp_m_operator_618 d (-1) m4 Q) else (xp_m_operator_618 d 0 m4 Q)))) else (if r1 = 2130 then (w_isS l2 ∧ (xc_js_equals sM d l2 98 m1 (fun r5 m5 => if r5 = 0 then (xp_m_operator_618 d (-1) m5 Q) else (xp_m_operator_618 d 2 m5 Q)))) else (if r1 = 2223 then (w_isS l2 ∧ (xc_js_equals sM d l2 100 m1 (fun r6 m6 => if r6 = 0 then (xp_m_operator_618 d (-1) m6 Q) else (xp_m_operator_618 d 3 m6 Q)))) else (if r1 = 2646 then (w_isS l2 ∧ (xc_js_equals sM d l2 102 m1 (fun r7 m7 => if r7 = 0 then (xp_m_operator_618 d (-1) m7 Q) else (xp_m_operator_618 d 12 m7 Q)))) else (if r1 = 2672 then (w_isS l2 ∧ (xc_js_equals sM d l2 110 m1 (fun r8 m8 => if r8 = 0 then (xp_m_operator_618 d (-1) m8 Q) else (xp_m_operator_618 d 11 m8 Q)))) else (if r1 = 2680 then (w_isS l2 ∧ (xc_js_equals sM d l2 116 m1 (fun r9 m9 => if r9 = 0 then (xp_m_operator_618 d (-1) m9 Q) else (xp_m_operator_618 d 8 m9 Q)))) else (if r1 = 2703 then (w_isS l2 ∧ (xc_js_equals sM d l2 112 m1 (fun r10 m10 => if r10 = 0 then (xp_m_operator_618 d (-1) m10 Q) else (xp_m_operator_618 d 6 m10 Q)))) else (if r1 = 2704 then (w_isS l2 ∧ (xc_js_equals sM d l2 108 m1 (fun r11 m11 => if r11 = 0 then (xp_m_operator_618 d (-1) m11 Q) else (xp_m_operator_618 d 10 m11 Q)))) else (if r1 = 2706 then (w_isS l2 ∧ (xc_js_equals sM d l2 118 m1 (fun r12 m12 => if r12 = 0 then (xp_m_operator_618 d (-1) m12 Q) else (xp_m_operator_618 d 9 m12 Q)))) else (if r1 = 2710 then (w_isS l2 ∧ (xc_js_equals sM d l2 120 m1 (fun r13 m13 => if r13 = 0 then (xp_m_operator_618 d (-1) m13 Q) else (xp_m_operator_618 d 13 m13 Q)))) else (if r1 = 2713 then (w_isS l2 ∧ (xc_js_equals sM d l2 106 m1 (fun r14 m14 => if r14 = 0 then (xp_m_operator_618 d (-1) m14 Q) else (xp_m_operator_618 d 5 m14 Q)))) else (if r1 = 2723 then (w_isS l2 ∧ (xc_js_equals sM d l2 114 m1 (fun r15 m15 => if r15 = 0 then (xp_m_operator_618 d (-1) m15 Q) else (xp_m_operator_618 d 7 m15 Q)))) else (if r1 = 3178 then (w_isS l2 ∧ (xc_js_equals sM d l2 104 m1 (fun r16 m16 => if r16 = 0 then (xp_m_operator_618 d (-1) m16 Q) else (xp_m_operator_618 d 4 m16 Q)))) else (xp_m_operator_618 d (-1) m1 Q)))))))))))))))))) else (xc_m_fail d 12 (m 428 106) m (fun r17 m17 => Q 0 m17))) : xp_m_operator_215 d l2 l5 m Q := by
  refine w_iload rfl rfl ?_
  refine w_ifeq rfl (w_ite h (fun h => ?_) (fun h => ?_))
  · refine w_aload_n rfl rfl ?_
    refine w_astore (lv' := [some (2, 428), none, some (2, l2), none, none, some (0, l5), some (2, l2), none, none, none]) rfl rfl rfl ?_
    refine w_iconst rfl (by decide) ?_
    refine w_istore (lv' := [some (2, 428), none, some (2, l2), none, none, some (0, l5), some (2, l2), some (0, (-1)), none, none]) rfl rfl rfl ?_
    refine w_aload rfl rfl ?_
    refine w_callV (t' := 0) [] [] rfl (w_isS_s h.1) rfl rfl ?_
    replace h := h.2
    refine w_C.more (Q := fun r1 m1 => _) h (fun r1 m1 h => ?_)
    replace h := id h
    refine w_lswitch (pd := 618) [(39, 604), (81, 388), (113, 372), (2130, 404), (2223, 420), (2646, 570), (2672, 553), (2680, 502), (2703, 468), (2704, 536), (2706, 519), (2710, 587), (2713, 452), (2723, 485), (3178, 436)] rfl rfl rfl ?_
    refine w_ite h (fun h => ?_) (fun h => ?_)
    · refine w_aload rfl rfl ?_
      refine w_ldcR rfl ?_
      refine w_callV (t' := 0) [(2, 122)] [] rfl (w_isS_s h.1) rfl rfl ?_
      replace h := h.2
      refine w_C.more (Q := fun r2 m2 => _) h (fun r2 m2 h => ?_)
      replace h := id h
      refine w_ifeq rfl (w_ite h (fun h => ?_) (fun h => ?_))
      · exact w_W.less h (w_sub [true, false, false, false, false, false, false, true, false, false] rfl)
      · refine w_bipush rfl (by decide) ?_
        refine w_istore (lv' := [some (2, 428), none, some (2, l2), none, none, some (0, l5), some (2, l2), some (0, 14), none, none]) rfl rfl rfl ?_
        exact w_W.less h (w_sub [true, false, false, false, false, false, false, true, false, false] rfl)
    ·
      refine w_ite h (fun h => ?_) (fun h => ?_)
      · refine w_aload rfl rfl ?_
        refine w_ldcR rfl ?_
        refine w_callV (t' := 0) [(2, 96)] [] rfl (w_isS_s h.1) rfl rfl ?_
        replace h := h.2
        refine w_C.more (Q := fun r3 m3 => _) h (fun r3 m3 h => ?_)
        replace h := id h
        refine w_ifeq rfl (w_ite h (fun h => ?_) (fun h => ?_))
        · exact w_W.less h (w_sub [true, false, false, false, false, false, false, true, false, false] rfl)
        · refine w_iconst rfl (by decide) ?_
          refine w_istore (lv' := [some (2, 428), none, some (2, l2), none, none, some (0, l5), some (2, l2), some (0, 1), none, none]) rfl rfl rfl ?_
          refine w_goto rfl ?_
          exact w_W.less h (w_sub [true, false, false, false, false, false, false, true, false, false] rfl)
      ·
        refine w_ite h (fun h => ?_) (fun h => ?_)
        · refine w_aload rfl rfl ?_
          refine w_ldcR rfl ?_
          refine w_callV (t' := 0) [(2, 94)] [] rfl (w_isS_s h.1) rfl rfl ?_
          replace h := h.2
          refine w_C.more (Q := fun r4 m4 => _) h (fun r4 m4 h => ?_)
          replace h := id h
          refine w_ifeq rfl (w_ite h (fun h => ?_) (fun h => ?_))
          · exact w_W.less h (w_sub [true, false, false, false, false, false, false, true, false, false] rfl)
          · refine w_iconst rfl (by decide) ?_
            refine w_istore (lv' := [some (2, 428), none, some (2, l2), none, none, some (0, l5), some (2, l2), some (0, 0), none, none]) rfl rfl rfl ?_
            refine w_goto rfl ?_
            exact w_W.less h (w_sub [true, false, false, false, false, false, false, true, false, false] rfl)
        ·
          refine w_ite h (fun h => ?_) (fun h => ?_)
          · refine w_aload rfl rfl ?_
            refine w_ldcR rfl ?_
            refine w_callV (t' := 0) [(2, 98)] [] rfl (w_isS_s h.1) rfl rfl ?_
            replace h := h.2
            refine w_C.more (Q := fun r5 m5 => _) h (fun r5 m5 h => ?_)
            replace h := id h
            refine w_ifeq rfl (w_ite h (fun h => ?_) (fun h => ?_))
            · exact w_W.less h (w_sub [true, false, false, false, false, false, false, true, false, false] rfl)
            · refine w_iconst rfl (by decide) ?_
              refine w_istore (lv' := [some (2, 428), none, some (2, l2), none, none, some (0, l5), some (2, l2), some (0, 2), none, none]) rfl rfl rfl ?_
              refine w_goto rfl ?_
              exact w_W.less h (w_sub [true, false, false, false, false, false, false, true, false, false] rfl)
          ·
            refine w_ite h (fun h => ?_) (fun h => ?_)
            · refine w_aload rfl rfl ?_
              refine w_ldcR rfl ?_
              refine w_callV (t' := 0) [(2, 100)] [] rfl (w_isS_s h.1) rfl rfl ?_
              replace h := h.2
              refine w_C.more (Q := fun r6 m6 => _) h (fun r6 m6 h => ?_)
              replace h := id h
              refine w_ifeq rfl (w_ite h (fun h => ?_) (fun h => ?_))
              · exact w_W.less h (w_sub [true, false, false, false, false, false, false, true, false, false] rfl)
              · refine w_iconst rfl (by decide) ?_
                refine w_istore (lv' := [some (2, 428), none, some (2, l2), none, none, some (0, l5), some (2, l2), some (0, 3), none, none]) rfl rfl rfl ?_
                refine w_goto rfl ?_
                exact w_W.less h (w_sub [true, false, false, false, false, false, false, true, false, false] rfl)
            ·
              refine w_ite h (fun h => ?_) (fun h => ?_)
              · refine w_aload rfl rfl ?_
                refine w_ldcR rfl ?_
                refine w_callV (t' := 0) [(2, 102)] [] rfl (w_isS_s h.1) rfl rfl ?_
                replace h := h.2
                refine w_C.more (Q := fun r7 m7 => _) h (fun r7 m7 h => ?_)
                replace h := id h
                refine w_ifeq rfl (w_ite h (fun h => ?_) (fun h => ?_))
                · exact w_W.less h (w_sub [true, false, false, false, false, false, false, true, false, false] rfl)
                · refine w_bipush rfl (by decide) ?_
                  refine w_istore (lv' := [some (2, 428), none, some (2, l2), none, none, some (0, l5), some (2, l2), some (0, 12), none, none]) rfl rfl rfl ?_
                  refine w_goto rfl ?_
                  exact w_W.less h (w_sub [true, false, false, false, false, false, false, true, false, false] rfl)
              ·
                refine w_ite h (fun h => ?_) (fun h => ?_)
                · refine w_aload rfl rfl ?_
                  refine w_ldcR rfl ?_
                  refine w_callV (t' := 0) [(2, 110)] [] rfl (w_isS_s h.1) rfl rfl ?_
                  replace h := h.2
                  refine w_C.more (Q := fun r8 m8 => _) h (fun r8 m8 h => ?_)
                  replace h := id h
                  refine w_ifeq rfl (w_ite h (fun h => ?_) (fun h => ?_))
                  · exact w_W.less h (w_sub [true, false, false, false, false, false, false, true, false, false] rfl)
                  · refine w_bipush rfl (by decide) ?_
                    refine w_istore (lv' := [some (2, 428), none, some (2, l2), none, none, some (0, l5), some (2, l2), some (0, 11), none, none]) rfl rfl rfl ?_
                    refine w_goto rfl ?_
                    exact w_W.less h (w_sub [true, false, false, false, false, false, false, true, false, false] rfl)
                ·
                  refine w_ite h (fun h => ?_) (fun h => ?_)
                  · refine w_aload rfl rfl ?_
                    refine w_ldcR rfl ?_
                    refine w_callV (t' := 0) [(2, 116)] [] rfl (w_isS_s h.1) rfl rfl ?_
                    replace h := h.2
                    refine w_C.more (Q := fun r9 m9 => _) h (fun r9 m9 h => ?_)
                    replace h := id h
                    refine w_ifeq rfl (w_ite h (fun h => ?_) (fun h => ?_))
                    · exact w_W.less h (w_sub [true, false, false, false, false, false, false, true, false, false] rfl)
                    · refine w_bipush rfl (by decide) ?_
                      refine w_istore (lv' := [some (2, 428), none, some (2, l2), none, none, some (0, l5), some (2, l2), some (0, 8), none, none]) rfl rfl rfl ?_
                      refine w_goto rfl ?_
                      exact w_W.less h (w_sub [true, false, false, false, false, false, false, true, false, false] rfl)
                  ·
                    refine w_ite h (fun h => ?_) (fun h => ?_)
                    · refine w_aload rfl rfl ?_
                      refine w_ldcR rfl ?_
                      refine w_callV (t' := 0) [(2, 112)] [] rfl (w_isS_s h.1) rfl rfl ?_
                      replace h := h.2
                      refine w_C.more (Q := fun r10 m10 => _) h (fun r10 m10 h => ?_)
                      replace h := id h
                      refine w_ifeq rfl (w_ite h (fun h => ?_) (fun h => ?_))
                      · exact w_W.less h (w_sub [true, false, false, false, false, false, false, true, false, false] rfl)
                      · refine w_bipush rfl (by decide) ?_
                        refine w_istore (lv' := [some (2, 428), none, some (2, l2), none, none, some (0, l5), some (2, l2), some (0, 6), none, none]) rfl rfl rfl ?_
                        refine w_goto rfl ?_
                        exact w_W.less h (w_sub [true, false, false, false, false, false, false, true, false, false] rfl)
                    ·
                      refine w_ite h (fun h => ?_) (fun h => ?_)
                      · refine w_aload rfl rfl ?_
                        refine w_ldcR rfl ?_
                        refine w_callV (t' := 0) [(2, 108)] [] rfl (w_isS_s h.1) rfl rfl ?_
                        replace h := h.2
                        refine w_C.more (Q := fun r11 m11 => _) h (fun r11 m11 h => ?_)
                        replace h := id h
                        refine w_ifeq rfl (w_ite h (fun h => ?_) (fun h => ?_))
                        · exact w_W.less h (w_sub [true, false, false, false, false, false, false, true, false, false] rfl)
                        · refine w_bipush rfl (by decide) ?_
                          refine w_istore (lv' := [some (2, 428), none, some (2, l2), none, none, some (0, l5), some (2, l2), some (0, 10), none, none]) rfl rfl rfl ?_
                          refine w_goto rfl ?_
                          exact w_W.less h (w_sub [true, false, false, false, false, false, false, true, false, false] rfl)
                      ·
                        refine w_ite h (fun h => ?_) (fun h => ?_)
                        · refine w_aload rfl rfl ?_
                          refine w_ldcR rfl ?_
                          refine w_callV (t' := 0) [(2, 118)] [] rfl (w_isS_s h.1) rfl rfl ?_
                          replace h := h.2
                          refine w_C.more (Q := fun r12 m12 => _) h (fun r12 m12 h => ?_)
                          replace h := id h
                          refine w_ifeq rfl (w_ite h (fun h => ?_) (fun h => ?_))
                          · exact w_W.less h (w_sub [true, false, false, false, false, false, false, true, false, false] rfl)
                          · refine w_bipush rfl (by decide) ?_
                            refine w_istore (lv' := [some (2, 428), none, some (2, l2), none, none, some (0, l5), some (2, l2), some (0, 9), none, none]) rfl rfl rfl ?_
                            refine w_goto rfl ?_
                            exact w_W.less h (w_sub [true, false, false, false, false, false, false, true, false, false] rfl)
                        ·
                          refine w_ite h (fun h => ?_) (fun h => ?_)
                          · refine w_aload rfl rfl ?_
                            refine w_ldcR rfl ?_
                            refine w_callV (t' := 0) [(2, 120)] [] rfl (w_isS_s h.1) rfl rfl ?_
                            replace h := h.2
                            refine w_C.more (Q := fun r13 m13 => _) h (fun r13 m13 h => ?_)
                            replace h := id h
                            refine w_ifeq rfl (w_ite h (fun h => ?_) (fun h => ?_))
                            · exact w_W.less h (w_sub [true, false, false, false, false, false, false, true, false, false] rfl)
                            · refine w_bipush rfl (by decide) ?_
                              refine w_istore (lv' := [some (2, 428), none, some (2, l2), none, none, some (0, l5), some (2, l2), some (0, 13), none, none]) rfl rfl rfl ?_
                              refine w_goto rfl ?_
                              exact w_W.less h (w_sub [true, false, false, false, false, false, false, true, false, false] rfl)
                          ·
                            refine w_ite h (fun h => ?_) (fun h => ?_)
                            · refine w_aload rfl rfl ?_
                              refine w_ldcR rfl ?_
                              refine w_callV (t' := 0) [(2, 106)] [] rfl (w_isS_s h.1) rfl rfl ?_
                              replace h := h.2
                              refine w_C.more (Q := fun r14 m14 => _) h (fun r14 m14 h => ?_)
                              replace h := id h
                              refine w_ifeq rfl (w_ite h (fun h => ?_) (fun h => ?_))
                              · exact w_W.less h (w_sub [true, false, false, false, false, false, false, true, false, false] rfl)
                              · refine w_iconst rfl (by decide) ?_
                                refine w_istore (lv' := [some (2, 428), none, some (2, l2), none, none, some (0, l5), some (2, l2), some (0, 5), none, none]) rfl rfl rfl ?_
                                refine w_goto rfl ?_
                                exact w_W.less h (w_sub [true, false, false, false, false, false, false, true, false, false] rfl)
                            ·
                              refine w_ite h (fun h => ?_) (fun h => ?_)
                              · refine w_aload rfl rfl ?_
                                refine w_ldcR rfl ?_
                                refine w_callV (t' := 0) [(2, 114)] [] rfl (w_isS_s h.1) rfl rfl ?_
                                replace h := h.2
                                refine w_C.more (Q := fun r15 m15 => _) h (fun r15 m15 h => ?_)
                                replace h := id h
                                refine w_ifeq rfl (w_ite h (fun h => ?_) (fun h => ?_))
                                · exact w_W.less h (w_sub [true, false, false, false, false, false, false, true, false, false] rfl)
                                · refine w_bipush rfl (by decide) ?_
                                  refine w_istore (lv' := [some (2, 428), none, some (2, l2), none, none, some (0, l5), some (2, l2), some (0, 7), none, none]) rfl rfl rfl ?_
                                  refine w_goto rfl ?_
                                  exact w_W.less h (w_sub [true, false, false, false, false, false, false, true, false, false] rfl)
                              ·
                                refine w_ite h (fun h => ?_) (fun h => ?_)
                                · refine w_aload rfl rfl ?_
                                  refine w_ldcR rfl ?_
                                  refine w_callV (t' := 0) [(2, 104)] [] rfl (w_isS_s h.1) rfl rfl ?_
                                  replace h := h.2
                                  refine w_C.more (Q := fun r16 m16 => _) h (fun r16 m16 h => ?_)
                                  replace h := id h
                                  refine w_ifeq rfl (w_ite h (fun h => ?_) (fun h => ?_))
                                  · exact w_W.less h (w_sub [true, false, false, false, false, false, false, true, false, false] rfl)
                                  · refine w_iconst rfl (by decide) ?_
                                    refine w_istore (lv' := [some (2, 428), none, some (2, l2), none, none, some (0, l5), some (2, l2), some (0, 4), none, none]) rfl rfl rfl ?_
                                    refine w_goto rfl ?_
                                    exact w_W.less h (w_sub [true, false, false, false, false, false, false, true, false, false] rfl)
                                · exact w_W.less h (w_sub [true, false, false, false, false, false, false, true, false, false] rfl)
  · refine w_aload_n rfl rfl ?_
    refine w_bipush rfl (by decide) ?_
    refine w_aload_n rfl rfl ?_
    refine x_gfI rfl s_428 rfl (kk := 106) rfl rfl ?_
    refine w_callV (t' := 3) [(0, m 428 106), (0, 12)] [] rfl s_428 rfl rfl ?_
    refine w_C.more (Q := fun r17 m17 => _) h (fun r17 m17 h => ?_)
    replace h := id h
    exact w_vret rfl rfl h
theorem xr_m_operator_618 {d : Nat} {l7 : Int} {m : w_M} {Q : Int → w_M → Prop} (h : if l7 = 0 then (xp_m_operator_699 d 0 m Q) else (if l7 = 1 then (xp_m_operator_780 d 0 (w_up m 428 102 (w_32 ((m 428 102) - 1))) Q) else (if l7 = 2 then (xc_m_identity d 475 (w_up m 428 103 1) (fun r1 m1 => xc_m_identity d 476 m1 (fun r2 m2 => Q 0 m2))) else (if l7 = 3 then (Q 0 (w_up m 428 103 0)) else (if l7 = 4 then (xc_m_operandsTo d 477 m (fun r3 m3 => xc_m_product d 477 474 474 m3 (fun r4 m4 => Q 0 m4))) else (if l7 = 5 then (xc_m_operandsTo d 475 m (fun r5 m5 => xc_m_operandsTo d 476 m5 (fun r6 m6 => Q 0 m6))) else (if l7 = 6 then (xc_m_unitsOf d (m 473 0) m (fun r7 m7 => Q 0 (w_up m7 479 6 r7))) else (if l7 = 7 then (xc_m_unitsOf d (m 473 0) m (fun r8 m8 => Q 0 (w_up m8 479 7 r8))) else (if l7 = 8 then (xc_m_unitsOf d (m 473 0) m (fun r9 m9 => Q 0 (w_up m9 479 8 r9))) else (if l7 = 9 then (xc_m_font d m (fun r10 m10 => Q 0 m10)) else (if l7 = 10 then (xc_m_unitsOf d (m 473 0) m (fun r11 m11 => xc_m_unitsOf d (m11 473 1) m11 (fun r12 m12 => xc_m_goes d r11 r12 m12 (fun r13 m13 => Q 0 m13)))) else (if l7 = 11 then (xc_m_unitsOf d (m 473 1) m (fun r14 m14 => xc_m_near d (w_64 (-r14)) m14 (fun r15 m15 => xc_m_good d m15 (fun r16 m16 => if r16 = 0 then (Q 0 m16) else (xc_m_unitsOf d ((w_up m16 479 8 (w_32 (w_64 (-r14)))) 473 0) (w_up m16 479 8 (w_32 (w_64 (-r14)))) (fun r17 m17 => xc_m_unitsOf d (m17 473 1) m17 (fun r18 m18 => xc_m_goes d r17 r18 m18 (fun r19 m19 => Q 0 m19)))))))) else (if l7 = 12 then (xc_m_newLine d m (fun r20 m20 => Q 0 m20)) else (if l7 = 13 then (xc_m_shows d (m 473 0) m (fun r21 m21 => Q 0 m21)) else (if l7 = 14 then (if (m 479 0) < 0 then (xc_m_fail d 13 (m 428 106) m (fun r22 m22 => Q 0 m22)) else (xc_m_newLine d m (fun r23 m23 => xc_m_good d m23 (fun r24 m24 => if r24 = 0 then (Q 0 m24) else (xc_m_shows d (m24 473 0) m24 (fun r25 m25 => Q 0 m25)))))) else (xc_m_row2 d (m 473 0) m (fun r26 m26 => Q 0 m26))))))))))))))))) : xp_m_operator_618 d l7 m Q := by
  refine w_iload rfl rfl ?_
  refine w_tswitch (pd := 1144) [(0, 696), (1, 767), (2, 844), (3, 866), (4, 874), (5, 901), (6, 920), (7, 940), (8, 960), (9, 980), (10, 987), (11, 1014), (12, 1078), (13, 1085), (14, 1098)] rfl rfl (by decide) (w_tsw_ok _ _ (by decide)) (by decide) ?_
  refine w_ite h (fun h => ?_) (fun h => ?_)
  · refine w_iconst rfl (by decide) ?_
    refine w_istore (lv' := [some (2, 428), none, none, none, none, none, none, some (0, l7), some (0, 0), none]) rfl rfl rfl ?_
    exact w_W.less h (w_sub [true, false, false, false, false, false, false, false, true, false] rfl)
  ·
    refine w_ite h (fun h => ?_) (fun h => ?_)
    · refine w_aload_n rfl rfl ?_
      refine w_dup rfl (show (2 : Nat) ≠ 1 by decide) ?_
      refine x_gfI rfl s_428 rfl (kk := 102) rfl rfl ?_
      refine w_iconst rfl (by decide) ?_
      refine w_isub rfl ?_
      refine w_pfI rfl s_428 rfl (w_EM (by decide)) rfl (kk := 102) rfl ?_
      refine w_iconst rfl (by decide) ?_
      refine w_istore (lv' := [some (2, 428), none, none, none, none, none, none, some (0, l7), some (0, 0), none]) rfl rfl rfl ?_
      exact w_W.less h (w_sub [true, false, false, false, false, false, false, false, true, false] rfl)
    ·
      refine w_ite h (fun h => ?_) (fun h => ?_)
      · refine w_aload_n rfl rfl ?_
        refine w_iconst rfl (by decide) ?_
        refine w_pfZ rfl s_428 rfl (w_EM (by decide)) rfl (kk := 103) rfl (by decide) ?_
        refine w_aload_n rfl rfl ?_
        refine w_gfC (c := 475) rfl s_428 rfl rfl ?_
        refine w_callS (t' := 3) [(2, 475)] [] rfl (by decide) rfl rfl ?_
        refine w_C.more (Q := fun r1 m1 => _) h (fun r1 m1 h => ?_)
        replace h := id h
        refine w_aload_n rfl rfl ?_
        refine w_gfC (c := 476) rfl s_428 rfl rfl ?_
        refine w_callS (t' := 3) [(2, 476)] [] rfl (by decide) rfl rfl ?_
        refine w_C.more (Q := fun r2 m2 => _) h (fun r2 m2 h => ?_)
        replace h := id h
        refine w_goto rfl ?_
        exact w_vret rfl rfl h
      ·
        refine w_ite h (fun h => ?_) (fun h => ?_)
        · refine w_aload_n rfl rfl ?_
          refine w_iconst rfl (by decide) ?_
          refine w_pfZ rfl s_428 rfl (w_EM (by decide)) rfl (kk := 103) rfl (by decide) ?_
          refine w_goto rfl ?_
          exact w_vret rfl rfl h
        ·
          refine w_ite h (fun h => ?_) (fun h => ?_)
          · refine w_aload_n rfl rfl ?_
            refine w_aload_n rfl rfl ?_
            refine w_gfC (c := 477) rfl s_428 rfl rfl ?_
            refine w_callV (t' := 3) [(2, 477)] [] rfl s_428 rfl rfl ?_
            refine w_C.more (Q := fun r3 m3 => _) h (fun r3 m3 h => ?_)
            replace h := id h
            refine w_aload_n rfl rfl ?_
            refine w_aload_n rfl rfl ?_
            refine w_gfC (c := 477) rfl s_428 rfl rfl ?_
            refine w_aload_n rfl rfl ?_
            refine w_gfC (c := 474) rfl s_428 rfl rfl ?_
            refine w_aload_n rfl rfl ?_
            refine w_gfC (c := 474) rfl s_428 rfl rfl ?_
            refine w_callV (t' := 3) [(2, 474), (2, 474), (2, 477)] [] rfl s_428 rfl rfl ?_
            refine w_C.more (Q := fun r4 m4 => _) h (fun r4 m4 h => ?_)
            replace h := id h
            refine w_goto rfl ?_
            exact w_vret rfl rfl h
          ·
            refine w_ite h (fun h => ?_) (fun h => ?_)
            · refine w_aload_n rfl rfl ?_
              refine w_aload_n rfl rfl ?_
              refine w_gfC (c := 475) rfl s_428 rfl rfl ?_
              refine w_callV (t' := 3) [(2, 475)] [] rfl s_428 rfl rfl ?_
              refine w_C.more (Q := fun r5 m5 => _) h (fun r5 m5 h => ?_)
              replace h := id h
              refine w_aload_n rfl rfl ?_
              refine w_aload_n rfl rfl ?_
              refine w_gfC (c := 476) rfl s_428 rfl rfl ?_
              refine w_callV (t' := 3) [(2, 476)] [] rfl s_428 rfl rfl ?_
              refine w_C.more (Q := fun r6 m6 => _) h (fun r6 m6 h => ?_)
              replace h := id h
              refine w_goto rfl ?_
              exact w_vret rfl rfl h
            ·
              refine w_ite h (fun h => ?_) (fun h => ?_)
              · refine w_aload_n rfl rfl ?_
                refine w_gfC (c := 479) rfl s_428 rfl rfl ?_
                refine w_bipush rfl (by decide) ?_
                refine w_aload_n rfl rfl ?_
                refine w_aload_n rfl rfl ?_
                refine w_gfC (c := 473) rfl s_428 rfl rfl ?_
                refine w_iconst rfl (by decide) ?_
                refine w_iald rfl s_473 (n := 40) rfl (by decide) ?_
                refine w_callV (t' := 0) [(0, m 473 0)] [(0, 6), (2, 479)] rfl s_428 rfl rfl ?_
                refine w_C.more (Q := fun r7 m7 => _) h (fun r7 m7 h => ?_)
                replace h := id h
                refine w_iast rfl s_479 (w_EM (by decide)) (n := 9) rfl (by decide) ?_
                refine w_goto rfl ?_
                exact w_vret rfl rfl h
              ·
                refine w_ite h (fun h => ?_) (fun h => ?_)
                · refine w_aload_n rfl rfl ?_
                  refine w_gfC (c := 479) rfl s_428 rfl rfl ?_
                  refine w_bipush rfl (by decide) ?_
                  refine w_aload_n rfl rfl ?_
                  refine w_aload_n rfl rfl ?_
                  refine w_gfC (c := 473) rfl s_428 rfl rfl ?_
                  refine w_iconst rfl (by decide) ?_
                  refine w_iald rfl s_473 (n := 40) rfl (by decide) ?_
                  refine w_callV (t' := 0) [(0, m 473 0)] [(0, 7), (2, 479)] rfl s_428 rfl rfl ?_
                  refine w_C.more (Q := fun r8 m8 => _) h (fun r8 m8 h => ?_)
                  replace h := id h
                  refine w_iast rfl s_479 (w_EM (by decide)) (n := 9) rfl (by decide) ?_
                  refine w_goto rfl ?_
                  exact w_vret rfl rfl h
                ·
                  refine w_ite h (fun h => ?_) (fun h => ?_)
                  · refine w_aload_n rfl rfl ?_
                    refine w_gfC (c := 479) rfl s_428 rfl rfl ?_
                    refine w_bipush rfl (by decide) ?_
                    refine w_aload_n rfl rfl ?_
                    refine w_aload_n rfl rfl ?_
                    refine w_gfC (c := 473) rfl s_428 rfl rfl ?_
                    refine w_iconst rfl (by decide) ?_
                    refine w_iald rfl s_473 (n := 40) rfl (by decide) ?_
                    refine w_callV (t' := 0) [(0, m 473 0)] [(0, 8), (2, 479)] rfl s_428 rfl rfl ?_
                    refine w_C.more (Q := fun r9 m9 => _) h (fun r9 m9 h => ?_)
                    replace h := id h
                    refine w_iast rfl s_479 (w_EM (by decide)) (n := 9) rfl (by decide) ?_
                    refine w_goto rfl ?_
                    exact w_vret rfl rfl h
                  ·
                    refine w_ite h (fun h => ?_) (fun h => ?_)
                    · refine w_aload_n rfl rfl ?_
                      refine w_callV (t' := 3) [] [] rfl s_428 rfl rfl ?_
                      refine w_C.more (Q := fun r10 m10 => _) h (fun r10 m10 h => ?_)
                      replace h := id h
                      refine w_goto rfl ?_
                      exact w_vret rfl rfl h
                    ·
                      refine w_ite h (fun h => ?_) (fun h => ?_)
                      · refine w_aload_n rfl rfl ?_
                        refine w_aload_n rfl rfl ?_
                        refine w_aload_n rfl rfl ?_
                        refine w_gfC (c := 473) rfl s_428 rfl rfl ?_
                        refine w_iconst rfl (by decide) ?_
                        refine w_iald rfl s_473 (n := 40) rfl (by decide) ?_
                        refine w_callV (t' := 0) [(0, m 473 0)] [(2, 428)] rfl s_428 rfl rfl ?_
                        refine w_C.more (Q := fun r11 m11 => _) h (fun r11 m11 h => ?_)
                        replace h := id h
                        refine w_aload_n rfl rfl ?_
                        refine w_aload_n rfl rfl ?_
                        refine w_gfC (c := 473) rfl s_428 rfl rfl ?_
                        refine w_iconst rfl (by decide) ?_
                        refine w_iald rfl s_473 (n := 40) rfl (by decide) ?_
                        refine w_callV (t' := 0) [(0, m11 473 1)] [(0, r11), (2, 428)] rfl s_428 rfl rfl ?_
                        refine w_C.more (Q := fun r12 m12 => _) h (fun r12 m12 h => ?_)
                        replace h := id h
                        refine w_callV (t' := 3) [(0, r12), (0, r11)] [] rfl s_428 rfl rfl ?_
                        refine w_C.more (Q := fun r13 m13 => _) h (fun r13 m13 h => ?_)
                        replace h := id h
                        refine w_goto rfl ?_
                        exact w_vret rfl rfl h
                      ·
                        refine w_ite h (fun h => ?_) (fun h => ?_)
                        · refine w_aload_n rfl rfl ?_
                          refine w_aload_n rfl rfl ?_
                          refine w_gfC (c := 473) rfl s_428 rfl rfl ?_
                          refine w_iconst rfl (by decide) ?_
                          refine w_iald rfl s_473 (n := 40) rfl (by decide) ?_
                          refine w_callV (t' := 0) [(0, m 473 1)] [] rfl s_428 rfl rfl ?_
                          refine w_C.more (Q := fun r14 m14 => _) h (fun r14 m14 h => ?_)
                          replace h := id h
                          refine w_i2l rfl ?_
                          refine w_lneg rfl ?_
                          refine w_lstore (lv' := [some (2, 428), none, none, none, none, none, none, some (0, l7), some (1, w_64 (-r14)), none]) rfl rfl rfl ?_
                          refine w_aload_n rfl rfl ?_
                          refine w_lload rfl rfl ?_
                          refine w_callV (t' := 3) [(1, w_64 (-r14))] [] rfl s_428 rfl rfl ?_
                          refine w_C.more (Q := fun r15 m15 => _) h (fun r15 m15 h => ?_)
                          replace h := id h
                          refine w_aload_n rfl rfl ?_
                          refine w_callV (t' := 0) [] [] rfl s_428 rfl rfl ?_
                          refine w_C.more (Q := fun r16 m16 => _) h (fun r16 m16 h => ?_)
                          replace h := id h
                          refine w_ifeq rfl (w_ite h (fun h => ?_) (fun h => ?_))
                          · exact w_vret rfl rfl h
                          · refine w_aload_n rfl rfl ?_
                            refine w_gfC (c := 479) rfl s_428 rfl rfl ?_
                            refine w_bipush rfl (by decide) ?_
                            refine w_lload rfl rfl ?_
                            refine w_l2i rfl ?_
                            refine w_iast rfl s_479 (w_EM (by decide)) (n := 9) rfl (by decide) ?_
                            refine w_aload_n rfl rfl ?_
                            refine w_aload_n rfl rfl ?_
                            refine w_aload_n rfl rfl ?_
                            refine w_gfC (c := 473) rfl s_428 rfl rfl ?_
                            refine w_iconst rfl (by decide) ?_
                            refine w_iald rfl s_473 (n := 40) rfl (by decide) ?_
                            refine w_callV (t' := 0) [(0, (w_up m16 479 8 (w_32 (w_64 (-r14)))) 473 0)] [(2, 428)] rfl s_428 rfl rfl ?_
                            refine w_C.more (Q := fun r17 m17 => _) h (fun r17 m17 h => ?_)
                            replace h := id h
                            refine w_aload_n rfl rfl ?_
                            refine w_aload_n rfl rfl ?_
                            refine w_gfC (c := 473) rfl s_428 rfl rfl ?_
                            refine w_iconst rfl (by decide) ?_
                            refine w_iald rfl s_473 (n := 40) rfl (by decide) ?_
                            refine w_callV (t' := 0) [(0, m17 473 1)] [(0, r17), (2, 428)] rfl s_428 rfl rfl ?_
                            refine w_C.more (Q := fun r18 m18 => _) h (fun r18 m18 h => ?_)
                            replace h := id h
                            refine w_callV (t' := 3) [(0, r18), (0, r17)] [] rfl s_428 rfl rfl ?_
                            refine w_C.more (Q := fun r19 m19 => _) h (fun r19 m19 h => ?_)
                            replace h := id h
                            refine w_goto rfl ?_
                            exact w_vret rfl rfl h
                        ·
                          refine w_ite h (fun h => ?_) (fun h => ?_)
                          · refine w_aload_n rfl rfl ?_
                            refine w_callV (t' := 3) [] [] rfl s_428 rfl rfl ?_
                            refine w_C.more (Q := fun r20 m20 => _) h (fun r20 m20 h => ?_)
                            replace h := id h
                            refine w_goto rfl ?_
                            exact w_vret rfl rfl h
                          ·
                            refine w_ite h (fun h => ?_) (fun h => ?_)
                            · refine w_aload_n rfl rfl ?_
                              refine w_aload_n rfl rfl ?_
                              refine w_gfC (c := 473) rfl s_428 rfl rfl ?_
                              refine w_iconst rfl (by decide) ?_
                              refine w_iald rfl s_473 (n := 40) rfl (by decide) ?_
                              refine w_callV (t' := 3) [(0, m 473 0)] [] rfl s_428 rfl rfl ?_
                              refine w_C.more (Q := fun r21 m21 => _) h (fun r21 m21 h => ?_)
                              replace h := id h
                              refine w_goto rfl ?_
                              exact w_vret rfl rfl h
                            ·
                              refine w_ite h (fun h => ?_) (fun h => ?_)
                              · refine w_aload_n rfl rfl ?_
                                refine w_gfC (c := 479) rfl s_428 rfl rfl ?_
                                refine w_iconst rfl (by decide) ?_
                                refine w_iald rfl s_479 (n := 9) rfl (by decide) ?_
                                refine w_ifge rfl (w_ite h (fun h => ?_) (fun h => ?_))
                                · refine w_aload_n rfl rfl ?_
                                  refine w_bipush rfl (by decide) ?_
                                  refine w_aload_n rfl rfl ?_
                                  refine x_gfI rfl s_428 rfl (kk := 106) rfl rfl ?_
                                  refine w_callV (t' := 3) [(0, m 428 106), (0, 13)] [] rfl s_428 rfl rfl ?_
                                  refine w_C.more (Q := fun r22 m22 => _) h (fun r22 m22 h => ?_)
                                  replace h := id h
                                  refine w_goto rfl ?_
                                  exact w_vret rfl rfl h
                                · refine w_aload_n rfl rfl ?_
                                  refine w_callV (t' := 3) [] [] rfl s_428 rfl rfl ?_
                                  refine w_C.more (Q := fun r23 m23 => _) h (fun r23 m23 h => ?_)
                                  replace h := id h
                                  refine w_aload_n rfl rfl ?_
                                  refine w_callV (t' := 0) [] [] rfl s_428 rfl rfl ?_
                                  refine w_C.more (Q := fun r24 m24 => _) h (fun r24 m24 h => ?_)
                                  replace h := id h
                                  refine w_ifeq rfl (w_ite h (fun h => ?_) (fun h => ?_))
                                  · exact w_vret rfl rfl h
                                  · refine w_aload_n rfl rfl ?_
                                    refine w_aload_n rfl rfl ?_
                                    refine w_gfC (c := 473) rfl s_428 rfl rfl ?_
                                    refine w_iconst rfl (by decide) ?_
                                    refine w_iald rfl s_473 (n := 40) rfl (by decide) ?_
                                    refine w_callV (t' := 3) [(0, m24 473 0)] [] rfl s_428 rfl rfl ?_
                                    refine w_C.more (Q := fun r25 m25 => _) h (fun r25 m25 h => ?_)
                                    replace h := id h
                                    refine w_goto rfl ?_
                                    exact w_vret rfl rfl h
                              · refine w_aload_n rfl rfl ?_
                                refine w_aload_n rfl rfl ?_
                                refine w_gfC (c := 473) rfl s_428 rfl rfl ?_
                                refine w_iconst rfl (by decide) ?_
                                refine w_iald rfl s_473 (n := 40) rfl (by decide) ?_
                                refine w_callV (t' := 3) [(0, m 473 0)] [] rfl s_428 rfl rfl ?_
                                refine w_C.more (Q := fun r26 m26 => _) h (fun r26 m26 h => ?_)
                                replace h := id h
                                exact w_vret rfl rfl h
theorem xr_m_operator_699 {d : Nat} {l8 : Int} {m : w_M} {Q : Int → w_M → Prop} (h : if l8 < 15 then (if l8 < 6 then (((0 : Int) ≤ l8 ∧ l8 < 6) ∧ (((0 : Int) ≤ (w_32 ((w_32 (15 * (m 428 102))) + l8)) ∧ (w_32 ((w_32 (15 * (m 428 102))) + l8)) < 300) ∧ (xp_m_operator_699 d (w_32 (l8 + 1)) (w_up m 480 (w_32 ((w_32 (15 * (m 428 102))) + l8)) (m 474 l8)) Q))) else (((0 : Int) ≤ (w_32 (l8 - 6)) ∧ (w_32 (l8 - 6)) < 9) ∧ (((0 : Int) ≤ (w_32 ((w_32 (15 * (m 428 102))) + l8)) ∧ (w_32 ((w_32 (15 * (m 428 102))) + l8)) < 300) ∧ (xp_m_operator_699 d (w_32 (l8 + 1)) (w_up m 480 (w_32 ((w_32 (15 * (m 428 102))) + l8)) (m 479 (w_32 (l8 - 6)))) Q)))) else (Q 0 (w_up m 428 102 (w_32 ((m 428 102) + 1))))) : xp_m_operator_699 d l8 m Q := by
  refine w_iload rfl rfl ?_
  refine w_bipush rfl (by decide) ?_
  refine w_icge rfl (w_ite h (fun h => ?_) (fun h => ?_))
  · refine w_aload_n rfl rfl ?_
    refine w_gfC (c := 480) rfl s_428 rfl rfl ?_
    refine w_bipush rfl (by decide) ?_
    refine w_aload_n rfl rfl ?_
    refine x_gfI rfl s_428 rfl (kk := 102) rfl rfl ?_
    refine w_imul rfl ?_
    refine w_iload rfl rfl ?_
    refine w_iadd rfl ?_
    refine w_iload rfl rfl ?_
    refine w_bipush rfl (by decide) ?_
    refine w_icge rfl (w_ite h (fun h => ?_) (fun h => ?_))
    · refine w_aload_n rfl rfl ?_
      refine w_gfC (c := 474) rfl s_428 rfl rfl ?_
      refine w_iload rfl rfl ?_
      refine w_iald rfl s_474 (n := 6) rfl h.1 ?_
      replace h := h.2
      refine w_goto rfl ?_
      refine w_iast rfl s_480 (w_EM (by decide)) (n := 300) rfl h.1 ?_
      replace h := h.2
      refine w_iinc (lv' := [some (2, 428), none, none, none, none, none, none, none, some (0, w_32 (l8 + 1)), none]) rfl rfl rfl rfl ?_
      refine w_goto rfl ?_
      exact w_W.less h (w_sub [true, false, false, false, false, false, false, false, true, false] rfl)
    · refine w_aload_n rfl rfl ?_
      refine w_gfC (c := 479) rfl s_428 rfl rfl ?_
      refine w_iload rfl rfl ?_
      refine w_bipush rfl (by decide) ?_
      refine w_isub rfl ?_
      refine w_iald rfl s_479 (n := 9) rfl h.1 ?_
      replace h := h.2
      refine w_iast rfl s_480 (w_EM (by decide)) (n := 300) rfl h.1 ?_
      replace h := h.2
      refine w_iinc (lv' := [some (2, 428), none, none, none, none, none, none, none, some (0, w_32 (l8 + 1)), none]) rfl rfl rfl rfl ?_
      refine w_goto rfl ?_
      exact w_W.less h (w_sub [true, false, false, false, false, false, false, false, true, false] rfl)
  · refine w_aload_n rfl rfl ?_
    refine w_dup rfl (show (2 : Nat) ≠ 1 by decide) ?_
    refine x_gfI rfl s_428 rfl (kk := 102) rfl rfl ?_
    refine w_iconst rfl (by decide) ?_
    refine w_iadd rfl ?_
    refine w_pfI rfl s_428 rfl (w_EM (by decide)) rfl (kk := 102) rfl ?_
    refine w_goto rfl ?_
    exact w_vret rfl rfl h
theorem xr_m_operator_780 {d : Nat} {l8 : Int} {m : w_M} {Q : Int → w_M → Prop} (h : if l8 < 15 then (((0 : Int) ≤ (w_32 ((w_32 (15 * (m 428 102))) + l8)) ∧ (w_32 ((w_32 (15 * (m 428 102))) + l8)) < 300) ∧ (if l8 < 6 then (((0 : Int) ≤ l8 ∧ l8 < 6) ∧ (xp_m_operator_780 d (w_32 (l8 + 1)) (w_up m 474 l8 (m 480 (w_32 ((w_32 (15 * (m 428 102))) + l8)))) Q)) else (((0 : Int) ≤ (w_32 (l8 - 6)) ∧ (w_32 (l8 - 6)) < 9) ∧ (xp_m_operator_780 d (w_32 (l8 + 1)) (w_up m 479 (w_32 (l8 - 6)) (m 480 (w_32 ((w_32 (15 * (m 428 102))) + l8)))) Q)))) else (Q 0 m)) : xp_m_operator_780 d l8 m Q := by
  refine w_iload rfl rfl ?_
  refine w_bipush rfl (by decide) ?_
  refine w_icge rfl (w_ite h (fun h => ?_) (fun h => ?_))
  · refine w_aload_n rfl rfl ?_
    refine w_gfC (c := 480) rfl s_428 rfl rfl ?_
    refine w_bipush rfl (by decide) ?_
    refine w_aload_n rfl rfl ?_
    refine x_gfI rfl s_428 rfl (kk := 102) rfl rfl ?_
    refine w_imul rfl ?_
    refine w_iload rfl rfl ?_
    refine w_iadd rfl ?_
    refine w_iald rfl s_480 (n := 300) rfl h.1 ?_
    replace h := h.2
    refine w_istore (lv' := [some (2, 428), none, none, none, none, none, none, none, some (0, l8), some (0, m 480 (w_32 ((w_32 (15 * (m 428 102))) + l8)))]) rfl rfl rfl ?_
    refine w_iload rfl rfl ?_
    refine w_bipush rfl (by decide) ?_
    refine w_icge rfl (w_ite h (fun h => ?_) (fun h => ?_))
    · refine w_aload_n rfl rfl ?_
      refine w_gfC (c := 474) rfl s_428 rfl rfl ?_
      refine w_iload rfl rfl ?_
      refine w_iload rfl rfl ?_
      refine w_iast rfl s_474 (w_EM (by decide)) (n := 6) rfl h.1 ?_
      replace h := h.2
      refine w_goto rfl ?_
      refine w_iinc (lv' := [some (2, 428), none, none, none, none, none, none, none, some (0, w_32 (l8 + 1)), some (0, m 480 (w_32 ((w_32 (15 * (m 428 102))) + l8)))]) rfl rfl rfl rfl ?_
      refine w_goto rfl ?_
      exact w_W.less h (w_sub [true, false, false, false, false, false, false, false, true, false] rfl)
    · refine w_aload_n rfl rfl ?_
      refine w_gfC (c := 479) rfl s_428 rfl rfl ?_
      refine w_iload rfl rfl ?_
      refine w_bipush rfl (by decide) ?_
      refine w_isub rfl ?_
      refine w_iload rfl rfl ?_
      refine w_iast rfl s_479 (w_EM (by decide)) (n := 9) rfl h.1 ?_
      replace h := h.2
      refine w_iinc (lv' := [some (2, 428), none, none, none, none, none, none, none, some (0, w_32 (l8 + 1)), some (0, m 480 (w_32 ((w_32 (15 * (m 428 102))) + l8)))]) rfl rfl rfl rfl ?_
      refine w_goto rfl ?_
      exact w_W.less h (w_sub [true, false, false, false, false, false, false, false, true, false] rfl)
  · refine w_goto rfl ?_
    exact w_vret rfl rfl h
theorem xr_m_orderOf {d : Nat} {l0 : Int} {m : w_M} {Q : Int → w_M → Prop} (h : if l0 < 3 then (Q (w_32 (16 + l0)) m) else (if l0 = 3 then (Q 0 m) else (if (l0 % 2) = 0 then (Q (w_32 (8 + (Int.tdiv (w_32 (l0 - 4)) 2))) m) else (Q (w_32 (7 - (Int.tdiv (w_32 (l0 - 5)) 2))) m)))) : xc_m_orderOf (d + 1) l0 m Q := by
  refine w_enter (q := 0) (lv := [some (0, l0)]) rfl rfl rfl ?_
  refine w_iload_n rfl rfl ?_
  refine w_iconst rfl (by decide) ?_
  refine w_icge rfl (w_ite h (fun h => ?_) (fun h => ?_))
  · refine w_bipush rfl (by decide) ?_
    refine w_iload_n rfl rfl ?_
    refine w_iadd rfl ?_
    refine w_goto rfl ?_
    exact w_iret rfl rfl h
  · refine w_iload_n rfl rfl ?_
    refine w_iconst rfl (by decide) ?_
    refine w_icne rfl (w_ite h (fun h => ?_) (fun h => ?_))
    · refine w_iconst rfl (by decide) ?_
      refine w_goto rfl ?_
      exact w_iret rfl rfl h
    · refine w_iload_n rfl rfl ?_
      refine w_iconst rfl (by decide) ?_
      refine w_iandm 1 (c := 2) rfl (by decide) rfl rfl ?_
      refine w_ifne rfl (w_ite h (fun h => ?_) (fun h => ?_))
      · refine w_bipush rfl (by decide) ?_
        refine w_iload_n rfl rfl ?_
        refine w_iconst rfl (by decide) ?_
        refine w_isub rfl ?_
        refine w_iconst rfl (by decide) ?_
        refine w_idivk rfl (by decide) ?_
        refine w_iadd rfl ?_
        refine w_goto rfl ?_
        exact w_iret rfl rfl h
      · refine w_bipush rfl (by decide) ?_
        refine w_iload_n rfl rfl ?_
        refine w_iconst rfl (by decide) ?_
        refine w_isub rfl ?_
        refine w_iconst rfl (by decide) ?_
        refine w_idivk rfl (by decide) ?_
        refine w_isub rfl ?_
        exact w_iret rfl rfl h
theorem xr_m_out {d : Nat} {l1 : Int} {m : w_M} {Q : Int → w_M → Prop} (h : if l1 < 0 then (Q (-1) m) else (if l1 < (m 428 5) then (((0 : Int) ≤ l1 ∧ l1 < 30100) ∧ (Q ((m 431 l1) % 256) m)) else (Q (-1) m))) : xc_m_out (d + 1) l1 m Q := by
  refine w_enter (q := 0) (lv := [some (2, 428), some (0, l1)]) rfl rfl rfl ?_
  refine w_iload_n rfl rfl ?_
  refine w_iflt rfl (w_ite h (fun h => ?_) (fun h => ?_))
  · refine w_iconst rfl (by decide) ?_
    exact w_iret rfl rfl h
  · refine w_iload_n rfl rfl ?_
    refine w_aload_n rfl rfl ?_
    refine x_gfI rfl s_428 rfl (kk := 5) rfl rfl ?_
    refine w_icge rfl (w_ite h (fun h => ?_) (fun h => ?_))
    · refine w_aload_n rfl rfl ?_
      refine w_gfC (c := 431) rfl s_428 rfl rfl ?_
      refine w_iload_n rfl rfl ?_
      refine w_bald rfl s_431 (n := 30100) rfl h.1 ?_
      replace h := h.2
      refine w_sipush rfl (by decide) ?_
      refine w_iandm 8 (c := 256) rfl (by decide) rfl rfl ?_
      refine w_goto rfl ?_
      exact w_iret rfl rfl h
    · refine w_iconst rfl (by decide) ?_
      exact w_iret rfl rfl h
theorem xr_m_outs {d : Nat} {m : w_M} {Q : Int → w_M → Prop} (h : Q (m 428 5) m) : xc_m_outs (d + 1) m Q := by
  refine w_enter (q := 0) (lv := [some (2, 428)]) rfl rfl rfl ?_
  refine w_aload_n rfl rfl ?_
  refine x_gfI rfl s_428 rfl (kk := 5) rfl rfl ?_
  exact w_iret rfl rfl h
theorem xr_m_ownsRight {d : Nat} {l1 : Int} {m : w_M} {Q : Int → w_M → Prop} (h : xc_m_entry d l1 240 m (fun r1 m1 => xc_m_entry d l1 256 m1 (fun r2 m2 => xc_m_entry d l1 258 m2 (fun r3 m3 => if r1 < 0 then (xp_m_ownsRight_54 d l1 r2 r3 1 m3 Q) else (((0 : Int) ≤ r1 ∧ r1 < 40000) ∧ (if (m3 432 r1) = 0 then (xp_m_ownsRight_54 d l1 r2 r3 1 m3 Q) else (xc_m_isBox d r1 m3 (fun r4 m4 => if r4 = 0 then (xp_m_ownsRight_54 d l1 r2 r3 0 m4 Q) else (xp_m_ownsRight_54 d l1 r2 r3 1 m4 Q))))))))) : xc_m_ownsRight (d + 1) l1 m Q := by
  refine w_enter (q := 4) (lv := [some (2, 428), some (0, l1), none, none, none, none]) rfl rfl rfl ?_
  refine w_aload_n rfl rfl ?_
  refine w_iload_n rfl rfl ?_
  refine w_ldcwR rfl ?_
  refine w_callV (t' := 0) [(2, 240), (0, l1)] [] rfl s_428 rfl rfl ?_
  refine w_C.more (Q := fun r1 m1 => _) h (fun r1 m1 h => ?_)
  replace h := id h
  refine w_istore_n (lv' := [some (2, 428), some (0, l1), some (0, r1), none, none, none]) rfl rfl rfl ?_
  refine w_aload_n rfl rfl ?_
  refine w_iload_n rfl rfl ?_
  refine w_ldcwR rfl ?_
  refine w_callV (t' := 0) [(2, 256), (0, l1)] [] rfl s_428 rfl rfl ?_
  refine w_C.more (Q := fun r2 m2 => _) h (fun r2 m2 h => ?_)
  replace h := id h
  refine w_istore_n (lv' := [some (2, 428), some (0, l1), some (0, r1), some (0, r2), none, none]) rfl rfl rfl ?_
  refine w_aload_n rfl rfl ?_
  refine w_iload_n rfl rfl ?_
  refine w_ldcwR rfl ?_
  refine w_callV (t' := 0) [(2, 258), (0, l1)] [] rfl s_428 rfl rfl ?_
  refine w_C.more (Q := fun r3 m3 => _) h (fun r3 m3 h => ?_)
  replace h := id h
  refine w_istore (lv' := [some (2, 428), some (0, l1), some (0, r1), some (0, r2), some (0, r3), none]) rfl rfl rfl ?_
  refine w_iload_n rfl rfl ?_
  refine w_iflt rfl (w_ite h (fun h => ?_) (fun h => ?_))
  · refine w_iconst rfl (by decide) ?_
    refine w_goto rfl ?_
    exact w_W.less h (w_sub [true, true, false, true, true, false] rfl)
  · refine w_aload_n rfl rfl ?_
    refine w_gfC (c := 432) rfl s_428 rfl rfl ?_
    refine w_iload_n rfl rfl ?_
    refine w_bald rfl s_432 (n := 40000) rfl h.1 ?_
    replace h := h.2
    refine w_ifeq rfl (w_ite h (fun h => ?_) (fun h => ?_))
    · refine w_iconst rfl (by decide) ?_
      refine w_goto rfl ?_
      exact w_W.less h (w_sub [true, true, false, true, true, false] rfl)
    · refine w_aload_n rfl rfl ?_
      refine w_iload_n rfl rfl ?_
      refine w_callV (t' := 0) [(0, r1)] [] rfl s_428 rfl rfl ?_
      refine w_C.more (Q := fun r4 m4 => _) h (fun r4 m4 h => ?_)
      replace h := id h
      refine w_ifeq rfl (w_ite h (fun h => ?_) (fun h => ?_))
      · refine w_iconst rfl (by decide) ?_
        exact w_W.less h (w_sub [true, true, false, true, true, false] rfl)
      · refine w_iconst rfl (by decide) ?_
        refine w_goto rfl ?_
        exact w_W.less h (w_sub [true, true, false, true, true, false] rfl)
theorem xr_m_ownsRight_54 {d : Nat} {l1 l3 l4 s0 : Int} {m : w_M} {Q : Int → w_M → Prop} (h : if s0 = 0 then (xp_m_ownsRight_94 d l4 0 m Q) else (if l3 < 0 then (xp_m_ownsRight_94 d l4 1 m Q) else (((0 : Int) ≤ l3 ∧ l3 < 40000) ∧ (if (m 432 l3) = 0 then (xp_m_ownsRight_94 d l4 1 m Q) else (xc_m_rawEntry d l1 256 m (fun r1 m1 => xc_m_dictAt d r1 m1 (fun r2 m2 => if r2 < 0 then (xp_m_ownsRight_94 d l4 0 m2 Q) else (xp_m_ownsRight_94 d l4 1 m2 Q)))))))) : xp_m_ownsRight_54 d l1 l3 l4 s0 m Q := by
  refine w_istore (lv' := [some (2, 428), some (0, l1), none, some (0, l3), some (0, l4), some (0, s0)]) rfl rfl rfl ?_
  refine w_iload rfl rfl ?_
  refine w_ifeq rfl (w_ite h (fun h => ?_) (fun h => ?_))
  · refine w_iconst rfl (by decide) ?_
    exact w_W.less h (w_sub [true, false, false, false, true, false] rfl)
  · refine w_iload_n rfl rfl ?_
    refine w_iflt rfl (w_ite h (fun h => ?_) (fun h => ?_))
    · refine w_iconst rfl (by decide) ?_
      refine w_goto rfl ?_
      exact w_W.less h (w_sub [true, false, false, false, true, false] rfl)
    · refine w_aload_n rfl rfl ?_
      refine w_gfC (c := 432) rfl s_428 rfl rfl ?_
      refine w_iload_n rfl rfl ?_
      refine w_bald rfl s_432 (n := 40000) rfl h.1 ?_
      replace h := h.2
      refine w_ifeq rfl (w_ite h (fun h => ?_) (fun h => ?_))
      · refine w_iconst rfl (by decide) ?_
        refine w_goto rfl ?_
        exact w_W.less h (w_sub [true, false, false, false, true, false] rfl)
      · refine w_aload_n rfl rfl ?_
        refine w_aload_n rfl rfl ?_
        refine w_iload_n rfl rfl ?_
        refine w_ldcwR rfl ?_
        refine w_callV (t' := 0) [(2, 256), (0, l1)] [(2, 428)] rfl s_428 rfl rfl ?_
        refine w_C.more (Q := fun r1 m1 => _) h (fun r1 m1 h => ?_)
        replace h := id h
        refine w_callV (t' := 0) [(0, r1)] [] rfl s_428 rfl rfl ?_
        refine w_C.more (Q := fun r2 m2 => _) h (fun r2 m2 h => ?_)
        replace h := id h
        refine w_iflt rfl (w_ite h (fun h => ?_) (fun h => ?_))
        · refine w_iconst rfl (by decide) ?_
          exact w_W.less h (w_sub [true, false, false, false, true, false] rfl)
        · refine w_iconst rfl (by decide) ?_
          refine w_goto rfl ?_
          exact w_W.less h (w_sub [true, false, false, false, true, false] rfl)
theorem xr_m_ownsRight_94 {d : Nat} {l4 s0 : Int} {m : w_M} {Q : Int → w_M → Prop} (h : if s0 = 0 then (Q 0 m) else (if l4 < 0 then (Q 1 m) else (((0 : Int) ≤ l4 ∧ l4 < 40000) ∧ (if (m 432 l4) = 0 then (Q 1 m) else (((0 : Int) ≤ l4 ∧ l4 < 40000) ∧ (if (m 432 l4) = 2 then (((0 : Int) ≤ l4 ∧ l4 < 40000) ∧ (if (Int.tmod (m 433 l4) 90) = 0 then (Q 1 m) else (Q 0 m))) else (Q 0 m))))))) : xp_m_ownsRight_94 d l4 s0 m Q := by
  refine w_istore (lv' := [some (2, 428), none, none, none, some (0, l4), some (0, s0)]) rfl rfl rfl ?_
  refine w_iload rfl rfl ?_
  refine w_ifeq rfl (w_ite h (fun h => ?_) (fun h => ?_))
  · refine w_iconst rfl (by decide) ?_
    exact w_zret rfl rfl (by decide) h
  · refine w_iload rfl rfl ?_
    refine w_iflt rfl (w_ite h (fun h => ?_) (fun h => ?_))
    · refine w_iconst rfl (by decide) ?_
      refine w_goto rfl ?_
      exact w_zret rfl rfl (by decide) h
    · refine w_aload_n rfl rfl ?_
      refine w_gfC (c := 432) rfl s_428 rfl rfl ?_
      refine w_iload rfl rfl ?_
      refine w_bald rfl s_432 (n := 40000) rfl h.1 ?_
      replace h := h.2
      refine w_ifeq rfl (w_ite h (fun h => ?_) (fun h => ?_))
      · refine w_iconst rfl (by decide) ?_
        refine w_goto rfl ?_
        exact w_zret rfl rfl (by decide) h
      · refine w_aload_n rfl rfl ?_
        refine w_gfC (c := 432) rfl s_428 rfl rfl ?_
        refine w_iload rfl rfl ?_
        refine w_bald rfl s_432 (n := 40000) rfl h.1 ?_
        replace h := h.2
        refine w_iconst rfl (by decide) ?_
        refine w_icne rfl (w_ite h (fun h => ?_) (fun h => ?_))
        · refine w_aload_n rfl rfl ?_
          refine w_gfC (c := 433) rfl s_428 rfl rfl ?_
          refine w_iload rfl rfl ?_
          refine w_iald rfl s_433 (n := 40000) rfl h.1 ?_
          replace h := h.2
          refine w_bipush rfl (by decide) ?_
          refine w_iremk rfl (by decide) ?_
          refine w_ifne rfl (w_ite h (fun h => ?_) (fun h => ?_))
          · refine w_iconst rfl (by decide) ?_
            refine w_goto rfl ?_
            exact w_zret rfl rfl (by decide) h
          · refine w_iconst rfl (by decide) ?_
            exact w_zret rfl rfl (by decide) h
        · refine w_iconst rfl (by decide) ?_
          exact w_zret rfl rfl (by decide) h
theorem xr_m_paeth {d : Nat} {l0 l1 l2 : Int} {m : w_M} {Q : Int → w_M → Prop} (h : xc_m_apart d (w_32 ((w_32 (l0 + l1)) - l2)) l0 m (fun r1 m1 => xc_m_apart d (w_32 ((w_32 (l0 + l1)) - l2)) l1 m1 (fun r2 m2 => xc_m_apart d (w_32 ((w_32 (l0 + l1)) - l2)) l2 m2 (fun r3 m3 => if r2 < r1 then (if r3 < r2 then (Q l2 m3) else (Q l1 m3)) else (if r3 < r1 then (if r3 < r2 then (Q l2 m3) else (Q l1 m3)) else (Q l0 m3)))))) : xc_m_paeth (d + 1) l0 l1 l2 m Q := by
  refine w_enter (q := 4) (lv := [some (0, l0), some (0, l1), some (0, l2), none, none, none, none]) rfl rfl rfl ?_
  refine w_iload_n rfl rfl ?_
  refine w_iload_n rfl rfl ?_
  refine w_iadd rfl ?_
  refine w_iload_n rfl rfl ?_
  refine w_isub rfl ?_
  refine w_istore_n (lv' := [some (0, l0), some (0, l1), some (0, l2), some (0, w_32 ((w_32 (l0 + l1)) - l2)), none, none, none]) rfl rfl rfl ?_
  refine w_iload_n rfl rfl ?_
  refine w_iload_n rfl rfl ?_
  refine w_callS (t' := 0) [(0, l0), (0, w_32 ((w_32 (l0 + l1)) - l2))] [] rfl (by decide) rfl rfl ?_
  refine w_C.more (Q := fun r1 m1 => _) h (fun r1 m1 h => ?_)
  replace h := id h
  refine w_istore (lv' := [some (0, l0), some (0, l1), some (0, l2), some (0, w_32 ((w_32 (l0 + l1)) - l2)), some (0, r1), none, none]) rfl rfl rfl ?_
  refine w_iload_n rfl rfl ?_
  refine w_iload_n rfl rfl ?_
  refine w_callS (t' := 0) [(0, l1), (0, w_32 ((w_32 (l0 + l1)) - l2))] [] rfl (by decide) rfl rfl ?_
  refine w_C.more (Q := fun r2 m2 => _) h (fun r2 m2 h => ?_)
  replace h := id h
  refine w_istore (lv' := [some (0, l0), some (0, l1), some (0, l2), some (0, w_32 ((w_32 (l0 + l1)) - l2)), some (0, r1), some (0, r2), none]) rfl rfl rfl ?_
  refine w_iload_n rfl rfl ?_
  refine w_iload_n rfl rfl ?_
  refine w_callS (t' := 0) [(0, l2), (0, w_32 ((w_32 (l0 + l1)) - l2))] [] rfl (by decide) rfl rfl ?_
  refine w_C.more (Q := fun r3 m3 => _) h (fun r3 m3 h => ?_)
  replace h := id h
  refine w_istore (lv' := [some (0, l0), some (0, l1), some (0, l2), some (0, w_32 ((w_32 (l0 + l1)) - l2)), some (0, r1), some (0, r2), some (0, r3)]) rfl rfl rfl ?_
  refine w_iload rfl rfl ?_
  refine w_iload rfl rfl ?_
  refine w_icgt rfl (w_ite h (fun h => ?_) (fun h => ?_))
  · refine w_iload rfl rfl ?_
    refine w_iload rfl rfl ?_
    refine w_icgt rfl (w_ite h (fun h => ?_) (fun h => ?_))
    · refine w_iload_n rfl rfl ?_
      exact w_iret rfl rfl h
    · refine w_iload_n rfl rfl ?_
      refine w_goto rfl ?_
      exact w_iret rfl rfl h
  · refine w_iload rfl rfl ?_
    refine w_iload rfl rfl ?_
    refine w_icgt rfl (w_ite h (fun h => ?_) (fun h => ?_))
    · refine w_iload rfl rfl ?_
      refine w_iload rfl rfl ?_
      refine w_icgt rfl (w_ite h (fun h => ?_) (fun h => ?_))
      · refine w_iload_n rfl rfl ?_
        exact w_iret rfl rfl h
      · refine w_iload_n rfl rfl ?_
        refine w_goto rfl ?_
        exact w_iret rfl rfl h
    · refine w_iload_n rfl rfl ?_
      refine w_goto rfl ?_
      exact w_iret rfl rfl h
theorem xr_m_page {d : Nat} {l1 l2 : Int} {m : w_M} {Q : Int → w_M → Prop} (h : if (m 428 6) = 0 then (Q (-1) m) else (xc_m_isPage d l1 m (fun r1 m1 => if r1 = 0 then (Q 0 m1) else (if l2 < 0 then (Q 0 m1) else (if 6 < l2 then (Q 0 m1) else (((0 : Int) ≤ l1 ∧ l1 < 61) ∧ (if l2 = 0 then (Q (m1 468 l1) m1) else (if 4 < l2 then (if l2 = 5 then (xc_m_inherited d (m1 468 l1) 258 m1 (fun r2 m2 => if r2 < 0 then (Q 0 m2) else (((0 : Int) ≤ r2 ∧ r2 < 40000) ∧ (Q (m2 433 r2) m2)))) else (xc_m_contentsOf d (m1 468 l1) m1 (fun r3 m3 => Q r3 m3))) else (xc_m_inherited d (m1 468 l1) 240 m1 (fun r4 m4 => ((0 : Int) ≤ r4 ∧ r4 < 40000) ∧ (xp_m_page_65 d l2 (m4 436 r4) 1 m4 Q))))))))))) : xc_m_page (d + 1) l1 l2 m Q := by
  refine w_enter (q := 3) (lv := [some (2, 428), some (0, l1), some (0, l2), none, none, none]) rfl rfl rfl ?_
  refine w_aload_n rfl rfl ?_
  refine x_gfZ rfl s_428 rfl (kk := 6) rfl rfl ?_
  refine w_ifne rfl (w_ite h (fun h => ?_) (fun h => ?_))
  · refine w_iconst rfl (by decide) ?_
    exact w_iret rfl rfl h
  · refine w_aload_n rfl rfl ?_
    refine w_iload_n rfl rfl ?_
    refine w_callV (t' := 0) [(0, l1)] [] rfl s_428 rfl rfl ?_
    refine w_C.more (Q := fun r1 m1 => _) h (fun r1 m1 h => ?_)
    replace h := id h
    refine w_ifeq rfl (w_ite h (fun h => ?_) (fun h => ?_))
    · refine w_iconst rfl (by decide) ?_
      exact w_iret rfl rfl h
    · refine w_iload_n rfl rfl ?_
      refine w_iflt rfl (w_ite h (fun h => ?_) (fun h => ?_))
      · refine w_iconst rfl (by decide) ?_
        exact w_iret rfl rfl h
      · refine w_iload_n rfl rfl ?_
        refine w_bipush rfl (by decide) ?_
        refine w_icle rfl (w_ite h (fun h => ?_) (fun h => ?_))
        · refine w_iconst rfl (by decide) ?_
          exact w_iret rfl rfl h
        · refine w_aload_n rfl rfl ?_
          refine w_gfC (c := 468) rfl s_428 rfl rfl ?_
          refine w_iload_n rfl rfl ?_
          refine w_iald rfl s_468 (n := 61) rfl h.1 ?_
          replace h := h.2
          refine w_istore_n (lv' := [some (2, 428), some (0, l1), some (0, l2), some (0, m1 468 l1), none, none]) rfl rfl rfl ?_
          refine w_iload_n rfl rfl ?_
          refine w_ifne rfl (w_ite h (fun h => ?_) (fun h => ?_))
          · refine w_iload_n rfl rfl ?_
            exact w_iret rfl rfl h
          · refine w_iload_n rfl rfl ?_
            refine w_iconst rfl (by decide) ?_
            refine w_icgt rfl (w_ite h (fun h => ?_) (fun h => ?_))
            · refine w_iload_n rfl rfl ?_
              refine w_iconst rfl (by decide) ?_
              refine w_icne rfl (w_ite h (fun h => ?_) (fun h => ?_))
              · refine w_aload_n rfl rfl ?_
                refine w_iload_n rfl rfl ?_
                refine w_ldcwR rfl ?_
                refine w_callV (t' := 0) [(2, 258), (0, m1 468 l1)] [] rfl s_428 rfl rfl ?_
                refine w_C.more (Q := fun r2 m2 => _) h (fun r2 m2 h => ?_)
                replace h := id h
                refine w_istore (lv' := [some (2, 428), some (0, l1), some (0, l2), some (0, m1 468 l1), some (0, r2), none]) rfl rfl rfl ?_
                refine w_iload rfl rfl ?_
                refine w_ifge rfl (w_ite h (fun h => ?_) (fun h => ?_))
                · refine w_iconst rfl (by decide) ?_
                  refine w_goto rfl ?_
                  exact w_iret rfl rfl h
                · refine w_aload_n rfl rfl ?_
                  refine w_gfC (c := 433) rfl s_428 rfl rfl ?_
                  refine w_iload rfl rfl ?_
                  refine w_iald rfl s_433 (n := 40000) rfl h.1 ?_
                  replace h := h.2
                  exact w_iret rfl rfl h
              · refine w_aload_n rfl rfl ?_
                refine w_iload_n rfl rfl ?_
                refine w_callV (t' := 0) [(0, m1 468 l1)] [] rfl s_428 rfl rfl ?_
                refine w_C.more (Q := fun r3 m3 => _) h (fun r3 m3 h => ?_)
                replace h := id h
                exact w_iret rfl rfl h
            · refine w_aload_n rfl rfl ?_
              refine w_gfC (c := 436) rfl s_428 rfl rfl ?_
              refine w_aload_n rfl rfl ?_
              refine w_iload_n rfl rfl ?_
              refine w_ldcwR rfl ?_
              refine w_callV (t' := 0) [(2, 240), (0, m1 468 l1)] [(2, 436)] rfl s_428 rfl rfl ?_
              refine w_C.more (Q := fun r4 m4 => _) h (fun r4 m4 h => ?_)
              replace h := id h
              refine w_iald rfl s_436 (n := 40000) rfl h.1 ?_
              replace h := h.2
              refine w_istore (lv' := [some (2, 428), some (0, l1), some (0, l2), some (0, m1 468 l1), some (0, m4 436 r4), none]) rfl rfl rfl ?_
              refine w_iconst rfl (by decide) ?_
              refine w_istore (lv' := [some (2, 428), some (0, l1), some (0, l2), some (0, m1 468 l1), some (0, m4 436 r4), some (0, 1)]) rfl rfl rfl ?_
              exact w_W.less h (w_sub [true, false, true, false, true, true] rfl)
theorem xr_m_page_65 {d : Nat} {l2 l4 l5 : Int} {m : w_M} {Q : Int → w_M → Prop} (h : if l5 < l2 then (((0 : Int) ≤ l4 ∧ l4 < 40000) ∧ (xp_m_page_65 d l2 (m 437 l4) (w_32 (l5 + 1)) m Q)) else (xc_m_resolve d l4 m (fun r1 m1 => xc_m_unitsOf d r1 m1 (fun r2 m2 => Q r2 m2)))) : xp_m_page_65 d l2 l4 l5 m Q := by
  refine w_iload rfl rfl ?_
  refine w_iload_n rfl rfl ?_
  refine w_icge rfl (w_ite h (fun h => ?_) (fun h => ?_))
  · refine w_aload_n rfl rfl ?_
    refine w_gfC (c := 437) rfl s_428 rfl rfl ?_
    refine w_iload rfl rfl ?_
    refine w_iald rfl s_437 (n := 40000) rfl h.1 ?_
    replace h := h.2
    refine w_istore (lv' := [some (2, 428), none, some (0, l2), none, some (0, m 437 l4), some (0, l5)]) rfl rfl rfl ?_
    refine w_iinc (lv' := [some (2, 428), none, some (0, l2), none, some (0, m 437 l4), some (0, w_32 (l5 + 1))]) rfl rfl rfl rfl ?_
    refine w_goto rfl ?_
    exact w_W.less h (w_sub [true, false, true, false, true, true] rfl)
  · refine w_aload_n rfl rfl ?_
    refine w_aload_n rfl rfl ?_
    refine w_iload rfl rfl ?_
    refine w_callV (t' := 0) [(0, l4)] [(2, 428)] rfl s_428 rfl rfl ?_
    refine w_C.more (Q := fun r1 m1 => _) h (fun r1 m1 h => ?_)
    replace h := id h
    refine w_callV (t' := 0) [(0, r1)] [] rfl s_428 rfl rfl ?_
    refine w_C.more (Q := fun r2 m2 => _) h (fun r2 m2 h => ?_)
    replace h := id h
    exact w_iret rfl rfl h
theorem xr_m_pages {d : Nat} {m : w_M} {Q : Int → w_M → Prop} (h : if (m 428 6) = 0 then (Q (-1) m) else (Q (m 428 84) m)) : xc_m_pages (d + 1) m Q := by
  refine w_enter (q := 0) (lv := [some (2, 428)]) rfl rfl rfl ?_
  refine w_aload_n rfl rfl ?_
  refine x_gfZ rfl s_428 rfl (kk := 6) rfl rfl ?_
  refine w_ifeq rfl (w_ite h (fun h => ?_) (fun h => ?_))
  · refine w_iconst rfl (by decide) ?_
    exact w_iret rfl rfl h
  · refine w_aload_n rfl rfl ?_
    refine x_gfI rfl s_428 rfl (kk := 84) rfl rfl ?_
    refine w_goto rfl ?_
    exact w_iret rfl rfl h
theorem xr_m_pair {d : Nat} {l1 l2 : Int} {m : w_M} {Q : Int → w_M → Prop} (h : xp_m_pair_3 d l1 l2 28 m Q) : xc_m_pair (d + 1) l1 l2 m Q := by
  refine w_enter (q := 2) (lv := [some (2, 428), some (0, l1), some (0, l2), none, none]) rfl rfl rfl ?_
  refine w_bipush rfl (by decide) ?_
  refine w_istore_n (lv' := [some (2, 428), some (0, l1), some (0, l2), some (0, 28), none]) rfl rfl rfl ?_
  exact w_W.less h (w_sub [true, true, true, true, false] rfl)
theorem xr_m_pair_3 {d : Nat} {l1 l2 l3 : Int} {m : w_M} {Q : Int → w_M → Prop} (h : xc_m_lengthOf d l3 m (fun r1 m1 => if l1 < r1 then (xp_m_pair_3 d l1 l2 (w_32 (l3 + (-1))) m1 Q) else (xc_m_literal d (w_32 (257 + l3)) m1 (fun r2 m2 => xc_m_lengthOf d l3 m2 (fun r3 m3 => xc_m_extraOf d l3 m3 (fun r4 m4 => xc_m_bit d (w_32 (l1 - r3)) r4 m4 (fun r5 m5 => xp_m_pair_44 d l2 29 m5 Q))))))) : xp_m_pair_3 d l1 l2 l3 m Q := by
  refine w_iload_n rfl rfl ?_
  refine w_callS (t' := 0) [(0, l3)] [] rfl (by decide) rfl rfl ?_
  refine w_C.more (Q := fun r1 m1 => _) h (fun r1 m1 h => ?_)
  replace h := id h
  refine w_iload_n rfl rfl ?_
  refine w_icle rfl (w_ite h (fun h => ?_) (fun h => ?_))
  · refine w_iinc (lv' := [some (2, 428), some (0, l1), some (0, l2), some (0, w_32 (l3 + (-1))), none]) rfl rfl rfl rfl ?_
    refine w_goto rfl ?_
    exact w_W.less h (w_sub [true, true, true, true, false] rfl)
  · refine w_aload_n rfl rfl ?_
    refine w_sipush rfl (by decide) ?_
    refine w_iload_n rfl rfl ?_
    refine w_iadd rfl ?_
    refine w_callV (t' := 3) [(0, w_32 (257 + l3))] [] rfl s_428 rfl rfl ?_
    refine w_C.more (Q := fun r2 m2 => _) h (fun r2 m2 h => ?_)
    replace h := id h
    refine w_aload_n rfl rfl ?_
    refine w_iload_n rfl rfl ?_
    refine w_iload_n rfl rfl ?_
    refine w_callS (t' := 0) [(0, l3)] [(0, l1), (2, 428)] rfl (by decide) rfl rfl ?_
    refine w_C.more (Q := fun r3 m3 => _) h (fun r3 m3 h => ?_)
    replace h := id h
    refine w_isub rfl ?_
    refine w_iload_n rfl rfl ?_
    refine w_callS (t' := 0) [(0, l3)] [(0, w_32 (l1 - r3)), (2, 428)] rfl (by decide) rfl rfl ?_
    refine w_C.more (Q := fun r4 m4 => _) h (fun r4 m4 h => ?_)
    replace h := id h
    refine w_callV (t' := 3) [(0, r4), (0, w_32 (l1 - r3))] [] rfl s_428 rfl rfl ?_
    refine w_C.more (Q := fun r5 m5 => _) h (fun r5 m5 h => ?_)
    replace h := id h
    refine w_bipush rfl (by decide) ?_
    refine w_istore (lv' := [some (2, 428), some (0, l1), some (0, l2), some (0, l3), some (0, 29)]) rfl rfl rfl ?_
    exact w_W.less h (w_sub [true, false, true, false, true] rfl)
theorem xr_m_pair_44 {d : Nat} {l2 l4 : Int} {m : w_M} {Q : Int → w_M → Prop} (h : xc_m_distanceOf d l4 m (fun r1 m1 => if l2 < r1 then (xp_m_pair_44 d l2 (w_32 (l4 + (-1))) m1 Q) else (xc_m_huffman d l4 5 m1 (fun r2 m2 => xc_m_distanceOf d l4 m2 (fun r3 m3 => xc_m_farExtra d l4 m3 (fun r4 m4 => xc_m_bit d (w_32 (l2 - r3)) r4 m4 (fun r5 m5 => Q 0 m5))))))) : xp_m_pair_44 d l2 l4 m Q := by
  refine w_iload rfl rfl ?_
  refine w_callS (t' := 0) [(0, l4)] [] rfl (by decide) rfl rfl ?_
  refine w_C.more (Q := fun r1 m1 => _) h (fun r1 m1 h => ?_)
  replace h := id h
  refine w_iload_n rfl rfl ?_
  refine w_icle rfl (w_ite h (fun h => ?_) (fun h => ?_))
  · refine w_iinc (lv' := [some (2, 428), none, some (0, l2), none, some (0, w_32 (l4 + (-1)))]) rfl rfl rfl rfl ?_
    refine w_goto rfl ?_
    exact w_W.less h (w_sub [true, false, true, false, true] rfl)
  · refine w_aload_n rfl rfl ?_
    refine w_iload rfl rfl ?_
    refine w_iconst rfl (by decide) ?_
    refine w_callV (t' := 3) [(0, 5), (0, l4)] [] rfl s_428 rfl rfl ?_
    refine w_C.more (Q := fun r2 m2 => _) h (fun r2 m2 h => ?_)
    replace h := id h
    refine w_aload_n rfl rfl ?_
    refine w_iload_n rfl rfl ?_
    refine w_iload rfl rfl ?_
    refine w_callS (t' := 0) [(0, l4)] [(0, l2), (2, 428)] rfl (by decide) rfl rfl ?_
    refine w_C.more (Q := fun r3 m3 => _) h (fun r3 m3 h => ?_)
    replace h := id h
    refine w_isub rfl ?_
    refine w_iload rfl rfl ?_
    refine w_callS (t' := 0) [(0, l4)] [(0, w_32 (l2 - r3)), (2, 428)] rfl (by decide) rfl rfl ?_
    refine w_C.more (Q := fun r4 m4 => _) h (fun r4 m4 h => ?_)
    replace h := id h
    refine w_callV (t' := 3) [(0, r4), (0, w_32 (l2 - r3))] [] rfl s_428 rfl rfl ?_
    refine w_C.more (Q := fun r5 m5 => _) h (fun r5 m5 h => ?_)
    replace h := id h
    exact w_vret rfl rfl h
theorem xr_m_peek {d : Nat} {l1 : Int} {m : w_M} {Q : Int → w_M → Prop} (h : if (w_32 ((m 428 21) + l1)) < (m 428 20) then ((0 : Int) ≤ (m 428 18) ∧ (w_isA 1 (m 428 18) ∧ ((0 : Int) ≤ (w_32 ((w_32 ((m 428 19) + (m 428 21))) + l1)) ∧ (w_32 ((w_32 ((m 428 19) + (m 428 21))) + l1)) < w_ln (m 428 18)) ∧ (Q ((m (m 428 18) (w_32 ((w_32 ((m 428 19) + (m 428 21))) + l1))) % 256) m))) else (Q (-1) m)) : xc_m_peek (d + 1) l1 m Q := by
  refine w_enter (q := 0) (lv := [some (2, 428), some (0, l1)]) rfl rfl rfl ?_
  refine w_aload_n rfl rfl ?_
  refine x_gfI rfl s_428 rfl (kk := 21) rfl rfl ?_
  refine w_iload_n rfl rfl ?_
  refine w_iadd rfl ?_
  refine w_aload_n rfl rfl ?_
  refine x_gfI rfl s_428 rfl (kk := 20) rfl rfl ?_
  refine w_icge rfl (w_ite h (fun h => ?_) (fun h => ?_))
  · refine w_aload_n rfl rfl ?_
    refine x_gfR rfl s_428 rfl (kk := 18) rfl rfl h.1 ?_
    replace h := h.2
    refine w_aload_n rfl rfl ?_
    refine x_gfI rfl s_428 rfl (kk := 19) rfl rfl ?_
    refine w_aload_n rfl rfl ?_
    refine x_gfI rfl s_428 rfl (kk := 21) rfl rfl ?_
    refine w_iadd rfl ?_
    refine w_iload_n rfl rfl ?_
    refine w_iadd rfl ?_
    refine x_bald rfl h.1 h.2.1 ?_
    replace h := h.2.2
    refine w_sipush rfl (by decide) ?_
    refine w_iandm 8 (c := 256) rfl (by decide) rfl rfl ?_
    refine w_goto rfl ?_
    exact w_iret rfl rfl h
  · refine w_iconst rfl (by decide) ?_
    exact w_iret rfl rfl h
theorem xr_m_plainRow {d : Nat} {m : w_M} {Q : Int → w_M → Prop} (h : xp_m_plainRow_4 d 0 0 m Q) : xc_m_plainRow (d + 1) m Q := by
  refine w_enter (q := 3) (lv := [some (2, 428), none, none, none]) rfl rfl rfl ?_
  refine w_lconst rfl rfl ?_
  refine w_lstore_n (lv' := [some (2, 428), some (1, 0), none, none]) rfl rfl rfl ?_
  refine w_iconst rfl (by decide) ?_
  refine w_istore_n (lv' := [some (2, 428), some (1, 0), none, some (0, 0)]) rfl rfl rfl ?_
  exact w_W.less h (w_sub [true, true, false, true] rfl)
theorem xr_m_plainRow_4 {d : Nat} {l1 l3 : Int} {m : w_M} {Q : Int → w_M → Prop} (h : xc_m_peek d l3 m (fun r1 m1 => xc_m_isDigit d r1 m1 (fun r2 m2 => if r2 = 0 then (if l3 = 0 then (Q (-1) m2) else (xc_m_peek d l3 m2 (fun r3 m3 => xc_m_isRegular d r3 m3 (fun r4 m4 => if r4 = 0 then (if 2147483647 < l1 then (Q (-2) (w_up m4 428 21 (w_32 ((m4 428 21) + l3)))) else (Q l1 (w_up m4 428 21 (w_32 ((m4 428 21) + l3))))) else (Q (-1) m4))))) else (if 4294967296 < l1 then (xp_m_plainRow_4 d l1 (w_32 (l3 + 1)) m2 Q) else (xc_m_peek d l3 m2 (fun r5 m5 => xp_m_plainRow_4 d (w_64 ((w_64 ((w_64 (10 * l1)) + r5)) - 48)) (w_32 (l3 + 1)) m5 Q)))))) : xp_m_plainRow_4 d l1 l3 m Q := by
  refine w_aload_n rfl rfl ?_
  refine w_iload_n rfl rfl ?_
  refine w_callV (t' := 0) [(0, l3)] [] rfl s_428 rfl rfl ?_
  refine w_C.more (Q := fun r1 m1 => _) h (fun r1 m1 h => ?_)
  replace h := id h
  refine w_callS (t' := 0) [(0, r1)] [] rfl (by decide) rfl rfl ?_
  refine w_C.more (Q := fun r2 m2 => _) h (fun r2 m2 h => ?_)
  replace h := id h
  refine w_ifeq rfl (w_ite h (fun h => ?_) (fun h => ?_))
  · refine w_iload_n rfl rfl ?_
    refine w_ifeq rfl (w_ite h (fun h => ?_) (fun h => ?_))
    · refine w_ldc2 (a := (-1)) rfl (by decide +kernel) (by decide) ?_
      exact w_lret rfl rfl h
    · refine w_aload_n rfl rfl ?_
      refine w_iload_n rfl rfl ?_
      refine w_callV (t' := 0) [(0, l3)] [] rfl s_428 rfl rfl ?_
      refine w_C.more (Q := fun r3 m3 => _) h (fun r3 m3 h => ?_)
      replace h := id h
      refine w_callS (t' := 0) [(0, r3)] [] rfl (by decide) rfl rfl ?_
      refine w_C.more (Q := fun r4 m4 => _) h (fun r4 m4 h => ?_)
      replace h := id h
      refine w_ifeq rfl (w_ite h (fun h => ?_) (fun h => ?_))
      · refine w_aload_n rfl rfl ?_
        refine w_dup rfl (show (2 : Nat) ≠ 1 by decide) ?_
        refine x_gfI rfl s_428 rfl (kk := 21) rfl rfl ?_
        refine w_iload_n rfl rfl ?_
        refine w_iadd rfl ?_
        refine w_pfI rfl s_428 rfl (w_EM (by decide)) rfl (kk := 21) rfl ?_
        refine w_lload_n rfl rfl ?_
        refine w_ldc2 (a := 2147483647) rfl (by decide +kernel) (by decide) ?_
        refine w_lcle rfl rfl (w_ite h (fun h => ?_) (fun h => ?_))
        · refine w_ldc2 (a := (-2)) rfl (by decide +kernel) (by decide) ?_
          refine w_goto rfl ?_
          exact w_lret rfl rfl h
        · refine w_lload_n rfl rfl ?_
          exact w_lret rfl rfl h
      · refine w_ldc2 (a := (-1)) rfl (by decide +kernel) (by decide) ?_
        exact w_lret rfl rfl h
  · refine w_lload_n rfl rfl ?_
    refine w_ldc2 (a := 4294967296) rfl (by decide +kernel) (by decide) ?_
    refine w_lcle rfl rfl (w_ite h (fun h => ?_) (fun h => ?_))
    · refine w_lload_n rfl rfl ?_
      refine w_goto rfl ?_
      refine w_lstore_n (lv' := [some (2, 428), some (1, l1), none, some (0, l3)]) rfl rfl rfl ?_
      refine w_iinc (lv' := [some (2, 428), some (1, l1), none, some (0, w_32 (l3 + 1))]) rfl rfl rfl rfl ?_
      refine w_goto rfl ?_
      exact w_W.less h (w_sub [true, true, false, true] rfl)
    · refine w_ldc2 (a := 10) rfl (by decide +kernel) (by decide) ?_
      refine w_lload_n rfl rfl ?_
      refine w_lmul' rfl ?_
      refine w_aload_n rfl rfl ?_
      refine w_iload_n rfl rfl ?_
      refine w_callV (t' := 0) [(0, l3)] [(1, w_64 (10 * l1))] rfl s_428 rfl rfl ?_
      refine w_C.more (Q := fun r5 m5 => _) h (fun r5 m5 h => ?_)
      replace h := id h
      refine w_i2l rfl ?_
      refine w_ladd' rfl ?_
      refine w_ldc2 (a := 48) rfl (by decide +kernel) (by decide) ?_
      refine w_lsub' rfl ?_
      refine w_lstore_n (lv' := [some (2, 428), some (1, w_64 ((w_64 ((w_64 (10 * l1)) + r5)) - 48)), none, some (0, l3)]) rfl rfl rfl ?_
      refine w_iinc (lv' := [some (2, 428), some (1, w_64 ((w_64 ((w_64 (10 * l1)) + r5)) - 48)), none, some (0, w_32 (l3 + 1))]) rfl rfl rfl rfl ?_
      refine w_goto rfl ?_
      exact w_W.less h (w_sub [true, true, false, true] rfl)
theorem xr_m_product {d : Nat} {l1 l2 l3 : Int} {m : w_M} {Q : Int → w_M → Prop} (h : xp_m_product_3 d l1 l2 l3 0 m Q) : xc_m_product (d + 1) l1 l2 l3 m Q := by
  refine w_enter (q := 1) (lv := [some (2, 428), some (2, l1), some (2, l2), some (2, l3), none]) rfl rfl rfl ?_
  refine w_iconst rfl (by decide) ?_
  refine w_istore (lv' := [some (2, 428), some (2, l1), some (2, l2), some (2, l3), some (0, 0)]) rfl rfl rfl ?_
  exact w_W.less h (w_sub [true, true, true, true, true] rfl)
theorem xr_m_product_3 {d : Nat} {l1 l2 l3 l4 : Int} {m : w_M} {Q : Int → w_M → Prop} (h : if l4 < 6 then (w_isA 0 l1 ∧ ((0 : Int) ≤ l4 ∧ l4 < w_ln l1) ∧ (w_isA 0 l2 ∧ ((0 : Int) ≤ 0 ∧ 0 < w_ln l2) ∧ (xc_m_times d (m l1 l4) (m l2 0) m (fun r1 m1 => w_isA 0 l1 ∧ ((0 : Int) ≤ (w_32 (l4 + 1)) ∧ (w_32 (l4 + 1)) < w_ln l1) ∧ (w_isA 0 l2 ∧ ((0 : Int) ≤ 2 ∧ 2 < w_ln l2) ∧ (xc_m_times d (m1 l1 (w_32 (l4 + 1))) (m1 l2 2) m1 (fun r2 m2 => if l4 = 4 then (w_isA 0 l2 ∧ ((0 : Int) ≤ 4 ∧ 4 < w_ln l2) ∧ (xp_m_product_56 d l1 l2 l3 l4 l4 (w_64 (r1 + r2)) (m2 l2 4) m2 Q)) else (xp_m_product_56 d l1 l2 l3 l4 l4 (w_64 (r1 + r2)) 0 m2 Q)))))))) else (xp_m_product_119 d l3 0 m Q)) : xp_m_product_3 d l1 l2 l3 l4 m Q := by
  refine w_iload rfl rfl ?_
  refine w_bipush rfl (by decide) ?_
  refine w_icge rfl (w_ite h (fun h => ?_) (fun h => ?_))
  · refine w_aload_n rfl rfl ?_
    refine w_gfC (c := 478) rfl s_428 rfl rfl ?_
    refine w_iload rfl rfl ?_
    refine w_aload_n rfl rfl ?_
    refine w_iload rfl rfl ?_
    refine x_iald rfl h.1 h.2.1 ?_
    replace h := h.2.2
    refine w_i2l rfl ?_
    refine w_aload_n rfl rfl ?_
    refine w_iconst rfl (by decide) ?_
    refine x_iald rfl h.1 h.2.1 ?_
    replace h := h.2.2
    refine w_i2l rfl ?_
    refine w_callS (t' := 1) [(1, m l2 0), (1, m l1 l4)] [(0, l4), (2, 478)] rfl (by decide) rfl rfl ?_
    refine w_C.more (Q := fun r1 m1 => _) h (fun r1 m1 h => ?_)
    replace h := id h
    refine w_aload_n rfl rfl ?_
    refine w_iload rfl rfl ?_
    refine w_iconst rfl (by decide) ?_
    refine w_iadd rfl ?_
    refine x_iald rfl h.1 h.2.1 ?_
    replace h := h.2.2
    refine w_i2l rfl ?_
    refine w_aload_n rfl rfl ?_
    refine w_iconst rfl (by decide) ?_
    refine x_iald rfl h.1 h.2.1 ?_
    replace h := h.2.2
    refine w_i2l rfl ?_
    refine w_callS (t' := 1) [(1, m1 l2 2), (1, m1 l1 (w_32 (l4 + 1)))] [(1, r1), (0, l4), (2, 478)] rfl (by decide) rfl rfl ?_
    refine w_C.more (Q := fun r2 m2 => _) h (fun r2 m2 h => ?_)
    replace h := id h
    refine w_ladd' rfl ?_
    refine w_iload rfl rfl ?_
    refine w_iconst rfl (by decide) ?_
    refine w_icne rfl (w_ite h (fun h => ?_) (fun h => ?_))
    · refine w_aload_n rfl rfl ?_
      refine w_iconst rfl (by decide) ?_
      refine x_iald rfl h.1 h.2.1 ?_
      replace h := h.2.2
      refine w_goto rfl ?_
      exact w_W.less h (w_sub [true, true, true, true, true] rfl)
    · refine w_iconst rfl (by decide) ?_
      exact w_W.less h (w_sub [true, true, true, true, true] rfl)
  · refine w_iconst rfl (by decide) ?_
    refine w_istore (lv' := [some (2, 428), some (2, l1), some (2, l2), some (2, l3), some (0, 0)]) rfl rfl rfl ?_
    exact w_W.less h (w_sub [true, false, false, true, true] rfl)
theorem xr_m_product_56 {d : Nat} {l1 l2 l3 l4 s1 s2 s3 : Int} {m : w_M} {Q : Int → w_M → Prop} (h : ((0 : Int) ≤ s1 ∧ s1 < 6) ∧ (w_isA 0 l1 ∧ ((0 : Int) ≤ l4 ∧ l4 < w_ln l1) ∧ (w_isA 0 l2 ∧ ((0 : Int) ≤ 1 ∧ 1 < w_ln l2) ∧ (xc_m_times d ((w_up m 478 s1 (w_64 (s2 + s3))) l1 l4) ((w_up m 478 s1 (w_64 (s2 + s3))) l2 1) (w_up m 478 s1 (w_64 (s2 + s3))) (fun r1 m1 => w_isA 0 l1 ∧ ((0 : Int) ≤ (w_32 (l4 + 1)) ∧ (w_32 (l4 + 1)) < w_ln l1) ∧ (w_isA 0 l2 ∧ ((0 : Int) ≤ 3 ∧ 3 < w_ln l2) ∧ (xc_m_times d (m1 l1 (w_32 (l4 + 1))) (m1 l2 3) m1 (fun r2 m2 => if l4 = 4 then (w_isA 0 l2 ∧ ((0 : Int) ≤ 5 ∧ 5 < w_ln l2) ∧ (((0 : Int) ≤ (w_32 (l4 + 1)) ∧ (w_32 (l4 + 1)) < 6) ∧ (xp_m_product_3 d l1 l2 l3 (w_32 (l4 + 2)) (w_up m2 478 (w_32 (l4 + 1)) (w_64 ((w_64 (r1 + r2)) + (m2 l2 5)))) Q))) else (((0 : Int) ≤ (w_32 (l4 + 1)) ∧ (w_32 (l4 + 1)) < 6) ∧ (xp_m_product_3 d l1 l2 l3 (w_32 (l4 + 2)) (w_up m2 478 (w_32 (l4 + 1)) (w_64 ((w_64 (r1 + r2)) + 0))) Q)))))))))) : xp_m_product_56 d l1 l2 l3 l4 s1 s2 s3 m Q := by
  refine w_i2l rfl ?_
  refine w_ladd' rfl ?_
  refine w_last rfl s_478 (w_EM (by decide)) (n := 6) rfl h.1 ?_
  replace h := h.2
  refine w_aload_n rfl rfl ?_
  refine w_gfC (c := 478) rfl s_428 rfl rfl ?_
  refine w_iload rfl rfl ?_
  refine w_iconst rfl (by decide) ?_
  refine w_iadd rfl ?_
  refine w_aload_n rfl rfl ?_
  refine w_iload rfl rfl ?_
  refine x_iald rfl h.1 h.2.1 ?_
  replace h := h.2.2
  refine w_i2l rfl ?_
  refine w_aload_n rfl rfl ?_
  refine w_iconst rfl (by decide) ?_
  refine x_iald rfl h.1 h.2.1 ?_
  replace h := h.2.2
  refine w_i2l rfl ?_
  refine w_callS (t' := 1) [(1, (w_up m 478 s1 (w_64 (s2 + s3))) l2 1), (1, (w_up m 478 s1 (w_64 (s2 + s3))) l1 l4)] [(0, w_32 (l4 + 1)), (2, 478)] rfl (by decide) rfl rfl ?_
  refine w_C.more (Q := fun r1 m1 => _) h (fun r1 m1 h => ?_)
  replace h := id h
  refine w_aload_n rfl rfl ?_
  refine w_iload rfl rfl ?_
  refine w_iconst rfl (by decide) ?_
  refine w_iadd rfl ?_
  refine x_iald rfl h.1 h.2.1 ?_
  replace h := h.2.2
  refine w_i2l rfl ?_
  refine w_aload_n rfl rfl ?_
  refine w_iconst rfl (by decide) ?_
  refine x_iald rfl h.1 h.2.1 ?_
  replace h := h.2.2
  refine w_i2l rfl ?_
  refine w_callS (t' := 1) [(1, m1 l2 3), (1, m1 l1 (w_32 (l4 + 1)))] [(1, r1), (0, w_32 (l4 + 1)), (2, 478)] rfl (by decide) rfl rfl ?_
  refine w_C.more (Q := fun r2 m2 => _) h (fun r2 m2 h => ?_)
  replace h := id h
  refine w_ladd' rfl ?_
  refine w_iload rfl rfl ?_
  refine w_iconst rfl (by decide) ?_
  refine w_icne rfl (w_ite h (fun h => ?_) (fun h => ?_))
  · refine w_aload_n rfl rfl ?_
    refine w_iconst rfl (by decide) ?_
    refine x_iald rfl h.1 h.2.1 ?_
    replace h := h.2.2
    refine w_goto rfl ?_
    refine w_i2l rfl ?_
    refine w_ladd' rfl ?_
    refine w_last rfl s_478 (w_EM (by decide)) (n := 6) rfl h.1 ?_
    replace h := h.2
    refine w_iinc (lv' := [some (2, 428), some (2, l1), some (2, l2), some (2, l3), some (0, w_32 (l4 + 2))]) rfl rfl rfl rfl ?_
    refine w_goto rfl ?_
    exact w_W.less h (w_sub [true, true, true, true, true] rfl)
  · refine w_iconst rfl (by decide) ?_
    refine w_i2l rfl ?_
    refine w_ladd' rfl ?_
    refine w_last rfl s_478 (w_EM (by decide)) (n := 6) rfl h.1 ?_
    replace h := h.2
    refine w_iinc (lv' := [some (2, 428), some (2, l1), some (2, l2), some (2, l3), some (0, w_32 (l4 + 2))]) rfl rfl rfl rfl ?_
    refine w_goto rfl ?_
    exact w_W.less h (w_sub [true, true, true, true, true] rfl)
theorem xr_m_product_119 {d : Nat} {l3 l4 : Int} {m : w_M} {Q : Int → w_M → Prop} (h : if l4 < 6 then (((0 : Int) ≤ l4 ∧ l4 < 6) ∧ (xc_m_near d (m 478 l4) m (fun r1 m1 => xp_m_product_119 d l3 (w_32 (l4 + 1)) m1 Q))) else (xp_m_product_146 d l3 0 m Q)) : xp_m_product_119 d l3 l4 m Q := by
  refine w_iload rfl rfl ?_
  refine w_bipush rfl (by decide) ?_
  refine w_icge rfl (w_ite h (fun h => ?_) (fun h => ?_))
  · refine w_aload_n rfl rfl ?_
    refine w_aload_n rfl rfl ?_
    refine w_gfC (c := 478) rfl s_428 rfl rfl ?_
    refine w_iload rfl rfl ?_
    refine w_lald rfl s_478 (w_EM (by decide)) (n := 6) rfl h.1 ?_
    replace h := h.2
    refine w_callV (t' := 3) [(1, m 478 l4)] [] rfl s_428 rfl rfl ?_
    refine w_C.more (Q := fun r1 m1 => _) h (fun r1 m1 h => ?_)
    replace h := id h
    refine w_iinc (lv' := [some (2, 428), none, none, some (2, l3), some (0, w_32 (l4 + 1))]) rfl rfl rfl rfl ?_
    refine w_goto rfl ?_
    exact w_W.less h (w_sub [true, false, false, true, true] rfl)
  · refine w_iconst rfl (by decide) ?_
    refine w_istore (lv' := [some (2, 428), none, none, some (2, l3), some (0, 0)]) rfl rfl rfl ?_
    exact w_W.less h (w_sub [true, false, false, true, true] rfl)
theorem xr_m_product_146 {d : Nat} {l3 l4 : Int} {m : w_M} {Q : Int → w_M → Prop} (h : if l4 < 6 then (xc_m_good d m (fun r1 m1 => if r1 = 0 then (Q 0 m1) else (((0 : Int) ≤ l4 ∧ l4 < 6) ∧ (w_isA 0 l3 ∧ w_wr (w_G0 sM) (Int.toNat l3) ∧ ((0 : Int) ≤ l4 ∧ l4 < w_ln l3) ∧ (xp_m_product_146 d l3 (w_32 (l4 + 1)) (w_up m1 l3 l4 (w_32 (m1 478 l4))) Q))))) else (Q 0 m)) : xp_m_product_146 d l3 l4 m Q := by
  refine w_iload rfl rfl ?_
  refine w_bipush rfl (by decide) ?_
  refine w_icge rfl (w_ite h (fun h => ?_) (fun h => ?_))
  · refine w_aload_n rfl rfl ?_
    refine w_callV (t' := 0) [] [] rfl s_428 rfl rfl ?_
    refine w_C.more (Q := fun r1 m1 => _) h (fun r1 m1 h => ?_)
    replace h := id h
    refine w_ifeq rfl (w_ite h (fun h => ?_) (fun h => ?_))
    · exact w_vret rfl rfl h
    · refine w_aload_n rfl rfl ?_
      refine w_iload rfl rfl ?_
      refine w_aload_n rfl rfl ?_
      refine w_gfC (c := 478) rfl s_428 rfl rfl ?_
      refine w_iload rfl rfl ?_
      refine w_lald rfl s_478 (w_EM (by decide)) (n := 6) rfl h.1 ?_
      replace h := h.2
      refine w_l2i rfl ?_
      refine x_iast rfl h.1 h.2.1 h.2.2.1 ?_
      replace h := h.2.2.2
      refine w_iinc (lv' := [some (2, 428), none, none, some (2, l3), some (0, w_32 (l4 + 1))]) rfl rfl rfl rfl ?_
      refine w_goto rfl ?_
      exact w_W.less h (w_sub [true, false, false, true, true] rfl)
  · exact w_vret rfl rfl h
theorem xr_m_put1 {d : Nat} {l1 : Int} {m : w_M} {Q : Int → w_M → Prop} (h : ((0 : Int) ≤ (w_32 ((m 428 17) + (m 428 26))) ∧ (w_32 ((m 428 17) + (m 428 26))) < 150000) ∧ (Q 0 (w_up (w_up m 440 (w_32 ((m 428 17) + (m 428 26))) (w_8 (w_8 l1))) 428 26 (w_32 ((m 428 26) + 1))))) : xc_m_put1 (d + 1) l1 m Q := by
  refine w_enter (q := 0) (lv := [some (2, 428), some (0, l1)]) rfl rfl rfl ?_
  refine w_aload_n rfl rfl ?_
  refine w_gfC (c := 440) rfl s_428 rfl rfl ?_
  refine w_aload_n rfl rfl ?_
  refine x_gfI rfl s_428 rfl (kk := 17) rfl rfl ?_
  refine w_aload_n rfl rfl ?_
  refine x_gfI rfl s_428 rfl (kk := 26) rfl rfl ?_
  refine w_iadd rfl ?_
  refine w_iload_n rfl rfl ?_
  refine w_i2b rfl ?_
  refine w_bast rfl s_440 (w_EM (by decide)) (n := 150000) rfl h.1 ?_
  replace h := h.2
  refine w_aload_n rfl rfl ?_
  refine w_dup rfl (show (2 : Nat) ≠ 1 by decide) ?_
  refine x_gfI rfl s_428 rfl (kk := 26) rfl (w_up_ne (by decide)) ?_
  refine w_iconst rfl (by decide) ?_
  refine w_iadd rfl ?_
  refine w_pfI rfl s_428 rfl (w_EM (by decide)) rfl (kk := 26) rfl ?_
  exact w_vret rfl rfl h
theorem xr_m_put2 {d : Nat} {l1 l2 l3 : Int} {m : w_M} {Q : Int → w_M → Prop} (h : if l2 = (m 428 84) then (if (m 428 84) = 0 then (xp_m_put2_43 d l1 l2 l3 1 0 m Q) else (((0 : Int) ≤ (w_32 (l2 - 1)) ∧ (w_32 (l2 - 1)) < 61) ∧ (xp_m_put2_43 d l1 l2 l3 1 (m 468 (w_32 (l2 - 1))) m Q))) else (if (m 428 84) = 0 then (xp_m_put2_43 d l1 l2 l3 0 0 m Q) else (((0 : Int) ≤ l2 ∧ l2 < 61) ∧ (xp_m_put2_43 d l1 l2 l3 0 (m 468 l2) m Q)))) : xc_m_put2 (d + 1) l1 l2 l3 m Q := by
  refine w_enter (q := 7) (lv := [some (2, 428), some (0, l1), some (0, l2), some (0, l3), none, none, none, none, none, none, none]) rfl rfl rfl ?_
  refine w_iload_n rfl rfl ?_
  refine w_aload_n rfl rfl ?_
  refine x_gfI rfl s_428 rfl (kk := 84) rfl rfl ?_
  refine w_icne rfl (w_ite h (fun h => ?_) (fun h => ?_))
  · refine w_iconst rfl (by decide) ?_
    refine w_goto rfl ?_
    refine w_istore (lv' := [some (2, 428), some (0, l1), some (0, l2), some (0, l3), some (0, 1), none, none, none, none, none, none]) rfl rfl rfl ?_
    refine w_aload_n rfl rfl ?_
    refine x_gfI rfl s_428 rfl (kk := 84) rfl rfl ?_
    refine w_ifne rfl (w_ite h (fun h => ?_) (fun h => ?_))
    · refine w_iconst rfl (by decide) ?_
      refine w_goto rfl ?_
      exact w_W.less h (w_sub [true, true, true, true, true, false, false, false, false, false, false] rfl)
    · refine w_aload_n rfl rfl ?_
      refine w_gfC (c := 468) rfl s_428 rfl rfl ?_
      refine w_iload rfl rfl ?_
      refine w_ifeq rfl (w_iff (by decide) ?_)
      refine w_iload_n rfl rfl ?_
      refine w_iconst rfl (by decide) ?_
      refine w_isub rfl ?_
      refine w_goto rfl ?_
      refine w_iald rfl s_468 (n := 61) rfl h.1 ?_
      replace h := h.2
      exact w_W.less h (w_sub [true, true, true, true, true, false, false, false, false, false, false] rfl)
  · refine w_iconst rfl (by decide) ?_
    refine w_istore (lv' := [some (2, 428), some (0, l1), some (0, l2), some (0, l3), some (0, 0), none, none, none, none, none, none]) rfl rfl rfl ?_
    refine w_aload_n rfl rfl ?_
    refine x_gfI rfl s_428 rfl (kk := 84) rfl rfl ?_
    refine w_ifne rfl (w_ite h (fun h => ?_) (fun h => ?_))
    · refine w_iconst rfl (by decide) ?_
      refine w_goto rfl ?_
      exact w_W.less h (w_sub [true, true, true, true, true, false, false, false, false, false, false] rfl)
    · refine w_aload_n rfl rfl ?_
      refine w_gfC (c := 468) rfl s_428 rfl rfl ?_
      refine w_iload rfl rfl ?_
      refine w_ifeq rfl (w_ift (by decide) ?_)
      refine w_iload_n rfl rfl ?_
      refine w_iald rfl s_468 (n := 61) rfl h.1 ?_
      replace h := h.2
      exact w_W.less h (w_sub [true, true, true, true, true, false, false, false, false, false, false] rfl)
theorem xr_m_put2_43 {d : Nat} {l1 l2 l3 l4 s0 : Int} {m : w_M} {Q : Int → w_M → Prop} (h : if s0 = 0 then (xc_m_kidsOf d (m 428 83) m (fun r1 m1 => if l3 < 0 then (xc_m_newNode d 8 l1 m1 (fun r2 m2 => xp_m_put2_89 d l1 l2 l4 s0 (m 428 83) r1 r2 m2 Q)) else (xp_m_put2_89 d l1 l2 l4 s0 (m 428 83) r1 l3 m1 Q))) else (((0 : Int) ≤ s0 ∧ s0 < 200) ∧ (xc_m_kidsOf d (m 469 s0) m (fun r3 m3 => if l3 < 0 then (xc_m_newNode d 8 l1 m3 (fun r4 m4 => xp_m_put2_89 d l1 l2 l4 s0 (m 469 s0) r3 r4 m4 Q)) else (xp_m_put2_89 d l1 l2 l4 s0 (m 469 s0) r3 l3 m3 Q))))) : xp_m_put2_43 d l1 l2 l3 l4 s0 m Q := by
  refine w_istore (lv' := [some (2, 428), some (0, l1), some (0, l2), some (0, l3), some (0, l4), some (0, s0), none, none, none, none, none]) rfl rfl rfl ?_
  refine w_iload rfl rfl ?_
  refine w_ifne rfl (w_ite h (fun h => ?_) (fun h => ?_))
  · refine w_aload_n rfl rfl ?_
    refine x_gfI rfl s_428 rfl (kk := 83) rfl rfl ?_
    refine w_goto rfl ?_
    refine w_istore (lv' := [some (2, 428), some (0, l1), some (0, l2), some (0, l3), some (0, l4), some (0, s0), some (0, m 428 83), none, none, none, none]) rfl rfl rfl ?_
    refine w_aload_n rfl rfl ?_
    refine w_iload rfl rfl ?_
    refine w_callV (t' := 0) [(0, m 428 83)] [] rfl s_428 rfl rfl ?_
    refine w_C.more (Q := fun r1 m1 => _) h (fun r1 m1 h => ?_)
    replace h := id h
    refine w_istore (lv' := [some (2, 428), some (0, l1), some (0, l2), some (0, l3), some (0, l4), some (0, s0), some (0, m 428 83), some (0, r1), none, none, none]) rfl rfl rfl ?_
    refine w_iload_n rfl rfl ?_
    refine w_iflt rfl (w_ite h (fun h => ?_) (fun h => ?_))
    · refine w_aload_n rfl rfl ?_
      refine w_bipush rfl (by decide) ?_
      refine w_iload_n rfl rfl ?_
      refine w_callV (t' := 0) [(0, l1), (0, 8)] [] rfl s_428 rfl rfl ?_
      refine w_C.more (Q := fun r2 m2 => _) h (fun r2 m2 h => ?_)
      replace h := id h
      exact w_W.less h (w_sub [true, true, true, false, true, true, true, true, false, false, false] rfl)
    · refine w_iload_n rfl rfl ?_
      refine w_goto rfl ?_
      exact w_W.less h (w_sub [true, true, true, false, true, true, true, true, false, false, false] rfl)
  · refine w_aload_n rfl rfl ?_
    refine w_gfC (c := 469) rfl s_428 rfl rfl ?_
    refine w_iload rfl rfl ?_
    refine w_iald rfl s_469 (n := 200) rfl h.1 ?_
    replace h := h.2
    refine w_istore (lv' := [some (2, 428), some (0, l1), some (0, l2), some (0, l3), some (0, l4), some (0, s0), some (0, m 469 s0), none, none, none, none]) rfl rfl rfl ?_
    refine w_aload_n rfl rfl ?_
    refine w_iload rfl rfl ?_
    refine w_callV (t' := 0) [(0, m 469 s0)] [] rfl s_428 rfl rfl ?_
    refine w_C.more (Q := fun r3 m3 => _) h (fun r3 m3 h => ?_)
    replace h := id h
    refine w_istore (lv' := [some (2, 428), some (0, l1), some (0, l2), some (0, l3), some (0, l4), some (0, s0), some (0, m 469 s0), some (0, r3), none, none, none]) rfl rfl rfl ?_
    refine w_iload_n rfl rfl ?_
    refine w_iflt rfl (w_ite h (fun h => ?_) (fun h => ?_))
    · refine w_aload_n rfl rfl ?_
      refine w_bipush rfl (by decide) ?_
      refine w_iload_n rfl rfl ?_
      refine w_callV (t' := 0) [(0, l1), (0, 8)] [] rfl s_428 rfl rfl ?_
      refine w_C.more (Q := fun r4 m4 => _) h (fun r4 m4 h => ?_)
      replace h := id h
      exact w_W.less h (w_sub [true, true, true, false, true, true, true, true, false, false, false] rfl)
    · refine w_iload_n rfl rfl ?_
      refine w_goto rfl ?_
      exact w_W.less h (w_sub [true, true, true, false, true, true, true, true, false, false, false] rfl)
theorem xr_m_put2_89 {d : Nat} {l1 l2 l4 l5 l6 l7 s0 : Int} {m : w_M} {Q : Int → w_M → Prop} (h : ((0 : Int) ≤ s0 ∧ s0 < 40000) ∧ (((0 : Int) ≤ s0 ∧ s0 < 40000) ∧ (xc_m_generationOf d l1 (w_up (w_up m 432 s0 (w_8 8)) 433 s0 l1) (fun r1 m1 => ((0 : Int) ≤ s0 ∧ s0 < 40000) ∧ (((0 : Int) ≤ s0 ∧ s0 < 40000) ∧ (if l5 = 0 then (xp_m_put2_146 d l1 l2 l4 l6 l7 s0 (-1) (w_up (w_up m1 434 s0 (w_32 r1)) 437 s0 (-1)) Q) else (xc_m_element d l7 l5 (w_up (w_up m1 434 s0 (w_32 r1)) 437 s0 (-1)) (fun r2 m2 => xp_m_put2_146 d l1 l2 l4 l6 l7 s0 r2 m2 Q)))))))) : xp_m_put2_89 d l1 l2 l4 l5 l6 l7 s0 m Q := by
  refine w_istore (lv' := [some (2, 428), some (0, l1), some (0, l2), none, some (0, l4), some (0, l5), some (0, l6), some (0, l7), some (0, s0), none, none]) rfl rfl rfl ?_
  refine w_aload_n rfl rfl ?_
  refine w_gfC (c := 432) rfl s_428 rfl rfl ?_
  refine w_iload rfl rfl ?_
  refine w_bipush rfl (by decide) ?_
  refine w_bast rfl s_432 (w_EM (by decide)) (n := 40000) rfl h.1 ?_
  replace h := h.2
  refine w_aload_n rfl rfl ?_
  refine w_gfC (c := 433) rfl s_428 rfl rfl ?_
  refine w_iload rfl rfl ?_
  refine w_iload_n rfl rfl ?_
  refine w_iast rfl s_433 (w_EM (by decide)) (n := 40000) rfl h.1 ?_
  replace h := h.2
  refine w_aload_n rfl rfl ?_
  refine w_gfC (c := 434) rfl s_428 rfl rfl ?_
  refine w_iload rfl rfl ?_
  refine w_aload_n rfl rfl ?_
  refine w_iload_n rfl rfl ?_
  refine w_callV (t' := 1) [(0, l1)] [(0, s0), (2, 434)] rfl s_428 rfl rfl ?_
  refine w_C.more (Q := fun r1 m1 => _) h (fun r1 m1 h => ?_)
  replace h := id h
  refine w_l2i rfl ?_
  refine w_iast rfl s_434 (w_EM (by decide)) (n := 40000) rfl h.1 ?_
  replace h := h.2
  refine w_aload_n rfl rfl ?_
  refine w_gfC (c := 437) rfl s_428 rfl rfl ?_
  refine w_iload rfl rfl ?_
  refine w_iconst rfl (by decide) ?_
  refine w_iast rfl s_437 (w_EM (by decide)) (n := 40000) rfl h.1 ?_
  replace h := h.2
  refine w_iload rfl rfl ?_
  refine w_ifne rfl (w_ite h (fun h => ?_) (fun h => ?_))
  · refine w_iconst rfl (by decide) ?_
    refine w_goto rfl ?_
    exact w_W.less h (w_sub [true, true, true, false, true, false, true, true, true, false, false] rfl)
  · refine w_aload_n rfl rfl ?_
    refine w_iload rfl rfl ?_
    refine w_iload rfl rfl ?_
    refine w_callV (t' := 0) [(0, l5), (0, l7)] [] rfl s_428 rfl rfl ?_
    refine w_C.more (Q := fun r2 m2 => _) h (fun r2 m2 h => ?_)
    replace h := id h
    exact w_W.less h (w_sub [true, true, true, false, true, false, true, true, true, false, false] rfl)
theorem xr_m_put2_146 {d : Nat} {l1 l2 l4 l6 l7 l8 s0 : Int} {m : w_M} {Q : Int → w_M → Prop} (h : if s0 < 0 then (xc_m_append d l7 l8 m (fun r1 m1 => xp_m_put2_292 d l1 l2 l6 m1 Q)) else (if l4 = 0 then (((0 : Int) ≤ l8 ∧ l8 < 40000) ∧ (((0 : Int) ≤ l7 ∧ l7 < 40000) ∧ (if ((w_up m 437 l8 s0) 436 l7) = s0 then (((0 : Int) ≤ l7 ∧ l7 < 40000) ∧ (((0 : Int) ≤ l7 ∧ l7 < 40000) ∧ (((0 : Int) ≤ l7 ∧ l7 < 40000) ∧ (xp_m_put2_292 d l1 l2 l6 (w_up (w_up (w_up m 437 l8 s0) 436 l7 l8) 435 l7 (w_32 (((w_up (w_up m 437 l8 s0) 436 l7 l8) 435 l7) + 1))) Q)))) else (((0 : Int) ≤ l7 ∧ l7 < 40000) ∧ (xp_m_put2_248 d l1 l2 l6 l7 l8 s0 ((w_up m 437 l8 s0) 436 l7) (w_up m 437 l8 s0) Q))))) else (((0 : Int) ≤ s0 ∧ s0 < 40000) ∧ (((0 : Int) ≤ l8 ∧ l8 < 40000) ∧ (((0 : Int) ≤ s0 ∧ s0 < 40000) ∧ (((0 : Int) ≤ l7 ∧ l7 < 40000) ∧ (((0 : Int) ≤ l7 ∧ l7 < 40000) ∧ (xp_m_put2_292 d l1 l2 l6 (w_up (w_up (w_up m 437 l8 (m 437 s0)) 437 s0 l8) 435 l7 (w_32 (((w_up (w_up m 437 l8 (m 437 s0)) 437 s0 l8) 435 l7) + 1))) Q)))))))) : xp_m_put2_146 d l1 l2 l4 l6 l7 l8 s0 m Q := by
  refine w_istore (lv' := [some (2, 428), some (0, l1), some (0, l2), none, some (0, l4), none, some (0, l6), some (0, l7), some (0, l8), some (0, s0), none]) rfl rfl rfl ?_
  refine w_iload rfl rfl ?_
  refine w_ifge rfl (w_ite h (fun h => ?_) (fun h => ?_))
  · refine w_aload_n rfl rfl ?_
    refine w_iload rfl rfl ?_
    refine w_iload rfl rfl ?_
    refine w_callV (t' := 3) [(0, l8), (0, l7)] [] rfl s_428 rfl rfl ?_
    refine w_C.more (Q := fun r1 m1 => _) h (fun r1 m1 h => ?_)
    replace h := id h
    refine w_goto rfl ?_
    exact w_W.less h (w_sub [true, true, true, false, false, false, true, false, false, false, false] rfl)
  · refine w_iload rfl rfl ?_
    refine w_ifeq rfl (w_ite h (fun h => ?_) (fun h => ?_))
    · refine w_aload_n rfl rfl ?_
      refine w_gfC (c := 437) rfl s_428 rfl rfl ?_
      refine w_iload rfl rfl ?_
      refine w_iload rfl rfl ?_
      refine w_iast rfl s_437 (w_EM (by decide)) (n := 40000) rfl h.1 ?_
      replace h := h.2
      refine w_aload_n rfl rfl ?_
      refine w_gfC (c := 436) rfl s_428 rfl rfl ?_
      refine w_iload rfl rfl ?_
      refine w_iald rfl s_436 (n := 40000) rfl h.1 ?_
      replace h := h.2
      refine w_iload rfl rfl ?_
      refine w_icne rfl (w_ite h (fun h => ?_) (fun h => ?_))
      · refine w_aload_n rfl rfl ?_
        refine w_gfC (c := 436) rfl s_428 rfl rfl ?_
        refine w_iload rfl rfl ?_
        refine w_iload rfl rfl ?_
        refine w_iast rfl s_436 (w_EM (by decide)) (n := 40000) rfl h.1 ?_
        replace h := h.2
        refine w_goto rfl ?_
        refine w_aload_n rfl rfl ?_
        refine w_gfC (c := 435) rfl s_428 rfl rfl ?_
        refine w_iload rfl rfl ?_
        refine w_dup2 rfl (show (0 : Nat) ≠ 1 by decide) (show (2 : Nat) ≠ 1 by decide) ?_
        refine w_iald rfl s_435 (n := 40000) rfl h.1 ?_
        replace h := h.2
        refine w_iconst rfl (by decide) ?_
        refine w_iadd rfl ?_
        refine w_iast rfl s_435 (w_EM (by decide)) (n := 40000) rfl h.1 ?_
        replace h := h.2
        exact w_W.less h (w_sub [true, true, true, false, false, false, true, false, false, false, false] rfl)
      · refine w_aload_n rfl rfl ?_
        refine w_gfC (c := 436) rfl s_428 rfl rfl ?_
        refine w_iload rfl rfl ?_
        refine w_iald rfl s_436 (n := 40000) rfl h.1 ?_
        replace h := h.2
        refine w_istore (lv' := [some (2, 428), some (0, l1), some (0, l2), none, some (0, l4), none, some (0, l6), some (0, l7), some (0, l8), some (0, s0), some (0, (w_up m 437 l8 s0) 436 l7)]) rfl rfl rfl ?_
        exact w_W.less h (w_sub [true, true, true, false, false, false, true, true, true, true, true] rfl)
    · refine w_aload_n rfl rfl ?_
      refine w_gfC (c := 437) rfl s_428 rfl rfl ?_
      refine w_iload rfl rfl ?_
      refine w_aload_n rfl rfl ?_
      refine w_gfC (c := 437) rfl s_428 rfl rfl ?_
      refine w_iload rfl rfl ?_
      refine w_iald rfl s_437 (n := 40000) rfl h.1 ?_
      replace h := h.2
      refine w_iast rfl s_437 (w_EM (by decide)) (n := 40000) rfl h.1 ?_
      replace h := h.2
      refine w_aload_n rfl rfl ?_
      refine w_gfC (c := 437) rfl s_428 rfl rfl ?_
      refine w_iload rfl rfl ?_
      refine w_iload rfl rfl ?_
      refine w_iast rfl s_437 (w_EM (by decide)) (n := 40000) rfl h.1 ?_
      replace h := h.2
      refine w_aload_n rfl rfl ?_
      refine w_gfC (c := 435) rfl s_428 rfl rfl ?_
      refine w_iload rfl rfl ?_
      refine w_dup2 rfl (show (0 : Nat) ≠ 1 by decide) (show (2 : Nat) ≠ 1 by decide) ?_
      refine w_iald rfl s_435 (n := 40000) rfl h.1 ?_
      replace h := h.2
      refine w_iconst rfl (by decide) ?_
      refine w_iadd rfl ?_
      refine w_iast rfl s_435 (w_EM (by decide)) (n := 40000) rfl h.1 ?_
      replace h := h.2
      refine w_goto rfl ?_
      exact w_W.less h (w_sub [true, true, true, false, false, false, true, false, false, false, false] rfl)
theorem xr_m_put2_248 {d : Nat} {l1 l2 l6 l7 l8 l9 l10 : Int} {m : w_M} {Q : Int → w_M → Prop} (h : ((0 : Int) ≤ l10 ∧ l10 < 40000) ∧ (if (m 437 l10) = l9 then (((0 : Int) ≤ l10 ∧ l10 < 40000) ∧ (((0 : Int) ≤ l7 ∧ l7 < 40000) ∧ (((0 : Int) ≤ l7 ∧ l7 < 40000) ∧ (xp_m_put2_292 d l1 l2 l6 (w_up (w_up m 437 l10 l8) 435 l7 (w_32 (((w_up m 437 l10 l8) 435 l7) + 1))) Q)))) else (((0 : Int) ≤ l10 ∧ l10 < 40000) ∧ (xp_m_put2_248 d l1 l2 l6 l7 l8 l9 (m 437 l10) m Q)))) : xp_m_put2_248 d l1 l2 l6 l7 l8 l9 l10 m Q := by
  refine w_aload_n rfl rfl ?_
  refine w_gfC (c := 437) rfl s_428 rfl rfl ?_
  refine w_iload rfl rfl ?_
  refine w_iald rfl s_437 (n := 40000) rfl h.1 ?_
  replace h := h.2
  refine w_iload rfl rfl ?_
  refine w_iceq rfl (w_ite h (fun h => ?_) (fun h => ?_))
  · refine w_aload_n rfl rfl ?_
    refine w_gfC (c := 437) rfl s_428 rfl rfl ?_
    refine w_iload rfl rfl ?_
    refine w_iload rfl rfl ?_
    refine w_iast rfl s_437 (w_EM (by decide)) (n := 40000) rfl h.1 ?_
    replace h := h.2
    refine w_aload_n rfl rfl ?_
    refine w_gfC (c := 435) rfl s_428 rfl rfl ?_
    refine w_iload rfl rfl ?_
    refine w_dup2 rfl (show (0 : Nat) ≠ 1 by decide) (show (2 : Nat) ≠ 1 by decide) ?_
    refine w_iald rfl s_435 (n := 40000) rfl h.1 ?_
    replace h := h.2
    refine w_iconst rfl (by decide) ?_
    refine w_iadd rfl ?_
    refine w_iast rfl s_435 (w_EM (by decide)) (n := 40000) rfl h.1 ?_
    replace h := h.2
    exact w_W.less h (w_sub [true, true, true, false, false, false, true, false, false, false, false] rfl)
  · refine w_aload_n rfl rfl ?_
    refine w_gfC (c := 437) rfl s_428 rfl rfl ?_
    refine w_iload rfl rfl ?_
    refine w_iald rfl s_437 (n := 40000) rfl h.1 ?_
    replace h := h.2
    refine w_istore (lv' := [some (2, 428), some (0, l1), some (0, l2), none, none, none, some (0, l6), some (0, l7), some (0, l8), some (0, l9), some (0, m 437 l10)]) rfl rfl rfl ?_
    refine w_goto rfl ?_
    exact w_W.less h (w_sub [true, true, true, false, false, false, true, true, true, true, true] rfl)
theorem xr_m_put2_292 {d : Nat} {l1 l2 l6 : Int} {m : w_M} {Q : Int → w_M → Prop} (h : ((0 : Int) ≤ l1 ∧ l1 < 200) ∧ (((0 : Int) ≤ l1 ∧ l1 < 200) ∧ (xc_m_generationOf d l6 (w_up m 469 l1 l6) (fun r1 m1 => xc_m_entryTo d ((w_up m 469 l1 l6) 455 l1) 238 8 l6 (w_32 r1) m1 (fun r2 m2 => xc_m_changed d l1 m2 (fun r3 m3 => xc_m_countTo d l6 1 m3 (fun r4 m4 => xp_m_put2_343 d l1 l2 (m4 428 84) m4 Q))))))) : xp_m_put2_292 d l1 l2 l6 m Q := by
  refine w_aload_n rfl rfl ?_
  refine w_gfC (c := 469) rfl s_428 rfl rfl ?_
  refine w_iload_n rfl rfl ?_
  refine w_iload rfl rfl ?_
  refine w_iast rfl s_469 (w_EM (by decide)) (n := 200) rfl h.1 ?_
  replace h := h.2
  refine w_aload_n rfl rfl ?_
  refine w_aload_n rfl rfl ?_
  refine w_gfC (c := 455) rfl s_428 rfl rfl ?_
  refine w_iload_n rfl rfl ?_
  refine w_iald rfl s_455 (n := 200) rfl h.1 ?_
  replace h := h.2
  refine w_ldcwR rfl ?_
  refine w_bipush rfl (by decide) ?_
  refine w_iload rfl rfl ?_
  refine w_aload_n rfl rfl ?_
  refine w_iload rfl rfl ?_
  refine w_callV (t' := 1) [(0, l6)] [(0, l6), (0, 8), (2, 238), (0, (w_up m 469 l1 l6) 455 l1), (2, 428)] rfl s_428 rfl rfl ?_
  refine w_C.more (Q := fun r1 m1 => _) h (fun r1 m1 h => ?_)
  replace h := id h
  refine w_l2i rfl ?_
  refine w_callV (t' := 0) [(0, w_32 r1), (0, l6), (0, 8), (2, 238), (0, (w_up m 469 l1 l6) 455 l1)] [] rfl s_428 rfl rfl ?_
  refine w_C.more (Q := fun r2 m2 => _) h (fun r2 m2 h => ?_)
  replace h := id h
  refine w_pop rfl (show (0 : Nat) ≠ 1 by decide) ?_
  refine w_aload_n rfl rfl ?_
  refine w_iload_n rfl rfl ?_
  refine w_callV (t' := 3) [(0, l1)] [] rfl s_428 rfl rfl ?_
  refine w_C.more (Q := fun r3 m3 => _) h (fun r3 m3 h => ?_)
  replace h := id h
  refine w_aload_n rfl rfl ?_
  refine w_iload rfl rfl ?_
  refine w_iconst rfl (by decide) ?_
  refine w_callV (t' := 3) [(0, 1), (0, l6)] [] rfl s_428 rfl rfl ?_
  refine w_C.more (Q := fun r4 m4 => _) h (fun r4 m4 h => ?_)
  replace h := id h
  refine w_aload_n rfl rfl ?_
  refine x_gfI rfl s_428 rfl (kk := 84) rfl rfl ?_
  refine w_istore (lv' := [some (2, 428), some (0, l1), some (0, l2), none, none, none, some (0, l6), none, none, none, some (0, m4 428 84)]) rfl rfl rfl ?_
  exact w_W.less h (w_sub [true, true, true, false, false, false, false, false, false, false, true] rfl)
theorem xr_m_put2_343 {d : Nat} {l1 l2 l10 : Int} {m : w_M} {Q : Int → w_M → Prop} (h : if l2 < l10 then (((0 : Int) ≤ (w_32 (l10 - 1)) ∧ (w_32 (l10 - 1)) < 61) ∧ (((0 : Int) ≤ l10 ∧ l10 < 61) ∧ (xp_m_put2_343 d l1 l2 (w_32 (l10 + (-1))) (w_up m 468 l10 (m 468 (w_32 (l10 - 1)))) Q))) else (((0 : Int) ≤ l2 ∧ l2 < 61) ∧ (Q 0 (w_up (w_up (w_up m 468 l2 l1) 428 84 (w_32 ((m 428 84) + 1))) 428 88 (-1))))) : xp_m_put2_343 d l1 l2 l10 m Q := by
  refine w_iload rfl rfl ?_
  refine w_iload_n rfl rfl ?_
  refine w_icle rfl (w_ite h (fun h => ?_) (fun h => ?_))
  · refine w_aload_n rfl rfl ?_
    refine w_gfC (c := 468) rfl s_428 rfl rfl ?_
    refine w_iload rfl rfl ?_
    refine w_aload_n rfl rfl ?_
    refine w_gfC (c := 468) rfl s_428 rfl rfl ?_
    refine w_iload rfl rfl ?_
    refine w_iconst rfl (by decide) ?_
    refine w_isub rfl ?_
    refine w_iald rfl s_468 (n := 61) rfl h.1 ?_
    replace h := h.2
    refine w_iast rfl s_468 (w_EM (by decide)) (n := 61) rfl h.1 ?_
    replace h := h.2
    refine w_iinc (lv' := [some (2, 428), some (0, l1), some (0, l2), none, none, none, none, none, none, none, some (0, w_32 (l10 + (-1)))]) rfl rfl rfl rfl ?_
    refine w_goto rfl ?_
    exact w_W.less h (w_sub [true, true, true, false, false, false, false, false, false, false, true] rfl)
  · refine w_aload_n rfl rfl ?_
    refine w_gfC (c := 468) rfl s_428 rfl rfl ?_
    refine w_iload_n rfl rfl ?_
    refine w_iload_n rfl rfl ?_
    refine w_iast rfl s_468 (w_EM (by decide)) (n := 61) rfl h.1 ?_
    replace h := h.2
    refine w_aload_n rfl rfl ?_
    refine w_dup rfl (show (2 : Nat) ≠ 1 by decide) ?_
    refine x_gfI rfl s_428 rfl (kk := 84) rfl (w_up_ne (by decide)) ?_
    refine w_iconst rfl (by decide) ?_
    refine w_iadd rfl ?_
    refine w_pfI rfl s_428 rfl (w_EM (by decide)) rfl (kk := 84) rfl ?_
    refine w_aload_n rfl rfl ?_
    refine w_iconst rfl (by decide) ?_
    refine w_pfI rfl s_428 rfl (w_EM (by decide)) rfl (kk := 88) rfl ?_
    exact w_vret rfl rfl h
