/-! ===== regions (printed by program): m_[d-l].* ===== -/
set_option maxRecDepth 100000
theorem xr_m_data {d : Nat} {l1 l2 : Int} {m : w_M} {Q : Int → w_M → Prop} (h : xc_m_isObject d l1 m (fun r1 m1 => if r1 = 0 then (Q (-1) m1) else (((0 : Int) ≤ l1 ∧ l1 < 200) ∧ (if (m1 457 l1) = 0 then (Q (-1) m1) else (if l2 < 0 then (Q (-1) m1) else (((0 : Int) ≤ l1 ∧ l1 < 200) ∧ (if l2 < (m1 459 l1) then (((0 : Int) ≤ l1 ∧ l1 < 200) ∧ (((0 : Int) ≤ (w_32 ((m1 458 l1) + l2)) ∧ (w_32 ((m1 458 l1) + l2)) < 57000) ∧ (Q ((m1 441 (w_32 ((m1 458 l1) + l2))) % 256) m1))) else (Q (-1) m1)))))))) : xc_m_data (d + 1) l1 l2 m Q := by
  refine w_enter (q := 0) (lv := [some (2, 428), some (0, l1), some (0, l2)]) rfl rfl rfl ?_
  refine w_aload_n rfl rfl ?_
  refine w_iload_n rfl rfl ?_
  refine w_callV (t' := 0) [(0, l1)] [] rfl s_428 rfl rfl ?_
  refine w_C.more (Q := fun r1 m1 => _) h (fun r1 m1 h => ?_)
  replace h := id h
  refine w_ifeq rfl (w_ite h (fun h => ?_) (fun h => ?_))
  · refine w_iconst rfl (by decide) ?_
    exact w_iret rfl rfl h
  · refine w_aload_n rfl rfl ?_
    refine w_gfC (c := 457) rfl s_428 rfl rfl ?_
    refine w_iload_n rfl rfl ?_
    refine w_zald rfl s_457 (n := 200) rfl h.1 ?_
    replace h := h.2
    refine w_ifeq rfl (w_ite h (fun h => ?_) (fun h => ?_))
    · refine w_iconst rfl (by decide) ?_
      exact w_iret rfl rfl h
    · refine w_iload_n rfl rfl ?_
      refine w_iflt rfl (w_ite h (fun h => ?_) (fun h => ?_))
      · refine w_iconst rfl (by decide) ?_
        exact w_iret rfl rfl h
      · refine w_iload_n rfl rfl ?_
        refine w_aload_n rfl rfl ?_
        refine w_gfC (c := 459) rfl s_428 rfl rfl ?_
        refine w_iload_n rfl rfl ?_
        refine w_iald rfl s_459 (n := 200) rfl h.1 ?_
        replace h := h.2
        refine w_icge rfl (w_ite h (fun h => ?_) (fun h => ?_))
        · refine w_aload_n rfl rfl ?_
          refine w_gfC (c := 441) rfl s_428 rfl rfl ?_
          refine w_aload_n rfl rfl ?_
          refine w_gfC (c := 458) rfl s_428 rfl rfl ?_
          refine w_iload_n rfl rfl ?_
          refine w_iald rfl s_458 (n := 200) rfl h.1 ?_
          replace h := h.2
          refine w_iload_n rfl rfl ?_
          refine w_iadd rfl ?_
          refine w_bald rfl s_441 (n := 57000) rfl h.1 ?_
          replace h := h.2
          refine w_sipush rfl (by decide) ?_
          refine w_iandm 8 (c := 256) rfl (by decide) rfl rfl ?_
          refine w_goto rfl ?_
          exact w_iret rfl rfl h
        · refine w_iconst rfl (by decide) ?_
          exact w_iret rfl rfl h
theorem xr_m_decode {d : Nat} {l1 l2 l3 l4 : Int} {m : w_M} {Q : Int → w_M → Prop} (h : xp_m_decode_3 d l1 l2 l3 l4 0 m Q) : xc_m_decode (d + 1) l1 l2 l3 l4 m Q := by
  refine w_enter (q := 2) (lv := [some (2, 428), some (0, l1), some (0, l2), some (0, l3), some (0, l4), none, none]) rfl rfl rfl ?_
  refine w_iconst rfl (by decide) ?_
  refine w_istore (lv' := [some (2, 428), some (0, l1), some (0, l2), some (0, l3), some (0, l4), some (0, 0), none]) rfl rfl rfl ?_
  exact w_W.less h (w_sub [true, true, true, true, true, true, false] rfl)
theorem xr_m_decode_3 {d : Nat} {l1 l2 l3 l4 l5 : Int} {m : w_M} {Q : Int → w_M → Prop} (h : if l5 < l3 then (((0 : Int) ≤ (w_32 (l2 + l5)) ∧ (w_32 (l2 + l5)) < 8000) ∧ (((0 : Int) ≤ l5 ∧ l5 < 8200) ∧ (xp_m_decode_3 d l1 l2 l3 l4 (w_32 (l5 + 1)) (w_up m 442 l5 (w_8 (m 430 (w_32 (l2 + l5))))) Q))) else (xc_m_direct d l1 192 (w_up m 428 37 l3) (fun r1 m1 => if r1 < 0 then (xc_m_good d m1 (fun r2 m2 => if r2 = 0 then (Q (m2 428 37) m2) else (xp_m_decode_70 d 0 m2 Q))) else (xc_m_filters d l1 r1 l4 m1 (fun r3 m3 => xc_m_good d m3 (fun r4 m4 => if r4 = 0 then (Q (m4 428 37) m4) else (xp_m_decode_70 d 0 m4 Q))))))) : xp_m_decode_3 d l1 l2 l3 l4 l5 m Q := by
  refine w_iload rfl rfl ?_
  refine w_iload_n rfl rfl ?_
  refine w_icge rfl (w_ite h (fun h => ?_) (fun h => ?_))
  · refine w_aload_n rfl rfl ?_
    refine w_gfC (c := 442) rfl s_428 rfl rfl ?_
    refine w_iload rfl rfl ?_
    refine w_aload_n rfl rfl ?_
    refine w_gfC (c := 430) rfl s_428 rfl rfl ?_
    refine w_iload_n rfl rfl ?_
    refine w_iload rfl rfl ?_
    refine w_iadd rfl ?_
    refine w_bald rfl s_430 (n := 8000) rfl h.1 ?_
    replace h := h.2
    refine w_bast rfl s_442 (w_EM (by decide)) (n := 8200) rfl h.1 ?_
    replace h := h.2
    refine w_iinc (lv' := [some (2, 428), some (0, l1), some (0, l2), some (0, l3), some (0, l4), some (0, w_32 (l5 + 1)), none]) rfl rfl rfl rfl ?_
    refine w_goto rfl ?_
    exact w_W.less h (w_sub [true, true, true, true, true, true, false] rfl)
  · refine w_aload_n rfl rfl ?_
    refine w_iload_n rfl rfl ?_
    refine w_pfI rfl s_428 rfl (w_EM (by decide)) rfl (kk := 37) rfl ?_
    refine w_aload_n rfl rfl ?_
    refine w_iload_n rfl rfl ?_
    refine w_ldcwR rfl ?_
    refine w_callV (t' := 0) [(2, 192), (0, l1)] [] rfl s_428 rfl rfl ?_
    refine w_C.more (Q := fun r1 m1 => _) h (fun r1 m1 h => ?_)
    replace h := id h
    refine w_istore (lv' := [some (2, 428), some (0, l1), some (0, l2), some (0, l3), some (0, l4), some (0, r1), none]) rfl rfl rfl ?_
    refine w_iload rfl rfl ?_
    refine w_iflt rfl (w_ite h (fun h => ?_) (fun h => ?_))
    · refine w_aload_n rfl rfl ?_
      refine w_callV (t' := 0) [] [] rfl s_428 rfl rfl ?_
      refine w_C.more (Q := fun r2 m2 => _) h (fun r2 m2 h => ?_)
      replace h := id h
      refine w_ifeq rfl (w_ite h (fun h => ?_) (fun h => ?_))
      · refine w_aload_n rfl rfl ?_
        refine x_gfI rfl s_428 rfl (kk := 37) rfl rfl ?_
        exact w_iret rfl rfl h
      · refine w_iconst rfl (by decide) ?_
        refine w_istore (lv' := [some (2, 428), some (0, l1), some (0, l2), some (0, l3), some (0, l4), some (0, r1), some (0, 0)]) rfl rfl rfl ?_
        exact w_W.less h (w_sub [true, false, false, false, false, false, true] rfl)
    · refine w_aload_n rfl rfl ?_
      refine w_iload_n rfl rfl ?_
      refine w_iload rfl rfl ?_
      refine w_iload rfl rfl ?_
      refine w_callV (t' := 3) [(0, l4), (0, r1), (0, l1)] [] rfl s_428 rfl rfl ?_
      refine w_C.more (Q := fun r3 m3 => _) h (fun r3 m3 h => ?_)
      replace h := id h
      refine w_aload_n rfl rfl ?_
      refine w_callV (t' := 0) [] [] rfl s_428 rfl rfl ?_
      refine w_C.more (Q := fun r4 m4 => _) h (fun r4 m4 h => ?_)
      replace h := id h
      refine w_ifeq rfl (w_ite h (fun h => ?_) (fun h => ?_))
      · refine w_aload_n rfl rfl ?_
        refine x_gfI rfl s_428 rfl (kk := 37) rfl rfl ?_
        exact w_iret rfl rfl h
      · refine w_iconst rfl (by decide) ?_
        refine w_istore (lv' := [some (2, 428), some (0, l1), some (0, l2), some (0, l3), some (0, l4), some (0, r1), some (0, 0)]) rfl rfl rfl ?_
        exact w_W.less h (w_sub [true, false, false, false, false, false, true] rfl)
theorem xr_m_decode_70 {d : Nat} {l6 : Int} {m : w_M} {Q : Int → w_M → Prop} (h : if l6 < (m 428 37) then (((0 : Int) ≤ l6 ∧ l6 < 8200) ∧ (((0 : Int) ≤ (w_32 ((m 428 34) + l6)) ∧ (w_32 ((m 428 34) + l6)) < 57000) ∧ (xp_m_decode_70 d (w_32 (l6 + 1)) (w_up m 441 (w_32 ((m 428 34) + l6)) (w_8 (m 442 l6))) Q))) else (Q (m 428 37) m)) : xp_m_decode_70 d l6 m Q := by
  refine w_iload rfl rfl ?_
  refine w_aload_n rfl rfl ?_
  refine x_gfI rfl s_428 rfl (kk := 37) rfl rfl ?_
  refine w_icge rfl (w_ite h (fun h => ?_) (fun h => ?_))
  · refine w_aload_n rfl rfl ?_
    refine w_gfC (c := 441) rfl s_428 rfl rfl ?_
    refine w_aload_n rfl rfl ?_
    refine x_gfI rfl s_428 rfl (kk := 34) rfl rfl ?_
    refine w_iload rfl rfl ?_
    refine w_iadd rfl ?_
    refine w_aload_n rfl rfl ?_
    refine w_gfC (c := 442) rfl s_428 rfl rfl ?_
    refine w_iload rfl rfl ?_
    refine w_bald rfl s_442 (n := 8200) rfl h.1 ?_
    replace h := h.2
    refine w_bast rfl s_441 (w_EM (by decide)) (n := 57000) rfl h.1 ?_
    replace h := h.2
    refine w_iinc (lv' := [some (2, 428), none, none, none, none, none, some (0, w_32 (l6 + 1))]) rfl rfl rfl rfl ?_
    refine w_goto rfl ?_
    exact w_W.less h (w_sub [true, false, false, false, false, false, true] rfl)
  · refine w_aload_n rfl rfl ?_
    refine x_gfI rfl s_428 rfl (kk := 37) rfl rfl ?_
    exact w_iret rfl rfl h
theorem xr_m_delete {d : Nat} {l1 : Int} {m : w_M} {Q : Int → w_M → Prop} (h : xc_m_isPage d l1 m (fun r1 m1 => if r1 = 0 then (Q (-1) m1) else (xc_m_takeOut d l1 m1 (fun r2 m2 => Q (m2 428 84) m2)))) : xc_m_delete (d + 1) l1 m Q := by
  refine w_enter (q := 0) (lv := [some (2, 428), some (0, l1)]) rfl rfl rfl ?_
  refine w_aload_n rfl rfl ?_
  refine w_iload_n rfl rfl ?_
  refine w_callV (t' := 0) [(0, l1)] [] rfl s_428 rfl rfl ?_
  refine w_C.more (Q := fun r1 m1 => _) h (fun r1 m1 h => ?_)
  replace h := id h
  refine w_ifne rfl (w_ite h (fun h => ?_) (fun h => ?_))
  · refine w_iconst rfl (by decide) ?_
    exact w_iret rfl rfl h
  · refine w_aload_n rfl rfl ?_
    refine w_iload_n rfl rfl ?_
    refine w_callV (t' := 0) [(0, l1)] [] rfl s_428 rfl rfl ?_
    refine w_C.more (Q := fun r2 m2 => _) h (fun r2 m2 h => ?_)
    replace h := id h
    refine w_pop rfl (show (0 : Nat) ≠ 1 by decide) ?_
    refine w_aload_n rfl rfl ?_
    refine x_gfI rfl s_428 rfl (kk := 84) rfl rfl ?_
    exact w_iret rfl rfl h
theorem xr_m_dict {d : Nat} {l1 l2 : Int} {m : w_M} {Q : Int → w_M → Prop} (h : xc_m_newNode d 7 0 m (fun r1 m1 => xc_m_token d m1 (fun r2 m2 => xp_m_dict_15 d l1 l2 r1 (-1) m2 Q))) : xc_m_dict (d + 1) l1 l2 m Q := by
  refine w_enter (q := 5) (lv := [some (2, 428), some (0, l1), some (0, l2), none, none, none, none, none]) rfl rfl rfl ?_
  refine w_aload_n rfl rfl ?_
  refine w_bipush rfl (by decide) ?_
  refine w_iconst rfl (by decide) ?_
  refine w_callV (t' := 0) [(0, 0), (0, 7)] [] rfl s_428 rfl rfl ?_
  refine w_C.more (Q := fun r1 m1 => _) h (fun r1 m1 h => ?_)
  replace h := id h
  refine w_istore_n (lv' := [some (2, 428), some (0, l1), some (0, l2), some (0, r1), none, none, none, none]) rfl rfl rfl ?_
  refine w_iconst rfl (by decide) ?_
  refine w_istore (lv' := [some (2, 428), some (0, l1), some (0, l2), some (0, r1), some (0, (-1)), none, none, none]) rfl rfl rfl ?_
  refine w_aload_n rfl rfl ?_
  refine w_callV (t' := 3) [] [] rfl s_428 rfl rfl ?_
  refine w_C.more (Q := fun r2 m2 => _) h (fun r2 m2 h => ?_)
  replace h := id h
  exact w_W.less h (w_sub [true, true, true, true, true, false, false, false] rfl)
theorem xr_m_dict_15 {d : Nat} {l1 l2 l3 l4 : Int} {m : w_M} {Q : Int → w_M → Prop} (h : xc_m_good d m (fun r1 m1 => if r1 = 0 then (Q l3 m1) else (if (m1 428 22) = 9 then (Q l3 m1) else (if (m1 428 22) = 4 then (((0 : Int) ≤ l3 ∧ l3 < 40000) ∧ (xp_m_dict_71 d l1 l2 l3 l4 (m1 436 l3) m1 Q)) else (if (m1 428 22) = 11 then (xc_m_fail d 5 (m1 428 23) m1 (fun r2 m2 => Q (-1) m2)) else (xc_m_fail d 4 (m1 428 23) m1 (fun r3 m3 => Q (-1) m3))))))) : xp_m_dict_15 d l1 l2 l3 l4 m Q := by
  refine w_aload_n rfl rfl ?_
  refine w_callV (t' := 0) [] [] rfl s_428 rfl rfl ?_
  refine w_C.more (Q := fun r1 m1 => _) h (fun r1 m1 h => ?_)
  replace h := id h
  refine w_ifeq rfl (w_ite h (fun h => ?_) (fun h => ?_))
  · refine w_iload_n rfl rfl ?_
    exact w_iret rfl rfl h
  · refine w_aload_n rfl rfl ?_
    refine x_gfI rfl s_428 rfl (kk := 22) rfl rfl ?_
    refine w_bipush rfl (by decide) ?_
    refine w_iceq rfl (w_ite h (fun h => ?_) (fun h => ?_))
    · refine w_iload_n rfl rfl ?_
      exact w_iret rfl rfl h
    · refine w_aload_n rfl rfl ?_
      refine x_gfI rfl s_428 rfl (kk := 22) rfl rfl ?_
      refine w_iconst rfl (by decide) ?_
      refine w_iceq rfl (w_ite h (fun h => ?_) (fun h => ?_))
      · refine w_aload_n rfl rfl ?_
        refine w_gfC (c := 436) rfl s_428 rfl rfl ?_
        refine w_iload_n rfl rfl ?_
        refine w_iald rfl s_436 (n := 40000) rfl h.1 ?_
        replace h := h.2
        refine w_istore (lv' := [some (2, 428), some (0, l1), some (0, l2), some (0, l3), some (0, l4), some (0, m1 436 l3), none, none]) rfl rfl rfl ?_
        exact w_W.less h (w_sub [true, true, true, true, true, true, false, false] rfl)
      · refine w_aload_n rfl rfl ?_
        refine w_aload_n rfl rfl ?_
        refine x_gfI rfl s_428 rfl (kk := 22) rfl rfl ?_
        refine w_bipush rfl (by decide) ?_
        refine w_icne rfl (w_ite h (fun h => ?_) (fun h => ?_))
        · refine w_iconst rfl (by decide) ?_
          refine w_goto rfl ?_
          refine w_aload_n rfl rfl ?_
          refine x_gfI rfl s_428 rfl (kk := 23) rfl rfl ?_
          refine w_callV (t' := 3) [(0, m1 428 23), (0, 5)] [] rfl s_428 rfl rfl ?_
          refine w_C.more (Q := fun r2 m2 => _) h (fun r2 m2 h => ?_)
          replace h := id h
          refine w_iconst rfl (by decide) ?_
          exact w_iret rfl rfl h
        · refine w_iconst rfl (by decide) ?_
          refine w_aload_n rfl rfl ?_
          refine x_gfI rfl s_428 rfl (kk := 23) rfl rfl ?_
          refine w_callV (t' := 3) [(0, m1 428 23), (0, 4)] [] rfl s_428 rfl rfl ?_
          refine w_C.more (Q := fun r3 m3 => _) h (fun r3 m3 h => ?_)
          replace h := id h
          refine w_iconst rfl (by decide) ?_
          exact w_iret rfl rfl h
theorem xr_m_dict_71 {d : Nat} {l1 l2 l3 l4 l5 : Int} {m : w_M} {Q : Int → w_M → Prop} (h : if l5 < 0 then (xc_m_counted d m (fun r1 m1 => xc_m_good d m1 (fun r2 m2 => if r2 = 0 then (Q (-1) m2) else (xc_m_token d (w_up m2 428 17 (w_32 ((m2 428 17) + (m2 428 26)))) (fun r3 m3 => xc_m_object d l1 l2 m3 (fun r4 m4 => xc_m_good d m4 (fun r5 m5 => if r5 = 0 then (Q (-1) m5) else (((0 : Int) ≤ r4 ∧ r4 < 40000) ∧ (((0 : Int) ≤ r4 ∧ r4 < 40000) ∧ (if l4 < 0 then (((0 : Int) ≤ l3 ∧ l3 < 40000) ∧ (((0 : Int) ≤ l3 ∧ l3 < 40000) ∧ (((0 : Int) ≤ l3 ∧ l3 < 40000) ∧ (xc_m_token d (w_up (w_up (w_up (w_up m5 438 r4 (m2 428 17)) 439 r4 (m2 428 26)) 436 l3 r4) 435 l3 (w_32 (((w_up (w_up (w_up m5 438 r4 (m2 428 17)) 439 r4 (m2 428 26)) 436 l3 r4) 435 l3) + 1))) (fun r6 m6 => xp_m_dict_15 d l1 l2 l3 r4 m6 Q))))) else (((0 : Int) ≤ l4 ∧ l4 < 40000) ∧ (((0 : Int) ≤ l3 ∧ l3 < 40000) ∧ (((0 : Int) ≤ l3 ∧ l3 < 40000) ∧ (xc_m_token d (w_up (w_up (w_up (w_up m5 438 r4 (m2 428 17)) 439 r4 (m2 428 26)) 437 l4 r4) 435 l3 (w_32 (((w_up (w_up (w_up m5 438 r4 (m2 428 17)) 439 r4 (m2 428 26)) 437 l4 r4) 435 l3) + 1))) (fun r7 m7 => xp_m_dict_15 d l1 l2 l3 r4 m7 Q))))))))))))))) else (((0 : Int) ≤ l5 ∧ l5 < 40000) ∧ (if (m 439 l5) = (m 428 26) then (xp_m_dict_100 d l1 l2 l3 l4 l5 1 0 m Q) else (xp_m_dict_100 d l1 l2 l3 l4 l5 0 0 m Q)))) : xp_m_dict_71 d l1 l2 l3 l4 l5 m Q := by
  refine w_iload rfl rfl ?_
  refine w_iflt rfl (w_ite h (fun h => ?_) (fun h => ?_))
  · refine w_aload_n rfl rfl ?_
    refine w_callV (t' := 3) [] [] rfl s_428 rfl rfl ?_
    refine w_C.more (Q := fun r1 m1 => _) h (fun r1 m1 h => ?_)
    replace h := id h
    refine w_aload_n rfl rfl ?_
    refine w_callV (t' := 0) [] [] rfl s_428 rfl rfl ?_
    refine w_C.more (Q := fun r2 m2 => _) h (fun r2 m2 h => ?_)
    replace h := id h
    refine w_ifne rfl (w_ite h (fun h => ?_) (fun h => ?_))
    · refine w_iconst rfl (by decide) ?_
      exact w_iret rfl rfl h
    · refine w_aload_n rfl rfl ?_
      refine x_gfI rfl s_428 rfl (kk := 17) rfl rfl ?_
      refine w_istore (lv' := [some (2, 428), some (0, l1), some (0, l2), some (0, l3), some (0, l4), some (0, m2 428 17), none, none]) rfl rfl rfl ?_
      refine w_aload_n rfl rfl ?_
      refine x_gfI rfl s_428 rfl (kk := 26) rfl rfl ?_
      refine w_istore (lv' := [some (2, 428), some (0, l1), some (0, l2), some (0, l3), some (0, l4), some (0, m2 428 17), some (0, m2 428 26), none]) rfl rfl rfl ?_
      refine w_aload_n rfl rfl ?_
      refine w_dup rfl (show (2 : Nat) ≠ 1 by decide) ?_
      refine x_gfI rfl s_428 rfl (kk := 17) rfl rfl ?_
      refine w_aload_n rfl rfl ?_
      refine x_gfI rfl s_428 rfl (kk := 26) rfl rfl ?_
      refine w_iadd rfl ?_
      refine w_pfI rfl s_428 rfl (w_EM (by decide)) rfl (kk := 17) rfl ?_
      refine w_aload_n rfl rfl ?_
      refine w_callV (t' := 3) [] [] rfl s_428 rfl rfl ?_
      refine w_C.more (Q := fun r3 m3 => _) h (fun r3 m3 h => ?_)
      replace h := id h
      refine w_aload_n rfl rfl ?_
      refine w_iload_n rfl rfl ?_
      refine w_iload_n rfl rfl ?_
      refine w_callV (t' := 0) [(0, l2), (0, l1)] [] rfl s_428 rfl rfl ?_
      refine w_C.more (Q := fun r4 m4 => _) h (fun r4 m4 h => ?_)
      replace h := id h
      refine w_istore (lv' := [some (2, 428), some (0, l1), some (0, l2), some (0, l3), some (0, l4), some (0, m2 428 17), some (0, m2 428 26), some (0, r4)]) rfl rfl rfl ?_
      refine w_aload_n rfl rfl ?_
      refine w_callV (t' := 0) [] [] rfl s_428 rfl rfl ?_
      refine w_C.more (Q := fun r5 m5 => _) h (fun r5 m5 h => ?_)
      replace h := id h
      refine w_ifne rfl (w_ite h (fun h => ?_) (fun h => ?_))
      · refine w_iconst rfl (by decide) ?_
        exact w_iret rfl rfl h
      · refine w_aload_n rfl rfl ?_
        refine w_gfC (c := 438) rfl s_428 rfl rfl ?_
        refine w_iload rfl rfl ?_
        refine w_iload rfl rfl ?_
        refine w_iast rfl s_438 (w_EM (by decide)) (n := 40000) rfl h.1 ?_
        replace h := h.2
        refine w_aload_n rfl rfl ?_
        refine w_gfC (c := 439) rfl s_428 rfl rfl ?_
        refine w_iload rfl rfl ?_
        refine w_iload rfl rfl ?_
        refine w_iast rfl s_439 (w_EM (by decide)) (n := 40000) rfl h.1 ?_
        replace h := h.2
        refine w_iload rfl rfl ?_
        refine w_ifge rfl (w_ite h (fun h => ?_) (fun h => ?_))
        · refine w_aload_n rfl rfl ?_
          refine w_gfC (c := 436) rfl s_428 rfl rfl ?_
          refine w_iload_n rfl rfl ?_
          refine w_iload rfl rfl ?_
          refine w_iast rfl s_436 (w_EM (by decide)) (n := 40000) rfl h.1 ?_
          replace h := h.2
          refine w_goto rfl ?_
          refine w_iload rfl rfl ?_
          refine w_istore (lv' := [some (2, 428), some (0, l1), some (0, l2), some (0, l3), some (0, r4), some (0, m2 428 17), some (0, m2 428 26), some (0, r4)]) rfl rfl rfl ?_
          refine w_aload_n rfl rfl ?_
          refine w_gfC (c := 435) rfl s_428 rfl rfl ?_
          refine w_iload_n rfl rfl ?_
          refine w_dup2 rfl (show (0 : Nat) ≠ 1 by decide) (show (2 : Nat) ≠ 1 by decide) ?_
          refine w_iald rfl s_435 (n := 40000) rfl h.1 ?_
          replace h := h.2
          refine w_iconst rfl (by decide) ?_
          refine w_iadd rfl ?_
          refine w_iast rfl s_435 (w_EM (by decide)) (n := 40000) rfl h.1 ?_
          replace h := h.2
          refine w_aload_n rfl rfl ?_
          refine w_callV (t' := 3) [] [] rfl s_428 rfl rfl ?_
          refine w_C.more (Q := fun r6 m6 => _) h (fun r6 m6 h => ?_)
          replace h := id h
          refine w_goto rfl ?_
          exact w_W.less h (w_sub [true, true, true, true, true, false, false, false] rfl)
        · refine w_aload_n rfl rfl ?_
          refine w_gfC (c := 437) rfl s_428 rfl rfl ?_
          refine w_iload rfl rfl ?_
          refine w_iload rfl rfl ?_
          refine w_iast rfl s_437 (w_EM (by decide)) (n := 40000) rfl h.1 ?_
          replace h := h.2
          refine w_iload rfl rfl ?_
          refine w_istore (lv' := [some (2, 428), some (0, l1), some (0, l2), some (0, l3), some (0, r4), some (0, m2 428 17), some (0, m2 428 26), some (0, r4)]) rfl rfl rfl ?_
          refine w_aload_n rfl rfl ?_
          refine w_gfC (c := 435) rfl s_428 rfl rfl ?_
          refine w_iload_n rfl rfl ?_
          refine w_dup2 rfl (show (0 : Nat) ≠ 1 by decide) (show (2 : Nat) ≠ 1 by decide) ?_
          refine w_iald rfl s_435 (n := 40000) rfl h.1 ?_
          replace h := h.2
          refine w_iconst rfl (by decide) ?_
          refine w_iadd rfl ?_
          refine w_iast rfl s_435 (w_EM (by decide)) (n := 40000) rfl h.1 ?_
          replace h := h.2
          refine w_aload_n rfl rfl ?_
          refine w_callV (t' := 3) [] [] rfl s_428 rfl rfl ?_
          refine w_C.more (Q := fun r7 m7 => _) h (fun r7 m7 h => ?_)
          replace h := id h
          refine w_goto rfl ?_
          exact w_W.less h (w_sub [true, true, true, true, true, false, false, false] rfl)
  · refine w_aload_n rfl rfl ?_
    refine w_gfC (c := 439) rfl s_428 rfl rfl ?_
    refine w_iload rfl rfl ?_
    refine w_iald rfl s_439 (n := 40000) rfl h.1 ?_
    replace h := h.2
    refine w_aload_n rfl rfl ?_
    refine x_gfI rfl s_428 rfl (kk := 26) rfl rfl ?_
    refine w_icne rfl (w_ite h (fun h => ?_) (fun h => ?_))
    · refine w_iconst rfl (by decide) ?_
      refine w_goto rfl ?_
      refine w_istore (lv' := [some (2, 428), some (0, l1), some (0, l2), some (0, l3), some (0, l4), some (0, l5), some (0, 1), none]) rfl rfl rfl ?_
      refine w_iconst rfl (by decide) ?_
      refine w_istore (lv' := [some (2, 428), some (0, l1), some (0, l2), some (0, l3), some (0, l4), some (0, l5), some (0, 1), some (0, 0)]) rfl rfl rfl ?_
      exact w_W.less h (w_sub [true, true, true, true, true, true, true, true] rfl)
    · refine w_iconst rfl (by decide) ?_
      refine w_istore (lv' := [some (2, 428), some (0, l1), some (0, l2), some (0, l3), some (0, l4), some (0, l5), some (0, 0), none]) rfl rfl rfl ?_
      refine w_iconst rfl (by decide) ?_
      refine w_istore (lv' := [some (2, 428), some (0, l1), some (0, l2), some (0, l3), some (0, l4), some (0, l5), some (0, 0), some (0, 0)]) rfl rfl rfl ?_
      exact w_W.less h (w_sub [true, true, true, true, true, true, true, true] rfl)
theorem xr_m_dict_100 {d : Nat} {l1 l2 l3 l4 l5 l6 l7 : Int} {m : w_M} {Q : Int → w_M → Prop} (h : if l7 < (m 428 26) then (if l6 = 0 then (if l6 = 0 then (((0 : Int) ≤ l5 ∧ l5 < 40000) ∧ (xp_m_dict_71 d l1 l2 l3 l4 (m 437 l5) m Q)) else (xc_m_fail d 5 (m 428 23) m (fun r1 m1 => ((0 : Int) ≤ l5 ∧ l5 < 40000) ∧ (xp_m_dict_71 d l1 l2 l3 l4 (m1 437 l5) m1 Q)))) else (((0 : Int) ≤ l5 ∧ l5 < 40000) ∧ (((0 : Int) ≤ (w_32 ((m 438 l5) + l7)) ∧ (w_32 ((m 438 l5) + l7)) < 150000) ∧ (((0 : Int) ≤ (w_32 ((m 428 17) + l7)) ∧ (w_32 ((m 428 17) + l7)) < 150000) ∧ (if (m 440 (w_32 ((m 438 l5) + l7))) = (m 440 (w_32 ((m 428 17) + l7))) then (xp_m_dict_100 d l1 l2 l3 l4 l5 1 (w_32 (l7 + 1)) m Q) else (xp_m_dict_100 d l1 l2 l3 l4 l5 0 (w_32 (l7 + 1)) m Q)))))) else (if l6 = 0 then (((0 : Int) ≤ l5 ∧ l5 < 40000) ∧ (xp_m_dict_71 d l1 l2 l3 l4 (m 437 l5) m Q)) else (xc_m_fail d 5 (m 428 23) m (fun r2 m2 => ((0 : Int) ≤ l5 ∧ l5 < 40000) ∧ (xp_m_dict_71 d l1 l2 l3 l4 (m2 437 l5) m2 Q))))) : xp_m_dict_100 d l1 l2 l3 l4 l5 l6 l7 m Q := by
  refine w_iload rfl rfl ?_
  refine w_aload_n rfl rfl ?_
  refine x_gfI rfl s_428 rfl (kk := 26) rfl rfl ?_
  refine w_icge rfl (w_ite h (fun h => ?_) (fun h => ?_))
  · refine w_iload rfl rfl ?_
    refine w_ifeq rfl (w_ite h (fun h => ?_) (fun h => ?_))
    · refine w_iload rfl rfl ?_
      refine w_ifeq rfl (w_ite h (fun h => ?_) (fun h => ?_))
      · refine w_aload_n rfl rfl ?_
        refine w_gfC (c := 437) rfl s_428 rfl rfl ?_
        refine w_iload rfl rfl ?_
        refine w_iald rfl s_437 (n := 40000) rfl h.1 ?_
        replace h := h.2
        refine w_istore (lv' := [some (2, 428), some (0, l1), some (0, l2), some (0, l3), some (0, l4), some (0, m 437 l5), some (0, l6), some (0, l7)]) rfl rfl rfl ?_
        refine w_goto rfl ?_
        exact w_W.less h (w_sub [true, true, true, true, true, true, false, false] rfl)
      · refine w_aload_n rfl rfl ?_
        refine w_iconst rfl (by decide) ?_
        refine w_aload_n rfl rfl ?_
        refine x_gfI rfl s_428 rfl (kk := 23) rfl rfl ?_
        refine w_callV (t' := 3) [(0, m 428 23), (0, 5)] [] rfl s_428 rfl rfl ?_
        refine w_C.more (Q := fun r1 m1 => _) h (fun r1 m1 h => ?_)
        replace h := id h
        refine w_aload_n rfl rfl ?_
        refine w_gfC (c := 437) rfl s_428 rfl rfl ?_
        refine w_iload rfl rfl ?_
        refine w_iald rfl s_437 (n := 40000) rfl h.1 ?_
        replace h := h.2
        refine w_istore (lv' := [some (2, 428), some (0, l1), some (0, l2), some (0, l3), some (0, l4), some (0, m1 437 l5), some (0, l6), some (0, l7)]) rfl rfl rfl ?_
        refine w_goto rfl ?_
        exact w_W.less h (w_sub [true, true, true, true, true, true, false, false] rfl)
    · refine w_aload_n rfl rfl ?_
      refine w_gfC (c := 440) rfl s_428 rfl rfl ?_
      refine w_aload_n rfl rfl ?_
      refine w_gfC (c := 438) rfl s_428 rfl rfl ?_
      refine w_iload rfl rfl ?_
      refine w_iald rfl s_438 (n := 40000) rfl h.1 ?_
      replace h := h.2
      refine w_iload rfl rfl ?_
      refine w_iadd rfl ?_
      refine w_bald rfl s_440 (n := 150000) rfl h.1 ?_
      replace h := h.2
      refine w_aload_n rfl rfl ?_
      refine w_gfC (c := 440) rfl s_428 rfl rfl ?_
      refine w_aload_n rfl rfl ?_
      refine x_gfI rfl s_428 rfl (kk := 17) rfl rfl ?_
      refine w_iload rfl rfl ?_
      refine w_iadd rfl ?_
      refine w_bald rfl s_440 (n := 150000) rfl h.1 ?_
      replace h := h.2
      refine w_icne rfl (w_ite h (fun h => ?_) (fun h => ?_))
      · refine w_iconst rfl (by decide) ?_
        refine w_goto rfl ?_
        refine w_istore (lv' := [some (2, 428), some (0, l1), some (0, l2), some (0, l3), some (0, l4), some (0, l5), some (0, 1), some (0, l7)]) rfl rfl rfl ?_
        refine w_iinc (lv' := [some (2, 428), some (0, l1), some (0, l2), some (0, l3), some (0, l4), some (0, l5), some (0, 1), some (0, w_32 (l7 + 1))]) rfl rfl rfl rfl ?_
        refine w_goto rfl ?_
        exact w_W.less h (w_sub [true, true, true, true, true, true, true, true] rfl)
      · refine w_iconst rfl (by decide) ?_
        refine w_istore (lv' := [some (2, 428), some (0, l1), some (0, l2), some (0, l3), some (0, l4), some (0, l5), some (0, 0), some (0, l7)]) rfl rfl rfl ?_
        refine w_iinc (lv' := [some (2, 428), some (0, l1), some (0, l2), some (0, l3), some (0, l4), some (0, l5), some (0, 0), some (0, w_32 (l7 + 1))]) rfl rfl rfl rfl ?_
        refine w_goto rfl ?_
        exact w_W.less h (w_sub [true, true, true, true, true, true, true, true] rfl)
  · refine w_iload rfl rfl ?_
    refine w_ifeq rfl (w_ite h (fun h => ?_) (fun h => ?_))
    · refine w_aload_n rfl rfl ?_
      refine w_gfC (c := 437) rfl s_428 rfl rfl ?_
      refine w_iload rfl rfl ?_
      refine w_iald rfl s_437 (n := 40000) rfl h.1 ?_
      replace h := h.2
      refine w_istore (lv' := [some (2, 428), some (0, l1), some (0, l2), some (0, l3), some (0, l4), some (0, m 437 l5), some (0, l6), some (0, l7)]) rfl rfl rfl ?_
      refine w_goto rfl ?_
      exact w_W.less h (w_sub [true, true, true, true, true, true, false, false] rfl)
    · refine w_aload_n rfl rfl ?_
      refine w_iconst rfl (by decide) ?_
      refine w_aload_n rfl rfl ?_
      refine x_gfI rfl s_428 rfl (kk := 23) rfl rfl ?_
      refine w_callV (t' := 3) [(0, m 428 23), (0, 5)] [] rfl s_428 rfl rfl ?_
      refine w_C.more (Q := fun r2 m2 => _) h (fun r2 m2 h => ?_)
      replace h := id h
      refine w_aload_n rfl rfl ?_
      refine w_gfC (c := 437) rfl s_428 rfl rfl ?_
      refine w_iload rfl rfl ?_
      refine w_iald rfl s_437 (n := 40000) rfl h.1 ?_
      replace h := h.2
      refine w_istore (lv' := [some (2, 428), some (0, l1), some (0, l2), some (0, l3), some (0, l4), some (0, m2 437 l5), some (0, l6), some (0, l7)]) rfl rfl rfl ?_
      refine w_goto rfl ?_
      exact w_W.less h (w_sub [true, true, true, true, true, true, false, false] rfl)
theorem xr_m_dictAt {d : Nat} {l1 : Int} {m : w_M} {Q : Int → w_M → Prop} (h : xc_m_resolve d l1 m (fun r1 m1 => xc_m_isDict d r1 m1 (fun r2 m2 => if r2 = 0 then (Q (-1) m2) else (((0 : Int) ≤ (m2 428 80) ∧ (m2 428 80) < 200) ∧ (if (m2 457 (m2 428 80)) = 0 then (Q r1 m2) else (Q (-1) m2)))))) : xc_m_dictAt (d + 1) l1 m Q := by
  refine w_enter (q := 1) (lv := [some (2, 428), some (0, l1), none]) rfl rfl rfl ?_
  refine w_aload_n rfl rfl ?_
  refine w_iload_n rfl rfl ?_
  refine w_callV (t' := 0) [(0, l1)] [] rfl s_428 rfl rfl ?_
  refine w_C.more (Q := fun r1 m1 => _) h (fun r1 m1 h => ?_)
  replace h := id h
  refine w_istore_n (lv' := [some (2, 428), some (0, l1), some (0, r1)]) rfl rfl rfl ?_
  refine w_aload_n rfl rfl ?_
  refine w_iload_n rfl rfl ?_
  refine w_callV (t' := 0) [(0, r1)] [] rfl s_428 rfl rfl ?_
  refine w_C.more (Q := fun r2 m2 => _) h (fun r2 m2 h => ?_)
  replace h := id h
  refine w_ifeq rfl (w_ite h (fun h => ?_) (fun h => ?_))
  · refine w_iconst rfl (by decide) ?_
    exact w_iret rfl rfl h
  · refine w_aload_n rfl rfl ?_
    refine w_gfC (c := 457) rfl s_428 rfl rfl ?_
    refine w_aload_n rfl rfl ?_
    refine x_gfI rfl s_428 rfl (kk := 80) rfl rfl ?_
    refine w_zald rfl s_457 (n := 200) rfl h.1 ?_
    replace h := h.2
    refine w_ifne rfl (w_ite h (fun h => ?_) (fun h => ?_))
    · refine w_iload_n rfl rfl ?_
      refine w_goto rfl ?_
      exact w_iret rfl rfl h
    · refine w_iconst rfl (by decide) ?_
      exact w_iret rfl rfl h
theorem xr_m_dictNumber {d : Nat} {l1 : Int} {m : w_M} {Q : Int → w_M → Prop} (h : if l1 < 0 then (Q 0 m) else (((0 : Int) ≤ l1 ∧ l1 < 40000) ∧ (if (m 432 l1) = 8 then (xc_m_resolve d l1 m (fun r1 m1 => xc_m_isDict d r1 m1 (fun r2 m2 => if r2 = 0 then (Q 0 m2) else (((0 : Int) ≤ (m2 428 80) ∧ (m2 428 80) < 200) ∧ (if (m2 457 (m2 428 80)) = 0 then (Q (m2 428 80) m2) else (Q 0 m2)))))) else (Q 0 m)))) : xc_m_dictNumber (d + 1) l1 m Q := by
  refine w_enter (q := 1) (lv := [some (2, 428), some (0, l1), none]) rfl rfl rfl ?_
  refine w_iload_n rfl rfl ?_
  refine w_iflt rfl (w_ite h (fun h => ?_) (fun h => ?_))
  · refine w_iconst rfl (by decide) ?_
    exact w_iret rfl rfl h
  · refine w_aload_n rfl rfl ?_
    refine w_gfC (c := 432) rfl s_428 rfl rfl ?_
    refine w_iload_n rfl rfl ?_
    refine w_bald rfl s_432 (n := 40000) rfl h.1 ?_
    replace h := h.2
    refine w_bipush rfl (by decide) ?_
    refine w_iceq rfl (w_ite h (fun h => ?_) (fun h => ?_))
    · refine w_aload_n rfl rfl ?_
      refine w_iload_n rfl rfl ?_
      refine w_callV (t' := 0) [(0, l1)] [] rfl s_428 rfl rfl ?_
      refine w_C.more (Q := fun r1 m1 => _) h (fun r1 m1 h => ?_)
      replace h := id h
      refine w_istore_n (lv' := [some (2, 428), some (0, l1), some (0, r1)]) rfl rfl rfl ?_
      refine w_aload_n rfl rfl ?_
      refine w_iload_n rfl rfl ?_
      refine w_callV (t' := 0) [(0, r1)] [] rfl s_428 rfl rfl ?_
      refine w_C.more (Q := fun r2 m2 => _) h (fun r2 m2 h => ?_)
      replace h := id h
      refine w_ifeq rfl (w_ite h (fun h => ?_) (fun h => ?_))
      · refine w_iconst rfl (by decide) ?_
        exact w_iret rfl rfl h
      · refine w_aload_n rfl rfl ?_
        refine w_gfC (c := 457) rfl s_428 rfl rfl ?_
        refine w_aload_n rfl rfl ?_
        refine x_gfI rfl s_428 rfl (kk := 80) rfl rfl ?_
        refine w_zald rfl s_457 (n := 200) rfl h.1 ?_
        replace h := h.2
        refine w_ifne rfl (w_ite h (fun h => ?_) (fun h => ?_))
        · refine w_aload_n rfl rfl ?_
          refine x_gfI rfl s_428 rfl (kk := 80) rfl rfl ?_
          refine w_goto rfl ?_
          exact w_iret rfl rfl h
        · refine w_iconst rfl (by decide) ?_
          exact w_iret rfl rfl h
    · refine w_iconst rfl (by decide) ?_
      exact w_iret rfl rfl h
theorem xr_m_digits {d : Nat} {l1 l2 : Int} {m : w_M} {Q : Int → w_M → Prop} (h : xp_m_digits_5 d l1 l2 0 l1 m Q) : xc_m_digits (d + 1) l1 l2 m Q := by
  refine w_enter (q := 3) (lv := [some (2, 428), some (0, l1), some (0, l2), none, none, none]) rfl rfl rfl ?_
  refine w_lconst rfl rfl ?_
  refine w_lstore_n (lv' := [some (2, 428), some (0, l1), some (0, l2), some (1, 0), none, none]) rfl rfl rfl ?_
  refine w_iload_n rfl rfl ?_
  refine w_istore (lv' := [some (2, 428), some (0, l1), some (0, l2), some (1, 0), none, some (0, l1)]) rfl rfl rfl ?_
  exact w_W.less h (w_sub [true, true, true, true, false, true] rfl)
theorem xr_m_digits_5 {d : Nat} {l1 l2 l3 l5 : Int} {m : w_M} {Q : Int → w_M → Prop} (h : if l5 < (w_32 (l1 + l2)) then (xc_m_peek d l5 m (fun r1 m1 => xp_m_digits_5 d l1 l2 (w_64 ((w_64 ((w_64 (10 * l3)) + r1)) - 48)) (w_32 (l5 + 1)) m1 Q)) else (Q l3 m)) : xp_m_digits_5 d l1 l2 l3 l5 m Q := by
  refine w_iload rfl rfl ?_
  refine w_iload_n rfl rfl ?_
  refine w_iload_n rfl rfl ?_
  refine w_iadd rfl ?_
  refine w_icge rfl (w_ite h (fun h => ?_) (fun h => ?_))
  · refine w_ldc2 (a := 10) rfl (by decide +kernel) (by decide) ?_
    refine w_lload_n rfl rfl ?_
    refine w_lmul' rfl ?_
    refine w_aload_n rfl rfl ?_
    refine w_iload rfl rfl ?_
    refine w_callV (t' := 0) [(0, l5)] [(1, w_64 (10 * l3))] rfl s_428 rfl rfl ?_
    refine w_C.more (Q := fun r1 m1 => _) h (fun r1 m1 h => ?_)
    replace h := id h
    refine w_i2l rfl ?_
    refine w_ladd' rfl ?_
    refine w_ldc2 (a := 48) rfl (by decide +kernel) (by decide) ?_
    refine w_lsub' rfl ?_
    refine w_lstore_n (lv' := [some (2, 428), some (0, l1), some (0, l2), some (1, w_64 ((w_64 ((w_64 (10 * l3)) + r1)) - 48)), none, some (0, l5)]) rfl rfl rfl ?_
    refine w_iinc (lv' := [some (2, 428), some (0, l1), some (0, l2), some (1, w_64 ((w_64 ((w_64 (10 * l3)) + r1)) - 48)), none, some (0, w_32 (l5 + 1))]) rfl rfl rfl rfl ?_
    refine w_goto rfl ?_
    exact w_W.less h (w_sub [true, true, true, true, false, true] rfl)
  · refine w_lload_n rfl rfl ?_
    exact w_lret rfl rfl h
theorem xr_m_direct {d : Nat} {l1 l2 : Int} {m : w_M} {Q : Int → w_M → Prop} (h : xc_m_rawEntry d l1 l2 m (fun r1 m1 => Q r1 m1)) : xc_m_direct (d + 1) l1 l2 m Q := by
  refine w_enter (q := 0) (lv := [some (2, 428), some (0, l1), some (2, l2)]) rfl rfl rfl ?_
  refine w_aload_n rfl rfl ?_
  refine w_iload_n rfl rfl ?_
  refine w_aload_n rfl rfl ?_
  refine w_callV (t' := 0) [(2, l2), (0, l1)] [] rfl s_428 rfl rfl ?_
  refine w_C.more (Q := fun r1 m1 => _) h (fun r1 m1 h => ?_)
  replace h := id h
  exact w_iret rfl rfl h
theorem xr_m_distanceOf {d : Nat} {l0 : Int} {m : w_M} {Q : Int → w_M → Prop} (h : if l0 < 4 then (Q (w_32 (1 + l0)) m) else (Q (w_32 (1 + (w_shl (w_32 (2 + (l0 % 2))) (w_32 ((Int.tdiv l0 2) - 1))))) m)) : xc_m_distanceOf (d + 1) l0 m Q := by
  refine w_enter (q := 0) (lv := [some (0, l0)]) rfl rfl rfl ?_
  refine w_iload_n rfl rfl ?_
  refine w_iconst rfl (by decide) ?_
  refine w_icge rfl (w_ite h (fun h => ?_) (fun h => ?_))
  · refine w_iconst rfl (by decide) ?_
    refine w_iload_n rfl rfl ?_
    refine w_iadd rfl ?_
    refine w_goto rfl ?_
    exact w_iret rfl rfl h
  · refine w_iconst rfl (by decide) ?_
    refine w_iconst rfl (by decide) ?_
    refine w_iload_n rfl rfl ?_
    refine w_iconst rfl (by decide) ?_
    refine w_iandm 1 (c := 2) rfl (by decide) rfl rfl ?_
    refine w_iadd rfl ?_
    refine w_iload_n rfl rfl ?_
    refine w_iconst rfl (by decide) ?_
    refine w_idivk rfl (by decide) ?_
    refine w_iconst rfl (by decide) ?_
    refine w_isub rfl ?_
    refine w_ishl rfl ?_
    refine w_iadd rfl ?_
    exact w_iret rfl rfl h
theorem xr_m_down {d : Nat} {l1 : Int} {m : w_M} {Q : Int → w_M → Prop} (h : if (m 428 88) < 0 then (Q (-1) m) else (if (m 428 88) = 24 then (Q (-1) m) else (if l1 < 0 then (Q (-1) m) else (((0 : Int) ≤ (m 428 88) ∧ (m 428 88) < 26) ∧ (((0 : Int) ≤ (m 471 (m 428 88)) ∧ (m 471 (m 428 88)) < 40000) ∧ (if (m 432 (m 471 (m 428 88))) = 6 then (xp_m_down_49 d l1 m Q) else (if (m 432 (m 471 (m 428 88))) = 7 then (xp_m_down_49 d l1 m Q) else (Q (-1) m)))))))) : xc_m_down (d + 1) l1 m Q := by
  refine w_enter (q := 3) (lv := [some (2, 428), some (0, l1), none, none, none]) rfl rfl rfl ?_
  refine w_aload_n rfl rfl ?_
  refine x_gfI rfl s_428 rfl (kk := 88) rfl rfl ?_
  refine w_iflt rfl (w_ite h (fun h => ?_) (fun h => ?_))
  · refine w_iconst rfl (by decide) ?_
    exact w_iret rfl rfl h
  · refine w_aload_n rfl rfl ?_
    refine x_gfI rfl s_428 rfl (kk := 88) rfl rfl ?_
    refine w_bipush rfl (by decide) ?_
    refine w_iceq rfl (w_ite h (fun h => ?_) (fun h => ?_))
    · refine w_iconst rfl (by decide) ?_
      exact w_iret rfl rfl h
    · refine w_iload_n rfl rfl ?_
      refine w_ifge rfl (w_ite h (fun h => ?_) (fun h => ?_))
      · refine w_iconst rfl (by decide) ?_
        exact w_iret rfl rfl h
      · refine w_aload_n rfl rfl ?_
        refine w_gfC (c := 432) rfl s_428 rfl rfl ?_
        refine w_aload_n rfl rfl ?_
        refine w_gfC (c := 471) rfl s_428 rfl rfl ?_
        refine w_aload_n rfl rfl ?_
        refine x_gfI rfl s_428 rfl (kk := 88) rfl rfl ?_
        refine w_iald rfl s_471 (n := 26) rfl h.1 ?_
        replace h := h.2
        refine w_bald rfl s_432 (n := 40000) rfl h.1 ?_
        replace h := h.2
        refine w_istore_n (lv' := [some (2, 428), some (0, l1), some (0, m 432 (m 471 (m 428 88))), none, none]) rfl rfl rfl ?_
        refine w_iload_n rfl rfl ?_
        refine w_bipush rfl (by decide) ?_
        refine w_iceq rfl (w_ite h (fun h => ?_) (fun h => ?_))
        · exact w_W.less h (w_sub [true, true, false, false, false] rfl)
        · refine w_iload_n rfl rfl ?_
          refine w_bipush rfl (by decide) ?_
          refine w_icne rfl (w_ite h (fun h => ?_) (fun h => ?_))
          · exact w_W.less h (w_sub [true, true, false, false, false] rfl)
          · refine w_iconst rfl (by decide) ?_
            exact w_iret rfl rfl h
theorem xr_m_down_49 {d : Nat} {l1 : Int} {m : w_M} {Q : Int → w_M → Prop} (h : ((0 : Int) ≤ (m 428 88) ∧ (m 428 88) < 26) ∧ (((0 : Int) ≤ (m 471 (m 428 88)) ∧ (m 471 (m 428 88)) < 40000) ∧ (if l1 < (m 435 (m 471 (m 428 88))) then (((0 : Int) ≤ (m 428 88) ∧ (m 428 88) < 26) ∧ (((0 : Int) ≤ (m 471 (m 428 88)) ∧ (m 471 (m 428 88)) < 40000) ∧ (xp_m_down_87 d l1 (m 436 (m 471 (m 428 88))) 0 m Q))) else (Q (-1) m)))) : xp_m_down_49 d l1 m Q := by
  refine w_iload_n rfl rfl ?_
  refine w_aload_n rfl rfl ?_
  refine w_gfC (c := 435) rfl s_428 rfl rfl ?_
  refine w_aload_n rfl rfl ?_
  refine w_gfC (c := 471) rfl s_428 rfl rfl ?_
  refine w_aload_n rfl rfl ?_
  refine x_gfI rfl s_428 rfl (kk := 88) rfl rfl ?_
  refine w_iald rfl s_471 (n := 26) rfl h.1 ?_
  replace h := h.2
  refine w_iald rfl s_435 (n := 40000) rfl h.1 ?_
  replace h := h.2
  refine w_iclt rfl (w_ite h (fun h => ?_) (fun h => ?_))
  · refine w_aload_n rfl rfl ?_
    refine w_gfC (c := 436) rfl s_428 rfl rfl ?_
    refine w_aload_n rfl rfl ?_
    refine w_gfC (c := 471) rfl s_428 rfl rfl ?_
    refine w_aload_n rfl rfl ?_
    refine x_gfI rfl s_428 rfl (kk := 88) rfl rfl ?_
    refine w_iald rfl s_471 (n := 26) rfl h.1 ?_
    replace h := h.2
    refine w_iald rfl s_436 (n := 40000) rfl h.1 ?_
    replace h := h.2
    refine w_istore_n (lv' := [some (2, 428), some (0, l1), none, some (0, m 436 (m 471 (m 428 88))), none]) rfl rfl rfl ?_
    refine w_iconst rfl (by decide) ?_
    refine w_istore (lv' := [some (2, 428), some (0, l1), none, some (0, m 436 (m 471 (m 428 88))), some (0, 0)]) rfl rfl rfl ?_
    exact w_W.less h (w_sub [true, true, false, true, true] rfl)
  · refine w_iconst rfl (by decide) ?_
    exact w_iret rfl rfl h
theorem xr_m_down_87 {d : Nat} {l1 l3 l4 : Int} {m : w_M} {Q : Int → w_M → Prop} (h : if l4 < l1 then (((0 : Int) ≤ l3 ∧ l3 < 40000) ∧ (xp_m_down_87 d l1 (m 437 l3) (w_32 (l4 + 1)) m Q)) else (((0 : Int) ≤ (w_32 ((m 428 88) + 1)) ∧ (w_32 ((m 428 88) + 1)) < 26) ∧ (xc_m_kindHere d (w_up (w_up m 428 88 (w_32 ((m 428 88) + 1))) 471 (w_32 ((m 428 88) + 1)) l3) (fun r1 m1 => Q r1 m1)))) : xp_m_down_87 d l1 l3 l4 m Q := by
  refine w_iload rfl rfl ?_
  refine w_iload_n rfl rfl ?_
  refine w_icge rfl (w_ite h (fun h => ?_) (fun h => ?_))
  · refine w_aload_n rfl rfl ?_
    refine w_gfC (c := 437) rfl s_428 rfl rfl ?_
    refine w_iload_n rfl rfl ?_
    refine w_iald rfl s_437 (n := 40000) rfl h.1 ?_
    replace h := h.2
    refine w_istore_n (lv' := [some (2, 428), some (0, l1), none, some (0, m 437 l3), some (0, l4)]) rfl rfl rfl ?_
    refine w_iinc (lv' := [some (2, 428), some (0, l1), none, some (0, m 437 l3), some (0, w_32 (l4 + 1))]) rfl rfl rfl rfl ?_
    refine w_goto rfl ?_
    exact w_W.less h (w_sub [true, true, false, true, true] rfl)
  · refine w_aload_n rfl rfl ?_
    refine w_dup rfl (show (2 : Nat) ≠ 1 by decide) ?_
    refine x_gfI rfl s_428 rfl (kk := 88) rfl rfl ?_
    refine w_iconst rfl (by decide) ?_
    refine w_iadd rfl ?_
    refine w_pfI rfl s_428 rfl (w_EM (by decide)) rfl (kk := 88) rfl ?_
    refine w_aload_n rfl rfl ?_
    refine w_gfC (c := 471) rfl s_428 rfl rfl ?_
    refine w_aload_n rfl rfl ?_
    refine x_gfI rfl s_428 rfl (kk := 88) rfl (w_up_eq) ?_
    refine w_iload_n rfl rfl ?_
    refine w_iast rfl s_471 (w_EM (by decide)) (n := 26) rfl h.1 ?_
    replace h := h.2
    refine w_aload_n rfl rfl ?_
    refine w_callV (t' := 0) [] [] rfl s_428 rfl rfl ?_
    refine w_C.more (Q := fun r1 m1 => _) h (fun r1 m1 h => ?_)
    replace h := id h
    exact w_iret rfl rfl h
theorem xr_m_dynamic {d : Nat} {m : w_M} {Q : Int → w_M → Prop} (h : xc_m_bits d 5 m (fun r1 m1 => xc_m_bits d 5 m1 (fun r2 m2 => xc_m_bits d 4 m2 (fun r3 m3 => if (m3 428 40) = 0 then (if 286 < (w_32 (r1 + 257)) then (Q 0 (w_up m3 428 40 1)) else (if 30 < (w_32 (r2 + 1)) then (Q 0 (w_up m3 428 40 1)) else (xp_m_dynamic_55 d (w_32 (r1 + 257)) (w_32 (r2 + 1)) (w_32 (r3 + 4)) 0 m3 Q))) else (Q 0 (w_up m3 428 40 1)))))) : xc_m_dynamic (d + 1) m Q := by
  refine w_enter (q := 8) (lv := [some (2, 428), none, none, none, none, none, none, none, none]) rfl rfl rfl ?_
  refine w_aload_n rfl rfl ?_
  refine w_iconst rfl (by decide) ?_
  refine w_callV (t' := 0) [(0, 5)] [] rfl s_428 rfl rfl ?_
  refine w_C.more (Q := fun r1 m1 => _) h (fun r1 m1 h => ?_)
  replace h := id h
  refine w_sipush rfl (by decide) ?_
  refine w_iadd rfl ?_
  refine w_istore_n (lv' := [some (2, 428), some (0, w_32 (r1 + 257)), none, none, none, none, none, none, none]) rfl rfl rfl ?_
  refine w_aload_n rfl rfl ?_
  refine w_iconst rfl (by decide) ?_
  refine w_callV (t' := 0) [(0, 5)] [] rfl s_428 rfl rfl ?_
  refine w_C.more (Q := fun r2 m2 => _) h (fun r2 m2 h => ?_)
  replace h := id h
  refine w_iconst rfl (by decide) ?_
  refine w_iadd rfl ?_
  refine w_istore_n (lv' := [some (2, 428), some (0, w_32 (r1 + 257)), some (0, w_32 (r2 + 1)), none, none, none, none, none, none]) rfl rfl rfl ?_
  refine w_aload_n rfl rfl ?_
  refine w_iconst rfl (by decide) ?_
  refine w_callV (t' := 0) [(0, 4)] [] rfl s_428 rfl rfl ?_
  refine w_C.more (Q := fun r3 m3 => _) h (fun r3 m3 h => ?_)
  replace h := id h
  refine w_iconst rfl (by decide) ?_
  refine w_iadd rfl ?_
  refine w_istore_n (lv' := [some (2, 428), some (0, w_32 (r1 + 257)), some (0, w_32 (r2 + 1)), some (0, w_32 (r3 + 4)), none, none, none, none, none]) rfl rfl rfl ?_
  refine w_aload_n rfl rfl ?_
  refine x_gfZ rfl s_428 rfl (kk := 40) rfl rfl ?_
  refine w_ifne rfl (w_ite h (fun h => ?_) (fun h => ?_))
  · refine w_iload_n rfl rfl ?_
    refine w_sipush rfl (by decide) ?_
    refine w_icgt rfl (w_ite h (fun h => ?_) (fun h => ?_))
    · refine w_aload_n rfl rfl ?_
      refine w_iconst rfl (by decide) ?_
      refine w_pfZ rfl s_428 rfl (w_EM (by decide)) rfl (kk := 40) rfl (by decide) ?_
      exact w_vret rfl rfl h
    · refine w_iload_n rfl rfl ?_
      refine w_bipush rfl (by decide) ?_
      refine w_icle rfl (w_ite h (fun h => ?_) (fun h => ?_))
      · refine w_aload_n rfl rfl ?_
        refine w_iconst rfl (by decide) ?_
        refine w_pfZ rfl s_428 rfl (w_EM (by decide)) rfl (kk := 40) rfl (by decide) ?_
        exact w_vret rfl rfl h
      · refine w_iconst rfl (by decide) ?_
        refine w_istore (lv' := [some (2, 428), some (0, w_32 (r1 + 257)), some (0, w_32 (r2 + 1)), some (0, w_32 (r3 + 4)), some (0, 0), none, none, none, none]) rfl rfl rfl ?_
        exact w_W.less h (w_sub [true, true, true, true, true, false, false, false, false] rfl)
  · refine w_aload_n rfl rfl ?_
    refine w_iconst rfl (by decide) ?_
    refine w_pfZ rfl s_428 rfl (w_EM (by decide)) rfl (kk := 40) rfl (by decide) ?_
    exact w_vret rfl rfl h
theorem xr_m_dynamic_55 {d : Nat} {l1 l2 l3 l4 : Int} {m : w_M} {Q : Int → w_M → Prop} (h : if l4 < 19 then (xc_m_orderOf d l4 m (fun r1 m1 => if l4 < l3 then (xc_m_bits d 3 m1 (fun r2 m2 => ((0 : Int) ≤ r1 ∧ r1 < 320) ∧ (xp_m_dynamic_55 d l1 l2 l3 (w_32 (l4 + 1)) (w_up m2 444 r1 r2) Q))) else (((0 : Int) ≤ r1 ∧ r1 < 320) ∧ (xp_m_dynamic_55 d l1 l2 l3 (w_32 (l4 + 1)) (w_up m1 444 r1 0) Q)))) else (if (m 428 40) = 0 then (xc_m_build d 0 19 445 446 m (fun r3 m3 => if r3 = 0 then (xp_m_dynamic_127 d l1 l2 0 m3 Q) else (Q 0 (w_up m3 428 40 1)))) else (Q 0 (w_up m 428 40 1)))) : xp_m_dynamic_55 d l1 l2 l3 l4 m Q := by
  refine w_iload rfl rfl ?_
  refine w_bipush rfl (by decide) ?_
  refine w_icge rfl (w_ite h (fun h => ?_) (fun h => ?_))
  · refine w_aload_n rfl rfl ?_
    refine w_gfC (c := 444) rfl s_428 rfl rfl ?_
    refine w_iload rfl rfl ?_
    refine w_callS (t' := 0) [(0, l4)] [(2, 444)] rfl (by decide) rfl rfl ?_
    refine w_C.more (Q := fun r1 m1 => _) h (fun r1 m1 h => ?_)
    replace h := id h
    refine w_iload rfl rfl ?_
    refine w_iload_n rfl rfl ?_
    refine w_icge rfl (w_ite h (fun h => ?_) (fun h => ?_))
    · refine w_aload_n rfl rfl ?_
      refine w_iconst rfl (by decide) ?_
      refine w_callV (t' := 0) [(0, 3)] [(0, r1), (2, 444)] rfl s_428 rfl rfl ?_
      refine w_C.more (Q := fun r2 m2 => _) h (fun r2 m2 h => ?_)
      replace h := id h
      refine w_goto rfl ?_
      refine w_iast rfl s_444 (w_EM (by decide)) (n := 320) rfl h.1 ?_
      replace h := h.2
      refine w_iinc (lv' := [some (2, 428), some (0, l1), some (0, l2), some (0, l3), some (0, w_32 (l4 + 1)), none, none, none, none]) rfl rfl rfl rfl ?_
      refine w_goto rfl ?_
      exact w_W.less h (w_sub [true, true, true, true, true, false, false, false, false] rfl)
    · refine w_iconst rfl (by decide) ?_
      refine w_iast rfl s_444 (w_EM (by decide)) (n := 320) rfl h.1 ?_
      replace h := h.2
      refine w_iinc (lv' := [some (2, 428), some (0, l1), some (0, l2), some (0, l3), some (0, w_32 (l4 + 1)), none, none, none, none]) rfl rfl rfl rfl ?_
      refine w_goto rfl ?_
      exact w_W.less h (w_sub [true, true, true, true, true, false, false, false, false] rfl)
  · refine w_aload_n rfl rfl ?_
    refine x_gfZ rfl s_428 rfl (kk := 40) rfl rfl ?_
    refine w_ifne rfl (w_ite h (fun h => ?_) (fun h => ?_))
    · refine w_aload_n rfl rfl ?_
      refine w_iconst rfl (by decide) ?_
      refine w_bipush rfl (by decide) ?_
      refine w_aload_n rfl rfl ?_
      refine w_gfC (c := 445) rfl s_428 rfl rfl ?_
      refine w_aload_n rfl rfl ?_
      refine w_gfC (c := 446) rfl s_428 rfl rfl ?_
      refine w_callV (t' := 0) [(2, 446), (2, 445), (0, 19), (0, 0)] [] rfl s_428 rfl rfl ?_
      refine w_C.more (Q := fun r3 m3 => _) h (fun r3 m3 h => ?_)
      replace h := id h
      refine w_ifeq rfl (w_ite h (fun h => ?_) (fun h => ?_))
      · refine w_iconst rfl (by decide) ?_
        refine w_istore (lv' := [some (2, 428), some (0, l1), some (0, l2), some (0, l3), some (0, 0), none, none, none, none]) rfl rfl rfl ?_
        exact w_W.less h (w_sub [true, true, true, false, true, false, false, false, false] rfl)
      · refine w_aload_n rfl rfl ?_
        refine w_iconst rfl (by decide) ?_
        refine w_pfZ rfl s_428 rfl (w_EM (by decide)) rfl (kk := 40) rfl (by decide) ?_
        exact w_vret rfl rfl h
    · refine w_aload_n rfl rfl ?_
      refine w_iconst rfl (by decide) ?_
      refine w_pfZ rfl s_428 rfl (w_EM (by decide)) rfl (kk := 40) rfl (by decide) ?_
      exact w_vret rfl rfl h
theorem xr_m_dynamic_127 {d : Nat} {l1 l2 l4 : Int} {m : w_M} {Q : Int → w_M → Prop} (h : if l4 < (w_32 (l1 + l2)) then (if (m 428 40) = 0 then (xc_m_symbol d 445 446 m (fun r1 m1 => if (m1 428 40) = 0 then (if r1 < 16 then (((0 : Int) ≤ l4 ∧ l4 < 340) ∧ (xp_m_dynamic_127 d l1 l2 (w_32 (l4 + 1)) (w_up m1 450 l4 r1) Q)) else (if r1 = 16 then (if l4 = 0 then (Q 0 (w_up m1 428 40 1)) else (if r1 = 16 then (((0 : Int) ≤ (w_32 (l4 - 1)) ∧ (w_32 (l4 - 1)) < 340) ∧ (xp_m_dynamic_224 d l1 l2 l4 r1 (m1 450 (w_32 (l4 - 1))) m1 Q)) else (xp_m_dynamic_224 d l1 l2 l4 r1 0 m1 Q))) else (if r1 = 16 then (((0 : Int) ≤ (w_32 (l4 - 1)) ∧ (w_32 (l4 - 1)) < 340) ∧ (xp_m_dynamic_224 d l1 l2 l4 r1 (m1 450 (w_32 (l4 - 1))) m1 Q)) else (xp_m_dynamic_224 d l1 l2 l4 r1 0 m1 Q)))) else (Q 0 m1))) else (xp_m_dynamic_322 d l1 l2 0 m Q)) else (xp_m_dynamic_322 d l1 l2 0 m Q)) : xp_m_dynamic_127 d l1 l2 l4 m Q := by
  refine w_iload rfl rfl ?_
  refine w_iload_n rfl rfl ?_
  refine w_iload_n rfl rfl ?_
  refine w_iadd rfl ?_
  refine w_icge rfl (w_ite h (fun h => ?_) (fun h => ?_))
  · refine w_aload_n rfl rfl ?_
    refine x_gfZ rfl s_428 rfl (kk := 40) rfl rfl ?_
    refine w_ifne rfl (w_ite h (fun h => ?_) (fun h => ?_))
    · refine w_aload_n rfl rfl ?_
      refine w_aload_n rfl rfl ?_
      refine w_gfC (c := 445) rfl s_428 rfl rfl ?_
      refine w_aload_n rfl rfl ?_
      refine w_gfC (c := 446) rfl s_428 rfl rfl ?_
      refine w_callV (t' := 0) [(2, 446), (2, 445)] [] rfl s_428 rfl rfl ?_
      refine w_C.more (Q := fun r1 m1 => _) h (fun r1 m1 h => ?_)
      replace h := id h
      refine w_istore (lv' := [some (2, 428), some (0, l1), some (0, l2), none, some (0, l4), some (0, r1), none, none, none]) rfl rfl rfl ?_
      refine w_aload_n rfl rfl ?_
      refine x_gfZ rfl s_428 rfl (kk := 40) rfl rfl ?_
      refine w_ifeq rfl (w_ite h (fun h => ?_) (fun h => ?_))
      · refine w_iload rfl rfl ?_
        refine w_bipush rfl (by decide) ?_
        refine w_icge rfl (w_ite h (fun h => ?_) (fun h => ?_))
        · refine w_aload_n rfl rfl ?_
          refine w_gfC (c := 450) rfl s_428 rfl rfl ?_
          refine w_iload rfl rfl ?_
          refine w_iload rfl rfl ?_
          refine w_iast rfl s_450 (w_EM (by decide)) (n := 340) rfl h.1 ?_
          replace h := h.2
          refine w_iinc (lv' := [some (2, 428), some (0, l1), some (0, l2), none, some (0, w_32 (l4 + 1)), some (0, r1), none, none, none]) rfl rfl rfl rfl ?_
          refine w_goto rfl ?_
          exact w_W.less h (w_sub [true, true, true, false, true, false, false, false, false] rfl)
        · refine w_iload rfl rfl ?_
          refine w_bipush rfl (by decide) ?_
          refine w_icne rfl (w_ite h (fun h => ?_) (fun h => ?_))
          · refine w_iload rfl rfl ?_
            refine w_ifne rfl (w_ite h (fun h => ?_) (fun h => ?_))
            · refine w_aload_n rfl rfl ?_
              refine w_iconst rfl (by decide) ?_
              refine w_pfZ rfl s_428 rfl (w_EM (by decide)) rfl (kk := 40) rfl (by decide) ?_
              exact w_vret rfl rfl h
            · refine w_iload rfl rfl ?_
              refine w_bipush rfl (by decide) ?_
              refine w_icne rfl (w_ite h (fun h => ?_) (fun h => ?_))
              · refine w_aload_n rfl rfl ?_
                refine w_gfC (c := 450) rfl s_428 rfl rfl ?_
                refine w_iload rfl rfl ?_
                refine w_iconst rfl (by decide) ?_
                refine w_isub rfl ?_
                refine w_iald rfl s_450 (n := 340) rfl h.1 ?_
                replace h := h.2
                refine w_goto rfl ?_
                exact w_W.less h (w_sub [true, true, true, false, true, true, false, false, false] rfl)
              · refine w_iconst rfl (by decide) ?_
                exact w_W.less h (w_sub [true, true, true, false, true, true, false, false, false] rfl)
          · refine w_iload rfl rfl ?_
            refine w_bipush rfl (by decide) ?_
            refine w_icne rfl (w_ite h (fun h => ?_) (fun h => ?_))
            · refine w_aload_n rfl rfl ?_
              refine w_gfC (c := 450) rfl s_428 rfl rfl ?_
              refine w_iload rfl rfl ?_
              refine w_iconst rfl (by decide) ?_
              refine w_isub rfl ?_
              refine w_iald rfl s_450 (n := 340) rfl h.1 ?_
              replace h := h.2
              refine w_goto rfl ?_
              exact w_W.less h (w_sub [true, true, true, false, true, true, false, false, false] rfl)
            · refine w_iconst rfl (by decide) ?_
              exact w_W.less h (w_sub [true, true, true, false, true, true, false, false, false] rfl)
      · exact w_vret rfl rfl h
    · refine w_iconst rfl (by decide) ?_
      refine w_istore (lv' := [some (2, 428), some (0, l1), some (0, l2), none, some (0, l4), some (0, 0), none, none, none]) rfl rfl rfl ?_
      exact w_W.less h (w_sub [true, true, true, false, false, true, false, false, false] rfl)
  · refine w_iconst rfl (by decide) ?_
    refine w_istore (lv' := [some (2, 428), some (0, l1), some (0, l2), none, some (0, l4), some (0, 0), none, none, none]) rfl rfl rfl ?_
    exact w_W.less h (w_sub [true, true, true, false, false, true, false, false, false] rfl)
theorem xr_m_dynamic_224 {d : Nat} {l1 l2 l4 l5 s0 : Int} {m : w_M} {Q : Int → w_M → Prop} (h : if l5 = 16 then (xc_m_bits d 2 m (fun r1 m1 => if (w_32 (l1 + l2)) < (w_32 (l4 + (w_32 (3 + r1)))) then (Q 0 (w_up m1 428 40 1)) else (xp_m_dynamic_291 d l1 l2 l4 s0 (w_32 (3 + r1)) 0 m1 Q))) else (if l5 = 17 then (xc_m_bits d 3 m (fun r2 m2 => if (w_32 (l1 + l2)) < (w_32 (l4 + (w_32 (3 + r2)))) then (Q 0 (w_up m2 428 40 1)) else (xp_m_dynamic_291 d l1 l2 l4 s0 (w_32 (3 + r2)) 0 m2 Q))) else (xc_m_bits d 7 m (fun r3 m3 => if (w_32 (l1 + l2)) < (w_32 (l4 + (w_32 (11 + r3)))) then (Q 0 (w_up m3 428 40 1)) else (xp_m_dynamic_291 d l1 l2 l4 s0 (w_32 (11 + r3)) 0 m3 Q))))) : xp_m_dynamic_224 d l1 l2 l4 l5 s0 m Q := by
  refine w_istore (lv' := [some (2, 428), some (0, l1), some (0, l2), none, some (0, l4), some (0, l5), some (0, s0), none, none]) rfl rfl rfl ?_
  refine w_iload rfl rfl ?_
  refine w_bipush rfl (by decide) ?_
  refine w_icne rfl (w_ite h (fun h => ?_) (fun h => ?_))
  · refine w_iconst rfl (by decide) ?_
    refine w_aload_n rfl rfl ?_
    refine w_iconst rfl (by decide) ?_
    refine w_callV (t' := 0) [(0, 2)] [(0, 3)] rfl s_428 rfl rfl ?_
    refine w_C.more (Q := fun r1 m1 => _) h (fun r1 m1 h => ?_)
    replace h := id h
    refine w_iadd rfl ?_
    refine w_goto rfl ?_
    refine w_istore (lv' := [some (2, 428), some (0, l1), some (0, l2), none, some (0, l4), some (0, l5), some (0, s0), some (0, w_32 (3 + r1)), none]) rfl rfl rfl ?_
    refine w_iload rfl rfl ?_
    refine w_iload rfl rfl ?_
    refine w_iadd rfl ?_
    refine w_iload_n rfl rfl ?_
    refine w_iload_n rfl rfl ?_
    refine w_iadd rfl ?_
    refine w_icle rfl (w_ite h (fun h => ?_) (fun h => ?_))
    · refine w_aload_n rfl rfl ?_
      refine w_iconst rfl (by decide) ?_
      refine w_pfZ rfl s_428 rfl (w_EM (by decide)) rfl (kk := 40) rfl (by decide) ?_
      exact w_vret rfl rfl h
    · refine w_iconst rfl (by decide) ?_
      refine w_istore (lv' := [some (2, 428), some (0, l1), some (0, l2), none, some (0, l4), some (0, l5), some (0, s0), some (0, w_32 (3 + r1)), some (0, 0)]) rfl rfl rfl ?_
      exact w_W.less h (w_sub [true, true, true, false, true, false, true, true, true] rfl)
  · refine w_iload rfl rfl ?_
    refine w_bipush rfl (by decide) ?_
    refine w_icne rfl (w_ite h (fun h => ?_) (fun h => ?_))
    · refine w_iconst rfl (by decide) ?_
      refine w_aload_n rfl rfl ?_
      refine w_iconst rfl (by decide) ?_
      refine w_callV (t' := 0) [(0, 3)] [(0, 3)] rfl s_428 rfl rfl ?_
      refine w_C.more (Q := fun r2 m2 => _) h (fun r2 m2 h => ?_)
      replace h := id h
      refine w_iadd rfl ?_
      refine w_goto rfl ?_
      refine w_istore (lv' := [some (2, 428), some (0, l1), some (0, l2), none, some (0, l4), some (0, l5), some (0, s0), some (0, w_32 (3 + r2)), none]) rfl rfl rfl ?_
      refine w_iload rfl rfl ?_
      refine w_iload rfl rfl ?_
      refine w_iadd rfl ?_
      refine w_iload_n rfl rfl ?_
      refine w_iload_n rfl rfl ?_
      refine w_iadd rfl ?_
      refine w_icle rfl (w_ite h (fun h => ?_) (fun h => ?_))
      · refine w_aload_n rfl rfl ?_
        refine w_iconst rfl (by decide) ?_
        refine w_pfZ rfl s_428 rfl (w_EM (by decide)) rfl (kk := 40) rfl (by decide) ?_
        exact w_vret rfl rfl h
      · refine w_iconst rfl (by decide) ?_
        refine w_istore (lv' := [some (2, 428), some (0, l1), some (0, l2), none, some (0, l4), some (0, l5), some (0, s0), some (0, w_32 (3 + r2)), some (0, 0)]) rfl rfl rfl ?_
        exact w_W.less h (w_sub [true, true, true, false, true, false, true, true, true] rfl)
    · refine w_bipush rfl (by decide) ?_
      refine w_aload_n rfl rfl ?_
      refine w_bipush rfl (by decide) ?_
      refine w_callV (t' := 0) [(0, 7)] [(0, 11)] rfl s_428 rfl rfl ?_
      refine w_C.more (Q := fun r3 m3 => _) h (fun r3 m3 h => ?_)
      replace h := id h
      refine w_iadd rfl ?_
      refine w_istore (lv' := [some (2, 428), some (0, l1), some (0, l2), none, some (0, l4), some (0, l5), some (0, s0), some (0, w_32 (11 + r3)), none]) rfl rfl rfl ?_
      refine w_iload rfl rfl ?_
      refine w_iload rfl rfl ?_
      refine w_iadd rfl ?_
      refine w_iload_n rfl rfl ?_
      refine w_iload_n rfl rfl ?_
      refine w_iadd rfl ?_
      refine w_icle rfl (w_ite h (fun h => ?_) (fun h => ?_))
      · refine w_aload_n rfl rfl ?_
        refine w_iconst rfl (by decide) ?_
        refine w_pfZ rfl s_428 rfl (w_EM (by decide)) rfl (kk := 40) rfl (by decide) ?_
        exact w_vret rfl rfl h
      · refine w_iconst rfl (by decide) ?_
        refine w_istore (lv' := [some (2, 428), some (0, l1), some (0, l2), none, some (0, l4), some (0, l5), some (0, s0), some (0, w_32 (11 + r3)), some (0, 0)]) rfl rfl rfl ?_
        exact w_W.less h (w_sub [true, true, true, false, true, false, true, true, true] rfl)
theorem xr_m_dynamic_291 {d : Nat} {l1 l2 l4 l6 l7 l8 : Int} {m : w_M} {Q : Int → w_M → Prop} (h : if l8 < l7 then (((0 : Int) ≤ l4 ∧ l4 < 340) ∧ (xp_m_dynamic_291 d l1 l2 (w_32 (l4 + 1)) l6 l7 (w_32 (l8 + 1)) (w_up m 450 l4 l6) Q)) else (xp_m_dynamic_127 d l1 l2 l4 m Q)) : xp_m_dynamic_291 d l1 l2 l4 l6 l7 l8 m Q := by
  refine w_iload rfl rfl ?_
  refine w_iload rfl rfl ?_
  refine w_icge rfl (w_ite h (fun h => ?_) (fun h => ?_))
  · refine w_aload_n rfl rfl ?_
    refine w_gfC (c := 450) rfl s_428 rfl rfl ?_
    refine w_iload rfl rfl ?_
    refine w_iload rfl rfl ?_
    refine w_iast rfl s_450 (w_EM (by decide)) (n := 340) rfl h.1 ?_
    replace h := h.2
    refine w_iinc (lv' := [some (2, 428), some (0, l1), some (0, l2), none, some (0, w_32 (l4 + 1)), none, some (0, l6), some (0, l7), some (0, l8)]) rfl rfl rfl rfl ?_
    refine w_iinc (lv' := [some (2, 428), some (0, l1), some (0, l2), none, some (0, w_32 (l4 + 1)), none, some (0, l6), some (0, l7), some (0, w_32 (l8 + 1))]) rfl rfl rfl rfl ?_
    refine w_goto rfl ?_
    exact w_W.less h (w_sub [true, true, true, false, true, false, true, true, true] rfl)
  · refine w_goto rfl ?_
    exact w_W.less h (w_sub [true, true, true, false, true, false, false, false, false] rfl)
theorem xr_m_dynamic_322 {d : Nat} {l1 l2 l5 : Int} {m : w_M} {Q : Int → w_M → Prop} (h : if l5 < (w_32 (l1 + l2)) then (((0 : Int) ≤ l5 ∧ l5 < 340) ∧ (((0 : Int) ≤ l5 ∧ l5 < 320) ∧ (xp_m_dynamic_322 d l1 l2 (w_32 (l5 + 1)) (w_up m 444 l5 (m 450 l5)) Q))) else (if (m 428 40) = 0 then (if (m 444 256) = 0 then (xp_m_dynamic_390 d l1 l2 1 m Q) else (xc_m_build d 0 l1 445 446 m (fun r1 m1 => if r1 = 0 then (xp_m_dynamic_390 d l1 l2 0 m1 Q) else (xp_m_dynamic_390 d l1 l2 1 m1 Q)))) else (xp_m_dynamic_390 d l1 l2 1 m Q))) : xp_m_dynamic_322 d l1 l2 l5 m Q := by
  refine w_iload rfl rfl ?_
  refine w_iload_n rfl rfl ?_
  refine w_iload_n rfl rfl ?_
  refine w_iadd rfl ?_
  refine w_icge rfl (w_ite h (fun h => ?_) (fun h => ?_))
  · refine w_aload_n rfl rfl ?_
    refine w_gfC (c := 444) rfl s_428 rfl rfl ?_
    refine w_iload rfl rfl ?_
    refine w_aload_n rfl rfl ?_
    refine w_gfC (c := 450) rfl s_428 rfl rfl ?_
    refine w_iload rfl rfl ?_
    refine w_iald rfl s_450 (n := 340) rfl h.1 ?_
    replace h := h.2
    refine w_iast rfl s_444 (w_EM (by decide)) (n := 320) rfl h.1 ?_
    replace h := h.2
    refine w_iinc (lv' := [some (2, 428), some (0, l1), some (0, l2), none, none, some (0, w_32 (l5 + 1)), none, none, none]) rfl rfl rfl rfl ?_
    refine w_goto rfl ?_
    exact w_W.less h (w_sub [true, true, true, false, false, true, false, false, false] rfl)
  · refine w_aload_n rfl rfl ?_
    refine x_gfZ rfl s_428 rfl (kk := 40) rfl rfl ?_
    refine w_ifne rfl (w_ite h (fun h => ?_) (fun h => ?_))
    · refine w_aload_n rfl rfl ?_
      refine w_gfC (c := 444) rfl s_428 rfl rfl ?_
      refine w_sipush rfl (by decide) ?_
      refine w_iald rfl s_444 (n := 320) rfl (by decide) ?_
      refine w_ifeq rfl (w_ite h (fun h => ?_) (fun h => ?_))
      · refine w_iconst rfl (by decide) ?_
        refine w_goto rfl ?_
        exact w_W.less h (w_sub [true, true, true, false, false, false, false, false, false] rfl)
      · refine w_aload_n rfl rfl ?_
        refine w_iconst rfl (by decide) ?_
        refine w_iload_n rfl rfl ?_
        refine w_aload_n rfl rfl ?_
        refine w_gfC (c := 445) rfl s_428 rfl rfl ?_
        refine w_aload_n rfl rfl ?_
        refine w_gfC (c := 446) rfl s_428 rfl rfl ?_
        refine w_callV (t' := 0) [(2, 446), (2, 445), (0, l1), (0, 0)] [] rfl s_428 rfl rfl ?_
        refine w_C.more (Q := fun r1 m1 => _) h (fun r1 m1 h => ?_)
        replace h := id h
        refine w_ifeq rfl (w_ite h (fun h => ?_) (fun h => ?_))
        · refine w_iconst rfl (by decide) ?_
          exact w_W.less h (w_sub [true, true, true, false, false, false, false, false, false] rfl)
        · refine w_iconst rfl (by decide) ?_
          refine w_goto rfl ?_
          exact w_W.less h (w_sub [true, true, true, false, false, false, false, false, false] rfl)
    · refine w_iconst rfl (by decide) ?_
      refine w_goto rfl ?_
      exact w_W.less h (w_sub [true, true, true, false, false, false, false, false, false] rfl)
theorem xr_m_dynamic_390 {d : Nat} {l1 l2 s0 : Int} {m : w_M} {Q : Int → w_M → Prop} (h : if s0 = 0 then (xc_m_build d l1 l2 447 448 m (fun r1 m1 => if r1 < 0 then (Q 0 (w_up m1 428 40 1)) else (if 0 < r1 then (if 1 < (w_32 (l2 - (m1 447 0))) then (Q 0 (w_up m1 428 40 1)) else (if (w_32 (l2 - (m1 447 0))) = 1 then (if (m1 447 1) = 1 then (Q 0 (w_up m1 428 40 0)) else (Q 0 (w_up m1 428 40 1))) else (Q 0 (w_up m1 428 40 0)))) else (Q 0 (w_up m1 428 40 0))))) else (Q 0 (w_up m 428 40 1))) : xp_m_dynamic_390 d l1 l2 s0 m Q := by
  refine w_istore (lv' := [some (2, 428), some (0, l1), some (0, l2), none, none, some (0, s0), none, none, none]) rfl rfl rfl ?_
  refine w_iload rfl rfl ?_
  refine w_ifeq rfl (w_ite h (fun h => ?_) (fun h => ?_))
  · refine w_aload_n rfl rfl ?_
    refine w_iload_n rfl rfl ?_
    refine w_iload_n rfl rfl ?_
    refine w_aload_n rfl rfl ?_
    refine w_gfC (c := 447) rfl s_428 rfl rfl ?_
    refine w_aload_n rfl rfl ?_
    refine w_gfC (c := 448) rfl s_428 rfl rfl ?_
    refine w_callV (t' := 0) [(2, 448), (2, 447), (0, l2), (0, l1)] [] rfl s_428 rfl rfl ?_
    refine w_C.more (Q := fun r1 m1 => _) h (fun r1 m1 h => ?_)
    replace h := id h
    refine w_istore (lv' := [some (2, 428), some (0, l1), some (0, l2), none, none, some (0, s0), some (0, r1), none, none]) rfl rfl rfl ?_
    refine w_iload_n rfl rfl ?_
    refine w_aload_n rfl rfl ?_
    refine w_gfC (c := 447) rfl s_428 rfl rfl ?_
    refine w_iconst rfl (by decide) ?_
    refine w_iald rfl s_447 (n := 16) rfl (by decide) ?_
    refine w_isub rfl ?_
    refine w_istore (lv' := [some (2, 428), some (0, l1), some (0, l2), none, none, some (0, s0), some (0, r1), some (0, w_32 (l2 - (m1 447 0))), none]) rfl rfl rfl ?_
    refine w_aload_n rfl rfl ?_
    refine w_iload rfl rfl ?_
    refine w_iflt rfl (w_ite h (fun h => ?_) (fun h => ?_))
    · refine w_iconst rfl (by decide) ?_
      refine w_goto rfl ?_
      refine w_pfZ rfl s_428 rfl (w_EM (by decide)) rfl (kk := 40) rfl (by decide) ?_
      exact w_vret rfl rfl h
    · refine w_iload rfl rfl ?_
      refine w_ifle rfl (w_ite h (fun h => ?_) (fun h => ?_))
      · refine w_iload rfl rfl ?_
        refine w_iconst rfl (by decide) ?_
        refine w_icgt rfl (w_ite h (fun h => ?_) (fun h => ?_))
        · refine w_iconst rfl (by decide) ?_
          refine w_goto rfl ?_
          refine w_pfZ rfl s_428 rfl (w_EM (by decide)) rfl (kk := 40) rfl (by decide) ?_
          exact w_vret rfl rfl h
        · refine w_iload rfl rfl ?_
          refine w_iconst rfl (by decide) ?_
          refine w_icne rfl (w_ite h (fun h => ?_) (fun h => ?_))
          · refine w_aload_n rfl rfl ?_
            refine w_gfC (c := 447) rfl s_428 rfl rfl ?_
            refine w_iconst rfl (by decide) ?_
            refine w_iald rfl s_447 (n := 16) rfl (by decide) ?_
            refine w_iconst rfl (by decide) ?_
            refine w_iceq rfl (w_ite h (fun h => ?_) (fun h => ?_))
            · refine w_iconst rfl (by decide) ?_
              refine w_pfZ rfl s_428 rfl (w_EM (by decide)) rfl (kk := 40) rfl (by decide) ?_
              exact w_vret rfl rfl h
            · refine w_iconst rfl (by decide) ?_
              refine w_goto rfl ?_
              refine w_pfZ rfl s_428 rfl (w_EM (by decide)) rfl (kk := 40) rfl (by decide) ?_
              exact w_vret rfl rfl h
          · refine w_iconst rfl (by decide) ?_
            refine w_pfZ rfl s_428 rfl (w_EM (by decide)) rfl (kk := 40) rfl (by decide) ?_
            exact w_vret rfl rfl h
      · refine w_iconst rfl (by decide) ?_
        refine w_pfZ rfl s_428 rfl (w_EM (by decide)) rfl (kk := 40) rfl (by decide) ?_
        exact w_vret rfl rfl h
  · refine w_aload_n rfl rfl ?_
    refine w_iconst rfl (by decide) ?_
    refine w_pfZ rfl s_428 rfl (w_EM (by decide)) rfl (kk := 40) rfl (by decide) ?_
    exact w_vret rfl rfl h
theorem xr_m_element {d : Nat} {l1 l2 : Int} {m : w_M} {Q : Int → w_M → Prop} (h : ((0 : Int) ≤ l1 ∧ l1 < 40000) ∧ (xp_m_element_7 d l2 (m 436 l1) m Q)) : xc_m_element (d + 1) l1 l2 m Q := by
  refine w_enter (q := 1) (lv := [some (2, 428), some (0, l1), some (0, l2), none]) rfl rfl rfl ?_
  refine w_aload_n rfl rfl ?_
  refine w_gfC (c := 436) rfl s_428 rfl rfl ?_
  refine w_iload_n rfl rfl ?_
  refine w_iald rfl s_436 (n := 40000) rfl h.1 ?_
  replace h := h.2
  refine w_istore_n (lv' := [some (2, 428), some (0, l1), some (0, l2), some (0, m 436 l1)]) rfl rfl rfl ?_
  exact w_W.less h (w_sub [true, false, true, true] rfl)
theorem xr_m_element_7 {d : Nat} {l2 l3 : Int} {m : w_M} {Q : Int → w_M → Prop} (h : if l3 < 0 then (Q l3 m) else (xc_m_dictNumber d l3 m (fun r1 m1 => if r1 = l2 then (Q l3 m1) else (((0 : Int) ≤ l3 ∧ l3 < 40000) ∧ (xp_m_element_7 d l2 (m1 437 l3) m1 Q))))) : xp_m_element_7 d l2 l3 m Q := by
  refine w_iload_n rfl rfl ?_
  refine w_iflt rfl (w_ite h (fun h => ?_) (fun h => ?_))
  · refine w_iload_n rfl rfl ?_
    exact w_iret rfl rfl h
  · refine w_aload_n rfl rfl ?_
    refine w_iload_n rfl rfl ?_
    refine w_callV (t' := 0) [(0, l3)] [] rfl s_428 rfl rfl ?_
    refine w_C.more (Q := fun r1 m1 => _) h (fun r1 m1 h => ?_)
    replace h := id h
    refine w_iload_n rfl rfl ?_
    refine w_iceq rfl (w_ite h (fun h => ?_) (fun h => ?_))
    · refine w_iload_n rfl rfl ?_
      exact w_iret rfl rfl h
    · refine w_aload_n rfl rfl ?_
      refine w_gfC (c := 437) rfl s_428 rfl rfl ?_
      refine w_iload_n rfl rfl ?_
      refine w_iald rfl s_437 (n := 40000) rfl h.1 ?_
      replace h := h.2
      refine w_istore_n (lv' := [some (2, 428), none, some (0, l2), some (0, m1 437 l3)]) rfl rfl rfl ?_
      refine w_goto rfl ?_
      exact w_W.less h (w_sub [true, false, true, true] rfl)
theorem xr_m_emit {d : Nat} {l1 : Int} {m : w_M} {Q : Int → w_M → Prop} (h : if (m 428 38) = 8000 then (Q 0 (w_up m 428 40 1)) else (((0 : Int) ≤ (m 428 38) ∧ (m 428 38) < 8200) ∧ (Q 0 (w_up (w_up m 443 (m 428 38) (w_8 (w_8 l1))) 428 38 (w_32 ((m 428 38) + 1)))))) : xc_m_emit (d + 1) l1 m Q := by
  refine w_enter (q := 0) (lv := [some (2, 428), some (0, l1)]) rfl rfl rfl ?_
  refine w_aload_n rfl rfl ?_
  refine x_gfI rfl s_428 rfl (kk := 38) rfl rfl ?_
  refine w_sipush rfl (by decide) ?_
  refine w_icne rfl (w_ite h (fun h => ?_) (fun h => ?_))
  · refine w_aload_n rfl rfl ?_
    refine w_iconst rfl (by decide) ?_
    refine w_pfZ rfl s_428 rfl (w_EM (by decide)) rfl (kk := 40) rfl (by decide) ?_
    exact w_vret rfl rfl h
  · refine w_aload_n rfl rfl ?_
    refine w_gfC (c := 443) rfl s_428 rfl rfl ?_
    refine w_aload_n rfl rfl ?_
    refine x_gfI rfl s_428 rfl (kk := 38) rfl rfl ?_
    refine w_iload_n rfl rfl ?_
    refine w_i2b rfl ?_
    refine w_bast rfl s_443 (w_EM (by decide)) (n := 8200) rfl h.1 ?_
    replace h := h.2
    refine w_aload_n rfl rfl ?_
    refine w_dup rfl (show (2 : Nat) ≠ 1 by decide) ?_
    refine x_gfI rfl s_428 rfl (kk := 38) rfl (w_up_ne (by decide)) ?_
    refine w_iconst rfl (by decide) ?_
    refine w_iadd rfl ?_
    refine w_pfI rfl s_428 rfl (w_EM (by decide)) rfl (kk := 38) rfl ?_
    exact w_vret rfl rfl h
theorem xr_m_ending {d : Nat} {l1 : Int} {m : w_M} {Q : Int → w_M → Prop} (h : xp_m_ending_2 d l1 l1 m Q) : xc_m_ending (d + 1) l1 m Q := by
  refine w_enter (q := 7) (lv := [some (2, 428), some (0, l1), none, none, none, none, none, none, none]) rfl rfl rfl ?_
  refine w_iload_n rfl rfl ?_
  refine w_istore_n (lv' := [some (2, 428), some (0, l1), some (0, l1), none, none, none, none, none, none]) rfl rfl rfl ?_
  exact w_W.less h (w_sub [true, true, true, false, false, false, false, false, false] rfl)
theorem xr_m_ending_2 {d : Nat} {l1 l2 : Int} {m : w_M} {Q : Int → w_M → Prop} (h : xc_m_byteHere d l2 m (fun r1 m1 => xc_m_isBlank d r1 m1 (fun r2 m2 => if r2 = 0 then (if l2 = l1 then (xc_m_fail d 2 l2 m2 (fun r3 m3 => Q (-1) m3)) else (xc_m_byteHere d l2 m2 (fun r4 m4 => xc_m_isDigit d r4 m4 (fun r5 m5 => if r5 = 0 then (xc_m_fail d 2 l2 m5 (fun r6 m6 => Q (-1) m6)) else (xp_m_ending_50 d l2 l2 0 m5 Q))))) else (xp_m_ending_2 d l1 (w_32 (l2 + 1)) m2 Q)))) : xp_m_ending_2 d l1 l2 m Q := by
  refine w_aload_n rfl rfl ?_
  refine w_iload_n rfl rfl ?_
  refine w_callV (t' := 0) [(0, l2)] [] rfl s_428 rfl rfl ?_
  refine w_C.more (Q := fun r1 m1 => _) h (fun r1 m1 h => ?_)
  replace h := id h
  refine w_callS (t' := 0) [(0, r1)] [] rfl (by decide) rfl rfl ?_
  refine w_C.more (Q := fun r2 m2 => _) h (fun r2 m2 h => ?_)
  replace h := id h
  refine w_ifeq rfl (w_ite h (fun h => ?_) (fun h => ?_))
  · refine w_iload_n rfl rfl ?_
    refine w_istore_n (lv' := [some (2, 428), some (0, l1), some (0, l2), some (0, l2), none, none, none, none, none]) rfl rfl rfl ?_
    refine w_iload_n rfl rfl ?_
    refine w_iload_n rfl rfl ?_
    refine w_iceq rfl (w_ite h (fun h => ?_) (fun h => ?_))
    · refine w_aload_n rfl rfl ?_
      refine w_iconst rfl (by decide) ?_
      refine w_iload_n rfl rfl ?_
      refine w_callV (t' := 3) [(0, l2), (0, 2)] [] rfl s_428 rfl rfl ?_
      refine w_C.more (Q := fun r3 m3 => _) h (fun r3 m3 h => ?_)
      replace h := id h
      refine w_ldc2 (a := (-1)) rfl (by decide +kernel) (by decide) ?_
      exact w_lret rfl rfl h
    · refine w_aload_n rfl rfl ?_
      refine w_iload_n rfl rfl ?_
      refine w_callV (t' := 0) [(0, l2)] [] rfl s_428 rfl rfl ?_
      refine w_C.more (Q := fun r4 m4 => _) h (fun r4 m4 h => ?_)
      replace h := id h
      refine w_callS (t' := 0) [(0, r4)] [] rfl (by decide) rfl rfl ?_
      refine w_C.more (Q := fun r5 m5 => _) h (fun r5 m5 h => ?_)
      replace h := id h
      refine w_ifne rfl (w_ite h (fun h => ?_) (fun h => ?_))
      · refine w_aload_n rfl rfl ?_
        refine w_iconst rfl (by decide) ?_
        refine w_iload_n rfl rfl ?_
        refine w_callV (t' := 3) [(0, l2), (0, 2)] [] rfl s_428 rfl rfl ?_
        refine w_C.more (Q := fun r6 m6 => _) h (fun r6 m6 h => ?_)
        replace h := id h
        refine w_ldc2 (a := (-1)) rfl (by decide +kernel) (by decide) ?_
        exact w_lret rfl rfl h
      · refine w_lconst rfl rfl ?_
        refine w_lstore (lv' := [some (2, 428), some (0, l1), some (0, l2), some (0, l2), some (1, 0), none, none, none, none]) rfl rfl rfl ?_
        exact w_W.less h (w_sub [true, false, true, true, true, false, false, false, false] rfl)
  · refine w_iinc (lv' := [some (2, 428), some (0, l1), some (0, w_32 (l2 + 1)), none, none, none, none, none, none]) rfl rfl rfl rfl ?_
    refine w_goto rfl ?_
    exact w_W.less h (w_sub [true, true, true, false, false, false, false, false, false] rfl)
theorem xr_m_ending_50 {d : Nat} {l2 l3 l4 : Int} {m : w_M} {Q : Int → w_M → Prop} (h : xc_m_byteHere d l2 m (fun r1 m1 => xc_m_isDigit d r1 m1 (fun r2 m2 => if r2 = 0 then (if 2147483647 < l4 then (xc_m_fail d 2 l3 m2 (fun r3 m3 => Q (-1) m3)) else (xp_m_ending_122 d l2 l4 l2 m2 Q)) else (if 4294967296 < l4 then (xp_m_ending_50 d (w_32 (l2 + 1)) l3 l4 m2 Q) else (xc_m_byteHere d l2 m2 (fun r4 m4 => xp_m_ending_50 d (w_32 (l2 + 1)) l3 (w_64 ((w_64 ((w_64 (10 * l4)) + r4)) - 48)) m4 Q)))))) : xp_m_ending_50 d l2 l3 l4 m Q := by
  refine w_aload_n rfl rfl ?_
  refine w_iload_n rfl rfl ?_
  refine w_callV (t' := 0) [(0, l2)] [] rfl s_428 rfl rfl ?_
  refine w_C.more (Q := fun r1 m1 => _) h (fun r1 m1 h => ?_)
  replace h := id h
  refine w_callS (t' := 0) [(0, r1)] [] rfl (by decide) rfl rfl ?_
  refine w_C.more (Q := fun r2 m2 => _) h (fun r2 m2 h => ?_)
  replace h := id h
  refine w_ifeq rfl (w_ite h (fun h => ?_) (fun h => ?_))
  · refine w_lload rfl rfl ?_
    refine w_ldc2 (a := 2147483647) rfl (by decide +kernel) (by decide) ?_
    refine w_lcle rfl rfl (w_ite h (fun h => ?_) (fun h => ?_))
    · refine w_aload_n rfl rfl ?_
      refine w_iconst rfl (by decide) ?_
      refine w_iload_n rfl rfl ?_
      refine w_callV (t' := 3) [(0, l3), (0, 2)] [] rfl s_428 rfl rfl ?_
      refine w_C.more (Q := fun r3 m3 => _) h (fun r3 m3 h => ?_)
      replace h := id h
      refine w_ldc2 (a := (-1)) rfl (by decide +kernel) (by decide) ?_
      exact w_lret rfl rfl h
    · refine w_iload_n rfl rfl ?_
      refine w_istore (lv' := [some (2, 428), none, some (0, l2), some (0, l3), some (1, l4), none, some (0, l2), none, none]) rfl rfl rfl ?_
      exact w_W.less h (w_sub [true, false, true, false, true, false, true, false, false] rfl)
  · refine w_lload rfl rfl ?_
    refine w_ldc2 (a := 4294967296) rfl (by decide +kernel) (by decide) ?_
    refine w_lcle rfl rfl (w_ite h (fun h => ?_) (fun h => ?_))
    · refine w_lload rfl rfl ?_
      refine w_goto rfl ?_
      refine w_lstore (lv' := [some (2, 428), none, some (0, l2), some (0, l3), some (1, l4), none, none, none, none]) rfl rfl rfl ?_
      refine w_iinc (lv' := [some (2, 428), none, some (0, w_32 (l2 + 1)), some (0, l3), some (1, l4), none, none, none, none]) rfl rfl rfl rfl ?_
      refine w_goto rfl ?_
      exact w_W.less h (w_sub [true, false, true, true, true, false, false, false, false] rfl)
    · refine w_ldc2 (a := 10) rfl (by decide +kernel) (by decide) ?_
      refine w_lload rfl rfl ?_
      refine w_lmul' rfl ?_
      refine w_aload_n rfl rfl ?_
      refine w_iload_n rfl rfl ?_
      refine w_callV (t' := 0) [(0, l2)] [(1, w_64 (10 * l4))] rfl s_428 rfl rfl ?_
      refine w_C.more (Q := fun r4 m4 => _) h (fun r4 m4 h => ?_)
      replace h := id h
      refine w_i2l rfl ?_
      refine w_ladd' rfl ?_
      refine w_ldc2 (a := 48) rfl (by decide +kernel) (by decide) ?_
      refine w_lsub' rfl ?_
      refine w_lstore (lv' := [some (2, 428), none, some (0, l2), some (0, l3), some (1, w_64 ((w_64 ((w_64 (10 * l4)) + r4)) - 48)), none, none, none, none]) rfl rfl rfl ?_
      refine w_iinc (lv' := [some (2, 428), none, some (0, w_32 (l2 + 1)), some (0, l3), some (1, w_64 ((w_64 ((w_64 (10 * l4)) + r4)) - 48)), none, none, none, none]) rfl rfl rfl rfl ?_
      refine w_goto rfl ?_
      exact w_W.less h (w_sub [true, false, true, true, true, false, false, false, false] rfl)
theorem xr_m_ending_122 {d : Nat} {l2 l4 l6 : Int} {m : w_M} {Q : Int → w_M → Prop} (h : xc_m_byteHere d l2 m (fun r1 m1 => xc_m_isBlank d r1 m1 (fun r2 m2 => if r2 = 0 then (if l2 = l6 then (xc_m_fail d 2 l2 m2 (fun r3 m3 => Q (-1) m3)) else (xp_m_ending_163 d l2 l4 0 m2 Q)) else (xp_m_ending_122 d (w_32 (l2 + 1)) l4 l6 m2 Q)))) : xp_m_ending_122 d l2 l4 l6 m Q := by
  refine w_aload_n rfl rfl ?_
  refine w_iload_n rfl rfl ?_
  refine w_callV (t' := 0) [(0, l2)] [] rfl s_428 rfl rfl ?_
  refine w_C.more (Q := fun r1 m1 => _) h (fun r1 m1 h => ?_)
  replace h := id h
  refine w_callS (t' := 0) [(0, r1)] [] rfl (by decide) rfl rfl ?_
  refine w_C.more (Q := fun r2 m2 => _) h (fun r2 m2 h => ?_)
  replace h := id h
  refine w_ifeq rfl (w_ite h (fun h => ?_) (fun h => ?_))
  · refine w_iload_n rfl rfl ?_
    refine w_iload rfl rfl ?_
    refine w_icne rfl (w_ite h (fun h => ?_) (fun h => ?_))
    · refine w_aload_n rfl rfl ?_
      refine w_iconst rfl (by decide) ?_
      refine w_iload_n rfl rfl ?_
      refine w_callV (t' := 3) [(0, l2), (0, 2)] [] rfl s_428 rfl rfl ?_
      refine w_C.more (Q := fun r3 m3 => _) h (fun r3 m3 h => ?_)
      replace h := id h
      refine w_ldc2 (a := (-1)) rfl (by decide +kernel) (by decide) ?_
      exact w_lret rfl rfl h
    · refine w_ldcwR rfl ?_
      refine w_astore (lv' := [some (2, 428), none, some (0, l2), none, some (1, l4), none, some (0, l6), some (2, 194), none]) rfl rfl rfl ?_
      refine w_iconst rfl (by decide) ?_
      refine w_istore (lv' := [some (2, 428), none, some (0, l2), none, some (1, l4), none, some (0, l6), some (2, 194), some (0, 0)]) rfl rfl rfl ?_
      exact w_W.less h (w_sub [true, false, true, false, true, false, false, true, true] rfl)
  · refine w_iinc (lv' := [some (2, 428), none, some (0, w_32 (l2 + 1)), none, some (1, l4), none, some (0, l6), none, none]) rfl rfl rfl rfl ?_
    refine w_goto rfl ?_
    exact w_W.less h (w_sub [true, false, true, false, true, false, true, false, false] rfl)
theorem xr_m_ending_163 {d : Nat} {l2 l4 l8 : Int} {m : w_M} {Q : Int → w_M → Prop} (h : if l8 < 5 then (xc_m_byteHere d l2 m (fun r1 m1 => xc_js_charAt sM d 194 l8 m1 (fun r2 m2 => if r1 = r2 then (xp_m_ending_163 d (w_32 (l2 + 1)) l4 (w_32 (l8 + 1)) m2 Q) else (xc_m_fail d 2 l2 m2 (fun r3 m3 => Q (-1) m3))))) else (xp_m_ending_203 d l2 l4 m Q)) : xp_m_ending_163 d l2 l4 l8 m Q := by
  refine w_iload rfl rfl ?_
  refine w_iconst rfl (by decide) ?_
  refine w_icge rfl (w_ite h (fun h => ?_) (fun h => ?_))
  · refine w_aload_n rfl rfl ?_
    refine w_iload_n rfl rfl ?_
    refine w_callV (t' := 0) [(0, l2)] [] rfl s_428 rfl rfl ?_
    refine w_C.more (Q := fun r1 m1 => _) h (fun r1 m1 h => ?_)
    replace h := id h
    refine w_aload rfl rfl ?_
    refine w_iload rfl rfl ?_
    refine w_callV (t' := 0) [(0, l8)] [(0, r1)] rfl (w_isS_s (a := 194) ⟨by decide, rfl⟩) rfl rfl ?_
    refine w_C.more (Q := fun r2 m2 => _) h (fun r2 m2 h => ?_)
    replace h := id h
    refine w_iceq rfl (w_ite h (fun h => ?_) (fun h => ?_))
    · refine w_iinc (lv' := [some (2, 428), none, some (0, w_32 (l2 + 1)), none, some (1, l4), none, none, some (2, 194), some (0, l8)]) rfl rfl rfl rfl ?_
      refine w_iinc (lv' := [some (2, 428), none, some (0, w_32 (l2 + 1)), none, some (1, l4), none, none, some (2, 194), some (0, w_32 (l8 + 1))]) rfl rfl rfl rfl ?_
      refine w_goto rfl ?_
      exact w_W.less h (w_sub [true, false, true, false, true, false, false, true, true] rfl)
    · refine w_aload_n rfl rfl ?_
      refine w_iconst rfl (by decide) ?_
      refine w_iload_n rfl rfl ?_
      refine w_callV (t' := 3) [(0, l2), (0, 2)] [] rfl s_428 rfl rfl ?_
      refine w_C.more (Q := fun r3 m3 => _) h (fun r3 m3 h => ?_)
      replace h := id h
      refine w_ldc2 (a := (-1)) rfl (by decide +kernel) (by decide) ?_
      exact w_lret rfl rfl h
  · exact w_W.less h (w_sub [true, false, true, false, true, false, false, false, false] rfl)
theorem xr_m_ending_203 {d : Nat} {l2 l4 : Int} {m : w_M} {Q : Int → w_M → Prop} (h : xc_m_byteHere d l2 m (fun r1 m1 => xc_m_isBlank d r1 m1 (fun r2 m2 => if r2 = 0 then (if l2 < (m2 428 3) then (xc_m_fail d 2 l2 m2 (fun r3 m3 => Q (-1) m3)) else (Q l4 m2)) else (xp_m_ending_203 d (w_32 (l2 + 1)) l4 m2 Q)))) : xp_m_ending_203 d l2 l4 m Q := by
  refine w_aload_n rfl rfl ?_
  refine w_iload_n rfl rfl ?_
  refine w_callV (t' := 0) [(0, l2)] [] rfl s_428 rfl rfl ?_
  refine w_C.more (Q := fun r1 m1 => _) h (fun r1 m1 h => ?_)
  replace h := id h
  refine w_callS (t' := 0) [(0, r1)] [] rfl (by decide) rfl rfl ?_
  refine w_C.more (Q := fun r2 m2 => _) h (fun r2 m2 h => ?_)
  replace h := id h
  refine w_ifeq rfl (w_ite h (fun h => ?_) (fun h => ?_))
  · refine w_iload_n rfl rfl ?_
    refine w_aload_n rfl rfl ?_
    refine x_gfI rfl s_428 rfl (kk := 3) rfl rfl ?_
    refine w_icge rfl (w_ite h (fun h => ?_) (fun h => ?_))
    · refine w_aload_n rfl rfl ?_
      refine w_iconst rfl (by decide) ?_
      refine w_iload_n rfl rfl ?_
      refine w_callV (t' := 3) [(0, l2), (0, 2)] [] rfl s_428 rfl rfl ?_
      refine w_C.more (Q := fun r3 m3 => _) h (fun r3 m3 h => ?_)
      replace h := id h
      refine w_ldc2 (a := (-1)) rfl (by decide +kernel) (by decide) ?_
      exact w_lret rfl rfl h
    · refine w_lload rfl rfl ?_
      exact w_lret rfl rfl h
  · refine w_iinc (lv' := [some (2, 428), none, some (0, w_32 (l2 + 1)), none, some (1, l4), none, none, none, none]) rfl rfl rfl rfl ?_
    refine w_goto rfl ?_
    exact w_W.less h (w_sub [true, false, true, false, true, false, false, false, false] rfl)
theorem xr_m_entries1 {d : Nat} {l1 l2 l3 : Int} {m : w_M} {Q : Int → w_M → Prop} (h : xc_m_rawEntry d l1 164 m (fun r1 m1 => xc_m_rawEntry d l1 196 m1 (fun r2 m2 => if r1 < 0 then (xp_m_entries1_81 d l1 l2 l3 r2 0 (-1) 0 m2 Q) else (((0 : Int) ≤ r1 ∧ r1 < 40000) ∧ (if (m2 432 r1) = 6 then (((0 : Int) ≤ r1 ∧ r1 < 40000) ∧ (if (m2 435 r1) = 3 then (((0 : Int) ≤ r1 ∧ r1 < 40000) ∧ (xp_m_entries1_81 d l1 l2 l3 r2 1 (m2 436 r1) 0 m2 Q)) else (xp_m_entries1_81 d l1 l2 l3 r2 0 (-1) 0 m2 Q))) else (xp_m_entries1_81 d l1 l2 l3 r2 0 (-1) 0 m2 Q)))))) : xc_m_entries1 (d + 1) l1 l2 l3 m Q := by
  refine w_enter (q := 18) (lv := [some (2, 428), some (0, l1), some (0, l2), some (0, l3), none, none, none, none, none, none, none, none, none, none, none, none, none, none, none, none, none, none]) rfl rfl rfl ?_
  refine w_aload_n rfl rfl ?_
  refine w_iload_n rfl rfl ?_
  refine w_ldcR rfl ?_
  refine w_callV (t' := 0) [(2, 164), (0, l1)] [] rfl s_428 rfl rfl ?_
  refine w_C.more (Q := fun r1 m1 => _) h (fun r1 m1 h => ?_)
  replace h := id h
  refine w_istore (lv' := [some (2, 428), some (0, l1), some (0, l2), some (0, l3), some (0, r1), none, none, none, none, none, none, none, none, none, none, none, none, none, none, none, none, none]) rfl rfl rfl ?_
  refine w_aload_n rfl rfl ?_
  refine w_iload_n rfl rfl ?_
  refine w_ldcwR rfl ?_
  refine w_callV (t' := 0) [(2, 196), (0, l1)] [] rfl s_428 rfl rfl ?_
  refine w_C.more (Q := fun r2 m2 => _) h (fun r2 m2 h => ?_)
  replace h := id h
  refine w_istore (lv' := [some (2, 428), some (0, l1), some (0, l2), some (0, l3), some (0, r1), some (0, r2), none, none, none, none, none, none, none, none, none, none, none, none, none, none, none, none]) rfl rfl rfl ?_
  refine w_iload rfl rfl ?_
  refine w_iflt rfl (w_ite h (fun h => ?_) (fun h => ?_))
  · refine w_iconst rfl (by decide) ?_
    refine w_istore (lv' := [some (2, 428), some (0, l1), some (0, l2), some (0, l3), some (0, r1), some (0, r2), some (0, 0), none, none, none, none, none, none, none, none, none, none, none, none, none, none, none]) rfl rfl rfl ?_
    refine w_aload_n rfl rfl ?_
    refine w_gfC (c := 467) rfl s_428 rfl rfl ?_
    refine w_astore (lv' := [some (2, 428), some (0, l1), some (0, l2), some (0, l3), some (0, r1), some (0, r2), some (0, 0), some (2, 467), none, none, none, none, none, none, none, none, none, none, none, none, none, none]) rfl rfl rfl ?_
    refine w_iload rfl rfl ?_
    refine w_ifeq rfl (w_ift (by decide) ?_)
    refine w_iconst rfl (by decide) ?_
    refine w_istore (lv' := [some (2, 428), some (0, l1), some (0, l2), some (0, l3), some (0, r1), some (0, r2), some (0, 0), some (2, 467), some (0, (-1)), none, none, none, none, none, none, none, none, none, none, none, none, none]) rfl rfl rfl ?_
    refine w_iconst rfl (by decide) ?_
    refine w_istore (lv' := [some (2, 428), some (0, l1), some (0, l2), some (0, l3), some (0, r1), some (0, r2), some (0, 0), some (2, 467), some (0, (-1)), some (0, 0), none, none, none, none, none, none, none, none, none, none, none, none]) rfl rfl rfl ?_
    exact w_W.less h (w_sub [true, true, true, true, false, true, true, true, true, true, false, false, false, false, false, false, false, false, false, false, false, false] rfl)
  · refine w_aload_n rfl rfl ?_
    refine w_gfC (c := 432) rfl s_428 rfl rfl ?_
    refine w_iload rfl rfl ?_
    refine w_bald rfl s_432 (n := 40000) rfl h.1 ?_
    replace h := h.2
    refine w_bipush rfl (by decide) ?_
    refine w_icne rfl (w_ite h (fun h => ?_) (fun h => ?_))
    · refine w_aload_n rfl rfl ?_
      refine w_gfC (c := 435) rfl s_428 rfl rfl ?_
      refine w_iload rfl rfl ?_
      refine w_iald rfl s_435 (n := 40000) rfl h.1 ?_
      replace h := h.2
      refine w_iconst rfl (by decide) ?_
      refine w_icne rfl (w_ite h (fun h => ?_) (fun h => ?_))
      · refine w_iconst rfl (by decide) ?_
        refine w_goto rfl ?_
        refine w_istore (lv' := [some (2, 428), some (0, l1), some (0, l2), some (0, l3), some (0, r1), some (0, r2), some (0, 1), none, none, none, none, none, none, none, none, none, none, none, none, none, none, none]) rfl rfl rfl ?_
        refine w_aload_n rfl rfl ?_
        refine w_gfC (c := 467) rfl s_428 rfl rfl ?_
        refine w_astore (lv' := [some (2, 428), some (0, l1), some (0, l2), some (0, l3), some (0, r1), some (0, r2), some (0, 1), some (2, 467), none, none, none, none, none, none, none, none, none, none, none, none, none, none]) rfl rfl rfl ?_
        refine w_iload rfl rfl ?_
        refine w_ifeq rfl (w_iff (by decide) ?_)
        refine w_aload_n rfl rfl ?_
        refine w_gfC (c := 436) rfl s_428 rfl rfl ?_
        refine w_iload rfl rfl ?_
        refine w_iald rfl s_436 (n := 40000) rfl h.1 ?_
        replace h := h.2
        refine w_goto rfl ?_
        refine w_istore (lv' := [some (2, 428), some (0, l1), some (0, l2), some (0, l3), some (0, r1), some (0, r2), some (0, 1), some (2, 467), some (0, m2 436 r1), none, none, none, none, none, none, none, none, none, none, none, none, none]) rfl rfl rfl ?_
        refine w_iconst rfl (by decide) ?_
        refine w_istore (lv' := [some (2, 428), some (0, l1), some (0, l2), some (0, l3), some (0, r1), some (0, r2), some (0, 1), some (2, 467), some (0, m2 436 r1), some (0, 0), none, none, none, none, none, none, none, none, none, none, none, none]) rfl rfl rfl ?_
        exact w_W.less h (w_sub [true, true, true, true, false, true, true, true, true, true, false, false, false, false, false, false, false, false, false, false, false, false] rfl)
      · refine w_iconst rfl (by decide) ?_
        refine w_istore (lv' := [some (2, 428), some (0, l1), some (0, l2), some (0, l3), some (0, r1), some (0, r2), some (0, 0), none, none, none, none, none, none, none, none, none, none, none, none, none, none, none]) rfl rfl rfl ?_
        refine w_aload_n rfl rfl ?_
        refine w_gfC (c := 467) rfl s_428 rfl rfl ?_
        refine w_astore (lv' := [some (2, 428), some (0, l1), some (0, l2), some (0, l3), some (0, r1), some (0, r2), some (0, 0), some (2, 467), none, none, none, none, none, none, none, none, none, none, none, none, none, none]) rfl rfl rfl ?_
        refine w_iload rfl rfl ?_
        refine w_ifeq rfl (w_ift (by decide) ?_)
        refine w_iconst rfl (by decide) ?_
        refine w_istore (lv' := [some (2, 428), some (0, l1), some (0, l2), some (0, l3), some (0, r1), some (0, r2), some (0, 0), some (2, 467), some (0, (-1)), none, none, none, none, none, none, none, none, none, none, none, none, none]) rfl rfl rfl ?_
        refine w_iconst rfl (by decide) ?_
        refine w_istore (lv' := [some (2, 428), some (0, l1), some (0, l2), some (0, l3), some (0, r1), some (0, r2), some (0, 0), some (2, 467), some (0, (-1)), some (0, 0), none, none, none, none, none, none, none, none, none, none, none, none]) rfl rfl rfl ?_
        exact w_W.less h (w_sub [true, true, true, true, false, true, true, true, true, true, false, false, false, false, false, false, false, false, false, false, false, false] rfl)
    · refine w_iconst rfl (by decide) ?_
      refine w_istore (lv' := [some (2, 428), some (0, l1), some (0, l2), some (0, l3), some (0, r1), some (0, r2), some (0, 0), none, none, none, none, none, none, none, none, none, none, none, none, none, none, none]) rfl rfl rfl ?_
      refine w_aload_n rfl rfl ?_
      refine w_gfC (c := 467) rfl s_428 rfl rfl ?_
      refine w_astore (lv' := [some (2, 428), some (0, l1), some (0, l2), some (0, l3), some (0, r1), some (0, r2), some (0, 0), some (2, 467), none, none, none, none, none, none, none, none, none, none, none, none, none, none]) rfl rfl rfl ?_
      refine w_iload rfl rfl ?_
      refine w_ifeq rfl (w_ift (by decide) ?_)
      refine w_iconst rfl (by decide) ?_
      refine w_istore (lv' := [some (2, 428), some (0, l1), some (0, l2), some (0, l3), some (0, r1), some (0, r2), some (0, 0), some (2, 467), some (0, (-1)), none, none, none, none, none, none, none, none, none, none, none, none, none]) rfl rfl rfl ?_
      refine w_iconst rfl (by decide) ?_
      refine w_istore (lv' := [some (2, 428), some (0, l1), some (0, l2), some (0, l3), some (0, r1), some (0, r2), some (0, 0), some (2, 467), some (0, (-1)), some (0, 0), none, none, none, none, none, none, none, none, none, none, none, none]) rfl rfl rfl ?_
      exact w_W.less h (w_sub [true, true, true, true, false, true, true, true, true, true, false, false, false, false, false, false, false, false, false, false, false, false] rfl)
theorem xr_m_entries1_81 {d : Nat} {l1 l2 l3 l5 l6 l8 l9 : Int} {m : w_M} {Q : Int → w_M → Prop} (h : if l9 < 3 then (if l6 = 0 then (xp_m_entries1_158 d l1 l2 l3 l5 l6 m Q) else (((0 : Int) ≤ l8 ∧ l8 < 40000) ∧ (if (m 432 l8) = 2 then (((0 : Int) ≤ l8 ∧ l8 < 40000) ∧ (if (m 433 l8) < 0 then (((0 : Int) ≤ l8 ∧ l8 < 40000) ∧ (((0 : Int) ≤ l9 ∧ l9 < 3) ∧ (((0 : Int) ≤ l8 ∧ l8 < 40000) ∧ (xp_m_entries1_81 d l1 l2 l3 l5 0 ((w_up m 467 l9 (m 433 l8)) 437 l8) (w_32 (l9 + 1)) (w_up m 467 l9 (m 433 l8)) Q)))) else (((0 : Int) ≤ l8 ∧ l8 < 40000) ∧ (if 4 < (m 433 l8) then (((0 : Int) ≤ l8 ∧ l8 < 40000) ∧ (((0 : Int) ≤ l9 ∧ l9 < 3) ∧ (((0 : Int) ≤ l8 ∧ l8 < 40000) ∧ (xp_m_entries1_81 d l1 l2 l3 l5 0 ((w_up m 467 l9 (m 433 l8)) 437 l8) (w_32 (l9 + 1)) (w_up m 467 l9 (m 433 l8)) Q)))) else (((0 : Int) ≤ l8 ∧ l8 < 40000) ∧ (((0 : Int) ≤ l9 ∧ l9 < 3) ∧ (((0 : Int) ≤ l8 ∧ l8 < 40000) ∧ (xp_m_entries1_81 d l1 l2 l3 l5 1 ((w_up m 467 l9 (m 433 l8)) 437 l8) (w_32 (l9 + 1)) (w_up m 467 l9 (m 433 l8)) Q)))))))) else (((0 : Int) ≤ l8 ∧ l8 < 40000) ∧ (((0 : Int) ≤ l9 ∧ l9 < 3) ∧ (((0 : Int) ≤ l8 ∧ l8 < 40000) ∧ (xp_m_entries1_81 d l1 l2 l3 l5 0 ((w_up m 467 l9 (m 433 l8)) 437 l8) (w_32 (l9 + 1)) (w_up m 467 l9 (m 433 l8)) Q))))))) else (xp_m_entries1_158 d l1 l2 l3 l5 l6 m Q)) : xp_m_entries1_81 d l1 l2 l3 l5 l6 l8 l9 m Q := by
  refine w_iload rfl rfl ?_
  refine w_iconst rfl (by decide) ?_
  refine w_icge rfl (w_ite h (fun h => ?_) (fun h => ?_))
  · refine w_iload rfl rfl ?_
    refine w_ifeq rfl (w_ite h (fun h => ?_) (fun h => ?_))
    · exact w_W.less h (w_sub [true, true, true, true, false, true, true, true, false, false, false, false, false, false, false, false, false, false, false, false, false, false] rfl)
    · refine w_aload_n rfl rfl ?_
      refine w_gfC (c := 432) rfl s_428 rfl rfl ?_
      refine w_iload rfl rfl ?_
      refine w_bald rfl s_432 (n := 40000) rfl h.1 ?_
      replace h := h.2
      refine w_iconst rfl (by decide) ?_
      refine w_icne rfl (w_ite h (fun h => ?_) (fun h => ?_))
      · refine w_aload_n rfl rfl ?_
        refine w_gfC (c := 433) rfl s_428 rfl rfl ?_
        refine w_iload rfl rfl ?_
        refine w_iald rfl s_433 (n := 40000) rfl h.1 ?_
        replace h := h.2
        refine w_iflt rfl (w_ite h (fun h => ?_) (fun h => ?_))
        · refine w_iconst rfl (by decide) ?_
          refine w_istore (lv' := [some (2, 428), some (0, l1), some (0, l2), some (0, l3), none, some (0, l5), some (0, 0), some (2, 467), some (0, l8), some (0, l9), none, none, none, none, none, none, none, none, none, none, none, none]) rfl rfl rfl ?_
          refine w_aload rfl rfl ?_
          refine w_iload rfl rfl ?_
          refine w_aload_n rfl rfl ?_
          refine w_gfC (c := 433) rfl s_428 rfl rfl ?_
          refine w_iload rfl rfl ?_
          refine w_iald rfl s_433 (n := 40000) rfl h.1 ?_
          replace h := h.2
          refine w_iast rfl s_467 (w_EM (by decide)) (n := 3) rfl h.1 ?_
          replace h := h.2
          refine w_aload_n rfl rfl ?_
          refine w_gfC (c := 437) rfl s_428 rfl rfl ?_
          refine w_iload rfl rfl ?_
          refine w_iald rfl s_437 (n := 40000) rfl h.1 ?_
          replace h := h.2
          refine w_istore (lv' := [some (2, 428), some (0, l1), some (0, l2), some (0, l3), none, some (0, l5), some (0, 0), some (2, 467), some (0, (w_up m 467 l9 (m 433 l8)) 437 l8), some (0, l9), none, none, none, none, none, none, none, none, none, none, none, none]) rfl rfl rfl ?_
          refine w_iinc (lv' := [some (2, 428), some (0, l1), some (0, l2), some (0, l3), none, some (0, l5), some (0, 0), some (2, 467), some (0, (w_up m 467 l9 (m 433 l8)) 437 l8), some (0, w_32 (l9 + 1)), none, none, none, none, none, none, none, none, none, none, none, none]) rfl rfl rfl rfl ?_
          refine w_goto rfl ?_
          exact w_W.less h (w_sub [true, true, true, true, false, true, true, true, true, true, false, false, false, false, false, false, false, false, false, false, false, false] rfl)
        · refine w_aload_n rfl rfl ?_
          refine w_gfC (c := 433) rfl s_428 rfl rfl ?_
          refine w_iload rfl rfl ?_
          refine w_iald rfl s_433 (n := 40000) rfl h.1 ?_
          replace h := h.2
          refine w_iconst rfl (by decide) ?_
          refine w_icgt rfl (w_ite h (fun h => ?_) (fun h => ?_))
          · refine w_iconst rfl (by decide) ?_
            refine w_istore (lv' := [some (2, 428), some (0, l1), some (0, l2), some (0, l3), none, some (0, l5), some (0, 0), some (2, 467), some (0, l8), some (0, l9), none, none, none, none, none, none, none, none, none, none, none, none]) rfl rfl rfl ?_
            refine w_aload rfl rfl ?_
            refine w_iload rfl rfl ?_
            refine w_aload_n rfl rfl ?_
            refine w_gfC (c := 433) rfl s_428 rfl rfl ?_
            refine w_iload rfl rfl ?_
            refine w_iald rfl s_433 (n := 40000) rfl h.1 ?_
            replace h := h.2
            refine w_iast rfl s_467 (w_EM (by decide)) (n := 3) rfl h.1 ?_
            replace h := h.2
            refine w_aload_n rfl rfl ?_
            refine w_gfC (c := 437) rfl s_428 rfl rfl ?_
            refine w_iload rfl rfl ?_
            refine w_iald rfl s_437 (n := 40000) rfl h.1 ?_
            replace h := h.2
            refine w_istore (lv' := [some (2, 428), some (0, l1), some (0, l2), some (0, l3), none, some (0, l5), some (0, 0), some (2, 467), some (0, (w_up m 467 l9 (m 433 l8)) 437 l8), some (0, l9), none, none, none, none, none, none, none, none, none, none, none, none]) rfl rfl rfl ?_
            refine w_iinc (lv' := [some (2, 428), some (0, l1), some (0, l2), some (0, l3), none, some (0, l5), some (0, 0), some (2, 467), some (0, (w_up m 467 l9 (m 433 l8)) 437 l8), some (0, w_32 (l9 + 1)), none, none, none, none, none, none, none, none, none, none, none, none]) rfl rfl rfl rfl ?_
            refine w_goto rfl ?_
            exact w_W.less h (w_sub [true, true, true, true, false, true, true, true, true, true, false, false, false, false, false, false, false, false, false, false, false, false] rfl)
          · refine w_iconst rfl (by decide) ?_
            refine w_goto rfl ?_
            refine w_istore (lv' := [some (2, 428), some (0, l1), some (0, l2), some (0, l3), none, some (0, l5), some (0, 1), some (2, 467), some (0, l8), some (0, l9), none, none, none, none, none, none, none, none, none, none, none, none]) rfl rfl rfl ?_
            refine w_aload rfl rfl ?_
            refine w_iload rfl rfl ?_
            refine w_aload_n rfl rfl ?_
            refine w_gfC (c := 433) rfl s_428 rfl rfl ?_
            refine w_iload rfl rfl ?_
            refine w_iald rfl s_433 (n := 40000) rfl h.1 ?_
            replace h := h.2
            refine w_iast rfl s_467 (w_EM (by decide)) (n := 3) rfl h.1 ?_
            replace h := h.2
            refine w_aload_n rfl rfl ?_
            refine w_gfC (c := 437) rfl s_428 rfl rfl ?_
            refine w_iload rfl rfl ?_
            refine w_iald rfl s_437 (n := 40000) rfl h.1 ?_
            replace h := h.2
            refine w_istore (lv' := [some (2, 428), some (0, l1), some (0, l2), some (0, l3), none, some (0, l5), some (0, 1), some (2, 467), some (0, (w_up m 467 l9 (m 433 l8)) 437 l8), some (0, l9), none, none, none, none, none, none, none, none, none, none, none, none]) rfl rfl rfl ?_
            refine w_iinc (lv' := [some (2, 428), some (0, l1), some (0, l2), some (0, l3), none, some (0, l5), some (0, 1), some (2, 467), some (0, (w_up m 467 l9 (m 433 l8)) 437 l8), some (0, w_32 (l9 + 1)), none, none, none, none, none, none, none, none, none, none, none, none]) rfl rfl rfl rfl ?_
            refine w_goto rfl ?_
            exact w_W.less h (w_sub [true, true, true, true, false, true, true, true, true, true, false, false, false, false, false, false, false, false, false, false, false, false] rfl)
      · refine w_iconst rfl (by decide) ?_
        refine w_istore (lv' := [some (2, 428), some (0, l1), some (0, l2), some (0, l3), none, some (0, l5), some (0, 0), some (2, 467), some (0, l8), some (0, l9), none, none, none, none, none, none, none, none, none, none, none, none]) rfl rfl rfl ?_
        refine w_aload rfl rfl ?_
        refine w_iload rfl rfl ?_
        refine w_aload_n rfl rfl ?_
        refine w_gfC (c := 433) rfl s_428 rfl rfl ?_
        refine w_iload rfl rfl ?_
        refine w_iald rfl s_433 (n := 40000) rfl h.1 ?_
        replace h := h.2
        refine w_iast rfl s_467 (w_EM (by decide)) (n := 3) rfl h.1 ?_
        replace h := h.2
        refine w_aload_n rfl rfl ?_
        refine w_gfC (c := 437) rfl s_428 rfl rfl ?_
        refine w_iload rfl rfl ?_
        refine w_iald rfl s_437 (n := 40000) rfl h.1 ?_
        replace h := h.2
        refine w_istore (lv' := [some (2, 428), some (0, l1), some (0, l2), some (0, l3), none, some (0, l5), some (0, 0), some (2, 467), some (0, (w_up m 467 l9 (m 433 l8)) 437 l8), some (0, l9), none, none, none, none, none, none, none, none, none, none, none, none]) rfl rfl rfl ?_
        refine w_iinc (lv' := [some (2, 428), some (0, l1), some (0, l2), some (0, l3), none, some (0, l5), some (0, 0), some (2, 467), some (0, (w_up m 467 l9 (m 433 l8)) 437 l8), some (0, w_32 (l9 + 1)), none, none, none, none, none, none, none, none, none, none, none, none]) rfl rfl rfl rfl ?_
        refine w_goto rfl ?_
        exact w_W.less h (w_sub [true, true, true, true, false, true, true, true, true, true, false, false, false, false, false, false, false, false, false, false, false, false] rfl)
  · exact w_W.less h (w_sub [true, true, true, true, false, true, true, true, false, false, false, false, false, false, false, false, false, false, false, false, false, false] rfl)
theorem xr_m_entries1_158 {d : Nat} {l1 l2 l3 l5 l6 : Int} {m : w_M} {Q : Int → w_M → Prop} (h : if l6 = 0 then (xp_m_entries1_213 d l1 l2 l3 l5 0 m Q) else (if l5 < 0 then (xc_m_wholeAt d l1 198 (-1) m (fun r1 m1 => if r1 < 1 then (xp_m_entries1_213 d l1 l2 l3 l5 0 m1 Q) else (xp_m_entries1_213 d l1 l2 l3 l5 1 m1 Q))) else (((0 : Int) ≤ l5 ∧ l5 < 40000) ∧ (if (m 432 l5) = 6 then (((0 : Int) ≤ l5 ∧ l5 < 40000) ∧ (if (Int.tmod (m 435 l5) 2) = 0 then (xp_m_entries1_213 d l1 l2 l3 l5 1 m Q) else (xp_m_entries1_213 d l1 l2 l3 l5 0 m Q))) else (xp_m_entries1_213 d l1 l2 l3 l5 0 m Q))))) : xp_m_entries1_158 d l1 l2 l3 l5 l6 m Q := by
  refine w_iload rfl rfl ?_
  refine w_ifeq rfl (w_ite h (fun h => ?_) (fun h => ?_))
  · refine w_iconst rfl (by decide) ?_
    exact w_W.less h (w_sub [true, true, true, true, false, true, false, true, false, false, false, false, false, false, false, false, false, false, false, false, false, false] rfl)
  · refine w_iload rfl rfl ?_
    refine w_ifge rfl (w_ite h (fun h => ?_) (fun h => ?_))
    · refine w_aload_n rfl rfl ?_
      refine w_iload_n rfl rfl ?_
      refine w_ldcwR rfl ?_
      refine w_iconst rfl (by decide) ?_
      refine w_callV (t' := 0) [(0, (-1)), (2, 198), (0, l1)] [] rfl s_428 rfl rfl ?_
      refine w_C.more (Q := fun r1 m1 => _) h (fun r1 m1 h => ?_)
      replace h := id h
      refine w_iconst rfl (by decide) ?_
      refine w_iclt rfl (w_ite h (fun h => ?_) (fun h => ?_))
      · refine w_iconst rfl (by decide) ?_
        exact w_W.less h (w_sub [true, true, true, true, false, true, false, true, false, false, false, false, false, false, false, false, false, false, false, false, false, false] rfl)
      · refine w_goto rfl ?_
        refine w_iconst rfl (by decide) ?_
        refine w_goto rfl ?_
        exact w_W.less h (w_sub [true, true, true, true, false, true, false, true, false, false, false, false, false, false, false, false, false, false, false, false, false, false] rfl)
    · refine w_aload_n rfl rfl ?_
      refine w_gfC (c := 432) rfl s_428 rfl rfl ?_
      refine w_iload rfl rfl ?_
      refine w_bald rfl s_432 (n := 40000) rfl h.1 ?_
      replace h := h.2
      refine w_bipush rfl (by decide) ?_
      refine w_icne rfl (w_ite h (fun h => ?_) (fun h => ?_))
      · refine w_aload_n rfl rfl ?_
        refine w_gfC (c := 435) rfl s_428 rfl rfl ?_
        refine w_iload rfl rfl ?_
        refine w_iald rfl s_435 (n := 40000) rfl h.1 ?_
        replace h := h.2
        refine w_iconst rfl (by decide) ?_
        refine w_iremk rfl (by decide) ?_
        refine w_ifne rfl (w_ite h (fun h => ?_) (fun h => ?_))
        · refine w_iconst rfl (by decide) ?_
          refine w_goto rfl ?_
          exact w_W.less h (w_sub [true, true, true, true, false, true, false, true, false, false, false, false, false, false, false, false, false, false, false, false, false, false] rfl)
        · refine w_iconst rfl (by decide) ?_
          exact w_W.less h (w_sub [true, true, true, true, false, true, false, true, false, false, false, false, false, false, false, false, false, false, false, false, false, false] rfl)
      · refine w_iconst rfl (by decide) ?_
        exact w_W.less h (w_sub [true, true, true, true, false, true, false, true, false, false, false, false, false, false, false, false, false, false, false, false, false, false] rfl)
theorem xr_m_entries1_213 {d : Nat} {l1 l2 l3 l5 s0 : Int} {m : w_M} {Q : Int → w_M → Prop} (h : if s0 = 0 then (xp_m_entries1_242 d l1 l2 l3 l5 s0 (-1) (-1) m Q) else (if l5 < 0 then (xp_m_entries1_242 d l1 l2 l3 l5 s0 (-1) (-1) m Q) else (((0 : Int) ≤ l5 ∧ l5 < 40000) ∧ (xp_m_entries1_242 d l1 l2 l3 l5 s0 (m 436 l5) (m 436 l5) m Q)))) : xp_m_entries1_213 d l1 l2 l3 l5 s0 m Q := by
  refine w_istore (lv' := [some (2, 428), some (0, l1), some (0, l2), some (0, l3), none, some (0, l5), some (0, s0), some (2, 467), none, none, none, none, none, none, none, none, none, none, none, none, none, none]) rfl rfl rfl ?_
  refine w_iload rfl rfl ?_
  refine w_ifeq rfl (w_ite h (fun h => ?_) (fun h => ?_))
  · refine w_iconst rfl (by decide) ?_
    refine w_istore (lv' := [some (2, 428), some (0, l1), some (0, l2), some (0, l3), none, some (0, l5), some (0, s0), some (2, 467), some (0, (-1)), none, none, none, none, none, none, none, none, none, none, none, none, none]) rfl rfl rfl ?_
    refine w_iload rfl rfl ?_
    refine w_istore (lv' := [some (2, 428), some (0, l1), some (0, l2), some (0, l3), none, some (0, l5), some (0, s0), some (2, 467), some (0, (-1)), some (0, (-1)), none, none, none, none, none, none, none, none, none, none, none, none]) rfl rfl rfl ?_
    exact w_W.less h (w_sub [true, true, true, true, false, true, true, true, true, true, false, false, false, false, false, false, false, false, false, false, false, false] rfl)
  · refine w_iload rfl rfl ?_
    refine w_iflt rfl (w_ite h (fun h => ?_) (fun h => ?_))
    · refine w_iconst rfl (by decide) ?_
      refine w_istore (lv' := [some (2, 428), some (0, l1), some (0, l2), some (0, l3), none, some (0, l5), some (0, s0), some (2, 467), some (0, (-1)), none, none, none, none, none, none, none, none, none, none, none, none, none]) rfl rfl rfl ?_
      refine w_iload rfl rfl ?_
      refine w_istore (lv' := [some (2, 428), some (0, l1), some (0, l2), some (0, l3), none, some (0, l5), some (0, s0), some (2, 467), some (0, (-1)), some (0, (-1)), none, none, none, none, none, none, none, none, none, none, none, none]) rfl rfl rfl ?_
      exact w_W.less h (w_sub [true, true, true, true, false, true, true, true, true, true, false, false, false, false, false, false, false, false, false, false, false, false] rfl)
    · refine w_aload_n rfl rfl ?_
      refine w_gfC (c := 436) rfl s_428 rfl rfl ?_
      refine w_iload rfl rfl ?_
      refine w_iald rfl s_436 (n := 40000) rfl h.1 ?_
      replace h := h.2
      refine w_goto rfl ?_
      refine w_istore (lv' := [some (2, 428), some (0, l1), some (0, l2), some (0, l3), none, some (0, l5), some (0, s0), some (2, 467), some (0, m 436 l5), none, none, none, none, none, none, none, none, none, none, none, none, none]) rfl rfl rfl ?_
      refine w_iload rfl rfl ?_
      refine w_istore (lv' := [some (2, 428), some (0, l1), some (0, l2), some (0, l3), none, some (0, l5), some (0, s0), some (2, 467), some (0, m 436 l5), some (0, m 436 l5), none, none, none, none, none, none, none, none, none, none, none, none]) rfl rfl rfl ?_
      exact w_W.less h (w_sub [true, true, true, true, false, true, true, true, true, true, false, false, false, false, false, false, false, false, false, false, false, false] rfl)
theorem xr_m_entries1_242 {d : Nat} {l1 l2 l3 l5 l6 l8 l9 : Int} {m : w_M} {Q : Int → w_M → Prop} (h : if l9 < 0 then (if l6 = 0 then (xc_m_fail d 3 l3 m (fun r1 m1 => Q 0 m1)) else (if l5 < 0 then (xp_m_entries1_319 d l1 l2 l3 l8 0 1 m Q) else (xp_m_entries1_319 d l1 l2 l3 l8 0 0 m Q))) else (if l6 = 0 then (if l6 = 0 then (xc_m_fail d 3 l3 m (fun r2 m2 => Q 0 m2)) else (if l5 < 0 then (xp_m_entries1_319 d l1 l2 l3 l8 0 1 m Q) else (xp_m_entries1_319 d l1 l2 l3 l8 0 0 m Q))) else (((0 : Int) ≤ l9 ∧ l9 < 40000) ∧ (if (m 432 l9) = 2 then (((0 : Int) ≤ l9 ∧ l9 < 40000) ∧ (if (m 433 l9) < 0 then (((0 : Int) ≤ l9 ∧ l9 < 40000) ∧ (xp_m_entries1_242 d l1 l2 l3 l5 0 l8 (m 437 l9) m Q)) else (((0 : Int) ≤ l9 ∧ l9 < 40000) ∧ (xp_m_entries1_242 d l1 l2 l3 l5 1 l8 (m 437 l9) m Q)))) else (((0 : Int) ≤ l9 ∧ l9 < 40000) ∧ (xp_m_entries1_242 d l1 l2 l3 l5 0 l8 (m 437 l9) m Q)))))) : xp_m_entries1_242 d l1 l2 l3 l5 l6 l8 l9 m Q := by
  refine w_iload rfl rfl ?_
  refine w_iflt rfl (w_ite h (fun h => ?_) (fun h => ?_))
  · refine w_iload rfl rfl ?_
    refine w_ifne rfl (w_ite h (fun h => ?_) (fun h => ?_))
    · refine w_aload_n rfl rfl ?_
      refine w_iconst rfl (by decide) ?_
      refine w_iload_n rfl rfl ?_
      refine w_callV (t' := 3) [(0, l3), (0, 3)] [] rfl s_428 rfl rfl ?_
      refine w_C.more (Q := fun r1 m1 => _) h (fun r1 m1 h => ?_)
      replace h := id h
      exact w_vret rfl rfl h
    · refine w_iconst rfl (by decide) ?_
      refine w_istore (lv' := [some (2, 428), some (0, l1), some (0, l2), some (0, l3), none, some (0, l5), some (0, l6), some (2, 467), some (0, l8), some (0, 0), none, none, none, none, none, none, none, none, none, none, none, none]) rfl rfl rfl ?_
      refine w_iload rfl rfl ?_
      refine w_ifge rfl (w_ite h (fun h => ?_) (fun h => ?_))
      · refine w_iconst rfl (by decide) ?_
        refine w_goto rfl ?_
        refine w_istore (lv' := [some (2, 428), some (0, l1), some (0, l2), some (0, l3), none, some (0, l5), some (0, l6), some (2, 467), some (0, l8), some (0, 0), some (0, 1), none, none, none, none, none, none, none, none, none, none, none]) rfl rfl rfl ?_
        exact w_W.less h (w_sub [true, true, true, true, false, false, false, true, true, true, true, false, false, false, false, false, false, false, false, false, false, false] rfl)
      · refine w_iconst rfl (by decide) ?_
        refine w_istore (lv' := [some (2, 428), some (0, l1), some (0, l2), some (0, l3), none, some (0, l5), some (0, l6), some (2, 467), some (0, l8), some (0, 0), some (0, 0), none, none, none, none, none, none, none, none, none, none, none]) rfl rfl rfl ?_
        exact w_W.less h (w_sub [true, true, true, true, false, false, false, true, true, true, true, false, false, false, false, false, false, false, false, false, false, false] rfl)
  · refine w_iload rfl rfl ?_
    refine w_ifeq rfl (w_ite h (fun h => ?_) (fun h => ?_))
    · refine w_iload rfl rfl ?_
      refine w_ifne rfl (w_ite h (fun h => ?_) (fun h => ?_))
      · refine w_aload_n rfl rfl ?_
        refine w_iconst rfl (by decide) ?_
        refine w_iload_n rfl rfl ?_
        refine w_callV (t' := 3) [(0, l3), (0, 3)] [] rfl s_428 rfl rfl ?_
        refine w_C.more (Q := fun r2 m2 => _) h (fun r2 m2 h => ?_)
        replace h := id h
        exact w_vret rfl rfl h
      · refine w_iconst rfl (by decide) ?_
        refine w_istore (lv' := [some (2, 428), some (0, l1), some (0, l2), some (0, l3), none, some (0, l5), some (0, l6), some (2, 467), some (0, l8), some (0, 0), none, none, none, none, none, none, none, none, none, none, none, none]) rfl rfl rfl ?_
        refine w_iload rfl rfl ?_
        refine w_ifge rfl (w_ite h (fun h => ?_) (fun h => ?_))
        · refine w_iconst rfl (by decide) ?_
          refine w_goto rfl ?_
          refine w_istore (lv' := [some (2, 428), some (0, l1), some (0, l2), some (0, l3), none, some (0, l5), some (0, l6), some (2, 467), some (0, l8), some (0, 0), some (0, 1), none, none, none, none, none, none, none, none, none, none, none]) rfl rfl rfl ?_
          exact w_W.less h (w_sub [true, true, true, true, false, false, false, true, true, true, true, false, false, false, false, false, false, false, false, false, false, false] rfl)
        · refine w_iconst rfl (by decide) ?_
          refine w_istore (lv' := [some (2, 428), some (0, l1), some (0, l2), some (0, l3), none, some (0, l5), some (0, l6), some (2, 467), some (0, l8), some (0, 0), some (0, 0), none, none, none, none, none, none, none, none, none, none, none]) rfl rfl rfl ?_
          exact w_W.less h (w_sub [true, true, true, true, false, false, false, true, true, true, true, false, false, false, false, false, false, false, false, false, false, false] rfl)
    · refine w_aload_n rfl rfl ?_
      refine w_gfC (c := 432) rfl s_428 rfl rfl ?_
      refine w_iload rfl rfl ?_
      refine w_bald rfl s_432 (n := 40000) rfl h.1 ?_
      replace h := h.2
      refine w_iconst rfl (by decide) ?_
      refine w_icne rfl (w_ite h (fun h => ?_) (fun h => ?_))
      · refine w_aload_n rfl rfl ?_
        refine w_gfC (c := 433) rfl s_428 rfl rfl ?_
        refine w_iload rfl rfl ?_
        refine w_iald rfl s_433 (n := 40000) rfl h.1 ?_
        replace h := h.2
        refine w_iflt rfl (w_ite h (fun h => ?_) (fun h => ?_))
        · refine w_iconst rfl (by decide) ?_
          refine w_istore (lv' := [some (2, 428), some (0, l1), some (0, l2), some (0, l3), none, some (0, l5), some (0, 0), some (2, 467), some (0, l8), some (0, l9), none, none, none, none, none, none, none, none, none, none, none, none]) rfl rfl rfl ?_
          refine w_aload_n rfl rfl ?_
          refine w_gfC (c := 437) rfl s_428 rfl rfl ?_
          refine w_iload rfl rfl ?_
          refine w_iald rfl s_437 (n := 40000) rfl h.1 ?_
          replace h := h.2
          refine w_istore (lv' := [some (2, 428), some (0, l1), some (0, l2), some (0, l3), none, some (0, l5), some (0, 0), some (2, 467), some (0, l8), some (0, m 437 l9), none, none, none, none, none, none, none, none, none, none, none, none]) rfl rfl rfl ?_
          refine w_goto rfl ?_
          exact w_W.less h (w_sub [true, true, true, true, false, true, true, true, true, true, false, false, false, false, false, false, false, false, false, false, false, false] rfl)
        · refine w_iconst rfl (by decide) ?_
          refine w_goto rfl ?_
          refine w_istore (lv' := [some (2, 428), some (0, l1), some (0, l2), some (0, l3), none, some (0, l5), some (0, 1), some (2, 467), some (0, l8), some (0, l9), none, none, none, none, none, none, none, none, none, none, none, none]) rfl rfl rfl ?_
          refine w_aload_n rfl rfl ?_
          refine w_gfC (c := 437) rfl s_428 rfl rfl ?_
          refine w_iload rfl rfl ?_
          refine w_iald rfl s_437 (n := 40000) rfl h.1 ?_
          replace h := h.2
          refine w_istore (lv' := [some (2, 428), some (0, l1), some (0, l2), some (0, l3), none, some (0, l5), some (0, 1), some (2, 467), some (0, l8), some (0, m 437 l9), none, none, none, none, none, none, none, none, none, none, none, none]) rfl rfl rfl ?_
          refine w_goto rfl ?_
          exact w_W.less h (w_sub [true, true, true, true, false, true, true, true, true, true, false, false, false, false, false, false, false, false, false, false, false, false] rfl)
      · refine w_iconst rfl (by decide) ?_
        refine w_istore (lv' := [some (2, 428), some (0, l1), some (0, l2), some (0, l3), none, some (0, l5), some (0, 0), some (2, 467), some (0, l8), some (0, l9), none, none, none, none, none, none, none, none, none, none, none, none]) rfl rfl rfl ?_
        refine w_aload_n rfl rfl ?_
        refine w_gfC (c := 437) rfl s_428 rfl rfl ?_
        refine w_iload rfl rfl ?_
        refine w_iald rfl s_437 (n := 40000) rfl h.1 ?_
        replace h := h.2
        refine w_istore (lv' := [some (2, 428), some (0, l1), some (0, l2), some (0, l3), none, some (0, l5), some (0, 0), some (2, 467), some (0, l8), some (0, m 437 l9), none, none, none, none, none, none, none, none, none, none, none, none]) rfl rfl rfl ?_
        refine w_goto rfl ?_
        exact w_W.less h (w_sub [true, true, true, true, false, true, true, true, true, true, false, false, false, false, false, false, false, false, false, false, false, false] rfl)
theorem xr_m_entries1_319 {d : Nat} {l1 l2 l3 l8 l9 l10 : Int} {m : w_M} {Q : Int → w_M → Prop} (h : xc_m_good d m (fun r1 m1 => if r1 = 0 then (xc_m_good d m1 (fun r2 m2 => if r2 = 0 then (Q 0 m2) else (if l9 = l2 then (Q 0 m2) else (xc_m_fail d 3 l3 m2 (fun r3 m3 => Q 0 m3))))) else (if l10 = 0 then (if l8 < 0 then (xc_m_good d m1 (fun r4 m4 => if r4 = 0 then (Q 0 m4) else (if l9 = l2 then (Q 0 m4) else (xc_m_fail d 3 l3 m4 (fun r5 m5 => Q 0 m5))))) else (xp_m_entries1_336 d l1 l2 l3 l8 l9 l10 m1 Q)) else (xp_m_entries1_336 d l1 l2 l3 l8 l9 l10 m1 Q)))) : xp_m_entries1_319 d l1 l2 l3 l8 l9 l10 m Q := by
  refine w_aload_n rfl rfl ?_
  refine w_callV (t' := 0) [] [] rfl s_428 rfl rfl ?_
  refine w_C.more (Q := fun r1 m1 => _) h (fun r1 m1 h => ?_)
  replace h := id h
  refine w_ifeq rfl (w_ite h (fun h => ?_) (fun h => ?_))
  · refine w_aload_n rfl rfl ?_
    refine w_callV (t' := 0) [] [] rfl s_428 rfl rfl ?_
    refine w_C.more (Q := fun r2 m2 => _) h (fun r2 m2 h => ?_)
    replace h := id h
    refine w_ifeq rfl (w_ite h (fun h => ?_) (fun h => ?_))
    · exact w_vret rfl rfl h
    · refine w_iload rfl rfl ?_
      refine w_iload_n rfl rfl ?_
      refine w_iceq rfl (w_ite h (fun h => ?_) (fun h => ?_))
      · exact w_vret rfl rfl h
      · refine w_aload_n rfl rfl ?_
        refine w_iconst rfl (by decide) ?_
        refine w_iload_n rfl rfl ?_
        refine w_callV (t' := 3) [(0, l3), (0, 3)] [] rfl s_428 rfl rfl ?_
        refine w_C.more (Q := fun r3 m3 => _) h (fun r3 m3 h => ?_)
        replace h := id h
        exact w_vret rfl rfl h
  · refine w_iload rfl rfl ?_
    refine w_ifne rfl (w_ite h (fun h => ?_) (fun h => ?_))
    · refine w_iload rfl rfl ?_
      refine w_iflt rfl (w_ite h (fun h => ?_) (fun h => ?_))
      · refine w_aload_n rfl rfl ?_
        refine w_callV (t' := 0) [] [] rfl s_428 rfl rfl ?_
        refine w_C.more (Q := fun r4 m4 => _) h (fun r4 m4 h => ?_)
        replace h := id h
        refine w_ifeq rfl (w_ite h (fun h => ?_) (fun h => ?_))
        · exact w_vret rfl rfl h
        · refine w_iload rfl rfl ?_
          refine w_iload_n rfl rfl ?_
          refine w_iceq rfl (w_ite h (fun h => ?_) (fun h => ?_))
          · exact w_vret rfl rfl h
          · refine w_aload_n rfl rfl ?_
            refine w_iconst rfl (by decide) ?_
            refine w_iload_n rfl rfl ?_
            refine w_callV (t' := 3) [(0, l3), (0, 3)] [] rfl s_428 rfl rfl ?_
            refine w_C.more (Q := fun r5 m5 => _) h (fun r5 m5 h => ?_)
            replace h := id h
            exact w_vret rfl rfl h
      · exact w_W.less h (w_sub [true, true, true, true, false, false, false, true, true, true, true, false, false, false, false, false, false, false, false, false, false, false] rfl)
    · exact w_W.less h (w_sub [true, true, true, true, false, false, false, true, true, true, true, false, false, false, false, false, false, false, false, false, false, false] rfl)
theorem xr_m_entries1_336 {d : Nat} {l1 l2 l3 l8 l9 l10 : Int} {m : w_M} {Q : Int → w_M → Prop} (h : if l10 = 0 then (((0 : Int) ≤ l8 ∧ l8 < 40000) ∧ (if l10 = 0 then (((0 : Int) ≤ l8 ∧ l8 < 40000) ∧ (((0 : Int) ≤ (m 437 l8) ∧ (m 437 l8) < 40000) ∧ (xp_m_entries1_386 d l1 l2 l3 l8 l9 l10 (m 433 l8) (m 433 (m 437 l8)) m Q))) else (xc_m_wholeAt d l1 198 (-1) m (fun r1 m1 => xp_m_entries1_386 d l1 l2 l3 l8 l9 l10 (m 433 l8) r1 m1 Q)))) else (if l10 = 0 then (((0 : Int) ≤ l8 ∧ l8 < 40000) ∧ (((0 : Int) ≤ (m 437 l8) ∧ (m 437 l8) < 40000) ∧ (xp_m_entries1_386 d l1 l2 l3 l8 l9 l10 0 (m 433 (m 437 l8)) m Q))) else (xc_m_wholeAt d l1 198 (-1) m (fun r2 m2 => xp_m_entries1_386 d l1 l2 l3 l8 l9 l10 0 r2 m2 Q)))) : xp_m_entries1_336 d l1 l2 l3 l8 l9 l10 m Q := by
  refine w_iload rfl rfl ?_
  refine w_ifeq rfl (w_ite h (fun h => ?_) (fun h => ?_))
  · refine w_aload_n rfl rfl ?_
    refine w_gfC (c := 433) rfl s_428 rfl rfl ?_
    refine w_iload rfl rfl ?_
    refine w_iald rfl s_433 (n := 40000) rfl h.1 ?_
    replace h := h.2
    refine w_i2l rfl ?_
    refine w_lstore (lv' := [some (2, 428), some (0, l1), some (0, l2), some (0, l3), none, none, none, some (2, 467), some (0, l8), some (0, l9), some (0, l10), some (1, m 433 l8), none, none, none, none, none, none, none, none, none, none]) rfl rfl rfl ?_
    refine w_iload rfl rfl ?_
    refine w_ifeq rfl (w_ite h (fun h => ?_) (fun h => ?_))
    · refine w_aload_n rfl rfl ?_
      refine w_gfC (c := 433) rfl s_428 rfl rfl ?_
      refine w_aload_n rfl rfl ?_
      refine w_gfC (c := 437) rfl s_428 rfl rfl ?_
      refine w_iload rfl rfl ?_
      refine w_iald rfl s_437 (n := 40000) rfl h.1 ?_
      replace h := h.2
      refine w_iald rfl s_433 (n := 40000) rfl h.1 ?_
      replace h := h.2
      refine w_i2l rfl ?_
      exact w_W.less h (w_sub [true, true, true, true, false, false, false, true, true, true, true, true, false, false, false, false, false, false, false, false, false, false] rfl)
    · refine w_aload_n rfl rfl ?_
      refine w_iload_n rfl rfl ?_
      refine w_ldcwR rfl ?_
      refine w_iconst rfl (by decide) ?_
      refine w_callV (t' := 0) [(0, (-1)), (2, 198), (0, l1)] [] rfl s_428 rfl rfl ?_
      refine w_C.more (Q := fun r1 m1 => _) h (fun r1 m1 h => ?_)
      replace h := id h
      refine w_i2l rfl ?_
      refine w_goto rfl ?_
      exact w_W.less h (w_sub [true, true, true, true, false, false, false, true, true, true, true, true, false, false, false, false, false, false, false, false, false, false] rfl)
  · refine w_lconst rfl rfl ?_
    refine w_goto rfl ?_
    refine w_lstore (lv' := [some (2, 428), some (0, l1), some (0, l2), some (0, l3), none, none, none, some (2, 467), some (0, l8), some (0, l9), some (0, l10), some (1, 0), none, none, none, none, none, none, none, none, none, none]) rfl rfl rfl ?_
    refine w_iload rfl rfl ?_
    refine w_ifeq rfl (w_ite h (fun h => ?_) (fun h => ?_))
    · refine w_aload_n rfl rfl ?_
      refine w_gfC (c := 433) rfl s_428 rfl rfl ?_
      refine w_aload_n rfl rfl ?_
      refine w_gfC (c := 437) rfl s_428 rfl rfl ?_
      refine w_iload rfl rfl ?_
      refine w_iald rfl s_437 (n := 40000) rfl h.1 ?_
      replace h := h.2
      refine w_iald rfl s_433 (n := 40000) rfl h.1 ?_
      replace h := h.2
      refine w_i2l rfl ?_
      exact w_W.less h (w_sub [true, true, true, true, false, false, false, true, true, true, true, true, false, false, false, false, false, false, false, false, false, false] rfl)
    · refine w_aload_n rfl rfl ?_
      refine w_iload_n rfl rfl ?_
      refine w_ldcwR rfl ?_
      refine w_iconst rfl (by decide) ?_
      refine w_callV (t' := 0) [(0, (-1)), (2, 198), (0, l1)] [] rfl s_428 rfl rfl ?_
      refine w_C.more (Q := fun r2 m2 => _) h (fun r2 m2 h => ?_)
      replace h := id h
      refine w_i2l rfl ?_
      refine w_goto rfl ?_
      exact w_W.less h (w_sub [true, true, true, true, false, false, false, true, true, true, true, true, false, false, false, false, false, false, false, false, false, false] rfl)
theorem xr_m_entries1_386 {d : Nat} {l1 l2 l3 l8 l9 l10 l11 s0 : Int} {m : w_M} {Q : Int → w_M → Prop} (h : if l10 = 0 then (((0 : Int) ≤ l8 ∧ l8 < 40000) ∧ (((0 : Int) ≤ (m 437 l8) ∧ (m 437 l8) < 40000) ∧ (if 200 < (w_64 (l11 + s0)) then (xc_m_fail d 5 l3 m (fun r1 m1 => Q 0 m1)) else (xp_m_entries1_436 d l1 l2 l3 (m 437 (m 437 l8)) l9 0 l11 s0 0 m Q)))) else (if 200 < (w_64 (l11 + s0)) then (xc_m_fail d 5 l3 m (fun r2 m2 => Q 0 m2)) else (xp_m_entries1_436 d l1 l2 l3 (-1) l9 0 l11 s0 0 m Q))) : xp_m_entries1_386 d l1 l2 l3 l8 l9 l10 l11 s0 m Q := by
  refine w_lstore (lv' := [some (2, 428), some (0, l1), some (0, l2), some (0, l3), none, none, none, some (2, 467), some (0, l8), some (0, l9), some (0, l10), some (1, l11), none, some (1, s0), none, none, none, none, none, none, none, none]) rfl rfl rfl ?_
  refine w_iload rfl rfl ?_
  refine w_ifeq rfl (w_ite h (fun h => ?_) (fun h => ?_))
  · refine w_aload_n rfl rfl ?_
    refine w_gfC (c := 437) rfl s_428 rfl rfl ?_
    refine w_aload_n rfl rfl ?_
    refine w_gfC (c := 437) rfl s_428 rfl rfl ?_
    refine w_iload rfl rfl ?_
    refine w_iald rfl s_437 (n := 40000) rfl h.1 ?_
    replace h := h.2
    refine w_iald rfl s_437 (n := 40000) rfl h.1 ?_
    replace h := h.2
    refine w_istore (lv' := [some (2, 428), some (0, l1), some (0, l2), some (0, l3), none, none, none, some (2, 467), some (0, m 437 (m 437 l8)), some (0, l9), some (0, l10), some (1, l11), none, some (1, s0), none, none, none, none, none, none, none, none]) rfl rfl rfl ?_
    refine w_iconst rfl (by decide) ?_
    refine w_istore (lv' := [some (2, 428), some (0, l1), some (0, l2), some (0, l3), none, none, none, some (2, 467), some (0, m 437 (m 437 l8)), some (0, l9), some (0, 0), some (1, l11), none, some (1, s0), none, none, none, none, none, none, none, none]) rfl rfl rfl ?_
    refine w_lload rfl rfl ?_
    refine w_lload rfl rfl ?_
    refine w_ladd' rfl ?_
    refine w_ldc2 (a := 200) rfl (by decide +kernel) (by decide) ?_
    refine w_lcle rfl rfl (w_ite h (fun h => ?_) (fun h => ?_))
    · refine w_aload_n rfl rfl ?_
      refine w_iconst rfl (by decide) ?_
      refine w_iload_n rfl rfl ?_
      refine w_callV (t' := 3) [(0, l3), (0, 5)] [] rfl s_428 rfl rfl ?_
      refine w_C.more (Q := fun r1 m1 => _) h (fun r1 m1 h => ?_)
      replace h := id h
      exact w_vret rfl rfl h
    · refine w_iconst rfl (by decide) ?_
      refine w_istore (lv' := [some (2, 428), some (0, l1), some (0, l2), some (0, l3), none, none, none, some (2, 467), some (0, m 437 (m 437 l8)), some (0, l9), some (0, 0), some (1, l11), none, some (1, s0), none, some (0, 0), none, none, none, none, none, none]) rfl rfl rfl ?_
      exact w_W.less h (w_sub [true, true, true, true, false, false, false, true, true, true, true, true, false, true, false, true, false, false, false, false, false, false] rfl)
  · refine w_iconst rfl (by decide) ?_
    refine w_goto rfl ?_
    refine w_istore (lv' := [some (2, 428), some (0, l1), some (0, l2), some (0, l3), none, none, none, some (2, 467), some (0, (-1)), some (0, l9), some (0, l10), some (1, l11), none, some (1, s0), none, none, none, none, none, none, none, none]) rfl rfl rfl ?_
    refine w_iconst rfl (by decide) ?_
    refine w_istore (lv' := [some (2, 428), some (0, l1), some (0, l2), some (0, l3), none, none, none, some (2, 467), some (0, (-1)), some (0, l9), some (0, 0), some (1, l11), none, some (1, s0), none, none, none, none, none, none, none, none]) rfl rfl rfl ?_
    refine w_lload rfl rfl ?_
    refine w_lload rfl rfl ?_
    refine w_ladd' rfl ?_
    refine w_ldc2 (a := 200) rfl (by decide +kernel) (by decide) ?_
    refine w_lcle rfl rfl (w_ite h (fun h => ?_) (fun h => ?_))
    · refine w_aload_n rfl rfl ?_
      refine w_iconst rfl (by decide) ?_
      refine w_iload_n rfl rfl ?_
      refine w_callV (t' := 3) [(0, l3), (0, 5)] [] rfl s_428 rfl rfl ?_
      refine w_C.more (Q := fun r2 m2 => _) h (fun r2 m2 h => ?_)
      replace h := id h
      exact w_vret rfl rfl h
    · refine w_iconst rfl (by decide) ?_
      refine w_istore (lv' := [some (2, 428), some (0, l1), some (0, l2), some (0, l3), none, none, none, some (2, 467), some (0, (-1)), some (0, l9), some (0, 0), some (1, l11), none, some (1, s0), none, some (0, 0), none, none, none, none, none, none]) rfl rfl rfl ?_
      exact w_W.less h (w_sub [true, true, true, true, false, false, false, true, true, true, true, true, false, true, false, true, false, false, false, false, false, false] rfl)
theorem xr_m_entries1_436 {d : Nat} {l1 l2 l3 l8 l9 l10 l11 l13 l15 : Int} {m : w_M} {Q : Int → w_M → Prop} (h : if l15 < l13 then (if l2 < (w_32 ((w_32 ((w_32 (l9 + (m 467 0))) + (m 467 1))) + (m 467 2))) then (xc_m_fail d 3 l3 m (fun r1 m1 => Q 0 m1)) else (if (m 467 0) = 0 then (xp_m_entries1_494 d l1 l2 l3 l8 l9 l10 l11 l13 l15 1 m Q) else (xc_m_unsigned d l9 (m 467 0) m (fun r2 m2 => xp_m_entries1_494 d l1 l2 l3 l8 l9 l10 l11 l13 l15 r2 m2 Q)))) else (xp_m_entries1_319 d l1 l2 l3 l8 l9 l10 m Q)) : xp_m_entries1_436 d l1 l2 l3 l8 l9 l10 l11 l13 l15 m Q := by
  refine w_iload rfl rfl ?_
  refine w_i2l rfl ?_
  refine w_lload rfl rfl ?_
  refine w_lcge rfl rfl (w_ite h (fun h => ?_) (fun h => ?_))
  · refine w_iload rfl rfl ?_
    refine w_aload rfl rfl ?_
    refine w_iconst rfl (by decide) ?_
    refine w_iald rfl s_467 (n := 3) rfl (by decide) ?_
    refine w_iadd rfl ?_
    refine w_aload rfl rfl ?_
    refine w_iconst rfl (by decide) ?_
    refine w_iald rfl s_467 (n := 3) rfl (by decide) ?_
    refine w_iadd rfl ?_
    refine w_aload rfl rfl ?_
    refine w_iconst rfl (by decide) ?_
    refine w_iald rfl s_467 (n := 3) rfl (by decide) ?_
    refine w_iadd rfl ?_
    refine w_iload_n rfl rfl ?_
    refine w_icle rfl (w_ite h (fun h => ?_) (fun h => ?_))
    · refine w_aload_n rfl rfl ?_
      refine w_iconst rfl (by decide) ?_
      refine w_iload_n rfl rfl ?_
      refine w_callV (t' := 3) [(0, l3), (0, 3)] [] rfl s_428 rfl rfl ?_
      refine w_C.more (Q := fun r1 m1 => _) h (fun r1 m1 h => ?_)
      replace h := id h
      exact w_vret rfl rfl h
    · refine w_aload rfl rfl ?_
      refine w_iconst rfl (by decide) ?_
      refine w_iald rfl s_467 (n := 3) rfl (by decide) ?_
      refine w_ifne rfl (w_ite h (fun h => ?_) (fun h => ?_))
      · refine w_lconst rfl rfl ?_
        refine w_goto rfl ?_
        exact w_W.less h (w_sub [true, true, true, true, false, false, false, true, true, true, true, true, false, true, false, true, false, false, false, false, false, false] rfl)
      · refine w_aload_n rfl rfl ?_
        refine w_iload rfl rfl ?_
        refine w_aload rfl rfl ?_
        refine w_iconst rfl (by decide) ?_
        refine w_iald rfl s_467 (n := 3) rfl (by decide) ?_
        refine w_callV (t' := 1) [(0, m 467 0), (0, l9)] [] rfl s_428 rfl rfl ?_
        refine w_C.more (Q := fun r2 m2 => _) h (fun r2 m2 h => ?_)
        replace h := id h
        exact w_W.less h (w_sub [true, true, true, true, false, false, false, true, true, true, true, true, false, true, false, true, false, false, false, false, false, false] rfl)
  · refine w_goto rfl ?_
    exact w_W.less h (w_sub [true, true, true, true, false, false, false, true, true, true, true, false, false, false, false, false, false, false, false, false, false, false] rfl)
theorem xr_m_entries1_494 {d : Nat} {l1 l2 l3 l8 l9 l10 l11 l13 l15 s0 : Int} {m : w_M} {Q : Int → w_M → Prop} (h : xc_m_unsigned d (w_32 (l9 + (m 467 0))) (m 467 1) m (fun r1 m1 => xc_m_unsigned d (w_32 ((w_32 (l9 + (m1 467 0))) + (m1 467 1))) (m1 467 2) m1 (fun r2 m2 => if 2 < s0 then (xc_m_fail d 3 l3 m2 (fun r3 m3 => Q 0 m3)) else (xc_m_tell d (w_32 ((w_32 l11) + l15)) (w_32 s0) r1 r2 m2 (fun r4 m4 => xp_m_entries1_436 d l1 l2 l3 l8 (w_32 (l9 + (w_32 ((w_32 ((m2 467 0) + (m2 467 1))) + (m2 467 2))))) l10 l11 l13 (w_32 (l15 + 1)) m4 Q))))) : xp_m_entries1_494 d l1 l2 l3 l8 l9 l10 l11 l13 l15 s0 m Q := by
  refine w_lstore (lv' := [some (2, 428), some (0, l1), some (0, l2), some (0, l3), none, none, none, some (2, 467), some (0, l8), some (0, l9), some (0, l10), some (1, l11), none, some (1, l13), none, some (0, l15), some (1, s0), none, none, none, none, none]) rfl rfl rfl ?_
  refine w_aload_n rfl rfl ?_
  refine w_iload rfl rfl ?_
  refine w_aload rfl rfl ?_
  refine w_iconst rfl (by decide) ?_
  refine w_iald rfl s_467 (n := 3) rfl (by decide) ?_
  refine w_iadd rfl ?_
  refine w_aload rfl rfl ?_
  refine w_iconst rfl (by decide) ?_
  refine w_iald rfl s_467 (n := 3) rfl (by decide) ?_
  refine w_callV (t' := 1) [(0, m 467 1), (0, w_32 (l9 + (m 467 0)))] [] rfl s_428 rfl rfl ?_
  refine w_C.more (Q := fun r1 m1 => _) h (fun r1 m1 h => ?_)
  replace h := id h
  refine w_lstore (lv' := [some (2, 428), some (0, l1), some (0, l2), some (0, l3), none, none, none, some (2, 467), some (0, l8), some (0, l9), some (0, l10), some (1, l11), none, some (1, l13), none, some (0, l15), some (1, s0), none, some (1, r1), none, none, none]) rfl rfl rfl ?_
  refine w_aload_n rfl rfl ?_
  refine w_iload rfl rfl ?_
  refine w_aload rfl rfl ?_
  refine w_iconst rfl (by decide) ?_
  refine w_iald rfl s_467 (n := 3) rfl (by decide) ?_
  refine w_iadd rfl ?_
  refine w_aload rfl rfl ?_
  refine w_iconst rfl (by decide) ?_
  refine w_iald rfl s_467 (n := 3) rfl (by decide) ?_
  refine w_iadd rfl ?_
  refine w_aload rfl rfl ?_
  refine w_iconst rfl (by decide) ?_
  refine w_iald rfl s_467 (n := 3) rfl (by decide) ?_
  refine w_callV (t' := 1) [(0, m1 467 2), (0, w_32 ((w_32 (l9 + (m1 467 0))) + (m1 467 1)))] [] rfl s_428 rfl rfl ?_
  refine w_C.more (Q := fun r2 m2 => _) h (fun r2 m2 h => ?_)
  replace h := id h
  refine w_lstore (lv' := [some (2, 428), some (0, l1), some (0, l2), some (0, l3), none, none, none, some (2, 467), some (0, l8), some (0, l9), some (0, l10), some (1, l11), none, some (1, l13), none, some (0, l15), some (1, s0), none, some (1, r1), none, some (1, r2), none]) rfl rfl rfl ?_
  refine w_iload rfl rfl ?_
  refine w_aload rfl rfl ?_
  refine w_iconst rfl (by decide) ?_
  refine w_iald rfl s_467 (n := 3) rfl (by decide) ?_
  refine w_aload rfl rfl ?_
  refine w_iconst rfl (by decide) ?_
  refine w_iald rfl s_467 (n := 3) rfl (by decide) ?_
  refine w_iadd rfl ?_
  refine w_aload rfl rfl ?_
  refine w_iconst rfl (by decide) ?_
  refine w_iald rfl s_467 (n := 3) rfl (by decide) ?_
  refine w_iadd rfl ?_
  refine w_iadd rfl ?_
  refine w_istore (lv' := [some (2, 428), some (0, l1), some (0, l2), some (0, l3), none, none, none, some (2, 467), some (0, l8), some (0, w_32 (l9 + (w_32 ((w_32 ((m2 467 0) + (m2 467 1))) + (m2 467 2))))), some (0, l10), some (1, l11), none, some (1, l13), none, some (0, l15), some (1, s0), none, some (1, r1), none, some (1, r2), none]) rfl rfl rfl ?_
  refine w_lload rfl rfl ?_
  refine w_ldc2 (a := 2) rfl (by decide +kernel) (by decide) ?_
  refine w_lcle rfl rfl (w_ite h (fun h => ?_) (fun h => ?_))
  · refine w_aload_n rfl rfl ?_
    refine w_iconst rfl (by decide) ?_
    refine w_iload_n rfl rfl ?_
    refine w_callV (t' := 3) [(0, l3), (0, 3)] [] rfl s_428 rfl rfl ?_
    refine w_C.more (Q := fun r3 m3 => _) h (fun r3 m3 h => ?_)
    replace h := id h
    exact w_vret rfl rfl h
  · refine w_aload_n rfl rfl ?_
    refine w_lload rfl rfl ?_
    refine w_l2i rfl ?_
    refine w_iload rfl rfl ?_
    refine w_iadd rfl ?_
    refine w_lload rfl rfl ?_
    refine w_l2i rfl ?_
    refine w_lload rfl rfl ?_
    refine w_lload rfl rfl ?_
    refine w_callV (t' := 3) [(1, r2), (1, r1), (0, w_32 s0), (0, w_32 ((w_32 l11) + l15))] [] rfl s_428 rfl rfl ?_
    refine w_C.more (Q := fun r4 m4 => _) h (fun r4 m4 h => ?_)
    replace h := id h
    refine w_iinc (lv' := [some (2, 428), some (0, l1), some (0, l2), some (0, l3), none, none, none, some (2, 467), some (0, l8), some (0, w_32 (l9 + (w_32 ((w_32 ((m2 467 0) + (m2 467 1))) + (m2 467 2))))), some (0, l10), some (1, l11), none, some (1, l13), none, some (0, w_32 (l15 + 1)), some (1, s0), none, some (1, r1), none, some (1, r2), none]) rfl rfl rfl rfl ?_
    refine w_goto rfl ?_
    exact w_W.less h (w_sub [true, true, true, true, false, false, false, true, true, true, true, true, false, true, false, true, false, false, false, false, false, false] rfl)
theorem xr_m_entries2 {d : Nat} {l1 l2 : Int} {m : w_M} {Q : Int → w_M → Prop} (h : ((0 : Int) ≤ l1 ∧ l1 < 40000) ∧ (xp_m_entries2_7 d l2 (m 436 l1) m Q)) : xc_m_entries2 (d + 1) l1 l2 m Q := by
  refine w_enter (q := 2) (lv := [some (2, 428), some (0, l1), some (0, l2), none, none]) rfl rfl rfl ?_
  refine w_aload_n rfl rfl ?_
  refine w_gfC (c := 436) rfl s_428 rfl rfl ?_
  refine w_iload_n rfl rfl ?_
  refine w_iald rfl s_436 (n := 40000) rfl h.1 ?_
  replace h := h.2
  refine w_istore_n (lv' := [some (2, 428), some (0, l1), some (0, l2), some (0, m 436 l1), none]) rfl rfl rfl ?_
  exact w_W.less h (w_sub [true, false, true, true, false] rfl)
theorem xr_m_entries2_7 {d : Nat} {l2 l3 : Int} {m : w_M} {Q : Int → w_M → Prop} (h : if l3 < 0 then (Q 0 m) else (((0 : Int) ≤ l3 ∧ l3 < 40000) ∧ (((0 : Int) ≤ l3 ∧ l3 < 40000) ∧ (xc_m_isText d (m 438 l3) (m 439 l3) 200 m (fun r1 m1 => if r1 = 0 then (((0 : Int) ≤ l3 ∧ l3 < 40000) ∧ (((0 : Int) ≤ l3 ∧ l3 < 40000) ∧ (xc_m_isText d (m1 438 l3) (m1 439 l3) 192 m1 (fun r2 m2 => if r2 = 0 then (((0 : Int) ≤ l3 ∧ l3 < 40000) ∧ (((0 : Int) ≤ l3 ∧ l3 < 40000) ∧ (xc_m_isText d (m2 438 l3) (m2 439 l3) 202 m2 (fun r3 m3 => if r3 = 0 then (if l2 = 0 then (xp_m_entries2_93 d l2 l3 m3 Q) else (xp_m_entries2_93 d l2 l3 m3 Q)) else (if l2 = 0 then (xp_m_entries2_93 d l2 l3 m3 Q) else (((0 : Int) ≤ l3 ∧ l3 < 40000) ∧ (xp_m_entries2_7 d l2 (m3 437 l3) m3 Q))))))) else (if l2 = 0 then (xp_m_entries2_93 d l2 l3 m2 Q) else (((0 : Int) ≤ l3 ∧ l3 < 40000) ∧ (xp_m_entries2_7 d l2 (m2 437 l3) m2 Q))))))) else (if l2 = 0 then (xp_m_entries2_93 d l2 l3 m1 Q) else (((0 : Int) ≤ l3 ∧ l3 < 40000) ∧ (xp_m_entries2_7 d l2 (m1 437 l3) m1 Q)))))))) : xp_m_entries2_7 d l2 l3 m Q := by
  refine w_iload_n rfl rfl ?_
  refine w_iflt rfl (w_ite h (fun h => ?_) (fun h => ?_))
  · exact w_vret rfl rfl h
  · refine w_aload_n rfl rfl ?_
    refine w_aload_n rfl rfl ?_
    refine w_gfC (c := 438) rfl s_428 rfl rfl ?_
    refine w_iload_n rfl rfl ?_
    refine w_iald rfl s_438 (n := 40000) rfl h.1 ?_
    replace h := h.2
    refine w_aload_n rfl rfl ?_
    refine w_gfC (c := 439) rfl s_428 rfl rfl ?_
    refine w_iload_n rfl rfl ?_
    refine w_iald rfl s_439 (n := 40000) rfl h.1 ?_
    replace h := h.2
    refine w_ldcwR rfl ?_
    refine w_callV (t' := 0) [(2, 200), (0, m 439 l3), (0, m 438 l3)] [] rfl s_428 rfl rfl ?_
    refine w_C.more (Q := fun r1 m1 => _) h (fun r1 m1 h => ?_)
    replace h := id h
    refine w_ifne rfl (w_ite h (fun h => ?_) (fun h => ?_))
    · refine w_aload_n rfl rfl ?_
      refine w_aload_n rfl rfl ?_
      refine w_gfC (c := 438) rfl s_428 rfl rfl ?_
      refine w_iload_n rfl rfl ?_
      refine w_iald rfl s_438 (n := 40000) rfl h.1 ?_
      replace h := h.2
      refine w_aload_n rfl rfl ?_
      refine w_gfC (c := 439) rfl s_428 rfl rfl ?_
      refine w_iload_n rfl rfl ?_
      refine w_iald rfl s_439 (n := 40000) rfl h.1 ?_
      replace h := h.2
      refine w_ldcwR rfl ?_
      refine w_callV (t' := 0) [(2, 192), (0, m1 439 l3), (0, m1 438 l3)] [] rfl s_428 rfl rfl ?_
      refine w_C.more (Q := fun r2 m2 => _) h (fun r2 m2 h => ?_)
      replace h := id h
      refine w_ifne rfl (w_ite h (fun h => ?_) (fun h => ?_))
      · refine w_aload_n rfl rfl ?_
        refine w_aload_n rfl rfl ?_
        refine w_gfC (c := 438) rfl s_428 rfl rfl ?_
        refine w_iload_n rfl rfl ?_
        refine w_iald rfl s_438 (n := 40000) rfl h.1 ?_
        replace h := h.2
        refine w_aload_n rfl rfl ?_
        refine w_gfC (c := 439) rfl s_428 rfl rfl ?_
        refine w_iload_n rfl rfl ?_
        refine w_iald rfl s_439 (n := 40000) rfl h.1 ?_
        replace h := h.2
        refine w_ldcwR rfl ?_
        refine w_callV (t' := 0) [(2, 202), (0, m2 439 l3), (0, m2 438 l3)] [] rfl s_428 rfl rfl ?_
        refine w_C.more (Q := fun r3 m3 => _) h (fun r3 m3 h => ?_)
        replace h := id h
        refine w_ifeq rfl (w_ite h (fun h => ?_) (fun h => ?_))
        · refine w_iconst rfl (by decide) ?_
          refine w_istore (lv' := [some (2, 428), none, some (0, l2), some (0, l3), some (0, 0)]) rfl rfl rfl ?_
          refine w_iload_n rfl rfl ?_
          refine w_ifeq rfl (w_ite h (fun h => ?_) (fun h => ?_))
          · exact w_W.less h (w_sub [true, false, true, true, false] rfl)
          · refine w_iload rfl rfl ?_
            refine w_ifne rfl (w_ift (by decide) ?_)
            exact w_W.less h (w_sub [true, false, true, true, false] rfl)
        · refine w_iconst rfl (by decide) ?_
          refine w_goto rfl ?_
          refine w_istore (lv' := [some (2, 428), none, some (0, l2), some (0, l3), some (0, 1)]) rfl rfl rfl ?_
          refine w_iload_n rfl rfl ?_
          refine w_ifeq rfl (w_ite h (fun h => ?_) (fun h => ?_))
          · exact w_W.less h (w_sub [true, false, true, true, false] rfl)
          · refine w_iload rfl rfl ?_
            refine w_ifne rfl (w_iff (by decide) ?_)
            refine w_aload_n rfl rfl ?_
            refine w_gfC (c := 437) rfl s_428 rfl rfl ?_
            refine w_iload_n rfl rfl ?_
            refine w_iald rfl s_437 (n := 40000) rfl h.1 ?_
            replace h := h.2
            refine w_istore_n (lv' := [some (2, 428), none, some (0, l2), some (0, m3 437 l3), some (0, 1)]) rfl rfl rfl ?_
            refine w_goto rfl ?_
            exact w_W.less h (w_sub [true, false, true, true, false] rfl)
      · refine w_iconst rfl (by decide) ?_
        refine w_goto rfl ?_
        refine w_istore (lv' := [some (2, 428), none, some (0, l2), some (0, l3), some (0, 1)]) rfl rfl rfl ?_
        refine w_iload_n rfl rfl ?_
        refine w_ifeq rfl (w_ite h (fun h => ?_) (fun h => ?_))
        · exact w_W.less h (w_sub [true, false, true, true, false] rfl)
        · refine w_iload rfl rfl ?_
          refine w_ifne rfl (w_iff (by decide) ?_)
          refine w_aload_n rfl rfl ?_
          refine w_gfC (c := 437) rfl s_428 rfl rfl ?_
          refine w_iload_n rfl rfl ?_
          refine w_iald rfl s_437 (n := 40000) rfl h.1 ?_
          replace h := h.2
          refine w_istore_n (lv' := [some (2, 428), none, some (0, l2), some (0, m2 437 l3), some (0, 1)]) rfl rfl rfl ?_
          refine w_goto rfl ?_
          exact w_W.less h (w_sub [true, false, true, true, false] rfl)
    · refine w_iconst rfl (by decide) ?_
      refine w_goto rfl ?_
      refine w_istore (lv' := [some (2, 428), none, some (0, l2), some (0, l3), some (0, 1)]) rfl rfl rfl ?_
      refine w_iload_n rfl rfl ?_
      refine w_ifeq rfl (w_ite h (fun h => ?_) (fun h => ?_))
      · exact w_W.less h (w_sub [true, false, true, true, false] rfl)
      · refine w_iload rfl rfl ?_
        refine w_ifne rfl (w_iff (by decide) ?_)
        refine w_aload_n rfl rfl ?_
        refine w_gfC (c := 437) rfl s_428 rfl rfl ?_
        refine w_iload_n rfl rfl ?_
        refine w_iald rfl s_437 (n := 40000) rfl h.1 ?_
        replace h := h.2
        refine w_istore_n (lv' := [some (2, 428), none, some (0, l2), some (0, m1 437 l3), some (0, 1)]) rfl rfl rfl ?_
        refine w_goto rfl ?_
        exact w_W.less h (w_sub [true, false, true, true, false] rfl)
theorem xr_m_entries2_93 {d : Nat} {l2 l3 : Int} {m : w_M} {Q : Int → w_M → Prop} (h : ((0 : Int) ≤ l3 ∧ l3 < 40000) ∧ (((0 : Int) ≤ l3 ∧ l3 < 40000) ∧ (xc_m_sayName d (m 438 l3) (m 439 l3) m (fun r1 m1 => xc_m_say d 32 m1 (fun r2 m2 => xc_m_write d l3 m2 (fun r3 m3 => xc_m_say d 32 m3 (fun r4 m4 => ((0 : Int) ≤ l3 ∧ l3 < 40000) ∧ (xp_m_entries2_7 d l2 (m4 437 l3) m4 Q)))))))) : xp_m_entries2_93 d l2 l3 m Q := by
  refine w_aload_n rfl rfl ?_
  refine w_aload_n rfl rfl ?_
  refine w_gfC (c := 438) rfl s_428 rfl rfl ?_
  refine w_iload_n rfl rfl ?_
  refine w_iald rfl s_438 (n := 40000) rfl h.1 ?_
  replace h := h.2
  refine w_aload_n rfl rfl ?_
  refine w_gfC (c := 439) rfl s_428 rfl rfl ?_
  refine w_iload_n rfl rfl ?_
  refine w_iald rfl s_439 (n := 40000) rfl h.1 ?_
  replace h := h.2
  refine w_callV (t' := 3) [(0, m 439 l3), (0, m 438 l3)] [] rfl s_428 rfl rfl ?_
  refine w_C.more (Q := fun r1 m1 => _) h (fun r1 m1 h => ?_)
  replace h := id h
  refine w_aload_n rfl rfl ?_
  refine w_bipush rfl (by decide) ?_
  refine w_callV (t' := 3) [(0, 32)] [] rfl s_428 rfl rfl ?_
  refine w_C.more (Q := fun r2 m2 => _) h (fun r2 m2 h => ?_)
  replace h := id h
  refine w_aload_n rfl rfl ?_
  refine w_iload_n rfl rfl ?_
  refine w_callV (t' := 3) [(0, l3)] [] rfl s_428 rfl rfl ?_
  refine w_C.more (Q := fun r3 m3 => _) h (fun r3 m3 h => ?_)
  replace h := id h
  refine w_aload_n rfl rfl ?_
  refine w_bipush rfl (by decide) ?_
  refine w_callV (t' := 3) [(0, 32)] [] rfl s_428 rfl rfl ?_
  refine w_C.more (Q := fun r4 m4 => _) h (fun r4 m4 h => ?_)
  replace h := id h
  refine w_aload_n rfl rfl ?_
  refine w_gfC (c := 437) rfl s_428 rfl rfl ?_
  refine w_iload_n rfl rfl ?_
  refine w_iald rfl s_437 (n := 40000) rfl h.1 ?_
  replace h := h.2
  refine w_istore_n (lv' := [some (2, 428), none, some (0, l2), some (0, m4 437 l3), none]) rfl rfl rfl ?_
  refine w_goto rfl ?_
  exact w_W.less h (w_sub [true, false, true, true, false] rfl)
theorem xr_m_entry {d : Nat} {l1 l2 : Int} {m : w_M} {Q : Int → w_M → Prop} (h : xc_m_rawEntry d l1 l2 m (fun r1 m1 => xc_m_resolve d r1 m1 (fun r2 m2 => Q r2 m2))) : xc_m_entry (d + 1) l1 l2 m Q := by
  refine w_enter (q := 0) (lv := [some (2, 428), some (0, l1), some (2, l2)]) rfl rfl rfl ?_
  refine w_aload_n rfl rfl ?_
  refine w_aload_n rfl rfl ?_
  refine w_iload_n rfl rfl ?_
  refine w_aload_n rfl rfl ?_
  refine w_callV (t' := 0) [(2, l2), (0, l1)] [(2, 428)] rfl s_428 rfl rfl ?_
  refine w_C.more (Q := fun r1 m1 => _) h (fun r1 m1 h => ?_)
  replace h := id h
  refine w_callV (t' := 0) [(0, r1)] [] rfl s_428 rfl rfl ?_
  refine w_C.more (Q := fun r2 m2 => _) h (fun r2 m2 h => ?_)
  replace h := id h
  exact w_iret rfl rfl h
theorem xr_m_entryTo {d : Nat} {l1 l2 l3 l4 l5 : Int} {m : w_M} {Q : Int → w_M → Prop} (h : xc_m_rawEntry d l1 l2 m (fun r1 m1 => if r1 < 0 then (xc_m_newNode d l3 l4 m1 (fun r2 m2 => xc_m_name d r2 l2 m2 (fun r3 m3 => xc_m_append d l1 r2 m3 (fun r4 m4 => xp_m_entryTo_36 d l3 l4 l5 r2 m4 Q)))) else (xp_m_entryTo_36 d l3 l4 l5 r1 m1 Q))) : xc_m_entryTo (d + 1) l1 l2 l3 l4 l5 m Q := by
  refine w_enter (q := 1) (lv := [some (2, 428), some (0, l1), some (2, l2), some (0, l3), some (0, l4), some (0, l5), none]) rfl rfl rfl ?_
  refine w_aload_n rfl rfl ?_
  refine w_iload_n rfl rfl ?_
  refine w_aload_n rfl rfl ?_
  refine w_callV (t' := 0) [(2, l2), (0, l1)] [] rfl s_428 rfl rfl ?_
  refine w_C.more (Q := fun r1 m1 => _) h (fun r1 m1 h => ?_)
  replace h := id h
  refine w_istore (lv' := [some (2, 428), some (0, l1), some (2, l2), some (0, l3), some (0, l4), some (0, l5), some (0, r1)]) rfl rfl rfl ?_
  refine w_iload rfl rfl ?_
  refine w_ifge rfl (w_ite h (fun h => ?_) (fun h => ?_))
  · refine w_aload_n rfl rfl ?_
    refine w_iload_n rfl rfl ?_
    refine w_iload rfl rfl ?_
    refine w_callV (t' := 0) [(0, l4), (0, l3)] [] rfl s_428 rfl rfl ?_
    refine w_C.more (Q := fun r2 m2 => _) h (fun r2 m2 h => ?_)
    replace h := id h
    refine w_istore (lv' := [some (2, 428), some (0, l1), some (2, l2), some (0, l3), some (0, l4), some (0, l5), some (0, r2)]) rfl rfl rfl ?_
    refine w_aload_n rfl rfl ?_
    refine w_iload rfl rfl ?_
    refine w_aload_n rfl rfl ?_
    refine w_callV (t' := 3) [(2, l2), (0, r2)] [] rfl s_428 rfl rfl ?_
    refine w_C.more (Q := fun r3 m3 => _) h (fun r3 m3 h => ?_)
    replace h := id h
    refine w_aload_n rfl rfl ?_
    refine w_iload_n rfl rfl ?_
    refine w_iload rfl rfl ?_
    refine w_callV (t' := 3) [(0, r2), (0, l1)] [] rfl s_428 rfl rfl ?_
    refine w_C.more (Q := fun r4 m4 => _) h (fun r4 m4 h => ?_)
    replace h := id h
    exact w_W.less h (w_sub [true, false, false, true, true, true, true] rfl)
  · exact w_W.less h (w_sub [true, false, false, true, true, true, true] rfl)
theorem xr_m_entryTo_36 {d : Nat} {l3 l4 l5 l6 : Int} {m : w_M} {Q : Int → w_M → Prop} (h : ((0 : Int) ≤ l6 ∧ l6 < 40000) ∧ (((0 : Int) ≤ l6 ∧ l6 < 40000) ∧ (((0 : Int) ≤ l6 ∧ l6 < 40000) ∧ (((0 : Int) ≤ l6 ∧ l6 < 40000) ∧ (((0 : Int) ≤ l6 ∧ l6 < 40000) ∧ (Q l6 (w_up (w_up (w_up (w_up (w_up m 432 l6 (w_8 (w_8 l3))) 433 l6 l4) 434 l6 l5) 435 l6 0) 436 l6 (-1)))))))) : xp_m_entryTo_36 d l3 l4 l5 l6 m Q := by
  refine w_aload_n rfl rfl ?_
  refine w_gfC (c := 432) rfl s_428 rfl rfl ?_
  refine w_iload rfl rfl ?_
  refine w_iload_n rfl rfl ?_
  refine w_i2b rfl ?_
  refine w_bast rfl s_432 (w_EM (by decide)) (n := 40000) rfl h.1 ?_
  replace h := h.2
  refine w_aload_n rfl rfl ?_
  refine w_gfC (c := 433) rfl s_428 rfl rfl ?_
  refine w_iload rfl rfl ?_
  refine w_iload rfl rfl ?_
  refine w_iast rfl s_433 (w_EM (by decide)) (n := 40000) rfl h.1 ?_
  replace h := h.2
  refine w_aload_n rfl rfl ?_
  refine w_gfC (c := 434) rfl s_428 rfl rfl ?_
  refine w_iload rfl rfl ?_
  refine w_iload rfl rfl ?_
  refine w_iast rfl s_434 (w_EM (by decide)) (n := 40000) rfl h.1 ?_
  replace h := h.2
  refine w_aload_n rfl rfl ?_
  refine w_gfC (c := 435) rfl s_428 rfl rfl ?_
  refine w_iload rfl rfl ?_
  refine w_iconst rfl (by decide) ?_
  refine w_iast rfl s_435 (w_EM (by decide)) (n := 40000) rfl h.1 ?_
  replace h := h.2
  refine w_aload_n rfl rfl ?_
  refine w_gfC (c := 436) rfl s_428 rfl rfl ?_
  refine w_iload rfl rfl ?_
  refine w_iconst rfl (by decide) ?_
  refine w_iast rfl s_436 (w_EM (by decide)) (n := 40000) rfl h.1 ?_
  replace h := h.2
  refine w_iload rfl rfl ?_
  exact w_iret rfl rfl h
theorem xr_m_escape {d : Nat} {m : w_M} {Q : Int → w_M → Prop} (h : xc_m_peek d 0 m (fun r1 m1 => if r1 < 0 then (Q 0 m1) else (if r1 < 48 then (xp_m_escape_92 d r1 m1 Q) else (if 55 < r1 then (xp_m_escape_92 d r1 m1 Q) else (xp_m_escape_27 d 0 0 m1 Q))))) : xc_m_escape (d + 1) m Q := by
  refine w_enter (q := 3) (lv := [some (2, 428), none, none, none]) rfl rfl rfl ?_
  refine w_aload_n rfl rfl ?_
  refine w_iconst rfl (by decide) ?_
  refine w_callV (t' := 0) [(0, 0)] [] rfl s_428 rfl rfl ?_
  refine w_C.more (Q := fun r1 m1 => _) h (fun r1 m1 h => ?_)
  replace h := id h
  refine w_istore_n (lv' := [some (2, 428), some (0, r1), none, none]) rfl rfl rfl ?_
  refine w_iload_n rfl rfl ?_
  refine w_ifge rfl (w_ite h (fun h => ?_) (fun h => ?_))
  · exact w_vret rfl rfl h
  · refine w_iload_n rfl rfl ?_
    refine w_bipush rfl (by decide) ?_
    refine w_iclt rfl (w_ite h (fun h => ?_) (fun h => ?_))
    · exact w_W.less h (w_sub [true, true, false, false] rfl)
    · refine w_iload_n rfl rfl ?_
      refine w_bipush rfl (by decide) ?_
      refine w_icgt rfl (w_ite h (fun h => ?_) (fun h => ?_))
      · exact w_W.less h (w_sub [true, true, false, false] rfl)
      · refine w_iconst rfl (by decide) ?_
        refine w_istore_n (lv' := [some (2, 428), some (0, r1), some (0, 0), none]) rfl rfl rfl ?_
        refine w_iconst rfl (by decide) ?_
        refine w_istore_n (lv' := [some (2, 428), some (0, r1), some (0, 0), some (0, 0)]) rfl rfl rfl ?_
        exact w_W.less h (w_sub [true, false, true, true] rfl)
theorem xr_m_escape_27 {d : Nat} {l2 l3 : Int} {m : w_M} {Q : Int → w_M → Prop} (h : if l3 < 3 then (xc_m_peek d 0 m (fun r1 m1 => if r1 < 48 then (xc_m_put1 d (l2 % 256) m1 (fun r2 m2 => Q 0 m2)) else (xc_m_peek d 0 m1 (fun r3 m3 => if 55 < r3 then (xc_m_put1 d (l2 % 256) m3 (fun r4 m4 => Q 0 m4)) else (xc_m_peek d 0 m3 (fun r5 m5 => xp_m_escape_27 d (w_32 ((w_32 ((w_32 (8 * l2)) + r5)) - 48)) (w_32 (l3 + 1)) (w_up m5 428 21 (w_32 ((m5 428 21) + 1))) Q)))))) else (xc_m_put1 d (l2 % 256) m (fun r6 m6 => Q 0 m6))) : xp_m_escape_27 d l2 l3 m Q := by
  refine w_iload_n rfl rfl ?_
  refine w_iconst rfl (by decide) ?_
  refine w_icge rfl (w_ite h (fun h => ?_) (fun h => ?_))
  · refine w_aload_n rfl rfl ?_
    refine w_iconst rfl (by decide) ?_
    refine w_callV (t' := 0) [(0, 0)] [] rfl s_428 rfl rfl ?_
    refine w_C.more (Q := fun r1 m1 => _) h (fun r1 m1 h => ?_)
    replace h := id h
    refine w_bipush rfl (by decide) ?_
    refine w_iclt rfl (w_ite h (fun h => ?_) (fun h => ?_))
    · refine w_aload_n rfl rfl ?_
      refine w_iload_n rfl rfl ?_
      refine w_sipush rfl (by decide) ?_
      refine w_iandm 8 (c := 256) rfl (by decide) rfl rfl ?_
      refine w_callV (t' := 3) [(0, l2 % 256)] [] rfl s_428 rfl rfl ?_
      refine w_C.more (Q := fun r2 m2 => _) h (fun r2 m2 h => ?_)
      replace h := id h
      exact w_vret rfl rfl h
    · refine w_aload_n rfl rfl ?_
      refine w_iconst rfl (by decide) ?_
      refine w_callV (t' := 0) [(0, 0)] [] rfl s_428 rfl rfl ?_
      refine w_C.more (Q := fun r3 m3 => _) h (fun r3 m3 h => ?_)
      replace h := id h
      refine w_bipush rfl (by decide) ?_
      refine w_icgt rfl (w_ite h (fun h => ?_) (fun h => ?_))
      · refine w_aload_n rfl rfl ?_
        refine w_iload_n rfl rfl ?_
        refine w_sipush rfl (by decide) ?_
        refine w_iandm 8 (c := 256) rfl (by decide) rfl rfl ?_
        refine w_callV (t' := 3) [(0, l2 % 256)] [] rfl s_428 rfl rfl ?_
        refine w_C.more (Q := fun r4 m4 => _) h (fun r4 m4 h => ?_)
        replace h := id h
        exact w_vret rfl rfl h
      · refine w_bipush rfl (by decide) ?_
        refine w_iload_n rfl rfl ?_
        refine w_imul rfl ?_
        refine w_aload_n rfl rfl ?_
        refine w_iconst rfl (by decide) ?_
        refine w_callV (t' := 0) [(0, 0)] [(0, w_32 (8 * l2))] rfl s_428 rfl rfl ?_
        refine w_C.more (Q := fun r5 m5 => _) h (fun r5 m5 h => ?_)
        replace h := id h
        refine w_iadd rfl ?_
        refine w_bipush rfl (by decide) ?_
        refine w_isub rfl ?_
        refine w_istore_n (lv' := [some (2, 428), none, some (0, w_32 ((w_32 ((w_32 (8 * l2)) + r5)) - 48)), some (0, l3)]) rfl rfl rfl ?_
        refine w_aload_n rfl rfl ?_
        refine w_dup rfl (show (2 : Nat) ≠ 1 by decide) ?_
        refine x_gfI rfl s_428 rfl (kk := 21) rfl rfl ?_
        refine w_iconst rfl (by decide) ?_
        refine w_iadd rfl ?_
        refine w_pfI rfl s_428 rfl (w_EM (by decide)) rfl (kk := 21) rfl ?_
        refine w_iinc (lv' := [some (2, 428), none, some (0, w_32 ((w_32 ((w_32 (8 * l2)) + r5)) - 48)), some (0, w_32 (l3 + 1))]) rfl rfl rfl rfl ?_
        refine w_goto rfl ?_
        exact w_W.less h (w_sub [true, false, true, true] rfl)
  · refine w_aload_n rfl rfl ?_
    refine w_iload_n rfl rfl ?_
    refine w_sipush rfl (by decide) ?_
    refine w_iandm 8 (c := 256) rfl (by decide) rfl rfl ?_
    refine w_callV (t' := 3) [(0, l2 % 256)] [] rfl s_428 rfl rfl ?_
    refine w_C.more (Q := fun r6 m6 => _) h (fun r6 m6 h => ?_)
    replace h := id h
    exact w_vret rfl rfl h
theorem xr_m_escape_92 {d : Nat} {l1 : Int} {m : w_M} {Q : Int → w_M → Prop} (h : if l1 = 110 then (xp_m_escape_170 d l1 10 m Q) else (if l1 = 114 then (xp_m_escape_170 d l1 13 m Q) else (if l1 = 116 then (xp_m_escape_170 d l1 9 m Q) else (if l1 = 98 then (xp_m_escape_170 d l1 8 m Q) else (if l1 = 102 then (xp_m_escape_170 d l1 12 m Q) else (if l1 = 40 then (xp_m_escape_170 d l1 l1 m Q) else (if l1 = 41 then (xp_m_escape_170 d l1 l1 m Q) else (if l1 = 92 then (xp_m_escape_170 d l1 l1 m Q) else (xp_m_escape_170 d l1 (-1) m Q))))))))) : xp_m_escape_92 d l1 m Q := by
  refine w_iload_n rfl rfl ?_
  refine w_bipush rfl (by decide) ?_
  refine w_icne rfl (w_ite h (fun h => ?_) (fun h => ?_))
  · refine w_bipush rfl (by decide) ?_
    refine w_goto rfl ?_
    exact w_W.less h (w_sub [true, true, false, false] rfl)
  · refine w_iload_n rfl rfl ?_
    refine w_bipush rfl (by decide) ?_
    refine w_icne rfl (w_ite h (fun h => ?_) (fun h => ?_))
    · refine w_bipush rfl (by decide) ?_
      refine w_goto rfl ?_
      exact w_W.less h (w_sub [true, true, false, false] rfl)
    · refine w_iload_n rfl rfl ?_
      refine w_bipush rfl (by decide) ?_
      refine w_icne rfl (w_ite h (fun h => ?_) (fun h => ?_))
      · refine w_bipush rfl (by decide) ?_
        refine w_goto rfl ?_
        exact w_W.less h (w_sub [true, true, false, false] rfl)
      · refine w_iload_n rfl rfl ?_
        refine w_bipush rfl (by decide) ?_
        refine w_icne rfl (w_ite h (fun h => ?_) (fun h => ?_))
        · refine w_bipush rfl (by decide) ?_
          refine w_goto rfl ?_
          exact w_W.less h (w_sub [true, true, false, false] rfl)
        · refine w_iload_n rfl rfl ?_
          refine w_bipush rfl (by decide) ?_
          refine w_icne rfl (w_ite h (fun h => ?_) (fun h => ?_))
          · refine w_bipush rfl (by decide) ?_
            refine w_goto rfl ?_
            exact w_W.less h (w_sub [true, true, false, false] rfl)
          · refine w_iload_n rfl rfl ?_
            refine w_bipush rfl (by decide) ?_
            refine w_iceq rfl (w_ite h (fun h => ?_) (fun h => ?_))
            · refine w_iload_n rfl rfl ?_
              refine w_goto rfl ?_
              exact w_W.less h (w_sub [true, true, false, false] rfl)
            · refine w_iload_n rfl rfl ?_
              refine w_bipush rfl (by decide) ?_
              refine w_iceq rfl (w_ite h (fun h => ?_) (fun h => ?_))
              · refine w_iload_n rfl rfl ?_
                refine w_goto rfl ?_
                exact w_W.less h (w_sub [true, true, false, false] rfl)
              · refine w_iload_n rfl rfl ?_
                refine w_bipush rfl (by decide) ?_
                refine w_icne rfl (w_ite h (fun h => ?_) (fun h => ?_))
                · refine w_iload_n rfl rfl ?_
                  refine w_goto rfl ?_
                  exact w_W.less h (w_sub [true, true, false, false] rfl)
                · refine w_iconst rfl (by decide) ?_
                  exact w_W.less h (w_sub [true, true, false, false] rfl)
theorem xr_m_escape_170 {d : Nat} {l1 s0 : Int} {m : w_M} {Q : Int → w_M → Prop} (h : if s0 < 0 then (if l1 = 13 then (xc_m_peek d 1 m (fun r1 m1 => if r1 = 10 then (Q 0 (w_up m1 428 21 (w_32 ((m 428 21) + 2)))) else (Q 0 (w_up m1 428 21 (w_32 ((m 428 21) + 1)))))) else (if l1 = 10 then (Q 0 (w_up m 428 21 (w_32 ((m 428 21) + 1)))) else (Q 0 m))) else (xc_m_put1 d s0 m (fun r2 m2 => Q 0 (w_up m2 428 21 (w_32 ((m2 428 21) + 1)))))) : xp_m_escape_170 d l1 s0 m Q := by
  refine w_istore_n (lv' := [some (2, 428), some (0, l1), some (0, s0), none]) rfl rfl rfl ?_
  refine w_iload_n rfl rfl ?_
  refine w_iflt rfl (w_ite h (fun h => ?_) (fun h => ?_))
  · refine w_iload_n rfl rfl ?_
    refine w_bipush rfl (by decide) ?_
    refine w_icne rfl (w_ite h (fun h => ?_) (fun h => ?_))
    · refine w_aload_n rfl rfl ?_
      refine w_dup rfl (show (2 : Nat) ≠ 1 by decide) ?_
      refine x_gfI rfl s_428 rfl (kk := 21) rfl rfl ?_
      refine w_aload_n rfl rfl ?_
      refine w_iconst rfl (by decide) ?_
      refine w_callV (t' := 0) [(0, 1)] [(0, m 428 21), (2, 428)] rfl s_428 rfl rfl ?_
      refine w_C.more (Q := fun r1 m1 => _) h (fun r1 m1 h => ?_)
      replace h := id h
      refine w_bipush rfl (by decide) ?_
      refine w_icne rfl (w_ite h (fun h => ?_) (fun h => ?_))
      · refine w_iconst rfl (by decide) ?_
        refine w_goto rfl ?_
        refine w_iadd rfl ?_
        refine w_pfI rfl s_428 rfl (w_EM (by decide)) rfl (kk := 21) rfl ?_
        refine w_goto rfl ?_
        exact w_vret rfl rfl h
      · refine w_iconst rfl (by decide) ?_
        refine w_iadd rfl ?_
        refine w_pfI rfl s_428 rfl (w_EM (by decide)) rfl (kk := 21) rfl ?_
        refine w_goto rfl ?_
        exact w_vret rfl rfl h
    · refine w_iload_n rfl rfl ?_
      refine w_bipush rfl (by decide) ?_
      refine w_icne rfl (w_ite h (fun h => ?_) (fun h => ?_))
      · refine w_aload_n rfl rfl ?_
        refine w_dup rfl (show (2 : Nat) ≠ 1 by decide) ?_
        refine x_gfI rfl s_428 rfl (kk := 21) rfl rfl ?_
        refine w_iconst rfl (by decide) ?_
        refine w_iadd rfl ?_
        refine w_pfI rfl s_428 rfl (w_EM (by decide)) rfl (kk := 21) rfl ?_
        exact w_vret rfl rfl h
      · exact w_vret rfl rfl h
  · refine w_aload_n rfl rfl ?_
    refine w_iload_n rfl rfl ?_
    refine w_callV (t' := 3) [(0, s0)] [] rfl s_428 rfl rfl ?_
    refine w_C.more (Q := fun r2 m2 => _) h (fun r2 m2 h => ?_)
    replace h := id h
    refine w_aload_n rfl rfl ?_
    refine w_dup rfl (show (2 : Nat) ≠ 1 by decide) ?_
    refine x_gfI rfl s_428 rfl (kk := 21) rfl rfl ?_
    refine w_iconst rfl (by decide) ?_
    refine w_iadd rfl ?_
    refine w_pfI rfl s_428 rfl (w_EM (by decide)) rfl (kk := 21) rfl ?_
    refine w_goto rfl ?_
    exact w_vret rfl rfl h
theorem xr_m_extraOf {d : Nat} {l0 : Int} {m : w_M} {Q : Int → w_M → Prop} (h : if l0 < 8 then (Q 0 m) else (if l0 = 28 then (Q 0 m) else (Q (w_32 ((Int.tdiv l0 4) - 1)) m))) : xc_m_extraOf (d + 1) l0 m Q := by
  refine w_enter (q := 0) (lv := [some (0, l0)]) rfl rfl rfl ?_
  refine w_iload_n rfl rfl ?_
  refine w_bipush rfl (by decide) ?_
  refine w_iclt rfl (w_ite h (fun h => ?_) (fun h => ?_))
  · refine w_iconst rfl (by decide) ?_
    refine w_goto rfl ?_
    exact w_iret rfl rfl h
  · refine w_iload_n rfl rfl ?_
    refine w_bipush rfl (by decide) ?_
    refine w_icne rfl (w_ite h (fun h => ?_) (fun h => ?_))
    · refine w_iconst rfl (by decide) ?_
      refine w_goto rfl ?_
      exact w_iret rfl rfl h
    · refine w_iload_n rfl rfl ?_
      refine w_iconst rfl (by decide) ?_
      refine w_idivk rfl (by decide) ?_
      refine w_iconst rfl (by decide) ?_
      refine w_isub rfl ?_
      exact w_iret rfl rfl h
theorem xr_m_fail {d : Nat} {l1 l2 : Int} {m : w_M} {Q : Int → w_M → Prop} (h : if (m 428 27) = 0 then (Q 0 (w_up (w_up m 428 27 l1) 428 28 l2)) else (Q 0 m)) : xc_m_fail (d + 1) l1 l2 m Q := by
  refine w_enter (q := 0) (lv := [some (2, 428), some (0, l1), some (0, l2)]) rfl rfl rfl ?_
  refine w_aload_n rfl rfl ?_
  refine x_gfI rfl s_428 rfl (kk := 27) rfl rfl ?_
  refine w_ifne rfl (w_ite h (fun h => ?_) (fun h => ?_))
  · refine w_aload_n rfl rfl ?_
    refine w_iload_n rfl rfl ?_
    refine w_pfI rfl s_428 rfl (w_EM (by decide)) rfl (kk := 27) rfl ?_
    refine w_aload_n rfl rfl ?_
    refine w_iload_n rfl rfl ?_
    refine w_pfI rfl s_428 rfl (w_EM (by decide)) rfl (kk := 28) rfl ?_
    exact w_vret rfl rfl h
  · exact w_vret rfl rfl h
theorem xr_m_farExtra {d : Nat} {l0 : Int} {m : w_M} {Q : Int → w_M → Prop} (h : if l0 < 4 then (Q 0 m) else (Q (w_32 ((Int.tdiv l0 2) - 1)) m)) : xc_m_farExtra (d + 1) l0 m Q := by
  refine w_enter (q := 0) (lv := [some (0, l0)]) rfl rfl rfl ?_
  refine w_iload_n rfl rfl ?_
  refine w_iconst rfl (by decide) ?_
  refine w_icge rfl (w_ite h (fun h => ?_) (fun h => ?_))
  · refine w_iconst rfl (by decide) ?_
    refine w_goto rfl ?_
    exact w_iret rfl rfl h
  · refine w_iload_n rfl rfl ?_
    refine w_iconst rfl (by decide) ?_
    refine w_idivk rfl (by decide) ?_
    refine w_iconst rfl (by decide) ?_
    refine w_isub rfl ?_
    exact w_iret rfl rfl h
theorem xr_m_fault {d : Nat} {l1 : Int} {m : w_M} {Q : Int → w_M → Prop} (h : if l1 = 0 then (Q (m 428 68) m) else (if l1 = 1 then (Q (m 428 69) m) else (if l1 = 2 then (Q (m 428 70) m) else (if l1 = 3 then (Q (m 428 71) m) else (Q (-1) m))))) : xc_m_fault (d + 1) l1 m Q := by
  refine w_enter (q := 0) (lv := [some (2, 428), some (0, l1)]) rfl rfl rfl ?_
  refine w_iload_n rfl rfl ?_
  refine w_ifne rfl (w_ite h (fun h => ?_) (fun h => ?_))
  · refine w_aload_n rfl rfl ?_
    refine x_gfI rfl s_428 rfl (kk := 68) rfl rfl ?_
    refine w_goto rfl ?_
    exact w_iret rfl rfl h
  · refine w_iload_n rfl rfl ?_
    refine w_iconst rfl (by decide) ?_
    refine w_icne rfl (w_ite h (fun h => ?_) (fun h => ?_))
    · refine w_aload_n rfl rfl ?_
      refine x_gfI rfl s_428 rfl (kk := 69) rfl rfl ?_
      refine w_goto rfl ?_
      exact w_iret rfl rfl h
    · refine w_iload_n rfl rfl ?_
      refine w_iconst rfl (by decide) ?_
      refine w_icne rfl (w_ite h (fun h => ?_) (fun h => ?_))
      · refine w_aload_n rfl rfl ?_
        refine x_gfI rfl s_428 rfl (kk := 70) rfl rfl ?_
        refine w_goto rfl ?_
        exact w_iret rfl rfl h
      · refine w_iload_n rfl rfl ?_
        refine w_iconst rfl (by decide) ?_
        refine w_icne rfl (w_ite h (fun h => ?_) (fun h => ?_))
        · refine w_aload_n rfl rfl ?_
          refine x_gfI rfl s_428 rfl (kk := 71) rfl rfl ?_
          refine w_goto rfl ?_
          exact w_iret rfl rfl h
        · refine w_iconst rfl (by decide) ?_
          exact w_iret rfl rfl h
theorem xr_m_feed {d : Nat} {l1 l2 l3 l4 l5 : Int} {m : w_M} {Q : Int → w_M → Prop} (h : if 8000 < (w_32 ((m 428 1) + 20)) then (Q (-1) m) else (xc_m_lay d l1 m (fun r1 m1 => xc_m_lay d l2 m1 (fun r2 m2 => xc_m_lay d l3 m2 (fun r3 m3 => xc_m_lay d l4 m3 (fun r4 m4 => xc_m_lay d l5 m4 (fun r5 m5 => Q (m5 428 1) m5))))))) : xc_m_feed (d + 1) l1 l2 l3 l4 l5 m Q := by
  refine w_enter (q := 0) (lv := [some (2, 428), some (0, l1), some (0, l2), some (0, l3), some (0, l4), some (0, l5)]) rfl rfl rfl ?_
  refine w_aload_n rfl rfl ?_
  refine x_gfI rfl s_428 rfl (kk := 1) rfl rfl ?_
  refine w_bipush rfl (by decide) ?_
  refine w_iadd rfl ?_
  refine w_sipush rfl (by decide) ?_
  refine w_icle rfl (w_ite h (fun h => ?_) (fun h => ?_))
  · refine w_iconst rfl (by decide) ?_
    exact w_iret rfl rfl h
  · refine w_aload_n rfl rfl ?_
    refine w_iload_n rfl rfl ?_
    refine w_callV (t' := 3) [(0, l1)] [] rfl s_428 rfl rfl ?_
    refine w_C.more (Q := fun r1 m1 => _) h (fun r1 m1 h => ?_)
    replace h := id h
    refine w_aload_n rfl rfl ?_
    refine w_iload_n rfl rfl ?_
    refine w_callV (t' := 3) [(0, l2)] [] rfl s_428 rfl rfl ?_
    refine w_C.more (Q := fun r2 m2 => _) h (fun r2 m2 h => ?_)
    replace h := id h
    refine w_aload_n rfl rfl ?_
    refine w_iload_n rfl rfl ?_
    refine w_callV (t' := 3) [(0, l3)] [] rfl s_428 rfl rfl ?_
    refine w_C.more (Q := fun r3 m3 => _) h (fun r3 m3 h => ?_)
    replace h := id h
    refine w_aload_n rfl rfl ?_
    refine w_iload rfl rfl ?_
    refine w_callV (t' := 3) [(0, l4)] [] rfl s_428 rfl rfl ?_
    refine w_C.more (Q := fun r4 m4 => _) h (fun r4 m4 h => ?_)
    replace h := id h
    refine w_aload_n rfl rfl ?_
    refine w_iload rfl rfl ?_
    refine w_callV (t' := 3) [(0, l5)] [] rfl s_428 rfl rfl ?_
    refine w_C.more (Q := fun r5 m5 => _) h (fun r5 m5 h => ?_)
    replace h := id h
    refine w_aload_n rfl rfl ?_
    refine x_gfI rfl s_428 rfl (kk := 1) rfl rfl ?_
    exact w_iret rfl rfl h
theorem xr_m_filters {d : Nat} {l1 l2 l3 : Int} {m : w_M} {Q : Int → w_M → Prop} (h : ((0 : Int) ≤ l2 ∧ l2 < 40000) ∧ (if (m 432 l2) = 4 then (((0 : Int) ≤ l2 ∧ l2 < 40000) ∧ (if (m 432 l2) = 4 then (xp_m_filters_58 d l1 l2 l3 1 1 m Q) else (((0 : Int) ≤ l2 ∧ l2 < 40000) ∧ (xp_m_filters_58 d l1 l2 l3 1 (m 435 l2) m Q)))) else (((0 : Int) ≤ l2 ∧ l2 < 40000) ∧ (if (m 432 l2) = 6 then (((0 : Int) ≤ l2 ∧ l2 < 40000) ∧ (if 3 < (m 435 l2) then (((0 : Int) ≤ l2 ∧ l2 < 40000) ∧ (if (m 432 l2) = 4 then (xp_m_filters_58 d l1 l2 l3 0 1 m Q) else (((0 : Int) ≤ l2 ∧ l2 < 40000) ∧ (xp_m_filters_58 d l1 l2 l3 0 (m 435 l2) m Q)))) else (((0 : Int) ≤ l2 ∧ l2 < 40000) ∧ (if (m 432 l2) = 4 then (xp_m_filters_58 d l1 l2 l3 1 1 m Q) else (((0 : Int) ≤ l2 ∧ l2 < 40000) ∧ (xp_m_filters_58 d l1 l2 l3 1 (m 435 l2) m Q)))))) else (((0 : Int) ≤ l2 ∧ l2 < 40000) ∧ (if (m 432 l2) = 4 then (xp_m_filters_58 d l1 l2 l3 0 1 m Q) else (((0 : Int) ≤ l2 ∧ l2 < 40000) ∧ (xp_m_filters_58 d l1 l2 l3 0 (m 435 l2) m Q)))))))) : xc_m_filters (d + 1) l1 l2 l3 m Q := by
  refine w_enter (q := 10) (lv := [some (2, 428), some (0, l1), some (0, l2), some (0, l3), none, none, none, none, none, none, none, none, none, none]) rfl rfl rfl ?_
  refine w_aload_n rfl rfl ?_
  refine w_gfC (c := 432) rfl s_428 rfl rfl ?_
  refine w_iload_n rfl rfl ?_
  refine w_bald rfl s_432 (n := 40000) rfl h.1 ?_
  replace h := h.2
  refine w_iconst rfl (by decide) ?_
  refine w_iceq rfl (w_ite h (fun h => ?_) (fun h => ?_))
  · refine w_iconst rfl (by decide) ?_
    refine w_goto rfl ?_
    refine w_istore (lv' := [some (2, 428), some (0, l1), some (0, l2), some (0, l3), some (0, 1), none, none, none, none, none, none, none, none, none]) rfl rfl rfl ?_
    refine w_aload_n rfl rfl ?_
    refine w_gfC (c := 432) rfl s_428 rfl rfl ?_
    refine w_iload_n rfl rfl ?_
    refine w_bald rfl s_432 (n := 40000) rfl h.1 ?_
    replace h := h.2
    refine w_iconst rfl (by decide) ?_
    refine w_icne rfl (w_ite h (fun h => ?_) (fun h => ?_))
    · refine w_iconst rfl (by decide) ?_
      refine w_goto rfl ?_
      exact w_W.less h (w_sub [true, true, true, true, true, false, false, false, false, false, false, false, false, false] rfl)
    · refine w_aload_n rfl rfl ?_
      refine w_gfC (c := 435) rfl s_428 rfl rfl ?_
      refine w_iload_n rfl rfl ?_
      refine w_iald rfl s_435 (n := 40000) rfl h.1 ?_
      replace h := h.2
      exact w_W.less h (w_sub [true, true, true, true, true, false, false, false, false, false, false, false, false, false] rfl)
  · refine w_aload_n rfl rfl ?_
    refine w_gfC (c := 432) rfl s_428 rfl rfl ?_
    refine w_iload_n rfl rfl ?_
    refine w_bald rfl s_432 (n := 40000) rfl h.1 ?_
    replace h := h.2
    refine w_bipush rfl (by decide) ?_
    refine w_icne rfl (w_ite h (fun h => ?_) (fun h => ?_))
    · refine w_aload_n rfl rfl ?_
      refine w_gfC (c := 435) rfl s_428 rfl rfl ?_
      refine w_iload_n rfl rfl ?_
      refine w_iald rfl s_435 (n := 40000) rfl h.1 ?_
      replace h := h.2
      refine w_iconst rfl (by decide) ?_
      refine w_icgt rfl (w_ite h (fun h => ?_) (fun h => ?_))
      · refine w_iconst rfl (by decide) ?_
        refine w_istore (lv' := [some (2, 428), some (0, l1), some (0, l2), some (0, l3), some (0, 0), none, none, none, none, none, none, none, none, none]) rfl rfl rfl ?_
        refine w_aload_n rfl rfl ?_
        refine w_gfC (c := 432) rfl s_428 rfl rfl ?_
        refine w_iload_n rfl rfl ?_
        refine w_bald rfl s_432 (n := 40000) rfl h.1 ?_
        replace h := h.2
        refine w_iconst rfl (by decide) ?_
        refine w_icne rfl (w_ite h (fun h => ?_) (fun h => ?_))
        · refine w_iconst rfl (by decide) ?_
          refine w_goto rfl ?_
          exact w_W.less h (w_sub [true, true, true, true, true, false, false, false, false, false, false, false, false, false] rfl)
        · refine w_aload_n rfl rfl ?_
          refine w_gfC (c := 435) rfl s_428 rfl rfl ?_
          refine w_iload_n rfl rfl ?_
          refine w_iald rfl s_435 (n := 40000) rfl h.1 ?_
          replace h := h.2
          exact w_W.less h (w_sub [true, true, true, true, true, false, false, false, false, false, false, false, false, false] rfl)
      · refine w_iconst rfl (by decide) ?_
        refine w_goto rfl ?_
        refine w_istore (lv' := [some (2, 428), some (0, l1), some (0, l2), some (0, l3), some (0, 1), none, none, none, none, none, none, none, none, none]) rfl rfl rfl ?_
        refine w_aload_n rfl rfl ?_
        refine w_gfC (c := 432) rfl s_428 rfl rfl ?_
        refine w_iload_n rfl rfl ?_
        refine w_bald rfl s_432 (n := 40000) rfl h.1 ?_
        replace h := h.2
        refine w_iconst rfl (by decide) ?_
        refine w_icne rfl (w_ite h (fun h => ?_) (fun h => ?_))
        · refine w_iconst rfl (by decide) ?_
          refine w_goto rfl ?_
          exact w_W.less h (w_sub [true, true, true, true, true, false, false, false, false, false, false, false, false, false] rfl)
        · refine w_aload_n rfl rfl ?_
          refine w_gfC (c := 435) rfl s_428 rfl rfl ?_
          refine w_iload_n rfl rfl ?_
          refine w_iald rfl s_435 (n := 40000) rfl h.1 ?_
          replace h := h.2
          exact w_W.less h (w_sub [true, true, true, true, true, false, false, false, false, false, false, false, false, false] rfl)
    · refine w_iconst rfl (by decide) ?_
      refine w_istore (lv' := [some (2, 428), some (0, l1), some (0, l2), some (0, l3), some (0, 0), none, none, none, none, none, none, none, none, none]) rfl rfl rfl ?_
      refine w_aload_n rfl rfl ?_
      refine w_gfC (c := 432) rfl s_428 rfl rfl ?_
      refine w_iload_n rfl rfl ?_
      refine w_bald rfl s_432 (n := 40000) rfl h.1 ?_
      replace h := h.2
      refine w_iconst rfl (by decide) ?_
      refine w_icne rfl (w_ite h (fun h => ?_) (fun h => ?_))
      · refine w_iconst rfl (by decide) ?_
        refine w_goto rfl ?_
        exact w_W.less h (w_sub [true, true, true, true, true, false, false, false, false, false, false, false, false, false] rfl)
      · refine w_aload_n rfl rfl ?_
        refine w_gfC (c := 435) rfl s_428 rfl rfl ?_
        refine w_iload_n rfl rfl ?_
        refine w_iald rfl s_435 (n := 40000) rfl h.1 ?_
        replace h := h.2
        exact w_W.less h (w_sub [true, true, true, true, true, false, false, false, false, false, false, false, false, false] rfl)
theorem xr_m_filters_58 {d : Nat} {l1 l2 l3 l4 s0 : Int} {m : w_M} {Q : Int → w_M → Prop} (h : ((0 : Int) ≤ l2 ∧ l2 < 40000) ∧ (if (m 432 l2) = 4 then (xp_m_filters_89 d l1 l3 l4 s0 l2 l2 0 m Q) else (((0 : Int) ≤ l2 ∧ l2 < 40000) ∧ (xp_m_filters_89 d l1 l3 l4 s0 (m 436 l2) (m 436 l2) 0 m Q)))) : xp_m_filters_58 d l1 l2 l3 l4 s0 m Q := by
  refine w_istore (lv' := [some (2, 428), some (0, l1), some (0, l2), some (0, l3), some (0, l4), some (0, s0), none, none, none, none, none, none, none, none]) rfl rfl rfl ?_
  refine w_aload_n rfl rfl ?_
  refine w_gfC (c := 432) rfl s_428 rfl rfl ?_
  refine w_iload_n rfl rfl ?_
  refine w_bald rfl s_432 (n := 40000) rfl h.1 ?_
  replace h := h.2
  refine w_iconst rfl (by decide) ?_
  refine w_icne rfl (w_ite h (fun h => ?_) (fun h => ?_))
  · refine w_iload_n rfl rfl ?_
    refine w_goto rfl ?_
    refine w_istore (lv' := [some (2, 428), some (0, l1), some (0, l2), some (0, l3), some (0, l4), some (0, s0), some (0, l2), none, none, none, none, none, none, none]) rfl rfl rfl ?_
    refine w_iload rfl rfl ?_
    refine w_istore (lv' := [some (2, 428), some (0, l1), some (0, l2), some (0, l3), some (0, l4), some (0, s0), some (0, l2), some (0, l2), none, none, none, none, none, none]) rfl rfl rfl ?_
    refine w_iconst rfl (by decide) ?_
    refine w_istore (lv' := [some (2, 428), some (0, l1), some (0, l2), some (0, l3), some (0, l4), some (0, s0), some (0, l2), some (0, l2), some (0, 0), none, none, none, none, none]) rfl rfl rfl ?_
    exact w_W.less h (w_sub [true, true, false, true, true, true, true, true, true, false, false, false, false, false] rfl)
  · refine w_aload_n rfl rfl ?_
    refine w_gfC (c := 436) rfl s_428 rfl rfl ?_
    refine w_iload_n rfl rfl ?_
    refine w_iald rfl s_436 (n := 40000) rfl h.1 ?_
    replace h := h.2
    refine w_istore (lv' := [some (2, 428), some (0, l1), some (0, l2), some (0, l3), some (0, l4), some (0, s0), some (0, m 436 l2), none, none, none, none, none, none, none]) rfl rfl rfl ?_
    refine w_iload rfl rfl ?_
    refine w_istore (lv' := [some (2, 428), some (0, l1), some (0, l2), some (0, l3), some (0, l4), some (0, s0), some (0, m 436 l2), some (0, m 436 l2), none, none, none, none, none, none]) rfl rfl rfl ?_
    refine w_iconst rfl (by decide) ?_
    refine w_istore (lv' := [some (2, 428), some (0, l1), some (0, l2), some (0, l3), some (0, l4), some (0, s0), some (0, m 436 l2), some (0, m 436 l2), some (0, 0), none, none, none, none, none]) rfl rfl rfl ?_
    exact w_W.less h (w_sub [true, true, false, true, true, true, true, true, true, false, false, false, false, false] rfl)
theorem xr_m_filters_89 {d : Nat} {l1 l3 l4 l5 l6 l7 l8 : Int} {m : w_M} {Q : Int → w_M → Prop} (h : if l8 < l5 then (if l4 = 0 then (xp_m_filters_147 d l1 l3 l4 l5 l6 m Q) else (xc_m_isName d l7 204 m (fun r1 m1 => if r1 = 0 then (xc_m_isName d l7 206 m1 (fun r2 m2 => if r2 = 0 then (((0 : Int) ≤ l7 ∧ l7 < 40000) ∧ (xp_m_filters_89 d l1 l3 0 l5 l6 (m2 437 l7) (w_32 (l8 + 1)) m2 Q)) else (((0 : Int) ≤ l7 ∧ l7 < 40000) ∧ (xp_m_filters_89 d l1 l3 1 l5 l6 (m2 437 l7) (w_32 (l8 + 1)) m2 Q)))) else (((0 : Int) ≤ l7 ∧ l7 < 40000) ∧ (xp_m_filters_89 d l1 l3 1 l5 l6 (m1 437 l7) (w_32 (l8 + 1)) m1 Q))))) else (xp_m_filters_147 d l1 l3 l4 l5 l6 m Q)) : xp_m_filters_89 d l1 l3 l4 l5 l6 l7 l8 m Q := by
  refine w_iload rfl rfl ?_
  refine w_iload rfl rfl ?_
  refine w_icge rfl (w_ite h (fun h => ?_) (fun h => ?_))
  · refine w_iload rfl rfl ?_
    refine w_ifeq rfl (w_ite h (fun h => ?_) (fun h => ?_))
    · exact w_W.less h (w_sub [true, true, false, true, true, true, true, false, false, false, false, false, false, false] rfl)
    · refine w_aload_n rfl rfl ?_
      refine w_iload rfl rfl ?_
      refine w_ldcwR rfl ?_
      refine w_callV (t' := 0) [(2, 204), (0, l7)] [] rfl s_428 rfl rfl ?_
      refine w_C.more (Q := fun r1 m1 => _) h (fun r1 m1 h => ?_)
      replace h := id h
      refine w_ifne rfl (w_ite h (fun h => ?_) (fun h => ?_))
      · refine w_aload_n rfl rfl ?_
        refine w_iload rfl rfl ?_
        refine w_ldcwR rfl ?_
        refine w_callV (t' := 0) [(2, 206), (0, l7)] [] rfl s_428 rfl rfl ?_
        refine w_C.more (Q := fun r2 m2 => _) h (fun r2 m2 h => ?_)
        replace h := id h
        refine w_ifeq rfl (w_ite h (fun h => ?_) (fun h => ?_))
        · refine w_iconst rfl (by decide) ?_
          refine w_istore (lv' := [some (2, 428), some (0, l1), none, some (0, l3), some (0, 0), some (0, l5), some (0, l6), some (0, l7), some (0, l8), none, none, none, none, none]) rfl rfl rfl ?_
          refine w_aload_n rfl rfl ?_
          refine w_gfC (c := 437) rfl s_428 rfl rfl ?_
          refine w_iload rfl rfl ?_
          refine w_iald rfl s_437 (n := 40000) rfl h.1 ?_
          replace h := h.2
          refine w_istore (lv' := [some (2, 428), some (0, l1), none, some (0, l3), some (0, 0), some (0, l5), some (0, l6), some (0, m2 437 l7), some (0, l8), none, none, none, none, none]) rfl rfl rfl ?_
          refine w_iinc (lv' := [some (2, 428), some (0, l1), none, some (0, l3), some (0, 0), some (0, l5), some (0, l6), some (0, m2 437 l7), some (0, w_32 (l8 + 1)), none, none, none, none, none]) rfl rfl rfl rfl ?_
          refine w_goto rfl ?_
          exact w_W.less h (w_sub [true, true, false, true, true, true, true, true, true, false, false, false, false, false] rfl)
        · refine w_iconst rfl (by decide) ?_
          refine w_goto rfl ?_
          refine w_istore (lv' := [some (2, 428), some (0, l1), none, some (0, l3), some (0, 1), some (0, l5), some (0, l6), some (0, l7), some (0, l8), none, none, none, none, none]) rfl rfl rfl ?_
          refine w_aload_n rfl rfl ?_
          refine w_gfC (c := 437) rfl s_428 rfl rfl ?_
          refine w_iload rfl rfl ?_
          refine w_iald rfl s_437 (n := 40000) rfl h.1 ?_
          replace h := h.2
          refine w_istore (lv' := [some (2, 428), some (0, l1), none, some (0, l3), some (0, 1), some (0, l5), some (0, l6), some (0, m2 437 l7), some (0, l8), none, none, none, none, none]) rfl rfl rfl ?_
          refine w_iinc (lv' := [some (2, 428), some (0, l1), none, some (0, l3), some (0, 1), some (0, l5), some (0, l6), some (0, m2 437 l7), some (0, w_32 (l8 + 1)), none, none, none, none, none]) rfl rfl rfl rfl ?_
          refine w_goto rfl ?_
          exact w_W.less h (w_sub [true, true, false, true, true, true, true, true, true, false, false, false, false, false] rfl)
      · refine w_iconst rfl (by decide) ?_
        refine w_goto rfl ?_
        refine w_istore (lv' := [some (2, 428), some (0, l1), none, some (0, l3), some (0, 1), some (0, l5), some (0, l6), some (0, l7), some (0, l8), none, none, none, none, none]) rfl rfl rfl ?_
        refine w_aload_n rfl rfl ?_
        refine w_gfC (c := 437) rfl s_428 rfl rfl ?_
        refine w_iload rfl rfl ?_
        refine w_iald rfl s_437 (n := 40000) rfl h.1 ?_
        replace h := h.2
        refine w_istore (lv' := [some (2, 428), some (0, l1), none, some (0, l3), some (0, 1), some (0, l5), some (0, l6), some (0, m1 437 l7), some (0, l8), none, none, none, none, none]) rfl rfl rfl ?_
        refine w_iinc (lv' := [some (2, 428), some (0, l1), none, some (0, l3), some (0, 1), some (0, l5), some (0, l6), some (0, m1 437 l7), some (0, w_32 (l8 + 1)), none, none, none, none, none]) rfl rfl rfl rfl ?_
        refine w_goto rfl ?_
        exact w_W.less h (w_sub [true, true, false, true, true, true, true, true, true, false, false, false, false, false] rfl)
  · exact w_W.less h (w_sub [true, true, false, true, true, true, true, false, false, false, false, false, false, false] rfl)
theorem xr_m_filters_147 {d : Nat} {l1 l3 l4 l5 l6 : Int} {m : w_M} {Q : Int → w_M → Prop} (h : xc_m_direct d l1 202 m (fun r1 m1 => if l4 = 0 then (if r1 < 0 then (xp_m_filters_248 d l3 0 l5 l6 r1 0 m1 Q) else (((0 : Int) ≤ r1 ∧ r1 < 40000) ∧ (if (m1 432 r1) = 6 then (xp_m_filters_248 d l3 0 l5 l6 r1 1 m1 Q) else (xp_m_filters_248 d l3 0 l5 l6 r1 0 m1 Q)))) else (if r1 < 0 then (if r1 < 0 then (xp_m_filters_248 d l3 1 l5 l6 r1 0 m1 Q) else (((0 : Int) ≤ r1 ∧ r1 < 40000) ∧ (if (m1 432 r1) = 6 then (xp_m_filters_248 d l3 1 l5 l6 r1 1 m1 Q) else (xp_m_filters_248 d l3 1 l5 l6 r1 0 m1 Q)))) else (((0 : Int) ≤ r1 ∧ r1 < 40000) ∧ (if (m1 432 r1) = 0 then (if r1 < 0 then (xp_m_filters_248 d l3 1 l5 l6 r1 0 m1 Q) else (((0 : Int) ≤ r1 ∧ r1 < 40000) ∧ (if (m1 432 r1) = 6 then (xp_m_filters_248 d l3 1 l5 l6 r1 1 m1 Q) else (xp_m_filters_248 d l3 1 l5 l6 r1 0 m1 Q)))) else (((0 : Int) ≤ r1 ∧ r1 < 40000) ∧ (if (m1 432 r1) = 7 then (if l5 = 1 then (if r1 < 0 then (xp_m_filters_248 d l3 1 l5 l6 r1 0 m1 Q) else (((0 : Int) ≤ r1 ∧ r1 < 40000) ∧ (if (m1 432 r1) = 6 then (xp_m_filters_248 d l3 1 l5 l6 r1 1 m1 Q) else (xp_m_filters_248 d l3 1 l5 l6 r1 0 m1 Q)))) else (xp_m_filters_195 d l3 l5 l6 r1 m1 Q)) else (xp_m_filters_195 d l3 l5 l6 r1 m1 Q)))))))) : xp_m_filters_147 d l1 l3 l4 l5 l6 m Q := by
  refine w_aload_n rfl rfl ?_
  refine w_iload_n rfl rfl ?_
  refine w_ldcwR rfl ?_
  refine w_callV (t' := 0) [(2, 202), (0, l1)] [] rfl s_428 rfl rfl ?_
  refine w_C.more (Q := fun r1 m1 => _) h (fun r1 m1 h => ?_)
  replace h := id h
  refine w_istore (lv' := [some (2, 428), some (0, l1), none, some (0, l3), some (0, l4), some (0, l5), some (0, l6), none, some (0, r1), none, none, none, none, none]) rfl rfl rfl ?_
  refine w_iload rfl rfl ?_
  refine w_ifeq rfl (w_ite h (fun h => ?_) (fun h => ?_))
  · refine w_iconst rfl (by decide) ?_
    refine w_istore (lv' := [some (2, 428), some (0, l1), none, some (0, l3), some (0, 0), some (0, l5), some (0, l6), none, some (0, r1), none, none, none, none, none]) rfl rfl rfl ?_
    refine w_iload rfl rfl ?_
    refine w_iflt rfl (w_ite h (fun h => ?_) (fun h => ?_))
    · refine w_iconst rfl (by decide) ?_
      exact w_W.less h (w_sub [true, false, false, true, true, true, true, false, true, false, false, false, false, false] rfl)
    · refine w_aload_n rfl rfl ?_
      refine w_gfC (c := 432) rfl s_428 rfl rfl ?_
      refine w_iload rfl rfl ?_
      refine w_bald rfl s_432 (n := 40000) rfl h.1 ?_
      replace h := h.2
      refine w_bipush rfl (by decide) ?_
      refine w_icne rfl (w_ite h (fun h => ?_) (fun h => ?_))
      · refine w_iconst rfl (by decide) ?_
        refine w_goto rfl ?_
        exact w_W.less h (w_sub [true, false, false, true, true, true, true, false, true, false, false, false, false, false] rfl)
      · refine w_iconst rfl (by decide) ?_
        exact w_W.less h (w_sub [true, false, false, true, true, true, true, false, true, false, false, false, false, false] rfl)
  · refine w_iload rfl rfl ?_
    refine w_iflt rfl (w_ite h (fun h => ?_) (fun h => ?_))
    · refine w_iconst rfl (by decide) ?_
      refine w_goto rfl ?_
      refine w_istore (lv' := [some (2, 428), some (0, l1), none, some (0, l3), some (0, 1), some (0, l5), some (0, l6), none, some (0, r1), none, none, none, none, none]) rfl rfl rfl ?_
      refine w_iload rfl rfl ?_
      refine w_iflt rfl (w_ite h (fun h => ?_) (fun h => ?_))
      · refine w_iconst rfl (by decide) ?_
        exact w_W.less h (w_sub [true, false, false, true, true, true, true, false, true, false, false, false, false, false] rfl)
      · refine w_aload_n rfl rfl ?_
        refine w_gfC (c := 432) rfl s_428 rfl rfl ?_
        refine w_iload rfl rfl ?_
        refine w_bald rfl s_432 (n := 40000) rfl h.1 ?_
        replace h := h.2
        refine w_bipush rfl (by decide) ?_
        refine w_icne rfl (w_ite h (fun h => ?_) (fun h => ?_))
        · refine w_iconst rfl (by decide) ?_
          refine w_goto rfl ?_
          exact w_W.less h (w_sub [true, false, false, true, true, true, true, false, true, false, false, false, false, false] rfl)
        · refine w_iconst rfl (by decide) ?_
          exact w_W.less h (w_sub [true, false, false, true, true, true, true, false, true, false, false, false, false, false] rfl)
    · refine w_aload_n rfl rfl ?_
      refine w_gfC (c := 432) rfl s_428 rfl rfl ?_
      refine w_iload rfl rfl ?_
      refine w_bald rfl s_432 (n := 40000) rfl h.1 ?_
      replace h := h.2
      refine w_ifeq rfl (w_ite h (fun h => ?_) (fun h => ?_))
      · refine w_iconst rfl (by decide) ?_
        refine w_goto rfl ?_
        refine w_istore (lv' := [some (2, 428), some (0, l1), none, some (0, l3), some (0, 1), some (0, l5), some (0, l6), none, some (0, r1), none, none, none, none, none]) rfl rfl rfl ?_
        refine w_iload rfl rfl ?_
        refine w_iflt rfl (w_ite h (fun h => ?_) (fun h => ?_))
        · refine w_iconst rfl (by decide) ?_
          exact w_W.less h (w_sub [true, false, false, true, true, true, true, false, true, false, false, false, false, false] rfl)
        · refine w_aload_n rfl rfl ?_
          refine w_gfC (c := 432) rfl s_428 rfl rfl ?_
          refine w_iload rfl rfl ?_
          refine w_bald rfl s_432 (n := 40000) rfl h.1 ?_
          replace h := h.2
          refine w_bipush rfl (by decide) ?_
          refine w_icne rfl (w_ite h (fun h => ?_) (fun h => ?_))
          · refine w_iconst rfl (by decide) ?_
            refine w_goto rfl ?_
            exact w_W.less h (w_sub [true, false, false, true, true, true, true, false, true, false, false, false, false, false] rfl)
          · refine w_iconst rfl (by decide) ?_
            exact w_W.less h (w_sub [true, false, false, true, true, true, true, false, true, false, false, false, false, false] rfl)
      · refine w_aload_n rfl rfl ?_
        refine w_gfC (c := 432) rfl s_428 rfl rfl ?_
        refine w_iload rfl rfl ?_
        refine w_bald rfl s_432 (n := 40000) rfl h.1 ?_
        replace h := h.2
        refine w_bipush rfl (by decide) ?_
        refine w_icne rfl (w_ite h (fun h => ?_) (fun h => ?_))
        · refine w_iload rfl rfl ?_
          refine w_iconst rfl (by decide) ?_
          refine w_iceq rfl (w_ite h (fun h => ?_) (fun h => ?_))
          · refine w_iconst rfl (by decide) ?_
            refine w_goto rfl ?_
            refine w_istore (lv' := [some (2, 428), some (0, l1), none, some (0, l3), some (0, 1), some (0, l5), some (0, l6), none, some (0, r1), none, none, none, none, none]) rfl rfl rfl ?_
            refine w_iload rfl rfl ?_
            refine w_iflt rfl (w_ite h (fun h => ?_) (fun h => ?_))
            · refine w_iconst rfl (by decide) ?_
              exact w_W.less h (w_sub [true, false, false, true, true, true, true, false, true, false, false, false, false, false] rfl)
            · refine w_aload_n rfl rfl ?_
              refine w_gfC (c := 432) rfl s_428 rfl rfl ?_
              refine w_iload rfl rfl ?_
              refine w_bald rfl s_432 (n := 40000) rfl h.1 ?_
              replace h := h.2
              refine w_bipush rfl (by decide) ?_
              refine w_icne rfl (w_ite h (fun h => ?_) (fun h => ?_))
              · refine w_iconst rfl (by decide) ?_
                refine w_goto rfl ?_
                exact w_W.less h (w_sub [true, false, false, true, true, true, true, false, true, false, false, false, false, false] rfl)
              · refine w_iconst rfl (by decide) ?_
                exact w_W.less h (w_sub [true, false, false, true, true, true, true, false, true, false, false, false, false, false] rfl)
          · exact w_W.less h (w_sub [true, false, false, true, false, true, true, false, true, false, false, false, false, false] rfl)
        · exact w_W.less h (w_sub [true, false, false, true, false, true, true, false, true, false, false, false, false, false] rfl)
theorem xr_m_filters_195 {d : Nat} {l3 l5 l6 l8 : Int} {m : w_M} {Q : Int → w_M → Prop} (h : ((0 : Int) ≤ l8 ∧ l8 < 40000) ∧ (if (m 432 l8) = 6 then (((0 : Int) ≤ l8 ∧ l8 < 40000) ∧ (if (m 435 l8) = l5 then (if l8 < 0 then (xp_m_filters_248 d l3 1 l5 l6 l8 0 m Q) else (((0 : Int) ≤ l8 ∧ l8 < 40000) ∧ (if (m 432 l8) = 6 then (xp_m_filters_248 d l3 1 l5 l6 l8 1 m Q) else (xp_m_filters_248 d l3 1 l5 l6 l8 0 m Q)))) else (if l8 < 0 then (xp_m_filters_248 d l3 0 l5 l6 l8 0 m Q) else (((0 : Int) ≤ l8 ∧ l8 < 40000) ∧ (if (m 432 l8) = 6 then (xp_m_filters_248 d l3 0 l5 l6 l8 1 m Q) else (xp_m_filters_248 d l3 0 l5 l6 l8 0 m Q)))))) else (if l8 < 0 then (xp_m_filters_248 d l3 0 l5 l6 l8 0 m Q) else (((0 : Int) ≤ l8 ∧ l8 < 40000) ∧ (if (m 432 l8) = 6 then (xp_m_filters_248 d l3 0 l5 l6 l8 1 m Q) else (xp_m_filters_248 d l3 0 l5 l6 l8 0 m Q)))))) : xp_m_filters_195 d l3 l5 l6 l8 m Q := by
  refine w_aload_n rfl rfl ?_
  refine w_gfC (c := 432) rfl s_428 rfl rfl ?_
  refine w_iload rfl rfl ?_
  refine w_bald rfl s_432 (n := 40000) rfl h.1 ?_
  replace h := h.2
  refine w_bipush rfl (by decide) ?_
  refine w_icne rfl (w_ite h (fun h => ?_) (fun h => ?_))
  · refine w_aload_n rfl rfl ?_
    refine w_gfC (c := 435) rfl s_428 rfl rfl ?_
    refine w_iload rfl rfl ?_
    refine w_iald rfl s_435 (n := 40000) rfl h.1 ?_
    replace h := h.2
    refine w_iload rfl rfl ?_
    refine w_icne rfl (w_ite h (fun h => ?_) (fun h => ?_))
    · refine w_iconst rfl (by decide) ?_
      refine w_goto rfl ?_
      refine w_istore (lv' := [some (2, 428), none, none, some (0, l3), some (0, 1), some (0, l5), some (0, l6), none, some (0, l8), none, none, none, none, none]) rfl rfl rfl ?_
      refine w_iload rfl rfl ?_
      refine w_iflt rfl (w_ite h (fun h => ?_) (fun h => ?_))
      · refine w_iconst rfl (by decide) ?_
        exact w_W.less h (w_sub [true, false, false, true, true, true, true, false, true, false, false, false, false, false] rfl)
      · refine w_aload_n rfl rfl ?_
        refine w_gfC (c := 432) rfl s_428 rfl rfl ?_
        refine w_iload rfl rfl ?_
        refine w_bald rfl s_432 (n := 40000) rfl h.1 ?_
        replace h := h.2
        refine w_bipush rfl (by decide) ?_
        refine w_icne rfl (w_ite h (fun h => ?_) (fun h => ?_))
        · refine w_iconst rfl (by decide) ?_
          refine w_goto rfl ?_
          exact w_W.less h (w_sub [true, false, false, true, true, true, true, false, true, false, false, false, false, false] rfl)
        · refine w_iconst rfl (by decide) ?_
          exact w_W.less h (w_sub [true, false, false, true, true, true, true, false, true, false, false, false, false, false] rfl)
    · refine w_iconst rfl (by decide) ?_
      refine w_istore (lv' := [some (2, 428), none, none, some (0, l3), some (0, 0), some (0, l5), some (0, l6), none, some (0, l8), none, none, none, none, none]) rfl rfl rfl ?_
      refine w_iload rfl rfl ?_
      refine w_iflt rfl (w_ite h (fun h => ?_) (fun h => ?_))
      · refine w_iconst rfl (by decide) ?_
        exact w_W.less h (w_sub [true, false, false, true, true, true, true, false, true, false, false, false, false, false] rfl)
      · refine w_aload_n rfl rfl ?_
        refine w_gfC (c := 432) rfl s_428 rfl rfl ?_
        refine w_iload rfl rfl ?_
        refine w_bald rfl s_432 (n := 40000) rfl h.1 ?_
        replace h := h.2
        refine w_bipush rfl (by decide) ?_
        refine w_icne rfl (w_ite h (fun h => ?_) (fun h => ?_))
        · refine w_iconst rfl (by decide) ?_
          refine w_goto rfl ?_
          exact w_W.less h (w_sub [true, false, false, true, true, true, true, false, true, false, false, false, false, false] rfl)
        · refine w_iconst rfl (by decide) ?_
          exact w_W.less h (w_sub [true, false, false, true, true, true, true, false, true, false, false, false, false, false] rfl)
  · refine w_iconst rfl (by decide) ?_
    refine w_istore (lv' := [some (2, 428), none, none, some (0, l3), some (0, 0), some (0, l5), some (0, l6), none, some (0, l8), none, none, none, none, none]) rfl rfl rfl ?_
    refine w_iload rfl rfl ?_
    refine w_iflt rfl (w_ite h (fun h => ?_) (fun h => ?_))
    · refine w_iconst rfl (by decide) ?_
      exact w_W.less h (w_sub [true, false, false, true, true, true, true, false, true, false, false, false, false, false] rfl)
    · refine w_aload_n rfl rfl ?_
      refine w_gfC (c := 432) rfl s_428 rfl rfl ?_
      refine w_iload rfl rfl ?_
      refine w_bald rfl s_432 (n := 40000) rfl h.1 ?_
      replace h := h.2
      refine w_bipush rfl (by decide) ?_
      refine w_icne rfl (w_ite h (fun h => ?_) (fun h => ?_))
      · refine w_iconst rfl (by decide) ?_
        refine w_goto rfl ?_
        exact w_W.less h (w_sub [true, false, false, true, true, true, true, false, true, false, false, false, false, false] rfl)
      · refine w_iconst rfl (by decide) ?_
        exact w_W.less h (w_sub [true, false, false, true, true, true, true, false, true, false, false, false, false, false] rfl)
theorem xr_m_filters_248 {d : Nat} {l3 l4 l5 l6 l8 s0 : Int} {m : w_M} {Q : Int → w_M → Prop} (h : if l4 = 0 then (xp_m_filters_290 d l3 l4 l5 l6 l6 l8 s0 (-1) 0 m Q) else (if l8 < 0 then (xp_m_filters_290 d l3 l4 l5 l6 l6 l8 s0 (-1) 0 m Q) else (if s0 = 0 then (xp_m_filters_290 d l3 l4 l5 l6 l6 l8 s0 l8 0 m Q) else (((0 : Int) ≤ l8 ∧ l8 < 40000) ∧ (xp_m_filters_290 d l3 l4 l5 l6 l6 l8 s0 (m 436 l8) 0 m Q))))) : xp_m_filters_248 d l3 l4 l5 l6 l8 s0 m Q := by
  refine w_istore (lv' := [some (2, 428), none, none, some (0, l3), some (0, l4), some (0, l5), some (0, l6), none, some (0, l8), some (0, s0), none, none, none, none]) rfl rfl rfl ?_
  refine w_iload rfl rfl ?_
  refine w_istore (lv' := [some (2, 428), none, none, some (0, l3), some (0, l4), some (0, l5), some (0, l6), some (0, l6), some (0, l8), some (0, s0), none, none, none, none]) rfl rfl rfl ?_
  refine w_iload rfl rfl ?_
  refine w_ifeq rfl (w_ite h (fun h => ?_) (fun h => ?_))
  · refine w_iconst rfl (by decide) ?_
    refine w_goto rfl ?_
    refine w_istore (lv' := [some (2, 428), none, none, some (0, l3), some (0, l4), some (0, l5), some (0, l6), some (0, l6), some (0, l8), some (0, s0), some (0, (-1)), none, none, none]) rfl rfl rfl ?_
    refine w_iconst rfl (by decide) ?_
    refine w_istore (lv' := [some (2, 428), none, none, some (0, l3), some (0, l4), some (0, l5), some (0, l6), some (0, l6), some (0, l8), some (0, s0), some (0, (-1)), some (0, 0), none, none]) rfl rfl rfl ?_
    exact w_W.less h (w_sub [true, false, false, true, true, true, true, true, true, true, true, true, false, false] rfl)
  · refine w_iload rfl rfl ?_
    refine w_ifge rfl (w_ite h (fun h => ?_) (fun h => ?_))
    · refine w_iconst rfl (by decide) ?_
      refine w_goto rfl ?_
      refine w_istore (lv' := [some (2, 428), none, none, some (0, l3), some (0, l4), some (0, l5), some (0, l6), some (0, l6), some (0, l8), some (0, s0), some (0, (-1)), none, none, none]) rfl rfl rfl ?_
      refine w_iconst rfl (by decide) ?_
      refine w_istore (lv' := [some (2, 428), none, none, some (0, l3), some (0, l4), some (0, l5), some (0, l6), some (0, l6), some (0, l8), some (0, s0), some (0, (-1)), some (0, 0), none, none]) rfl rfl rfl ?_
      exact w_W.less h (w_sub [true, false, false, true, true, true, true, true, true, true, true, true, false, false] rfl)
    · refine w_iload rfl rfl ?_
      refine w_ifeq rfl (w_ite h (fun h => ?_) (fun h => ?_))
      · refine w_iload rfl rfl ?_
        refine w_istore (lv' := [some (2, 428), none, none, some (0, l3), some (0, l4), some (0, l5), some (0, l6), some (0, l6), some (0, l8), some (0, s0), some (0, l8), none, none, none]) rfl rfl rfl ?_
        refine w_iconst rfl (by decide) ?_
        refine w_istore (lv' := [some (2, 428), none, none, some (0, l3), some (0, l4), some (0, l5), some (0, l6), some (0, l6), some (0, l8), some (0, s0), some (0, l8), some (0, 0), none, none]) rfl rfl rfl ?_
        exact w_W.less h (w_sub [true, false, false, true, true, true, true, true, true, true, true, true, false, false] rfl)
      · refine w_aload_n rfl rfl ?_
        refine w_gfC (c := 436) rfl s_428 rfl rfl ?_
        refine w_iload rfl rfl ?_
        refine w_iald rfl s_436 (n := 40000) rfl h.1 ?_
        replace h := h.2
        refine w_goto rfl ?_
        refine w_istore (lv' := [some (2, 428), none, none, some (0, l3), some (0, l4), some (0, l5), some (0, l6), some (0, l6), some (0, l8), some (0, s0), some (0, m 436 l8), none, none, none]) rfl rfl rfl ?_
        refine w_iconst rfl (by decide) ?_
        refine w_istore (lv' := [some (2, 428), none, none, some (0, l3), some (0, l4), some (0, l5), some (0, l6), some (0, l6), some (0, l8), some (0, s0), some (0, m 436 l8), some (0, 0), none, none]) rfl rfl rfl ?_
        exact w_W.less h (w_sub [true, false, false, true, true, true, true, true, true, true, true, true, false, false] rfl)
theorem xr_m_filters_290 {d : Nat} {l3 l4 l5 l6 l7 l8 l9 l10 l11 : Int} {m : w_M} {Q : Int → w_M → Prop} (h : if l11 < l5 then (if l4 = 0 then (xp_m_filters_412 d l3 l4 l5 l6 l8 l9 m Q) else (if l10 < 0 then (xp_m_filters_334 d l3 l5 l6 l7 l8 l9 l10 l11 1 m Q) else (((0 : Int) ≤ l10 ∧ l10 < 40000) ∧ (if (m 432 l10) = 0 then (xp_m_filters_334 d l3 l5 l6 l7 l8 l9 l10 l11 1 m Q) else (((0 : Int) ≤ l10 ∧ l10 < 40000) ∧ (if (m 432 l10) = 7 then (xp_m_filters_334 d l3 l5 l6 l7 l8 l9 l10 l11 1 m Q) else (xp_m_filters_334 d l3 l5 l6 l7 l8 l9 l10 l11 0 m Q))))))) else (xp_m_filters_412 d l3 l4 l5 l6 l8 l9 m Q)) : xp_m_filters_290 d l3 l4 l5 l6 l7 l8 l9 l10 l11 m Q := by
  refine w_iload rfl rfl ?_
  refine w_iload rfl rfl ?_
  refine w_icge rfl (w_ite h (fun h => ?_) (fun h => ?_))
  · refine w_iload rfl rfl ?_
    refine w_ifeq rfl (w_ite h (fun h => ?_) (fun h => ?_))
    · exact w_W.less h (w_sub [true, false, false, true, true, true, true, false, true, true, false, false, false, false] rfl)
    · refine w_iload rfl rfl ?_
      refine w_iflt rfl (w_ite h (fun h => ?_) (fun h => ?_))
      · refine w_iconst rfl (by decide) ?_
        refine w_goto rfl ?_
        exact w_W.less h (w_sub [true, false, false, true, false, true, true, true, true, true, true, true, false, false] rfl)
      · refine w_aload_n rfl rfl ?_
        refine w_gfC (c := 432) rfl s_428 rfl rfl ?_
        refine w_iload rfl rfl ?_
        refine w_bald rfl s_432 (n := 40000) rfl h.1 ?_
        replace h := h.2
        refine w_ifeq rfl (w_ite h (fun h => ?_) (fun h => ?_))
        · refine w_iconst rfl (by decide) ?_
          refine w_goto rfl ?_
          exact w_W.less h (w_sub [true, false, false, true, false, true, true, true, true, true, true, true, false, false] rfl)
        · refine w_aload_n rfl rfl ?_
          refine w_gfC (c := 432) rfl s_428 rfl rfl ?_
          refine w_iload rfl rfl ?_
          refine w_bald rfl s_432 (n := 40000) rfl h.1 ?_
          replace h := h.2
          refine w_bipush rfl (by decide) ?_
          refine w_icne rfl (w_ite h (fun h => ?_) (fun h => ?_))
          · refine w_iconst rfl (by decide) ?_
            refine w_goto rfl ?_
            exact w_W.less h (w_sub [true, false, false, true, false, true, true, true, true, true, true, true, false, false] rfl)
          · refine w_iconst rfl (by decide) ?_
            exact w_W.less h (w_sub [true, false, false, true, false, true, true, true, true, true, true, true, false, false] rfl)
  · exact w_W.less h (w_sub [true, false, false, true, true, true, true, false, true, true, false, false, false, false] rfl)
theorem xr_m_filters_334 {d : Nat} {l3 l5 l6 l7 l8 l9 l10 l11 s0 : Int} {m : w_M} {Q : Int → w_M → Prop} (h : if s0 = 0 then (xp_m_filters_378 d l3 s0 l5 l6 l7 l8 l9 l10 l11 m Q) else (if l10 < 0 then (xp_m_filters_378 d l3 s0 l5 l6 l7 l8 l9 l10 l11 m Q) else (((0 : Int) ≤ l10 ∧ l10 < 40000) ∧ (if (m 432 l10) = 7 then (xc_m_isName d l7 204 m (fun r1 m1 => if r1 = 0 then (xp_m_filters_378 d l3 s0 l5 l6 l7 l8 l9 l10 l11 m1 Q) else (xc_m_isPredictor d l10 m1 (fun r2 m2 => xp_m_filters_378 d l3 r2 l5 l6 l7 l8 l9 l10 l11 m2 Q)))) else (xp_m_filters_378 d l3 s0 l5 l6 l7 l8 l9 l10 l11 m Q))))) : xp_m_filters_334 d l3 l5 l6 l7 l8 l9 l10 l11 s0 m Q := by
  refine w_istore (lv' := [some (2, 428), none, none, some (0, l3), some (0, s0), some (0, l5), some (0, l6), some (0, l7), some (0, l8), some (0, l9), some (0, l10), some (0, l11), none, none]) rfl rfl rfl ?_
  refine w_iload rfl rfl ?_
  refine w_ifeq rfl (w_ite h (fun h => ?_) (fun h => ?_))
  · exact w_W.less h (w_sub [true, false, false, true, true, true, true, true, true, true, true, true, false, false] rfl)
  · refine w_iload rfl rfl ?_
    refine w_iflt rfl (w_ite h (fun h => ?_) (fun h => ?_))
    · exact w_W.less h (w_sub [true, false, false, true, true, true, true, true, true, true, true, true, false, false] rfl)
    · refine w_aload_n rfl rfl ?_
      refine w_gfC (c := 432) rfl s_428 rfl rfl ?_
      refine w_iload rfl rfl ?_
      refine w_bald rfl s_432 (n := 40000) rfl h.1 ?_
      replace h := h.2
      refine w_bipush rfl (by decide) ?_
      refine w_icne rfl (w_ite h (fun h => ?_) (fun h => ?_))
      · refine w_aload_n rfl rfl ?_
        refine w_iload rfl rfl ?_
        refine w_ldcwR rfl ?_
        refine w_callV (t' := 0) [(2, 204), (0, l7)] [] rfl s_428 rfl rfl ?_
        refine w_C.more (Q := fun r1 m1 => _) h (fun r1 m1 h => ?_)
        replace h := id h
        refine w_ifeq rfl (w_ite h (fun h => ?_) (fun h => ?_))
        · exact w_W.less h (w_sub [true, false, false, true, true, true, true, true, true, true, true, true, false, false] rfl)
        · refine w_aload_n rfl rfl ?_
          refine w_iload rfl rfl ?_
          refine w_callV (t' := 0) [(0, l10)] [] rfl s_428 rfl rfl ?_
          refine w_C.more (Q := fun r2 m2 => _) h (fun r2 m2 h => ?_)
          replace h := id h
          refine w_istore (lv' := [some (2, 428), none, none, some (0, l3), some (0, r2), some (0, l5), some (0, l6), some (0, l7), some (0, l8), some (0, l9), some (0, l10), some (0, l11), none, none]) rfl rfl rfl ?_
          exact w_W.less h (w_sub [true, false, false, true, true, true, true, true, true, true, true, true, false, false] rfl)
      · exact w_W.less h (w_sub [true, false, false, true, true, true, true, true, true, true, true, true, false, false] rfl)
theorem xr_m_filters_378 {d : Nat} {l3 l4 l5 l6 l7 l8 l9 l10 l11 : Int} {m : w_M} {Q : Int → w_M → Prop} (h : if l9 = 0 then (((0 : Int) ≤ l7 ∧ l7 < 40000) ∧ (xp_m_filters_290 d l3 l4 l5 l6 (m 437 l7) l8 l9 l10 (w_32 (l11 + 1)) m Q)) else (((0 : Int) ≤ l10 ∧ l10 < 40000) ∧ (((0 : Int) ≤ l7 ∧ l7 < 40000) ∧ (xp_m_filters_290 d l3 l4 l5 l6 (m 437 l7) l8 l9 (m 437 l10) (w_32 (l11 + 1)) m Q)))) : xp_m_filters_378 d l3 l4 l5 l6 l7 l8 l9 l10 l11 m Q := by
  refine w_iload rfl rfl ?_
  refine w_ifeq rfl (w_ite h (fun h => ?_) (fun h => ?_))
  · refine w_iload rfl rfl ?_
    refine w_istore (lv' := [some (2, 428), none, none, some (0, l3), some (0, l4), some (0, l5), some (0, l6), some (0, l7), some (0, l8), some (0, l9), some (0, l10), some (0, l11), none, none]) rfl rfl rfl ?_
    refine w_aload_n rfl rfl ?_
    refine w_gfC (c := 437) rfl s_428 rfl rfl ?_
    refine w_iload rfl rfl ?_
    refine w_iald rfl s_437 (n := 40000) rfl h.1 ?_
    replace h := h.2
    refine w_istore (lv' := [some (2, 428), none, none, some (0, l3), some (0, l4), some (0, l5), some (0, l6), some (0, m 437 l7), some (0, l8), some (0, l9), some (0, l10), some (0, l11), none, none]) rfl rfl rfl ?_
    refine w_iinc (lv' := [some (2, 428), none, none, some (0, l3), some (0, l4), some (0, l5), some (0, l6), some (0, m 437 l7), some (0, l8), some (0, l9), some (0, l10), some (0, w_32 (l11 + 1)), none, none]) rfl rfl rfl rfl ?_
    refine w_goto rfl ?_
    exact w_W.less h (w_sub [true, false, false, true, true, true, true, true, true, true, true, true, false, false] rfl)
  · refine w_aload_n rfl rfl ?_
    refine w_gfC (c := 437) rfl s_428 rfl rfl ?_
    refine w_iload rfl rfl ?_
    refine w_iald rfl s_437 (n := 40000) rfl h.1 ?_
    replace h := h.2
    refine w_goto rfl ?_
    refine w_istore (lv' := [some (2, 428), none, none, some (0, l3), some (0, l4), some (0, l5), some (0, l6), some (0, l7), some (0, l8), some (0, l9), some (0, m 437 l10), some (0, l11), none, none]) rfl rfl rfl ?_
    refine w_aload_n rfl rfl ?_
    refine w_gfC (c := 437) rfl s_428 rfl rfl ?_
    refine w_iload rfl rfl ?_
    refine w_iald rfl s_437 (n := 40000) rfl h.1 ?_
    replace h := h.2
    refine w_istore (lv' := [some (2, 428), none, none, some (0, l3), some (0, l4), some (0, l5), some (0, l6), some (0, m 437 l7), some (0, l8), some (0, l9), some (0, m 437 l10), some (0, l11), none, none]) rfl rfl rfl ?_
    refine w_iinc (lv' := [some (2, 428), none, none, some (0, l3), some (0, l4), some (0, l5), some (0, l6), some (0, m 437 l7), some (0, l8), some (0, l9), some (0, m 437 l10), some (0, w_32 (l11 + 1)), none, none]) rfl rfl rfl rfl ?_
    refine w_goto rfl ?_
    exact w_W.less h (w_sub [true, false, false, true, true, true, true, true, true, true, true, true, false, false] rfl)
theorem xr_m_filters_412 {d : Nat} {l3 l4 l5 l6 l8 l9 : Int} {m : w_M} {Q : Int → w_M → Prop} (h : if l4 = 0 then (xc_m_fail d 7 l3 m (fun r1 m1 => Q 0 m1)) else (if l8 < 0 then (xp_m_filters_460 d l3 l5 l6 l9 (-1) 0 m Q) else (if l9 = 0 then (xp_m_filters_460 d l3 l5 l6 l9 l8 0 m Q) else (((0 : Int) ≤ l8 ∧ l8 < 40000) ∧ (xp_m_filters_460 d l3 l5 l6 l9 (m 436 l8) 0 m Q))))) : xp_m_filters_412 d l3 l4 l5 l6 l8 l9 m Q := by
  refine w_iload rfl rfl ?_
  refine w_ifne rfl (w_ite h (fun h => ?_) (fun h => ?_))
  · refine w_aload_n rfl rfl ?_
    refine w_bipush rfl (by decide) ?_
    refine w_iload_n rfl rfl ?_
    refine w_callV (t' := 3) [(0, l3), (0, 7)] [] rfl s_428 rfl rfl ?_
    refine w_C.more (Q := fun r1 m1 => _) h (fun r1 m1 h => ?_)
    replace h := id h
    exact w_vret rfl rfl h
  · refine w_iload rfl rfl ?_
    refine w_istore (lv' := [some (2, 428), none, none, some (0, l3), some (0, l4), some (0, l5), some (0, l6), some (0, l6), some (0, l8), some (0, l9), none, none, none, none]) rfl rfl rfl ?_
    refine w_iload rfl rfl ?_
    refine w_ifge rfl (w_ite h (fun h => ?_) (fun h => ?_))
    · refine w_iconst rfl (by decide) ?_
      refine w_goto rfl ?_
      refine w_istore (lv' := [some (2, 428), none, none, some (0, l3), some (0, l4), some (0, l5), some (0, l6), some (0, l6), some (0, l8), some (0, l9), some (0, (-1)), none, none, none]) rfl rfl rfl ?_
      refine w_iconst rfl (by decide) ?_
      refine w_istore (lv' := [some (2, 428), none, none, some (0, l3), some (0, l4), some (0, l5), some (0, l6), some (0, l6), some (0, l8), some (0, l9), some (0, (-1)), some (0, 0), none, none]) rfl rfl rfl ?_
      exact w_W.less h (w_sub [true, false, false, true, false, true, false, true, false, true, true, true, false, false] rfl)
    · refine w_iload rfl rfl ?_
      refine w_ifeq rfl (w_ite h (fun h => ?_) (fun h => ?_))
      · refine w_iload rfl rfl ?_
        refine w_istore (lv' := [some (2, 428), none, none, some (0, l3), some (0, l4), some (0, l5), some (0, l6), some (0, l6), some (0, l8), some (0, l9), some (0, l8), none, none, none]) rfl rfl rfl ?_
        refine w_iconst rfl (by decide) ?_
        refine w_istore (lv' := [some (2, 428), none, none, some (0, l3), some (0, l4), some (0, l5), some (0, l6), some (0, l6), some (0, l8), some (0, l9), some (0, l8), some (0, 0), none, none]) rfl rfl rfl ?_
        exact w_W.less h (w_sub [true, false, false, true, false, true, false, true, false, true, true, true, false, false] rfl)
      · refine w_aload_n rfl rfl ?_
        refine w_gfC (c := 436) rfl s_428 rfl rfl ?_
        refine w_iload rfl rfl ?_
        refine w_iald rfl s_436 (n := 40000) rfl h.1 ?_
        replace h := h.2
        refine w_goto rfl ?_
        refine w_istore (lv' := [some (2, 428), none, none, some (0, l3), some (0, l4), some (0, l5), some (0, l6), some (0, l6), some (0, l8), some (0, l9), some (0, m 436 l8), none, none, none]) rfl rfl rfl ?_
        refine w_iconst rfl (by decide) ?_
        refine w_istore (lv' := [some (2, 428), none, none, some (0, l3), some (0, l4), some (0, l5), some (0, l6), some (0, l6), some (0, l8), some (0, l9), some (0, m 436 l8), some (0, 0), none, none]) rfl rfl rfl ?_
        exact w_W.less h (w_sub [true, false, false, true, false, true, false, true, false, true, true, true, false, false] rfl)
theorem xr_m_filters_460 {d : Nat} {l3 l5 l7 l9 l10 l11 : Int} {m : w_M} {Q : Int → w_M → Prop} (h : if l11 < l5 then (xc_m_good d m (fun r1 m1 => if r1 = 0 then (Q 0 m1) else (xc_m_isName d l7 204 m1 (fun r2 m2 => if r2 = 0 then (xc_m_unhex d m2 (fun r3 m3 => if r3 = 0 then (xp_m_filters_516 d l3 l5 l7 l9 l10 l11 r2 r3 m3 Q) else (xc_m_take2 d (m3 428 38) m3 (fun r4 m4 => xp_m_filters_516 d l3 l5 l7 l9 l10 l11 r2 r3 m4 Q)))) else (xc_m_inflate d m2 (fun r5 m5 => if r5 = 0 then (xp_m_filters_516 d l3 l5 l7 l9 l10 l11 r2 r5 m5 Q) else (xc_m_take2 d (m5 428 38) m5 (fun r6 m6 => xp_m_filters_516 d l3 l5 l7 l9 l10 l11 r2 r5 m6 Q)))))))) else (Q 0 m)) : xp_m_filters_460 d l3 l5 l7 l9 l10 l11 m Q := by
  refine w_iload rfl rfl ?_
  refine w_iload rfl rfl ?_
  refine w_icge rfl (w_ite h (fun h => ?_) (fun h => ?_))
  · refine w_aload_n rfl rfl ?_
    refine w_callV (t' := 0) [] [] rfl s_428 rfl rfl ?_
    refine w_C.more (Q := fun r1 m1 => _) h (fun r1 m1 h => ?_)
    replace h := id h
    refine w_ifeq rfl (w_ite h (fun h => ?_) (fun h => ?_))
    · exact w_vret rfl rfl h
    · refine w_aload_n rfl rfl ?_
      refine w_iload rfl rfl ?_
      refine w_ldcwR rfl ?_
      refine w_callV (t' := 0) [(2, 204), (0, l7)] [] rfl s_428 rfl rfl ?_
      refine w_C.more (Q := fun r2 m2 => _) h (fun r2 m2 h => ?_)
      replace h := id h
      refine w_istore (lv' := [some (2, 428), none, none, some (0, l3), none, some (0, l5), none, some (0, l7), none, some (0, l9), some (0, l10), some (0, l11), some (0, r2), none]) rfl rfl rfl ?_
      refine w_iload rfl rfl ?_
      refine w_ifeq rfl (w_ite h (fun h => ?_) (fun h => ?_))
      · refine w_aload_n rfl rfl ?_
        refine w_callV (t' := 0) [] [] rfl s_428 rfl rfl ?_
        refine w_C.more (Q := fun r3 m3 => _) h (fun r3 m3 h => ?_)
        replace h := id h
        refine w_istore (lv' := [some (2, 428), none, none, some (0, l3), none, some (0, l5), none, some (0, l7), none, some (0, l9), some (0, l10), some (0, l11), some (0, r2), some (0, r3)]) rfl rfl rfl ?_
        refine w_iload rfl rfl ?_
        refine w_ifeq rfl (w_ite h (fun h => ?_) (fun h => ?_))
        · exact w_W.less h (w_sub [true, false, false, true, false, true, false, true, false, true, true, true, true, true] rfl)
        · refine w_aload_n rfl rfl ?_
          refine w_aload_n rfl rfl ?_
          refine x_gfI rfl s_428 rfl (kk := 38) rfl rfl ?_
          refine w_callV (t' := 3) [(0, m3 428 38)] [] rfl s_428 rfl rfl ?_
          refine w_C.more (Q := fun r4 m4 => _) h (fun r4 m4 h => ?_)
          replace h := id h
          exact w_W.less h (w_sub [true, false, false, true, false, true, false, true, false, true, true, true, true, true] rfl)
      · refine w_aload_n rfl rfl ?_
        refine w_callV (t' := 0) [] [] rfl s_428 rfl rfl ?_
        refine w_C.more (Q := fun r5 m5 => _) h (fun r5 m5 h => ?_)
        replace h := id h
        refine w_goto rfl ?_
        refine w_istore (lv' := [some (2, 428), none, none, some (0, l3), none, some (0, l5), none, some (0, l7), none, some (0, l9), some (0, l10), some (0, l11), some (0, r2), some (0, r5)]) rfl rfl rfl ?_
        refine w_iload rfl rfl ?_
        refine w_ifeq rfl (w_ite h (fun h => ?_) (fun h => ?_))
        · exact w_W.less h (w_sub [true, false, false, true, false, true, false, true, false, true, true, true, true, true] rfl)
        · refine w_aload_n rfl rfl ?_
          refine w_aload_n rfl rfl ?_
          refine x_gfI rfl s_428 rfl (kk := 38) rfl rfl ?_
          refine w_callV (t' := 3) [(0, m5 428 38)] [] rfl s_428 rfl rfl ?_
          refine w_C.more (Q := fun r6 m6 => _) h (fun r6 m6 h => ?_)
          replace h := id h
          exact w_W.less h (w_sub [true, false, false, true, false, true, false, true, false, true, true, true, true, true] rfl)
  · exact w_vret rfl rfl h
theorem xr_m_filters_516 {d : Nat} {l3 l5 l7 l9 l10 l11 l12 l13 : Int} {m : w_M} {Q : Int → w_M → Prop} (h : if l13 = 0 then (if l13 = 0 then (xc_m_fail d 8 l3 m (fun r1 m1 => xp_m_filters_599 d l3 l5 l7 l9 l10 l11 m1 Q)) else (xp_m_filters_599 d l3 l5 l7 l9 l10 l11 m Q)) else (if l12 = 0 then (if l13 = 0 then (xc_m_fail d 8 l3 m (fun r2 m2 => xp_m_filters_599 d l3 l5 l7 l9 l10 l11 m2 Q)) else (xp_m_filters_599 d l3 l5 l7 l9 l10 l11 m Q)) else (if l10 < 0 then (if l13 = 0 then (xc_m_fail d 8 l3 m (fun r3 m3 => xp_m_filters_599 d l3 l5 l7 l9 l10 l11 m3 Q)) else (xp_m_filters_599 d l3 l5 l7 l9 l10 l11 m Q)) else (((0 : Int) ≤ l10 ∧ l10 < 40000) ∧ (if (m 432 l10) = 7 then (xc_m_wholeAt d l10 208 1 m (fun r4 m4 => if r4 < 10 then (if l13 = 0 then (xc_m_fail d 8 l3 m4 (fun r5 m5 => xp_m_filters_599 d l3 l5 l7 l9 l10 l11 m5 Q)) else (xp_m_filters_599 d l3 l5 l7 l9 l10 l11 m4 Q)) else (xc_m_wholeAt d l10 210 1 m4 (fun r6 m6 => xc_m_unpredict d r6 m6 (fun r7 m7 => if r7 = 0 then (if r7 = 0 then (xc_m_fail d 8 l3 m7 (fun r8 m8 => xp_m_filters_599 d l3 l5 l7 l9 l10 l11 m8 Q)) else (xp_m_filters_599 d l3 l5 l7 l9 l10 l11 m7 Q)) else (xc_m_take2 d (m7 428 38) m7 (fun r9 m9 => if r7 = 0 then (xc_m_fail d 8 l3 m9 (fun r10 m10 => xp_m_filters_599 d l3 l5 l7 l9 l10 l11 m10 Q)) else (xp_m_filters_599 d l3 l5 l7 l9 l10 l11 m9 Q)))))))) else (if l13 = 0 then (xc_m_fail d 8 l3 m (fun r11 m11 => xp_m_filters_599 d l3 l5 l7 l9 l10 l11 m11 Q)) else (xp_m_filters_599 d l3 l5 l7 l9 l10 l11 m Q))))))) : xp_m_filters_516 d l3 l5 l7 l9 l10 l11 l12 l13 m Q := by
  refine w_iload rfl rfl ?_
  refine w_ifeq rfl (w_ite h (fun h => ?_) (fun h => ?_))
  · refine w_iload rfl rfl ?_
    refine w_ifne rfl (w_ite h (fun h => ?_) (fun h => ?_))
    · refine w_aload_n rfl rfl ?_
      refine w_bipush rfl (by decide) ?_
      refine w_iload_n rfl rfl ?_
      refine w_callV (t' := 3) [(0, l3), (0, 8)] [] rfl s_428 rfl rfl ?_
      refine w_C.more (Q := fun r1 m1 => _) h (fun r1 m1 h => ?_)
      replace h := id h
      exact w_W.less h (w_sub [true, false, false, true, false, true, false, true, false, true, true, true, false, false] rfl)
    · exact w_W.less h (w_sub [true, false, false, true, false, true, false, true, false, true, true, true, false, false] rfl)
  · refine w_iload rfl rfl ?_
    refine w_ifeq rfl (w_ite h (fun h => ?_) (fun h => ?_))
    · refine w_iload rfl rfl ?_
      refine w_ifne rfl (w_ite h (fun h => ?_) (fun h => ?_))
      · refine w_aload_n rfl rfl ?_
        refine w_bipush rfl (by decide) ?_
        refine w_iload_n rfl rfl ?_
        refine w_callV (t' := 3) [(0, l3), (0, 8)] [] rfl s_428 rfl rfl ?_
        refine w_C.more (Q := fun r2 m2 => _) h (fun r2 m2 h => ?_)
        replace h := id h
        exact w_W.less h (w_sub [true, false, false, true, false, true, false, true, false, true, true, true, false, false] rfl)
      · exact w_W.less h (w_sub [true, false, false, true, false, true, false, true, false, true, true, true, false, false] rfl)
    · refine w_iload rfl rfl ?_
      refine w_iflt rfl (w_ite h (fun h => ?_) (fun h => ?_))
      · refine w_iload rfl rfl ?_
        refine w_ifne rfl (w_ite h (fun h => ?_) (fun h => ?_))
        · refine w_aload_n rfl rfl ?_
          refine w_bipush rfl (by decide) ?_
          refine w_iload_n rfl rfl ?_
          refine w_callV (t' := 3) [(0, l3), (0, 8)] [] rfl s_428 rfl rfl ?_
          refine w_C.more (Q := fun r3 m3 => _) h (fun r3 m3 h => ?_)
          replace h := id h
          exact w_W.less h (w_sub [true, false, false, true, false, true, false, true, false, true, true, true, false, false] rfl)
        · exact w_W.less h (w_sub [true, false, false, true, false, true, false, true, false, true, true, true, false, false] rfl)
      · refine w_aload_n rfl rfl ?_
        refine w_gfC (c := 432) rfl s_428 rfl rfl ?_
        refine w_iload rfl rfl ?_
        refine w_bald rfl s_432 (n := 40000) rfl h.1 ?_
        replace h := h.2
        refine w_bipush rfl (by decide) ?_
        refine w_icne rfl (w_ite h (fun h => ?_) (fun h => ?_))
        · refine w_aload_n rfl rfl ?_
          refine w_iload rfl rfl ?_
          refine w_ldcwR rfl ?_
          refine w_iconst rfl (by decide) ?_
          refine w_callV (t' := 0) [(0, 1), (2, 208), (0, l10)] [] rfl s_428 rfl rfl ?_
          refine w_C.more (Q := fun r4 m4 => _) h (fun r4 m4 h => ?_)
          replace h := id h
          refine w_bipush rfl (by decide) ?_
          refine w_iclt rfl (w_ite h (fun h => ?_) (fun h => ?_))
          · refine w_iload rfl rfl ?_
            refine w_ifne rfl (w_ite h (fun h => ?_) (fun h => ?_))
            · refine w_aload_n rfl rfl ?_
              refine w_bipush rfl (by decide) ?_
              refine w_iload_n rfl rfl ?_
              refine w_callV (t' := 3) [(0, l3), (0, 8)] [] rfl s_428 rfl rfl ?_
              refine w_C.more (Q := fun r5 m5 => _) h (fun r5 m5 h => ?_)
              replace h := id h
              exact w_W.less h (w_sub [true, false, false, true, false, true, false, true, false, true, true, true, false, false] rfl)
            · exact w_W.less h (w_sub [true, false, false, true, false, true, false, true, false, true, true, true, false, false] rfl)
          · refine w_aload_n rfl rfl ?_
            refine w_aload_n rfl rfl ?_
            refine w_iload rfl rfl ?_
            refine w_ldcwR rfl ?_
            refine w_iconst rfl (by decide) ?_
            refine w_callV (t' := 0) [(0, 1), (2, 210), (0, l10)] [(2, 428)] rfl s_428 rfl rfl ?_
            refine w_C.more (Q := fun r6 m6 => _) h (fun r6 m6 h => ?_)
            replace h := id h
            refine w_callV (t' := 0) [(0, r6)] [] rfl s_428 rfl rfl ?_
            refine w_C.more (Q := fun r7 m7 => _) h (fun r7 m7 h => ?_)
            replace h := id h
            refine w_istore (lv' := [some (2, 428), none, none, some (0, l3), none, some (0, l5), none, some (0, l7), none, some (0, l9), some (0, l10), some (0, l11), some (0, l12), some (0, r7)]) rfl rfl rfl ?_
            refine w_iload rfl rfl ?_
            refine w_ifeq rfl (w_ite h (fun h => ?_) (fun h => ?_))
            · refine w_iload rfl rfl ?_
              refine w_ifne rfl (w_ite h (fun h => ?_) (fun h => ?_))
              · refine w_aload_n rfl rfl ?_
                refine w_bipush rfl (by decide) ?_
                refine w_iload_n rfl rfl ?_
                refine w_callV (t' := 3) [(0, l3), (0, 8)] [] rfl s_428 rfl rfl ?_
                refine w_C.more (Q := fun r8 m8 => _) h (fun r8 m8 h => ?_)
                replace h := id h
                exact w_W.less h (w_sub [true, false, false, true, false, true, false, true, false, true, true, true, false, false] rfl)
              · exact w_W.less h (w_sub [true, false, false, true, false, true, false, true, false, true, true, true, false, false] rfl)
            · refine w_aload_n rfl rfl ?_
              refine w_aload_n rfl rfl ?_
              refine x_gfI rfl s_428 rfl (kk := 38) rfl rfl ?_
              refine w_callV (t' := 3) [(0, m7 428 38)] [] rfl s_428 rfl rfl ?_
              refine w_C.more (Q := fun r9 m9 => _) h (fun r9 m9 h => ?_)
              replace h := id h
              refine w_iload rfl rfl ?_
              refine w_ifne rfl (w_ite h (fun h => ?_) (fun h => ?_))
              · refine w_aload_n rfl rfl ?_
                refine w_bipush rfl (by decide) ?_
                refine w_iload_n rfl rfl ?_
                refine w_callV (t' := 3) [(0, l3), (0, 8)] [] rfl s_428 rfl rfl ?_
                refine w_C.more (Q := fun r10 m10 => _) h (fun r10 m10 h => ?_)
                replace h := id h
                exact w_W.less h (w_sub [true, false, false, true, false, true, false, true, false, true, true, true, false, false] rfl)
              · exact w_W.less h (w_sub [true, false, false, true, false, true, false, true, false, true, true, true, false, false] rfl)
        · refine w_iload rfl rfl ?_
          refine w_ifne rfl (w_ite h (fun h => ?_) (fun h => ?_))
          · refine w_aload_n rfl rfl ?_
            refine w_bipush rfl (by decide) ?_
            refine w_iload_n rfl rfl ?_
            refine w_callV (t' := 3) [(0, l3), (0, 8)] [] rfl s_428 rfl rfl ?_
            refine w_C.more (Q := fun r11 m11 => _) h (fun r11 m11 h => ?_)
            replace h := id h
            exact w_W.less h (w_sub [true, false, false, true, false, true, false, true, false, true, true, true, false, false] rfl)
          · exact w_W.less h (w_sub [true, false, false, true, false, true, false, true, false, true, true, true, false, false] rfl)
theorem xr_m_filters_599 {d : Nat} {l3 l5 l7 l9 l10 l11 : Int} {m : w_M} {Q : Int → w_M → Prop} (h : if l9 = 0 then (((0 : Int) ≤ l7 ∧ l7 < 40000) ∧ (xp_m_filters_460 d l3 l5 (m 437 l7) l9 l10 (w_32 (l11 + 1)) m Q)) else (((0 : Int) ≤ l10 ∧ l10 < 40000) ∧ (((0 : Int) ≤ l7 ∧ l7 < 40000) ∧ (xp_m_filters_460 d l3 l5 (m 437 l7) l9 (m 437 l10) (w_32 (l11 + 1)) m Q)))) : xp_m_filters_599 d l3 l5 l7 l9 l10 l11 m Q := by
  refine w_iload rfl rfl ?_
  refine w_ifeq rfl (w_ite h (fun h => ?_) (fun h => ?_))
  · refine w_iload rfl rfl ?_
    refine w_istore (lv' := [some (2, 428), none, none, some (0, l3), none, some (0, l5), none, some (0, l7), none, some (0, l9), some (0, l10), some (0, l11), none, none]) rfl rfl rfl ?_
    refine w_aload_n rfl rfl ?_
    refine w_gfC (c := 437) rfl s_428 rfl rfl ?_
    refine w_iload rfl rfl ?_
    refine w_iald rfl s_437 (n := 40000) rfl h.1 ?_
    replace h := h.2
    refine w_istore (lv' := [some (2, 428), none, none, some (0, l3), none, some (0, l5), none, some (0, m 437 l7), none, some (0, l9), some (0, l10), some (0, l11), none, none]) rfl rfl rfl ?_
    refine w_iinc (lv' := [some (2, 428), none, none, some (0, l3), none, some (0, l5), none, some (0, m 437 l7), none, some (0, l9), some (0, l10), some (0, w_32 (l11 + 1)), none, none]) rfl rfl rfl rfl ?_
    refine w_goto rfl ?_
    exact w_W.less h (w_sub [true, false, false, true, false, true, false, true, false, true, true, true, false, false] rfl)
  · refine w_aload_n rfl rfl ?_
    refine w_gfC (c := 437) rfl s_428 rfl rfl ?_
    refine w_iload rfl rfl ?_
    refine w_iald rfl s_437 (n := 40000) rfl h.1 ?_
    replace h := h.2
    refine w_goto rfl ?_
    refine w_istore (lv' := [some (2, 428), none, none, some (0, l3), none, some (0, l5), none, some (0, l7), none, some (0, l9), some (0, m 437 l10), some (0, l11), none, none]) rfl rfl rfl ?_
    refine w_aload_n rfl rfl ?_
    refine w_gfC (c := 437) rfl s_428 rfl rfl ?_
    refine w_iload rfl rfl ?_
    refine w_iald rfl s_437 (n := 40000) rfl h.1 ?_
    replace h := h.2
    refine w_istore (lv' := [some (2, 428), none, none, some (0, l3), none, some (0, l5), none, some (0, m 437 l7), none, some (0, l9), some (0, m 437 l10), some (0, l11), none, none]) rfl rfl rfl ?_
    refine w_iinc (lv' := [some (2, 428), none, none, some (0, l3), none, some (0, l5), none, some (0, m 437 l7), none, some (0, l9), some (0, m 437 l10), some (0, w_32 (l11 + 1)), none, none]) rfl rfl rfl rfl ?_
    refine w_goto rfl ?_
    exact w_W.less h (w_sub [true, false, false, true, false, true, false, true, false, true, true, true, false, false] rfl)
theorem xr_m_finish {d : Nat} {l1 : Int} {m : w_M} {Q : Int → w_M → Prop} (h : xc_m_sayText d 212 m (fun r1 m1 => xc_m_sayNumber d l1 m1 (fun r2 m2 => xc_m_sayText d 214 m2 (fun r3 m3 => if 30000 < (m3 428 5) then (Q (-1) (w_up m3 428 5 0)) else (Q (m3 428 5) m3))))) : xc_m_finish (d + 1) l1 m Q := by
  refine w_enter (q := 0) (lv := [some (2, 428), some (0, l1)]) rfl rfl rfl ?_
  refine w_aload_n rfl rfl ?_
  refine w_ldcwR rfl ?_
  refine w_callV (t' := 3) [(2, 212)] [] rfl s_428 rfl rfl ?_
  refine w_C.more (Q := fun r1 m1 => _) h (fun r1 m1 h => ?_)
  replace h := id h
  refine w_aload_n rfl rfl ?_
  refine w_iload_n rfl rfl ?_
  refine w_i2l rfl ?_
  refine w_callV (t' := 3) [(1, l1)] [] rfl s_428 rfl rfl ?_
  refine w_C.more (Q := fun r2 m2 => _) h (fun r2 m2 h => ?_)
  replace h := id h
  refine w_aload_n rfl rfl ?_
  refine w_ldcwR rfl ?_
  refine w_callV (t' := 3) [(2, 214)] [] rfl s_428 rfl rfl ?_
  refine w_C.more (Q := fun r3 m3 => _) h (fun r3 m3 h => ?_)
  replace h := id h
  refine w_aload_n rfl rfl ?_
  refine x_gfI rfl s_428 rfl (kk := 5) rfl rfl ?_
  refine w_sipush rfl (by decide) ?_
  refine w_icle rfl (w_ite h (fun h => ?_) (fun h => ?_))
  · refine w_aload_n rfl rfl ?_
    refine w_iconst rfl (by decide) ?_
    refine w_pfI rfl s_428 rfl (w_EM (by decide)) rfl (kk := 5) rfl ?_
    refine w_iconst rfl (by decide) ?_
    exact w_iret rfl rfl h
  · refine w_aload_n rfl rfl ?_
    refine x_gfI rfl s_428 rfl (kk := 5) rfl rfl ?_
    exact w_iret rfl rfl h
theorem xr_m_fixed {d : Nat} {m : w_M} {Q : Int → w_M → Prop} (h : xp_m_fixed_2 d 0 m Q) : xc_m_fixed (d + 1) m Q := by
  refine w_enter (q := 1) (lv := [some (2, 428), none]) rfl rfl rfl ?_
  refine w_iconst rfl (by decide) ?_
  refine w_istore_n (lv' := [some (2, 428), some (0, 0)]) rfl rfl rfl ?_
  exact w_W.less h (w_sub [true, true] rfl)
theorem xr_m_fixed_2 {d : Nat} {l1 : Int} {m : w_M} {Q : Int → w_M → Prop} (h : if l1 < 288 then (if l1 < 144 then (((0 : Int) ≤ l1 ∧ l1 < 320) ∧ (xp_m_fixed_2 d (w_32 (l1 + 1)) (w_up m 444 l1 8) Q)) else (if l1 < 256 then (((0 : Int) ≤ l1 ∧ l1 < 320) ∧ (xp_m_fixed_2 d (w_32 (l1 + 1)) (w_up m 444 l1 9) Q)) else (if l1 < 280 then (((0 : Int) ≤ l1 ∧ l1 < 320) ∧ (xp_m_fixed_2 d (w_32 (l1 + 1)) (w_up m 444 l1 7) Q)) else (((0 : Int) ≤ l1 ∧ l1 < 320) ∧ (xp_m_fixed_2 d (w_32 (l1 + 1)) (w_up m 444 l1 8) Q))))) else (xc_m_build d 0 288 445 446 m (fun r1 m1 => xp_m_fixed_78 d 0 m1 Q))) : xp_m_fixed_2 d l1 m Q := by
  refine w_iload_n rfl rfl ?_
  refine w_sipush rfl (by decide) ?_
  refine w_icge rfl (w_ite h (fun h => ?_) (fun h => ?_))
  · refine w_aload_n rfl rfl ?_
    refine w_gfC (c := 444) rfl s_428 rfl rfl ?_
    refine w_iload_n rfl rfl ?_
    refine w_iload_n rfl rfl ?_
    refine w_sipush rfl (by decide) ?_
    refine w_icge rfl (w_ite h (fun h => ?_) (fun h => ?_))
    · refine w_bipush rfl (by decide) ?_
      refine w_goto rfl ?_
      refine w_iast rfl s_444 (w_EM (by decide)) (n := 320) rfl h.1 ?_
      replace h := h.2
      refine w_iinc (lv' := [some (2, 428), some (0, w_32 (l1 + 1))]) rfl rfl rfl rfl ?_
      refine w_goto rfl ?_
      exact w_W.less h (w_sub [true, true] rfl)
    · refine w_iload_n rfl rfl ?_
      refine w_sipush rfl (by decide) ?_
      refine w_icge rfl (w_ite h (fun h => ?_) (fun h => ?_))
      · refine w_bipush rfl (by decide) ?_
        refine w_goto rfl ?_
        refine w_iast rfl s_444 (w_EM (by decide)) (n := 320) rfl h.1 ?_
        replace h := h.2
        refine w_iinc (lv' := [some (2, 428), some (0, w_32 (l1 + 1))]) rfl rfl rfl rfl ?_
        refine w_goto rfl ?_
        exact w_W.less h (w_sub [true, true] rfl)
      · refine w_iload_n rfl rfl ?_
        refine w_sipush rfl (by decide) ?_
        refine w_icge rfl (w_ite h (fun h => ?_) (fun h => ?_))
        · refine w_bipush rfl (by decide) ?_
          refine w_goto rfl ?_
          refine w_iast rfl s_444 (w_EM (by decide)) (n := 320) rfl h.1 ?_
          replace h := h.2
          refine w_iinc (lv' := [some (2, 428), some (0, w_32 (l1 + 1))]) rfl rfl rfl rfl ?_
          refine w_goto rfl ?_
          exact w_W.less h (w_sub [true, true] rfl)
        · refine w_bipush rfl (by decide) ?_
          refine w_iast rfl s_444 (w_EM (by decide)) (n := 320) rfl h.1 ?_
          replace h := h.2
          refine w_iinc (lv' := [some (2, 428), some (0, w_32 (l1 + 1))]) rfl rfl rfl rfl ?_
          refine w_goto rfl ?_
          exact w_W.less h (w_sub [true, true] rfl)
  · refine w_aload_n rfl rfl ?_
    refine w_iconst rfl (by decide) ?_
    refine w_sipush rfl (by decide) ?_
    refine w_aload_n rfl rfl ?_
    refine w_gfC (c := 445) rfl s_428 rfl rfl ?_
    refine w_aload_n rfl rfl ?_
    refine w_gfC (c := 446) rfl s_428 rfl rfl ?_
    refine w_callV (t' := 0) [(2, 446), (2, 445), (0, 288), (0, 0)] [] rfl s_428 rfl rfl ?_
    refine w_C.more (Q := fun r1 m1 => _) h (fun r1 m1 h => ?_)
    replace h := id h
    refine w_pop rfl (show (0 : Nat) ≠ 1 by decide) ?_
    refine w_iconst rfl (by decide) ?_
    refine w_istore_n (lv' := [some (2, 428), some (0, 0)]) rfl rfl rfl ?_
    exact w_W.less h (w_sub [true, true] rfl)
theorem xr_m_fixed_78 {d : Nat} {l1 : Int} {m : w_M} {Q : Int → w_M → Prop} (h : if l1 < 30 then (((0 : Int) ≤ l1 ∧ l1 < 320) ∧ (xp_m_fixed_78 d (w_32 (l1 + 1)) (w_up m 444 l1 5) Q)) else (xc_m_build d 0 30 447 448 m (fun r1 m1 => Q 0 m1))) : xp_m_fixed_78 d l1 m Q := by
  refine w_iload_n rfl rfl ?_
  refine w_bipush rfl (by decide) ?_
  refine w_icge rfl (w_ite h (fun h => ?_) (fun h => ?_))
  · refine w_aload_n rfl rfl ?_
    refine w_gfC (c := 444) rfl s_428 rfl rfl ?_
    refine w_iload_n rfl rfl ?_
    refine w_iconst rfl (by decide) ?_
    refine w_iast rfl s_444 (w_EM (by decide)) (n := 320) rfl h.1 ?_
    replace h := h.2
    refine w_iinc (lv' := [some (2, 428), some (0, w_32 (l1 + 1))]) rfl rfl rfl rfl ?_
    refine w_goto rfl ?_
    exact w_W.less h (w_sub [true, true] rfl)
  · refine w_aload_n rfl rfl ?_
    refine w_iconst rfl (by decide) ?_
    refine w_bipush rfl (by decide) ?_
    refine w_aload_n rfl rfl ?_
    refine w_gfC (c := 447) rfl s_428 rfl rfl ?_
    refine w_aload_n rfl rfl ?_
    refine w_gfC (c := 448) rfl s_428 rfl rfl ?_
    refine w_callV (t' := 0) [(2, 448), (2, 447), (0, 30), (0, 0)] [] rfl s_428 rfl rfl ?_
    refine w_C.more (Q := fun r1 m1 => _) h (fun r1 m1 h => ?_)
    replace h := id h
    refine w_pop rfl (show (0 : Nat) ≠ 1 by decide) ?_
    exact w_vret rfl rfl h
theorem xr_m_font {d : Nat} {m : w_M} {Q : Int → w_M → Prop} (h : if (m 428 107) < 0 then (xp_m_font_52 d (m 473 0) (-1) (-1) m Q) else (xc_m_rawEntry d (m 428 107) 216 m (fun r1 m1 => xc_m_dictAt d r1 m1 (fun r2 m2 => if r2 < 0 then (xp_m_font_52 d (m2 473 0) (-1) (-1) m2 Q) else (((0 : Int) ≤ r2 ∧ r2 < 40000) ∧ (xp_m_font_52 d (m2 473 0) (-1) (m2 436 r2) m2 Q)))))) : xc_m_font (d + 1) m Q := by
  refine w_enter (q := 10) (lv := [some (2, 428), none, none, none, none, none, none, none, none, none, none]) rfl rfl rfl ?_
  refine w_aload_n rfl rfl ?_
  refine x_gfI rfl s_428 rfl (kk := 107) rfl rfl ?_
  refine w_ifge rfl (w_ite h (fun h => ?_) (fun h => ?_))
  · refine w_iconst rfl (by decide) ?_
    refine w_goto rfl ?_
    refine w_istore_n (lv' := [some (2, 428), some (0, (-1)), none, none, none, none, none, none, none, none, none]) rfl rfl rfl ?_
    refine w_aload_n rfl rfl ?_
    refine w_gfC (c := 473) rfl s_428 rfl rfl ?_
    refine w_iconst rfl (by decide) ?_
    refine w_iald rfl s_473 (n := 40) rfl (by decide) ?_
    refine w_istore_n (lv' := [some (2, 428), some (0, (-1)), some (0, m 473 0), none, none, none, none, none, none, none, none]) rfl rfl rfl ?_
    refine w_iconst rfl (by decide) ?_
    refine w_istore_n (lv' := [some (2, 428), some (0, (-1)), some (0, m 473 0), some (0, (-1)), none, none, none, none, none, none, none]) rfl rfl rfl ?_
    refine w_iload_n rfl rfl ?_
    refine w_ifge rfl (w_ift (by decide) ?_)
    refine w_iconst rfl (by decide) ?_
    refine w_goto rfl ?_
    refine w_istore (lv' := [some (2, 428), some (0, (-1)), some (0, m 473 0), some (0, (-1)), some (0, (-1)), none, none, none, none, none, none]) rfl rfl rfl ?_
    exact w_W.less h (w_sub [true, false, true, true, true, false, false, false, false, false, false] rfl)
  · refine w_aload_n rfl rfl ?_
    refine w_aload_n rfl rfl ?_
    refine w_aload_n rfl rfl ?_
    refine x_gfI rfl s_428 rfl (kk := 107) rfl rfl ?_
    refine w_ldcwR rfl ?_
    refine w_callV (t' := 0) [(2, 216), (0, m 428 107)] [(2, 428)] rfl s_428 rfl rfl ?_
    refine w_C.more (Q := fun r1 m1 => _) h (fun r1 m1 h => ?_)
    replace h := id h
    refine w_callV (t' := 0) [(0, r1)] [] rfl s_428 rfl rfl ?_
    refine w_C.more (Q := fun r2 m2 => _) h (fun r2 m2 h => ?_)
    replace h := id h
    refine w_istore_n (lv' := [some (2, 428), some (0, r2), none, none, none, none, none, none, none, none, none]) rfl rfl rfl ?_
    refine w_aload_n rfl rfl ?_
    refine w_gfC (c := 473) rfl s_428 rfl rfl ?_
    refine w_iconst rfl (by decide) ?_
    refine w_iald rfl s_473 (n := 40) rfl (by decide) ?_
    refine w_istore_n (lv' := [some (2, 428), some (0, r2), some (0, m2 473 0), none, none, none, none, none, none, none, none]) rfl rfl rfl ?_
    refine w_iconst rfl (by decide) ?_
    refine w_istore_n (lv' := [some (2, 428), some (0, r2), some (0, m2 473 0), some (0, (-1)), none, none, none, none, none, none, none]) rfl rfl rfl ?_
    refine w_iload_n rfl rfl ?_
    refine w_ifge rfl (w_ite h (fun h => ?_) (fun h => ?_))
    · refine w_iconst rfl (by decide) ?_
      refine w_goto rfl ?_
      refine w_istore (lv' := [some (2, 428), some (0, r2), some (0, m2 473 0), some (0, (-1)), some (0, (-1)), none, none, none, none, none, none]) rfl rfl rfl ?_
      exact w_W.less h (w_sub [true, false, true, true, true, false, false, false, false, false, false] rfl)
    · refine w_aload_n rfl rfl ?_
      refine w_gfC (c := 436) rfl s_428 rfl rfl ?_
      refine w_iload_n rfl rfl ?_
      refine w_iald rfl s_436 (n := 40000) rfl h.1 ?_
      replace h := h.2
      refine w_istore (lv' := [some (2, 428), some (0, r2), some (0, m2 473 0), some (0, (-1)), some (0, m2 436 r2), none, none, none, none, none, none]) rfl rfl rfl ?_
      exact w_W.less h (w_sub [true, false, true, true, true, false, false, false, false, false, false] rfl)
theorem xr_m_font_52 {d : Nat} {l2 l3 l4 : Int} {m : w_M} {Q : Int → w_M → Prop} (h : if l4 < 0 then (xc_m_dictAt d l3 m (fun r1 m1 => if r1 < 0 then (xp_m_font_188 d r1 0 m1 Q) else (xp_m_font_188 d r1 (m1 428 80) m1 Q))) else (((0 : Int) ≤ l4 ∧ l4 < 40000) ∧ (((0 : Int) ≤ l2 ∧ l2 < 40000) ∧ (if (m 439 l4) = (m 435 l2) then (xp_m_font_83 d l2 l3 l4 1 0 m Q) else (xp_m_font_83 d l2 l3 l4 0 0 m Q))))) : xp_m_font_52 d l2 l3 l4 m Q := by
  refine w_iload rfl rfl ?_
  refine w_iflt rfl (w_ite h (fun h => ?_) (fun h => ?_))
  · refine w_aload_n rfl rfl ?_
    refine w_iload_n rfl rfl ?_
    refine w_callV (t' := 0) [(0, l3)] [] rfl s_428 rfl rfl ?_
    refine w_C.more (Q := fun r1 m1 => _) h (fun r1 m1 h => ?_)
    replace h := id h
    refine w_istore (lv' := [some (2, 428), none, some (0, l2), some (0, l3), some (0, r1), none, none, none, none, none, none]) rfl rfl rfl ?_
    refine w_iload rfl rfl ?_
    refine w_ifge rfl (w_ite h (fun h => ?_) (fun h => ?_))
    · refine w_iconst rfl (by decide) ?_
      refine w_goto rfl ?_
      exact w_W.less h (w_sub [true, false, false, false, true, false, false, false, false, false, false] rfl)
    · refine w_aload_n rfl rfl ?_
      refine x_gfI rfl s_428 rfl (kk := 80) rfl rfl ?_
      exact w_W.less h (w_sub [true, false, false, false, true, false, false, false, false, false, false] rfl)
  · refine w_aload_n rfl rfl ?_
    refine w_gfC (c := 439) rfl s_428 rfl rfl ?_
    refine w_iload rfl rfl ?_
    refine w_iald rfl s_439 (n := 40000) rfl h.1 ?_
    replace h := h.2
    refine w_aload_n rfl rfl ?_
    refine w_gfC (c := 435) rfl s_428 rfl rfl ?_
    refine w_iload_n rfl rfl ?_
    refine w_iald rfl s_435 (n := 40000) rfl h.1 ?_
    replace h := h.2
    refine w_icne rfl (w_ite h (fun h => ?_) (fun h => ?_))
    · refine w_iconst rfl (by decide) ?_
      refine w_goto rfl ?_
      refine w_istore (lv' := [some (2, 428), none, some (0, l2), some (0, l3), some (0, l4), some (0, 1), none, none, none, none, none]) rfl rfl rfl ?_
      refine w_iconst rfl (by decide) ?_
      refine w_istore (lv' := [some (2, 428), none, some (0, l2), some (0, l3), some (0, l4), some (0, 1), some (0, 0), none, none, none, none]) rfl rfl rfl ?_
      exact w_W.less h (w_sub [true, false, true, true, true, true, true, false, false, false, false] rfl)
    · refine w_iconst rfl (by decide) ?_
      refine w_istore (lv' := [some (2, 428), none, some (0, l2), some (0, l3), some (0, l4), some (0, 0), none, none, none, none, none]) rfl rfl rfl ?_
      refine w_iconst rfl (by decide) ?_
      refine w_istore (lv' := [some (2, 428), none, some (0, l2), some (0, l3), some (0, l4), some (0, 0), some (0, 0), none, none, none, none]) rfl rfl rfl ?_
      exact w_W.less h (w_sub [true, false, true, true, true, true, true, false, false, false, false] rfl)
theorem xr_m_font_83 {d : Nat} {l2 l3 l4 l5 l6 : Int} {m : w_M} {Q : Int → w_M → Prop} (h : ((0 : Int) ≤ l2 ∧ l2 < 40000) ∧ (if l6 < (m 435 l2) then (if l5 = 0 then (if l5 = 0 then (((0 : Int) ≤ l4 ∧ l4 < 40000) ∧ (xp_m_font_52 d l2 l3 (m 437 l4) m Q)) else (((0 : Int) ≤ l4 ∧ l4 < 40000) ∧ (xp_m_font_52 d l2 l4 (m 437 l4) m Q))) else (((0 : Int) ≤ l4 ∧ l4 < 40000) ∧ (((0 : Int) ≤ (w_32 ((m 438 l4) + l6)) ∧ (w_32 ((m 438 l4) + l6)) < 150000) ∧ (((0 : Int) ≤ l2 ∧ l2 < 40000) ∧ (((0 : Int) ≤ (w_32 ((m 436 l2) + l6)) ∧ (w_32 ((m 436 l2) + l6)) < 150000) ∧ (if (m 440 (w_32 ((m 438 l4) + l6))) = (m 440 (w_32 ((m 436 l2) + l6))) then (xp_m_font_83 d l2 l3 l4 1 (w_32 (l6 + 1)) m Q) else (xp_m_font_83 d l2 l3 l4 0 (w_32 (l6 + 1)) m Q))))))) else (if l5 = 0 then (((0 : Int) ≤ l4 ∧ l4 < 40000) ∧ (xp_m_font_52 d l2 l3 (m 437 l4) m Q)) else (((0 : Int) ≤ l4 ∧ l4 < 40000) ∧ (xp_m_font_52 d l2 l4 (m 437 l4) m Q))))) : xp_m_font_83 d l2 l3 l4 l5 l6 m Q := by
  refine w_iload rfl rfl ?_
  refine w_aload_n rfl rfl ?_
  refine w_gfC (c := 435) rfl s_428 rfl rfl ?_
  refine w_iload_n rfl rfl ?_
  refine w_iald rfl s_435 (n := 40000) rfl h.1 ?_
  replace h := h.2
  refine w_icge rfl (w_ite h (fun h => ?_) (fun h => ?_))
  · refine w_iload rfl rfl ?_
    refine w_ifeq rfl (w_ite h (fun h => ?_) (fun h => ?_))
    · refine w_iload rfl rfl ?_
      refine w_ifeq rfl (w_ite h (fun h => ?_) (fun h => ?_))
      · refine w_iload_n rfl rfl ?_
        refine w_istore_n (lv' := [some (2, 428), none, some (0, l2), some (0, l3), some (0, l4), some (0, l5), some (0, l6), none, none, none, none]) rfl rfl rfl ?_
        refine w_aload_n rfl rfl ?_
        refine w_gfC (c := 437) rfl s_428 rfl rfl ?_
        refine w_iload rfl rfl ?_
        refine w_iald rfl s_437 (n := 40000) rfl h.1 ?_
        replace h := h.2
        refine w_istore (lv' := [some (2, 428), none, some (0, l2), some (0, l3), some (0, m 437 l4), some (0, l5), some (0, l6), none, none, none, none]) rfl rfl rfl ?_
        refine w_goto rfl ?_
        exact w_W.less h (w_sub [true, false, true, true, true, false, false, false, false, false, false] rfl)
      · refine w_iload rfl rfl ?_
        refine w_goto rfl ?_
        refine w_istore_n (lv' := [some (2, 428), none, some (0, l2), some (0, l4), some (0, l4), some (0, l5), some (0, l6), none, none, none, none]) rfl rfl rfl ?_
        refine w_aload_n rfl rfl ?_
        refine w_gfC (c := 437) rfl s_428 rfl rfl ?_
        refine w_iload rfl rfl ?_
        refine w_iald rfl s_437 (n := 40000) rfl h.1 ?_
        replace h := h.2
        refine w_istore (lv' := [some (2, 428), none, some (0, l2), some (0, l4), some (0, m 437 l4), some (0, l5), some (0, l6), none, none, none, none]) rfl rfl rfl ?_
        refine w_goto rfl ?_
        exact w_W.less h (w_sub [true, false, true, true, true, false, false, false, false, false, false] rfl)
    · refine w_aload_n rfl rfl ?_
      refine w_gfC (c := 440) rfl s_428 rfl rfl ?_
      refine w_aload_n rfl rfl ?_
      refine w_gfC (c := 438) rfl s_428 rfl rfl ?_
      refine w_iload rfl rfl ?_
      refine w_iald rfl s_438 (n := 40000) rfl h.1 ?_
      replace h := h.2
      refine w_iload rfl rfl ?_
      refine w_iadd rfl ?_
      refine w_bald rfl s_440 (n := 150000) rfl h.1 ?_
      replace h := h.2
      refine w_aload_n rfl rfl ?_
      refine w_gfC (c := 440) rfl s_428 rfl rfl ?_
      refine w_aload_n rfl rfl ?_
      refine w_gfC (c := 436) rfl s_428 rfl rfl ?_
      refine w_iload_n rfl rfl ?_
      refine w_iald rfl s_436 (n := 40000) rfl h.1 ?_
      replace h := h.2
      refine w_iload rfl rfl ?_
      refine w_iadd rfl ?_
      refine w_bald rfl s_440 (n := 150000) rfl h.1 ?_
      replace h := h.2
      refine w_icne rfl (w_ite h (fun h => ?_) (fun h => ?_))
      · refine w_iconst rfl (by decide) ?_
        refine w_goto rfl ?_
        refine w_istore (lv' := [some (2, 428), none, some (0, l2), some (0, l3), some (0, l4), some (0, 1), some (0, l6), none, none, none, none]) rfl rfl rfl ?_
        refine w_iinc (lv' := [some (2, 428), none, some (0, l2), some (0, l3), some (0, l4), some (0, 1), some (0, w_32 (l6 + 1)), none, none, none, none]) rfl rfl rfl rfl ?_
        refine w_goto rfl ?_
        exact w_W.less h (w_sub [true, false, true, true, true, true, true, false, false, false, false] rfl)
      · refine w_iconst rfl (by decide) ?_
        refine w_istore (lv' := [some (2, 428), none, some (0, l2), some (0, l3), some (0, l4), some (0, 0), some (0, l6), none, none, none, none]) rfl rfl rfl ?_
        refine w_iinc (lv' := [some (2, 428), none, some (0, l2), some (0, l3), some (0, l4), some (0, 0), some (0, w_32 (l6 + 1)), none, none, none, none]) rfl rfl rfl rfl ?_
        refine w_goto rfl ?_
        exact w_W.less h (w_sub [true, false, true, true, true, true, true, false, false, false, false] rfl)
  · refine w_iload rfl rfl ?_
    refine w_ifeq rfl (w_ite h (fun h => ?_) (fun h => ?_))
    · refine w_iload_n rfl rfl ?_
      refine w_istore_n (lv' := [some (2, 428), none, some (0, l2), some (0, l3), some (0, l4), some (0, l5), some (0, l6), none, none, none, none]) rfl rfl rfl ?_
      refine w_aload_n rfl rfl ?_
      refine w_gfC (c := 437) rfl s_428 rfl rfl ?_
      refine w_iload rfl rfl ?_
      refine w_iald rfl s_437 (n := 40000) rfl h.1 ?_
      replace h := h.2
      refine w_istore (lv' := [some (2, 428), none, some (0, l2), some (0, l3), some (0, m 437 l4), some (0, l5), some (0, l6), none, none, none, none]) rfl rfl rfl ?_
      refine w_goto rfl ?_
      exact w_W.less h (w_sub [true, false, true, true, true, false, false, false, false, false, false] rfl)
    · refine w_iload rfl rfl ?_
      refine w_goto rfl ?_
      refine w_istore_n (lv' := [some (2, 428), none, some (0, l2), some (0, l4), some (0, l4), some (0, l5), some (0, l6), none, none, none, none]) rfl rfl rfl ?_
      refine w_aload_n rfl rfl ?_
      refine w_gfC (c := 437) rfl s_428 rfl rfl ?_
      refine w_iload rfl rfl ?_
      refine w_iald rfl s_437 (n := 40000) rfl h.1 ?_
      replace h := h.2
      refine w_istore (lv' := [some (2, 428), none, some (0, l2), some (0, l4), some (0, m 437 l4), some (0, l5), some (0, l6), none, none, none, none]) rfl rfl rfl ?_
      refine w_goto rfl ?_
      exact w_W.less h (w_sub [true, false, true, true, true, false, false, false, false, false, false] rfl)
theorem xr_m_font_188 {d : Nat} {l4 s0 : Int} {m : w_M} {Q : Int → w_M → Prop} (h : if l4 < 0 then (xp_m_font_239 d l4 s0 0 (-1) m Q) else (xc_m_entry d l4 218 m (fun r1 m1 => xc_m_isName d r1 216 m1 (fun r2 m2 => if r2 = 0 then (xp_m_font_239 d l4 s0 0 (-1) m2 Q) else (xc_m_entry d l4 220 m2 (fun r3 m3 => xp_m_font_239 d l4 s0 1 r3 m3 Q)))))) : xp_m_font_188 d l4 s0 m Q := by
  refine w_istore (lv' := [some (2, 428), none, none, none, some (0, l4), some (0, s0), none, none, none, none, none]) rfl rfl rfl ?_
  refine w_iload rfl rfl ?_
  refine w_iflt rfl (w_ite h (fun h => ?_) (fun h => ?_))
  · refine w_iconst rfl (by decide) ?_
    refine w_istore (lv' := [some (2, 428), none, none, none, some (0, l4), some (0, s0), some (0, 0), none, none, none, none]) rfl rfl rfl ?_
    refine w_iload rfl rfl ?_
    refine w_ifeq rfl (w_ift (by decide) ?_)
    refine w_iconst rfl (by decide) ?_
    exact w_W.less h (w_sub [true, false, false, false, true, true, true, false, false, false, false] rfl)
  · refine w_aload_n rfl rfl ?_
    refine w_aload_n rfl rfl ?_
    refine w_iload rfl rfl ?_
    refine w_ldcwR rfl ?_
    refine w_callV (t' := 0) [(2, 218), (0, l4)] [(2, 428)] rfl s_428 rfl rfl ?_
    refine w_C.more (Q := fun r1 m1 => _) h (fun r1 m1 h => ?_)
    replace h := id h
    refine w_ldcwR rfl ?_
    refine w_callV (t' := 0) [(2, 216), (0, r1)] [] rfl s_428 rfl rfl ?_
    refine w_C.more (Q := fun r2 m2 => _) h (fun r2 m2 h => ?_)
    replace h := id h
    refine w_ifeq rfl (w_ite h (fun h => ?_) (fun h => ?_))
    · refine w_iconst rfl (by decide) ?_
      refine w_istore (lv' := [some (2, 428), none, none, none, some (0, l4), some (0, s0), some (0, 0), none, none, none, none]) rfl rfl rfl ?_
      refine w_iload rfl rfl ?_
      refine w_ifeq rfl (w_ift (by decide) ?_)
      refine w_iconst rfl (by decide) ?_
      exact w_W.less h (w_sub [true, false, false, false, true, true, true, false, false, false, false] rfl)
    · refine w_iconst rfl (by decide) ?_
      refine w_goto rfl ?_
      refine w_istore (lv' := [some (2, 428), none, none, none, some (0, l4), some (0, s0), some (0, 1), none, none, none, none]) rfl rfl rfl ?_
      refine w_iload rfl rfl ?_
      refine w_ifeq rfl (w_iff (by decide) ?_)
      refine w_aload_n rfl rfl ?_
      refine w_iload rfl rfl ?_
      refine w_ldcwR rfl ?_
      refine w_callV (t' := 0) [(2, 220), (0, l4)] [] rfl s_428 rfl rfl ?_
      refine w_C.more (Q := fun r3 m3 => _) h (fun r3 m3 h => ?_)
      replace h := id h
      refine w_goto rfl ?_
      exact w_W.less h (w_sub [true, false, false, false, true, true, true, false, false, false, false] rfl)
theorem xr_m_font_239 {d : Nat} {l4 l5 l6 s0 : Int} {m : w_M} {Q : Int → w_M → Prop} (h : if l6 = 0 then (if l6 = 0 then (xp_m_font_279 d l4 l5 s0 (-1) (-1) m Q) else (xc_m_entry d l4 224 m (fun r1 m1 => xp_m_font_279 d l4 l5 s0 (-1) r1 m1 Q))) else (xc_m_entry d l4 222 m (fun r2 m2 => if l6 = 0 then (xp_m_font_279 d l4 l5 s0 r2 (-1) m2 Q) else (xc_m_entry d l4 224 m2 (fun r3 m3 => xp_m_font_279 d l4 l5 s0 r2 r3 m3 Q))))) : xp_m_font_239 d l4 l5 l6 s0 m Q := by
  refine w_istore (lv' := [some (2, 428), none, none, none, some (0, l4), some (0, l5), some (0, l6), some (0, s0), none, none, none]) rfl rfl rfl ?_
  refine w_iload rfl rfl ?_
  refine w_ifeq rfl (w_ite h (fun h => ?_) (fun h => ?_))
  · refine w_iconst rfl (by decide) ?_
    refine w_istore (lv' := [some (2, 428), none, none, none, some (0, l4), some (0, l5), some (0, l6), some (0, s0), some (0, (-1)), none, none]) rfl rfl rfl ?_
    refine w_iload rfl rfl ?_
    refine w_ifeq rfl (w_ite h (fun h => ?_) (fun h => ?_))
    · refine w_iconst rfl (by decide) ?_
      exact w_W.less h (w_sub [true, false, false, false, true, true, false, true, true, false, false] rfl)
    · refine w_aload_n rfl rfl ?_
      refine w_iload rfl rfl ?_
      refine w_ldcwR rfl ?_
      refine w_callV (t' := 0) [(2, 224), (0, l4)] [] rfl s_428 rfl rfl ?_
      refine w_C.more (Q := fun r1 m1 => _) h (fun r1 m1 h => ?_)
      replace h := id h
      refine w_goto rfl ?_
      exact w_W.less h (w_sub [true, false, false, false, true, true, false, true, true, false, false] rfl)
  · refine w_aload_n rfl rfl ?_
    refine w_iload rfl rfl ?_
    refine w_ldcwR rfl ?_
    refine w_callV (t' := 0) [(2, 222), (0, l4)] [] rfl s_428 rfl rfl ?_
    refine w_C.more (Q := fun r2 m2 => _) h (fun r2 m2 h => ?_)
    replace h := id h
    refine w_goto rfl ?_
    refine w_istore (lv' := [some (2, 428), none, none, none, some (0, l4), some (0, l5), some (0, l6), some (0, s0), some (0, r2), none, none]) rfl rfl rfl ?_
    refine w_iload rfl rfl ?_
    refine w_ifeq rfl (w_ite h (fun h => ?_) (fun h => ?_))
    · refine w_iconst rfl (by decide) ?_
      exact w_W.less h (w_sub [true, false, false, false, true, true, false, true, true, false, false] rfl)
    · refine w_aload_n rfl rfl ?_
      refine w_iload rfl rfl ?_
      refine w_ldcwR rfl ?_
      refine w_callV (t' := 0) [(2, 224), (0, l4)] [] rfl s_428 rfl rfl ?_
      refine w_C.more (Q := fun r3 m3 => _) h (fun r3 m3 h => ?_)
      replace h := id h
      refine w_goto rfl ?_
      exact w_W.less h (w_sub [true, false, false, false, true, true, false, true, true, false, false] rfl)
theorem xr_m_font_279 {d : Nat} {l4 l5 l7 l8 s0 : Int} {m : w_M} {Q : Int → w_M → Prop} (h : if l7 < 0 then (xp_m_font_335 d l4 l5 l7 l8 s0 0 m Q) else (if l8 < 0 then (xp_m_font_335 d l4 l5 l7 l8 s0 0 m Q) else (if s0 < 0 then (xp_m_font_335 d l4 l5 l7 l8 s0 0 m Q) else (((0 : Int) ≤ l7 ∧ l7 < 40000) ∧ (if (m 432 l7) = 2 then (((0 : Int) ≤ l8 ∧ l8 < 40000) ∧ (if (m 432 l8) = 2 then (((0 : Int) ≤ s0 ∧ s0 < 40000) ∧ (if (m 432 s0) = 6 then (xp_m_font_335 d l4 l5 l7 l8 s0 1 m Q) else (xp_m_font_335 d l4 l5 l7 l8 s0 0 m Q))) else (xp_m_font_335 d l4 l5 l7 l8 s0 0 m Q))) else (xp_m_font_335 d l4 l5 l7 l8 s0 0 m Q)))))) : xp_m_font_279 d l4 l5 l7 l8 s0 m Q := by
  refine w_istore (lv' := [some (2, 428), none, none, none, some (0, l4), some (0, l5), none, some (0, l7), some (0, l8), some (0, s0), none]) rfl rfl rfl ?_
  refine w_iload rfl rfl ?_
  refine w_iflt rfl (w_ite h (fun h => ?_) (fun h => ?_))
  · refine w_iconst rfl (by decide) ?_
    exact w_W.less h (w_sub [true, false, false, false, true, true, false, true, true, true, false] rfl)
  · refine w_iload rfl rfl ?_
    refine w_iflt rfl (w_ite h (fun h => ?_) (fun h => ?_))
    · refine w_iconst rfl (by decide) ?_
      exact w_W.less h (w_sub [true, false, false, false, true, true, false, true, true, true, false] rfl)
    · refine w_iload rfl rfl ?_
      refine w_iflt rfl (w_ite h (fun h => ?_) (fun h => ?_))
      · refine w_iconst rfl (by decide) ?_
        exact w_W.less h (w_sub [true, false, false, false, true, true, false, true, true, true, false] rfl)
      · refine w_aload_n rfl rfl ?_
        refine w_gfC (c := 432) rfl s_428 rfl rfl ?_
        refine w_iload rfl rfl ?_
        refine w_bald rfl s_432 (n := 40000) rfl h.1 ?_
        replace h := h.2
        refine w_iconst rfl (by decide) ?_
        refine w_icne rfl (w_ite h (fun h => ?_) (fun h => ?_))
        · refine w_aload_n rfl rfl ?_
          refine w_gfC (c := 432) rfl s_428 rfl rfl ?_
          refine w_iload rfl rfl ?_
          refine w_bald rfl s_432 (n := 40000) rfl h.1 ?_
          replace h := h.2
          refine w_iconst rfl (by decide) ?_
          refine w_icne rfl (w_ite h (fun h => ?_) (fun h => ?_))
          · refine w_aload_n rfl rfl ?_
            refine w_gfC (c := 432) rfl s_428 rfl rfl ?_
            refine w_iload rfl rfl ?_
            refine w_bald rfl s_432 (n := 40000) rfl h.1 ?_
            replace h := h.2
            refine w_bipush rfl (by decide) ?_
            refine w_icne rfl (w_ite h (fun h => ?_) (fun h => ?_))
            · refine w_iconst rfl (by decide) ?_
              refine w_goto rfl ?_
              exact w_W.less h (w_sub [true, false, false, false, true, true, false, true, true, true, false] rfl)
            · refine w_iconst rfl (by decide) ?_
              exact w_W.less h (w_sub [true, false, false, false, true, true, false, true, true, true, false] rfl)
          · refine w_iconst rfl (by decide) ?_
            exact w_W.less h (w_sub [true, false, false, false, true, true, false, true, true, true, false] rfl)
        · refine w_iconst rfl (by decide) ?_
          exact w_W.less h (w_sub [true, false, false, false, true, true, false, true, true, true, false] rfl)
theorem xr_m_font_335 {d : Nat} {l4 l5 l7 l8 l9 s0 : Int} {m : w_M} {Q : Int → w_M → Prop} (h : if s0 = 0 then (xp_m_font_434 d l4 l5 0 l7 l8 l9 (-1) m Q) else (((0 : Int) ≤ l7 ∧ l7 < 40000) ∧ (if (m 433 l7) < 0 then (xp_m_font_434 d l4 l5 0 l7 l8 l9 (-1) m Q) else (((0 : Int) ≤ l8 ∧ l8 < 40000) ∧ (if 255 < (m 433 l8) then (xp_m_font_434 d l4 l5 0 l7 l8 l9 (-1) m Q) else (((0 : Int) ≤ l7 ∧ l7 < 40000) ∧ (((0 : Int) ≤ l8 ∧ l8 < 40000) ∧ (if (m 433 l8) < (m 433 l7) then (xp_m_font_434 d l4 l5 0 l7 l8 l9 (-1) m Q) else (((0 : Int) ≤ l9 ∧ l9 < 40000) ∧ (((0 : Int) ≤ l8 ∧ l8 < 40000) ∧ (((0 : Int) ≤ l7 ∧ l7 < 40000) ∧ (if (m 435 l9) = (w_32 ((w_32 ((m 433 l8) - (m 433 l7))) + 1)) then (((0 : Int) ≤ l9 ∧ l9 < 40000) ∧ (xp_m_font_434 d l4 l5 1 l7 l8 l9 (m 436 l9) m Q)) else (xp_m_font_434 d l4 l5 0 l7 l8 l9 (-1) m Q))))))))))))) : xp_m_font_335 d l4 l5 l7 l8 l9 s0 m Q := by
  refine w_istore (lv' := [some (2, 428), none, none, none, some (0, l4), some (0, l5), some (0, s0), some (0, l7), some (0, l8), some (0, l9), none]) rfl rfl rfl ?_
  refine w_iload rfl rfl ?_
  refine w_ifeq rfl (w_ite h (fun h => ?_) (fun h => ?_))
  · refine w_iconst rfl (by decide) ?_
    refine w_istore (lv' := [some (2, 428), none, none, none, some (0, l4), some (0, l5), some (0, 0), some (0, l7), some (0, l8), some (0, l9), none]) rfl rfl rfl ?_
    refine w_iload rfl rfl ?_
    refine w_ifeq rfl (w_ift (by decide) ?_)
    refine w_iconst rfl (by decide) ?_
    refine w_istore (lv' := [some (2, 428), none, none, none, some (0, l4), some (0, l5), some (0, 0), some (0, l7), some (0, l8), some (0, l9), some (0, (-1))]) rfl rfl rfl ?_
    exact w_W.less h (w_sub [true, false, false, false, true, true, true, true, true, true, true] rfl)
  · refine w_aload_n rfl rfl ?_
    refine w_gfC (c := 433) rfl s_428 rfl rfl ?_
    refine w_iload rfl rfl ?_
    refine w_iald rfl s_433 (n := 40000) rfl h.1 ?_
    replace h := h.2
    refine w_iflt rfl (w_ite h (fun h => ?_) (fun h => ?_))
    · refine w_iconst rfl (by decide) ?_
      refine w_istore (lv' := [some (2, 428), none, none, none, some (0, l4), some (0, l5), some (0, 0), some (0, l7), some (0, l8), some (0, l9), none]) rfl rfl rfl ?_
      refine w_iload rfl rfl ?_
      refine w_ifeq rfl (w_ift (by decide) ?_)
      refine w_iconst rfl (by decide) ?_
      refine w_istore (lv' := [some (2, 428), none, none, none, some (0, l4), some (0, l5), some (0, 0), some (0, l7), some (0, l8), some (0, l9), some (0, (-1))]) rfl rfl rfl ?_
      exact w_W.less h (w_sub [true, false, false, false, true, true, true, true, true, true, true] rfl)
    · refine w_aload_n rfl rfl ?_
      refine w_gfC (c := 433) rfl s_428 rfl rfl ?_
      refine w_iload rfl rfl ?_
      refine w_iald rfl s_433 (n := 40000) rfl h.1 ?_
      replace h := h.2
      refine w_sipush rfl (by decide) ?_
      refine w_icgt rfl (w_ite h (fun h => ?_) (fun h => ?_))
      · refine w_iconst rfl (by decide) ?_
        refine w_istore (lv' := [some (2, 428), none, none, none, some (0, l4), some (0, l5), some (0, 0), some (0, l7), some (0, l8), some (0, l9), none]) rfl rfl rfl ?_
        refine w_iload rfl rfl ?_
        refine w_ifeq rfl (w_ift (by decide) ?_)
        refine w_iconst rfl (by decide) ?_
        refine w_istore (lv' := [some (2, 428), none, none, none, some (0, l4), some (0, l5), some (0, 0), some (0, l7), some (0, l8), some (0, l9), some (0, (-1))]) rfl rfl rfl ?_
        exact w_W.less h (w_sub [true, false, false, false, true, true, true, true, true, true, true] rfl)
      · refine w_aload_n rfl rfl ?_
        refine w_gfC (c := 433) rfl s_428 rfl rfl ?_
        refine w_iload rfl rfl ?_
        refine w_iald rfl s_433 (n := 40000) rfl h.1 ?_
        replace h := h.2
        refine w_aload_n rfl rfl ?_
        refine w_gfC (c := 433) rfl s_428 rfl rfl ?_
        refine w_iload rfl rfl ?_
        refine w_iald rfl s_433 (n := 40000) rfl h.1 ?_
        replace h := h.2
        refine w_icgt rfl (w_ite h (fun h => ?_) (fun h => ?_))
        · refine w_iconst rfl (by decide) ?_
          refine w_istore (lv' := [some (2, 428), none, none, none, some (0, l4), some (0, l5), some (0, 0), some (0, l7), some (0, l8), some (0, l9), none]) rfl rfl rfl ?_
          refine w_iload rfl rfl ?_
          refine w_ifeq rfl (w_ift (by decide) ?_)
          refine w_iconst rfl (by decide) ?_
          refine w_istore (lv' := [some (2, 428), none, none, none, some (0, l4), some (0, l5), some (0, 0), some (0, l7), some (0, l8), some (0, l9), some (0, (-1))]) rfl rfl rfl ?_
          exact w_W.less h (w_sub [true, false, false, false, true, true, true, true, true, true, true] rfl)
        · refine w_aload_n rfl rfl ?_
          refine w_gfC (c := 435) rfl s_428 rfl rfl ?_
          refine w_iload rfl rfl ?_
          refine w_iald rfl s_435 (n := 40000) rfl h.1 ?_
          replace h := h.2
          refine w_aload_n rfl rfl ?_
          refine w_gfC (c := 433) rfl s_428 rfl rfl ?_
          refine w_iload rfl rfl ?_
          refine w_iald rfl s_433 (n := 40000) rfl h.1 ?_
          replace h := h.2
          refine w_aload_n rfl rfl ?_
          refine w_gfC (c := 433) rfl s_428 rfl rfl ?_
          refine w_iload rfl rfl ?_
          refine w_iald rfl s_433 (n := 40000) rfl h.1 ?_
          replace h := h.2
          refine w_isub rfl ?_
          refine w_iconst rfl (by decide) ?_
          refine w_iadd rfl ?_
          refine w_icne rfl (w_ite h (fun h => ?_) (fun h => ?_))
          · refine w_iconst rfl (by decide) ?_
            refine w_goto rfl ?_
            refine w_istore (lv' := [some (2, 428), none, none, none, some (0, l4), some (0, l5), some (0, 1), some (0, l7), some (0, l8), some (0, l9), none]) rfl rfl rfl ?_
            refine w_iload rfl rfl ?_
            refine w_ifeq rfl (w_iff (by decide) ?_)
            refine w_aload_n rfl rfl ?_
            refine w_gfC (c := 436) rfl s_428 rfl rfl ?_
            refine w_iload rfl rfl ?_
            refine w_iald rfl s_436 (n := 40000) rfl h.1 ?_
            replace h := h.2
            refine w_goto rfl ?_
            refine w_istore (lv' := [some (2, 428), none, none, none, some (0, l4), some (0, l5), some (0, 1), some (0, l7), some (0, l8), some (0, l9), some (0, m 436 l9)]) rfl rfl rfl ?_
            exact w_W.less h (w_sub [true, false, false, false, true, true, true, true, true, true, true] rfl)
          · refine w_iconst rfl (by decide) ?_
            refine w_istore (lv' := [some (2, 428), none, none, none, some (0, l4), some (0, l5), some (0, 0), some (0, l7), some (0, l8), some (0, l9), none]) rfl rfl rfl ?_
            refine w_iload rfl rfl ?_
            refine w_ifeq rfl (w_ift (by decide) ?_)
            refine w_iconst rfl (by decide) ?_
            refine w_istore (lv' := [some (2, 428), none, none, none, some (0, l4), some (0, l5), some (0, 0), some (0, l7), some (0, l8), some (0, l9), some (0, (-1))]) rfl rfl rfl ?_
            exact w_W.less h (w_sub [true, false, false, false, true, true, true, true, true, true, true] rfl)
theorem xr_m_font_434 {d : Nat} {l4 l5 l6 l7 l8 l9 l10 : Int} {m : w_M} {Q : Int → w_M → Prop} (h : if l10 < 0 then (if l6 = 0 then (xc_m_fail d 13 (m 428 106) m (fun r1 m1 => Q 0 m1)) else (((0 : Int) ≤ l7 ∧ l7 < 40000) ∧ (((0 : Int) ≤ l8 ∧ l8 < 40000) ∧ (xc_m_unitsOf d ((w_up (w_up (w_up (w_up (w_up m 479 0 l4) 479 1 l5) 479 2 ((w_up (w_up m 479 0 l4) 479 1 l5) 433 l7)) 479 3 ((w_up (w_up (w_up m 479 0 l4) 479 1 l5) 479 2 ((w_up (w_up m 479 0 l4) 479 1 l5) 433 l7)) 433 l8)) 479 4 l9) 473 1) (w_up (w_up (w_up (w_up (w_up m 479 0 l4) 479 1 l5) 479 2 ((w_up (w_up m 479 0 l4) 479 1 l5) 433 l7)) 479 3 ((w_up (w_up (w_up m 479 0 l4) 479 1 l5) 479 2 ((w_up (w_up m 479 0 l4) 479 1 l5) 433 l7)) 433 l8)) 479 4 l9) (fun r2 m2 => Q 0 (w_up m2 479 5 r2)))))) else (if l6 = 0 then (((0 : Int) ≤ l10 ∧ l10 < 40000) ∧ (xp_m_font_434 d l4 l5 0 l7 l8 l9 (m 437 l10) m Q)) else (xc_m_resolve d l10 m (fun r3 m3 => xc_m_isNumber d r3 m3 (fun r4 m4 => if r4 = 0 then (((0 : Int) ≤ l10 ∧ l10 < 40000) ∧ (xp_m_font_434 d l4 l5 0 l7 l8 l9 (m4 437 l10) m4 Q)) else (((0 : Int) ≤ l10 ∧ l10 < 40000) ∧ (xp_m_font_434 d l4 l5 1 l7 l8 l9 (m4 437 l10) m4 Q))))))) : xp_m_font_434 d l4 l5 l6 l7 l8 l9 l10 m Q := by
  refine w_iload rfl rfl ?_
  refine w_iflt rfl (w_ite h (fun h => ?_) (fun h => ?_))
  · refine w_iload rfl rfl ?_
    refine w_ifne rfl (w_ite h (fun h => ?_) (fun h => ?_))
    · refine w_aload_n rfl rfl ?_
      refine w_bipush rfl (by decide) ?_
      refine w_aload_n rfl rfl ?_
      refine x_gfI rfl s_428 rfl (kk := 106) rfl rfl ?_
      refine w_callV (t' := 3) [(0, m 428 106), (0, 13)] [] rfl s_428 rfl rfl ?_
      refine w_C.more (Q := fun r1 m1 => _) h (fun r1 m1 h => ?_)
      replace h := id h
      exact w_vret rfl rfl h
    · refine w_aload_n rfl rfl ?_
      refine w_gfC (c := 479) rfl s_428 rfl rfl ?_
      refine w_iconst rfl (by decide) ?_
      refine w_iload rfl rfl ?_
      refine w_iast rfl s_479 (w_EM (by decide)) (n := 9) rfl (by decide) ?_
      refine w_aload_n rfl rfl ?_
      refine w_gfC (c := 479) rfl s_428 rfl rfl ?_
      refine w_iconst rfl (by decide) ?_
      refine w_iload rfl rfl ?_
      refine w_iast rfl s_479 (w_EM (by decide)) (n := 9) rfl (by decide) ?_
      refine w_aload_n rfl rfl ?_
      refine w_gfC (c := 479) rfl s_428 rfl rfl ?_
      refine w_iconst rfl (by decide) ?_
      refine w_aload_n rfl rfl ?_
      refine w_gfC (c := 433) rfl s_428 rfl rfl ?_
      refine w_iload rfl rfl ?_
      refine w_iald rfl s_433 (n := 40000) rfl h.1 ?_
      replace h := h.2
      refine w_iast rfl s_479 (w_EM (by decide)) (n := 9) rfl (by decide) ?_
      refine w_aload_n rfl rfl ?_
      refine w_gfC (c := 479) rfl s_428 rfl rfl ?_
      refine w_iconst rfl (by decide) ?_
      refine w_aload_n rfl rfl ?_
      refine w_gfC (c := 433) rfl s_428 rfl rfl ?_
      refine w_iload rfl rfl ?_
      refine w_iald rfl s_433 (n := 40000) rfl h.1 ?_
      replace h := h.2
      refine w_iast rfl s_479 (w_EM (by decide)) (n := 9) rfl (by decide) ?_
      refine w_aload_n rfl rfl ?_
      refine w_gfC (c := 479) rfl s_428 rfl rfl ?_
      refine w_iconst rfl (by decide) ?_
      refine w_iload rfl rfl ?_
      refine w_iast rfl s_479 (w_EM (by decide)) (n := 9) rfl (by decide) ?_
      refine w_aload_n rfl rfl ?_
      refine w_gfC (c := 479) rfl s_428 rfl rfl ?_
      refine w_iconst rfl (by decide) ?_
      refine w_aload_n rfl rfl ?_
      refine w_aload_n rfl rfl ?_
      refine w_gfC (c := 473) rfl s_428 rfl rfl ?_
      refine w_iconst rfl (by decide) ?_
      refine w_iald rfl s_473 (n := 40) rfl (by decide) ?_
      refine w_callV (t' := 0) [(0, (w_up (w_up (w_up (w_up (w_up m 479 0 l4) 479 1 l5) 479 2 ((w_up (w_up m 479 0 l4) 479 1 l5) 433 l7)) 479 3 ((w_up (w_up (w_up m 479 0 l4) 479 1 l5) 479 2 ((w_up (w_up m 479 0 l4) 479 1 l5) 433 l7)) 433 l8)) 479 4 l9) 473 1)] [(0, 5), (2, 479)] rfl s_428 rfl rfl ?_
      refine w_C.more (Q := fun r2 m2 => _) h (fun r2 m2 h => ?_)
      replace h := id h
      refine w_iast rfl s_479 (w_EM (by decide)) (n := 9) rfl (by decide) ?_
      exact w_vret rfl rfl h
  · refine w_iload rfl rfl ?_
    refine w_ifeq rfl (w_ite h (fun h => ?_) (fun h => ?_))
    · refine w_iconst rfl (by decide) ?_
      refine w_istore (lv' := [some (2, 428), none, none, none, some (0, l4), some (0, l5), some (0, 0), some (0, l7), some (0, l8), some (0, l9), some (0, l10)]) rfl rfl rfl ?_
      refine w_aload_n rfl rfl ?_
      refine w_gfC (c := 437) rfl s_428 rfl rfl ?_
      refine w_iload rfl rfl ?_
      refine w_iald rfl s_437 (n := 40000) rfl h.1 ?_
      replace h := h.2
      refine w_istore (lv' := [some (2, 428), none, none, none, some (0, l4), some (0, l5), some (0, 0), some (0, l7), some (0, l8), some (0, l9), some (0, m 437 l10)]) rfl rfl rfl ?_
      refine w_goto rfl ?_
      exact w_W.less h (w_sub [true, false, false, false, true, true, true, true, true, true, true] rfl)
    · refine w_aload_n rfl rfl ?_
      refine w_aload_n rfl rfl ?_
      refine w_iload rfl rfl ?_
      refine w_callV (t' := 0) [(0, l10)] [(2, 428)] rfl s_428 rfl rfl ?_
      refine w_C.more (Q := fun r3 m3 => _) h (fun r3 m3 h => ?_)
      replace h := id h
      refine w_callV (t' := 0) [(0, r3)] [] rfl s_428 rfl rfl ?_
      refine w_C.more (Q := fun r4 m4 => _) h (fun r4 m4 h => ?_)
      replace h := id h
      refine w_ifeq rfl (w_ite h (fun h => ?_) (fun h => ?_))
      · refine w_iconst rfl (by decide) ?_
        refine w_istore (lv' := [some (2, 428), none, none, none, some (0, l4), some (0, l5), some (0, 0), some (0, l7), some (0, l8), some (0, l9), some (0, l10)]) rfl rfl rfl ?_
        refine w_aload_n rfl rfl ?_
        refine w_gfC (c := 437) rfl s_428 rfl rfl ?_
        refine w_iload rfl rfl ?_
        refine w_iald rfl s_437 (n := 40000) rfl h.1 ?_
        replace h := h.2
        refine w_istore (lv' := [some (2, 428), none, none, none, some (0, l4), some (0, l5), some (0, 0), some (0, l7), some (0, l8), some (0, l9), some (0, m4 437 l10)]) rfl rfl rfl ?_
        refine w_goto rfl ?_
        exact w_W.less h (w_sub [true, false, false, false, true, true, true, true, true, true, true] rfl)
      · refine w_iconst rfl (by decide) ?_
        refine w_goto rfl ?_
        refine w_istore (lv' := [some (2, 428), none, none, none, some (0, l4), some (0, l5), some (0, 1), some (0, l7), some (0, l8), some (0, l9), some (0, l10)]) rfl rfl rfl ?_
        refine w_aload_n rfl rfl ?_
        refine w_gfC (c := 437) rfl s_428 rfl rfl ?_
        refine w_iload rfl rfl ?_
        refine w_iald rfl s_437 (n := 40000) rfl h.1 ?_
        replace h := h.2
        refine w_istore (lv' := [some (2, 428), none, none, none, some (0, l4), some (0, l5), some (0, 1), some (0, l7), some (0, l8), some (0, l9), some (0, m4 437 l10)]) rfl rfl rfl ?_
        refine w_goto rfl ?_
        exact w_W.less h (w_sub [true, false, false, false, true, true, true, true, true, true, true] rfl)
theorem xr_m_from {d : Nat} {l1 l2 l3 : Int} {m : w_M} {Q : Int → w_M → Prop} (h : Q 0 (w_up (w_up (w_up (w_up m 428 18 l1) 428 19 l2) 428 20 l3) 428 21 0)) : xc_m_from (d + 1) l1 l2 l3 m Q := by
  refine w_enter (q := 0) (lv := [some (2, 428), some (2, l1), some (0, l2), some (0, l3)]) rfl rfl rfl ?_
  refine w_aload_n rfl rfl ?_
  refine w_aload_n rfl rfl ?_
  refine w_pfR rfl s_428 rfl (w_EM (by decide)) rfl (fun _ => rfl) (kk := 18) rfl ?_
  refine w_aload_n rfl rfl ?_
  refine w_iload_n rfl rfl ?_
  refine w_pfI rfl s_428 rfl (w_EM (by decide)) rfl (kk := 19) rfl ?_
  refine w_aload_n rfl rfl ?_
  refine w_iload_n rfl rfl ?_
  refine w_pfI rfl s_428 rfl (w_EM (by decide)) rfl (kk := 20) rfl ?_
  refine w_aload_n rfl rfl ?_
  refine w_iconst rfl (by decide) ?_
  refine w_pfI rfl s_428 rfl (w_EM (by decide)) rfl (kk := 21) rfl ?_
  exact w_vret rfl rfl h
theorem xr_m_gather {d : Nat} {l1 : Int} {m : w_M} {Q : Int → w_M → Prop} (h : ((0 : Int) ≤ l1 ∧ l1 < 200) ∧ (xc_m_rawEntry d ((w_up m 428 92 0) 455 l1) 188 (w_up m 428 92 0) (fun r1 m1 => xc_m_resolve d r1 m1 (fun r2 m2 => xc_m_isNothing d r2 m2 (fun r3 m3 => if r3 = 0 then (((0 : Int) ≤ r2 ∧ r2 < 40000) ∧ (if (m3 432 r2) = 6 then (((0 : Int) ≤ r2 ∧ r2 < 40000) ∧ (xp_m_gather_63 d (m3 436 r2) m3 Q)) else (xc_m_streamNumber d r1 m3 (fun r4 m4 => xc_m_collect d r4 m4 (fun r5 m5 => Q 0 m5))))) else (Q 0 m3)))))) : xc_m_gather (d + 1) l1 m Q := by
  refine w_enter (q := 3) (lv := [some (2, 428), some (0, l1), none, none, none]) rfl rfl rfl ?_
  refine w_aload_n rfl rfl ?_
  refine w_iconst rfl (by decide) ?_
  refine w_pfI rfl s_428 rfl (w_EM (by decide)) rfl (kk := 92) rfl ?_
  refine w_aload_n rfl rfl ?_
  refine w_aload_n rfl rfl ?_
  refine w_gfC (c := 455) rfl s_428 rfl rfl ?_
  refine w_iload_n rfl rfl ?_
  refine w_iald rfl s_455 (n := 200) rfl h.1 ?_
  replace h := h.2
  refine w_ldcwR rfl ?_
  refine w_callV (t' := 0) [(2, 188), (0, (w_up m 428 92 0) 455 l1)] [] rfl s_428 rfl rfl ?_
  refine w_C.more (Q := fun r1 m1 => _) h (fun r1 m1 h => ?_)
  replace h := id h
  refine w_istore_n (lv' := [some (2, 428), some (0, l1), some (0, r1), none, none]) rfl rfl rfl ?_
  refine w_aload_n rfl rfl ?_
  refine w_iload_n rfl rfl ?_
  refine w_callV (t' := 0) [(0, r1)] [] rfl s_428 rfl rfl ?_
  refine w_C.more (Q := fun r2 m2 => _) h (fun r2 m2 h => ?_)
  replace h := id h
  refine w_istore_n (lv' := [some (2, 428), some (0, l1), some (0, r1), some (0, r2), none]) rfl rfl rfl ?_
  refine w_aload_n rfl rfl ?_
  refine w_iload_n rfl rfl ?_
  refine w_callV (t' := 0) [(0, r2)] [] rfl s_428 rfl rfl ?_
  refine w_C.more (Q := fun r3 m3 => _) h (fun r3 m3 h => ?_)
  replace h := id h
  refine w_ifeq rfl (w_ite h (fun h => ?_) (fun h => ?_))
  · refine w_aload_n rfl rfl ?_
    refine w_gfC (c := 432) rfl s_428 rfl rfl ?_
    refine w_iload_n rfl rfl ?_
    refine w_bald rfl s_432 (n := 40000) rfl h.1 ?_
    replace h := h.2
    refine w_bipush rfl (by decide) ?_
    refine w_iceq rfl (w_ite h (fun h => ?_) (fun h => ?_))
    · refine w_aload_n rfl rfl ?_
      refine w_gfC (c := 436) rfl s_428 rfl rfl ?_
      refine w_iload_n rfl rfl ?_
      refine w_iald rfl s_436 (n := 40000) rfl h.1 ?_
      replace h := h.2
      refine w_istore (lv' := [some (2, 428), some (0, l1), some (0, r1), some (0, r2), some (0, m3 436 r2)]) rfl rfl rfl ?_
      exact w_W.less h (w_sub [true, false, false, false, true] rfl)
    · refine w_aload_n rfl rfl ?_
      refine w_aload_n rfl rfl ?_
      refine w_iload_n rfl rfl ?_
      refine w_callV (t' := 0) [(0, r1)] [(2, 428)] rfl s_428 rfl rfl ?_
      refine w_C.more (Q := fun r4 m4 => _) h (fun r4 m4 h => ?_)
      replace h := id h
      refine w_callV (t' := 3) [(0, r4)] [] rfl s_428 rfl rfl ?_
      refine w_C.more (Q := fun r5 m5 => _) h (fun r5 m5 h => ?_)
      replace h := id h
      exact w_vret rfl rfl h
  · exact w_vret rfl rfl h
theorem xr_m_gather_63 {d : Nat} {l4 : Int} {m : w_M} {Q : Int → w_M → Prop} (h : if l4 < 0 then (Q 0 m) else (xc_m_streamNumber d l4 m (fun r1 m1 => xc_m_collect d r1 m1 (fun r2 m2 => ((0 : Int) ≤ l4 ∧ l4 < 40000) ∧ (if (m2 437 l4) < 0 then (((0 : Int) ≤ l4 ∧ l4 < 40000) ∧ (xp_m_gather_63 d (m2 437 l4) m2 Q)) else (((0 : Int) ≤ (m2 428 92) ∧ (m2 428 92) < 40100) ∧ (((0 : Int) ≤ l4 ∧ l4 < 40000) ∧ (xp_m_gather_63 d ((w_up (w_up m2 472 (m2 428 92) (w_8 10)) 428 92 (w_32 ((m2 428 92) + 1))) 437 l4) (w_up (w_up m2 472 (m2 428 92) (w_8 10)) 428 92 (w_32 ((m2 428 92) + 1))) Q)))))))) : xp_m_gather_63 d l4 m Q := by
  refine w_iload rfl rfl ?_
  refine w_iflt rfl (w_ite h (fun h => ?_) (fun h => ?_))
  · exact w_vret rfl rfl h
  · refine w_aload_n rfl rfl ?_
    refine w_aload_n rfl rfl ?_
    refine w_iload rfl rfl ?_
    refine w_callV (t' := 0) [(0, l4)] [(2, 428)] rfl s_428 rfl rfl ?_
    refine w_C.more (Q := fun r1 m1 => _) h (fun r1 m1 h => ?_)
    replace h := id h
    refine w_callV (t' := 3) [(0, r1)] [] rfl s_428 rfl rfl ?_
    refine w_C.more (Q := fun r2 m2 => _) h (fun r2 m2 h => ?_)
    replace h := id h
    refine w_aload_n rfl rfl ?_
    refine w_gfC (c := 437) rfl s_428 rfl rfl ?_
    refine w_iload rfl rfl ?_
    refine w_iald rfl s_437 (n := 40000) rfl h.1 ?_
    replace h := h.2
    refine w_iflt rfl (w_ite h (fun h => ?_) (fun h => ?_))
    · refine w_aload_n rfl rfl ?_
      refine w_gfC (c := 437) rfl s_428 rfl rfl ?_
      refine w_iload rfl rfl ?_
      refine w_iald rfl s_437 (n := 40000) rfl h.1 ?_
      replace h := h.2
      refine w_istore (lv' := [some (2, 428), none, none, none, some (0, m2 437 l4)]) rfl rfl rfl ?_
      refine w_goto rfl ?_
      exact w_W.less h (w_sub [true, false, false, false, true] rfl)
    · refine w_aload_n rfl rfl ?_
      refine w_gfC (c := 472) rfl s_428 rfl rfl ?_
      refine w_aload_n rfl rfl ?_
      refine x_gfI rfl s_428 rfl (kk := 92) rfl rfl ?_
      refine w_bipush rfl (by decide) ?_
      refine w_bast rfl s_472 (w_EM (by decide)) (n := 40100) rfl h.1 ?_
      replace h := h.2
      refine w_aload_n rfl rfl ?_
      refine w_dup rfl (show (2 : Nat) ≠ 1 by decide) ?_
      refine x_gfI rfl s_428 rfl (kk := 92) rfl (w_up_ne (by decide)) ?_
      refine w_iconst rfl (by decide) ?_
      refine w_iadd rfl ?_
      refine w_pfI rfl s_428 rfl (w_EM (by decide)) rfl (kk := 92) rfl ?_
      refine w_aload_n rfl rfl ?_
      refine w_gfC (c := 437) rfl s_428 rfl rfl ?_
      refine w_iload rfl rfl ?_
      refine w_iald rfl s_437 (n := 40000) rfl h.1 ?_
      replace h := h.2
      refine w_istore (lv' := [some (2, 428), none, none, none, some (0, (w_up (w_up m2 472 (m2 428 92) (w_8 10)) 428 92 (w_32 ((m2 428 92) + 1))) 437 l4)]) rfl rfl rfl ?_
      refine w_goto rfl ?_
      exact w_W.less h (w_sub [true, false, false, false, true] rfl)
theorem xr_m_generationOf {d : Nat} {l1 : Int} {m : w_M} {Q : Int → w_M → Prop} (h : ((0 : Int) ≤ l1 ∧ l1 < 200) ∧ (if (m 451 l1) = 2 then (Q 0 m) else (((0 : Int) ≤ l1 ∧ l1 < 200) ∧ (Q (m 453 l1) m)))) : xc_m_generationOf (d + 1) l1 m Q := by
  refine w_enter (q := 0) (lv := [some (2, 428), some (0, l1)]) rfl rfl rfl ?_
  refine w_aload_n rfl rfl ?_
  refine w_gfC (c := 451) rfl s_428 rfl rfl ?_
  refine w_iload_n rfl rfl ?_
  refine w_bald rfl s_451 (n := 200) rfl h.1 ?_
  replace h := h.2
  refine w_iconst rfl (by decide) ?_
  refine w_icne rfl (w_ite h (fun h => ?_) (fun h => ?_))
  · refine w_lconst rfl rfl ?_
    refine w_goto rfl ?_
    exact w_lret rfl rfl h
  · refine w_aload_n rfl rfl ?_
    refine w_gfC (c := 453) rfl s_428 rfl rfl ?_
    refine w_iload_n rfl rfl ?_
    refine w_lald rfl s_453 (w_EM (by decide)) (n := 200) rfl h.1 ?_
    replace h := h.2
    exact w_lret rfl rfl h
theorem xr_m_glyph {d : Nat} {l1 l2 : Int} {m : w_M} {Q : Int → w_M → Prop} (h : if l1 < 0 then (Q (-1) m) else (if l1 < (m 428 104) then (if l2 < 0 then (Q (-1) m) else (if 4 < l2 then (Q (-1) m) else (((0 : Int) ≤ (w_32 ((w_32 (5 * l1)) + l2)) ∧ (w_32 ((w_32 (5 * l1)) + l2)) < 7500) ∧ (Q (m 481 (w_32 ((w_32 (5 * l1)) + l2))) m)))) else (Q (-1) m))) : xc_m_glyph (d + 1) l1 l2 m Q := by
  refine w_enter (q := 0) (lv := [some (2, 428), some (0, l1), some (0, l2)]) rfl rfl rfl ?_
  refine w_iload_n rfl rfl ?_
  refine w_iflt rfl (w_ite h (fun h => ?_) (fun h => ?_))
  · refine w_iconst rfl (by decide) ?_
    exact w_iret rfl rfl h
  · refine w_iload_n rfl rfl ?_
    refine w_aload_n rfl rfl ?_
    refine x_gfI rfl s_428 rfl (kk := 104) rfl rfl ?_
    refine w_icge rfl (w_ite h (fun h => ?_) (fun h => ?_))
    · refine w_iload_n rfl rfl ?_
      refine w_iflt rfl (w_ite h (fun h => ?_) (fun h => ?_))
      · refine w_iconst rfl (by decide) ?_
        exact w_iret rfl rfl h
      · refine w_iload_n rfl rfl ?_
        refine w_iconst rfl (by decide) ?_
        refine w_icgt rfl (w_ite h (fun h => ?_) (fun h => ?_))
        · refine w_iconst rfl (by decide) ?_
          exact w_iret rfl rfl h
        · refine w_aload_n rfl rfl ?_
          refine w_gfC (c := 481) rfl s_428 rfl rfl ?_
          refine w_iconst rfl (by decide) ?_
          refine w_iload_n rfl rfl ?_
          refine w_imul rfl ?_
          refine w_iload_n rfl rfl ?_
          refine w_iadd rfl ?_
          refine w_iald rfl s_481 (n := 7500) rfl h.1 ?_
          replace h := h.2
          refine w_goto rfl ?_
          exact w_iret rfl rfl h
    · refine w_iconst rfl (by decide) ?_
      exact w_iret rfl rfl h
theorem xr_m_go {d : Nat} {l1 : Int} {m : w_M} {Q : Int → w_M → Prop} (h : xc_m_isObject d l1 (w_up m 428 88 (-1)) (fun r1 m1 => if r1 = 0 then (Q (-1) m1) else (((0 : Int) ≤ l1 ∧ l1 < 200) ∧ (xc_m_kindHere d (w_up (w_up (w_up m1 428 88 0) 428 89 l1) 471 0 ((w_up (w_up m1 428 88 0) 428 89 l1) 455 l1)) (fun r2 m2 => Q r2 m2))))) : xc_m_go (d + 1) l1 m Q := by
  refine w_enter (q := 0) (lv := [some (2, 428), some (0, l1)]) rfl rfl rfl ?_
  refine w_aload_n rfl rfl ?_
  refine w_iconst rfl (by decide) ?_
  refine w_pfI rfl s_428 rfl (w_EM (by decide)) rfl (kk := 88) rfl ?_
  refine w_aload_n rfl rfl ?_
  refine w_iload_n rfl rfl ?_
  refine w_callV (t' := 0) [(0, l1)] [] rfl s_428 rfl rfl ?_
  refine w_C.more (Q := fun r1 m1 => _) h (fun r1 m1 h => ?_)
  replace h := id h
  refine w_ifne rfl (w_ite h (fun h => ?_) (fun h => ?_))
  · refine w_iconst rfl (by decide) ?_
    exact w_iret rfl rfl h
  · refine w_aload_n rfl rfl ?_
    refine w_iconst rfl (by decide) ?_
    refine w_pfI rfl s_428 rfl (w_EM (by decide)) rfl (kk := 88) rfl ?_
    refine w_aload_n rfl rfl ?_
    refine w_iload_n rfl rfl ?_
    refine w_pfI rfl s_428 rfl (w_EM (by decide)) rfl (kk := 89) rfl ?_
    refine w_aload_n rfl rfl ?_
    refine w_gfC (c := 471) rfl s_428 rfl rfl ?_
    refine w_iconst rfl (by decide) ?_
    refine w_aload_n rfl rfl ?_
    refine w_gfC (c := 455) rfl s_428 rfl rfl ?_
    refine w_iload_n rfl rfl ?_
    refine w_iald rfl s_455 (n := 200) rfl h.1 ?_
    replace h := h.2
    refine w_iast rfl s_471 (w_EM (by decide)) (n := 26) rfl (by decide) ?_
    refine w_aload_n rfl rfl ?_
    refine w_callV (t' := 0) [] [] rfl s_428 rfl rfl ?_
    refine w_C.more (Q := fun r2 m2 => _) h (fun r2 m2 h => ?_)
    replace h := id h
    exact w_iret rfl rfl h
theorem xr_m_goes {d : Nat} {l1 l2 : Int} {m : w_M} {Q : Int → w_M → Prop} (h : xc_m_identity d 477 m (fun r1 m1 => xc_m_product d 477 476 476 (w_up (w_up m1 477 4 l1) 477 5 l2) (fun r2 m2 => xp_m_goes_39 d 0 m2 Q))) : xc_m_goes (d + 1) l1 l2 m Q := by
  refine w_enter (q := 1) (lv := [some (2, 428), some (0, l1), some (0, l2), none]) rfl rfl rfl ?_
  refine w_aload_n rfl rfl ?_
  refine w_gfC (c := 477) rfl s_428 rfl rfl ?_
  refine w_callS (t' := 3) [(2, 477)] [] rfl (by decide) rfl rfl ?_
  refine w_C.more (Q := fun r1 m1 => _) h (fun r1 m1 h => ?_)
  replace h := id h
  refine w_aload_n rfl rfl ?_
  refine w_gfC (c := 477) rfl s_428 rfl rfl ?_
  refine w_iconst rfl (by decide) ?_
  refine w_iload_n rfl rfl ?_
  refine w_iast rfl s_477 (w_EM (by decide)) (n := 6) rfl (by decide) ?_
  refine w_aload_n rfl rfl ?_
  refine w_gfC (c := 477) rfl s_428 rfl rfl ?_
  refine w_iconst rfl (by decide) ?_
  refine w_iload_n rfl rfl ?_
  refine w_iast rfl s_477 (w_EM (by decide)) (n := 6) rfl (by decide) ?_
  refine w_aload_n rfl rfl ?_
  refine w_aload_n rfl rfl ?_
  refine w_gfC (c := 477) rfl s_428 rfl rfl ?_
  refine w_aload_n rfl rfl ?_
  refine w_gfC (c := 476) rfl s_428 rfl rfl ?_
  refine w_aload_n rfl rfl ?_
  refine w_gfC (c := 476) rfl s_428 rfl rfl ?_
  refine w_callV (t' := 3) [(2, 476), (2, 476), (2, 477)] [] rfl s_428 rfl rfl ?_
  refine w_C.more (Q := fun r2 m2 => _) h (fun r2 m2 h => ?_)
  replace h := id h
  refine w_iconst rfl (by decide) ?_
  refine w_istore_n (lv' := [some (2, 428), some (0, l1), some (0, l2), some (0, 0)]) rfl rfl rfl ?_
  exact w_W.less h (w_sub [true, false, false, true] rfl)
theorem xr_m_goes_39 {d : Nat} {l3 : Int} {m : w_M} {Q : Int → w_M → Prop} (h : if l3 < 6 then (((0 : Int) ≤ l3 ∧ l3 < 6) ∧ (((0 : Int) ≤ l3 ∧ l3 < 6) ∧ (xp_m_goes_39 d (w_32 (l3 + 1)) (w_up m 475 l3 (m 476 l3)) Q))) else (Q 0 m)) : xp_m_goes_39 d l3 m Q := by
  refine w_iload_n rfl rfl ?_
  refine w_bipush rfl (by decide) ?_
  refine w_icge rfl (w_ite h (fun h => ?_) (fun h => ?_))
  · refine w_aload_n rfl rfl ?_
    refine w_gfC (c := 475) rfl s_428 rfl rfl ?_
    refine w_iload_n rfl rfl ?_
    refine w_aload_n rfl rfl ?_
    refine w_gfC (c := 476) rfl s_428 rfl rfl ?_
    refine w_iload_n rfl rfl ?_
    refine w_iald rfl s_476 (n := 6) rfl h.1 ?_
    replace h := h.2
    refine w_iast rfl s_475 (w_EM (by decide)) (n := 6) rfl h.1 ?_
    replace h := h.2
    refine w_iinc (lv' := [some (2, 428), none, none, some (0, w_32 (l3 + 1))]) rfl rfl rfl rfl ?_
    refine w_goto rfl ?_
    exact w_W.less h (w_sub [true, false, false, true] rfl)
  · exact w_vret rfl rfl h
theorem xr_m_good {d : Nat} {m : w_M} {Q : Int → w_M → Prop} (h : if (m 428 27) = 0 then (Q 1 m) else (Q 0 m)) : xc_m_good (d + 1) m Q := by
  refine w_enter (q := 0) (lv := [some (2, 428)]) rfl rfl rfl ?_
  refine w_aload_n rfl rfl ?_
  refine x_gfI rfl s_428 rfl (kk := 27) rfl rfl ?_
  refine w_ifne rfl (w_ite h (fun h => ?_) (fun h => ?_))
  · refine w_iconst rfl (by decide) ?_
    refine w_goto rfl ?_
    exact w_zret rfl rfl (by decide) h
  · refine w_iconst rfl (by decide) ?_
    exact w_zret rfl rfl (by decide) h
theorem xr_m_header {d : Nat} {m : w_M} {Q : Int → w_M → Prop} (h : xc_m_token d m (fun r1 m1 => if (m1 428 22) = 1 then (if (m1 428 25) = 0 then (xp_m_header_24 d 1 m1 Q) else (xp_m_header_24 d 0 m1 Q)) else (xp_m_header_24 d 0 m1 Q))) : xc_m_header (d + 1) m Q := by
  refine w_enter (q := 1) (lv := [some (2, 428), none]) rfl rfl rfl ?_
  refine w_aload_n rfl rfl ?_
  refine w_callV (t' := 3) [] [] rfl s_428 rfl rfl ?_
  refine w_C.more (Q := fun r1 m1 => _) h (fun r1 m1 h => ?_)
  replace h := id h
  refine w_aload_n rfl rfl ?_
  refine x_gfI rfl s_428 rfl (kk := 22) rfl rfl ?_
  refine w_iconst rfl (by decide) ?_
  refine w_icne rfl (w_ite h (fun h => ?_) (fun h => ?_))
  · refine w_aload_n rfl rfl ?_
    refine x_gfZ rfl s_428 rfl (kk := 25) rfl rfl ?_
    refine w_ifne rfl (w_ite h (fun h => ?_) (fun h => ?_))
    · refine w_iconst rfl (by decide) ?_
      refine w_goto rfl ?_
      exact w_W.less h (w_sub [true, false] rfl)
    · refine w_iconst rfl (by decide) ?_
      exact w_W.less h (w_sub [true, false] rfl)
  · refine w_iconst rfl (by decide) ?_
    exact w_W.less h (w_sub [true, false] rfl)
theorem xr_m_header_24 {d : Nat} {s0 : Int} {m : w_M} {Q : Int → w_M → Prop} (h : if s0 = 0 then (if s0 = 0 then ((s0 = 0 ∨ s0 = 1) ∧ Q s0 (w_up m 428 77 (m 428 24))) else (xc_m_token d (w_up m 428 77 (m 428 24)) (fun r1 m1 => xc_m_isWord d 226 m1 (fun r2 m2 => (r2 = 0 ∨ r2 = 1) ∧ Q r2 m2)))) else (xc_m_token d (w_up m 428 77 (m 428 24)) (fun r3 m3 => if (m3 428 22) = 1 then (if (m3 428 25) = 0 then (xc_m_token d (w_up m3 428 78 (m3 428 24)) (fun r4 m4 => xc_m_isWord d 226 m4 (fun r5 m5 => (r5 = 0 ∨ r5 = 1) ∧ Q r5 m5))) else (Q 0 (w_up m3 428 78 (m3 428 24)))) else (Q 0 (w_up m3 428 78 (m3 428 24)))))) : xp_m_header_24 d s0 m Q := by
  refine w_istore_n (lv' := [some (2, 428), some (0, s0)]) rfl rfl rfl ?_
  refine w_aload_n rfl rfl ?_
  refine w_aload_n rfl rfl ?_
  refine x_gfI rfl s_428 rfl (kk := 24) rfl rfl ?_
  refine w_pfI rfl s_428 rfl (w_EM (by decide)) rfl (kk := 77) rfl ?_
  refine w_iload_n rfl rfl ?_
  refine w_ifeq rfl (w_ite h (fun h => ?_) (fun h => ?_))
  · refine w_iload_n rfl rfl ?_
    refine w_ifeq rfl (w_ite h (fun h => ?_) (fun h => ?_))
    · refine w_iload_n rfl rfl ?_
      exact w_zret rfl rfl h.1 h.2
    · refine w_aload_n rfl rfl ?_
      refine w_callV (t' := 3) [] [] rfl s_428 rfl rfl ?_
      refine w_C.more (Q := fun r1 m1 => _) h (fun r1 m1 h => ?_)
      replace h := id h
      refine w_aload_n rfl rfl ?_
      refine w_ldcwR rfl ?_
      refine w_callV (t' := 0) [(2, 226)] [] rfl s_428 rfl rfl ?_
      refine w_C.more (Q := fun r2 m2 => _) h (fun r2 m2 h => ?_)
      replace h := id h
      refine w_istore_n (lv' := [some (2, 428), some (0, r2)]) rfl rfl rfl ?_
      refine w_iload_n rfl rfl ?_
      exact w_zret rfl rfl h.1 h.2
  · refine w_aload_n rfl rfl ?_
    refine w_callV (t' := 3) [] [] rfl s_428 rfl rfl ?_
    refine w_C.more (Q := fun r3 m3 => _) h (fun r3 m3 h => ?_)
    replace h := id h
    refine w_aload_n rfl rfl ?_
    refine x_gfI rfl s_428 rfl (kk := 22) rfl rfl ?_
    refine w_iconst rfl (by decide) ?_
    refine w_icne rfl (w_ite h (fun h => ?_) (fun h => ?_))
    · refine w_aload_n rfl rfl ?_
      refine x_gfZ rfl s_428 rfl (kk := 25) rfl rfl ?_
      refine w_ifne rfl (w_ite h (fun h => ?_) (fun h => ?_))
      · refine w_iconst rfl (by decide) ?_
        refine w_goto rfl ?_
        refine w_istore_n (lv' := [some (2, 428), some (0, 1)]) rfl rfl rfl ?_
        refine w_aload_n rfl rfl ?_
        refine w_aload_n rfl rfl ?_
        refine x_gfI rfl s_428 rfl (kk := 24) rfl rfl ?_
        refine w_i2l rfl ?_
        refine w_pfL rfl s_428 rfl (w_EM (by decide)) rfl (kk := 78) rfl ?_
        refine w_iload_n rfl rfl ?_
        refine w_ifeq rfl (w_iff (by decide) ?_)
        refine w_aload_n rfl rfl ?_
        refine w_callV (t' := 3) [] [] rfl s_428 rfl rfl ?_
        refine w_C.more (Q := fun r4 m4 => _) h (fun r4 m4 h => ?_)
        replace h := id h
        refine w_aload_n rfl rfl ?_
        refine w_ldcwR rfl ?_
        refine w_callV (t' := 0) [(2, 226)] [] rfl s_428 rfl rfl ?_
        refine w_C.more (Q := fun r5 m5 => _) h (fun r5 m5 h => ?_)
        replace h := id h
        refine w_istore_n (lv' := [some (2, 428), some (0, r5)]) rfl rfl rfl ?_
        refine w_iload_n rfl rfl ?_
        exact w_zret rfl rfl h.1 h.2
      · refine w_iconst rfl (by decide) ?_
        refine w_istore_n (lv' := [some (2, 428), some (0, 0)]) rfl rfl rfl ?_
        refine w_aload_n rfl rfl ?_
        refine w_aload_n rfl rfl ?_
        refine x_gfI rfl s_428 rfl (kk := 24) rfl rfl ?_
        refine w_i2l rfl ?_
        refine w_pfL rfl s_428 rfl (w_EM (by decide)) rfl (kk := 78) rfl ?_
        refine w_iload_n rfl rfl ?_
        refine w_ifeq rfl (w_ift (by decide) ?_)
        refine w_iload_n rfl rfl ?_
        exact w_zret rfl rfl (by decide) h
    · refine w_iconst rfl (by decide) ?_
      refine w_istore_n (lv' := [some (2, 428), some (0, 0)]) rfl rfl rfl ?_
      refine w_aload_n rfl rfl ?_
      refine w_aload_n rfl rfl ?_
      refine x_gfI rfl s_428 rfl (kk := 24) rfl rfl ?_
      refine w_i2l rfl ?_
      refine w_pfL rfl s_428 rfl (w_EM (by decide)) rfl (kk := 78) rfl ?_
      refine w_iload_n rfl rfl ?_
      refine w_ifeq rfl (w_ift (by decide) ?_)
      refine w_iload_n rfl rfl ?_
      exact w_zret rfl rfl (by decide) h
theorem xr_m_here {d : Nat} {l1 : Int} {m : w_M} {Q : Int → w_M → Prop} (h : if (m 428 88) < 0 then (Q (-1) m) else (if l1 < 0 then (Q (-1) m) else (if 4 < l1 then (Q (-1) m) else (((0 : Int) ≤ (m 428 88) ∧ (m 428 88) < 26) ∧ (if l1 = 0 then (xc_m_kindHere d m (fun r1 m1 => Q r1 m1)) else (if l1 = 1 then (((0 : Int) ≤ (m 471 (m 428 88)) ∧ (m 471 (m 428 88)) < 40000) ∧ (if (m 432 (m 471 (m 428 88))) < 1 then (((0 : Int) ≤ (m 471 (m 428 88)) ∧ (m 471 (m 428 88)) < 40000) ∧ (if (m 432 (m 471 (m 428 88))) = 8 then (((0 : Int) ≤ (m 471 (m 428 88)) ∧ (m 471 (m 428 88)) < 40000) ∧ (Q (m 433 (m 471 (m 428 88))) m)) else (Q 0 m))) else (((0 : Int) ≤ (m 471 (m 428 88)) ∧ (m 471 (m 428 88)) < 40000) ∧ (if 3 < (m 432 (m 471 (m 428 88))) then (((0 : Int) ≤ (m 471 (m 428 88)) ∧ (m 471 (m 428 88)) < 40000) ∧ (if (m 432 (m 471 (m 428 88))) = 8 then (((0 : Int) ≤ (m 471 (m 428 88)) ∧ (m 471 (m 428 88)) < 40000) ∧ (Q (m 433 (m 471 (m 428 88))) m)) else (Q 0 m))) else (((0 : Int) ≤ (m 471 (m 428 88)) ∧ (m 471 (m 428 88)) < 40000) ∧ (Q (m 433 (m 471 (m 428 88))) m)))))) else (if l1 = 2 then (((0 : Int) ≤ (m 471 (m 428 88)) ∧ (m 471 (m 428 88)) < 40000) ∧ (if (m 432 (m 471 (m 428 88))) < 4 then (Q 0 m) else (((0 : Int) ≤ (m 471 (m 428 88)) ∧ (m 471 (m 428 88)) < 40000) ∧ (if 7 < (m 432 (m 471 (m 428 88))) then (Q 0 m) else (((0 : Int) ≤ (m 471 (m 428 88)) ∧ (m 471 (m 428 88)) < 40000) ∧ (Q (m 435 (m 471 (m 428 88))) m)))))) else (if l1 = 3 then (((0 : Int) ≤ (m 471 (m 428 88)) ∧ (m 471 (m 428 88)) < 40000) ∧ (if (m 432 (m 471 (m 428 88))) = 8 then (((0 : Int) ≤ (m 471 (m 428 88)) ∧ (m 471 (m 428 88)) < 40000) ∧ (Q (m 434 (m 471 (m 428 88))) m)) else (Q 0 m))) else (if (m 428 88) = 0 then (Q 0 m) else (((0 : Int) ≤ (m 471 (m 428 88)) ∧ (m 471 (m 428 88)) < 40000) ∧ (Q (m 439 (m 471 (m 428 88))) m))))))))))) : xc_m_here (d + 1) l1 m Q := by
  refine w_enter (q := 1) (lv := [some (2, 428), some (0, l1), none]) rfl rfl rfl ?_
  refine w_aload_n rfl rfl ?_
  refine x_gfI rfl s_428 rfl (kk := 88) rfl rfl ?_
  refine w_iflt rfl (w_ite h (fun h => ?_) (fun h => ?_))
  · refine w_iconst rfl (by decide) ?_
    exact w_iret rfl rfl h
  · refine w_iload_n rfl rfl ?_
    refine w_iflt rfl (w_ite h (fun h => ?_) (fun h => ?_))
    · refine w_iconst rfl (by decide) ?_
      exact w_iret rfl rfl h
    · refine w_iload_n rfl rfl ?_
      refine w_iconst rfl (by decide) ?_
      refine w_icle rfl (w_ite h (fun h => ?_) (fun h => ?_))
      · refine w_iconst rfl (by decide) ?_
        exact w_iret rfl rfl h
      · refine w_aload_n rfl rfl ?_
        refine w_gfC (c := 471) rfl s_428 rfl rfl ?_
        refine w_aload_n rfl rfl ?_
        refine x_gfI rfl s_428 rfl (kk := 88) rfl rfl ?_
        refine w_iald rfl s_471 (n := 26) rfl h.1 ?_
        replace h := h.2
        refine w_istore_n (lv' := [some (2, 428), some (0, l1), some (0, m 471 (m 428 88))]) rfl rfl rfl ?_
        refine w_iload_n rfl rfl ?_
        refine w_tswitch (pd := 161) [(0, 60), (1, 65), (2, 107), (3, 139)] rfl rfl (by decide) (w_tsw_ok _ _ (by decide)) (by decide) ?_
        refine w_ite h (fun h => ?_) (fun h => ?_)
        · refine w_aload_n rfl rfl ?_
          refine w_callV (t' := 0) [] [] rfl s_428 rfl rfl ?_
          refine w_C.more (Q := fun r1 m1 => _) h (fun r1 m1 h => ?_)
          replace h := id h
          exact w_iret rfl rfl h
        ·
          refine w_ite h (fun h => ?_) (fun h => ?_)
          · refine w_aload_n rfl rfl ?_
            refine w_gfC (c := 432) rfl s_428 rfl rfl ?_
            refine w_iload_n rfl rfl ?_
            refine w_bald rfl s_432 (n := 40000) rfl h.1 ?_
            replace h := h.2
            refine w_iconst rfl (by decide) ?_
            refine w_iclt rfl (w_ite h (fun h => ?_) (fun h => ?_))
            · refine w_aload_n rfl rfl ?_
              refine w_gfC (c := 432) rfl s_428 rfl rfl ?_
              refine w_iload_n rfl rfl ?_
              refine w_bald rfl s_432 (n := 40000) rfl h.1 ?_
              replace h := h.2
              refine w_bipush rfl (by decide) ?_
              refine w_icne rfl (w_ite h (fun h => ?_) (fun h => ?_))
              · refine w_aload_n rfl rfl ?_
                refine w_gfC (c := 433) rfl s_428 rfl rfl ?_
                refine w_iload_n rfl rfl ?_
                refine w_iald rfl s_433 (n := 40000) rfl h.1 ?_
                replace h := h.2
                refine w_goto rfl ?_
                exact w_iret rfl rfl h
              · refine w_iconst rfl (by decide) ?_
                exact w_iret rfl rfl h
            · refine w_aload_n rfl rfl ?_
              refine w_gfC (c := 432) rfl s_428 rfl rfl ?_
              refine w_iload_n rfl rfl ?_
              refine w_bald rfl s_432 (n := 40000) rfl h.1 ?_
              replace h := h.2
              refine w_iconst rfl (by decide) ?_
              refine w_icle rfl (w_ite h (fun h => ?_) (fun h => ?_))
              · refine w_aload_n rfl rfl ?_
                refine w_gfC (c := 432) rfl s_428 rfl rfl ?_
                refine w_iload_n rfl rfl ?_
                refine w_bald rfl s_432 (n := 40000) rfl h.1 ?_
                replace h := h.2
                refine w_bipush rfl (by decide) ?_
                refine w_icne rfl (w_ite h (fun h => ?_) (fun h => ?_))
                · refine w_aload_n rfl rfl ?_
                  refine w_gfC (c := 433) rfl s_428 rfl rfl ?_
                  refine w_iload_n rfl rfl ?_
                  refine w_iald rfl s_433 (n := 40000) rfl h.1 ?_
                  replace h := h.2
                  refine w_goto rfl ?_
                  exact w_iret rfl rfl h
                · refine w_iconst rfl (by decide) ?_
                  exact w_iret rfl rfl h
              · refine w_aload_n rfl rfl ?_
                refine w_gfC (c := 433) rfl s_428 rfl rfl ?_
                refine w_iload_n rfl rfl ?_
                refine w_iald rfl s_433 (n := 40000) rfl h.1 ?_
                replace h := h.2
                refine w_goto rfl ?_
                exact w_iret rfl rfl h
          ·
            refine w_ite h (fun h => ?_) (fun h => ?_)
            · refine w_aload_n rfl rfl ?_
              refine w_gfC (c := 432) rfl s_428 rfl rfl ?_
              refine w_iload_n rfl rfl ?_
              refine w_bald rfl s_432 (n := 40000) rfl h.1 ?_
              replace h := h.2
              refine w_iconst rfl (by decide) ?_
              refine w_iclt rfl (w_ite h (fun h => ?_) (fun h => ?_))
              · refine w_iconst rfl (by decide) ?_
                exact w_iret rfl rfl h
              · refine w_aload_n rfl rfl ?_
                refine w_gfC (c := 432) rfl s_428 rfl rfl ?_
                refine w_iload_n rfl rfl ?_
                refine w_bald rfl s_432 (n := 40000) rfl h.1 ?_
                replace h := h.2
                refine w_bipush rfl (by decide) ?_
                refine w_icgt rfl (w_ite h (fun h => ?_) (fun h => ?_))
                · refine w_iconst rfl (by decide) ?_
                  exact w_iret rfl rfl h
                · refine w_aload_n rfl rfl ?_
                  refine w_gfC (c := 435) rfl s_428 rfl rfl ?_
                  refine w_iload_n rfl rfl ?_
                  refine w_iald rfl s_435 (n := 40000) rfl h.1 ?_
                  replace h := h.2
                  refine w_goto rfl ?_
                  exact w_iret rfl rfl h
            ·
              refine w_ite h (fun h => ?_) (fun h => ?_)
              · refine w_aload_n rfl rfl ?_
                refine w_gfC (c := 432) rfl s_428 rfl rfl ?_
                refine w_iload_n rfl rfl ?_
                refine w_bald rfl s_432 (n := 40000) rfl h.1 ?_
                replace h := h.2
                refine w_bipush rfl (by decide) ?_
                refine w_icne rfl (w_ite h (fun h => ?_) (fun h => ?_))
                · refine w_aload_n rfl rfl ?_
                  refine w_gfC (c := 434) rfl s_428 rfl rfl ?_
                  refine w_iload_n rfl rfl ?_
                  refine w_iald rfl s_434 (n := 40000) rfl h.1 ?_
                  replace h := h.2
                  refine w_goto rfl ?_
                  exact w_iret rfl rfl h
                · refine w_iconst rfl (by decide) ?_
                  exact w_iret rfl rfl h
              · refine w_aload_n rfl rfl ?_
                refine x_gfI rfl s_428 rfl (kk := 88) rfl rfl ?_
                refine w_ifne rfl (w_ite h (fun h => ?_) (fun h => ?_))
                · refine w_iconst rfl (by decide) ?_
                  refine w_goto rfl ?_
                  exact w_iret rfl rfl h
                · refine w_aload_n rfl rfl ?_
                  refine w_gfC (c := 439) rfl s_428 rfl rfl ?_
                  refine w_iload_n rfl rfl ?_
                  refine w_iald rfl s_439 (n := 40000) rfl h.1 ?_
                  replace h := h.2
                  exact w_iret rfl rfl h
theorem xr_m_hexDigit {d : Nat} {l0 : Int} {m : w_M} {Q : Int → w_M → Prop} (h : if l0 < 10 then (Q (w_32 (48 + l0)) m) else (Q (w_32 ((w_32 (65 + l0)) - 10)) m)) : xc_m_hexDigit (d + 1) l0 m Q := by
  refine w_enter (q := 0) (lv := [some (0, l0)]) rfl rfl rfl ?_
  refine w_iload_n rfl rfl ?_
  refine w_bipush rfl (by decide) ?_
  refine w_icge rfl (w_ite h (fun h => ?_) (fun h => ?_))
  · refine w_bipush rfl (by decide) ?_
    refine w_iload_n rfl rfl ?_
    refine w_iadd rfl ?_
    refine w_goto rfl ?_
    exact w_iret rfl rfl h
  · refine w_bipush rfl (by decide) ?_
    refine w_iload_n rfl rfl ?_
    refine w_iadd rfl ?_
    refine w_bipush rfl (by decide) ?_
    refine w_isub rfl ?_
    exact w_iret rfl rfl h
theorem xr_m_hexOf {d : Nat} {l0 : Int} {m : w_M} {Q : Int → w_M → Prop} (h : xc_m_isDigit d l0 m (fun r1 m1 => if r1 = 0 then (if l0 < 97 then (if l0 < 65 then (Q (-1) m1) else (if 70 < l0 then (Q (-1) m1) else (Q (w_32 ((w_32 (l0 - 65)) + 10)) m1))) else (if 102 < l0 then (if l0 < 65 then (Q (-1) m1) else (if 70 < l0 then (Q (-1) m1) else (Q (w_32 ((w_32 (l0 - 65)) + 10)) m1))) else (Q (w_32 ((w_32 (l0 - 97)) + 10)) m1))) else (Q (w_32 (l0 - 48)) m1))) : xc_m_hexOf (d + 1) l0 m Q := by
  refine w_enter (q := 0) (lv := [some (0, l0)]) rfl rfl rfl ?_
  refine w_iload_n rfl rfl ?_
  refine w_callS (t' := 0) [(0, l0)] [] rfl (by decide) rfl rfl ?_
  refine w_C.more (Q := fun r1 m1 => _) h (fun r1 m1 h => ?_)
  replace h := id h
  refine w_ifeq rfl (w_ite h (fun h => ?_) (fun h => ?_))
  · refine w_iload_n rfl rfl ?_
    refine w_bipush rfl (by decide) ?_
    refine w_iclt rfl (w_ite h (fun h => ?_) (fun h => ?_))
    · refine w_iload_n rfl rfl ?_
      refine w_bipush rfl (by decide) ?_
      refine w_iclt rfl (w_ite h (fun h => ?_) (fun h => ?_))
      · refine w_iconst rfl (by decide) ?_
        exact w_iret rfl rfl h
      · refine w_iload_n rfl rfl ?_
        refine w_bipush rfl (by decide) ?_
        refine w_icgt rfl (w_ite h (fun h => ?_) (fun h => ?_))
        · refine w_iconst rfl (by decide) ?_
          exact w_iret rfl rfl h
        · refine w_iload_n rfl rfl ?_
          refine w_bipush rfl (by decide) ?_
          refine w_isub rfl ?_
          refine w_bipush rfl (by decide) ?_
          refine w_iadd rfl ?_
          refine w_goto rfl ?_
          exact w_iret rfl rfl h
    · refine w_iload_n rfl rfl ?_
      refine w_bipush rfl (by decide) ?_
      refine w_icgt rfl (w_ite h (fun h => ?_) (fun h => ?_))
      · refine w_iload_n rfl rfl ?_
        refine w_bipush rfl (by decide) ?_
        refine w_iclt rfl (w_ite h (fun h => ?_) (fun h => ?_))
        · refine w_iconst rfl (by decide) ?_
          exact w_iret rfl rfl h
        · refine w_iload_n rfl rfl ?_
          refine w_bipush rfl (by decide) ?_
          refine w_icgt rfl (w_ite h (fun h => ?_) (fun h => ?_))
          · refine w_iconst rfl (by decide) ?_
            exact w_iret rfl rfl h
          · refine w_iload_n rfl rfl ?_
            refine w_bipush rfl (by decide) ?_
            refine w_isub rfl ?_
            refine w_bipush rfl (by decide) ?_
            refine w_iadd rfl ?_
            refine w_goto rfl ?_
            exact w_iret rfl rfl h
      · refine w_iload_n rfl rfl ?_
        refine w_bipush rfl (by decide) ?_
        refine w_isub rfl ?_
        refine w_bipush rfl (by decide) ?_
        refine w_iadd rfl ?_
        refine w_goto rfl ?_
        exact w_iret rfl rfl h
  · refine w_iload_n rfl rfl ?_
    refine w_bipush rfl (by decide) ?_
    refine w_isub rfl ?_
    refine w_goto rfl ?_
    exact w_iret rfl rfl h
theorem xr_m_holder {d : Nat} {l1 l2 : Int} {m : w_M} {Q : Int → w_M → Prop} (h : xp_m_holder_2 d l2 l1 m Q) : xc_m_holder (d + 1) l1 l2 m Q := by
  refine w_enter (q := 1) (lv := [some (2, 428), some (0, l1), some (2, l2), none]) rfl rfl rfl ?_
  refine w_iload_n rfl rfl ?_
  refine w_istore_n (lv' := [some (2, 428), some (0, l1), some (2, l2), some (0, l1)]) rfl rfl rfl ?_
  exact w_W.less h (w_sub [true, false, true, true] rfl)
theorem xr_m_holder_2 {d : Nat} {l2 l3 : Int} {m : w_M} {Q : Int → w_M → Prop} (h : if l3 = 0 then (Q l3 m) else (((0 : Int) ≤ l3 ∧ l3 < 200) ∧ (xc_m_entry d (m 455 l3) l2 m (fun r1 m1 => xc_m_isNothing d r1 m1 (fun r2 m2 => if r2 = 0 then (Q l3 m2) else (((0 : Int) ≤ l3 ∧ l3 < 200) ∧ (xp_m_holder_2 d l2 (m2 469 l3) m2 Q))))))) : xp_m_holder_2 d l2 l3 m Q := by
  refine w_iload_n rfl rfl ?_
  refine w_ifeq rfl (w_ite h (fun h => ?_) (fun h => ?_))
  · refine w_iload_n rfl rfl ?_
    exact w_iret rfl rfl h
  · refine w_aload_n rfl rfl ?_
    refine w_aload_n rfl rfl ?_
    refine w_aload_n rfl rfl ?_
    refine w_gfC (c := 455) rfl s_428 rfl rfl ?_
    refine w_iload_n rfl rfl ?_
    refine w_iald rfl s_455 (n := 200) rfl h.1 ?_
    replace h := h.2
    refine w_aload_n rfl rfl ?_
    refine w_callV (t' := 0) [(2, l2), (0, m 455 l3)] [(2, 428)] rfl s_428 rfl rfl ?_
    refine w_C.more (Q := fun r1 m1 => _) h (fun r1 m1 h => ?_)
    replace h := id h
    refine w_callV (t' := 0) [(0, r1)] [] rfl s_428 rfl rfl ?_
    refine w_C.more (Q := fun r2 m2 => _) h (fun r2 m2 h => ?_)
    replace h := id h
    refine w_ifeq rfl (w_ite h (fun h => ?_) (fun h => ?_))
    · refine w_iload_n rfl rfl ?_
      exact w_iret rfl rfl h
    · refine w_aload_n rfl rfl ?_
      refine w_gfC (c := 469) rfl s_428 rfl rfl ?_
      refine w_iload_n rfl rfl ?_
      refine w_iald rfl s_469 (n := 200) rfl h.1 ?_
      replace h := h.2
      refine w_istore_n (lv' := [some (2, 428), none, some (2, l2), some (0, m2 469 l3)]) rfl rfl rfl ?_
      refine w_goto rfl ?_
      exact w_W.less h (w_sub [true, false, true, true] rfl)
theorem xr_m_huffman {d : Nat} {l1 l2 : Int} {m : w_M} {Q : Int → w_M → Prop} (h : xp_m_huffman_4 d l1 (w_32 (l2 - 1)) m Q) : xc_m_huffman (d + 1) l1 l2 m Q := by
  refine w_enter (q := 1) (lv := [some (2, 428), some (0, l1), some (0, l2), none]) rfl rfl rfl ?_
  refine w_iload_n rfl rfl ?_
  refine w_iconst rfl (by decide) ?_
  refine w_isub rfl ?_
  refine w_istore_n (lv' := [some (2, 428), some (0, l1), some (0, l2), some (0, w_32 (l2 - 1))]) rfl rfl rfl ?_
  exact w_W.less h (w_sub [true, true, false, true] rfl)
theorem xr_m_huffman_4 {d : Nat} {l1 l3 : Int} {m : w_M} {Q : Int → w_M → Prop} (h : if l3 < 0 then (Q 0 m) else (xc_m_bit d ((w_shr l1 l3) % 2) 1 m (fun r1 m1 => xp_m_huffman_4 d l1 (w_32 (l3 + (-1))) m1 Q))) : xp_m_huffman_4 d l1 l3 m Q := by
  refine w_iload_n rfl rfl ?_
  refine w_iflt rfl (w_ite h (fun h => ?_) (fun h => ?_))
  · exact w_vret rfl rfl h
  · refine w_aload_n rfl rfl ?_
    refine w_iload_n rfl rfl ?_
    refine w_iload_n rfl rfl ?_
    refine w_ishr rfl ?_
    refine w_iconst rfl (by decide) ?_
    refine w_iandm 1 (c := 2) rfl (by decide) rfl rfl ?_
    refine w_iconst rfl (by decide) ?_
    refine w_callV (t' := 3) [(0, 1), (0, (w_shr l1 l3) % 2)] [] rfl s_428 rfl rfl ?_
    refine w_C.more (Q := fun r1 m1 => _) h (fun r1 m1 h => ?_)
    replace h := id h
    refine w_iinc (lv' := [some (2, 428), some (0, l1), none, some (0, w_32 (l3 + (-1)))]) rfl rfl rfl rfl ?_
    refine w_goto rfl ?_
    exact w_W.less h (w_sub [true, true, false, true] rfl)
theorem xr_m_identity {d : Nat} {l0 : Int} {m : w_M} {Q : Int → w_M → Prop} (h : xp_m_identity_2 d l0 0 m Q) : xc_m_identity (d + 1) l0 m Q := by
  refine w_enter (q := 1) (lv := [some (2, l0), none]) rfl rfl rfl ?_
  refine w_iconst rfl (by decide) ?_
  refine w_istore_n (lv' := [some (2, l0), some (0, 0)]) rfl rfl rfl ?_
  exact w_W.less h (w_sub [true, true] rfl)
theorem xr_m_identity_2 {d : Nat} {l0 l1 : Int} {m : w_M} {Q : Int → w_M → Prop} (h : if l1 < 6 then (if l1 = 0 then (w_isA 0 l0 ∧ w_wr (w_G0 sM) (Int.toNat l0) ∧ ((0 : Int) ≤ l1 ∧ l1 < w_ln l0) ∧ (xp_m_identity_2 d l0 (w_32 (l1 + 1)) (w_up m l0 l1 65536) Q)) else (if l1 = 3 then (w_isA 0 l0 ∧ w_wr (w_G0 sM) (Int.toNat l0) ∧ ((0 : Int) ≤ l1 ∧ l1 < w_ln l0) ∧ (xp_m_identity_2 d l0 (w_32 (l1 + 1)) (w_up m l0 l1 65536) Q)) else (w_isA 0 l0 ∧ w_wr (w_G0 sM) (Int.toNat l0) ∧ ((0 : Int) ≤ l1 ∧ l1 < w_ln l0) ∧ (xp_m_identity_2 d l0 (w_32 (l1 + 1)) (w_up m l0 l1 0) Q)))) else (Q 0 m)) : xp_m_identity_2 d l0 l1 m Q := by
  refine w_iload_n rfl rfl ?_
  refine w_bipush rfl (by decide) ?_
  refine w_icge rfl (w_ite h (fun h => ?_) (fun h => ?_))
  · refine w_aload_n rfl rfl ?_
    refine w_iload_n rfl rfl ?_
    refine w_iload_n rfl rfl ?_
    refine w_ifeq rfl (w_ite h (fun h => ?_) (fun h => ?_))
    · refine w_ldcw (a := 65536) rfl (by decide +kernel) (by decide) ?_
      refine w_goto rfl ?_
      refine x_iast rfl h.1 h.2.1 h.2.2.1 ?_
      replace h := h.2.2.2
      refine w_iinc (lv' := [some (2, l0), some (0, w_32 (l1 + 1))]) rfl rfl rfl rfl ?_
      refine w_goto rfl ?_
      exact w_W.less h (w_sub [true, true] rfl)
    · refine w_iload_n rfl rfl ?_
      refine w_iconst rfl (by decide) ?_
      refine w_icne rfl (w_ite h (fun h => ?_) (fun h => ?_))
      · refine w_ldcw (a := 65536) rfl (by decide +kernel) (by decide) ?_
        refine w_goto rfl ?_
        refine x_iast rfl h.1 h.2.1 h.2.2.1 ?_
        replace h := h.2.2.2
        refine w_iinc (lv' := [some (2, l0), some (0, w_32 (l1 + 1))]) rfl rfl rfl rfl ?_
        refine w_goto rfl ?_
        exact w_W.less h (w_sub [true, true] rfl)
      · refine w_iconst rfl (by decide) ?_
        refine x_iast rfl h.1 h.2.1 h.2.2.1 ?_
        replace h := h.2.2.2
        refine w_iinc (lv' := [some (2, l0), some (0, w_32 (l1 + 1))]) rfl rfl rfl rfl ?_
        refine w_goto rfl ?_
        exact w_W.less h (w_sub [true, true] rfl)
  · exact w_vret rfl rfl h
theorem xr_m_idle {d : Nat} {l1 : Int} {m : w_M} {Q : Int → w_M → Prop} (h : w_isS l1 ∧ (xc_js_hashCode sM d l1 m (fun r1 m1 => if r1 = 66 then (w_isS l1 ∧ (xc_js_equals sM d l1 154 m1 (fun r2 m2 => if r2 = 0 then (xp_m_idle_734 d (-1) m2 Q) else (xp_m_idle_734 d 14 m2 Q)))) else (if r1 = 70 then (w_isS l1 ∧ (xc_js_equals sM d l1 150 m1 (fun r3 m3 => if r3 = 0 then (xp_m_idle_734 d (-1) m3 Q) else (xp_m_idle_734 d 12 m3 Q)))) else (if r1 = 71 then (w_isS l1 ∧ (xc_js_equals sM d l1 180 m1 (fun r4 m4 => if r4 = 0 then (xp_m_idle_734 d (-1) m4 Q) else (xp_m_idle_734 d 27 m4 Q)))) else (if r1 = 74 then (w_isS l1 ∧ (xc_js_equals sM d l1 170 m1 (fun r5 m5 => if r5 = 0 then (xp_m_idle_734 d (-1) m5 Q) else (xp_m_idle_734 d 22 m5 Q)))) else (if r1 = 75 then (w_isS l1 ∧ (xc_js_equals sM d l1 140 m1 (fun r6 m6 => if r6 = 0 then (xp_m_idle_734 d (-1) m6 Q) else (xp_m_idle_734 d 7 m6 Q)))) else (if r1 = 77 then (w_isS l1 ∧ (xc_js_equals sM d l1 174 m1 (fun r7 m7 => if r7 = 0 then (xp_m_idle_734 d (-1) m7 Q) else (xp_m_idle_734 d 24 m7 Q)))) else (if r1 = 83 then (w_isS l1 ∧ (xc_js_equals sM d l1 144 m1 (fun r8 m8 => if r8 = 0 then (xp_m_idle_734 d (-1) m8 Q) else (xp_m_idle_734 d 9 m8 Q)))) else (if r1 = 87 then (w_isS l1 ∧ (xc_js_equals sM d l1 164 m1 (fun r9 m9 => if r9 = 0 then (xp_m_idle_734 d (-1) m9 Q) else (xp_m_idle_734 d 19 m9 Q)))) else (if r1 = 98 then (w_isS l1 ∧ (xc_js_equals sM d l1 158 m1 (fun r10 m10 => if r10 = 0 then (xp_m_idle_734 d (-1) m10 Q) else (xp_m_idle_734 d 16 m10 Q)))) else (if r1 = 99 then (w_isS l1 ∧ (xc_js_equals sM d l1 130 m1 (fun r11 m11 => if r11 = 0 then (xp_m_idle_734 d (-1) m11 Q) else (xp_m_idle_734 d 2 m11 Q)))) else (if r1 = 100 then (w_isS l1 ∧ (xc_js_equals sM d l1 186 m1 (fun r12 m12 => if r12 = 0 then (xp_m_idle_734 d (-1) m12 Q) else (xp_m_idle_734 d 30 m12 Q)))) else (if r1 = 102 then (w_isS l1 ∧ (xc_js_equals sM d l1 148 m1 (fun r13 m13 => if r13 = 0 then (xp_m_idle_734 d (-1) m13 Q) else (xp_m_idle_734 d 11 m13 Q)))) else (if r1 = 103 then (w_isS l1 ∧ (xc_js_equals sM d l1 178 m1 (fun r14 m14 => if r14 = 0 then (xp_m_idle_734 d (-1) m14 Q) else (xp_m_idle_734 d 26 m14 Q)))) else (if r1 = 104 then (w_isS l1 ∧ (xc_js_equals sM d l1 142 m1 (fun r15 m15 => if r15 = 0 then (xp_m_idle_734 d (-1) m15 Q) else (xp_m_idle_734 d 8 m15 Q)))) else (if r1 = 105 then (w_isS l1 ∧ (xc_js_equals sM d l1 176 m1 (fun r16 m16 => if r16 = 0 then (xp_m_idle_734 d (-1) m16 Q) else (xp_m_idle_734 d 25 m16 Q)))) else (if r1 = 106 then (w_isS l1 ∧ (xc_js_equals sM d l1 172 m1 (fun r17 m17 => if r17 = 0 then (xp_m_idle_734 d (-1) m17 Q) else (xp_m_idle_734 d 23 m17 Q)))) else (if r1 = 107 then (w_isS l1 ∧ (xc_js_equals sM d l1 138 m1 (fun r18 m18 => if r18 = 0 then (xp_m_idle_734 d (-1) m18 Q) else (xp_m_idle_734 d 6 m18 Q)))) else (if r1 = 108 then (w_isS l1 ∧ (xc_js_equals sM d l1 128 m1 (fun r19 m19 => if r19 = 0 then (xp_m_idle_734 d (-1) m19 Q) else (xp_m_idle_734 d 1 m19 Q)))) else (if r1 = 109 then (w_isS l1 ∧ (xc_js_equals sM d l1 126 m1 (fun r20 m20 => if r20 = 0 then (xp_m_idle_734 d (-1) m20 Q) else (xp_m_idle_734 d 0 m20 Q)))) else (if r1 = 110 then (w_isS l1 ∧ (xc_js_equals sM d l1 162 m1 (fun r21 m21 => if r21 = 0 then (xp_m_idle_734 d (-1) m21 Q) else (xp_m_idle_734 d 18 m21 Q)))) else (if r1 = 115 then (w_isS l1 ∧ (xc_js_equals sM d l1 146 m1 (fun r22 m22 => if r22 = 0 then (xp_m_idle_734 d (-1) m22 Q) else (xp_m_idle_734 d 10 m22 Q)))) else (if r1 = 118 then (w_isS l1 ∧ (xc_js_equals sM d l1 132 m1 (fun r23 m23 => if r23 = 0 then (xp_m_idle_734 d (-1) m23 Q) else (xp_m_idle_734 d 3 m23 Q)))) else (if r1 = 119 then (w_isS l1 ∧ (xc_js_equals sM d l1 168 m1 (fun r24 m24 => if r24 = 0 then (xp_m_idle_734 d (-1) m24 Q) else (xp_m_idle_734 d 21 m24 Q)))) else (if r1 = 121 then (w_isS l1 ∧ (xc_js_equals sM d l1 134 m1 (fun r25 m25 => if r25 = 0 then (xp_m_idle_734 d (-1) m25 Q) else (xp_m_idle_734 d 4 m25 Q)))) else (if r1 = 2088 then (w_isS l1 ∧ (xc_js_equals sM d l1 156 m1 (fun r26 m26 => if r26 = 0 then (xp_m_idle_734 d (-1) m26 Q) else (xp_m_idle_734 d 15 m26 Q)))) else (if r1 = 2613 then (w_isS l1 ∧ (xc_js_equals sM d l1 184 m1 (fun r27 m27 => if r27 = 0 then (xp_m_idle_734 d (-1) m27 Q) else (xp_m_idle_734 d 29 m27 Q)))) else (if r1 = 2739 then (w_isS l1 ∧ (xc_js_equals sM d l1 166 m1 (fun r28 m28 => if r28 = 0 then (xp_m_idle_734 d (-1) m28 Q) else (xp_m_idle_734 d 20 m28 Q)))) else (if r1 = 3080 then (w_isS l1 ∧ (xc_js_equals sM d l1 160 m1 (fun r29 m29 => if r29 = 0 then (xp_m_idle_734 d (-1) m29 Q) else (xp_m_idle_734 d 17 m29 Q)))) else (if r1 = 3204 then (w_isS l1 ∧ (xc_js_equals sM d l1 152 m1 (fun r30 m30 => if r30 = 0 then (xp_m_idle_734 d (-1) m30 Q) else (xp_m_idle_734 d 13 m30 Q)))) else (if r1 = 3635 then (w_isS l1 ∧ (xc_js_equals sM d l1 136 m1 (fun r31 m31 => if r31 = 0 then (xp_m_idle_734 d (-1) m31 Q) else (xp_m_idle_734 d 5 m31 Q)))) else (if r1 = 3637 then (w_isS l1 ∧ (xc_js_equals sM d l1 182 m1 (fun r32 m32 => if r32 = 0 then (xp_m_idle_734 d (-1) m32 Q) else (xp_m_idle_734 d 28 m32 Q)))) else (xp_m_idle_734 d (-1) m1 Q)))))))))))))))))))))))))))))))))) : xc_m_idle (d + 1) l1 m Q := by
  refine w_enter (q := 2) (lv := [some (2, 428), some (2, l1), none, none]) rfl rfl rfl ?_
  refine w_aload_n rfl rfl ?_
  refine w_astore_n (lv' := [some (2, 428), some (2, l1), some (2, l1), none]) rfl rfl rfl ?_
  refine w_iconst rfl (by decide) ?_
  refine w_istore_n (lv' := [some (2, 428), some (2, l1), some (2, l1), some (0, (-1))]) rfl rfl rfl ?_
  refine w_aload_n rfl rfl ?_
  refine w_callV (t' := 0) [] [] rfl (w_isS_s h.1) rfl rfl ?_
  replace h := h.2
  refine w_C.more (Q := fun r1 m1 => _) h (fun r1 m1 h => ?_)
  replace h := id h
  refine w_lswitch (pd := 734) [(66, 472), (70, 442), (71, 673), (74, 593), (75, 367), (77, 625), (83, 397), (87, 547), (98, 502), (99, 296), (100, 721), (102, 427), (103, 657), (104, 382), (105, 641), (106, 609), (107, 352), (108, 282), (109, 268), (110, 532), (115, 412), (118, 310), (119, 577), (121, 324), (2088, 487), (2613, 705), (2739, 562), (3080, 517), (3204, 457), (3635, 338), (3637, 689)] rfl rfl rfl ?_
  refine w_ite h (fun h => ?_) (fun h => ?_)
  · refine w_aload_n rfl rfl ?_
    refine w_ldcR rfl ?_
    refine w_callV (t' := 0) [(2, 154)] [] rfl (w_isS_s h.1) rfl rfl ?_
    replace h := h.2
    refine w_C.more (Q := fun r2 m2 => _) h (fun r2 m2 h => ?_)
    replace h := id h
    refine w_ifeq rfl (w_ite h (fun h => ?_) (fun h => ?_))
    · exact w_W.less h (w_sub [true, false, false, true] rfl)
    · refine w_bipush rfl (by decide) ?_
      refine w_istore_n (lv' := [some (2, 428), some (2, l1), some (2, l1), some (0, 14)]) rfl rfl rfl ?_
      refine w_goto rfl ?_
      exact w_W.less h (w_sub [true, false, false, true] rfl)
  ·
    refine w_ite h (fun h => ?_) (fun h => ?_)
    · refine w_aload_n rfl rfl ?_
      refine w_ldcR rfl ?_
      refine w_callV (t' := 0) [(2, 150)] [] rfl (w_isS_s h.1) rfl rfl ?_
      replace h := h.2
      refine w_C.more (Q := fun r3 m3 => _) h (fun r3 m3 h => ?_)
      replace h := id h
      refine w_ifeq rfl (w_ite h (fun h => ?_) (fun h => ?_))
      · exact w_W.less h (w_sub [true, false, false, true] rfl)
      · refine w_bipush rfl (by decide) ?_
        refine w_istore_n (lv' := [some (2, 428), some (2, l1), some (2, l1), some (0, 12)]) rfl rfl rfl ?_
        refine w_goto rfl ?_
        exact w_W.less h (w_sub [true, false, false, true] rfl)
    ·
      refine w_ite h (fun h => ?_) (fun h => ?_)
      · refine w_aload_n rfl rfl ?_
        refine w_ldcwR rfl ?_
        refine w_callV (t' := 0) [(2, 180)] [] rfl (w_isS_s h.1) rfl rfl ?_
        replace h := h.2
        refine w_C.more (Q := fun r4 m4 => _) h (fun r4 m4 h => ?_)
        replace h := id h
        refine w_ifeq rfl (w_ite h (fun h => ?_) (fun h => ?_))
        · exact w_W.less h (w_sub [true, false, false, true] rfl)
        · refine w_bipush rfl (by decide) ?_
          refine w_istore_n (lv' := [some (2, 428), some (2, l1), some (2, l1), some (0, 27)]) rfl rfl rfl ?_
          refine w_goto rfl ?_
          exact w_W.less h (w_sub [true, false, false, true] rfl)
      ·
        refine w_ite h (fun h => ?_) (fun h => ?_)
        · refine w_aload_n rfl rfl ?_
          refine w_ldcwR rfl ?_
          refine w_callV (t' := 0) [(2, 170)] [] rfl (w_isS_s h.1) rfl rfl ?_
          replace h := h.2
          refine w_C.more (Q := fun r5 m5 => _) h (fun r5 m5 h => ?_)
          replace h := id h
          refine w_ifeq rfl (w_ite h (fun h => ?_) (fun h => ?_))
          · exact w_W.less h (w_sub [true, false, false, true] rfl)
          · refine w_bipush rfl (by decide) ?_
            refine w_istore_n (lv' := [some (2, 428), some (2, l1), some (2, l1), some (0, 22)]) rfl rfl rfl ?_
            refine w_goto rfl ?_
            exact w_W.less h (w_sub [true, false, false, true] rfl)
        ·
          refine w_ite h (fun h => ?_) (fun h => ?_)
          · refine w_aload_n rfl rfl ?_
            refine w_ldcR rfl ?_
            refine w_callV (t' := 0) [(2, 140)] [] rfl (w_isS_s h.1) rfl rfl ?_
            replace h := h.2
            refine w_C.more (Q := fun r6 m6 => _) h (fun r6 m6 h => ?_)
            replace h := id h
            refine w_ifeq rfl (w_ite h (fun h => ?_) (fun h => ?_))
            · exact w_W.less h (w_sub [true, false, false, true] rfl)
            · refine w_bipush rfl (by decide) ?_
              refine w_istore_n (lv' := [some (2, 428), some (2, l1), some (2, l1), some (0, 7)]) rfl rfl rfl ?_
              refine w_goto rfl ?_
              exact w_W.less h (w_sub [true, false, false, true] rfl)
          ·
            refine w_ite h (fun h => ?_) (fun h => ?_)
            · refine w_aload_n rfl rfl ?_
              refine w_ldcwR rfl ?_
              refine w_callV (t' := 0) [(2, 174)] [] rfl (w_isS_s h.1) rfl rfl ?_
              replace h := h.2
              refine w_C.more (Q := fun r7 m7 => _) h (fun r7 m7 h => ?_)
              replace h := id h
              refine w_ifeq rfl (w_ite h (fun h => ?_) (fun h => ?_))
              · exact w_W.less h (w_sub [true, false, false, true] rfl)
              · refine w_bipush rfl (by decide) ?_
                refine w_istore_n (lv' := [some (2, 428), some (2, l1), some (2, l1), some (0, 24)]) rfl rfl rfl ?_
                refine w_goto rfl ?_
                exact w_W.less h (w_sub [true, false, false, true] rfl)
            ·
              refine w_ite h (fun h => ?_) (fun h => ?_)
              · refine w_aload_n rfl rfl ?_
                refine w_ldcR rfl ?_
                refine w_callV (t' := 0) [(2, 144)] [] rfl (w_isS_s h.1) rfl rfl ?_
                replace h := h.2
                refine w_C.more (Q := fun r8 m8 => _) h (fun r8 m8 h => ?_)
                replace h := id h
                refine w_ifeq rfl (w_ite h (fun h => ?_) (fun h => ?_))
                · exact w_W.less h (w_sub [true, false, false, true] rfl)
                · refine w_bipush rfl (by decide) ?_
                  refine w_istore_n (lv' := [some (2, 428), some (2, l1), some (2, l1), some (0, 9)]) rfl rfl rfl ?_
                  refine w_goto rfl ?_
                  exact w_W.less h (w_sub [true, false, false, true] rfl)
              ·
                refine w_ite h (fun h => ?_) (fun h => ?_)
                · refine w_aload_n rfl rfl ?_
                  refine w_ldcR rfl ?_
                  refine w_callV (t' := 0) [(2, 164)] [] rfl (w_isS_s h.1) rfl rfl ?_
                  replace h := h.2
                  refine w_C.more (Q := fun r9 m9 => _) h (fun r9 m9 h => ?_)
                  replace h := id h
                  refine w_ifeq rfl (w_ite h (fun h => ?_) (fun h => ?_))
                  · exact w_W.less h (w_sub [true, false, false, true] rfl)
                  · refine w_bipush rfl (by decide) ?_
                    refine w_istore_n (lv' := [some (2, 428), some (2, l1), some (2, l1), some (0, 19)]) rfl rfl rfl ?_
                    refine w_goto rfl ?_
                    exact w_W.less h (w_sub [true, false, false, true] rfl)
                ·
                  refine w_ite h (fun h => ?_) (fun h => ?_)
                  · refine w_aload_n rfl rfl ?_
                    refine w_ldcR rfl ?_
                    refine w_callV (t' := 0) [(2, 158)] [] rfl (w_isS_s h.1) rfl rfl ?_
                    replace h := h.2
                    refine w_C.more (Q := fun r10 m10 => _) h (fun r10 m10 h => ?_)
                    replace h := id h
                    refine w_ifeq rfl (w_ite h (fun h => ?_) (fun h => ?_))
                    · exact w_W.less h (w_sub [true, false, false, true] rfl)
                    · refine w_bipush rfl (by decide) ?_
                      refine w_istore_n (lv' := [some (2, 428), some (2, l1), some (2, l1), some (0, 16)]) rfl rfl rfl ?_
                      refine w_goto rfl ?_
                      exact w_W.less h (w_sub [true, false, false, true] rfl)
                  ·
                    refine w_ite h (fun h => ?_) (fun h => ?_)
                    · refine w_aload_n rfl rfl ?_
                      refine w_ldcR rfl ?_
                      refine w_callV (t' := 0) [(2, 130)] [] rfl (w_isS_s h.1) rfl rfl ?_
                      replace h := h.2
                      refine w_C.more (Q := fun r11 m11 => _) h (fun r11 m11 h => ?_)
                      replace h := id h
                      refine w_ifeq rfl (w_ite h (fun h => ?_) (fun h => ?_))
                      · exact w_W.less h (w_sub [true, false, false, true] rfl)
                      · refine w_iconst rfl (by decide) ?_
                        refine w_istore_n (lv' := [some (2, 428), some (2, l1), some (2, l1), some (0, 2)]) rfl rfl rfl ?_
                        refine w_goto rfl ?_
                        exact w_W.less h (w_sub [true, false, false, true] rfl)
                    ·
                      refine w_ite h (fun h => ?_) (fun h => ?_)
                      · refine w_aload_n rfl rfl ?_
                        refine w_ldcwR rfl ?_
                        refine w_callV (t' := 0) [(2, 186)] [] rfl (w_isS_s h.1) rfl rfl ?_
                        replace h := h.2
                        refine w_C.more (Q := fun r12 m12 => _) h (fun r12 m12 h => ?_)
                        replace h := id h
                        refine w_ifeq rfl (w_ite h (fun h => ?_) (fun h => ?_))
                        · exact w_W.less h (w_sub [true, false, false, true] rfl)
                        · refine w_bipush rfl (by decide) ?_
                          refine w_istore_n (lv' := [some (2, 428), some (2, l1), some (2, l1), some (0, 30)]) rfl rfl rfl ?_
                          exact w_W.less h (w_sub [true, false, false, true] rfl)
                      ·
                        refine w_ite h (fun h => ?_) (fun h => ?_)
                        · refine w_aload_n rfl rfl ?_
                          refine w_ldcR rfl ?_
                          refine w_callV (t' := 0) [(2, 148)] [] rfl (w_isS_s h.1) rfl rfl ?_
                          replace h := h.2
                          refine w_C.more (Q := fun r13 m13 => _) h (fun r13 m13 h => ?_)
                          replace h := id h
                          refine w_ifeq rfl (w_ite h (fun h => ?_) (fun h => ?_))
                          · exact w_W.less h (w_sub [true, false, false, true] rfl)
                          · refine w_bipush rfl (by decide) ?_
                            refine w_istore_n (lv' := [some (2, 428), some (2, l1), some (2, l1), some (0, 11)]) rfl rfl rfl ?_
                            refine w_goto rfl ?_
                            exact w_W.less h (w_sub [true, false, false, true] rfl)
                        ·
                          refine w_ite h (fun h => ?_) (fun h => ?_)
                          · refine w_aload_n rfl rfl ?_
                            refine w_ldcwR rfl ?_
                            refine w_callV (t' := 0) [(2, 178)] [] rfl (w_isS_s h.1) rfl rfl ?_
                            replace h := h.2
                            refine w_C.more (Q := fun r14 m14 => _) h (fun r14 m14 h => ?_)
                            replace h := id h
                            refine w_ifeq rfl (w_ite h (fun h => ?_) (fun h => ?_))
                            · exact w_W.less h (w_sub [true, false, false, true] rfl)
                            · refine w_bipush rfl (by decide) ?_
                              refine w_istore_n (lv' := [some (2, 428), some (2, l1), some (2, l1), some (0, 26)]) rfl rfl rfl ?_
                              refine w_goto rfl ?_
                              exact w_W.less h (w_sub [true, false, false, true] rfl)
                          ·
                            refine w_ite h (fun h => ?_) (fun h => ?_)
                            · refine w_aload_n rfl rfl ?_
                              refine w_ldcR rfl ?_
                              refine w_callV (t' := 0) [(2, 142)] [] rfl (w_isS_s h.1) rfl rfl ?_
                              replace h := h.2
                              refine w_C.more (Q := fun r15 m15 => _) h (fun r15 m15 h => ?_)
                              replace h := id h
                              refine w_ifeq rfl (w_ite h (fun h => ?_) (fun h => ?_))
                              · exact w_W.less h (w_sub [true, false, false, true] rfl)
                              · refine w_bipush rfl (by decide) ?_
                                refine w_istore_n (lv' := [some (2, 428), some (2, l1), some (2, l1), some (0, 8)]) rfl rfl rfl ?_
                                refine w_goto rfl ?_
                                exact w_W.less h (w_sub [true, false, false, true] rfl)
                            ·
                              refine w_ite h (fun h => ?_) (fun h => ?_)
                              · refine w_aload_n rfl rfl ?_
                                refine w_ldcwR rfl ?_
                                refine w_callV (t' := 0) [(2, 176)] [] rfl (w_isS_s h.1) rfl rfl ?_
                                replace h := h.2
                                refine w_C.more (Q := fun r16 m16 => _) h (fun r16 m16 h => ?_)
                                replace h := id h
                                refine w_ifeq rfl (w_ite h (fun h => ?_) (fun h => ?_))
                                · exact w_W.less h (w_sub [true, false, false, true] rfl)
                                · refine w_bipush rfl (by decide) ?_
                                  refine w_istore_n (lv' := [some (2, 428), some (2, l1), some (2, l1), some (0, 25)]) rfl rfl rfl ?_
                                  refine w_goto rfl ?_
                                  exact w_W.less h (w_sub [true, false, false, true] rfl)
                              ·
                                refine w_ite h (fun h => ?_) (fun h => ?_)
                                · refine w_aload_n rfl rfl ?_
                                  refine w_ldcwR rfl ?_
                                  refine w_callV (t' := 0) [(2, 172)] [] rfl (w_isS_s h.1) rfl rfl ?_
                                  replace h := h.2
                                  refine w_C.more (Q := fun r17 m17 => _) h (fun r17 m17 h => ?_)
                                  replace h := id h
                                  refine w_ifeq rfl (w_ite h (fun h => ?_) (fun h => ?_))
                                  · exact w_W.less h (w_sub [true, false, false, true] rfl)
                                  · refine w_bipush rfl (by decide) ?_
                                    refine w_istore_n (lv' := [some (2, 428), some (2, l1), some (2, l1), some (0, 23)]) rfl rfl rfl ?_
                                    refine w_goto rfl ?_
                                    exact w_W.less h (w_sub [true, false, false, true] rfl)
                                ·
                                  refine w_ite h (fun h => ?_) (fun h => ?_)
                                  · refine w_aload_n rfl rfl ?_
                                    refine w_ldcR rfl ?_
                                    refine w_callV (t' := 0) [(2, 138)] [] rfl (w_isS_s h.1) rfl rfl ?_
                                    replace h := h.2
                                    refine w_C.more (Q := fun r18 m18 => _) h (fun r18 m18 h => ?_)
                                    replace h := id h
                                    refine w_ifeq rfl (w_ite h (fun h => ?_) (fun h => ?_))
                                    · exact w_W.less h (w_sub [true, false, false, true] rfl)
                                    · refine w_bipush rfl (by decide) ?_
                                      refine w_istore_n (lv' := [some (2, 428), some (2, l1), some (2, l1), some (0, 6)]) rfl rfl rfl ?_
                                      refine w_goto rfl ?_
                                      exact w_W.less h (w_sub [true, false, false, true] rfl)
                                  ·
                                    refine w_ite h (fun h => ?_) (fun h => ?_)
                                    · refine w_aload_n rfl rfl ?_
                                      refine w_ldcR rfl ?_
                                      refine w_callV (t' := 0) [(2, 128)] [] rfl (w_isS_s h.1) rfl rfl ?_
                                      replace h := h.2
                                      refine w_C.more (Q := fun r19 m19 => _) h (fun r19 m19 h => ?_)
                                      replace h := id h
                                      refine w_ifeq rfl (w_ite h (fun h => ?_) (fun h => ?_))
                                      · exact w_W.less h (w_sub [true, false, false, true] rfl)
                                      · refine w_iconst rfl (by decide) ?_
                                        refine w_istore_n (lv' := [some (2, 428), some (2, l1), some (2, l1), some (0, 1)]) rfl rfl rfl ?_
                                        refine w_goto rfl ?_
                                        exact w_W.less h (w_sub [true, false, false, true] rfl)
                                    ·
                                      refine w_ite h (fun h => ?_) (fun h => ?_)
                                      · refine w_aload_n rfl rfl ?_
                                        refine w_ldcR rfl ?_
                                        refine w_callV (t' := 0) [(2, 126)] [] rfl (w_isS_s h.1) rfl rfl ?_
                                        replace h := h.2
                                        refine w_C.more (Q := fun r20 m20 => _) h (fun r20 m20 h => ?_)
                                        replace h := id h
                                        refine w_ifeq rfl (w_ite h (fun h => ?_) (fun h => ?_))
                                        · exact w_W.less h (w_sub [true, false, false, true] rfl)
                                        · refine w_iconst rfl (by decide) ?_
                                          refine w_istore_n (lv' := [some (2, 428), some (2, l1), some (2, l1), some (0, 0)]) rfl rfl rfl ?_
                                          refine w_goto rfl ?_
                                          exact w_W.less h (w_sub [true, false, false, true] rfl)
                                      ·
                                        refine w_ite h (fun h => ?_) (fun h => ?_)
                                        · refine w_aload_n rfl rfl ?_
                                          refine w_ldcR rfl ?_
                                          refine w_callV (t' := 0) [(2, 162)] [] rfl (w_isS_s h.1) rfl rfl ?_
                                          replace h := h.2
                                          refine w_C.more (Q := fun r21 m21 => _) h (fun r21 m21 h => ?_)
                                          replace h := id h
                                          refine w_ifeq rfl (w_ite h (fun h => ?_) (fun h => ?_))
                                          · exact w_W.less h (w_sub [true, false, false, true] rfl)
                                          · refine w_bipush rfl (by decide) ?_
                                            refine w_istore_n (lv' := [some (2, 428), some (2, l1), some (2, l1), some (0, 18)]) rfl rfl rfl ?_
                                            refine w_goto rfl ?_
                                            exact w_W.less h (w_sub [true, false, false, true] rfl)
                                        ·
                                          refine w_ite h (fun h => ?_) (fun h => ?_)
                                          · refine w_aload_n rfl rfl ?_
                                            refine w_ldcR rfl ?_
                                            refine w_callV (t' := 0) [(2, 146)] [] rfl (w_isS_s h.1) rfl rfl ?_
                                            replace h := h.2
                                            refine w_C.more (Q := fun r22 m22 => _) h (fun r22 m22 h => ?_)
                                            replace h := id h
                                            refine w_ifeq rfl (w_ite h (fun h => ?_) (fun h => ?_))
                                            · exact w_W.less h (w_sub [true, false, false, true] rfl)
                                            · refine w_bipush rfl (by decide) ?_
                                              refine w_istore_n (lv' := [some (2, 428), some (2, l1), some (2, l1), some (0, 10)]) rfl rfl rfl ?_
                                              refine w_goto rfl ?_
                                              exact w_W.less h (w_sub [true, false, false, true] rfl)
                                          ·
                                            refine w_ite h (fun h => ?_) (fun h => ?_)
                                            · refine w_aload_n rfl rfl ?_
                                              refine w_ldcR rfl ?_
                                              refine w_callV (t' := 0) [(2, 132)] [] rfl (w_isS_s h.1) rfl rfl ?_
                                              replace h := h.2
                                              refine w_C.more (Q := fun r23 m23 => _) h (fun r23 m23 h => ?_)
                                              replace h := id h
                                              refine w_ifeq rfl (w_ite h (fun h => ?_) (fun h => ?_))
                                              · exact w_W.less h (w_sub [true, false, false, true] rfl)
                                              · refine w_iconst rfl (by decide) ?_
                                                refine w_istore_n (lv' := [some (2, 428), some (2, l1), some (2, l1), some (0, 3)]) rfl rfl rfl ?_
                                                refine w_goto rfl ?_
                                                exact w_W.less h (w_sub [true, false, false, true] rfl)
                                            ·
                                              refine w_ite h (fun h => ?_) (fun h => ?_)
                                              · refine w_aload_n rfl rfl ?_
                                                refine w_ldcwR rfl ?_
                                                refine w_callV (t' := 0) [(2, 168)] [] rfl (w_isS_s h.1) rfl rfl ?_
                                                replace h := h.2
                                                refine w_C.more (Q := fun r24 m24 => _) h (fun r24 m24 h => ?_)
                                                replace h := id h
                                                refine w_ifeq rfl (w_ite h (fun h => ?_) (fun h => ?_))
                                                · exact w_W.less h (w_sub [true, false, false, true] rfl)
                                                · refine w_bipush rfl (by decide) ?_
                                                  refine w_istore_n (lv' := [some (2, 428), some (2, l1), some (2, l1), some (0, 21)]) rfl rfl rfl ?_
                                                  refine w_goto rfl ?_
                                                  exact w_W.less h (w_sub [true, false, false, true] rfl)
                                              ·
                                                refine w_ite h (fun h => ?_) (fun h => ?_)
                                                · refine w_aload_n rfl rfl ?_
                                                  refine w_ldcR rfl ?_
                                                  refine w_callV (t' := 0) [(2, 134)] [] rfl (w_isS_s h.1) rfl rfl ?_
                                                  replace h := h.2
                                                  refine w_C.more (Q := fun r25 m25 => _) h (fun r25 m25 h => ?_)
                                                  replace h := id h
                                                  refine w_ifeq rfl (w_ite h (fun h => ?_) (fun h => ?_))
                                                  · exact w_W.less h (w_sub [true, false, false, true] rfl)
                                                  · refine w_iconst rfl (by decide) ?_
                                                    refine w_istore_n (lv' := [some (2, 428), some (2, l1), some (2, l1), some (0, 4)]) rfl rfl rfl ?_
                                                    refine w_goto rfl ?_
                                                    exact w_W.less h (w_sub [true, false, false, true] rfl)
                                                ·
                                                  refine w_ite h (fun h => ?_) (fun h => ?_)
                                                  · refine w_aload_n rfl rfl ?_
                                                    refine w_ldcR rfl ?_
                                                    refine w_callV (t' := 0) [(2, 156)] [] rfl (w_isS_s h.1) rfl rfl ?_
                                                    replace h := h.2
                                                    refine w_C.more (Q := fun r26 m26 => _) h (fun r26 m26 h => ?_)
                                                    replace h := id h
                                                    refine w_ifeq rfl (w_ite h (fun h => ?_) (fun h => ?_))
                                                    · exact w_W.less h (w_sub [true, false, false, true] rfl)
                                                    · refine w_bipush rfl (by decide) ?_
                                                      refine w_istore_n (lv' := [some (2, 428), some (2, l1), some (2, l1), some (0, 15)]) rfl rfl rfl ?_
                                                      refine w_goto rfl ?_
                                                      exact w_W.less h (w_sub [true, false, false, true] rfl)
                                                  ·
                                                    refine w_ite h (fun h => ?_) (fun h => ?_)
                                                    · refine w_aload_n rfl rfl ?_
                                                      refine w_ldcwR rfl ?_
                                                      refine w_callV (t' := 0) [(2, 184)] [] rfl (w_isS_s h.1) rfl rfl ?_
                                                      replace h := h.2
                                                      refine w_C.more (Q := fun r27 m27 => _) h (fun r27 m27 h => ?_)
                                                      replace h := id h
                                                      refine w_ifeq rfl (w_ite h (fun h => ?_) (fun h => ?_))
                                                      · exact w_W.less h (w_sub [true, false, false, true] rfl)
                                                      · refine w_bipush rfl (by decide) ?_
                                                        refine w_istore_n (lv' := [some (2, 428), some (2, l1), some (2, l1), some (0, 29)]) rfl rfl rfl ?_
                                                        refine w_goto rfl ?_
                                                        exact w_W.less h (w_sub [true, false, false, true] rfl)
                                                    ·
                                                      refine w_ite h (fun h => ?_) (fun h => ?_)
                                                      · refine w_aload_n rfl rfl ?_
                                                        refine w_ldcR rfl ?_
                                                        refine w_callV (t' := 0) [(2, 166)] [] rfl (w_isS_s h.1) rfl rfl ?_
                                                        replace h := h.2
                                                        refine w_C.more (Q := fun r28 m28 => _) h (fun r28 m28 h => ?_)
                                                        replace h := id h
                                                        refine w_ifeq rfl (w_ite h (fun h => ?_) (fun h => ?_))
                                                        · exact w_W.less h (w_sub [true, false, false, true] rfl)
                                                        · refine w_bipush rfl (by decide) ?_
                                                          refine w_istore_n (lv' := [some (2, 428), some (2, l1), some (2, l1), some (0, 20)]) rfl rfl rfl ?_
                                                          refine w_goto rfl ?_
                                                          exact w_W.less h (w_sub [true, false, false, true] rfl)
                                                      ·
                                                        refine w_ite h (fun h => ?_) (fun h => ?_)
                                                        · refine w_aload_n rfl rfl ?_
                                                          refine w_ldcR rfl ?_
                                                          refine w_callV (t' := 0) [(2, 160)] [] rfl (w_isS_s h.1) rfl rfl ?_
                                                          replace h := h.2
                                                          refine w_C.more (Q := fun r29 m29 => _) h (fun r29 m29 h => ?_)
                                                          replace h := id h
                                                          refine w_ifeq rfl (w_ite h (fun h => ?_) (fun h => ?_))
                                                          · exact w_W.less h (w_sub [true, false, false, true] rfl)
                                                          · refine w_bipush rfl (by decide) ?_
                                                            refine w_istore_n (lv' := [some (2, 428), some (2, l1), some (2, l1), some (0, 17)]) rfl rfl rfl ?_
                                                            refine w_goto rfl ?_
                                                            exact w_W.less h (w_sub [true, false, false, true] rfl)
                                                        ·
                                                          refine w_ite h (fun h => ?_) (fun h => ?_)
                                                          · refine w_aload_n rfl rfl ?_
                                                            refine w_ldcR rfl ?_
                                                            refine w_callV (t' := 0) [(2, 152)] [] rfl (w_isS_s h.1) rfl rfl ?_
                                                            replace h := h.2
                                                            refine w_C.more (Q := fun r30 m30 => _) h (fun r30 m30 h => ?_)
                                                            replace h := id h
                                                            refine w_ifeq rfl (w_ite h (fun h => ?_) (fun h => ?_))
                                                            · exact w_W.less h (w_sub [true, false, false, true] rfl)
                                                            · refine w_bipush rfl (by decide) ?_
                                                              refine w_istore_n (lv' := [some (2, 428), some (2, l1), some (2, l1), some (0, 13)]) rfl rfl rfl ?_
                                                              refine w_goto rfl ?_
                                                              exact w_W.less h (w_sub [true, false, false, true] rfl)
                                                          ·
                                                            refine w_ite h (fun h => ?_) (fun h => ?_)
                                                            · refine w_aload_n rfl rfl ?_
                                                              refine w_ldcR rfl ?_
                                                              refine w_callV (t' := 0) [(2, 136)] [] rfl (w_isS_s h.1) rfl rfl ?_
                                                              replace h := h.2
                                                              refine w_C.more (Q := fun r31 m31 => _) h (fun r31 m31 h => ?_)
                                                              replace h := id h
                                                              refine w_ifeq rfl (w_ite h (fun h => ?_) (fun h => ?_))
                                                              · exact w_W.less h (w_sub [true, false, false, true] rfl)
                                                              · refine w_iconst rfl (by decide) ?_
                                                                refine w_istore_n (lv' := [some (2, 428), some (2, l1), some (2, l1), some (0, 5)]) rfl rfl rfl ?_
                                                                refine w_goto rfl ?_
                                                                exact w_W.less h (w_sub [true, false, false, true] rfl)
                                                            ·
                                                              refine w_ite h (fun h => ?_) (fun h => ?_)
                                                              · refine w_aload_n rfl rfl ?_
                                                                refine w_ldcwR rfl ?_
                                                                refine w_callV (t' := 0) [(2, 182)] [] rfl (w_isS_s h.1) rfl rfl ?_
                                                                replace h := h.2
                                                                refine w_C.more (Q := fun r32 m32 => _) h (fun r32 m32 h => ?_)
                                                                replace h := id h
                                                                refine w_ifeq rfl (w_ite h (fun h => ?_) (fun h => ?_))
                                                                · exact w_W.less h (w_sub [true, false, false, true] rfl)
                                                                · refine w_bipush rfl (by decide) ?_
                                                                  refine w_istore_n (lv' := [some (2, 428), some (2, l1), some (2, l1), some (0, 28)]) rfl rfl rfl ?_
                                                                  refine w_goto rfl ?_
                                                                  exact w_W.less h (w_sub [true, false, false, true] rfl)
                                                              · exact w_W.less h (w_sub [true, false, false, true] rfl)
theorem xr_m_idle_734 {d : Nat} {l3 : Int} {m : w_M} {Q : Int → w_M → Prop} (h : if l3 = 0 then (xc_m_areNumbers d 2 m (fun r1 m1 => (r1 = 0 ∨ r1 = 1) ∧ Q r1 m1)) else (if l3 = 1 then (xc_m_areNumbers d 2 m (fun r2 m2 => (r2 = 0 ∨ r2 = 1) ∧ Q r2 m2)) else (if l3 = 2 then (xc_m_areNumbers d 6 m (fun r3 m3 => (r3 = 0 ∨ r3 = 1) ∧ Q r3 m3)) else (if l3 = 3 then (xc_m_areNumbers d 4 m (fun r4 m4 => (r4 = 0 ∨ r4 = 1) ∧ Q r4 m4)) else (if l3 = 4 then (xc_m_areNumbers d 4 m (fun r5 m5 => (r5 = 0 ∨ r5 = 1) ∧ Q r5 m5)) else (if l3 = 5 then (xc_m_areNumbers d 4 m (fun r6 m6 => (r6 = 0 ∨ r6 = 1) ∧ Q r6 m6)) else (if l3 = 6 then (xc_m_areNumbers d 4 m (fun r7 m7 => (r7 = 0 ∨ r7 = 1) ∧ Q r7 m7)) else (if l3 = 7 then (xc_m_areNumbers d 4 m (fun r8 m8 => (r8 = 0 ∨ r8 = 1) ∧ Q r8 m8)) else (if l3 = 8 then (if (m 428 94) = 0 then (Q 1 m) else (Q 0 m)) else (if l3 = 9 then (if (m 428 94) = 0 then (Q 1 m) else (Q 0 m)) else (if l3 = 10 then (if (m 428 94) = 0 then (Q 1 m) else (Q 0 m)) else (if l3 = 11 then (if (m 428 94) = 0 then (Q 1 m) else (Q 0 m)) else (if l3 = 12 then (if (m 428 94) = 0 then (Q 1 m) else (Q 0 m)) else (if l3 = 13 then (if (m 428 94) = 0 then (Q 1 m) else (Q 0 m)) else (if l3 = 14 then (if (m 428 94) = 0 then (Q 1 m) else (Q 0 m)) else (if l3 = 15 then (if (m 428 94) = 0 then (Q 1 m) else (Q 0 m)) else (if l3 = 16 then (if (m 428 94) = 0 then (Q 1 m) else (Q 0 m)) else (if l3 = 17 then (if (m 428 94) = 0 then (Q 1 m) else (Q 0 m)) else (if l3 = 18 then (if (m 428 94) = 0 then (Q 1 m) else (Q 0 m)) else (if l3 = 19 then (if (m 428 94) = 0 then (Q 1 m) else (Q 0 m)) else (if l3 = 20 then (if (m 428 94) = 0 then (Q 1 m) else (Q 0 m)) else (if l3 = 21 then (xc_m_areNumbers d 1 m (fun r9 m9 => (r9 = 0 ∨ r9 = 1) ∧ Q r9 m9)) else (if l3 = 22 then (xc_m_areNumbers d 1 m (fun r10 m10 => (r10 = 0 ∨ r10 = 1) ∧ Q r10 m10)) else (if l3 = 23 then (xc_m_areNumbers d 1 m (fun r11 m11 => (r11 = 0 ∨ r11 = 1) ∧ Q r11 m11)) else (if l3 = 24 then (xc_m_areNumbers d 1 m (fun r12 m12 => (r12 = 0 ∨ r12 = 1) ∧ Q r12 m12)) else (if l3 = 25 then (xc_m_areNumbers d 1 m (fun r13 m13 => (r13 = 0 ∨ r13 = 1) ∧ Q r13 m13)) else (if l3 = 26 then (xc_m_areNumbers d 1 m (fun r14 m14 => (r14 = 0 ∨ r14 = 1) ∧ Q r14 m14)) else (if l3 = 27 then (xc_m_areNumbers d 1 m (fun r15 m15 => (r15 = 0 ∨ r15 = 1) ∧ Q r15 m15)) else (if l3 = 28 then (xc_m_areNumbers d 3 m (fun r16 m16 => (r16 = 0 ∨ r16 = 1) ∧ Q r16 m16)) else (if l3 = 29 then (xc_m_areNumbers d 3 m (fun r17 m17 => (r17 = 0 ∨ r17 = 1) ∧ Q r17 m17)) else (if l3 = 30 then (if (m 428 94) = 2 then (((0 : Int) ≤ (m 473 0) ∧ (m 473 0) < 40000) ∧ (if (m 432 (m 473 0)) = 6 then (xc_m_isNumber d (m 473 1) m (fun r18 m18 => if r18 = 0 then (Q 0 m18) else (Q 1 m18))) else (Q 0 m))) else (Q 0 m)) else (Q 0 m)))))))))))))))))))))))))))))))) : xp_m_idle_734 d l3 m Q := by
  refine w_iload_n rfl rfl ?_
  refine w_tswitch (pd := 959) [(0, 872), (1, 872), (2, 878), (3, 885), (4, 885), (5, 885), (6, 885), (7, 885), (8, 891), (9, 891), (10, 891), (11, 891), (12, 891), (13, 891), (14, 891), (15, 891), (16, 891), (17, 891), (18, 891), (19, 891), (20, 891), (21, 904), (22, 904), (23, 904), (24, 904), (25, 904), (26, 904), (27, 904), (28, 910), (29, 910), (30, 916)] rfl rfl (by decide) (w_tsw_ok _ _ (by decide)) (by decide) ?_
  refine w_ite h (fun h => ?_) (fun h => ?_)
  · refine w_aload_n rfl rfl ?_
    refine w_iconst rfl (by decide) ?_
    refine w_callV (t' := 0) [(0, 2)] [] rfl s_428 rfl rfl ?_
    refine w_C.more (Q := fun r1 m1 => _) h (fun r1 m1 h => ?_)
    replace h := id h
    exact w_zret rfl rfl h.1 h.2
  ·
    refine w_ite h (fun h => ?_) (fun h => ?_)
    · refine w_aload_n rfl rfl ?_
      refine w_iconst rfl (by decide) ?_
      refine w_callV (t' := 0) [(0, 2)] [] rfl s_428 rfl rfl ?_
      refine w_C.more (Q := fun r2 m2 => _) h (fun r2 m2 h => ?_)
      replace h := id h
      exact w_zret rfl rfl h.1 h.2
    ·
      refine w_ite h (fun h => ?_) (fun h => ?_)
      · refine w_aload_n rfl rfl ?_
        refine w_bipush rfl (by decide) ?_
        refine w_callV (t' := 0) [(0, 6)] [] rfl s_428 rfl rfl ?_
        refine w_C.more (Q := fun r3 m3 => _) h (fun r3 m3 h => ?_)
        replace h := id h
        exact w_zret rfl rfl h.1 h.2
      ·
        refine w_ite h (fun h => ?_) (fun h => ?_)
        · refine w_aload_n rfl rfl ?_
          refine w_iconst rfl (by decide) ?_
          refine w_callV (t' := 0) [(0, 4)] [] rfl s_428 rfl rfl ?_
          refine w_C.more (Q := fun r4 m4 => _) h (fun r4 m4 h => ?_)
          replace h := id h
          exact w_zret rfl rfl h.1 h.2
        ·
          refine w_ite h (fun h => ?_) (fun h => ?_)
          · refine w_aload_n rfl rfl ?_
            refine w_iconst rfl (by decide) ?_
            refine w_callV (t' := 0) [(0, 4)] [] rfl s_428 rfl rfl ?_
            refine w_C.more (Q := fun r5 m5 => _) h (fun r5 m5 h => ?_)
            replace h := id h
            exact w_zret rfl rfl h.1 h.2
          ·
            refine w_ite h (fun h => ?_) (fun h => ?_)
            · refine w_aload_n rfl rfl ?_
              refine w_iconst rfl (by decide) ?_
              refine w_callV (t' := 0) [(0, 4)] [] rfl s_428 rfl rfl ?_
              refine w_C.more (Q := fun r6 m6 => _) h (fun r6 m6 h => ?_)
              replace h := id h
              exact w_zret rfl rfl h.1 h.2
            ·
              refine w_ite h (fun h => ?_) (fun h => ?_)
              · refine w_aload_n rfl rfl ?_
                refine w_iconst rfl (by decide) ?_
                refine w_callV (t' := 0) [(0, 4)] [] rfl s_428 rfl rfl ?_
                refine w_C.more (Q := fun r7 m7 => _) h (fun r7 m7 h => ?_)
                replace h := id h
                exact w_zret rfl rfl h.1 h.2
              ·
                refine w_ite h (fun h => ?_) (fun h => ?_)
                · refine w_aload_n rfl rfl ?_
                  refine w_iconst rfl (by decide) ?_
                  refine w_callV (t' := 0) [(0, 4)] [] rfl s_428 rfl rfl ?_
                  refine w_C.more (Q := fun r8 m8 => _) h (fun r8 m8 h => ?_)
                  replace h := id h
                  exact w_zret rfl rfl h.1 h.2
                ·
                  refine w_ite h (fun h => ?_) (fun h => ?_)
                  · refine w_aload_n rfl rfl ?_
                    refine x_gfI rfl s_428 rfl (kk := 94) rfl rfl ?_
                    refine w_ifne rfl (w_ite h (fun h => ?_) (fun h => ?_))
                    · refine w_iconst rfl (by decide) ?_
                      refine w_goto rfl ?_
                      exact w_zret rfl rfl (by decide) h
                    · refine w_iconst rfl (by decide) ?_
                      exact w_zret rfl rfl (by decide) h
                  ·
                    refine w_ite h (fun h => ?_) (fun h => ?_)
                    · refine w_aload_n rfl rfl ?_
                      refine x_gfI rfl s_428 rfl (kk := 94) rfl rfl ?_
                      refine w_ifne rfl (w_ite h (fun h => ?_) (fun h => ?_))
                      · refine w_iconst rfl (by decide) ?_
                        refine w_goto rfl ?_
                        exact w_zret rfl rfl (by decide) h
                      · refine w_iconst rfl (by decide) ?_
                        exact w_zret rfl rfl (by decide) h
                    ·
                      refine w_ite h (fun h => ?_) (fun h => ?_)
                      · refine w_aload_n rfl rfl ?_
                        refine x_gfI rfl s_428 rfl (kk := 94) rfl rfl ?_
                        refine w_ifne rfl (w_ite h (fun h => ?_) (fun h => ?_))
                        · refine w_iconst rfl (by decide) ?_
                          refine w_goto rfl ?_
                          exact w_zret rfl rfl (by decide) h
                        · refine w_iconst rfl (by decide) ?_
                          exact w_zret rfl rfl (by decide) h
                      ·
                        refine w_ite h (fun h => ?_) (fun h => ?_)
                        · refine w_aload_n rfl rfl ?_
                          refine x_gfI rfl s_428 rfl (kk := 94) rfl rfl ?_
                          refine w_ifne rfl (w_ite h (fun h => ?_) (fun h => ?_))
                          · refine w_iconst rfl (by decide) ?_
                            refine w_goto rfl ?_
                            exact w_zret rfl rfl (by decide) h
                          · refine w_iconst rfl (by decide) ?_
                            exact w_zret rfl rfl (by decide) h
                        ·
                          refine w_ite h (fun h => ?_) (fun h => ?_)
                          · refine w_aload_n rfl rfl ?_
                            refine x_gfI rfl s_428 rfl (kk := 94) rfl rfl ?_
                            refine w_ifne rfl (w_ite h (fun h => ?_) (fun h => ?_))
                            · refine w_iconst rfl (by decide) ?_
                              refine w_goto rfl ?_
                              exact w_zret rfl rfl (by decide) h
                            · refine w_iconst rfl (by decide) ?_
                              exact w_zret rfl rfl (by decide) h
                          ·
                            refine w_ite h (fun h => ?_) (fun h => ?_)
                            · refine w_aload_n rfl rfl ?_
                              refine x_gfI rfl s_428 rfl (kk := 94) rfl rfl ?_
                              refine w_ifne rfl (w_ite h (fun h => ?_) (fun h => ?_))
                              · refine w_iconst rfl (by decide) ?_
                                refine w_goto rfl ?_
                                exact w_zret rfl rfl (by decide) h
                              · refine w_iconst rfl (by decide) ?_
                                exact w_zret rfl rfl (by decide) h
                            ·
                              refine w_ite h (fun h => ?_) (fun h => ?_)
                              · refine w_aload_n rfl rfl ?_
                                refine x_gfI rfl s_428 rfl (kk := 94) rfl rfl ?_
                                refine w_ifne rfl (w_ite h (fun h => ?_) (fun h => ?_))
                                · refine w_iconst rfl (by decide) ?_
                                  refine w_goto rfl ?_
                                  exact w_zret rfl rfl (by decide) h
                                · refine w_iconst rfl (by decide) ?_
                                  exact w_zret rfl rfl (by decide) h
                              ·
                                refine w_ite h (fun h => ?_) (fun h => ?_)
                                · refine w_aload_n rfl rfl ?_
                                  refine x_gfI rfl s_428 rfl (kk := 94) rfl rfl ?_
                                  refine w_ifne rfl (w_ite h (fun h => ?_) (fun h => ?_))
                                  · refine w_iconst rfl (by decide) ?_
                                    refine w_goto rfl ?_
                                    exact w_zret rfl rfl (by decide) h
                                  · refine w_iconst rfl (by decide) ?_
                                    exact w_zret rfl rfl (by decide) h
                                ·
                                  refine w_ite h (fun h => ?_) (fun h => ?_)
                                  · refine w_aload_n rfl rfl ?_
                                    refine x_gfI rfl s_428 rfl (kk := 94) rfl rfl ?_
                                    refine w_ifne rfl (w_ite h (fun h => ?_) (fun h => ?_))
                                    · refine w_iconst rfl (by decide) ?_
                                      refine w_goto rfl ?_
                                      exact w_zret rfl rfl (by decide) h
                                    · refine w_iconst rfl (by decide) ?_
                                      exact w_zret rfl rfl (by decide) h
                                  ·
                                    refine w_ite h (fun h => ?_) (fun h => ?_)
                                    · refine w_aload_n rfl rfl ?_
                                      refine x_gfI rfl s_428 rfl (kk := 94) rfl rfl ?_
                                      refine w_ifne rfl (w_ite h (fun h => ?_) (fun h => ?_))
                                      · refine w_iconst rfl (by decide) ?_
                                        refine w_goto rfl ?_
                                        exact w_zret rfl rfl (by decide) h
                                      · refine w_iconst rfl (by decide) ?_
                                        exact w_zret rfl rfl (by decide) h
                                    ·
                                      refine w_ite h (fun h => ?_) (fun h => ?_)
                                      · refine w_aload_n rfl rfl ?_
                                        refine x_gfI rfl s_428 rfl (kk := 94) rfl rfl ?_
                                        refine w_ifne rfl (w_ite h (fun h => ?_) (fun h => ?_))
                                        · refine w_iconst rfl (by decide) ?_
                                          refine w_goto rfl ?_
                                          exact w_zret rfl rfl (by decide) h
                                        · refine w_iconst rfl (by decide) ?_
                                          exact w_zret rfl rfl (by decide) h
                                      ·
                                        refine w_ite h (fun h => ?_) (fun h => ?_)
                                        · refine w_aload_n rfl rfl ?_
                                          refine x_gfI rfl s_428 rfl (kk := 94) rfl rfl ?_
                                          refine w_ifne rfl (w_ite h (fun h => ?_) (fun h => ?_))
                                          · refine w_iconst rfl (by decide) ?_
                                            refine w_goto rfl ?_
                                            exact w_zret rfl rfl (by decide) h
                                          · refine w_iconst rfl (by decide) ?_
                                            exact w_zret rfl rfl (by decide) h
                                        ·
                                          refine w_ite h (fun h => ?_) (fun h => ?_)
                                          · refine w_aload_n rfl rfl ?_
                                            refine x_gfI rfl s_428 rfl (kk := 94) rfl rfl ?_
                                            refine w_ifne rfl (w_ite h (fun h => ?_) (fun h => ?_))
                                            · refine w_iconst rfl (by decide) ?_
                                              refine w_goto rfl ?_
                                              exact w_zret rfl rfl (by decide) h
                                            · refine w_iconst rfl (by decide) ?_
                                              exact w_zret rfl rfl (by decide) h
                                          ·
                                            refine w_ite h (fun h => ?_) (fun h => ?_)
                                            · refine w_aload_n rfl rfl ?_
                                              refine w_iconst rfl (by decide) ?_
                                              refine w_callV (t' := 0) [(0, 1)] [] rfl s_428 rfl rfl ?_
                                              refine w_C.more (Q := fun r9 m9 => _) h (fun r9 m9 h => ?_)
                                              replace h := id h
                                              exact w_zret rfl rfl h.1 h.2
                                            ·
                                              refine w_ite h (fun h => ?_) (fun h => ?_)
                                              · refine w_aload_n rfl rfl ?_
                                                refine w_iconst rfl (by decide) ?_
                                                refine w_callV (t' := 0) [(0, 1)] [] rfl s_428 rfl rfl ?_
                                                refine w_C.more (Q := fun r10 m10 => _) h (fun r10 m10 h => ?_)
                                                replace h := id h
                                                exact w_zret rfl rfl h.1 h.2
                                              ·
                                                refine w_ite h (fun h => ?_) (fun h => ?_)
                                                · refine w_aload_n rfl rfl ?_
                                                  refine w_iconst rfl (by decide) ?_
                                                  refine w_callV (t' := 0) [(0, 1)] [] rfl s_428 rfl rfl ?_
                                                  refine w_C.more (Q := fun r11 m11 => _) h (fun r11 m11 h => ?_)
                                                  replace h := id h
                                                  exact w_zret rfl rfl h.1 h.2
                                                ·
                                                  refine w_ite h (fun h => ?_) (fun h => ?_)
                                                  · refine w_aload_n rfl rfl ?_
                                                    refine w_iconst rfl (by decide) ?_
                                                    refine w_callV (t' := 0) [(0, 1)] [] rfl s_428 rfl rfl ?_
                                                    refine w_C.more (Q := fun r12 m12 => _) h (fun r12 m12 h => ?_)
                                                    replace h := id h
                                                    exact w_zret rfl rfl h.1 h.2
                                                  ·
                                                    refine w_ite h (fun h => ?_) (fun h => ?_)
                                                    · refine w_aload_n rfl rfl ?_
                                                      refine w_iconst rfl (by decide) ?_
                                                      refine w_callV (t' := 0) [(0, 1)] [] rfl s_428 rfl rfl ?_
                                                      refine w_C.more (Q := fun r13 m13 => _) h (fun r13 m13 h => ?_)
                                                      replace h := id h
                                                      exact w_zret rfl rfl h.1 h.2
                                                    ·
                                                      refine w_ite h (fun h => ?_) (fun h => ?_)
                                                      · refine w_aload_n rfl rfl ?_
                                                        refine w_iconst rfl (by decide) ?_
                                                        refine w_callV (t' := 0) [(0, 1)] [] rfl s_428 rfl rfl ?_
                                                        refine w_C.more (Q := fun r14 m14 => _) h (fun r14 m14 h => ?_)
                                                        replace h := id h
                                                        exact w_zret rfl rfl h.1 h.2
                                                      ·
                                                        refine w_ite h (fun h => ?_) (fun h => ?_)
                                                        · refine w_aload_n rfl rfl ?_
                                                          refine w_iconst rfl (by decide) ?_
                                                          refine w_callV (t' := 0) [(0, 1)] [] rfl s_428 rfl rfl ?_
                                                          refine w_C.more (Q := fun r15 m15 => _) h (fun r15 m15 h => ?_)
                                                          replace h := id h
                                                          exact w_zret rfl rfl h.1 h.2
                                                        ·
                                                          refine w_ite h (fun h => ?_) (fun h => ?_)
                                                          · refine w_aload_n rfl rfl ?_
                                                            refine w_iconst rfl (by decide) ?_
                                                            refine w_callV (t' := 0) [(0, 3)] [] rfl s_428 rfl rfl ?_
                                                            refine w_C.more (Q := fun r16 m16 => _) h (fun r16 m16 h => ?_)
                                                            replace h := id h
                                                            exact w_zret rfl rfl h.1 h.2
                                                          ·
                                                            refine w_ite h (fun h => ?_) (fun h => ?_)
                                                            · refine w_aload_n rfl rfl ?_
                                                              refine w_iconst rfl (by decide) ?_
                                                              refine w_callV (t' := 0) [(0, 3)] [] rfl s_428 rfl rfl ?_
                                                              refine w_C.more (Q := fun r17 m17 => _) h (fun r17 m17 h => ?_)
                                                              replace h := id h
                                                              exact w_zret rfl rfl h.1 h.2
                                                            ·
                                                              refine w_ite h (fun h => ?_) (fun h => ?_)
                                                              · refine w_aload_n rfl rfl ?_
                                                                refine x_gfI rfl s_428 rfl (kk := 94) rfl rfl ?_
                                                                refine w_iconst rfl (by decide) ?_
                                                                refine w_icne rfl (w_ite h (fun h => ?_) (fun h => ?_))
                                                                · refine w_aload_n rfl rfl ?_
                                                                  refine w_gfC (c := 432) rfl s_428 rfl rfl ?_
                                                                  refine w_aload_n rfl rfl ?_
                                                                  refine w_gfC (c := 473) rfl s_428 rfl rfl ?_
                                                                  refine w_iconst rfl (by decide) ?_
                                                                  refine w_iald rfl s_473 (n := 40) rfl (by decide) ?_
                                                                  refine w_bald rfl s_432 (n := 40000) rfl h.1 ?_
                                                                  replace h := h.2
                                                                  refine w_bipush rfl (by decide) ?_
                                                                  refine w_icne rfl (w_ite h (fun h => ?_) (fun h => ?_))
                                                                  · refine w_aload_n rfl rfl ?_
                                                                    refine w_aload_n rfl rfl ?_
                                                                    refine w_gfC (c := 473) rfl s_428 rfl rfl ?_
                                                                    refine w_iconst rfl (by decide) ?_
                                                                    refine w_iald rfl s_473 (n := 40) rfl (by decide) ?_
                                                                    refine w_callV (t' := 0) [(0, m 473 1)] [] rfl s_428 rfl rfl ?_
                                                                    refine w_C.more (Q := fun r18 m18 => _) h (fun r18 m18 h => ?_)
                                                                    replace h := id h
                                                                    refine w_ifeq rfl (w_ite h (fun h => ?_) (fun h => ?_))
                                                                    · refine w_iconst rfl (by decide) ?_
                                                                      exact w_zret rfl rfl (by decide) h
                                                                    · refine w_iconst rfl (by decide) ?_
                                                                      refine w_goto rfl ?_
                                                                      exact w_zret rfl rfl (by decide) h
                                                                  · refine w_iconst rfl (by decide) ?_
                                                                    exact w_zret rfl rfl (by decide) h
                                                                · refine w_iconst rfl (by decide) ?_
                                                                  exact w_zret rfl rfl (by decide) h
                                                              · refine w_iconst rfl (by decide) ?_
                                                                exact w_zret rfl rfl (by decide) h
theorem xr_m_inflate {d : Nat} {m : w_M} {Q : Int → w_M → Prop} (h : if (m 428 37) < 2 then (Q 0 (w_up (w_up m 428 38 0) 428 40 0)) else (if ((((w_up (w_up m 428 38 0) 428 40 0) 442 0) % 256) % 16) = 8 then (if 7 < ((((w_up (w_up m 428 38 0) 428 40 0) 442 0) % 256) / 16) then (Q 0 (w_up (w_up m 428 38 0) 428 40 0)) else (if (w_and (((w_up (w_up m 428 38 0) 428 40 0) 442 1) % 256) 32) = 0 then (if (Int.tmod (w_32 ((w_32 (256 * (((w_up (w_up m 428 38 0) 428 40 0) 442 0) % 256))) + (((w_up (w_up m 428 38 0) 428 40 0) 442 1) % 256))) 31) = 0 then (xp_m_inflate_89 d 0 (w_up (w_up (w_up m 428 38 0) 428 40 0) 428 39 16) Q) else (Q 0 (w_up (w_up m 428 38 0) 428 40 0))) else (Q 0 (w_up (w_up m 428 38 0) 428 40 0)))) else (Q 0 (w_up (w_up m 428 38 0) 428 40 0)))) : xc_m_inflate (d + 1) m Q := by
  refine w_enter (q := 6) (lv := [some (2, 428), none, none, none, none, none, none]) rfl rfl rfl ?_
  refine w_aload_n rfl rfl ?_
  refine w_iconst rfl (by decide) ?_
  refine w_pfI rfl s_428 rfl (w_EM (by decide)) rfl (kk := 38) rfl ?_
  refine w_aload_n rfl rfl ?_
  refine w_iconst rfl (by decide) ?_
  refine w_pfZ rfl s_428 rfl (w_EM (by decide)) rfl (kk := 40) rfl (by decide) ?_
  refine w_aload_n rfl rfl ?_
  refine x_gfI rfl s_428 rfl (kk := 37) rfl ((w_up_nb (by decide)).trans (w_up_nb (by decide))) ?_
  refine w_iconst rfl (by decide) ?_
  refine w_icge rfl (w_ite h (fun h => ?_) (fun h => ?_))
  · refine w_iconst rfl (by decide) ?_
    exact w_zret rfl rfl (by decide) h
  · refine w_aload_n rfl rfl ?_
    refine w_gfC (c := 442) rfl s_428 rfl rfl ?_
    refine w_iconst rfl (by decide) ?_
    refine w_bald rfl s_442 (n := 8200) rfl (by decide) ?_
    refine w_sipush rfl (by decide) ?_
    refine w_iandm 8 (c := 256) rfl (by decide) rfl rfl ?_
    refine w_istore_n (lv' := [some (2, 428), some (0, ((w_up (w_up m 428 38 0) 428 40 0) 442 0) % 256), none, none, none, none, none]) rfl rfl rfl ?_
    refine w_aload_n rfl rfl ?_
    refine w_gfC (c := 442) rfl s_428 rfl rfl ?_
    refine w_iconst rfl (by decide) ?_
    refine w_bald rfl s_442 (n := 8200) rfl (by decide) ?_
    refine w_sipush rfl (by decide) ?_
    refine w_iandm 8 (c := 256) rfl (by decide) rfl rfl ?_
    refine w_istore_n (lv' := [some (2, 428), some (0, ((w_up (w_up m 428 38 0) 428 40 0) 442 0) % 256), some (0, ((w_up (w_up m 428 38 0) 428 40 0) 442 1) % 256), none, none, none, none]) rfl rfl rfl ?_
    refine w_iload_n rfl rfl ?_
    refine w_bipush rfl (by decide) ?_
    refine w_iandm 4 (c := 16) rfl (by decide) rfl rfl ?_
    refine w_bipush rfl (by decide) ?_
    refine w_icne rfl (w_ite h (fun h => ?_) (fun h => ?_))
    · refine w_iload_n rfl rfl ?_
      refine w_iconst rfl (by decide) ?_
      refine w_ishrk (c := 16) rfl (by decide) (by decide) rfl ?_
      refine w_bipush rfl (by decide) ?_
      refine w_icgt rfl (w_ite h (fun h => ?_) (fun h => ?_))
      · refine w_iconst rfl (by decide) ?_
        exact w_zret rfl rfl (by decide) h
      · refine w_iload_n rfl rfl ?_
        refine w_bipush rfl (by decide) ?_
        refine w_iand rfl ?_
        refine w_ifne rfl (w_ite h (fun h => ?_) (fun h => ?_))
        · refine w_sipush rfl (by decide) ?_
          refine w_iload_n rfl rfl ?_
          refine w_imul rfl ?_
          refine w_iload_n rfl rfl ?_
          refine w_iadd rfl ?_
          refine w_bipush rfl (by decide) ?_
          refine w_iremk rfl (by decide) ?_
          refine w_ifeq rfl (w_ite h (fun h => ?_) (fun h => ?_))
          · refine w_aload_n rfl rfl ?_
            refine w_bipush rfl (by decide) ?_
            refine w_pfI rfl s_428 rfl (w_EM (by decide)) rfl (kk := 39) rfl ?_
            refine w_iconst rfl (by decide) ?_
            refine w_istore_n (lv' := [some (2, 428), some (0, ((w_up (w_up m 428 38 0) 428 40 0) 442 0) % 256), some (0, ((w_up (w_up m 428 38 0) 428 40 0) 442 1) % 256), some (0, 0), none, none, none]) rfl rfl rfl ?_
            exact w_W.less h (w_sub [true, false, false, true, false, false, false] rfl)
          · refine w_iconst rfl (by decide) ?_
            exact w_zret rfl rfl (by decide) h
        · refine w_iconst rfl (by decide) ?_
          exact w_zret rfl rfl (by decide) h
    · refine w_iconst rfl (by decide) ?_
      exact w_zret rfl rfl (by decide) h
theorem xr_m_inflate_89 {d : Nat} {l3 : Int} {m : w_M} {Q : Int → w_M → Prop} (h : if l3 = 0 then (if (m 428 40) = 0 then (xc_m_bits d 1 m (fun r1 m1 => if r1 = 1 then (xp_m_inflate_114 d 1 m1 Q) else (xp_m_inflate_114 d 0 m1 Q))) else (xp_m_inflate_183 d m Q)) else (xp_m_inflate_183 d m Q)) : xp_m_inflate_89 d l3 m Q := by
  refine w_iload_n rfl rfl ?_
  refine w_ifne rfl (w_ite h (fun h => ?_) (fun h => ?_))
  · refine w_aload_n rfl rfl ?_
    refine x_gfZ rfl s_428 rfl (kk := 40) rfl rfl ?_
    refine w_ifne rfl (w_ite h (fun h => ?_) (fun h => ?_))
    · refine w_aload_n rfl rfl ?_
      refine w_iconst rfl (by decide) ?_
      refine w_callV (t' := 0) [(0, 1)] [] rfl s_428 rfl rfl ?_
      refine w_C.more (Q := fun r1 m1 => _) h (fun r1 m1 h => ?_)
      replace h := id h
      refine w_iconst rfl (by decide) ?_
      refine w_icne rfl (w_ite h (fun h => ?_) (fun h => ?_))
      · refine w_iconst rfl (by decide) ?_
        refine w_goto rfl ?_
        exact w_W.less h (w_sub [true, false, false, false, false, false, false] rfl)
      · refine w_iconst rfl (by decide) ?_
        exact w_W.less h (w_sub [true, false, false, false, false, false, false] rfl)
    · exact w_W.less h (w_sub [true, false, false, false, false, false, false] rfl)
  · exact w_W.less h (w_sub [true, false, false, false, false, false, false] rfl)
theorem xr_m_inflate_114 {d : Nat} {s0 : Int} {m : w_M} {Q : Int → w_M → Prop} (h : xc_m_bits d 2 m (fun r1 m1 => if r1 = 0 then (xc_m_stored d m1 (fun r2 m2 => xp_m_inflate_89 d s0 m2 Q)) else (if r1 = 1 then (xc_m_fixed d m1 (fun r3 m3 => xc_m_codes d m3 (fun r4 m4 => xp_m_inflate_89 d s0 m4 Q))) else (if r1 = 2 then (xc_m_dynamic d m1 (fun r5 m5 => if (m5 428 40) = 0 then (xc_m_codes d m5 (fun r6 m6 => xp_m_inflate_89 d s0 m6 Q)) else (xp_m_inflate_89 d s0 m5 Q))) else (xp_m_inflate_89 d s0 (w_up m1 428 40 1) Q))))) : xp_m_inflate_114 d s0 m Q := by
  refine w_istore_n (lv' := [some (2, 428), none, none, some (0, s0), none, none, none]) rfl rfl rfl ?_
  refine w_aload_n rfl rfl ?_
  refine w_iconst rfl (by decide) ?_
  refine w_callV (t' := 0) [(0, 2)] [] rfl s_428 rfl rfl ?_
  refine w_C.more (Q := fun r1 m1 => _) h (fun r1 m1 h => ?_)
  replace h := id h
  refine w_istore (lv' := [some (2, 428), none, none, some (0, s0), some (0, r1), none, none]) rfl rfl rfl ?_
  refine w_iload rfl rfl ?_
  refine w_ifne rfl (w_ite h (fun h => ?_) (fun h => ?_))
  · refine w_aload_n rfl rfl ?_
    refine w_callV (t' := 3) [] [] rfl s_428 rfl rfl ?_
    refine w_C.more (Q := fun r2 m2 => _) h (fun r2 m2 h => ?_)
    replace h := id h
    refine w_goto rfl ?_
    refine w_goto rfl ?_
    exact w_W.less h (w_sub [true, false, false, true, false, false, false] rfl)
  · refine w_iload rfl rfl ?_
    refine w_iconst rfl (by decide) ?_
    refine w_icne rfl (w_ite h (fun h => ?_) (fun h => ?_))
    · refine w_aload_n rfl rfl ?_
      refine w_callV (t' := 3) [] [] rfl s_428 rfl rfl ?_
      refine w_C.more (Q := fun r3 m3 => _) h (fun r3 m3 h => ?_)
      replace h := id h
      refine w_aload_n rfl rfl ?_
      refine w_callV (t' := 3) [] [] rfl s_428 rfl rfl ?_
      refine w_C.more (Q := fun r4 m4 => _) h (fun r4 m4 h => ?_)
      replace h := id h
      refine w_goto rfl ?_
      refine w_goto rfl ?_
      exact w_W.less h (w_sub [true, false, false, true, false, false, false] rfl)
    · refine w_iload rfl rfl ?_
      refine w_iconst rfl (by decide) ?_
      refine w_icne rfl (w_ite h (fun h => ?_) (fun h => ?_))
      · refine w_aload_n rfl rfl ?_
        refine w_callV (t' := 3) [] [] rfl s_428 rfl rfl ?_
        refine w_C.more (Q := fun r5 m5 => _) h (fun r5 m5 h => ?_)
        replace h := id h
        refine w_aload_n rfl rfl ?_
        refine x_gfZ rfl s_428 rfl (kk := 40) rfl rfl ?_
        refine w_ifne rfl (w_ite h (fun h => ?_) (fun h => ?_))
        · refine w_aload_n rfl rfl ?_
          refine w_callV (t' := 3) [] [] rfl s_428 rfl rfl ?_
          refine w_C.more (Q := fun r6 m6 => _) h (fun r6 m6 h => ?_)
          replace h := id h
          refine w_goto rfl ?_
          refine w_goto rfl ?_
          exact w_W.less h (w_sub [true, false, false, true, false, false, false] rfl)
        · refine w_goto rfl ?_
          exact w_W.less h (w_sub [true, false, false, true, false, false, false] rfl)
      · refine w_aload_n rfl rfl ?_
        refine w_iconst rfl (by decide) ?_
        refine w_pfZ rfl s_428 rfl (w_EM (by decide)) rfl (kk := 40) rfl (by decide) ?_
        refine w_goto rfl ?_
        exact w_W.less h (w_sub [true, false, false, true, false, false, false] rfl)
theorem xr_m_inflate_183 {d : Nat} {m : w_M} {Q : Int → w_M → Prop} (h : if (m 428 40) = 0 then (if (w_32 ((Int.tdiv (w_32 ((m 428 39) + 7)) 8) + 4)) = (m 428 37) then (((0 : Int) ≤ (Int.tdiv (w_32 ((m 428 39) + 7)) 8) ∧ (Int.tdiv (w_32 ((m 428 39) + 7)) 8) < 8200) ∧ (((0 : Int) ≤ (w_32 ((Int.tdiv (w_32 ((m 428 39) + 7)) 8) + 1)) ∧ (w_32 ((Int.tdiv (w_32 ((m 428 39) + 7)) 8) + 1)) < 8200) ∧ (((0 : Int) ≤ (w_32 ((Int.tdiv (w_32 ((m 428 39) + 7)) 8) + 2)) ∧ (w_32 ((Int.tdiv (w_32 ((m 428 39) + 7)) 8) + 2)) < 8200) ∧ (((0 : Int) ≤ (w_32 ((Int.tdiv (w_32 ((m 428 39) + 7)) 8) + 3)) ∧ (w_32 ((Int.tdiv (w_32 ((m 428 39) + 7)) 8) + 3)) < 8200) ∧ (xc_m_adler d 443 (m 428 38) m (fun r1 m1 => if (w_lor (w_lor (w_lor (w_lshl (w_land (m 442 (Int.tdiv (w_32 ((m 428 39) + 7)) 8)) 255) 24) (w_32 (((m 442 (w_32 ((Int.tdiv (w_32 ((m 428 39) + 7)) 8) + 1))) % 256) * 65536))) (w_32 (((m 442 (w_32 ((Int.tdiv (w_32 ((m 428 39) + 7)) 8) + 2))) % 256) * 256))) ((m 442 (w_32 ((Int.tdiv (w_32 ((m 428 39) + 7)) 8) + 3))) % 256)) = r1 then (Q 1 m1) else (Q 0 m1))))))) else (Q 0 m)) else (Q 0 m)) : xp_m_inflate_183 d m Q := by
  refine w_aload_n rfl rfl ?_
  refine x_gfZ rfl s_428 rfl (kk := 40) rfl rfl ?_
  refine w_ifeq rfl (w_ite h (fun h => ?_) (fun h => ?_))
  · refine w_aload_n rfl rfl ?_
    refine x_gfI rfl s_428 rfl (kk := 39) rfl rfl ?_
    refine w_bipush rfl (by decide) ?_
    refine w_iadd rfl ?_
    refine w_bipush rfl (by decide) ?_
    refine w_idivk rfl (by decide) ?_
    refine w_istore (lv' := [some (2, 428), none, none, none, some (0, Int.tdiv (w_32 ((m 428 39) + 7)) 8), none, none]) rfl rfl rfl ?_
    refine w_iload rfl rfl ?_
    refine w_iconst rfl (by decide) ?_
    refine w_iadd rfl ?_
    refine w_aload_n rfl rfl ?_
    refine x_gfI rfl s_428 rfl (kk := 37) rfl rfl ?_
    refine w_iceq rfl (w_ite h (fun h => ?_) (fun h => ?_))
    · refine w_aload_n rfl rfl ?_
      refine w_gfC (c := 442) rfl s_428 rfl rfl ?_
      refine w_iload rfl rfl ?_
      refine w_bald rfl s_442 (n := 8200) rfl h.1 ?_
      replace h := h.2
      refine w_i2l rfl ?_
      refine w_ldc2 (a := 255) rfl (by decide +kernel) (by decide) ?_
      refine w_land' rfl ?_
      refine w_bipush rfl (by decide) ?_
      refine w_lshl' rfl ?_
      refine w_aload_n rfl rfl ?_
      refine w_gfC (c := 442) rfl s_428 rfl rfl ?_
      refine w_iload rfl rfl ?_
      refine w_iconst rfl (by decide) ?_
      refine w_iadd rfl ?_
      refine w_bald rfl s_442 (n := 8200) rfl h.1 ?_
      replace h := h.2
      refine w_sipush rfl (by decide) ?_
      refine w_iandm 8 (c := 256) rfl (by decide) rfl rfl ?_
      refine w_bipush rfl (by decide) ?_
      refine w_ishlk (c := 65536) rfl (by decide) (by decide) rfl ?_
      refine w_i2l rfl ?_
      refine w_lor' rfl ?_
      refine w_aload_n rfl rfl ?_
      refine w_gfC (c := 442) rfl s_428 rfl rfl ?_
      refine w_iload rfl rfl ?_
      refine w_iconst rfl (by decide) ?_
      refine w_iadd rfl ?_
      refine w_bald rfl s_442 (n := 8200) rfl h.1 ?_
      replace h := h.2
      refine w_sipush rfl (by decide) ?_
      refine w_iandm 8 (c := 256) rfl (by decide) rfl rfl ?_
      refine w_bipush rfl (by decide) ?_
      refine w_ishlk (c := 256) rfl (by decide) (by decide) rfl ?_
      refine w_i2l rfl ?_
      refine w_lor' rfl ?_
      refine w_aload_n rfl rfl ?_
      refine w_gfC (c := 442) rfl s_428 rfl rfl ?_
      refine w_iload rfl rfl ?_
      refine w_iconst rfl (by decide) ?_
      refine w_iadd rfl ?_
      refine w_bald rfl s_442 (n := 8200) rfl h.1 ?_
      replace h := h.2
      refine w_sipush rfl (by decide) ?_
      refine w_iandm 8 (c := 256) rfl (by decide) rfl rfl ?_
      refine w_i2l rfl ?_
      refine w_lor' rfl ?_
      refine w_lstore (lv' := [some (2, 428), none, none, none, some (0, Int.tdiv (w_32 ((m 428 39) + 7)) 8), some (1, w_lor (w_lor (w_lor (w_lshl (w_land (m 442 (Int.tdiv (w_32 ((m 428 39) + 7)) 8)) 255) 24) (w_32 (((m 442 (w_32 ((Int.tdiv (w_32 ((m 428 39) + 7)) 8) + 1))) % 256) * 65536))) (w_32 (((m 442 (w_32 ((Int.tdiv (w_32 ((m 428 39) + 7)) 8) + 2))) % 256) * 256))) ((m 442 (w_32 ((Int.tdiv (w_32 ((m 428 39) + 7)) 8) + 3))) % 256)), none]) rfl rfl rfl ?_
      refine w_lload rfl rfl ?_
      refine w_aload_n rfl rfl ?_
      refine w_gfC (c := 443) rfl s_428 rfl rfl ?_
      refine w_aload_n rfl rfl ?_
      refine x_gfI rfl s_428 rfl (kk := 38) rfl rfl ?_
      refine w_callS (t' := 1) [(0, m 428 38), (2, 443)] [(1, w_lor (w_lor (w_lor (w_lshl (w_land (m 442 (Int.tdiv (w_32 ((m 428 39) + 7)) 8)) 255) 24) (w_32 (((m 442 (w_32 ((Int.tdiv (w_32 ((m 428 39) + 7)) 8) + 1))) % 256) * 65536))) (w_32 (((m 442 (w_32 ((Int.tdiv (w_32 ((m 428 39) + 7)) 8) + 2))) % 256) * 256))) ((m 442 (w_32 ((Int.tdiv (w_32 ((m 428 39) + 7)) 8) + 3))) % 256))] rfl (by decide) rfl rfl ?_
      refine w_C.more (Q := fun r1 m1 => _) h (fun r1 m1 h => ?_)
      replace h := id h
      refine w_lcne rfl rfl (w_ite h (fun h => ?_) (fun h => ?_))
      · refine w_iconst rfl (by decide) ?_
        refine w_goto rfl ?_
        exact w_zret rfl rfl (by decide) h
      · refine w_iconst rfl (by decide) ?_
        exact w_zret rfl rfl (by decide) h
    · refine w_iconst rfl (by decide) ?_
      exact w_zret rfl rfl (by decide) h
  · refine w_iconst rfl (by decide) ?_
    exact w_zret rfl rfl (by decide) h
theorem xr_m_info {d : Nat} {l1 : Int} {m : w_M} {Q : Int → w_M → Prop} (h : if (m 428 6) = 0 then (Q (-1) (w_up m 428 1 0)) else (if l1 < 0 then (Q (-1) (w_up m 428 1 0)) else (if 3 < l1 then (Q (-1) (w_up m 428 1 0)) else (if 2000 < (m 428 1) then (Q (-1) (w_up m 428 1 0)) else (if (m 428 82) = 0 then (xc_m_nextNumber d (w_up m 428 1 0) (fun r1 m1 => if r1 = 200 then (Q (-1) m1) else (xp_m_info_52 d l1 (m 428 1) m1 Q))) else (xp_m_info_52 d l1 (m 428 1) (w_up m 428 1 0) Q)))))) : xc_m_info (d + 1) l1 m Q := by
  refine w_enter (q := 4) (lv := [some (2, 428), some (0, l1), none, none, none, none]) rfl rfl rfl ?_
  refine w_aload_n rfl rfl ?_
  refine x_gfI rfl s_428 rfl (kk := 1) rfl rfl ?_
  refine w_istore_n (lv' := [some (2, 428), some (0, l1), some (0, m 428 1), none, none, none]) rfl rfl rfl ?_
  refine w_aload_n rfl rfl ?_
  refine w_iconst rfl (by decide) ?_
  refine w_pfI rfl s_428 rfl (w_EM (by decide)) rfl (kk := 1) rfl ?_
  refine w_aload_n rfl rfl ?_
  refine x_gfZ rfl s_428 rfl (kk := 6) rfl (w_up_nb (by decide)) ?_
  refine w_ifeq rfl (w_ite h (fun h => ?_) (fun h => ?_))
  · refine w_iconst rfl (by decide) ?_
    exact w_iret rfl rfl h
  · refine w_iload_n rfl rfl ?_
    refine w_iflt rfl (w_ite h (fun h => ?_) (fun h => ?_))
    · refine w_iconst rfl (by decide) ?_
      exact w_iret rfl rfl h
    · refine w_iload_n rfl rfl ?_
      refine w_iconst rfl (by decide) ?_
      refine w_icgt rfl (w_ite h (fun h => ?_) (fun h => ?_))
      · refine w_iconst rfl (by decide) ?_
        exact w_iret rfl rfl h
      · refine w_iload_n rfl rfl ?_
        refine w_sipush rfl (by decide) ?_
        refine w_icgt rfl (w_ite h (fun h => ?_) (fun h => ?_))
        · refine w_iconst rfl (by decide) ?_
          exact w_iret rfl rfl h
        · refine w_aload_n rfl rfl ?_
          refine x_gfI rfl s_428 rfl (kk := 82) rfl (w_up_nb (by decide)) ?_
          refine w_ifne rfl (w_ite h (fun h => ?_) (fun h => ?_))
          · refine w_aload_n rfl rfl ?_
            refine w_callV (t' := 0) [] [] rfl s_428 rfl rfl ?_
            refine w_C.more (Q := fun r1 m1 => _) h (fun r1 m1 h => ?_)
            replace h := id h
            refine w_sipush rfl (by decide) ?_
            refine w_icne rfl (w_ite h (fun h => ?_) (fun h => ?_))
            · refine w_iconst rfl (by decide) ?_
              exact w_iret rfl rfl h
            · exact w_W.less h (w_sub [true, true, true, false, false, false] rfl)
          · exact w_W.less h (w_sub [true, true, true, false, false, false] rfl)
theorem xr_m_info_52 {d : Nat} {l1 l2 : Int} {m : w_M} {Q : Int → w_M → Prop} (h : if (m 428 82) = 0 then (xc_m_newNode d 7 0 m (fun r1 m1 => xc_m_newObject d r1 m1 (fun r2 m2 => if l1 = 0 then (xp_m_info_109 d l1 l2 228 (w_up m2 428 82 r2) Q) else (if l1 = 1 then (xp_m_info_109 d l1 l2 230 (w_up m2 428 82 r2) Q) else (if l1 = 2 then (xp_m_info_109 d l1 l2 232 (w_up m2 428 82 r2) Q) else (xp_m_info_109 d l1 l2 234 (w_up m2 428 82 r2) Q)))))) else (if l1 = 0 then (xp_m_info_109 d l1 l2 228 m Q) else (if l1 = 1 then (xp_m_info_109 d l1 l2 230 m Q) else (if l1 = 2 then (xp_m_info_109 d l1 l2 232 m Q) else (xp_m_info_109 d l1 l2 234 m Q))))) : xp_m_info_52 d l1 l2 m Q := by
  refine w_aload_n rfl rfl ?_
  refine x_gfI rfl s_428 rfl (kk := 82) rfl rfl ?_
  refine w_ifne rfl (w_ite h (fun h => ?_) (fun h => ?_))
  · refine w_aload_n rfl rfl ?_
    refine w_aload_n rfl rfl ?_
    refine w_aload_n rfl rfl ?_
    refine w_bipush rfl (by decide) ?_
    refine w_iconst rfl (by decide) ?_
    refine w_callV (t' := 0) [(0, 0), (0, 7)] [(2, 428), (2, 428)] rfl s_428 rfl rfl ?_
    refine w_C.more (Q := fun r1 m1 => _) h (fun r1 m1 h => ?_)
    replace h := id h
    refine w_callV (t' := 0) [(0, r1)] [(2, 428)] rfl s_428 rfl rfl ?_
    refine w_C.more (Q := fun r2 m2 => _) h (fun r2 m2 h => ?_)
    replace h := id h
    refine w_pfI rfl s_428 rfl (w_EM (by decide)) rfl (kk := 82) rfl ?_
    refine w_iload_n rfl rfl ?_
    refine w_ifne rfl (w_ite h (fun h => ?_) (fun h => ?_))
    · refine w_ldcwR rfl ?_
      refine w_goto rfl ?_
      exact w_W.less h (w_sub [true, true, true, false, false, false] rfl)
    · refine w_iload_n rfl rfl ?_
      refine w_iconst rfl (by decide) ?_
      refine w_icne rfl (w_ite h (fun h => ?_) (fun h => ?_))
      · refine w_ldcwR rfl ?_
        refine w_goto rfl ?_
        exact w_W.less h (w_sub [true, true, true, false, false, false] rfl)
      · refine w_iload_n rfl rfl ?_
        refine w_iconst rfl (by decide) ?_
        refine w_icne rfl (w_ite h (fun h => ?_) (fun h => ?_))
        · refine w_ldcwR rfl ?_
          refine w_goto rfl ?_
          exact w_W.less h (w_sub [true, true, true, false, false, false] rfl)
        · refine w_ldcwR rfl ?_
          exact w_W.less h (w_sub [true, true, true, false, false, false] rfl)
  · refine w_iload_n rfl rfl ?_
    refine w_ifne rfl (w_ite h (fun h => ?_) (fun h => ?_))
    · refine w_ldcwR rfl ?_
      refine w_goto rfl ?_
      exact w_W.less h (w_sub [true, true, true, false, false, false] rfl)
    · refine w_iload_n rfl rfl ?_
      refine w_iconst rfl (by decide) ?_
      refine w_icne rfl (w_ite h (fun h => ?_) (fun h => ?_))
      · refine w_ldcwR rfl ?_
        refine w_goto rfl ?_
        exact w_W.less h (w_sub [true, true, true, false, false, false] rfl)
      · refine w_iload_n rfl rfl ?_
        refine w_iconst rfl (by decide) ?_
        refine w_icne rfl (w_ite h (fun h => ?_) (fun h => ?_))
        · refine w_ldcwR rfl ?_
          refine w_goto rfl ?_
          exact w_W.less h (w_sub [true, true, true, false, false, false] rfl)
        · refine w_ldcwR rfl ?_
          exact w_W.less h (w_sub [true, true, true, false, false, false] rfl)
theorem xr_m_info_109 {d : Nat} {l1 l2 s0 : Int} {m : w_M} {Q : Int → w_M → Prop} (h : ((0 : Int) ≤ (m 428 82) ∧ (m 428 82) < 200) ∧ (xc_m_entryTo d (m 455 (m 428 82)) s0 5 0 0 m (fun r1 m1 => ((0 : Int) ≤ r1 ∧ r1 < 40000) ∧ (((0 : Int) ≤ r1 ∧ r1 < 40000) ∧ (xp_m_info_156 d l2 r1 0 (w_up (w_up m1 436 r1 (w_32 (140000 + (w_32 (2000 * l1))))) 435 r1 l2) Q))))) : xp_m_info_109 d l1 l2 s0 m Q := by
  refine w_astore_n (lv' := [some (2, 428), some (0, l1), some (0, l2), some (2, s0), none, none]) rfl rfl rfl ?_
  refine w_aload_n rfl rfl ?_
  refine w_aload_n rfl rfl ?_
  refine w_gfC (c := 455) rfl s_428 rfl rfl ?_
  refine w_aload_n rfl rfl ?_
  refine x_gfI rfl s_428 rfl (kk := 82) rfl rfl ?_
  refine w_iald rfl s_455 (n := 200) rfl h.1 ?_
  replace h := h.2
  refine w_aload_n rfl rfl ?_
  refine w_iconst rfl (by decide) ?_
  refine w_iconst rfl (by decide) ?_
  refine w_iconst rfl (by decide) ?_
  refine w_callV (t' := 0) [(0, 0), (0, 0), (0, 5), (2, s0), (0, m 455 (m 428 82))] [] rfl s_428 rfl rfl ?_
  refine w_C.more (Q := fun r1 m1 => _) h (fun r1 m1 h => ?_)
  replace h := id h
  refine w_istore (lv' := [some (2, 428), some (0, l1), some (0, l2), some (2, s0), some (0, r1), none]) rfl rfl rfl ?_
  refine w_aload_n rfl rfl ?_
  refine w_gfC (c := 436) rfl s_428 rfl rfl ?_
  refine w_iload rfl rfl ?_
  refine w_ldcw (a := 140000) rfl (by decide +kernel) (by decide) ?_
  refine w_sipush rfl (by decide) ?_
  refine w_iload_n rfl rfl ?_
  refine w_imul rfl ?_
  refine w_iadd rfl ?_
  refine w_iast rfl s_436 (w_EM (by decide)) (n := 40000) rfl h.1 ?_
  replace h := h.2
  refine w_aload_n rfl rfl ?_
  refine w_gfC (c := 435) rfl s_428 rfl rfl ?_
  refine w_iload rfl rfl ?_
  refine w_iload_n rfl rfl ?_
  refine w_iast rfl s_435 (w_EM (by decide)) (n := 40000) rfl h.1 ?_
  replace h := h.2
  refine w_iconst rfl (by decide) ?_
  refine w_istore (lv' := [some (2, 428), some (0, l1), some (0, l2), some (2, s0), some (0, r1), some (0, 0)]) rfl rfl rfl ?_
  exact w_W.less h (w_sub [true, false, true, false, true, true] rfl)
theorem xr_m_info_156 {d : Nat} {l2 l4 l5 : Int} {m : w_M} {Q : Int → w_M → Prop} (h : if l5 < l2 then (((0 : Int) ≤ l4 ∧ l4 < 40000) ∧ (((0 : Int) ≤ l5 ∧ l5 < 8000) ∧ (((0 : Int) ≤ (w_32 ((m 436 l4) + l5)) ∧ (w_32 ((m 436 l4) + l5)) < 150000) ∧ (xp_m_info_156 d l2 l4 (w_32 (l5 + 1)) (w_up m 440 (w_32 ((m 436 l4) + l5)) (w_8 (m 429 l5))) Q)))) else (xc_m_changed d (m 428 82) m (fun r1 m1 => Q (m1 428 82) (w_up m1 428 88 (-1))))) : xp_m_info_156 d l2 l4 l5 m Q := by
  refine w_iload rfl rfl ?_
  refine w_iload_n rfl rfl ?_
  refine w_icge rfl (w_ite h (fun h => ?_) (fun h => ?_))
  · refine w_aload_n rfl rfl ?_
    refine w_gfC (c := 440) rfl s_428 rfl rfl ?_
    refine w_aload_n rfl rfl ?_
    refine w_gfC (c := 436) rfl s_428 rfl rfl ?_
    refine w_iload rfl rfl ?_
    refine w_iald rfl s_436 (n := 40000) rfl h.1 ?_
    replace h := h.2
    refine w_iload rfl rfl ?_
    refine w_iadd rfl ?_
    refine w_aload_n rfl rfl ?_
    refine w_gfC (c := 429) rfl s_428 rfl rfl ?_
    refine w_iload rfl rfl ?_
    refine w_bald rfl s_429 (n := 8000) rfl h.1 ?_
    replace h := h.2
    refine w_bast rfl s_440 (w_EM (by decide)) (n := 150000) rfl h.1 ?_
    replace h := h.2
    refine w_iinc (lv' := [some (2, 428), none, some (0, l2), none, some (0, l4), some (0, w_32 (l5 + 1))]) rfl rfl rfl rfl ?_
    refine w_goto rfl ?_
    exact w_W.less h (w_sub [true, false, true, false, true, true] rfl)
  · refine w_aload_n rfl rfl ?_
    refine w_aload_n rfl rfl ?_
    refine x_gfI rfl s_428 rfl (kk := 82) rfl rfl ?_
    refine w_callV (t' := 3) [(0, m 428 82)] [] rfl s_428 rfl rfl ?_
    refine w_C.more (Q := fun r1 m1 => _) h (fun r1 m1 h => ?_)
    replace h := id h
    refine w_aload_n rfl rfl ?_
    refine w_iconst rfl (by decide) ?_
    refine w_pfI rfl s_428 rfl (w_EM (by decide)) rfl (kk := 88) rfl ?_
    refine w_aload_n rfl rfl ?_
    refine x_gfI rfl s_428 rfl (kk := 82) rfl (w_up_nb (by decide)) ?_
    exact w_iret rfl rfl h
theorem xr_m_inherited {d : Nat} {l1 l2 : Int} {m : w_M} {Q : Int → w_M → Prop} (h : xc_m_holder d l1 l2 m (fun r1 m1 => if r1 = 0 then (Q (-1) m1) else (((0 : Int) ≤ r1 ∧ r1 < 200) ∧ (xc_m_entry d (m1 455 r1) l2 m1 (fun r2 m2 => Q r2 m2))))) : xc_m_inherited (d + 1) l1 l2 m Q := by
  refine w_enter (q := 1) (lv := [some (2, 428), some (0, l1), some (2, l2), none]) rfl rfl rfl ?_
  refine w_aload_n rfl rfl ?_
  refine w_iload_n rfl rfl ?_
  refine w_aload_n rfl rfl ?_
  refine w_callV (t' := 0) [(2, l2), (0, l1)] [] rfl s_428 rfl rfl ?_
  refine w_C.more (Q := fun r1 m1 => _) h (fun r1 m1 h => ?_)
  replace h := id h
  refine w_istore_n (lv' := [some (2, 428), some (0, l1), some (2, l2), some (0, r1)]) rfl rfl rfl ?_
  refine w_iload_n rfl rfl ?_
  refine w_ifne rfl (w_ite h (fun h => ?_) (fun h => ?_))
  · refine w_iconst rfl (by decide) ?_
    refine w_goto rfl ?_
    exact w_iret rfl rfl h
  · refine w_aload_n rfl rfl ?_
    refine w_aload_n rfl rfl ?_
    refine w_gfC (c := 455) rfl s_428 rfl rfl ?_
    refine w_iload_n rfl rfl ?_
    refine w_iald rfl s_455 (n := 200) rfl h.1 ?_
    replace h := h.2
    refine w_aload_n rfl rfl ?_
    refine w_callV (t' := 0) [(2, l2), (0, m1 455 r1)] [] rfl s_428 rfl rfl ?_
    refine w_C.more (Q := fun r2 m2 => _) h (fun r2 m2 h => ?_)
    replace h := id h
    exact w_iret rfl rfl h
theorem xr_m_insert {d : Nat} {l1 l2 l3 : Int} {m : w_M} {Q : Int → w_M → Prop} (h : if (m 428 6) = 0 then (Q (-1) m) else (if l1 < 0 then (Q (-1) m) else (if (m 428 84) < l1 then (Q (-1) m) else (if l2 < 1 then (Q (-1) m) else (if 14400 < l2 then (Q (-1) m) else (if l3 < 1 then (Q (-1) m) else (if 14400 < l3 then (Q (-1) m) else (if (m 428 84) = 60 then (Q (-1) m) else (xc_m_nextNumber d m (fun r1 m1 => if r1 = 200 then (Q (-1) m1) else (xc_m_newNode d 7 0 m1 (fun r2 m2 => xc_m_nameNode d 236 m2 (fun r3 m3 => xc_m_name d r3 218 m3 (fun r4 m4 => xc_m_append d r2 r3 m4 (fun r5 m5 => xc_m_entryTo d r2 238 8 0 0 m5 (fun r6 m6 => xc_m_entryTo d r2 240 6 0 0 m6 (fun r7 m7 => xc_m_newNode d 2 0 m7 (fun r8 m8 => xc_m_append d r7 r8 m8 (fun r9 m9 => xc_m_newNode d 2 0 m9 (fun r10 m10 => xc_m_append d r7 r10 m10 (fun r11 m11 => xc_m_newNode d 2 l2 m11 (fun r12 m12 => xc_m_append d r7 r12 m12 (fun r13 m13 => xc_m_newNode d 2 l3 m13 (fun r14 m14 => xc_m_append d r7 r14 m14 (fun r15 m15 => xc_m_newObject d r2 m15 (fun r16 m16 => xc_m_put2 d r16 l1 (-1) m16 (fun r17 m17 => Q r16 m17))))))))))))))))))))))))))) : xc_m_insert (d + 1) l1 l2 l3 m Q := by
  refine w_enter (q := 4) (lv := [some (2, 428), some (0, l1), some (0, l2), some (0, l3), none, none, none, none]) rfl rfl rfl ?_
  refine w_aload_n rfl rfl ?_
  refine x_gfZ rfl s_428 rfl (kk := 6) rfl rfl ?_
  refine w_ifeq rfl (w_ite h (fun h => ?_) (fun h => ?_))
  · refine w_iconst rfl (by decide) ?_
    exact w_iret rfl rfl h
  · refine w_iload_n rfl rfl ?_
    refine w_iflt rfl (w_ite h (fun h => ?_) (fun h => ?_))
    · refine w_iconst rfl (by decide) ?_
      exact w_iret rfl rfl h
    · refine w_iload_n rfl rfl ?_
      refine w_aload_n rfl rfl ?_
      refine x_gfI rfl s_428 rfl (kk := 84) rfl rfl ?_
      refine w_icgt rfl (w_ite h (fun h => ?_) (fun h => ?_))
      · refine w_iconst rfl (by decide) ?_
        exact w_iret rfl rfl h
      · refine w_iload_n rfl rfl ?_
        refine w_iconst rfl (by decide) ?_
        refine w_iclt rfl (w_ite h (fun h => ?_) (fun h => ?_))
        · refine w_iconst rfl (by decide) ?_
          exact w_iret rfl rfl h
        · refine w_iload_n rfl rfl ?_
          refine w_sipush rfl (by decide) ?_
          refine w_icgt rfl (w_ite h (fun h => ?_) (fun h => ?_))
          · refine w_iconst rfl (by decide) ?_
            exact w_iret rfl rfl h
          · refine w_iload_n rfl rfl ?_
            refine w_iconst rfl (by decide) ?_
            refine w_iclt rfl (w_ite h (fun h => ?_) (fun h => ?_))
            · refine w_iconst rfl (by decide) ?_
              exact w_iret rfl rfl h
            · refine w_iload_n rfl rfl ?_
              refine w_sipush rfl (by decide) ?_
              refine w_icgt rfl (w_ite h (fun h => ?_) (fun h => ?_))
              · refine w_iconst rfl (by decide) ?_
                exact w_iret rfl rfl h
              · refine w_aload_n rfl rfl ?_
                refine x_gfI rfl s_428 rfl (kk := 84) rfl rfl ?_
                refine w_bipush rfl (by decide) ?_
                refine w_iceq rfl (w_ite h (fun h => ?_) (fun h => ?_))
                · refine w_iconst rfl (by decide) ?_
                  exact w_iret rfl rfl h
                · refine w_aload_n rfl rfl ?_
                  refine w_callV (t' := 0) [] [] rfl s_428 rfl rfl ?_
                  refine w_C.more (Q := fun r1 m1 => _) h (fun r1 m1 h => ?_)
                  replace h := id h
                  refine w_sipush rfl (by decide) ?_
                  refine w_icne rfl (w_ite h (fun h => ?_) (fun h => ?_))
                  · refine w_iconst rfl (by decide) ?_
                    exact w_iret rfl rfl h
                  · refine w_aload_n rfl rfl ?_
                    refine w_bipush rfl (by decide) ?_
                    refine w_iconst rfl (by decide) ?_
                    refine w_callV (t' := 0) [(0, 0), (0, 7)] [] rfl s_428 rfl rfl ?_
                    refine w_C.more (Q := fun r2 m2 => _) h (fun r2 m2 h => ?_)
                    replace h := id h
                    refine w_istore (lv' := [some (2, 428), some (0, l1), some (0, l2), some (0, l3), some (0, r2), none, none, none]) rfl rfl rfl ?_
                    refine w_aload_n rfl rfl ?_
                    refine w_ldcwR rfl ?_
                    refine w_callV (t' := 0) [(2, 236)] [] rfl s_428 rfl rfl ?_
                    refine w_C.more (Q := fun r3 m3 => _) h (fun r3 m3 h => ?_)
                    replace h := id h
                    refine w_istore (lv' := [some (2, 428), some (0, l1), some (0, l2), some (0, l3), some (0, r2), some (0, r3), none, none]) rfl rfl rfl ?_
                    refine w_aload_n rfl rfl ?_
                    refine w_iload rfl rfl ?_
                    refine w_ldcwR rfl ?_
                    refine w_callV (t' := 3) [(2, 218), (0, r3)] [] rfl s_428 rfl rfl ?_
                    refine w_C.more (Q := fun r4 m4 => _) h (fun r4 m4 h => ?_)
                    replace h := id h
                    refine w_aload_n rfl rfl ?_
                    refine w_iload rfl rfl ?_
                    refine w_iload rfl rfl ?_
                    refine w_callV (t' := 3) [(0, r3), (0, r2)] [] rfl s_428 rfl rfl ?_
                    refine w_C.more (Q := fun r5 m5 => _) h (fun r5 m5 h => ?_)
                    replace h := id h
                    refine w_aload_n rfl rfl ?_
                    refine w_iload rfl rfl ?_
                    refine w_ldcwR rfl ?_
                    refine w_bipush rfl (by decide) ?_
                    refine w_iconst rfl (by decide) ?_
                    refine w_iconst rfl (by decide) ?_
                    refine w_callV (t' := 0) [(0, 0), (0, 0), (0, 8), (2, 238), (0, r2)] [] rfl s_428 rfl rfl ?_
                    refine w_C.more (Q := fun r6 m6 => _) h (fun r6 m6 h => ?_)
                    replace h := id h
                    refine w_pop rfl (show (0 : Nat) ≠ 1 by decide) ?_
                    refine w_aload_n rfl rfl ?_
                    refine w_iload rfl rfl ?_
                    refine w_ldcwR rfl ?_
                    refine w_bipush rfl (by decide) ?_
                    refine w_iconst rfl (by decide) ?_
                    refine w_iconst rfl (by decide) ?_
                    refine w_callV (t' := 0) [(0, 0), (0, 0), (0, 6), (2, 240), (0, r2)] [] rfl s_428 rfl rfl ?_
                    refine w_C.more (Q := fun r7 m7 => _) h (fun r7 m7 h => ?_)
                    replace h := id h
                    refine w_istore (lv' := [some (2, 428), some (0, l1), some (0, l2), some (0, l3), some (0, r2), some (0, r3), some (0, r7), none]) rfl rfl rfl ?_
                    refine w_aload_n rfl rfl ?_
                    refine w_iload rfl rfl ?_
                    refine w_aload_n rfl rfl ?_
                    refine w_iconst rfl (by decide) ?_
                    refine w_iconst rfl (by decide) ?_
                    refine w_callV (t' := 0) [(0, 0), (0, 2)] [(0, r7), (2, 428)] rfl s_428 rfl rfl ?_
                    refine w_C.more (Q := fun r8 m8 => _) h (fun r8 m8 h => ?_)
                    replace h := id h
                    refine w_callV (t' := 3) [(0, r8), (0, r7)] [] rfl s_428 rfl rfl ?_
                    refine w_C.more (Q := fun r9 m9 => _) h (fun r9 m9 h => ?_)
                    replace h := id h
                    refine w_aload_n rfl rfl ?_
                    refine w_iload rfl rfl ?_
                    refine w_aload_n rfl rfl ?_
                    refine w_iconst rfl (by decide) ?_
                    refine w_iconst rfl (by decide) ?_
                    refine w_callV (t' := 0) [(0, 0), (0, 2)] [(0, r7), (2, 428)] rfl s_428 rfl rfl ?_
                    refine w_C.more (Q := fun r10 m10 => _) h (fun r10 m10 h => ?_)
                    replace h := id h
                    refine w_callV (t' := 3) [(0, r10), (0, r7)] [] rfl s_428 rfl rfl ?_
                    refine w_C.more (Q := fun r11 m11 => _) h (fun r11 m11 h => ?_)
                    replace h := id h
                    refine w_aload_n rfl rfl ?_
                    refine w_iload rfl rfl ?_
                    refine w_aload_n rfl rfl ?_
                    refine w_iconst rfl (by decide) ?_
                    refine w_iload_n rfl rfl ?_
                    refine w_callV (t' := 0) [(0, l2), (0, 2)] [(0, r7), (2, 428)] rfl s_428 rfl rfl ?_
                    refine w_C.more (Q := fun r12 m12 => _) h (fun r12 m12 h => ?_)
                    replace h := id h
                    refine w_callV (t' := 3) [(0, r12), (0, r7)] [] rfl s_428 rfl rfl ?_
                    refine w_C.more (Q := fun r13 m13 => _) h (fun r13 m13 h => ?_)
                    replace h := id h
                    refine w_aload_n rfl rfl ?_
                    refine w_iload rfl rfl ?_
                    refine w_aload_n rfl rfl ?_
                    refine w_iconst rfl (by decide) ?_
                    refine w_iload_n rfl rfl ?_
                    refine w_callV (t' := 0) [(0, l3), (0, 2)] [(0, r7), (2, 428)] rfl s_428 rfl rfl ?_
                    refine w_C.more (Q := fun r14 m14 => _) h (fun r14 m14 h => ?_)
                    replace h := id h
                    refine w_callV (t' := 3) [(0, r14), (0, r7)] [] rfl s_428 rfl rfl ?_
                    refine w_C.more (Q := fun r15 m15 => _) h (fun r15 m15 h => ?_)
                    replace h := id h
                    refine w_aload_n rfl rfl ?_
                    refine w_iload rfl rfl ?_
                    refine w_callV (t' := 0) [(0, r2)] [] rfl s_428 rfl rfl ?_
                    refine w_C.more (Q := fun r16 m16 => _) h (fun r16 m16 h => ?_)
                    replace h := id h
                    refine w_istore (lv' := [some (2, 428), some (0, l1), some (0, l2), some (0, l3), some (0, r2), some (0, r3), some (0, r7), some (0, r16)]) rfl rfl rfl ?_
                    refine w_aload_n rfl rfl ?_
                    refine w_iload rfl rfl ?_
                    refine w_iload_n rfl rfl ?_
                    refine w_iconst rfl (by decide) ?_
                    refine w_callV (t' := 3) [(0, (-1)), (0, l1), (0, r16)] [] rfl s_428 rfl rfl ?_
                    refine w_C.more (Q := fun r17 m17 => _) h (fun r17 m17 h => ?_)
                    replace h := id h
                    refine w_iload rfl rfl ?_
                    exact w_iret rfl rfl h
theorem xr_m_isBlank {d : Nat} {l0 : Int} {m : w_M} {Q : Int → w_M → Prop} (h : if l0 = 0 then (Q 1 m) else (if l0 = 9 then (Q 1 m) else (if l0 = 10 then (Q 1 m) else (if l0 = 12 then (Q 1 m) else (if l0 = 13 then (Q 1 m) else (if l0 = 32 then (Q 1 m) else (Q 0 m))))))) : xc_m_isBlank (d + 1) l0 m Q := by
  refine w_enter (q := 0) (lv := [some (0, l0)]) rfl rfl rfl ?_
  refine w_iload_n rfl rfl ?_
  refine w_ifeq rfl (w_ite h (fun h => ?_) (fun h => ?_))
  · refine w_iconst rfl (by decide) ?_
    refine w_goto rfl ?_
    exact w_zret rfl rfl (by decide) h
  · refine w_iload_n rfl rfl ?_
    refine w_bipush rfl (by decide) ?_
    refine w_iceq rfl (w_ite h (fun h => ?_) (fun h => ?_))
    · refine w_iconst rfl (by decide) ?_
      refine w_goto rfl ?_
      exact w_zret rfl rfl (by decide) h
    · refine w_iload_n rfl rfl ?_
      refine w_bipush rfl (by decide) ?_
      refine w_iceq rfl (w_ite h (fun h => ?_) (fun h => ?_))
      · refine w_iconst rfl (by decide) ?_
        refine w_goto rfl ?_
        exact w_zret rfl rfl (by decide) h
      · refine w_iload_n rfl rfl ?_
        refine w_bipush rfl (by decide) ?_
        refine w_iceq rfl (w_ite h (fun h => ?_) (fun h => ?_))
        · refine w_iconst rfl (by decide) ?_
          refine w_goto rfl ?_
          exact w_zret rfl rfl (by decide) h
        · refine w_iload_n rfl rfl ?_
          refine w_bipush rfl (by decide) ?_
          refine w_iceq rfl (w_ite h (fun h => ?_) (fun h => ?_))
          · refine w_iconst rfl (by decide) ?_
            refine w_goto rfl ?_
            exact w_zret rfl rfl (by decide) h
          · refine w_iload_n rfl rfl ?_
            refine w_bipush rfl (by decide) ?_
            refine w_icne rfl (w_ite h (fun h => ?_) (fun h => ?_))
            · refine w_iconst rfl (by decide) ?_
              refine w_goto rfl ?_
              exact w_zret rfl rfl (by decide) h
            · refine w_iconst rfl (by decide) ?_
              exact w_zret rfl rfl (by decide) h
theorem xr_m_isBox {d : Nat} {l1 : Int} {m : w_M} {Q : Int → w_M → Prop} (h : ((0 : Int) ≤ l1 ∧ l1 < 40000) ∧ (if (m 432 l1) = 6 then (((0 : Int) ≤ l1 ∧ l1 < 40000) ∧ (if (m 435 l1) = 4 then (((0 : Int) ≤ l1 ∧ l1 < 40000) ∧ (xp_m_isBox_32 d 1 (m 436 l1) m Q)) else (Q 0 m))) else (Q 0 m))) : xc_m_isBox (d + 1) l1 m Q := by
  refine w_enter (q := 2) (lv := [some (2, 428), some (0, l1), none, none]) rfl rfl rfl ?_
  refine w_aload_n rfl rfl ?_
  refine w_gfC (c := 432) rfl s_428 rfl rfl ?_
  refine w_iload_n rfl rfl ?_
  refine w_bald rfl s_432 (n := 40000) rfl h.1 ?_
  replace h := h.2
  refine w_bipush rfl (by decide) ?_
  refine w_icne rfl (w_ite h (fun h => ?_) (fun h => ?_))
  · refine w_aload_n rfl rfl ?_
    refine w_gfC (c := 435) rfl s_428 rfl rfl ?_
    refine w_iload_n rfl rfl ?_
    refine w_iald rfl s_435 (n := 40000) rfl h.1 ?_
    replace h := h.2
    refine w_iconst rfl (by decide) ?_
    refine w_iceq rfl (w_ite h (fun h => ?_) (fun h => ?_))
    · refine w_iconst rfl (by decide) ?_
      refine w_istore_n (lv' := [some (2, 428), some (0, l1), some (0, 1), none]) rfl rfl rfl ?_
      refine w_aload_n rfl rfl ?_
      refine w_gfC (c := 436) rfl s_428 rfl rfl ?_
      refine w_iload_n rfl rfl ?_
      refine w_iald rfl s_436 (n := 40000) rfl h.1 ?_
      replace h := h.2
      refine w_istore_n (lv' := [some (2, 428), some (0, l1), some (0, 1), some (0, m 436 l1)]) rfl rfl rfl ?_
      exact w_W.less h (w_sub [true, false, true, true] rfl)
    · refine w_iconst rfl (by decide) ?_
      exact w_zret rfl rfl (by decide) h
  · refine w_iconst rfl (by decide) ?_
    exact w_zret rfl rfl (by decide) h
theorem xr_m_isBox_32 {d : Nat} {l2 l3 : Int} {m : w_M} {Q : Int → w_M → Prop} (h : if l3 < 0 then ((l2 = 0 ∨ l2 = 1) ∧ Q l2 m) else (if l2 = 0 then (((0 : Int) ≤ l3 ∧ l3 < 40000) ∧ (xp_m_isBox_32 d 0 (m 437 l3) m Q)) else (xc_m_resolve d l3 m (fun r1 m1 => xc_m_isNumber d r1 m1 (fun r2 m2 => if r2 = 0 then (((0 : Int) ≤ l3 ∧ l3 < 40000) ∧ (xp_m_isBox_32 d 0 (m2 437 l3) m2 Q)) else (((0 : Int) ≤ l3 ∧ l3 < 40000) ∧ (xp_m_isBox_32 d 1 (m2 437 l3) m2 Q))))))) : xp_m_isBox_32 d l2 l3 m Q := by
  refine w_iload_n rfl rfl ?_
  refine w_iflt rfl (w_ite h (fun h => ?_) (fun h => ?_))
  · refine w_iload_n rfl rfl ?_
    exact w_zret rfl rfl h.1 h.2
  · refine w_iload_n rfl rfl ?_
    refine w_ifeq rfl (w_ite h (fun h => ?_) (fun h => ?_))
    · refine w_iconst rfl (by decide) ?_
      refine w_istore_n (lv' := [some (2, 428), none, some (0, 0), some (0, l3)]) rfl rfl rfl ?_
      refine w_aload_n rfl rfl ?_
      refine w_gfC (c := 437) rfl s_428 rfl rfl ?_
      refine w_iload_n rfl rfl ?_
      refine w_iald rfl s_437 (n := 40000) rfl h.1 ?_
      replace h := h.2
      refine w_istore_n (lv' := [some (2, 428), none, some (0, 0), some (0, m 437 l3)]) rfl rfl rfl ?_
      refine w_goto rfl ?_
      exact w_W.less h (w_sub [true, false, true, true] rfl)
    · refine w_aload_n rfl rfl ?_
      refine w_aload_n rfl rfl ?_
      refine w_iload_n rfl rfl ?_
      refine w_callV (t' := 0) [(0, l3)] [(2, 428)] rfl s_428 rfl rfl ?_
      refine w_C.more (Q := fun r1 m1 => _) h (fun r1 m1 h => ?_)
      replace h := id h
      refine w_callV (t' := 0) [(0, r1)] [] rfl s_428 rfl rfl ?_
      refine w_C.more (Q := fun r2 m2 => _) h (fun r2 m2 h => ?_)
      replace h := id h
      refine w_ifeq rfl (w_ite h (fun h => ?_) (fun h => ?_))
      · refine w_iconst rfl (by decide) ?_
        refine w_istore_n (lv' := [some (2, 428), none, some (0, 0), some (0, l3)]) rfl rfl rfl ?_
        refine w_aload_n rfl rfl ?_
        refine w_gfC (c := 437) rfl s_428 rfl rfl ?_
        refine w_iload_n rfl rfl ?_
        refine w_iald rfl s_437 (n := 40000) rfl h.1 ?_
        replace h := h.2
        refine w_istore_n (lv' := [some (2, 428), none, some (0, 0), some (0, m2 437 l3)]) rfl rfl rfl ?_
        refine w_goto rfl ?_
        exact w_W.less h (w_sub [true, false, true, true] rfl)
      · refine w_iconst rfl (by decide) ?_
        refine w_goto rfl ?_
        refine w_istore_n (lv' := [some (2, 428), none, some (0, 1), some (0, l3)]) rfl rfl rfl ?_
        refine w_aload_n rfl rfl ?_
        refine w_gfC (c := 437) rfl s_428 rfl rfl ?_
        refine w_iload_n rfl rfl ?_
        refine w_iald rfl s_437 (n := 40000) rfl h.1 ?_
        replace h := h.2
        refine w_istore_n (lv' := [some (2, 428), none, some (0, 1), some (0, m2 437 l3)]) rfl rfl rfl ?_
        refine w_goto rfl ?_
        exact w_W.less h (w_sub [true, false, true, true] rfl)
theorem xr_m_isDelimiter {d : Nat} {l0 : Int} {m : w_M} {Q : Int → w_M → Prop} (h : if l0 = 40 then (Q 1 m) else (if l0 = 41 then (Q 1 m) else (if l0 = 60 then (Q 1 m) else (if l0 = 62 then (Q 1 m) else (if l0 = 91 then (Q 1 m) else (if l0 = 93 then (Q 1 m) else (if l0 = 123 then (Q 1 m) else (if l0 = 125 then (Q 1 m) else (if l0 = 47 then (Q 1 m) else (if l0 = 37 then (Q 1 m) else (Q 0 m))))))))))) : xc_m_isDelimiter (d + 1) l0 m Q := by
  refine w_enter (q := 0) (lv := [some (0, l0)]) rfl rfl rfl ?_
  refine w_iload_n rfl rfl ?_
  refine w_bipush rfl (by decide) ?_
  refine w_iceq rfl (w_ite h (fun h => ?_) (fun h => ?_))
  · refine w_iconst rfl (by decide) ?_
    refine w_goto rfl ?_
    exact w_zret rfl rfl (by decide) h
  · refine w_iload_n rfl rfl ?_
    refine w_bipush rfl (by decide) ?_
    refine w_iceq rfl (w_ite h (fun h => ?_) (fun h => ?_))
    · refine w_iconst rfl (by decide) ?_
      refine w_goto rfl ?_
      exact w_zret rfl rfl (by decide) h
    · refine w_iload_n rfl rfl ?_
      refine w_bipush rfl (by decide) ?_
      refine w_iceq rfl (w_ite h (fun h => ?_) (fun h => ?_))
      · refine w_iconst rfl (by decide) ?_
        refine w_goto rfl ?_
        exact w_zret rfl rfl (by decide) h
      · refine w_iload_n rfl rfl ?_
        refine w_bipush rfl (by decide) ?_
        refine w_iceq rfl (w_ite h (fun h => ?_) (fun h => ?_))
        · refine w_iconst rfl (by decide) ?_
          refine w_goto rfl ?_
          exact w_zret rfl rfl (by decide) h
        · refine w_iload_n rfl rfl ?_
          refine w_bipush rfl (by decide) ?_
          refine w_iceq rfl (w_ite h (fun h => ?_) (fun h => ?_))
          · refine w_iconst rfl (by decide) ?_
            refine w_goto rfl ?_
            exact w_zret rfl rfl (by decide) h
          · refine w_iload_n rfl rfl ?_
            refine w_bipush rfl (by decide) ?_
            refine w_iceq rfl (w_ite h (fun h => ?_) (fun h => ?_))
            · refine w_iconst rfl (by decide) ?_
              refine w_goto rfl ?_
              exact w_zret rfl rfl (by decide) h
            · refine w_iload_n rfl rfl ?_
              refine w_bipush rfl (by decide) ?_
              refine w_iceq rfl (w_ite h (fun h => ?_) (fun h => ?_))
              · refine w_iconst rfl (by decide) ?_
                refine w_goto rfl ?_
                exact w_zret rfl rfl (by decide) h
              · refine w_iload_n rfl rfl ?_
                refine w_bipush rfl (by decide) ?_
                refine w_iceq rfl (w_ite h (fun h => ?_) (fun h => ?_))
                · refine w_iconst rfl (by decide) ?_
                  refine w_goto rfl ?_
                  exact w_zret rfl rfl (by decide) h
                · refine w_iload_n rfl rfl ?_
                  refine w_bipush rfl (by decide) ?_
                  refine w_iceq rfl (w_ite h (fun h => ?_) (fun h => ?_))
                  · refine w_iconst rfl (by decide) ?_
                    refine w_goto rfl ?_
                    exact w_zret rfl rfl (by decide) h
                  · refine w_iload_n rfl rfl ?_
                    refine w_bipush rfl (by decide) ?_
                    refine w_icne rfl (w_ite h (fun h => ?_) (fun h => ?_))
                    · refine w_iconst rfl (by decide) ?_
                      refine w_goto rfl ?_
                      exact w_zret rfl rfl (by decide) h
                    · refine w_iconst rfl (by decide) ?_
                      exact w_zret rfl rfl (by decide) h
theorem xr_m_isDict {d : Nat} {l1 : Int} {m : w_M} {Q : Int → w_M → Prop} (h : if l1 < 0 then (Q 0 m) else (((0 : Int) ≤ l1 ∧ l1 < 40000) ∧ (if (m 432 l1) = 7 then (Q 1 m) else (Q 0 m)))) : xc_m_isDict (d + 1) l1 m Q := by
  refine w_enter (q := 0) (lv := [some (2, 428), some (0, l1)]) rfl rfl rfl ?_
  refine w_iload_n rfl rfl ?_
  refine w_iflt rfl (w_ite h (fun h => ?_) (fun h => ?_))
  · refine w_iconst rfl (by decide) ?_
    exact w_zret rfl rfl (by decide) h
  · refine w_aload_n rfl rfl ?_
    refine w_gfC (c := 432) rfl s_428 rfl rfl ?_
    refine w_iload_n rfl rfl ?_
    refine w_bald rfl s_432 (n := 40000) rfl h.1 ?_
    replace h := h.2
    refine w_bipush rfl (by decide) ?_
    refine w_icne rfl (w_ite h (fun h => ?_) (fun h => ?_))
    · refine w_iconst rfl (by decide) ?_
      refine w_goto rfl ?_
      exact w_zret rfl rfl (by decide) h
    · refine w_iconst rfl (by decide) ?_
      exact w_zret rfl rfl (by decide) h
theorem xr_m_isDigit {d : Nat} {l0 : Int} {m : w_M} {Q : Int → w_M → Prop} (h : if l0 < 48 then (Q 0 m) else (if 57 < l0 then (Q 0 m) else (Q 1 m))) : xc_m_isDigit (d + 1) l0 m Q := by
  refine w_enter (q := 0) (lv := [some (0, l0)]) rfl rfl rfl ?_
  refine w_iload_n rfl rfl ?_
  refine w_bipush rfl (by decide) ?_
  refine w_iclt rfl (w_ite h (fun h => ?_) (fun h => ?_))
  · refine w_iconst rfl (by decide) ?_
    exact w_zret rfl rfl (by decide) h
  · refine w_iload_n rfl rfl ?_
    refine w_bipush rfl (by decide) ?_
    refine w_icgt rfl (w_ite h (fun h => ?_) (fun h => ?_))
    · refine w_iconst rfl (by decide) ?_
      exact w_zret rfl rfl (by decide) h
    · refine w_iconst rfl (by decide) ?_
      refine w_goto rfl ?_
      exact w_zret rfl rfl (by decide) h
theorem xr_m_isEntry {d : Nat} {m : w_M} {Q : Int → w_M → Prop} (h : xc_m_peek d 10 m (fun r1 m1 => if r1 = 32 then (xc_m_peek d 16 m1 (fun r2 m2 => if r2 = 32 then (xc_m_peek d 17 m2 (fun r3 m3 => if r3 = 110 then (xp_m_isEntry_49 d 1 m3 Q) else (xc_m_peek d 17 m3 (fun r4 m4 => if r4 = 102 then (xp_m_isEntry_49 d 1 m4 Q) else (xp_m_isEntry_49 d 0 m4 Q))))) else (xp_m_isEntry_49 d 0 m2 Q))) else (xp_m_isEntry_49 d 0 m1 Q))) : xc_m_isEntry (d + 1) m Q := by
  refine w_enter (q := 2) (lv := [some (2, 428), none, none]) rfl rfl rfl ?_
  refine w_aload_n rfl rfl ?_
  refine w_bipush rfl (by decide) ?_
  refine w_callV (t' := 0) [(0, 10)] [] rfl s_428 rfl rfl ?_
  refine w_C.more (Q := fun r1 m1 => _) h (fun r1 m1 h => ?_)
  replace h := id h
  refine w_bipush rfl (by decide) ?_
  refine w_icne rfl (w_ite h (fun h => ?_) (fun h => ?_))
  · refine w_aload_n rfl rfl ?_
    refine w_bipush rfl (by decide) ?_
    refine w_callV (t' := 0) [(0, 16)] [] rfl s_428 rfl rfl ?_
    refine w_C.more (Q := fun r2 m2 => _) h (fun r2 m2 h => ?_)
    replace h := id h
    refine w_bipush rfl (by decide) ?_
    refine w_icne rfl (w_ite h (fun h => ?_) (fun h => ?_))
    · refine w_aload_n rfl rfl ?_
      refine w_bipush rfl (by decide) ?_
      refine w_callV (t' := 0) [(0, 17)] [] rfl s_428 rfl rfl ?_
      refine w_C.more (Q := fun r3 m3 => _) h (fun r3 m3 h => ?_)
      replace h := id h
      refine w_bipush rfl (by decide) ?_
      refine w_iceq rfl (w_ite h (fun h => ?_) (fun h => ?_))
      · refine w_iconst rfl (by decide) ?_
        refine w_goto rfl ?_
        exact w_W.less h (w_sub [true, false, false] rfl)
      · refine w_aload_n rfl rfl ?_
        refine w_bipush rfl (by decide) ?_
        refine w_callV (t' := 0) [(0, 17)] [] rfl s_428 rfl rfl ?_
        refine w_C.more (Q := fun r4 m4 => _) h (fun r4 m4 h => ?_)
        replace h := id h
        refine w_bipush rfl (by decide) ?_
        refine w_icne rfl (w_ite h (fun h => ?_) (fun h => ?_))
        · refine w_iconst rfl (by decide) ?_
          refine w_goto rfl ?_
          exact w_W.less h (w_sub [true, false, false] rfl)
        · refine w_iconst rfl (by decide) ?_
          exact w_W.less h (w_sub [true, false, false] rfl)
    · refine w_iconst rfl (by decide) ?_
      exact w_W.less h (w_sub [true, false, false] rfl)
  · refine w_iconst rfl (by decide) ?_
    exact w_W.less h (w_sub [true, false, false] rfl)
theorem xr_m_isEntry_49 {d : Nat} {s0 : Int} {m : w_M} {Q : Int → w_M → Prop} (h : if s0 = 0 then (xp_m_isEntry_117 d 0 0 m Q) else (xc_m_peek d 18 m (fun r1 m1 => if r1 = 32 then (xc_m_peek d 19 m1 (fun r2 m2 => if r2 = 13 then (xp_m_isEntry_117 d 1 0 m2 Q) else (xc_m_peek d 19 m2 (fun r3 m3 => if r3 = 10 then (xp_m_isEntry_117 d 1 0 m3 Q) else (xp_m_isEntry_87 d m3 Q))))) else (xp_m_isEntry_87 d m1 Q)))) : xp_m_isEntry_49 d s0 m Q := by
  refine w_istore_n (lv' := [some (2, 428), some (0, s0), none]) rfl rfl rfl ?_
  refine w_iload_n rfl rfl ?_
  refine w_ifeq rfl (w_ite h (fun h => ?_) (fun h => ?_))
  · refine w_iconst rfl (by decide) ?_
    refine w_istore_n (lv' := [some (2, 428), some (0, 0), none]) rfl rfl rfl ?_
    refine w_iconst rfl (by decide) ?_
    refine w_istore_n (lv' := [some (2, 428), some (0, 0), some (0, 0)]) rfl rfl rfl ?_
    exact w_W.less h (w_sub [true, true, true] rfl)
  · refine w_aload_n rfl rfl ?_
    refine w_bipush rfl (by decide) ?_
    refine w_callV (t' := 0) [(0, 18)] [] rfl s_428 rfl rfl ?_
    refine w_C.more (Q := fun r1 m1 => _) h (fun r1 m1 h => ?_)
    replace h := id h
    refine w_bipush rfl (by decide) ?_
    refine w_icne rfl (w_ite h (fun h => ?_) (fun h => ?_))
    · refine w_aload_n rfl rfl ?_
      refine w_bipush rfl (by decide) ?_
      refine w_callV (t' := 0) [(0, 19)] [] rfl s_428 rfl rfl ?_
      refine w_C.more (Q := fun r2 m2 => _) h (fun r2 m2 h => ?_)
      replace h := id h
      refine w_bipush rfl (by decide) ?_
      refine w_iceq rfl (w_ite h (fun h => ?_) (fun h => ?_))
      · refine w_iconst rfl (by decide) ?_
        refine w_goto rfl ?_
        refine w_istore_n (lv' := [some (2, 428), some (0, 1), none]) rfl rfl rfl ?_
        refine w_iconst rfl (by decide) ?_
        refine w_istore_n (lv' := [some (2, 428), some (0, 1), some (0, 0)]) rfl rfl rfl ?_
        exact w_W.less h (w_sub [true, true, true] rfl)
      · refine w_aload_n rfl rfl ?_
        refine w_bipush rfl (by decide) ?_
        refine w_callV (t' := 0) [(0, 19)] [] rfl s_428 rfl rfl ?_
        refine w_C.more (Q := fun r3 m3 => _) h (fun r3 m3 h => ?_)
        replace h := id h
        refine w_bipush rfl (by decide) ?_
        refine w_iceq rfl (w_ite h (fun h => ?_) (fun h => ?_))
        · refine w_iconst rfl (by decide) ?_
          refine w_goto rfl ?_
          refine w_istore_n (lv' := [some (2, 428), some (0, 1), none]) rfl rfl rfl ?_
          refine w_iconst rfl (by decide) ?_
          refine w_istore_n (lv' := [some (2, 428), some (0, 1), some (0, 0)]) rfl rfl rfl ?_
          exact w_W.less h (w_sub [true, true, true] rfl)
        · exact w_W.less h (w_sub [true, false, false] rfl)
    · exact w_W.less h (w_sub [true, false, false] rfl)
theorem xr_m_isEntry_87 {d : Nat} {m : w_M} {Q : Int → w_M → Prop} (h : xc_m_peek d 18 m (fun r1 m1 => if r1 = 13 then (xc_m_peek d 19 m1 (fun r2 m2 => if r2 = 10 then (xp_m_isEntry_117 d 1 0 m2 Q) else (xp_m_isEntry_117 d 0 0 m2 Q))) else (xp_m_isEntry_117 d 0 0 m1 Q))) : xp_m_isEntry_87 d m Q := by
  refine w_aload_n rfl rfl ?_
  refine w_bipush rfl (by decide) ?_
  refine w_callV (t' := 0) [(0, 18)] [] rfl s_428 rfl rfl ?_
  refine w_C.more (Q := fun r1 m1 => _) h (fun r1 m1 h => ?_)
  replace h := id h
  refine w_bipush rfl (by decide) ?_
  refine w_icne rfl (w_ite h (fun h => ?_) (fun h => ?_))
  · refine w_aload_n rfl rfl ?_
    refine w_bipush rfl (by decide) ?_
    refine w_callV (t' := 0) [(0, 19)] [] rfl s_428 rfl rfl ?_
    refine w_C.more (Q := fun r2 m2 => _) h (fun r2 m2 h => ?_)
    replace h := id h
    refine w_bipush rfl (by decide) ?_
    refine w_icne rfl (w_ite h (fun h => ?_) (fun h => ?_))
    · refine w_iconst rfl (by decide) ?_
      refine w_goto rfl ?_
      refine w_istore_n (lv' := [some (2, 428), some (0, 1), none]) rfl rfl rfl ?_
      refine w_iconst rfl (by decide) ?_
      refine w_istore_n (lv' := [some (2, 428), some (0, 1), some (0, 0)]) rfl rfl rfl ?_
      exact w_W.less h (w_sub [true, true, true] rfl)
    · refine w_iconst rfl (by decide) ?_
      refine w_istore_n (lv' := [some (2, 428), some (0, 0), none]) rfl rfl rfl ?_
      refine w_iconst rfl (by decide) ?_
      refine w_istore_n (lv' := [some (2, 428), some (0, 0), some (0, 0)]) rfl rfl rfl ?_
      exact w_W.less h (w_sub [true, true, true] rfl)
  · refine w_iconst rfl (by decide) ?_
    refine w_istore_n (lv' := [some (2, 428), some (0, 0), none]) rfl rfl rfl ?_
    refine w_iconst rfl (by decide) ?_
    refine w_istore_n (lv' := [some (2, 428), some (0, 0), some (0, 0)]) rfl rfl rfl ?_
    exact w_W.less h (w_sub [true, true, true] rfl)
theorem xr_m_isEntry_117 {d : Nat} {l1 l2 : Int} {m : w_M} {Q : Int → w_M → Prop} (h : if l2 < 16 then (if l1 = 0 then (xp_m_isEntry_117 d 0 (w_32 (l2 + 1)) m Q) else (if l2 = 10 then (xp_m_isEntry_117 d 1 (w_32 (l2 + 1)) m Q) else (xc_m_peek d l2 m (fun r1 m1 => xc_m_isDigit d r1 m1 (fun r2 m2 => if r2 = 0 then (xp_m_isEntry_117 d 0 (w_32 (l2 + 1)) m2 Q) else (xp_m_isEntry_117 d 1 (w_32 (l2 + 1)) m2 Q)))))) else ((l1 = 0 ∨ l1 = 1) ∧ Q l1 m)) : xp_m_isEntry_117 d l1 l2 m Q := by
  refine w_iload_n rfl rfl ?_
  refine w_bipush rfl (by decide) ?_
  refine w_icge rfl (w_ite h (fun h => ?_) (fun h => ?_))
  · refine w_iload_n rfl rfl ?_
    refine w_ifeq rfl (w_ite h (fun h => ?_) (fun h => ?_))
    · refine w_iconst rfl (by decide) ?_
      refine w_istore_n (lv' := [some (2, 428), some (0, 0), some (0, l2)]) rfl rfl rfl ?_
      refine w_iinc (lv' := [some (2, 428), some (0, 0), some (0, w_32 (l2 + 1))]) rfl rfl rfl rfl ?_
      refine w_goto rfl ?_
      exact w_W.less h (w_sub [true, true, true] rfl)
    · refine w_iload_n rfl rfl ?_
      refine w_bipush rfl (by decide) ?_
      refine w_iceq rfl (w_ite h (fun h => ?_) (fun h => ?_))
      · refine w_iconst rfl (by decide) ?_
        refine w_goto rfl ?_
        refine w_istore_n (lv' := [some (2, 428), some (0, 1), some (0, l2)]) rfl rfl rfl ?_
        refine w_iinc (lv' := [some (2, 428), some (0, 1), some (0, w_32 (l2 + 1))]) rfl rfl rfl rfl ?_
        refine w_goto rfl ?_
        exact w_W.less h (w_sub [true, true, true] rfl)
      · refine w_aload_n rfl rfl ?_
        refine w_iload_n rfl rfl ?_
        refine w_callV (t' := 0) [(0, l2)] [] rfl s_428 rfl rfl ?_
        refine w_C.more (Q := fun r1 m1 => _) h (fun r1 m1 h => ?_)
        replace h := id h
        refine w_callS (t' := 0) [(0, r1)] [] rfl (by decide) rfl rfl ?_
        refine w_C.more (Q := fun r2 m2 => _) h (fun r2 m2 h => ?_)
        replace h := id h
        refine w_ifeq rfl (w_ite h (fun h => ?_) (fun h => ?_))
        · refine w_iconst rfl (by decide) ?_
          refine w_istore_n (lv' := [some (2, 428), some (0, 0), some (0, l2)]) rfl rfl rfl ?_
          refine w_iinc (lv' := [some (2, 428), some (0, 0), some (0, w_32 (l2 + 1))]) rfl rfl rfl rfl ?_
          refine w_goto rfl ?_
          exact w_W.less h (w_sub [true, true, true] rfl)
        · refine w_iconst rfl (by decide) ?_
          refine w_goto rfl ?_
          refine w_istore_n (lv' := [some (2, 428), some (0, 1), some (0, l2)]) rfl rfl rfl ?_
          refine w_iinc (lv' := [some (2, 428), some (0, 1), some (0, w_32 (l2 + 1))]) rfl rfl rfl rfl ?_
          refine w_goto rfl ?_
          exact w_W.less h (w_sub [true, true, true] rfl)
  · refine w_iload_n rfl rfl ?_
    exact w_zret rfl rfl h.1 h.2
theorem xr_m_isName {d : Nat} {l1 l2 : Int} {m : w_M} {Q : Int → w_M → Prop} (h : if l1 < 0 then (Q 0 m) else (((0 : Int) ≤ l1 ∧ l1 < 40000) ∧ (if (m 432 l1) = 4 then (((0 : Int) ≤ l1 ∧ l1 < 40000) ∧ (((0 : Int) ≤ l1 ∧ l1 < 40000) ∧ (xc_m_isText d (m 436 l1) (m 435 l1) l2 m (fun r1 m1 => if r1 = 0 then (Q 0 m1) else (Q 1 m1))))) else (Q 0 m)))) : xc_m_isName (d + 1) l1 l2 m Q := by
  refine w_enter (q := 0) (lv := [some (2, 428), some (0, l1), some (2, l2)]) rfl rfl rfl ?_
  refine w_iload_n rfl rfl ?_
  refine w_iflt rfl (w_ite h (fun h => ?_) (fun h => ?_))
  · refine w_iconst rfl (by decide) ?_
    exact w_zret rfl rfl (by decide) h
  · refine w_aload_n rfl rfl ?_
    refine w_gfC (c := 432) rfl s_428 rfl rfl ?_
    refine w_iload_n rfl rfl ?_
    refine w_bald rfl s_432 (n := 40000) rfl h.1 ?_
    replace h := h.2
    refine w_iconst rfl (by decide) ?_
    refine w_icne rfl (w_ite h (fun h => ?_) (fun h => ?_))
    · refine w_aload_n rfl rfl ?_
      refine w_aload_n rfl rfl ?_
      refine w_gfC (c := 436) rfl s_428 rfl rfl ?_
      refine w_iload_n rfl rfl ?_
      refine w_iald rfl s_436 (n := 40000) rfl h.1 ?_
      replace h := h.2
      refine w_aload_n rfl rfl ?_
      refine w_gfC (c := 435) rfl s_428 rfl rfl ?_
      refine w_iload_n rfl rfl ?_
      refine w_iald rfl s_435 (n := 40000) rfl h.1 ?_
      replace h := h.2
      refine w_aload_n rfl rfl ?_
      refine w_callV (t' := 0) [(2, l2), (0, m 435 l1), (0, m 436 l1)] [] rfl s_428 rfl rfl ?_
      refine w_C.more (Q := fun r1 m1 => _) h (fun r1 m1 h => ?_)
      replace h := id h
      refine w_ifeq rfl (w_ite h (fun h => ?_) (fun h => ?_))
      · refine w_iconst rfl (by decide) ?_
        exact w_zret rfl rfl (by decide) h
      · refine w_iconst rfl (by decide) ?_
        refine w_goto rfl ?_
        exact w_zret rfl rfl (by decide) h
    · refine w_iconst rfl (by decide) ?_
      exact w_zret rfl rfl (by decide) h
theorem xr_m_isNothing {d : Nat} {l1 : Int} {m : w_M} {Q : Int → w_M → Prop} (h : if l1 < 0 then (Q 1 m) else (((0 : Int) ≤ l1 ∧ l1 < 40000) ∧ (if (m 432 l1) = 0 then (Q 1 m) else (Q 0 m)))) : xc_m_isNothing (d + 1) l1 m Q := by
  refine w_enter (q := 0) (lv := [some (2, 428), some (0, l1)]) rfl rfl rfl ?_
  refine w_iload_n rfl rfl ?_
  refine w_iflt rfl (w_ite h (fun h => ?_) (fun h => ?_))
  · refine w_iconst rfl (by decide) ?_
    refine w_goto rfl ?_
    exact w_zret rfl rfl (by decide) h
  · refine w_aload_n rfl rfl ?_
    refine w_gfC (c := 432) rfl s_428 rfl rfl ?_
    refine w_iload_n rfl rfl ?_
    refine w_bald rfl s_432 (n := 40000) rfl h.1 ?_
    replace h := h.2
    refine w_ifne rfl (w_ite h (fun h => ?_) (fun h => ?_))
    · refine w_iconst rfl (by decide) ?_
      refine w_goto rfl ?_
      exact w_zret rfl rfl (by decide) h
    · refine w_iconst rfl (by decide) ?_
      exact w_zret rfl rfl (by decide) h
theorem xr_m_isNumber {d : Nat} {l1 : Int} {m : w_M} {Q : Int → w_M → Prop} (h : if l1 < 0 then (Q 0 m) else (((0 : Int) ≤ l1 ∧ l1 < 40000) ∧ (if (m 432 l1) = 3 then (Q 1 m) else (((0 : Int) ≤ l1 ∧ l1 < 40000) ∧ (if (m 432 l1) = 2 then (((0 : Int) ≤ l1 ∧ l1 < 40000) ∧ (if (m 433 l1) < (-32768) then (Q 0 m) else (((0 : Int) ≤ l1 ∧ l1 < 40000) ∧ (if 32767 < (m 433 l1) then (Q 0 m) else (Q 1 m))))) else (Q 0 m)))))) : xc_m_isNumber (d + 1) l1 m Q := by
  refine w_enter (q := 0) (lv := [some (2, 428), some (0, l1)]) rfl rfl rfl ?_
  refine w_iload_n rfl rfl ?_
  refine w_iflt rfl (w_ite h (fun h => ?_) (fun h => ?_))
  · refine w_iconst rfl (by decide) ?_
    exact w_zret rfl rfl (by decide) h
  · refine w_aload_n rfl rfl ?_
    refine w_gfC (c := 432) rfl s_428 rfl rfl ?_
    refine w_iload_n rfl rfl ?_
    refine w_bald rfl s_432 (n := 40000) rfl h.1 ?_
    replace h := h.2
    refine w_iconst rfl (by decide) ?_
    refine w_iceq rfl (w_ite h (fun h => ?_) (fun h => ?_))
    · refine w_iconst rfl (by decide) ?_
      refine w_goto rfl ?_
      exact w_zret rfl rfl (by decide) h
    · refine w_aload_n rfl rfl ?_
      refine w_gfC (c := 432) rfl s_428 rfl rfl ?_
      refine w_iload_n rfl rfl ?_
      refine w_bald rfl s_432 (n := 40000) rfl h.1 ?_
      replace h := h.2
      refine w_iconst rfl (by decide) ?_
      refine w_icne rfl (w_ite h (fun h => ?_) (fun h => ?_))
      · refine w_aload_n rfl rfl ?_
        refine w_gfC (c := 433) rfl s_428 rfl rfl ?_
        refine w_iload_n rfl rfl ?_
        refine w_iald rfl s_433 (n := 40000) rfl h.1 ?_
        replace h := h.2
        refine w_sipush rfl (by decide) ?_
        refine w_iclt rfl (w_ite h (fun h => ?_) (fun h => ?_))
        · refine w_iconst rfl (by decide) ?_
          exact w_zret rfl rfl (by decide) h
        · refine w_aload_n rfl rfl ?_
          refine w_gfC (c := 433) rfl s_428 rfl rfl ?_
          refine w_iload_n rfl rfl ?_
          refine w_iald rfl s_433 (n := 40000) rfl h.1 ?_
          replace h := h.2
          refine w_sipush rfl (by decide) ?_
          refine w_icgt rfl (w_ite h (fun h => ?_) (fun h => ?_))
          · refine w_iconst rfl (by decide) ?_
            exact w_zret rfl rfl (by decide) h
          · refine w_iconst rfl (by decide) ?_
            refine w_goto rfl ?_
            exact w_zret rfl rfl (by decide) h
      · refine w_iconst rfl (by decide) ?_
        exact w_zret rfl rfl (by decide) h
theorem xr_m_isObject {d : Nat} {l1 : Int} {m : w_M} {Q : Int → w_M → Prop} (h : if (m 428 6) = 0 then (Q 0 m) else (if 0 < l1 then (if l1 < (m 428 60) then (((0 : Int) ≤ l1 ∧ l1 < 200) ∧ (if (m 451 l1) = 0 then (Q 0 m) else (Q 1 m))) else (Q 0 m)) else (Q 0 m))) : xc_m_isObject (d + 1) l1 m Q := by
  refine w_enter (q := 0) (lv := [some (2, 428), some (0, l1)]) rfl rfl rfl ?_
  refine w_aload_n rfl rfl ?_
  refine x_gfZ rfl s_428 rfl (kk := 6) rfl rfl ?_
  refine w_ifeq rfl (w_ite h (fun h => ?_) (fun h => ?_))
  · refine w_iconst rfl (by decide) ?_
    exact w_zret rfl rfl (by decide) h
  · refine w_iload_n rfl rfl ?_
    refine w_ifle rfl (w_ite h (fun h => ?_) (fun h => ?_))
    · refine w_iload_n rfl rfl ?_
      refine w_aload_n rfl rfl ?_
      refine x_gfI rfl s_428 rfl (kk := 60) rfl rfl ?_
      refine w_icge rfl (w_ite h (fun h => ?_) (fun h => ?_))
      · refine w_aload_n rfl rfl ?_
        refine w_gfC (c := 451) rfl s_428 rfl rfl ?_
        refine w_iload_n rfl rfl ?_
        refine w_bald rfl s_451 (n := 200) rfl h.1 ?_
        replace h := h.2
        refine w_ifeq rfl (w_ite h (fun h => ?_) (fun h => ?_))
        · refine w_iconst rfl (by decide) ?_
          exact w_zret rfl rfl (by decide) h
        · refine w_iconst rfl (by decide) ?_
          refine w_goto rfl ?_
          exact w_zret rfl rfl (by decide) h
      · refine w_iconst rfl (by decide) ?_
        exact w_zret rfl rfl (by decide) h
    · refine w_iconst rfl (by decide) ?_
      exact w_zret rfl rfl (by decide) h
theorem xr_m_isOf {d : Nat} {l1 l2 : Int} {m : w_M} {Q : Int → w_M → Prop} (h : if (m 428 94) = l1 then (((0 : Int) ≤ (w_32 (l1 - 1)) ∧ (w_32 (l1 - 1)) < 40) ∧ (((0 : Int) ≤ (m 473 (w_32 (l1 - 1))) ∧ (m 473 (w_32 (l1 - 1))) < 40000) ∧ (if (m 432 (m 473 (w_32 (l1 - 1)))) = l2 then (Q 1 m) else (Q 0 m)))) else (Q 0 m)) : xc_m_isOf (d + 1) l1 l2 m Q := by
  refine w_enter (q := 0) (lv := [some (2, 428), some (0, l1), some (0, l2)]) rfl rfl rfl ?_
  refine w_aload_n rfl rfl ?_
  refine x_gfI rfl s_428 rfl (kk := 94) rfl rfl ?_
  refine w_iload_n rfl rfl ?_
  refine w_icne rfl (w_ite h (fun h => ?_) (fun h => ?_))
  · refine w_aload_n rfl rfl ?_
    refine w_gfC (c := 432) rfl s_428 rfl rfl ?_
    refine w_aload_n rfl rfl ?_
    refine w_gfC (c := 473) rfl s_428 rfl rfl ?_
    refine w_iload_n rfl rfl ?_
    refine w_iconst rfl (by decide) ?_
    refine w_isub rfl ?_
    refine w_iald rfl s_473 (n := 40) rfl h.1 ?_
    replace h := h.2
    refine w_bald rfl s_432 (n := 40000) rfl h.1 ?_
    replace h := h.2
    refine w_iload_n rfl rfl ?_
    refine w_icne rfl (w_ite h (fun h => ?_) (fun h => ?_))
    · refine w_iconst rfl (by decide) ?_
      refine w_goto rfl ?_
      exact w_zret rfl rfl (by decide) h
    · refine w_iconst rfl (by decide) ?_
      exact w_zret rfl rfl (by decide) h
  · refine w_iconst rfl (by decide) ?_
    exact w_zret rfl rfl (by decide) h
theorem xr_m_isPage {d : Nat} {l1 : Int} {m : w_M} {Q : Int → w_M → Prop} (h : if (m 428 6) = 0 then (Q 0 m) else (if l1 < 0 then (Q 0 m) else (if l1 < (m 428 84) then (Q 1 m) else (Q 0 m)))) : xc_m_isPage (d + 1) l1 m Q := by
  refine w_enter (q := 0) (lv := [some (2, 428), some (0, l1)]) rfl rfl rfl ?_
  refine w_aload_n rfl rfl ?_
  refine x_gfZ rfl s_428 rfl (kk := 6) rfl rfl ?_
  refine w_ifeq rfl (w_ite h (fun h => ?_) (fun h => ?_))
  · refine w_iconst rfl (by decide) ?_
    exact w_zret rfl rfl (by decide) h
  · refine w_iload_n rfl rfl ?_
    refine w_iflt rfl (w_ite h (fun h => ?_) (fun h => ?_))
    · refine w_iconst rfl (by decide) ?_
      exact w_zret rfl rfl (by decide) h
    · refine w_iload_n rfl rfl ?_
      refine w_aload_n rfl rfl ?_
      refine x_gfI rfl s_428 rfl (kk := 84) rfl rfl ?_
      refine w_icge rfl (w_ite h (fun h => ?_) (fun h => ?_))
      · refine w_iconst rfl (by decide) ?_
        refine w_goto rfl ?_
        exact w_zret rfl rfl (by decide) h
      · refine w_iconst rfl (by decide) ?_
        exact w_zret rfl rfl (by decide) h
theorem xr_m_isPredictor {d : Nat} {l1 : Int} {m : w_M} {Q : Int → w_M → Prop} (h : xc_m_wholeAt d l1 208 1 m (fun r1 m1 => if r1 = 1 then (Q 1 m1) else (xc_m_wholeAt d l1 210 1 m1 (fun r2 m2 => if r1 < 10 then (Q 0 m2) else (if 15 < r1 then (Q 0 m2) else (if r2 < 1 then (Q 0 m2) else (if 200 < r2 then (Q 0 m2) else (xc_m_wholeAt d l1 242 1 m2 (fun r3 m3 => if r3 = 1 then (xc_m_wholeAt d l1 244 8 m3 (fun r4 m4 => if r4 = 8 then (Q 1 m4) else (Q 0 m4))) else (Q 0 m3)))))))))) : xc_m_isPredictor (d + 1) l1 m Q := by
  refine w_enter (q := 2) (lv := [some (2, 428), some (0, l1), none, none]) rfl rfl rfl ?_
  refine w_aload_n rfl rfl ?_
  refine w_iload_n rfl rfl ?_
  refine w_ldcwR rfl ?_
  refine w_iconst rfl (by decide) ?_
  refine w_callV (t' := 0) [(0, 1), (2, 208), (0, l1)] [] rfl s_428 rfl rfl ?_
  refine w_C.more (Q := fun r1 m1 => _) h (fun r1 m1 h => ?_)
  replace h := id h
  refine w_istore_n (lv' := [some (2, 428), some (0, l1), some (0, r1), none]) rfl rfl rfl ?_
  refine w_iload_n rfl rfl ?_
  refine w_iconst rfl (by decide) ?_
  refine w_icne rfl (w_ite h (fun h => ?_) (fun h => ?_))
  · refine w_iconst rfl (by decide) ?_
    exact w_zret rfl rfl (by decide) h
  · refine w_aload_n rfl rfl ?_
    refine w_iload_n rfl rfl ?_
    refine w_ldcwR rfl ?_
    refine w_iconst rfl (by decide) ?_
    refine w_callV (t' := 0) [(0, 1), (2, 210), (0, l1)] [] rfl s_428 rfl rfl ?_
    refine w_C.more (Q := fun r2 m2 => _) h (fun r2 m2 h => ?_)
    replace h := id h
    refine w_istore_n (lv' := [some (2, 428), some (0, l1), some (0, r1), some (0, r2)]) rfl rfl rfl ?_
    refine w_iload_n rfl rfl ?_
    refine w_bipush rfl (by decide) ?_
    refine w_iclt rfl (w_ite h (fun h => ?_) (fun h => ?_))
    · refine w_iconst rfl (by decide) ?_
      exact w_zret rfl rfl (by decide) h
    · refine w_iload_n rfl rfl ?_
      refine w_bipush rfl (by decide) ?_
      refine w_icgt rfl (w_ite h (fun h => ?_) (fun h => ?_))
      · refine w_iconst rfl (by decide) ?_
        exact w_zret rfl rfl (by decide) h
      · refine w_iload_n rfl rfl ?_
        refine w_iconst rfl (by decide) ?_
        refine w_iclt rfl (w_ite h (fun h => ?_) (fun h => ?_))
        · refine w_iconst rfl (by decide) ?_
          exact w_zret rfl rfl (by decide) h
        · refine w_iload_n rfl rfl ?_
          refine w_sipush rfl (by decide) ?_
          refine w_icgt rfl (w_ite h (fun h => ?_) (fun h => ?_))
          · refine w_iconst rfl (by decide) ?_
            exact w_zret rfl rfl (by decide) h
          · refine w_aload_n rfl rfl ?_
            refine w_iload_n rfl rfl ?_
            refine w_ldcwR rfl ?_
            refine w_iconst rfl (by decide) ?_
            refine w_callV (t' := 0) [(0, 1), (2, 242), (0, l1)] [] rfl s_428 rfl rfl ?_
            refine w_C.more (Q := fun r3 m3 => _) h (fun r3 m3 h => ?_)
            replace h := id h
            refine w_iconst rfl (by decide) ?_
            refine w_icne rfl (w_ite h (fun h => ?_) (fun h => ?_))
            · refine w_aload_n rfl rfl ?_
              refine w_iload_n rfl rfl ?_
              refine w_ldcwR rfl ?_
              refine w_bipush rfl (by decide) ?_
              refine w_callV (t' := 0) [(0, 8), (2, 244), (0, l1)] [] rfl s_428 rfl rfl ?_
              refine w_C.more (Q := fun r4 m4 => _) h (fun r4 m4 h => ?_)
              replace h := id h
              refine w_bipush rfl (by decide) ?_
              refine w_icne rfl (w_ite h (fun h => ?_) (fun h => ?_))
              · refine w_iconst rfl (by decide) ?_
                refine w_goto rfl ?_
                exact w_zret rfl rfl (by decide) h
              · refine w_iconst rfl (by decide) ?_
                exact w_zret rfl rfl (by decide) h
            · refine w_iconst rfl (by decide) ?_
              exact w_zret rfl rfl (by decide) h
theorem xr_m_isRegular {d : Nat} {l0 : Int} {m : w_M} {Q : Int → w_M → Prop} (h : if l0 < 0 then (Q 0 m) else (xc_m_isBlank d l0 m (fun r1 m1 => if r1 = 0 then (xc_m_isDelimiter d l0 m1 (fun r2 m2 => if r2 = 0 then (Q 1 m2) else (Q 0 m2))) else (Q 0 m1)))) : xc_m_isRegular (d + 1) l0 m Q := by
  refine w_enter (q := 0) (lv := [some (0, l0)]) rfl rfl rfl ?_
  refine w_iload_n rfl rfl ?_
  refine w_iflt rfl (w_ite h (fun h => ?_) (fun h => ?_))
  · refine w_iconst rfl (by decide) ?_
    exact w_zret rfl rfl (by decide) h
  · refine w_iload_n rfl rfl ?_
    refine w_callS (t' := 0) [(0, l0)] [] rfl (by decide) rfl rfl ?_
    refine w_C.more (Q := fun r1 m1 => _) h (fun r1 m1 h => ?_)
    replace h := id h
    refine w_ifne rfl (w_ite h (fun h => ?_) (fun h => ?_))
    · refine w_iload_n rfl rfl ?_
      refine w_callS (t' := 0) [(0, l0)] [] rfl (by decide) rfl rfl ?_
      refine w_C.more (Q := fun r2 m2 => _) h (fun r2 m2 h => ?_)
      replace h := id h
      refine w_ifne rfl (w_ite h (fun h => ?_) (fun h => ?_))
      · refine w_iconst rfl (by decide) ?_
        refine w_goto rfl ?_
        exact w_zret rfl rfl (by decide) h
      · refine w_iconst rfl (by decide) ?_
        exact w_zret rfl rfl (by decide) h
    · refine w_iconst rfl (by decide) ?_
      exact w_zret rfl rfl (by decide) h
theorem xr_m_isText {d : Nat} {l1 l2 l3 : Int} {m : w_M} {Q : Int → w_M → Prop} (h : w_isS l3 ∧ (xc_js_length sM d l3 m (fun r1 m1 => if l2 = r1 then (xp_m_isText_16 d l1 l2 l3 1 0 m1 Q) else (Q 0 m1)))) : xc_m_isText (d + 1) l1 l2 l3 m Q := by
  refine w_enter (q := 2) (lv := [some (2, 428), some (0, l1), some (0, l2), some (2, l3), none, none]) rfl rfl rfl ?_
  refine w_iload_n rfl rfl ?_
  refine w_aload_n rfl rfl ?_
  refine w_callV (t' := 0) [] [(0, l2)] rfl (w_isS_s h.1) rfl rfl ?_
  replace h := h.2
  refine w_C.more (Q := fun r1 m1 => _) h (fun r1 m1 h => ?_)
  replace h := id h
  refine w_iceq rfl (w_ite h (fun h => ?_) (fun h => ?_))
  · refine w_iconst rfl (by decide) ?_
    refine w_istore (lv' := [some (2, 428), some (0, l1), some (0, l2), some (2, l3), some (0, 1), none]) rfl rfl rfl ?_
    refine w_iconst rfl (by decide) ?_
    refine w_istore (lv' := [some (2, 428), some (0, l1), some (0, l2), some (2, l3), some (0, 1), some (0, 0)]) rfl rfl rfl ?_
    exact w_W.less h (w_sub [true, true, true, true, true, true] rfl)
  · refine w_iconst rfl (by decide) ?_
    exact w_zret rfl rfl (by decide) h
theorem xr_m_isText_16 {d : Nat} {l1 l2 l3 l4 l5 : Int} {m : w_M} {Q : Int → w_M → Prop} (h : if l5 < l2 then (if l4 = 0 then (xp_m_isText_16 d l1 l2 l3 0 (w_32 (l5 + 1)) m Q) else (((0 : Int) ≤ (w_32 (l1 + l5)) ∧ (w_32 (l1 + l5)) < 150000) ∧ (w_isS l3 ∧ (xc_js_charAt sM d l3 l5 m (fun r1 m1 => if ((m 440 (w_32 (l1 + l5))) % 256) = r1 then (xp_m_isText_16 d l1 l2 l3 1 (w_32 (l5 + 1)) m1 Q) else (xp_m_isText_16 d l1 l2 l3 0 (w_32 (l5 + 1)) m1 Q)))))) else ((l4 = 0 ∨ l4 = 1) ∧ Q l4 m)) : xp_m_isText_16 d l1 l2 l3 l4 l5 m Q := by
  refine w_iload rfl rfl ?_
  refine w_iload_n rfl rfl ?_
  refine w_icge rfl (w_ite h (fun h => ?_) (fun h => ?_))
  · refine w_iload rfl rfl ?_
    refine w_ifeq rfl (w_ite h (fun h => ?_) (fun h => ?_))
    · refine w_iconst rfl (by decide) ?_
      refine w_istore (lv' := [some (2, 428), some (0, l1), some (0, l2), some (2, l3), some (0, 0), some (0, l5)]) rfl rfl rfl ?_
      refine w_iinc (lv' := [some (2, 428), some (0, l1), some (0, l2), some (2, l3), some (0, 0), some (0, w_32 (l5 + 1))]) rfl rfl rfl rfl ?_
      refine w_goto rfl ?_
      exact w_W.less h (w_sub [true, true, true, true, true, true] rfl)
    · refine w_aload_n rfl rfl ?_
      refine w_gfC (c := 440) rfl s_428 rfl rfl ?_
      refine w_iload_n rfl rfl ?_
      refine w_iload rfl rfl ?_
      refine w_iadd rfl ?_
      refine w_bald rfl s_440 (n := 150000) rfl h.1 ?_
      replace h := h.2
      refine w_sipush rfl (by decide) ?_
      refine w_iandm 8 (c := 256) rfl (by decide) rfl rfl ?_
      refine w_aload_n rfl rfl ?_
      refine w_iload rfl rfl ?_
      refine w_callV (t' := 0) [(0, l5)] [(0, (m 440 (w_32 (l1 + l5))) % 256)] rfl (w_isS_s h.1) rfl rfl ?_
      replace h := h.2
      refine w_C.more (Q := fun r1 m1 => _) h (fun r1 m1 h => ?_)
      replace h := id h
      refine w_icne rfl (w_ite h (fun h => ?_) (fun h => ?_))
      · refine w_iconst rfl (by decide) ?_
        refine w_goto rfl ?_
        refine w_istore (lv' := [some (2, 428), some (0, l1), some (0, l2), some (2, l3), some (0, 1), some (0, l5)]) rfl rfl rfl ?_
        refine w_iinc (lv' := [some (2, 428), some (0, l1), some (0, l2), some (2, l3), some (0, 1), some (0, w_32 (l5 + 1))]) rfl rfl rfl rfl ?_
        refine w_goto rfl ?_
        exact w_W.less h (w_sub [true, true, true, true, true, true] rfl)
      · refine w_iconst rfl (by decide) ?_
        refine w_istore (lv' := [some (2, 428), some (0, l1), some (0, l2), some (2, l3), some (0, 0), some (0, l5)]) rfl rfl rfl ?_
        refine w_iinc (lv' := [some (2, 428), some (0, l1), some (0, l2), some (2, l3), some (0, 0), some (0, w_32 (l5 + 1))]) rfl rfl rfl rfl ?_
        refine w_goto rfl ?_
        exact w_W.less h (w_sub [true, true, true, true, true, true] rfl)
  · refine w_iload rfl rfl ?_
    exact w_zret rfl rfl h.1 h.2
theorem xr_m_isWord {d : Nat} {l1 : Int} {m : w_M} {Q : Int → w_M → Prop} (h : if (m 428 22) = 3 then (w_isS l1 ∧ (xc_js_length sM d l1 m (fun r1 m1 => if (m 428 26) = r1 then (xp_m_isWord_25 d l1 1 0 m1 Q) else (Q 0 m1)))) else (Q 0 m)) : xc_m_isWord (d + 1) l1 m Q := by
  refine w_enter (q := 2) (lv := [some (2, 428), some (2, l1), none, none]) rfl rfl rfl ?_
  refine w_aload_n rfl rfl ?_
  refine x_gfI rfl s_428 rfl (kk := 22) rfl rfl ?_
  refine w_iconst rfl (by decide) ?_
  refine w_icne rfl (w_ite h (fun h => ?_) (fun h => ?_))
  · refine w_aload_n rfl rfl ?_
    refine x_gfI rfl s_428 rfl (kk := 26) rfl rfl ?_
    refine w_aload_n rfl rfl ?_
    refine w_callV (t' := 0) [] [(0, m 428 26)] rfl (w_isS_s h.1) rfl rfl ?_
    replace h := h.2
    refine w_C.more (Q := fun r1 m1 => _) h (fun r1 m1 h => ?_)
    replace h := id h
    refine w_iceq rfl (w_ite h (fun h => ?_) (fun h => ?_))
    · refine w_iconst rfl (by decide) ?_
      refine w_istore_n (lv' := [some (2, 428), some (2, l1), some (0, 1), none]) rfl rfl rfl ?_
      refine w_iconst rfl (by decide) ?_
      refine w_istore_n (lv' := [some (2, 428), some (2, l1), some (0, 1), some (0, 0)]) rfl rfl rfl ?_
      exact w_W.less h (w_sub [true, true, true, true] rfl)
    · refine w_iconst rfl (by decide) ?_
      exact w_zret rfl rfl (by decide) h
  · refine w_iconst rfl (by decide) ?_
    exact w_zret rfl rfl (by decide) h
theorem xr_m_isWord_25 {d : Nat} {l1 l2 l3 : Int} {m : w_M} {Q : Int → w_M → Prop} (h : if l3 < (m 428 26) then (if l2 = 0 then (xp_m_isWord_25 d l1 0 (w_32 (l3 + 1)) m Q) else ((0 : Int) ≤ (m 428 18) ∧ (w_isA 1 (m 428 18) ∧ ((0 : Int) ≤ (w_32 ((w_32 ((m 428 19) + (m 428 23))) + l3)) ∧ (w_32 ((w_32 ((m 428 19) + (m 428 23))) + l3)) < w_ln (m 428 18)) ∧ (w_isS l1 ∧ (xc_js_charAt sM d l1 l3 m (fun r1 m1 => if ((m (m 428 18) (w_32 ((w_32 ((m 428 19) + (m 428 23))) + l3))) % 256) = r1 then (xp_m_isWord_25 d l1 1 (w_32 (l3 + 1)) m1 Q) else (xp_m_isWord_25 d l1 0 (w_32 (l3 + 1)) m1 Q))))))) else ((l2 = 0 ∨ l2 = 1) ∧ Q l2 m)) : xp_m_isWord_25 d l1 l2 l3 m Q := by
  refine w_iload_n rfl rfl ?_
  refine w_aload_n rfl rfl ?_
  refine x_gfI rfl s_428 rfl (kk := 26) rfl rfl ?_
  refine w_icge rfl (w_ite h (fun h => ?_) (fun h => ?_))
  · refine w_iload_n rfl rfl ?_
    refine w_ifeq rfl (w_ite h (fun h => ?_) (fun h => ?_))
    · refine w_iconst rfl (by decide) ?_
      refine w_istore_n (lv' := [some (2, 428), some (2, l1), some (0, 0), some (0, l3)]) rfl rfl rfl ?_
      refine w_iinc (lv' := [some (2, 428), some (2, l1), some (0, 0), some (0, w_32 (l3 + 1))]) rfl rfl rfl rfl ?_
      refine w_goto rfl ?_
      exact w_W.less h (w_sub [true, true, true, true] rfl)
    · refine w_aload_n rfl rfl ?_
      refine x_gfR rfl s_428 rfl (kk := 18) rfl rfl h.1 ?_
      replace h := h.2
      refine w_aload_n rfl rfl ?_
      refine x_gfI rfl s_428 rfl (kk := 19) rfl rfl ?_
      refine w_aload_n rfl rfl ?_
      refine x_gfI rfl s_428 rfl (kk := 23) rfl rfl ?_
      refine w_iadd rfl ?_
      refine w_iload_n rfl rfl ?_
      refine w_iadd rfl ?_
      refine x_bald rfl h.1 h.2.1 ?_
      replace h := h.2.2
      refine w_sipush rfl (by decide) ?_
      refine w_iandm 8 (c := 256) rfl (by decide) rfl rfl ?_
      refine w_aload_n rfl rfl ?_
      refine w_iload_n rfl rfl ?_
      refine w_callV (t' := 0) [(0, l3)] [(0, (m (m 428 18) (w_32 ((w_32 ((m 428 19) + (m 428 23))) + l3))) % 256)] rfl (w_isS_s h.1) rfl rfl ?_
      replace h := h.2
      refine w_C.more (Q := fun r1 m1 => _) h (fun r1 m1 h => ?_)
      replace h := id h
      refine w_icne rfl (w_ite h (fun h => ?_) (fun h => ?_))
      · refine w_iconst rfl (by decide) ?_
        refine w_goto rfl ?_
        refine w_istore_n (lv' := [some (2, 428), some (2, l1), some (0, 1), some (0, l3)]) rfl rfl rfl ?_
        refine w_iinc (lv' := [some (2, 428), some (2, l1), some (0, 1), some (0, w_32 (l3 + 1))]) rfl rfl rfl rfl ?_
        refine w_goto rfl ?_
        exact w_W.less h (w_sub [true, true, true, true] rfl)
      · refine w_iconst rfl (by decide) ?_
        refine w_istore_n (lv' := [some (2, 428), some (2, l1), some (0, 0), some (0, l3)]) rfl rfl rfl ?_
        refine w_iinc (lv' := [some (2, 428), some (2, l1), some (0, 0), some (0, w_32 (l3 + 1))]) rfl rfl rfl rfl ?_
        refine w_goto rfl ?_
        exact w_W.less h (w_sub [true, true, true, true] rfl)
  · refine w_iload_n rfl rfl ?_
    exact w_zret rfl rfl h.1 h.2
theorem xr_m_keep {d : Nat} {l1 : Int} {m : w_M} {Q : Int → w_M → Prop} (h : xp_m_keep_7 d l1 (m 428 17) 0 m Q) : xc_m_keep (d + 1) l1 m Q := by
  refine w_enter (q := 2) (lv := [some (2, 428), some (2, l1), none, none]) rfl rfl rfl ?_
  refine w_aload_n rfl rfl ?_
  refine x_gfI rfl s_428 rfl (kk := 17) rfl rfl ?_
  refine w_istore_n (lv' := [some (2, 428), some (2, l1), some (0, m 428 17), none]) rfl rfl rfl ?_
  refine w_iconst rfl (by decide) ?_
  refine w_istore_n (lv' := [some (2, 428), some (2, l1), some (0, m 428 17), some (0, 0)]) rfl rfl rfl ?_
  exact w_W.less h (w_sub [true, true, true, true] rfl)
theorem xr_m_keep_7 {d : Nat} {l1 l2 l3 : Int} {m : w_M} {Q : Int → w_M → Prop} (h : w_isS l1 ∧ (xc_js_length sM d l1 m (fun r1 m1 => if l3 < r1 then (w_isS l1 ∧ (xc_js_charAt sM d l1 l3 m1 (fun r2 m2 => ((0 : Int) ≤ (m1 428 17) ∧ (m1 428 17) < 150000) ∧ (xp_m_keep_7 d l1 l2 (w_32 (l3 + 1)) (w_up (w_up m2 440 (m1 428 17) (w_8 (w_8 r2))) 428 17 (w_32 ((m2 428 17) + 1))) Q)))) else (Q l2 m1)))) : xp_m_keep_7 d l1 l2 l3 m Q := by
  refine w_iload_n rfl rfl ?_
  refine w_aload_n rfl rfl ?_
  refine w_callV (t' := 0) [] [(0, l3)] rfl (w_isS_s h.1) rfl rfl ?_
  replace h := h.2
  refine w_C.more (Q := fun r1 m1 => _) h (fun r1 m1 h => ?_)
  replace h := id h
  refine w_icge rfl (w_ite h (fun h => ?_) (fun h => ?_))
  · refine w_aload_n rfl rfl ?_
    refine w_gfC (c := 440) rfl s_428 rfl rfl ?_
    refine w_aload_n rfl rfl ?_
    refine x_gfI rfl s_428 rfl (kk := 17) rfl rfl ?_
    refine w_aload_n rfl rfl ?_
    refine w_iload_n rfl rfl ?_
    refine w_callV (t' := 0) [(0, l3)] [(0, m1 428 17), (2, 440)] rfl (w_isS_s h.1) rfl rfl ?_
    replace h := h.2
    refine w_C.more (Q := fun r2 m2 => _) h (fun r2 m2 h => ?_)
    replace h := id h
    refine w_i2b rfl ?_
    refine w_bast rfl s_440 (w_EM (by decide)) (n := 150000) rfl h.1 ?_
    replace h := h.2
    refine w_aload_n rfl rfl ?_
    refine w_dup rfl (show (2 : Nat) ≠ 1 by decide) ?_
    refine x_gfI rfl s_428 rfl (kk := 17) rfl (w_up_ne (by decide)) ?_
    refine w_iconst rfl (by decide) ?_
    refine w_iadd rfl ?_
    refine w_pfI rfl s_428 rfl (w_EM (by decide)) rfl (kk := 17) rfl ?_
    refine w_iinc (lv' := [some (2, 428), some (2, l1), some (0, l2), some (0, w_32 (l3 + 1))]) rfl rfl rfl rfl ?_
    refine w_goto rfl ?_
    exact w_W.less h (w_sub [true, true, true, true] rfl)
  · refine w_iload_n rfl rfl ?_
    exact w_iret rfl rfl h
theorem xr_m_keepStream {d : Nat} {l1 l2 l3 l4 l5 : Int} {m : w_M} {Q : Int → w_M → Prop} (h : xc_m_decode d l2 l4 l5 l3 m (fun r1 m1 => xc_m_good d m1 (fun r2 m2 => if r2 = 0 then (xp_m_keepStream_38 d l1 r1 m2 Q) else (if 40000 < (w_32 ((m2 428 67) + r1)) then (xc_m_fail d 8 l3 m2 (fun r3 m3 => xp_m_keepStream_38 d l1 r1 m3 Q)) else (xp_m_keepStream_38 d l1 r1 m2 Q))))) : xc_m_keepStream (d + 1) l1 l2 l3 l4 l5 m Q := by
  refine w_enter (q := 1) (lv := [some (2, 428), some (0, l1), some (0, l2), some (0, l3), some (0, l4), some (0, l5), none]) rfl rfl rfl ?_
  refine w_aload_n rfl rfl ?_
  refine w_iload_n rfl rfl ?_
  refine w_iload rfl rfl ?_
  refine w_iload rfl rfl ?_
  refine w_iload_n rfl rfl ?_
  refine w_callV (t' := 0) [(0, l3), (0, l5), (0, l4), (0, l2)] [] rfl s_428 rfl rfl ?_
  refine w_C.more (Q := fun r1 m1 => _) h (fun r1 m1 h => ?_)
  replace h := id h
  refine w_istore (lv' := [some (2, 428), some (0, l1), some (0, l2), some (0, l3), some (0, l4), some (0, l5), some (0, r1)]) rfl rfl rfl ?_
  refine w_aload_n rfl rfl ?_
  refine w_callV (t' := 0) [] [] rfl s_428 rfl rfl ?_
  refine w_C.more (Q := fun r2 m2 => _) h (fun r2 m2 h => ?_)
  replace h := id h
  refine w_ifeq rfl (w_ite h (fun h => ?_) (fun h => ?_))
  · exact w_W.less h (w_sub [true, true, false, false, false, false, true] rfl)
  · refine w_aload_n rfl rfl ?_
    refine x_gfI rfl s_428 rfl (kk := 67) rfl rfl ?_
    refine w_iload rfl rfl ?_
    refine w_iadd rfl ?_
    refine w_ldc (a := 40000) rfl (by decide +kernel) (by decide) ?_
    refine w_icle rfl (w_ite h (fun h => ?_) (fun h => ?_))
    · refine w_aload_n rfl rfl ?_
      refine w_bipush rfl (by decide) ?_
      refine w_iload_n rfl rfl ?_
      refine w_callV (t' := 3) [(0, l3), (0, 8)] [] rfl s_428 rfl rfl ?_
      refine w_C.more (Q := fun r3 m3 => _) h (fun r3 m3 h => ?_)
      replace h := id h
      exact w_W.less h (w_sub [true, true, false, false, false, false, true] rfl)
    · exact w_W.less h (w_sub [true, true, false, false, false, false, true] rfl)
theorem xr_m_keepStream_38 {d : Nat} {l1 l6 : Int} {m : w_M} {Q : Int → w_M → Prop} (h : xc_m_good d m (fun r1 m1 => if r1 = 0 then (Q 0 m1) else (((0 : Int) ≤ l1 ∧ l1 < 200) ∧ (((0 : Int) ≤ l1 ∧ l1 < 200) ∧ (((0 : Int) ≤ l1 ∧ l1 < 200) ∧ (Q 0 (w_up (w_up (w_up (w_up (w_up m1 457 l1 1) 458 l1 (m1 428 34)) 459 l1 l6) 428 34 (w_32 ((m1 428 34) + l6))) 428 67 (w_32 ((m1 428 67) + l6))))))))) : xp_m_keepStream_38 d l1 l6 m Q := by
  refine w_aload_n rfl rfl ?_
  refine w_callV (t' := 0) [] [] rfl s_428 rfl rfl ?_
  refine w_C.more (Q := fun r1 m1 => _) h (fun r1 m1 h => ?_)
  replace h := id h
  refine w_ifne rfl (w_ite h (fun h => ?_) (fun h => ?_))
  · exact w_vret rfl rfl h
  · refine w_aload_n rfl rfl ?_
    refine w_gfC (c := 457) rfl s_428 rfl rfl ?_
    refine w_iload_n rfl rfl ?_
    refine w_iconst rfl (by decide) ?_
    refine w_zast rfl s_457 (w_EM (by decide)) (n := 200) rfl h.1 (by decide) ?_
    replace h := h.2
    refine w_aload_n rfl rfl ?_
    refine w_gfC (c := 458) rfl s_428 rfl rfl ?_
    refine w_iload_n rfl rfl ?_
    refine w_aload_n rfl rfl ?_
    refine x_gfI rfl s_428 rfl (kk := 34) rfl (w_up_ne (by decide)) ?_
    refine w_iast rfl s_458 (w_EM (by decide)) (n := 200) rfl h.1 ?_
    replace h := h.2
    refine w_aload_n rfl rfl ?_
    refine w_gfC (c := 459) rfl s_428 rfl rfl ?_
    refine w_iload_n rfl rfl ?_
    refine w_iload rfl rfl ?_
    refine w_iast rfl s_459 (w_EM (by decide)) (n := 200) rfl h.1 ?_
    replace h := h.2
    refine w_aload_n rfl rfl ?_
    refine w_dup rfl (show (2 : Nat) ≠ 1 by decide) ?_
    refine x_gfI rfl s_428 rfl (kk := 34) rfl ((w_up_ne (by decide)).trans ((w_up_ne (by decide)).trans (w_up_ne (by decide)))) ?_
    refine w_iload rfl rfl ?_
    refine w_iadd rfl ?_
    refine w_pfI rfl s_428 rfl (w_EM (by decide)) rfl (kk := 34) rfl ?_
    refine w_aload_n rfl rfl ?_
    refine w_dup rfl (show (2 : Nat) ≠ 1 by decide) ?_
    refine x_gfI rfl s_428 rfl (kk := 67) rfl ((w_up_nb (by decide)).trans ((w_up_ne (by decide)).trans ((w_up_ne (by decide)).trans (w_up_ne (by decide))))) ?_
    refine w_iload rfl rfl ?_
    refine w_iadd rfl ?_
    refine w_pfI rfl s_428 rfl (w_EM (by decide)) rfl (kk := 67) rfl ?_
    exact w_vret rfl rfl h
theorem xr_m_kidsOf {d : Nat} {l1 : Int} {m : w_M} {Q : Int → w_M → Prop} (h : ((0 : Int) ≤ l1 ∧ l1 < 200) ∧ (xc_m_rawEntry d (m 455 l1) 246 m (fun r1 m1 => ((0 : Int) ≤ r1 ∧ r1 < 40000) ∧ (if (m1 432 r1) = 8 then (xc_m_resolve d r1 m1 (fun r2 m2 => ((0 : Int) ≤ l1 ∧ l1 < 200) ∧ (xc_m_entryTo d (m2 455 l1) 246 6 0 0 m2 (fun r3 m3 => ((0 : Int) ≤ r2 ∧ r2 < 40000) ∧ (xp_m_kidsOf_57 d r1 (m3 436 r2) m3 Q))))) else (Q r1 m1))))) : xc_m_kidsOf (d + 1) l1 m Q := by
  refine w_enter (q := 4) (lv := [some (2, 428), some (0, l1), none, none, none, none]) rfl rfl rfl ?_
  refine w_aload_n rfl rfl ?_
  refine w_aload_n rfl rfl ?_
  refine w_gfC (c := 455) rfl s_428 rfl rfl ?_
  refine w_iload_n rfl rfl ?_
  refine w_iald rfl s_455 (n := 200) rfl h.1 ?_
  replace h := h.2
  refine w_ldcwR rfl ?_
  refine w_callV (t' := 0) [(2, 246), (0, m 455 l1)] [] rfl s_428 rfl rfl ?_
  refine w_C.more (Q := fun r1 m1 => _) h (fun r1 m1 h => ?_)
  replace h := id h
  refine w_istore_n (lv' := [some (2, 428), some (0, l1), some (0, r1), none, none, none]) rfl rfl rfl ?_
  refine w_aload_n rfl rfl ?_
  refine w_gfC (c := 432) rfl s_428 rfl rfl ?_
  refine w_iload_n rfl rfl ?_
  refine w_bald rfl s_432 (n := 40000) rfl h.1 ?_
  replace h := h.2
  refine w_bipush rfl (by decide) ?_
  refine w_icne rfl (w_ite h (fun h => ?_) (fun h => ?_))
  · refine w_aload_n rfl rfl ?_
    refine w_iload_n rfl rfl ?_
    refine w_callV (t' := 0) [(0, r1)] [] rfl s_428 rfl rfl ?_
    refine w_C.more (Q := fun r2 m2 => _) h (fun r2 m2 h => ?_)
    replace h := id h
    refine w_istore_n (lv' := [some (2, 428), some (0, l1), some (0, r1), some (0, r2), none, none]) rfl rfl rfl ?_
    refine w_aload_n rfl rfl ?_
    refine w_aload_n rfl rfl ?_
    refine w_gfC (c := 455) rfl s_428 rfl rfl ?_
    refine w_iload_n rfl rfl ?_
    refine w_iald rfl s_455 (n := 200) rfl h.1 ?_
    replace h := h.2
    refine w_ldcwR rfl ?_
    refine w_bipush rfl (by decide) ?_
    refine w_iconst rfl (by decide) ?_
    refine w_iconst rfl (by decide) ?_
    refine w_callV (t' := 0) [(0, 0), (0, 0), (0, 6), (2, 246), (0, m2 455 l1)] [] rfl s_428 rfl rfl ?_
    refine w_C.more (Q := fun r3 m3 => _) h (fun r3 m3 h => ?_)
    replace h := id h
    refine w_pop rfl (show (0 : Nat) ≠ 1 by decide) ?_
    refine w_aload_n rfl rfl ?_
    refine w_gfC (c := 436) rfl s_428 rfl rfl ?_
    refine w_iload_n rfl rfl ?_
    refine w_iald rfl s_436 (n := 40000) rfl h.1 ?_
    replace h := h.2
    refine w_istore (lv' := [some (2, 428), some (0, l1), some (0, r1), some (0, r2), some (0, m3 436 r2), none]) rfl rfl rfl ?_
    exact w_W.less h (w_sub [true, false, true, false, true, false] rfl)
  · refine w_iload_n rfl rfl ?_
    exact w_iret rfl rfl h
theorem xr_m_kidsOf_57 {d : Nat} {l2 l4 : Int} {m : w_M} {Q : Int → w_M → Prop} (h : if l4 < 0 then (Q l2 m) else (((0 : Int) ≤ l4 ∧ l4 < 40000) ∧ (((0 : Int) ≤ l4 ∧ l4 < 40000) ∧ (xc_m_newNode d (m 432 l4) (m 433 l4) m (fun r1 m1 => ((0 : Int) ≤ l4 ∧ l4 < 40000) ∧ (((0 : Int) ≤ r1 ∧ r1 < 40000) ∧ (xc_m_append d l2 r1 (w_up m1 434 r1 (m1 434 l4)) (fun r2 m2 => ((0 : Int) ≤ l4 ∧ l4 < 40000) ∧ (xp_m_kidsOf_57 d l2 (m2 437 l4) m2 Q))))))))) : xp_m_kidsOf_57 d l2 l4 m Q := by
  refine w_iload rfl rfl ?_
  refine w_iflt rfl (w_ite h (fun h => ?_) (fun h => ?_))
  · refine w_iload_n rfl rfl ?_
    exact w_iret rfl rfl h
  · refine w_aload_n rfl rfl ?_
    refine w_aload_n rfl rfl ?_
    refine w_gfC (c := 432) rfl s_428 rfl rfl ?_
    refine w_iload rfl rfl ?_
    refine w_bald rfl s_432 (n := 40000) rfl h.1 ?_
    replace h := h.2
    refine w_aload_n rfl rfl ?_
    refine w_gfC (c := 433) rfl s_428 rfl rfl ?_
    refine w_iload rfl rfl ?_
    refine w_iald rfl s_433 (n := 40000) rfl h.1 ?_
    replace h := h.2
    refine w_callV (t' := 0) [(0, m 433 l4), (0, m 432 l4)] [] rfl s_428 rfl rfl ?_
    refine w_C.more (Q := fun r1 m1 => _) h (fun r1 m1 h => ?_)
    replace h := id h
    refine w_istore (lv' := [some (2, 428), none, some (0, l2), none, some (0, l4), some (0, r1)]) rfl rfl rfl ?_
    refine w_aload_n rfl rfl ?_
    refine w_gfC (c := 434) rfl s_428 rfl rfl ?_
    refine w_iload rfl rfl ?_
    refine w_aload_n rfl rfl ?_
    refine w_gfC (c := 434) rfl s_428 rfl rfl ?_
    refine w_iload rfl rfl ?_
    refine w_iald rfl s_434 (n := 40000) rfl h.1 ?_
    replace h := h.2
    refine w_iast rfl s_434 (w_EM (by decide)) (n := 40000) rfl h.1 ?_
    replace h := h.2
    refine w_aload_n rfl rfl ?_
    refine w_iload_n rfl rfl ?_
    refine w_iload rfl rfl ?_
    refine w_callV (t' := 3) [(0, r1), (0, l2)] [] rfl s_428 rfl rfl ?_
    refine w_C.more (Q := fun r2 m2 => _) h (fun r2 m2 h => ?_)
    replace h := id h
    refine w_aload_n rfl rfl ?_
    refine w_gfC (c := 437) rfl s_428 rfl rfl ?_
    refine w_iload rfl rfl ?_
    refine w_iald rfl s_437 (n := 40000) rfl h.1 ?_
    replace h := h.2
    refine w_istore (lv' := [some (2, 428), none, some (0, l2), none, some (0, m2 437 l4), some (0, r1)]) rfl rfl rfl ?_
    refine w_goto rfl ?_
    exact w_W.less h (w_sub [true, false, true, false, true, false] rfl)
theorem xr_m_kindHere {d : Nat} {m : w_M} {Q : Int → w_M → Prop} (h : if (m 428 88) = 0 then (((0 : Int) ≤ (m 428 89) ∧ (m 428 89) < 200) ∧ (if (m 457 (m 428 89)) = 0 then (((0 : Int) ≤ (m 428 88) ∧ (m 428 88) < 26) ∧ (((0 : Int) ≤ (m 471 (m 428 88)) ∧ (m 471 (m 428 88)) < 40000) ∧ (Q (m 432 (m 471 (m 428 88))) m))) else (Q 9 m))) else (((0 : Int) ≤ (m 428 88) ∧ (m 428 88) < 26) ∧ (((0 : Int) ≤ (m 471 (m 428 88)) ∧ (m 471 (m 428 88)) < 40000) ∧ (Q (m 432 (m 471 (m 428 88))) m)))) : xc_m_kindHere (d + 1) m Q := by
  refine w_enter (q := 0) (lv := [some (2, 428)]) rfl rfl rfl ?_
  refine w_aload_n rfl rfl ?_
  refine x_gfI rfl s_428 rfl (kk := 88) rfl rfl ?_
  refine w_ifne rfl (w_ite h (fun h => ?_) (fun h => ?_))
  · refine w_aload_n rfl rfl ?_
    refine w_gfC (c := 457) rfl s_428 rfl rfl ?_
    refine w_aload_n rfl rfl ?_
    refine x_gfI rfl s_428 rfl (kk := 89) rfl rfl ?_
    refine w_zald rfl s_457 (n := 200) rfl h.1 ?_
    replace h := h.2
    refine w_ifeq rfl (w_ite h (fun h => ?_) (fun h => ?_))
    · refine w_aload_n rfl rfl ?_
      refine w_gfC (c := 432) rfl s_428 rfl rfl ?_
      refine w_aload_n rfl rfl ?_
      refine w_gfC (c := 471) rfl s_428 rfl rfl ?_
      refine w_aload_n rfl rfl ?_
      refine x_gfI rfl s_428 rfl (kk := 88) rfl rfl ?_
      refine w_iald rfl s_471 (n := 26) rfl h.1 ?_
      replace h := h.2
      refine w_bald rfl s_432 (n := 40000) rfl h.1 ?_
      replace h := h.2
      exact w_iret rfl rfl h
    · refine w_bipush rfl (by decide) ?_
      refine w_goto rfl ?_
      exact w_iret rfl rfl h
  · refine w_aload_n rfl rfl ?_
    refine w_gfC (c := 432) rfl s_428 rfl rfl ?_
    refine w_aload_n rfl rfl ?_
    refine w_gfC (c := 471) rfl s_428 rfl rfl ?_
    refine w_aload_n rfl rfl ?_
    refine x_gfI rfl s_428 rfl (kk := 88) rfl rfl ?_
    refine w_iald rfl s_471 (n := 26) rfl h.1 ?_
    replace h := h.2
    refine w_bald rfl s_432 (n := 40000) rfl h.1 ?_
    replace h := h.2
    exact w_iret rfl rfl h
theorem xr_m_known {d : Nat} {m : w_M} {Q : Int → w_M → Prop} (h : xc_m_sayText d 248 m (fun r1 m1 => xc_m_generationOf d (m1 428 81) m1 (fun r2 m2 => xc_m_sayReference d (m1 428 81) r2 m2 (fun r3 m3 => xc_m_say d 32 m3 (fun r4 m4 => if (m4 428 82) = 0 then (xc_m_sayText d 252 m4 (fun r5 m5 => xc_m_sayNumber d (m5 463 0) m5 (fun r6 m6 => xc_m_say d 32 m6 (fun r7 m7 => Q 0 m7)))) else (xc_m_sayText d 250 m4 (fun r8 m8 => xc_m_generationOf d (m8 428 82) m8 (fun r9 m9 => xc_m_sayReference d (m8 428 82) r9 m9 (fun r10 m10 => xc_m_say d 32 m10 (fun r11 m11 => xc_m_sayText d 252 m11 (fun r12 m12 => xc_m_sayNumber d (m12 463 0) m12 (fun r13 m13 => xc_m_say d 32 m13 (fun r14 m14 => Q 0 m14))))))))))))) : xc_m_known (d + 1) m Q := by
  refine w_enter (q := 0) (lv := [some (2, 428)]) rfl rfl rfl ?_
  refine w_aload_n rfl rfl ?_
  refine w_ldcwR rfl ?_
  refine w_callV (t' := 3) [(2, 248)] [] rfl s_428 rfl rfl ?_
  refine w_C.more (Q := fun r1 m1 => _) h (fun r1 m1 h => ?_)
  replace h := id h
  refine w_aload_n rfl rfl ?_
  refine w_aload_n rfl rfl ?_
  refine x_gfI rfl s_428 rfl (kk := 81) rfl rfl ?_
  refine w_aload_n rfl rfl ?_
  refine w_aload_n rfl rfl ?_
  refine x_gfI rfl s_428 rfl (kk := 81) rfl rfl ?_
  refine w_callV (t' := 1) [(0, m1 428 81)] [(0, m1 428 81), (2, 428)] rfl s_428 rfl rfl ?_
  refine w_C.more (Q := fun r2 m2 => _) h (fun r2 m2 h => ?_)
  replace h := id h
  refine w_callV (t' := 3) [(1, r2), (0, m1 428 81)] [] rfl s_428 rfl rfl ?_
  refine w_C.more (Q := fun r3 m3 => _) h (fun r3 m3 h => ?_)
  replace h := id h
  refine w_aload_n rfl rfl ?_
  refine w_bipush rfl (by decide) ?_
  refine w_callV (t' := 3) [(0, 32)] [] rfl s_428 rfl rfl ?_
  refine w_C.more (Q := fun r4 m4 => _) h (fun r4 m4 h => ?_)
  replace h := id h
  refine w_aload_n rfl rfl ?_
  refine x_gfI rfl s_428 rfl (kk := 82) rfl rfl ?_
  refine w_ifeq rfl (w_ite h (fun h => ?_) (fun h => ?_))
  · refine w_aload_n rfl rfl ?_
    refine w_ldcwR rfl ?_
    refine w_callV (t' := 3) [(2, 252)] [] rfl s_428 rfl rfl ?_
    refine w_C.more (Q := fun r5 m5 => _) h (fun r5 m5 h => ?_)
    replace h := id h
    refine w_aload_n rfl rfl ?_
    refine w_aload_n rfl rfl ?_
    refine w_gfC (c := 463) rfl s_428 rfl rfl ?_
    refine w_iconst rfl (by decide) ?_
    refine w_lald rfl s_463 (w_EM (by decide)) (n := 12) rfl (by decide) ?_
    refine w_callV (t' := 3) [(1, m5 463 0)] [] rfl s_428 rfl rfl ?_
    refine w_C.more (Q := fun r6 m6 => _) h (fun r6 m6 h => ?_)
    replace h := id h
    refine w_aload_n rfl rfl ?_
    refine w_bipush rfl (by decide) ?_
    refine w_callV (t' := 3) [(0, 32)] [] rfl s_428 rfl rfl ?_
    refine w_C.more (Q := fun r7 m7 => _) h (fun r7 m7 h => ?_)
    replace h := id h
    exact w_vret rfl rfl h
  · refine w_aload_n rfl rfl ?_
    refine w_ldcwR rfl ?_
    refine w_callV (t' := 3) [(2, 250)] [] rfl s_428 rfl rfl ?_
    refine w_C.more (Q := fun r8 m8 => _) h (fun r8 m8 h => ?_)
    replace h := id h
    refine w_aload_n rfl rfl ?_
    refine w_aload_n rfl rfl ?_
    refine x_gfI rfl s_428 rfl (kk := 82) rfl rfl ?_
    refine w_aload_n rfl rfl ?_
    refine w_aload_n rfl rfl ?_
    refine x_gfI rfl s_428 rfl (kk := 82) rfl rfl ?_
    refine w_callV (t' := 1) [(0, m8 428 82)] [(0, m8 428 82), (2, 428)] rfl s_428 rfl rfl ?_
    refine w_C.more (Q := fun r9 m9 => _) h (fun r9 m9 h => ?_)
    replace h := id h
    refine w_callV (t' := 3) [(1, r9), (0, m8 428 82)] [] rfl s_428 rfl rfl ?_
    refine w_C.more (Q := fun r10 m10 => _) h (fun r10 m10 h => ?_)
    replace h := id h
    refine w_aload_n rfl rfl ?_
    refine w_bipush rfl (by decide) ?_
    refine w_callV (t' := 3) [(0, 32)] [] rfl s_428 rfl rfl ?_
    refine w_C.more (Q := fun r11 m11 => _) h (fun r11 m11 h => ?_)
    replace h := id h
    refine w_aload_n rfl rfl ?_
    refine w_ldcwR rfl ?_
    refine w_callV (t' := 3) [(2, 252)] [] rfl s_428 rfl rfl ?_
    refine w_C.more (Q := fun r12 m12 => _) h (fun r12 m12 h => ?_)
    replace h := id h
    refine w_aload_n rfl rfl ?_
    refine w_aload_n rfl rfl ?_
    refine w_gfC (c := 463) rfl s_428 rfl rfl ?_
    refine w_iconst rfl (by decide) ?_
    refine w_lald rfl s_463 (w_EM (by decide)) (n := 12) rfl (by decide) ?_
    refine w_callV (t' := 3) [(1, m12 463 0)] [] rfl s_428 rfl rfl ?_
    refine w_C.more (Q := fun r13 m13 => _) h (fun r13 m13 h => ?_)
    replace h := id h
    refine w_aload_n rfl rfl ?_
    refine w_bipush rfl (by decide) ?_
    refine w_callV (t' := 3) [(0, 32)] [] rfl s_428 rfl rfl ?_
    refine w_C.more (Q := fun r14 m14 => _) h (fun r14 m14 h => ?_)
    replace h := id h
    exact w_vret rfl rfl h
theorem xr_m_lay {d : Nat} {l1 : Int} {m : w_M} {Q : Int → w_M → Prop} (h : xp_m_lay_3 d l1 24 m Q) : xc_m_lay (d + 1) l1 m Q := by
  refine w_enter (q := 1) (lv := [some (2, 428), some (0, l1), none]) rfl rfl rfl ?_
  refine w_bipush rfl (by decide) ?_
  refine w_istore_n (lv' := [some (2, 428), some (0, l1), some (0, 24)]) rfl rfl rfl ?_
  exact w_W.less h (w_sub [true, true, true] rfl)
theorem xr_m_lay_3 {d : Nat} {l1 l2 : Int} {m : w_M} {Q : Int → w_M → Prop} (h : if l2 < 0 then (Q 0 m) else (((0 : Int) ≤ (m 428 1) ∧ (m 428 1) < 8000) ∧ (xp_m_lay_3 d l1 (w_32 (l2 + (-8))) (w_up (w_up m 429 (m 428 1) (w_8 (w_8 (w_shr l1 l2)))) 428 1 (w_32 ((m 428 1) + 1))) Q))) : xp_m_lay_3 d l1 l2 m Q := by
  refine w_iload_n rfl rfl ?_
  refine w_iflt rfl (w_ite h (fun h => ?_) (fun h => ?_))
  · exact w_vret rfl rfl h
  · refine w_aload_n rfl rfl ?_
    refine w_gfC (c := 429) rfl s_428 rfl rfl ?_
    refine w_aload_n rfl rfl ?_
    refine x_gfI rfl s_428 rfl (kk := 1) rfl rfl ?_
    refine w_iload_n rfl rfl ?_
    refine w_iload_n rfl rfl ?_
    refine w_ishr rfl ?_
    refine w_i2b rfl ?_
    refine w_bast rfl s_429 (w_EM (by decide)) (n := 8000) rfl h.1 ?_
    replace h := h.2
    refine w_aload_n rfl rfl ?_
    refine w_dup rfl (show (2 : Nat) ≠ 1 by decide) ?_
    refine x_gfI rfl s_428 rfl (kk := 1) rfl (w_up_ne (by decide)) ?_
    refine w_iconst rfl (by decide) ?_
    refine w_iadd rfl ?_
    refine w_pfI rfl s_428 rfl (w_EM (by decide)) rfl (kk := 1) rfl ?_
    refine w_iinc (lv' := [some (2, 428), some (0, l1), some (0, w_32 (l2 + (-8)))]) rfl rfl rfl rfl ?_
    refine w_goto rfl ?_
    exact w_W.less h (w_sub [true, true, true] rfl)
theorem xr_m_lengthOf {d : Nat} {l0 : Int} {m : w_M} {Q : Int → w_M → Prop} (h : if l0 < 8 then (Q (w_32 (3 + l0)) m) else (if l0 = 28 then (Q 258 m) else (Q (w_32 (3 + (w_shl (w_32 (4 + (l0 % 4))) (w_32 ((Int.tdiv l0 4) - 1))))) m))) : xc_m_lengthOf (d + 1) l0 m Q := by
  refine w_enter (q := 0) (lv := [some (0, l0)]) rfl rfl rfl ?_
  refine w_iload_n rfl rfl ?_
  refine w_bipush rfl (by decide) ?_
  refine w_icge rfl (w_ite h (fun h => ?_) (fun h => ?_))
  · refine w_iconst rfl (by decide) ?_
    refine w_iload_n rfl rfl ?_
    refine w_iadd rfl ?_
    exact w_iret rfl rfl h
  · refine w_iload_n rfl rfl ?_
    refine w_bipush rfl (by decide) ?_
    refine w_icne rfl (w_ite h (fun h => ?_) (fun h => ?_))
    · refine w_sipush rfl (by decide) ?_
      refine w_goto rfl ?_
      exact w_iret rfl rfl h
    · refine w_iconst rfl (by decide) ?_
      refine w_iconst rfl (by decide) ?_
      refine w_iload_n rfl rfl ?_
      refine w_iconst rfl (by decide) ?_
      refine w_iandm 2 (c := 4) rfl (by decide) rfl rfl ?_
      refine w_iadd rfl ?_
      refine w_iload_n rfl rfl ?_
      refine w_iconst rfl (by decide) ?_
      refine w_idivk rfl (by decide) ?_
      refine w_iconst rfl (by decide) ?_
      refine w_isub rfl ?_
      refine w_ishl rfl ?_
      refine w_iadd rfl ?_
      exact w_iret rfl rfl h
theorem xr_m_letter {d : Nat} {l1 l2 : Int} {m : w_M} {Q : Int → w_M → Prop} (h : if (m 428 88) < 0 then (Q (-1) m) else (((0 : Int) ≤ (m 428 88) ∧ (m 428 88) < 26) ∧ (((0 : Int) ≤ (m 471 (m 428 88)) ∧ (m 471 (m 428 88)) < 40000) ∧ (if (m 432 (m 471 (m 428 88))) = 4 then (if l2 = 0 then (((0 : Int) ≤ (m 471 (m 428 88)) ∧ (m 471 (m 428 88)) < 40000) ∧ (xp_m_letter_65 d l1 l2 (m 471 (m 428 88)) 1 (m 436 (m 471 (m 428 88))) m Q)) else (((0 : Int) ≤ (m 471 (m 428 88)) ∧ (m 471 (m 428 88)) < 40000) ∧ (xp_m_letter_65 d l1 l2 (m 471 (m 428 88)) 1 (m 438 (m 471 (m 428 88))) m Q))) else (((0 : Int) ≤ (m 471 (m 428 88)) ∧ (m 471 (m 428 88)) < 40000) ∧ (if (m 432 (m 471 (m 428 88))) = 5 then (if l2 = 0 then (((0 : Int) ≤ (m 471 (m 428 88)) ∧ (m 471 (m 428 88)) < 40000) ∧ (xp_m_letter_65 d l1 l2 (m 471 (m 428 88)) 1 (m 436 (m 471 (m 428 88))) m Q)) else (((0 : Int) ≤ (m 471 (m 428 88)) ∧ (m 471 (m 428 88)) < 40000) ∧ (xp_m_letter_65 d l1 l2 (m 471 (m 428 88)) 1 (m 438 (m 471 (m 428 88))) m Q))) else (if l2 = 0 then (((0 : Int) ≤ (m 471 (m 428 88)) ∧ (m 471 (m 428 88)) < 40000) ∧ (xp_m_letter_65 d l1 l2 (m 471 (m 428 88)) 0 (m 436 (m 471 (m 428 88))) m Q)) else (((0 : Int) ≤ (m 471 (m 428 88)) ∧ (m 471 (m 428 88)) < 40000) ∧ (xp_m_letter_65 d l1 l2 (m 471 (m 428 88)) 0 (m 438 (m 471 (m 428 88))) m Q))))))))) : xc_m_letter (d + 1) l1 l2 m Q := by
  refine w_enter (q := 4) (lv := [some (2, 428), some (0, l1), some (0, l2), none, none, none, none]) rfl rfl rfl ?_
  refine w_aload_n rfl rfl ?_
  refine x_gfI rfl s_428 rfl (kk := 88) rfl rfl ?_
  refine w_ifge rfl (w_ite h (fun h => ?_) (fun h => ?_))
  · refine w_iconst rfl (by decide) ?_
    exact w_iret rfl rfl h
  · refine w_aload_n rfl rfl ?_
    refine w_gfC (c := 471) rfl s_428 rfl rfl ?_
    refine w_aload_n rfl rfl ?_
    refine x_gfI rfl s_428 rfl (kk := 88) rfl rfl ?_
    refine w_iald rfl s_471 (n := 26) rfl h.1 ?_
    replace h := h.2
    refine w_istore_n (lv' := [some (2, 428), some (0, l1), some (0, l2), some (0, m 471 (m 428 88)), none, none, none]) rfl rfl rfl ?_
    refine w_aload_n rfl rfl ?_
    refine w_gfC (c := 432) rfl s_428 rfl rfl ?_
    refine w_iload_n rfl rfl ?_
    refine w_bald rfl s_432 (n := 40000) rfl h.1 ?_
    replace h := h.2
    refine w_iconst rfl (by decide) ?_
    refine w_iceq rfl (w_ite h (fun h => ?_) (fun h => ?_))
    · refine w_iconst rfl (by decide) ?_
      refine w_goto rfl ?_
      refine w_istore (lv' := [some (2, 428), some (0, l1), some (0, l2), some (0, m 471 (m 428 88)), some (0, 1), none, none]) rfl rfl rfl ?_
      refine w_iload_n rfl rfl ?_
      refine w_ifeq rfl (w_ite h (fun h => ?_) (fun h => ?_))
      · refine w_aload_n rfl rfl ?_
        refine w_gfC (c := 436) rfl s_428 rfl rfl ?_
        refine w_iload_n rfl rfl ?_
        refine w_iald rfl s_436 (n := 40000) rfl h.1 ?_
        replace h := h.2
        exact w_W.less h (w_sub [true, true, true, true, true, false, false] rfl)
      · refine w_aload_n rfl rfl ?_
        refine w_gfC (c := 438) rfl s_428 rfl rfl ?_
        refine w_iload_n rfl rfl ?_
        refine w_iald rfl s_438 (n := 40000) rfl h.1 ?_
        replace h := h.2
        refine w_goto rfl ?_
        exact w_W.less h (w_sub [true, true, true, true, true, false, false] rfl)
    · refine w_aload_n rfl rfl ?_
      refine w_gfC (c := 432) rfl s_428 rfl rfl ?_
      refine w_iload_n rfl rfl ?_
      refine w_bald rfl s_432 (n := 40000) rfl h.1 ?_
      replace h := h.2
      refine w_iconst rfl (by decide) ?_
      refine w_icne rfl (w_ite h (fun h => ?_) (fun h => ?_))
      · refine w_iconst rfl (by decide) ?_
        refine w_goto rfl ?_
        refine w_istore (lv' := [some (2, 428), some (0, l1), some (0, l2), some (0, m 471 (m 428 88)), some (0, 1), none, none]) rfl rfl rfl ?_
        refine w_iload_n rfl rfl ?_
        refine w_ifeq rfl (w_ite h (fun h => ?_) (fun h => ?_))
        · refine w_aload_n rfl rfl ?_
          refine w_gfC (c := 436) rfl s_428 rfl rfl ?_
          refine w_iload_n rfl rfl ?_
          refine w_iald rfl s_436 (n := 40000) rfl h.1 ?_
          replace h := h.2
          exact w_W.less h (w_sub [true, true, true, true, true, false, false] rfl)
        · refine w_aload_n rfl rfl ?_
          refine w_gfC (c := 438) rfl s_428 rfl rfl ?_
          refine w_iload_n rfl rfl ?_
          refine w_iald rfl s_438 (n := 40000) rfl h.1 ?_
          replace h := h.2
          refine w_goto rfl ?_
          exact w_W.less h (w_sub [true, true, true, true, true, false, false] rfl)
      · refine w_iconst rfl (by decide) ?_
        refine w_istore (lv' := [some (2, 428), some (0, l1), some (0, l2), some (0, m 471 (m 428 88)), some (0, 0), none, none]) rfl rfl rfl ?_
        refine w_iload_n rfl rfl ?_
        refine w_ifeq rfl (w_ite h (fun h => ?_) (fun h => ?_))
        · refine w_aload_n rfl rfl ?_
          refine w_gfC (c := 436) rfl s_428 rfl rfl ?_
          refine w_iload_n rfl rfl ?_
          refine w_iald rfl s_436 (n := 40000) rfl h.1 ?_
          replace h := h.2
          exact w_W.less h (w_sub [true, true, true, true, true, false, false] rfl)
        · refine w_aload_n rfl rfl ?_
          refine w_gfC (c := 438) rfl s_428 rfl rfl ?_
          refine w_iload_n rfl rfl ?_
          refine w_iald rfl s_438 (n := 40000) rfl h.1 ?_
          replace h := h.2
          refine w_goto rfl ?_
          exact w_W.less h (w_sub [true, true, true, true, true, false, false] rfl)
theorem xr_m_letter_65 {d : Nat} {l1 l2 l3 l4 s0 : Int} {m : w_M} {Q : Int → w_M → Prop} (h : if l2 = 0 then (if l4 = 0 then (if l1 < 0 then (Q (-1) m) else (if l1 < 0 then (((0 : Int) ≤ (w_32 (s0 + l1)) ∧ (w_32 (s0 + l1)) < 150000) ∧ (Q ((m 440 (w_32 (s0 + l1))) % 256) m)) else (Q (-1) m))) else (((0 : Int) ≤ l3 ∧ l3 < 40000) ∧ (if l1 < 0 then (Q (-1) m) else (if l1 < (m 435 l3) then (((0 : Int) ≤ (w_32 (s0 + l1)) ∧ (w_32 (s0 + l1)) < 150000) ∧ (Q ((m 440 (w_32 (s0 + l1))) % 256) m)) else (Q (-1) m))))) else (if (m 428 88) = 0 then (if l1 < 0 then (Q (-1) m) else (if l1 < 0 then (((0 : Int) ≤ (w_32 (s0 + l1)) ∧ (w_32 (s0 + l1)) < 150000) ∧ (Q ((m 440 (w_32 (s0 + l1))) % 256) m)) else (Q (-1) m))) else (((0 : Int) ≤ l3 ∧ l3 < 40000) ∧ (if l1 < 0 then (Q (-1) m) else (if l1 < (m 439 l3) then (((0 : Int) ≤ (w_32 (s0 + l1)) ∧ (w_32 (s0 + l1)) < 150000) ∧ (Q ((m 440 (w_32 (s0 + l1))) % 256) m)) else (Q (-1) m)))))) : xp_m_letter_65 d l1 l2 l3 l4 s0 m Q := by
  refine w_istore (lv' := [some (2, 428), some (0, l1), some (0, l2), some (0, l3), some (0, l4), some (0, s0), none]) rfl rfl rfl ?_
  refine w_iload_n rfl rfl ?_
  refine w_ifeq rfl (w_ite h (fun h => ?_) (fun h => ?_))
  · refine w_iload rfl rfl ?_
    refine w_ifeq rfl (w_ite h (fun h => ?_) (fun h => ?_))
    · refine w_iconst rfl (by decide) ?_
      refine w_istore (lv' := [some (2, 428), some (0, l1), some (0, l2), some (0, l3), some (0, l4), some (0, s0), some (0, 0)]) rfl rfl rfl ?_
      refine w_iload_n rfl rfl ?_
      refine w_iflt rfl (w_ite h (fun h => ?_) (fun h => ?_))
      · refine w_iconst rfl (by decide) ?_
        exact w_iret rfl rfl h
      · refine w_iload_n rfl rfl ?_
        refine w_iload rfl rfl ?_
        refine w_icge rfl (w_ite h (fun h => ?_) (fun h => ?_))
        · refine w_aload_n rfl rfl ?_
          refine w_gfC (c := 440) rfl s_428 rfl rfl ?_
          refine w_iload rfl rfl ?_
          refine w_iload_n rfl rfl ?_
          refine w_iadd rfl ?_
          refine w_bald rfl s_440 (n := 150000) rfl h.1 ?_
          replace h := h.2
          refine w_sipush rfl (by decide) ?_
          refine w_iandm 8 (c := 256) rfl (by decide) rfl rfl ?_
          refine w_goto rfl ?_
          exact w_iret rfl rfl h
        · refine w_iconst rfl (by decide) ?_
          exact w_iret rfl rfl h
    · refine w_aload_n rfl rfl ?_
      refine w_gfC (c := 435) rfl s_428 rfl rfl ?_
      refine w_iload_n rfl rfl ?_
      refine w_iald rfl s_435 (n := 40000) rfl h.1 ?_
      replace h := h.2
      refine w_goto rfl ?_
      refine w_istore (lv' := [some (2, 428), some (0, l1), some (0, l2), some (0, l3), some (0, l4), some (0, s0), some (0, m 435 l3)]) rfl rfl rfl ?_
      refine w_iload_n rfl rfl ?_
      refine w_iflt rfl (w_ite h (fun h => ?_) (fun h => ?_))
      · refine w_iconst rfl (by decide) ?_
        exact w_iret rfl rfl h
      · refine w_iload_n rfl rfl ?_
        refine w_iload rfl rfl ?_
        refine w_icge rfl (w_ite h (fun h => ?_) (fun h => ?_))
        · refine w_aload_n rfl rfl ?_
          refine w_gfC (c := 440) rfl s_428 rfl rfl ?_
          refine w_iload rfl rfl ?_
          refine w_iload_n rfl rfl ?_
          refine w_iadd rfl ?_
          refine w_bald rfl s_440 (n := 150000) rfl h.1 ?_
          replace h := h.2
          refine w_sipush rfl (by decide) ?_
          refine w_iandm 8 (c := 256) rfl (by decide) rfl rfl ?_
          refine w_goto rfl ?_
          exact w_iret rfl rfl h
        · refine w_iconst rfl (by decide) ?_
          exact w_iret rfl rfl h
  · refine w_aload_n rfl rfl ?_
    refine x_gfI rfl s_428 rfl (kk := 88) rfl rfl ?_
    refine w_ifne rfl (w_ite h (fun h => ?_) (fun h => ?_))
    · refine w_iconst rfl (by decide) ?_
      refine w_goto rfl ?_
      refine w_istore (lv' := [some (2, 428), some (0, l1), some (0, l2), some (0, l3), some (0, l4), some (0, s0), some (0, 0)]) rfl rfl rfl ?_
      refine w_iload_n rfl rfl ?_
      refine w_iflt rfl (w_ite h (fun h => ?_) (fun h => ?_))
      · refine w_iconst rfl (by decide) ?_
        exact w_iret rfl rfl h
      · refine w_iload_n rfl rfl ?_
        refine w_iload rfl rfl ?_
        refine w_icge rfl (w_ite h (fun h => ?_) (fun h => ?_))
        · refine w_aload_n rfl rfl ?_
          refine w_gfC (c := 440) rfl s_428 rfl rfl ?_
          refine w_iload rfl rfl ?_
          refine w_iload_n rfl rfl ?_
          refine w_iadd rfl ?_
          refine w_bald rfl s_440 (n := 150000) rfl h.1 ?_
          replace h := h.2
          refine w_sipush rfl (by decide) ?_
          refine w_iandm 8 (c := 256) rfl (by decide) rfl rfl ?_
          refine w_goto rfl ?_
          exact w_iret rfl rfl h
        · refine w_iconst rfl (by decide) ?_
          exact w_iret rfl rfl h
    · refine w_aload_n rfl rfl ?_
      refine w_gfC (c := 439) rfl s_428 rfl rfl ?_
      refine w_iload_n rfl rfl ?_
      refine w_iald rfl s_439 (n := 40000) rfl h.1 ?_
      replace h := h.2
      refine w_goto rfl ?_
      refine w_istore (lv' := [some (2, 428), some (0, l1), some (0, l2), some (0, l3), some (0, l4), some (0, s0), some (0, m 439 l3)]) rfl rfl rfl ?_
      refine w_iload_n rfl rfl ?_
      refine w_iflt rfl (w_ite h (fun h => ?_) (fun h => ?_))
      · refine w_iconst rfl (by decide) ?_
        exact w_iret rfl rfl h
      · refine w_iload_n rfl rfl ?_
        refine w_iload rfl rfl ?_
        refine w_icge rfl (w_ite h (fun h => ?_) (fun h => ?_))
        · refine w_aload_n rfl rfl ?_
          refine w_gfC (c := 440) rfl s_428 rfl rfl ?_
          refine w_iload rfl rfl ?_
          refine w_iload_n rfl rfl ?_
          refine w_iadd rfl ?_
          refine w_bald rfl s_440 (n := 150000) rfl h.1 ?_
          replace h := h.2
          refine w_sipush rfl (by decide) ?_
          refine w_iandm 8 (c := 256) rfl (by decide) rfl rfl ?_
          refine w_goto rfl ?_
          exact w_iret rfl rfl h
        · refine w_iconst rfl (by decide) ?_
          exact w_iret rfl rfl h
theorem xr_m_literal {d : Nat} {l1 : Int} {m : w_M} {Q : Int → w_M → Prop} (h : if l1 < 144 then (xc_m_huffman d (w_32 (48 + l1)) 8 m (fun r1 m1 => Q 0 m1)) else (if l1 < 256 then (xc_m_huffman d (w_32 ((w_32 (400 + l1)) - 144)) 9 m (fun r2 m2 => Q 0 m2)) else (if l1 < 280 then (xc_m_huffman d (w_32 (l1 - 256)) 7 m (fun r3 m3 => Q 0 m3)) else (xc_m_huffman d (w_32 ((w_32 (192 + l1)) - 280)) 8 m (fun r4 m4 => Q 0 m4))))) : xc_m_literal (d + 1) l1 m Q := by
  refine w_enter (q := 0) (lv := [some (2, 428), some (0, l1)]) rfl rfl rfl ?_
  refine w_iload_n rfl rfl ?_
  refine w_sipush rfl (by decide) ?_
  refine w_icge rfl (w_ite h (fun h => ?_) (fun h => ?_))
  · refine w_aload_n rfl rfl ?_
    refine w_bipush rfl (by decide) ?_
    refine w_iload_n rfl rfl ?_
    refine w_iadd rfl ?_
    refine w_bipush rfl (by decide) ?_
    refine w_callV (t' := 3) [(0, 8), (0, w_32 (48 + l1))] [] rfl s_428 rfl rfl ?_
    refine w_C.more (Q := fun r1 m1 => _) h (fun r1 m1 h => ?_)
    replace h := id h
    refine w_goto rfl ?_
    exact w_vret rfl rfl h
  · refine w_iload_n rfl rfl ?_
    refine w_sipush rfl (by decide) ?_
    refine w_icge rfl (w_ite h (fun h => ?_) (fun h => ?_))
    · refine w_aload_n rfl rfl ?_
      refine w_sipush rfl (by decide) ?_
      refine w_iload_n rfl rfl ?_
      refine w_iadd rfl ?_
      refine w_sipush rfl (by decide) ?_
      refine w_isub rfl ?_
      refine w_bipush rfl (by decide) ?_
      refine w_callV (t' := 3) [(0, 9), (0, w_32 ((w_32 (400 + l1)) - 144))] [] rfl s_428 rfl rfl ?_
      refine w_C.more (Q := fun r2 m2 => _) h (fun r2 m2 h => ?_)
      replace h := id h
      refine w_goto rfl ?_
      exact w_vret rfl rfl h
    · refine w_iload_n rfl rfl ?_
      refine w_sipush rfl (by decide) ?_
      refine w_icge rfl (w_ite h (fun h => ?_) (fun h => ?_))
      · refine w_aload_n rfl rfl ?_
        refine w_iload_n rfl rfl ?_
        refine w_sipush rfl (by decide) ?_
        refine w_isub rfl ?_
        refine w_bipush rfl (by decide) ?_
        refine w_callV (t' := 3) [(0, 7), (0, w_32 (l1 - 256))] [] rfl s_428 rfl rfl ?_
        refine w_C.more (Q := fun r3 m3 => _) h (fun r3 m3 h => ?_)
        replace h := id h
        refine w_goto rfl ?_
        exact w_vret rfl rfl h
      · refine w_aload_n rfl rfl ?_
        refine w_sipush rfl (by decide) ?_
        refine w_iload_n rfl rfl ?_
        refine w_iadd rfl ?_
        refine w_sipush rfl (by decide) ?_
        refine w_isub rfl ?_
        refine w_bipush rfl (by decide) ?_
        refine w_callV (t' := 3) [(0, 8), (0, w_32 ((w_32 (192 + l1)) - 280))] [] rfl s_428 rfl rfl ?_
        refine w_C.more (Q := fun r4 m4 => _) h (fun r4 m4 h => ?_)
        replace h := id h
        exact w_vret rfl rfl h
theorem xr_m_load {d : Nat} {m : w_M} {Q : Int → w_M → Prop} (h : xp_m_load_12 d (m 428 1) 0 (w_up m 428 1 0) Q) : xc_m_load (d + 1) m Q := by
  refine w_enter (q := 2) (lv := [some (2, 428), none, none]) rfl rfl rfl ?_
  refine w_aload_n rfl rfl ?_
  refine x_gfI rfl s_428 rfl (kk := 1) rfl rfl ?_
  refine w_istore_n (lv' := [some (2, 428), some (0, m 428 1), none]) rfl rfl rfl ?_
  refine w_aload_n rfl rfl ?_
  refine w_iconst rfl (by decide) ?_
  refine w_pfI rfl s_428 rfl (w_EM (by decide)) rfl (kk := 1) rfl ?_
  refine w_iconst rfl (by decide) ?_
  refine w_istore_n (lv' := [some (2, 428), some (0, m 428 1), some (0, 0)]) rfl rfl rfl ?_
  exact w_W.less h (w_sub [true, true, true] rfl)
theorem xr_m_load_12 {d : Nat} {l1 l2 : Int} {m : w_M} {Q : Int → w_M → Prop} (h : if l2 < l1 then (((0 : Int) ≤ l2 ∧ l2 < 8000) ∧ (((0 : Int) ≤ l2 ∧ l2 < 8000) ∧ (xp_m_load_12 d l1 (w_32 (l2 + 1)) (w_up m 430 l2 (w_8 (m 429 l2))) Q))) else (xc_m_readFile d (w_up (w_up (w_up (w_up (w_up (w_up (w_up (w_up (w_up (w_up (w_up (w_up (w_up (w_up (w_up m 428 3 l1) 428 6 0) 428 88 (-1)) 428 104 0) 428 15 0) 428 17 0) 428 34 0) 428 67 0) 428 29 0) 428 30 6000) 428 31 0) 428 32 1) 428 27 0) 428 28 (-1)) 428 84 0) (fun r1 m1 => xp_m_load_118 d 0 m1 Q))) : xp_m_load_12 d l1 l2 m Q := by
  refine w_iload_n rfl rfl ?_
  refine w_iload_n rfl rfl ?_
  refine w_icge rfl (w_ite h (fun h => ?_) (fun h => ?_))
  · refine w_aload_n rfl rfl ?_
    refine w_gfC (c := 430) rfl s_428 rfl rfl ?_
    refine w_iload_n rfl rfl ?_
    refine w_aload_n rfl rfl ?_
    refine w_gfC (c := 429) rfl s_428 rfl rfl ?_
    refine w_iload_n rfl rfl ?_
    refine w_bald rfl s_429 (n := 8000) rfl h.1 ?_
    replace h := h.2
    refine w_bast rfl s_430 (w_EM (by decide)) (n := 8000) rfl h.1 ?_
    replace h := h.2
    refine w_iinc (lv' := [some (2, 428), some (0, l1), some (0, w_32 (l2 + 1))]) rfl rfl rfl rfl ?_
    refine w_goto rfl ?_
    exact w_W.less h (w_sub [true, true, true] rfl)
  · refine w_aload_n rfl rfl ?_
    refine w_iload_n rfl rfl ?_
    refine w_pfI rfl s_428 rfl (w_EM (by decide)) rfl (kk := 3) rfl ?_
    refine w_aload_n rfl rfl ?_
    refine w_iconst rfl (by decide) ?_
    refine w_pfZ rfl s_428 rfl (w_EM (by decide)) rfl (kk := 6) rfl (by decide) ?_
    refine w_aload_n rfl rfl ?_
    refine w_iconst rfl (by decide) ?_
    refine w_pfI rfl s_428 rfl (w_EM (by decide)) rfl (kk := 88) rfl ?_
    refine w_aload_n rfl rfl ?_
    refine w_iconst rfl (by decide) ?_
    refine w_pfI rfl s_428 rfl (w_EM (by decide)) rfl (kk := 104) rfl ?_
    refine w_aload_n rfl rfl ?_
    refine w_iconst rfl (by decide) ?_
    refine w_pfI rfl s_428 rfl (w_EM (by decide)) rfl (kk := 15) rfl ?_
    refine w_aload_n rfl rfl ?_
    refine w_iconst rfl (by decide) ?_
    refine w_pfI rfl s_428 rfl (w_EM (by decide)) rfl (kk := 17) rfl ?_
    refine w_aload_n rfl rfl ?_
    refine w_iconst rfl (by decide) ?_
    refine w_pfI rfl s_428 rfl (w_EM (by decide)) rfl (kk := 34) rfl ?_
    refine w_aload_n rfl rfl ?_
    refine w_iconst rfl (by decide) ?_
    refine w_pfI rfl s_428 rfl (w_EM (by decide)) rfl (kk := 67) rfl ?_
    refine w_aload_n rfl rfl ?_
    refine w_iconst rfl (by decide) ?_
    refine w_pfI rfl s_428 rfl (w_EM (by decide)) rfl (kk := 29) rfl ?_
    refine w_aload_n rfl rfl ?_
    refine w_sipush rfl (by decide) ?_
    refine w_pfI rfl s_428 rfl (w_EM (by decide)) rfl (kk := 30) rfl ?_
    refine w_aload_n rfl rfl ?_
    refine w_iconst rfl (by decide) ?_
    refine w_pfI rfl s_428 rfl (w_EM (by decide)) rfl (kk := 31) rfl ?_
    refine w_aload_n rfl rfl ?_
    refine w_iconst rfl (by decide) ?_
    refine w_pfZ rfl s_428 rfl (w_EM (by decide)) rfl (kk := 32) rfl (by decide) ?_
    refine w_aload_n rfl rfl ?_
    refine w_iconst rfl (by decide) ?_
    refine w_pfI rfl s_428 rfl (w_EM (by decide)) rfl (kk := 27) rfl ?_
    refine w_aload_n rfl rfl ?_
    refine w_iconst rfl (by decide) ?_
    refine w_pfI rfl s_428 rfl (w_EM (by decide)) rfl (kk := 28) rfl ?_
    refine w_aload_n rfl rfl ?_
    refine w_iconst rfl (by decide) ?_
    refine w_pfI rfl s_428 rfl (w_EM (by decide)) rfl (kk := 84) rfl ?_
    refine w_aload_n rfl rfl ?_
    refine w_callV (t' := 3) [] [] rfl s_428 rfl rfl ?_
    refine w_C.more (Q := fun r1 m1 => _) h (fun r1 m1 h => ?_)
    replace h := id h
    refine w_iconst rfl (by decide) ?_
    refine w_istore_n (lv' := [some (2, 428), some (0, l1), some (0, 0)]) rfl rfl rfl ?_
    exact w_W.less h (w_sub [true, false, true] rfl)
theorem xr_m_load_118 {d : Nat} {l2 : Int} {m : w_M} {Q : Int → w_M → Prop} (h : if l2 < (m 428 60) then (xc_m_good d m (fun r1 m1 => if r1 = 0 then (xc_m_good d m1 (fun r2 m2 => if r2 = 0 then (xp_m_load_173 d m2 Q) else (xc_m_tree d m2 (fun r3 m3 => xp_m_load_173 d m3 Q)))) else (((0 : Int) ≤ l2 ∧ l2 < 200) ∧ (if (m1 451 l2) = 0 then (xp_m_load_118 d (w_32 (l2 + 1)) m1 Q) else (((0 : Int) ≤ l2 ∧ l2 < 200) ∧ (if (m1 456 l2) = 0 then (xc_m_readObject d l2 m1 (fun r4 m4 => xp_m_load_118 d (w_32 (l2 + 1)) m4 Q)) else (xp_m_load_118 d (w_32 (l2 + 1)) m1 Q))))))) else (xc_m_good d m (fun r5 m5 => if r5 = 0 then (xp_m_load_173 d m5 Q) else (xc_m_tree d m5 (fun r6 m6 => xp_m_load_173 d m6 Q))))) : xp_m_load_118 d l2 m Q := by
  refine w_iload_n rfl rfl ?_
  refine w_aload_n rfl rfl ?_
  refine x_gfI rfl s_428 rfl (kk := 60) rfl rfl ?_
  refine w_icge rfl (w_ite h (fun h => ?_) (fun h => ?_))
  · refine w_aload_n rfl rfl ?_
    refine w_callV (t' := 0) [] [] rfl s_428 rfl rfl ?_
    refine w_C.more (Q := fun r1 m1 => _) h (fun r1 m1 h => ?_)
    replace h := id h
    refine w_ifeq rfl (w_ite h (fun h => ?_) (fun h => ?_))
    · refine w_aload_n rfl rfl ?_
      refine w_callV (t' := 0) [] [] rfl s_428 rfl rfl ?_
      refine w_C.more (Q := fun r2 m2 => _) h (fun r2 m2 h => ?_)
      replace h := id h
      refine w_ifeq rfl (w_ite h (fun h => ?_) (fun h => ?_))
      · exact w_W.less h (w_sub [true, false, false] rfl)
      · refine w_aload_n rfl rfl ?_
        refine w_callV (t' := 3) [] [] rfl s_428 rfl rfl ?_
        refine w_C.more (Q := fun r3 m3 => _) h (fun r3 m3 h => ?_)
        replace h := id h
        exact w_W.less h (w_sub [true, false, false] rfl)
    · refine w_aload_n rfl rfl ?_
      refine w_gfC (c := 451) rfl s_428 rfl rfl ?_
      refine w_iload_n rfl rfl ?_
      refine w_bald rfl s_451 (n := 200) rfl h.1 ?_
      replace h := h.2
      refine w_ifeq rfl (w_ite h (fun h => ?_) (fun h => ?_))
      · refine w_iinc (lv' := [some (2, 428), none, some (0, w_32 (l2 + 1))]) rfl rfl rfl rfl ?_
        refine w_goto rfl ?_
        exact w_W.less h (w_sub [true, false, true] rfl)
      · refine w_aload_n rfl rfl ?_
        refine w_gfC (c := 456) rfl s_428 rfl rfl ?_
        refine w_iload_n rfl rfl ?_
        refine w_bald rfl s_456 (n := 200) rfl h.1 ?_
        replace h := h.2
        refine w_ifne rfl (w_ite h (fun h => ?_) (fun h => ?_))
        · refine w_aload_n rfl rfl ?_
          refine w_iload_n rfl rfl ?_
          refine w_callV (t' := 3) [(0, l2)] [] rfl s_428 rfl rfl ?_
          refine w_C.more (Q := fun r4 m4 => _) h (fun r4 m4 h => ?_)
          replace h := id h
          refine w_iinc (lv' := [some (2, 428), none, some (0, w_32 (l2 + 1))]) rfl rfl rfl rfl ?_
          refine w_goto rfl ?_
          exact w_W.less h (w_sub [true, false, true] rfl)
        · refine w_iinc (lv' := [some (2, 428), none, some (0, w_32 (l2 + 1))]) rfl rfl rfl rfl ?_
          refine w_goto rfl ?_
          exact w_W.less h (w_sub [true, false, true] rfl)
  · refine w_aload_n rfl rfl ?_
    refine w_callV (t' := 0) [] [] rfl s_428 rfl rfl ?_
    refine w_C.more (Q := fun r5 m5 => _) h (fun r5 m5 h => ?_)
    replace h := id h
    refine w_ifeq rfl (w_ite h (fun h => ?_) (fun h => ?_))
    · exact w_W.less h (w_sub [true, false, false] rfl)
    · refine w_aload_n rfl rfl ?_
      refine w_callV (t' := 3) [] [] rfl s_428 rfl rfl ?_
      refine w_C.more (Q := fun r6 m6 => _) h (fun r6 m6 h => ?_)
      replace h := id h
      exact w_W.less h (w_sub [true, false, false] rfl)
theorem xr_m_load_173 {d : Nat} {m : w_M} {Q : Int → w_M → Prop} (h : xc_m_good d (w_up m 428 68 (m 428 27)) (fun r1 m1 => if r1 = 0 then (xc_m_good d (w_up (w_up (w_up m1 428 69 (m1 428 28)) 428 70 0) 428 71 (-1)) (fun r2 m2 => if r2 = 0 then (Q (w_32 ((-100) - (m2 428 27))) (w_up m2 428 84 0)) else (xp_m_load_232 d 0 m2 Q))) else (xc_m_good d (w_up (w_up (w_up m1 428 69 (-1)) 428 70 0) 428 71 (-1)) (fun r3 m3 => if r3 = 0 then (Q (w_32 ((-100) - (m3 428 27))) (w_up m3 428 84 0)) else (xp_m_load_232 d 0 m3 Q))))) : xp_m_load_173 d m Q := by
  refine w_aload_n rfl rfl ?_
  refine w_aload_n rfl rfl ?_
  refine x_gfI rfl s_428 rfl (kk := 27) rfl rfl ?_
  refine w_pfI rfl s_428 rfl (w_EM (by decide)) rfl (kk := 68) rfl ?_
  refine w_aload_n rfl rfl ?_
  refine w_aload_n rfl rfl ?_
  refine w_callV (t' := 0) [] [(2, 428)] rfl s_428 rfl rfl ?_
  refine w_C.more (Q := fun r1 m1 => _) h (fun r1 m1 h => ?_)
  replace h := id h
  refine w_ifeq rfl (w_ite h (fun h => ?_) (fun h => ?_))
  · refine w_aload_n rfl rfl ?_
    refine x_gfI rfl s_428 rfl (kk := 28) rfl rfl ?_
    refine w_pfI rfl s_428 rfl (w_EM (by decide)) rfl (kk := 69) rfl ?_
    refine w_aload_n rfl rfl ?_
    refine w_iconst rfl (by decide) ?_
    refine w_pfI rfl s_428 rfl (w_EM (by decide)) rfl (kk := 70) rfl ?_
    refine w_aload_n rfl rfl ?_
    refine w_iconst rfl (by decide) ?_
    refine w_pfI rfl s_428 rfl (w_EM (by decide)) rfl (kk := 71) rfl ?_
    refine w_aload_n rfl rfl ?_
    refine w_callV (t' := 0) [] [] rfl s_428 rfl rfl ?_
    refine w_C.more (Q := fun r2 m2 => _) h (fun r2 m2 h => ?_)
    replace h := id h
    refine w_ifne rfl (w_ite h (fun h => ?_) (fun h => ?_))
    · refine w_aload_n rfl rfl ?_
      refine w_iconst rfl (by decide) ?_
      refine w_pfI rfl s_428 rfl (w_EM (by decide)) rfl (kk := 84) rfl ?_
      refine w_bipush rfl (by decide) ?_
      refine w_aload_n rfl rfl ?_
      refine x_gfI rfl s_428 rfl (kk := 27) rfl (w_up_nb (by decide)) ?_
      refine w_isub rfl ?_
      exact w_iret rfl rfl h
    · refine w_iconst rfl (by decide) ?_
      refine w_istore_n (lv' := [some (2, 428), none, some (0, 0)]) rfl rfl rfl ?_
      exact w_W.less h (w_sub [true, false, true] rfl)
  · refine w_iconst rfl (by decide) ?_
    refine w_goto rfl ?_
    refine w_pfI rfl s_428 rfl (w_EM (by decide)) rfl (kk := 69) rfl ?_
    refine w_aload_n rfl rfl ?_
    refine w_iconst rfl (by decide) ?_
    refine w_pfI rfl s_428 rfl (w_EM (by decide)) rfl (kk := 70) rfl ?_
    refine w_aload_n rfl rfl ?_
    refine w_iconst rfl (by decide) ?_
    refine w_pfI rfl s_428 rfl (w_EM (by decide)) rfl (kk := 71) rfl ?_
    refine w_aload_n rfl rfl ?_
    refine w_callV (t' := 0) [] [] rfl s_428 rfl rfl ?_
    refine w_C.more (Q := fun r3 m3 => _) h (fun r3 m3 h => ?_)
    replace h := id h
    refine w_ifne rfl (w_ite h (fun h => ?_) (fun h => ?_))
    · refine w_aload_n rfl rfl ?_
      refine w_iconst rfl (by decide) ?_
      refine w_pfI rfl s_428 rfl (w_EM (by decide)) rfl (kk := 84) rfl ?_
      refine w_bipush rfl (by decide) ?_
      refine w_aload_n rfl rfl ?_
      refine x_gfI rfl s_428 rfl (kk := 27) rfl (w_up_nb (by decide)) ?_
      refine w_isub rfl ?_
      exact w_iret rfl rfl h
    · refine w_iconst rfl (by decide) ?_
      refine w_istore_n (lv' := [some (2, 428), none, some (0, 0)]) rfl rfl rfl ?_
      exact w_W.less h (w_sub [true, false, true] rfl)
theorem xr_m_load_232 {d : Nat} {l2 : Int} {m : w_M} {Q : Int → w_M → Prop} (h : if l2 < 200 then (((0 : Int) ≤ l2 ∧ l2 < 200) ∧ (((0 : Int) ≤ l2 ∧ l2 < 200) ∧ (xp_m_load_232 d (w_32 (l2 + 1)) (w_up (w_up m 461 l2 0) 462 l2 0) Q))) else (xc_m_nameAll d (m 428 64) m (fun r1 m1 => xp_m_load_269 d 0 m1 Q))) : xp_m_load_232 d l2 m Q := by
  refine w_iload_n rfl rfl ?_
  refine w_sipush rfl (by decide) ?_
  refine w_icge rfl (w_ite h (fun h => ?_) (fun h => ?_))
  · refine w_aload_n rfl rfl ?_
    refine w_gfC (c := 461) rfl s_428 rfl rfl ?_
    refine w_iload_n rfl rfl ?_
    refine w_iconst rfl (by decide) ?_
    refine w_zast rfl s_461 (w_EM (by decide)) (n := 200) rfl h.1 (by decide) ?_
    replace h := h.2
    refine w_aload_n rfl rfl ?_
    refine w_gfC (c := 462) rfl s_428 rfl rfl ?_
    refine w_iload_n rfl rfl ?_
    refine w_iconst rfl (by decide) ?_
    refine w_zast rfl s_462 (w_EM (by decide)) (n := 200) rfl h.1 (by decide) ?_
    replace h := h.2
    refine w_iinc (lv' := [some (2, 428), none, some (0, w_32 (l2 + 1))]) rfl rfl rfl rfl ?_
    refine w_goto rfl ?_
    exact w_W.less h (w_sub [true, false, true] rfl)
  · refine w_aload_n rfl rfl ?_
    refine w_aload_n rfl rfl ?_
    refine x_gfI rfl s_428 rfl (kk := 64) rfl rfl ?_
    refine w_callV (t' := 3) [(0, m 428 64)] [] rfl s_428 rfl rfl ?_
    refine w_C.more (Q := fun r1 m1 => _) h (fun r1 m1 h => ?_)
    replace h := id h
    refine w_iconst rfl (by decide) ?_
    refine w_istore_n (lv' := [some (2, 428), none, some (0, 0)]) rfl rfl rfl ?_
    exact w_W.less h (w_sub [true, false, true] rfl)
theorem xr_m_load_269 {d : Nat} {l2 : Int} {m : w_M} {Q : Int → w_M → Prop} (h : if l2 < (m 428 60) then (((0 : Int) ≤ l2 ∧ l2 < 200) ∧ (if (m 451 l2) = 0 then (xp_m_load_269 d (w_32 (l2 + 1)) m Q) else (((0 : Int) ≤ l2 ∧ l2 < 200) ∧ (xc_m_nameAll d (m 455 l2) m (fun r1 m1 => xp_m_load_269 d (w_32 (l2 + 1)) m1 Q))))) else (Q (m 428 84) (w_up m 428 6 1))) : xp_m_load_269 d l2 m Q := by
  refine w_iload_n rfl rfl ?_
  refine w_aload_n rfl rfl ?_
  refine x_gfI rfl s_428 rfl (kk := 60) rfl rfl ?_
  refine w_icge rfl (w_ite h (fun h => ?_) (fun h => ?_))
  · refine w_aload_n rfl rfl ?_
    refine w_gfC (c := 451) rfl s_428 rfl rfl ?_
    refine w_iload_n rfl rfl ?_
    refine w_bald rfl s_451 (n := 200) rfl h.1 ?_
    replace h := h.2
    refine w_ifeq rfl (w_ite h (fun h => ?_) (fun h => ?_))
    · refine w_iinc (lv' := [some (2, 428), none, some (0, w_32 (l2 + 1))]) rfl rfl rfl rfl ?_
      refine w_goto rfl ?_
      exact w_W.less h (w_sub [true, false, true] rfl)
    · refine w_aload_n rfl rfl ?_
      refine w_aload_n rfl rfl ?_
      refine w_gfC (c := 455) rfl s_428 rfl rfl ?_
      refine w_iload_n rfl rfl ?_
      refine w_iald rfl s_455 (n := 200) rfl h.1 ?_
      replace h := h.2
      refine w_callV (t' := 3) [(0, m 455 l2)] [] rfl s_428 rfl rfl ?_
      refine w_C.more (Q := fun r1 m1 => _) h (fun r1 m1 h => ?_)
      replace h := id h
      refine w_iinc (lv' := [some (2, 428), none, some (0, w_32 (l2 + 1))]) rfl rfl rfl rfl ?_
      refine w_goto rfl ?_
      exact w_W.less h (w_sub [true, false, true] rfl)
  · refine w_aload_n rfl rfl ?_
    refine w_iconst rfl (by decide) ?_
    refine w_pfZ rfl s_428 rfl (w_EM (by decide)) rfl (kk := 6) rfl (by decide) ?_
    refine w_aload_n rfl rfl ?_
    refine x_gfI rfl s_428 rfl (kk := 84) rfl (w_up_nb (by decide)) ?_
    exact w_iret rfl rfl h
