/-! ===== regions (printed by program): wr_.* ===== -/
set_option maxRecDepth 100000
theorem xr_wr_adler {d : Nat} {l0 l1 l2 : Int} {m : w_M} {Q : Int → w_M → Prop} (h : xp_wr_adler_12 d l0 l1 l2 1 0 (max 0 l1) m Q) : xc_wr_adler (d + 1) l0 l1 l2 m Q := by
  refine w_enter (q := 3) (lv := [some (2, l0), some (0, l1), some (0, l2), none, none, none]) rfl rfl rfl ?_
  refine w_iconst rfl (by decide) ?_
  refine w_istore_n (lv' := [some (2, l0), some (0, l1), some (0, l2), some (0, 1), none, none]) rfl rfl rfl ?_
  refine w_iconst rfl (by decide) ?_
  refine w_istore (lv' := [some (2, l0), some (0, l1), some (0, l2), some (0, 1), some (0, 0), none]) rfl rfl rfl ?_
  refine w_iconst rfl (by decide) ?_
  refine w_iload_n rfl rfl ?_
  refine w_max rfl rfl ?_
  refine w_istore (lv' := [some (2, l0), some (0, l1), some (0, l2), some (0, 1), some (0, 0), some (0, max 0 l1)]) rfl rfl rfl ?_
  exact w_W.less h (w_sub [true, true, true, true, true, true] rfl)
theorem xr_wr_adler_12 {d : Nat} {l0 l1 l2 l3 l4 l5 : Int} {m : w_M} {Q : Int → w_M → Prop} (h : if l5 < (w_32 (l1 + l2)) then (w_isR l0 ∧ (if l5 < (w_ln l0) then (w_isA 1 l0 ∧ ((0 : Int) ≤ l5 ∧ l5 < w_ln l0) ∧ (xp_wr_adler_12 d l0 l1 l2 (Int.tmod (w_32 (l3 + ((m l0 l5) % 256))) 65521) (Int.tmod (w_32 (l4 + (Int.tmod (w_32 (l3 + ((m l0 l5) % 256))) 65521))) 65521) (w_32 (l5 + 1)) m Q)) else (Q (w_or (w_32 (l4 * 65536)) l3) m))) else (Q (w_or (w_32 (l4 * 65536)) l3) m)) : xp_wr_adler_12 d l0 l1 l2 l3 l4 l5 m Q := by
  refine w_iload rfl rfl ?_
  refine w_iload_n rfl rfl ?_
  refine w_iload_n rfl rfl ?_
  refine w_iadd rfl ?_
  refine w_icge rfl (w_ite h (fun h => ?_) (fun h => ?_))
  · refine w_iload rfl rfl ?_
    refine w_aload_n rfl rfl ?_
    refine x_len rfl h.1 ?_
    replace h := h.2
    refine w_icge rfl (w_ite h (fun h => ?_) (fun h => ?_))
    · refine w_iload_n rfl rfl ?_
      refine w_aload_n rfl rfl ?_
      refine w_iload rfl rfl ?_
      refine x_bald rfl h.1 h.2.1 ?_
      replace h := h.2.2
      refine w_sipush rfl (by decide) ?_
      refine w_iandm 8 (c := 256) rfl (by decide) rfl rfl ?_
      refine w_iadd rfl ?_
      refine w_ldc (a := 65521) rfl (by decide +kernel) (by decide) ?_
      refine w_iremk rfl (by decide) ?_
      refine w_istore_n (lv' := [some (2, l0), some (0, l1), some (0, l2), some (0, Int.tmod (w_32 (l3 + ((m l0 l5) % 256))) 65521), some (0, l4), some (0, l5)]) rfl rfl rfl ?_
      refine w_iload rfl rfl ?_
      refine w_iload_n rfl rfl ?_
      refine w_iadd rfl ?_
      refine w_ldc (a := 65521) rfl (by decide +kernel) (by decide) ?_
      refine w_iremk rfl (by decide) ?_
      refine w_istore (lv' := [some (2, l0), some (0, l1), some (0, l2), some (0, Int.tmod (w_32 (l3 + ((m l0 l5) % 256))) 65521), some (0, Int.tmod (w_32 (l4 + (Int.tmod (w_32 (l3 + ((m l0 l5) % 256))) 65521))) 65521), some (0, l5)]) rfl rfl rfl ?_
      refine w_iinc (lv' := [some (2, l0), some (0, l1), some (0, l2), some (0, Int.tmod (w_32 (l3 + ((m l0 l5) % 256))) 65521), some (0, Int.tmod (w_32 (l4 + (Int.tmod (w_32 (l3 + ((m l0 l5) % 256))) 65521))) 65521), some (0, w_32 (l5 + 1))]) rfl rfl rfl rfl ?_
      refine w_goto rfl ?_
      exact w_W.less h (w_sub [true, true, true, true, true, true] rfl)
    · refine w_iload rfl rfl ?_
      refine w_bipush rfl (by decide) ?_
      refine w_ishlk (c := 65536) rfl (by decide) (by decide) rfl ?_
      refine w_iload_n rfl rfl ?_
      refine w_ior rfl ?_
      exact w_iret rfl rfl h
  · refine w_iload rfl rfl ?_
    refine w_bipush rfl (by decide) ?_
    refine w_ishlk (c := 65536) rfl (by decide) (by decide) rfl ?_
    refine w_iload_n rfl rfl ?_
    refine w_ior rfl ?_
    exact w_iret rfl rfl h
theorem xr_wr_byteAt {d : Nat} {l1 : Int} {m : w_M} {Q : Int → w_M → Prop} (h : if l1 < 0 then (Q (-1) m) else (if l1 < (m 418 3) then (if l1 < 30000 then (((0 : Int) ≤ l1 ∧ l1 < 30000) ∧ (Q ((m 419 l1) % 256) m)) else (Q (-1) m)) else (Q (-1) m))) : xc_wr_byteAt (d + 1) l1 m Q := by
  refine w_enter (q := 0) (lv := [some (2, 418), some (0, l1)]) rfl rfl rfl ?_
  refine w_iload_n rfl rfl ?_
  refine w_iflt rfl (w_ite h (fun h => ?_) (fun h => ?_))
  · refine w_iconst rfl (by decide) ?_
    exact w_iret rfl rfl h
  · refine w_iload_n rfl rfl ?_
    refine w_aload_n rfl rfl ?_
    refine x_gfI rfl s_418 rfl (kk := 3) rfl rfl ?_
    refine w_icge rfl (w_ite h (fun h => ?_) (fun h => ?_))
    · refine w_iload_n rfl rfl ?_
      refine w_aload_n rfl rfl ?_
      refine w_gfC (c := 419) rfl s_418 rfl rfl ?_
      refine w_len rfl s_419 (by decide) (n := 30000) rfl (by decide) ?_
      refine w_icge rfl (w_ite h (fun h => ?_) (fun h => ?_))
      · refine w_aload_n rfl rfl ?_
        refine w_gfC (c := 419) rfl s_418 rfl rfl ?_
        refine w_iload_n rfl rfl ?_
        refine w_bald rfl s_419 (n := 30000) rfl h.1 ?_
        replace h := h.2
        refine w_sipush rfl (by decide) ?_
        refine w_iandm 8 (c := 256) rfl (by decide) rfl rfl ?_
        refine w_goto rfl ?_
        exact w_iret rfl rfl h
      · refine w_iconst rfl (by decide) ?_
        exact w_iret rfl rfl h
    · refine w_iconst rfl (by decide) ?_
      exact w_iret rfl rfl h
theorem xr_wr_clear {d : Nat} {m : w_M} {Q : Int → w_M → Prop} (h : Q 0 (w_up (w_up m 418 3 0) 418 4 0)) : xc_wr_clear (d + 1) m Q := by
  refine w_enter (q := 0) (lv := [some (2, 418)]) rfl rfl rfl ?_
  refine w_aload_n rfl rfl ?_
  refine w_iconst rfl (by decide) ?_
  refine w_pfI rfl s_418 rfl (w_EC (by decide)) rfl (kk := 3) rfl ?_
  refine w_aload_n rfl rfl ?_
  refine w_iconst rfl (by decide) ?_
  refine w_pfZ rfl s_418 rfl (w_EC (by decide)) rfl (kk := 4) rfl (by decide) ?_
  exact w_vret rfl rfl h
theorem xr_wr_endOfRow {d : Nat} {l1 l2 l3 : Int} {m : w_M} {Q : Int → w_M → Prop} (h : xp_wr_endOfRow_3 d l2 l3 l1 m Q) : xc_wr_endOfRow (d + 1) l1 l2 l3 m Q := by
  refine w_enter (q := 1) (lv := [some (2, 418), some (0, l1), some (0, l2), some (0, l3), none]) rfl rfl rfl ?_
  refine w_iload_n rfl rfl ?_
  refine w_istore (lv' := [some (2, 418), some (0, l1), some (0, l2), some (0, l3), some (0, l1)]) rfl rfl rfl ?_
  exact w_W.less h (w_sub [true, false, true, true, true] rfl)
theorem xr_wr_endOfRow_3 {d : Nat} {l2 l3 l4 : Int} {m : w_M} {Q : Int → w_M → Prop} (h : if l4 < l3 then (xc_wr_isListed d l4 l2 m (fun r1 m1 => if r1 = 0 then (Q l4 m1) else (xp_wr_endOfRow_3 d l2 l3 (w_32 (l4 + 1)) m1 Q))) else (Q l4 m)) : xp_wr_endOfRow_3 d l2 l3 l4 m Q := by
  refine w_iload rfl rfl ?_
  refine w_iload_n rfl rfl ?_
  refine w_icge rfl (w_ite h (fun h => ?_) (fun h => ?_))
  · refine w_aload_n rfl rfl ?_
    refine w_iload rfl rfl ?_
    refine w_iload_n rfl rfl ?_
    refine w_callV (t' := 0) [(0, l2), (0, l4)] [] rfl s_418 rfl rfl ?_
    refine w_C.more (Q := fun r1 m1 => _) h (fun r1 m1 h => ?_)
    replace h := id h
    refine w_ifeq rfl (w_ite h (fun h => ?_) (fun h => ?_))
    · refine w_iload rfl rfl ?_
      exact w_iret rfl rfl h
    · refine w_iinc (lv' := [some (2, 418), none, some (0, l2), some (0, l3), some (0, w_32 (l4 + 1))]) rfl rfl rfl rfl ?_
      refine w_goto rfl ?_
      exact w_W.less h (w_sub [true, false, true, true, true] rfl)
  · refine w_iload rfl rfl ?_
    exact w_iret rfl rfl h
theorem xr_wr_finish {d : Nat} {m : w_M} {Q : Int → w_M → Prop} (h : if (m 418 4) = 0 then (Q (m 418 3) m) else (xc_wr_clear d m (fun r1 m1 => Q (-1) m1))) : xc_wr_finish (d + 1) m Q := by
  refine w_enter (q := 0) (lv := [some (2, 418)]) rfl rfl rfl ?_
  refine w_aload_n rfl rfl ?_
  refine x_gfZ rfl s_418 rfl (kk := 4) rfl rfl ?_
  refine w_ifeq rfl (w_ite h (fun h => ?_) (fun h => ?_))
  · refine w_aload_n rfl rfl ?_
    refine x_gfI rfl s_418 rfl (kk := 3) rfl rfl ?_
    exact w_iret rfl rfl h
  · refine w_aload_n rfl rfl ?_
    refine w_callV (t' := 3) [] [] rfl s_418 rfl rfl ?_
    refine w_C.more (Q := fun r1 m1 => _) h (fun r1 m1 h => ?_)
    replace h := id h
    refine w_iconst rfl (by decide) ?_
    exact w_iret rfl rfl h
theorem xr_wr_forget {d : Nat} {l1 l2 l3 : Int} {m : w_M} {Q : Int → w_M → Prop} (h : xc_wr_hash d l1 l2 l3 m (fun r1 m1 => if r1 < 0 then (Q 0 m1) else (if r1 < 4096 then (((0 : Int) ≤ r1 ∧ r1 < 4096) ∧ (Q 0 (w_up m1 425 r1 (-1)))) else (Q 0 m1)))) : xc_wr_forget (d + 1) l1 l2 l3 m Q := by
  refine w_enter (q := 1) (lv := [some (2, 418), some (2, l1), some (0, l2), some (0, l3), none]) rfl rfl rfl ?_
  refine w_aload_n rfl rfl ?_
  refine w_iload_n rfl rfl ?_
  refine w_iload_n rfl rfl ?_
  refine w_callS (t' := 0) [(0, l3), (0, l2), (2, l1)] [] rfl (by decide) rfl rfl ?_
  refine w_C.more (Q := fun r1 m1 => _) h (fun r1 m1 h => ?_)
  replace h := id h
  refine w_istore (lv' := [some (2, 418), some (2, l1), some (0, l2), some (0, l3), some (0, r1)]) rfl rfl rfl ?_
  refine w_iload rfl rfl ?_
  refine w_iflt rfl (w_ite h (fun h => ?_) (fun h => ?_))
  · exact w_vret rfl rfl h
  · refine w_iload rfl rfl ?_
    refine w_aload_n rfl rfl ?_
    refine w_gfC (c := 425) rfl s_418 rfl rfl ?_
    refine w_len rfl s_425 (by decide) (n := 4096) rfl (by decide) ?_
    refine w_icge rfl (w_ite h (fun h => ?_) (fun h => ?_))
    · refine w_aload_n rfl rfl ?_
      refine w_gfC (c := 425) rfl s_418 rfl rfl ?_
      refine w_iload rfl rfl ?_
      refine w_iconst rfl (by decide) ?_
      refine w_iast rfl s_425 (w_EC (by decide)) (n := 4096) rfl h.1 ?_
      replace h := h.2
      exact w_vret rfl rfl h
    · exact w_vret rfl rfl h
theorem xr_wr_hash {d : Nat} {l0 l1 l2 : Int} {m : w_M} {Q : Int → w_M → Prop} (h : if l1 < 0 then (Q (-1) m) else (if (w_32 (l1 + 2)) < l2 then (w_isR l0 ∧ (if (w_32 (l1 + 2)) < (w_ln l0) then (w_isA 1 l0 ∧ ((0 : Int) ≤ l1 ∧ l1 < w_ln l0) ∧ (w_isA 1 l0 ∧ ((0 : Int) ≤ (w_32 (l1 + 1)) ∧ (w_32 (l1 + 1)) < w_ln l0) ∧ (w_isA 1 l0 ∧ ((0 : Int) ≤ (w_32 (l1 + 2)) ∧ (w_32 (l1 + 2)) < w_ln l0) ∧ (Q ((w_xor (w_xor (w_32 (((m l0 l1) % 256) * 64)) (w_32 (((m l0 (w_32 (l1 + 1))) % 256) * 8))) ((m l0 (w_32 (l1 + 2))) % 256)) % 4096) m)))) else (Q (-1) m))) else (Q (-1) m))) : xc_wr_hash (d + 1) l0 l1 l2 m Q := by
  refine w_enter (q := 0) (lv := [some (2, l0), some (0, l1), some (0, l2)]) rfl rfl rfl ?_
  refine w_iload_n rfl rfl ?_
  refine w_iflt rfl (w_ite h (fun h => ?_) (fun h => ?_))
  · refine w_iconst rfl (by decide) ?_
    exact w_iret rfl rfl h
  · refine w_iload_n rfl rfl ?_
    refine w_iconst rfl (by decide) ?_
    refine w_iadd rfl ?_
    refine w_iload_n rfl rfl ?_
    refine w_icge rfl (w_ite h (fun h => ?_) (fun h => ?_))
    · refine w_iload_n rfl rfl ?_
      refine w_iconst rfl (by decide) ?_
      refine w_iadd rfl ?_
      refine w_aload_n rfl rfl ?_
      refine x_len rfl h.1 ?_
      replace h := h.2
      refine w_iclt rfl (w_ite h (fun h => ?_) (fun h => ?_))
      · refine w_aload_n rfl rfl ?_
        refine w_iload_n rfl rfl ?_
        refine x_bald rfl h.1 h.2.1 ?_
        replace h := h.2.2
        refine w_sipush rfl (by decide) ?_
        refine w_iandm 8 (c := 256) rfl (by decide) rfl rfl ?_
        refine w_bipush rfl (by decide) ?_
        refine w_imul rfl ?_
        refine w_aload_n rfl rfl ?_
        refine w_iload_n rfl rfl ?_
        refine w_iconst rfl (by decide) ?_
        refine w_iadd rfl ?_
        refine x_bald rfl h.1 h.2.1 ?_
        replace h := h.2.2
        refine w_sipush rfl (by decide) ?_
        refine w_iandm 8 (c := 256) rfl (by decide) rfl rfl ?_
        refine w_bipush rfl (by decide) ?_
        refine w_imul rfl ?_
        refine w_ixor rfl ?_
        refine w_aload_n rfl rfl ?_
        refine w_iload_n rfl rfl ?_
        refine w_iconst rfl (by decide) ?_
        refine w_iadd rfl ?_
        refine x_bald rfl h.1 h.2.1 ?_
        replace h := h.2.2
        refine w_sipush rfl (by decide) ?_
        refine w_iandm 8 (c := 256) rfl (by decide) rfl rfl ?_
        refine w_ixor rfl ?_
        refine w_sipush rfl (by decide) ?_
        refine w_iandm 12 (c := 4096) rfl (by decide) rfl rfl ?_
        exact w_iret rfl rfl h
      · refine w_iconst rfl (by decide) ?_
        exact w_iret rfl rfl h
    · refine w_iconst rfl (by decide) ?_
      exact w_iret rfl rfl h
theorem xr_wr_isListed {d : Nat} {l1 l2 : Int} {m : w_M} {Q : Int → w_M → Prop} (h : if l1 = l2 then (Q 1 m) else (xc_ta_isChanged d l1 m (fun r1 m1 => if r1 = 0 then (if l1 < (m1 366 12) then (Q 0 m1) else (xc_ta_isFree d l1 m1 (fun r2 m2 => if r2 = 0 then (Q 0 m2) else (Q 1 m2)))) else (Q 1 m1)))) : xc_wr_isListed (d + 1) l1 l2 m Q := by
  refine w_enter (q := 0) (lv := [some (2, 418), some (0, l1), some (0, l2)]) rfl rfl rfl ?_
  refine w_iload_n rfl rfl ?_
  refine w_iload_n rfl rfl ?_
  refine w_iceq rfl (w_ite h (fun h => ?_) (fun h => ?_))
  · refine w_iconst rfl (by decide) ?_
    refine w_goto rfl ?_
    exact w_zret rfl rfl (by decide) h
  · refine w_aload_n rfl rfl ?_
    refine w_gfC (c := 366) rfl s_418 rfl rfl ?_
    refine w_iload_n rfl rfl ?_
    refine w_callV (t' := 0) [(0, l1)] [] rfl s_366 rfl rfl ?_
    refine w_C.more (Q := fun r1 m1 => _) h (fun r1 m1 h => ?_)
    replace h := id h
    refine w_ifne rfl (w_ite h (fun h => ?_) (fun h => ?_))
    · refine w_iload_n rfl rfl ?_
      refine w_aload_n rfl rfl ?_
      refine w_gfC (c := 366) rfl s_418 rfl rfl ?_
      refine x_gfI rfl s_366 rfl (kk := 12) rfl rfl ?_
      refine w_iclt rfl (w_ite h (fun h => ?_) (fun h => ?_))
      · refine w_iconst rfl (by decide) ?_
        exact w_zret rfl rfl (by decide) h
      · refine w_aload_n rfl rfl ?_
        refine w_gfC (c := 366) rfl s_418 rfl rfl ?_
        refine w_iload_n rfl rfl ?_
        refine w_callV (t' := 0) [(0, l1)] [] rfl s_366 rfl rfl ?_
        refine w_C.more (Q := fun r2 m2 => _) h (fun r2 m2 h => ?_)
        replace h := id h
        refine w_ifeq rfl (w_ite h (fun h => ?_) (fun h => ?_))
        · refine w_iconst rfl (by decide) ?_
          exact w_zret rfl rfl (by decide) h
        · refine w_iconst rfl (by decide) ?_
          refine w_goto rfl ?_
          exact w_zret rfl rfl (by decide) h
    · refine w_iconst rfl (by decide) ?_
      refine w_goto rfl ?_
      exact w_zret rfl rfl (by decide) h
theorem xr_wr_layRow {d : Nat} {l1 l2 l3 : Int} {m : w_M} {Q : Int → w_M → Prop} (h : if l2 = l3 then (xp_wr_layRow_21 d l1 l2 1 m Q) else (xc_ta_isChanged d l2 m (fun r1 m1 => if r1 = 0 then (xp_wr_layRow_21 d l1 l2 0 m1 Q) else (xp_wr_layRow_21 d l1 l2 1 m1 Q)))) : xc_wr_layRow (d + 1) l1 l2 l3 m Q := by
  refine w_enter (q := 3) (lv := [some (2, 418), some (0, l1), some (0, l2), some (0, l3), none, none, none]) rfl rfl rfl ?_
  refine w_iload_n rfl rfl ?_
  refine w_iload_n rfl rfl ?_
  refine w_iceq rfl (w_ite h (fun h => ?_) (fun h => ?_))
  · refine w_iconst rfl (by decide) ?_
    refine w_goto rfl ?_
    exact w_W.less h (w_sub [true, true, true, false, false, false, false] rfl)
  · refine w_aload_n rfl rfl ?_
    refine w_gfC (c := 366) rfl s_418 rfl rfl ?_
    refine w_iload_n rfl rfl ?_
    refine w_callV (t' := 0) [(0, l2)] [] rfl s_366 rfl rfl ?_
    refine w_C.more (Q := fun r1 m1 => _) h (fun r1 m1 h => ?_)
    replace h := id h
    refine w_ifeq rfl (w_ite h (fun h => ?_) (fun h => ?_))
    · refine w_iconst rfl (by decide) ?_
      exact w_W.less h (w_sub [true, true, true, false, false, false, false] rfl)
    · refine w_iconst rfl (by decide) ?_
      refine w_goto rfl ?_
      exact w_W.less h (w_sub [true, true, true, false, false, false, false] rfl)
theorem xr_wr_layRow_21 {d : Nat} {l1 l2 s0 : Int} {m : w_M} {Q : Int → w_M → Prop} (h : if l1 < 0 then (Q l1 m) else (if 1400 < (w_32 (l1 + 7)) then (Q l1 m) else (if l2 < 0 then (Q l1 m) else (if l2 < 200 then (if s0 = 0 then (xp_wr_layRow_69 d l1 l2 s0 0 m Q) else (((0 : Int) ≤ l2 ∧ l2 < 200) ∧ (xp_wr_layRow_69 d l1 l2 s0 (m 422 l2) m Q))) else (Q l1 m))))) : xp_wr_layRow_21 d l1 l2 s0 m Q := by
  refine w_istore (lv' := [some (2, 418), some (0, l1), some (0, l2), none, some (0, s0), none, none]) rfl rfl rfl ?_
  refine w_iload_n rfl rfl ?_
  refine w_iflt rfl (w_ite h (fun h => ?_) (fun h => ?_))
  · refine w_iload_n rfl rfl ?_
    exact w_iret rfl rfl h
  · refine w_iload_n rfl rfl ?_
    refine w_bipush rfl (by decide) ?_
    refine w_iadd rfl ?_
    refine w_aload_n rfl rfl ?_
    refine w_gfC (c := 423) rfl s_418 rfl rfl ?_
    refine w_len rfl s_423 (by decide) (n := 1400) rfl (by decide) ?_
    refine w_icgt rfl (w_ite h (fun h => ?_) (fun h => ?_))
    · refine w_iload_n rfl rfl ?_
      exact w_iret rfl rfl h
    · refine w_iload_n rfl rfl ?_
      refine w_iflt rfl (w_ite h (fun h => ?_) (fun h => ?_))
      · refine w_iload_n rfl rfl ?_
        exact w_iret rfl rfl h
      · refine w_iload_n rfl rfl ?_
        refine w_aload_n rfl rfl ?_
        refine w_gfC (c := 422) rfl s_418 rfl rfl ?_
        refine w_len rfl s_422 (by decide) (n := 200) rfl (by decide) ?_
        refine w_iclt rfl (w_ite h (fun h => ?_) (fun h => ?_))
        · refine w_iload rfl rfl ?_
          refine w_ifeq rfl (w_ite h (fun h => ?_) (fun h => ?_))
          · refine w_iconst rfl (by decide) ?_
            exact w_W.less h (w_sub [true, true, true, false, true, false, false] rfl)
          · refine w_aload_n rfl rfl ?_
            refine w_gfC (c := 422) rfl s_418 rfl rfl ?_
            refine w_iload_n rfl rfl ?_
            refine w_iald rfl s_422 (n := 200) rfl h.1 ?_
            replace h := h.2
            refine w_goto rfl ?_
            exact w_W.less h (w_sub [true, true, true, false, true, false, false] rfl)
        · refine w_iload_n rfl rfl ?_
          exact w_iret rfl rfl h
theorem xr_wr_layRow_69 {d : Nat} {l1 l2 l4 s0 : Int} {m : w_M} {Q : Int → w_M → Prop} (h : if l4 = 0 then (if l4 = 0 then (xp_wr_layRow_106 d l1 s0 65535 l1 0 m Q) else (xp_wr_layRow_106 d l1 s0 65535 l1 1 m Q)) else (xc_ta_generationOf d l2 m (fun r1 m1 => if l4 = 0 then (xp_wr_layRow_106 d l1 s0 r1 l1 0 m1 Q) else (xp_wr_layRow_106 d l1 s0 r1 l1 1 m1 Q)))) : xp_wr_layRow_69 d l1 l2 l4 s0 m Q := by
  refine w_istore (lv' := [some (2, 418), some (0, l1), some (0, l2), none, some (0, l4), some (0, s0), none]) rfl rfl rfl ?_
  refine w_iload rfl rfl ?_
  refine w_ifeq rfl (w_ite h (fun h => ?_) (fun h => ?_))
  · refine w_ldc (a := 65535) rfl (by decide +kernel) (by decide) ?_
    refine w_istore (lv' := [some (2, 418), some (0, l1), some (0, l2), none, some (0, l4), some (0, s0), some (0, 65535)]) rfl rfl rfl ?_
    refine w_aload_n rfl rfl ?_
    refine w_gfC (c := 423) rfl s_418 rfl rfl ?_
    refine w_iload_n rfl rfl ?_
    refine w_iload rfl rfl ?_
    refine w_ifeq rfl (w_ite h (fun h => ?_) (fun h => ?_))
    · refine w_iconst rfl (by decide) ?_
      exact w_W.less h (w_sub [true, true, false, false, false, true, true] rfl)
    · refine w_iconst rfl (by decide) ?_
      refine w_goto rfl ?_
      exact w_W.less h (w_sub [true, true, false, false, false, true, true] rfl)
  · refine w_aload_n rfl rfl ?_
    refine w_gfC (c := 366) rfl s_418 rfl rfl ?_
    refine w_iload_n rfl rfl ?_
    refine w_callV (t' := 0) [(0, l2)] [] rfl s_366 rfl rfl ?_
    refine w_C.more (Q := fun r1 m1 => _) h (fun r1 m1 h => ?_)
    replace h := id h
    refine w_goto rfl ?_
    refine w_istore (lv' := [some (2, 418), some (0, l1), some (0, l2), none, some (0, l4), some (0, s0), some (0, r1)]) rfl rfl rfl ?_
    refine w_aload_n rfl rfl ?_
    refine w_gfC (c := 423) rfl s_418 rfl rfl ?_
    refine w_iload_n rfl rfl ?_
    refine w_iload rfl rfl ?_
    refine w_ifeq rfl (w_ite h (fun h => ?_) (fun h => ?_))
    · refine w_iconst rfl (by decide) ?_
      exact w_W.less h (w_sub [true, true, false, false, false, true, true] rfl)
    · refine w_iconst rfl (by decide) ?_
      refine w_goto rfl ?_
      exact w_W.less h (w_sub [true, true, false, false, false, true, true] rfl)
theorem xr_wr_layRow_106 {d : Nat} {l1 l5 l6 s1 s2 : Int} {m : w_M} {Q : Int → w_M → Prop} (h : ((0 : Int) ≤ s1 ∧ s1 < 1400) ∧ (((0 : Int) ≤ (w_32 (l1 + 1)) ∧ (w_32 (l1 + 1)) < 1400) ∧ (((0 : Int) ≤ (w_32 (l1 + 2)) ∧ (w_32 (l1 + 2)) < 1400) ∧ (((0 : Int) ≤ (w_32 (l1 + 3)) ∧ (w_32 (l1 + 3)) < 1400) ∧ (((0 : Int) ≤ (w_32 (l1 + 4)) ∧ (w_32 (l1 + 4)) < 1400) ∧ (((0 : Int) ≤ (w_32 (l1 + 5)) ∧ (w_32 (l1 + 5)) < 1400) ∧ (((0 : Int) ≤ (w_32 (l1 + 6)) ∧ (w_32 (l1 + 6)) < 1400) ∧ (Q (w_32 (l1 + 7)) (w_up (w_up (w_up (w_up (w_up (w_up (w_up m 423 s1 (w_8 (w_8 s2))) 423 (w_32 (l1 + 1)) (w_8 (w_8 (l5 / 16777216)))) 423 (w_32 (l1 + 2)) (w_8 (w_8 (l5 / 65536)))) 423 (w_32 (l1 + 3)) (w_8 (w_8 (l5 / 256)))) 423 (w_32 (l1 + 4)) (w_8 (w_8 l5))) 423 (w_32 (l1 + 5)) (w_8 (w_8 (l6 / 256)))) 423 (w_32 (l1 + 6)) (w_8 (w_8 l6))))))))))) : xp_wr_layRow_106 d l1 l5 l6 s1 s2 m Q := by
  refine w_i2b rfl ?_
  refine w_bast rfl s_423 (w_EC (by decide)) (n := 1400) rfl h.1 ?_
  replace h := h.2
  refine w_aload_n rfl rfl ?_
  refine w_gfC (c := 423) rfl s_418 rfl rfl ?_
  refine w_iload_n rfl rfl ?_
  refine w_iconst rfl (by decide) ?_
  refine w_iadd rfl ?_
  refine w_iload rfl rfl ?_
  refine w_bipush rfl (by decide) ?_
  refine w_ishrk (c := 16777216) rfl (by decide) (by decide) rfl ?_
  refine w_i2b rfl ?_
  refine w_bast rfl s_423 (w_EC (by decide)) (n := 1400) rfl h.1 ?_
  replace h := h.2
  refine w_aload_n rfl rfl ?_
  refine w_gfC (c := 423) rfl s_418 rfl rfl ?_
  refine w_iload_n rfl rfl ?_
  refine w_iconst rfl (by decide) ?_
  refine w_iadd rfl ?_
  refine w_iload rfl rfl ?_
  refine w_bipush rfl (by decide) ?_
  refine w_ishrk (c := 65536) rfl (by decide) (by decide) rfl ?_
  refine w_i2b rfl ?_
  refine w_bast rfl s_423 (w_EC (by decide)) (n := 1400) rfl h.1 ?_
  replace h := h.2
  refine w_aload_n rfl rfl ?_
  refine w_gfC (c := 423) rfl s_418 rfl rfl ?_
  refine w_iload_n rfl rfl ?_
  refine w_iconst rfl (by decide) ?_
  refine w_iadd rfl ?_
  refine w_iload rfl rfl ?_
  refine w_bipush rfl (by decide) ?_
  refine w_ishrk (c := 256) rfl (by decide) (by decide) rfl ?_
  refine w_i2b rfl ?_
  refine w_bast rfl s_423 (w_EC (by decide)) (n := 1400) rfl h.1 ?_
  replace h := h.2
  refine w_aload_n rfl rfl ?_
  refine w_gfC (c := 423) rfl s_418 rfl rfl ?_
  refine w_iload_n rfl rfl ?_
  refine w_iconst rfl (by decide) ?_
  refine w_iadd rfl ?_
  refine w_iload rfl rfl ?_
  refine w_i2b rfl ?_
  refine w_bast rfl s_423 (w_EC (by decide)) (n := 1400) rfl h.1 ?_
  replace h := h.2
  refine w_aload_n rfl rfl ?_
  refine w_gfC (c := 423) rfl s_418 rfl rfl ?_
  refine w_iload_n rfl rfl ?_
  refine w_iconst rfl (by decide) ?_
  refine w_iadd rfl ?_
  refine w_iload rfl rfl ?_
  refine w_bipush rfl (by decide) ?_
  refine w_ishrk (c := 256) rfl (by decide) (by decide) rfl ?_
  refine w_i2b rfl ?_
  refine w_bast rfl s_423 (w_EC (by decide)) (n := 1400) rfl h.1 ?_
  replace h := h.2
  refine w_aload_n rfl rfl ?_
  refine w_gfC (c := 423) rfl s_418 rfl rfl ?_
  refine w_iload_n rfl rfl ?_
  refine w_bipush rfl (by decide) ?_
  refine w_iadd rfl ?_
  refine w_iload rfl rfl ?_
  refine w_i2b rfl ?_
  refine w_bast rfl s_423 (w_EC (by decide)) (n := 1400) rfl h.1 ?_
  replace h := h.2
  refine w_iload_n rfl rfl ?_
  refine w_bipush rfl (by decide) ?_
  refine w_iadd rfl ?_
  exact w_iret rfl rfl h
theorem xr_wr_longest {d : Nat} {l1 l2 l3 l4 : Int} {m : w_M} {Q : Int → w_M → Prop} (h : xc_wr_hash d l1 l3 l4 m (fun r1 m1 => if r1 < 0 then (xp_wr_longest_55 d l1 l2 l3 0 (min 258 (w_32 (l4 - l3))) (-1) 0 m1 Q) else (if r1 < 4096 then (((0 : Int) ≤ r1 ∧ r1 < 4096) ∧ (xp_wr_longest_55 d l1 l2 l3 0 (min 258 (w_32 (l4 - l3))) (m1 425 r1) 0 m1 Q)) else (xp_wr_longest_55 d l1 l2 l3 0 (min 258 (w_32 (l4 - l3))) (-1) 0 m1 Q)))) : xc_wr_longest (d + 1) l1 l2 l3 l4 m Q := by
  refine w_enter (q := 7) (lv := [some (2, 418), some (2, l1), some (0, l2), some (0, l3), some (0, l4), none, none, none, none, none, none, none]) rfl rfl rfl ?_
  refine w_aload_n rfl rfl ?_
  refine w_iload_n rfl rfl ?_
  refine w_iload rfl rfl ?_
  refine w_callS (t' := 0) [(0, l4), (0, l3), (2, l1)] [] rfl (by decide) rfl rfl ?_
  refine w_C.more (Q := fun r1 m1 => _) h (fun r1 m1 h => ?_)
  replace h := id h
  refine w_istore (lv' := [some (2, 418), some (2, l1), some (0, l2), some (0, l3), some (0, l4), some (0, r1), none, none, none, none, none, none]) rfl rfl rfl ?_
  refine w_iconst rfl (by decide) ?_
  refine w_istore (lv' := [some (2, 418), some (2, l1), some (0, l2), some (0, l3), some (0, l4), some (0, r1), some (0, 0), none, none, none, none, none]) rfl rfl rfl ?_
  refine w_sipush rfl (by decide) ?_
  refine w_iload rfl rfl ?_
  refine w_iload_n rfl rfl ?_
  refine w_isub rfl ?_
  refine w_min rfl rfl ?_
  refine w_istore (lv' := [some (2, 418), some (2, l1), some (0, l2), some (0, l3), some (0, l4), some (0, r1), some (0, 0), some (0, min 258 (w_32 (l4 - l3))), none, none, none, none]) rfl rfl rfl ?_
  refine w_iload rfl rfl ?_
  refine w_iflt rfl (w_ite h (fun h => ?_) (fun h => ?_))
  · refine w_iconst rfl (by decide) ?_
    refine w_goto rfl ?_
    refine w_istore (lv' := [some (2, 418), some (2, l1), some (0, l2), some (0, l3), some (0, l4), some (0, r1), some (0, 0), some (0, min 258 (w_32 (l4 - l3))), some (0, (-1)), none, none, none]) rfl rfl rfl ?_
    refine w_iconst rfl (by decide) ?_
    refine w_istore (lv' := [some (2, 418), some (2, l1), some (0, l2), some (0, l3), some (0, l4), some (0, r1), some (0, 0), some (0, min 258 (w_32 (l4 - l3))), some (0, (-1)), some (0, 0), none, none]) rfl rfl rfl ?_
    exact w_W.less h (w_sub [true, true, true, true, false, false, true, true, true, true, false, false] rfl)
  · refine w_iload rfl rfl ?_
    refine w_aload_n rfl rfl ?_
    refine w_gfC (c := 425) rfl s_418 rfl rfl ?_
    refine w_len rfl s_425 (by decide) (n := 4096) rfl (by decide) ?_
    refine w_iclt rfl (w_ite h (fun h => ?_) (fun h => ?_))
    · refine w_aload_n rfl rfl ?_
      refine w_gfC (c := 425) rfl s_418 rfl rfl ?_
      refine w_iload rfl rfl ?_
      refine w_iald rfl s_425 (n := 4096) rfl h.1 ?_
      replace h := h.2
      refine w_istore (lv' := [some (2, 418), some (2, l1), some (0, l2), some (0, l3), some (0, l4), some (0, r1), some (0, 0), some (0, min 258 (w_32 (l4 - l3))), some (0, m1 425 r1), none, none, none]) rfl rfl rfl ?_
      refine w_iconst rfl (by decide) ?_
      refine w_istore (lv' := [some (2, 418), some (2, l1), some (0, l2), some (0, l3), some (0, l4), some (0, r1), some (0, 0), some (0, min 258 (w_32 (l4 - l3))), some (0, m1 425 r1), some (0, 0), none, none]) rfl rfl rfl ?_
      exact w_W.less h (w_sub [true, true, true, true, false, false, true, true, true, true, false, false] rfl)
    · refine w_iconst rfl (by decide) ?_
      refine w_goto rfl ?_
      refine w_istore (lv' := [some (2, 418), some (2, l1), some (0, l2), some (0, l3), some (0, l4), some (0, r1), some (0, 0), some (0, min 258 (w_32 (l4 - l3))), some (0, (-1)), none, none, none]) rfl rfl rfl ?_
      refine w_iconst rfl (by decide) ?_
      refine w_istore (lv' := [some (2, 418), some (2, l1), some (0, l2), some (0, l3), some (0, l4), some (0, r1), some (0, 0), some (0, min 258 (w_32 (l4 - l3))), some (0, (-1)), some (0, 0), none, none]) rfl rfl rfl ?_
      exact w_W.less h (w_sub [true, true, true, true, false, false, true, true, true, true, false, false] rfl)
theorem xr_wr_longest_55 {d : Nat} {l1 l2 l3 l6 l7 l8 l9 : Int} {m : w_M} {Q : Int → w_M → Prop} (h : if 2000 < l9 then (Q l6 m) else (if l8 < 0 then (Q l6 m) else (if l8 < 8000 then (if (w_32 (l2 + l8)) < l3 then (if 2000 < (w_32 (l3 - (w_32 (l2 + l8)))) then (Q l6 m) else (if l6 < l7 then (xp_wr_longest_113 d l1 l2 l3 l6 l7 l8 l9 (w_32 (l2 + l8)) 0 m Q) else (Q l6 m))) else (Q l6 m)) else (Q l6 m)))) : xp_wr_longest_55 d l1 l2 l3 l6 l7 l8 l9 m Q := by
  refine w_iload rfl rfl ?_
  refine w_sipush rfl (by decide) ?_
  refine w_icgt rfl (w_ite h (fun h => ?_) (fun h => ?_))
  · refine w_iload rfl rfl ?_
    exact w_iret rfl rfl h
  · refine w_iload rfl rfl ?_
    refine w_iflt rfl (w_ite h (fun h => ?_) (fun h => ?_))
    · refine w_iload rfl rfl ?_
      exact w_iret rfl rfl h
    · refine w_iload rfl rfl ?_
      refine w_aload_n rfl rfl ?_
      refine w_gfC (c := 426) rfl s_418 rfl rfl ?_
      refine w_len rfl s_426 (by decide) (n := 8000) rfl (by decide) ?_
      refine w_icge rfl (w_ite h (fun h => ?_) (fun h => ?_))
      · refine w_iload_n rfl rfl ?_
        refine w_iload rfl rfl ?_
        refine w_iadd rfl ?_
        refine w_istore (lv' := [some (2, 418), some (2, l1), some (0, l2), some (0, l3), none, none, some (0, l6), some (0, l7), some (0, l8), some (0, l9), some (0, w_32 (l2 + l8)), none]) rfl rfl rfl ?_
        refine w_iload rfl rfl ?_
        refine w_iload_n rfl rfl ?_
        refine w_icge rfl (w_ite h (fun h => ?_) (fun h => ?_))
        · refine w_iload_n rfl rfl ?_
          refine w_iload rfl rfl ?_
          refine w_isub rfl ?_
          refine w_sipush rfl (by decide) ?_
          refine w_icgt rfl (w_ite h (fun h => ?_) (fun h => ?_))
          · refine w_iload rfl rfl ?_
            exact w_iret rfl rfl h
          · refine w_iload rfl rfl ?_
            refine w_iload rfl rfl ?_
            refine w_iclt rfl (w_ite h (fun h => ?_) (fun h => ?_))
            · refine w_iconst rfl (by decide) ?_
              refine w_istore (lv' := [some (2, 418), some (2, l1), some (0, l2), some (0, l3), none, none, some (0, l6), some (0, l7), some (0, l8), some (0, l9), some (0, w_32 (l2 + l8)), some (0, 0)]) rfl rfl rfl ?_
              exact w_W.less h (w_sub [true, true, true, true, false, false, true, true, true, true, true, true] rfl)
            · refine w_goto rfl ?_
              refine w_iload rfl rfl ?_
              exact w_iret rfl rfl h
        · refine w_iload rfl rfl ?_
          exact w_iret rfl rfl h
      · refine w_iload rfl rfl ?_
        exact w_iret rfl rfl h
theorem xr_wr_longest_113 {d : Nat} {l1 l2 l3 l6 l7 l8 l9 l10 l11 : Int} {m : w_M} {Q : Int → w_M → Prop} (h : w_isA 1 l1 ∧ ((0 : Int) ≤ (w_32 (l10 + l6)) ∧ (w_32 (l10 + l6)) < w_ln l1) ∧ (w_isA 1 l1 ∧ ((0 : Int) ≤ (w_32 (l3 + l6)) ∧ (w_32 (l3 + l6)) < w_ln l1) ∧ (if (m l1 (w_32 (l10 + l6))) = (m l1 (w_32 (l3 + l6))) then (if l11 < l7 then (w_isA 1 l1 ∧ ((0 : Int) ≤ (w_32 (l10 + l11)) ∧ (w_32 (l10 + l11)) < w_ln l1) ∧ (w_isA 1 l1 ∧ ((0 : Int) ≤ (w_32 (l3 + l11)) ∧ (w_32 (l3 + l11)) < w_ln l1) ∧ (if (m l1 (w_32 (l10 + l11))) = (m l1 (w_32 (l3 + l11))) then (xp_wr_longest_113 d l1 l2 l3 l6 l7 l8 l9 l10 (w_32 (l11 + 1)) m Q) else (xp_wr_longest_158 d l1 l2 l3 l6 l7 l8 l9 l10 l11 m Q)))) else (xp_wr_longest_158 d l1 l2 l3 l6 l7 l8 l9 l10 l11 m Q)) else (xp_wr_longest_158 d l1 l2 l3 l6 l7 l8 l9 l10 l11 m Q)))) : xp_wr_longest_113 d l1 l2 l3 l6 l7 l8 l9 l10 l11 m Q := by
  refine w_aload_n rfl rfl ?_
  refine w_iload rfl rfl ?_
  refine w_iload rfl rfl ?_
  refine w_iadd rfl ?_
  refine x_bald rfl h.1 h.2.1 ?_
  replace h := h.2.2
  refine w_aload_n rfl rfl ?_
  refine w_iload_n rfl rfl ?_
  refine w_iload rfl rfl ?_
  refine w_iadd rfl ?_
  refine x_bald rfl h.1 h.2.1 ?_
  replace h := h.2.2
  refine w_icne rfl (w_ite h (fun h => ?_) (fun h => ?_))
  · refine w_iload rfl rfl ?_
    refine w_iload rfl rfl ?_
    refine w_icge rfl (w_ite h (fun h => ?_) (fun h => ?_))
    · refine w_aload_n rfl rfl ?_
      refine w_iload rfl rfl ?_
      refine w_iload rfl rfl ?_
      refine w_iadd rfl ?_
      refine x_bald rfl h.1 h.2.1 ?_
      replace h := h.2.2
      refine w_aload_n rfl rfl ?_
      refine w_iload_n rfl rfl ?_
      refine w_iload rfl rfl ?_
      refine w_iadd rfl ?_
      refine x_bald rfl h.1 h.2.1 ?_
      replace h := h.2.2
      refine w_icne rfl (w_ite h (fun h => ?_) (fun h => ?_))
      · refine w_iinc (lv' := [some (2, 418), some (2, l1), some (0, l2), some (0, l3), none, none, some (0, l6), some (0, l7), some (0, l8), some (0, l9), some (0, l10), some (0, w_32 (l11 + 1))]) rfl rfl rfl rfl ?_
        refine w_goto rfl ?_
        exact w_W.less h (w_sub [true, true, true, true, false, false, true, true, true, true, true, true] rfl)
      · exact w_W.less h (w_sub [true, true, true, true, false, false, true, true, true, true, true, true] rfl)
    · exact w_W.less h (w_sub [true, true, true, true, false, false, true, true, true, true, true, true] rfl)
  · exact w_W.less h (w_sub [true, true, true, true, false, false, true, true, true, true, true, true] rfl)
theorem xr_wr_longest_158 {d : Nat} {l1 l2 l3 l6 l7 l8 l9 l10 l11 : Int} {m : w_M} {Q : Int → w_M → Prop} (h : if l6 < l11 then (((0 : Int) ≤ l8 ∧ l8 < 8000) ∧ (xp_wr_longest_55 d l1 l2 l3 l11 l7 ((w_up m 418 17 (w_32 (l3 - l10))) 426 l8) (w_32 (l9 + 1)) (w_up m 418 17 (w_32 (l3 - l10))) Q)) else (((0 : Int) ≤ l8 ∧ l8 < 8000) ∧ (xp_wr_longest_55 d l1 l2 l3 l6 l7 (m 426 l8) (w_32 (l9 + 1)) m Q))) : xp_wr_longest_158 d l1 l2 l3 l6 l7 l8 l9 l10 l11 m Q := by
  refine w_iload rfl rfl ?_
  refine w_iload rfl rfl ?_
  refine w_icle rfl (w_ite h (fun h => ?_) (fun h => ?_))
  · refine w_iload rfl rfl ?_
    refine w_istore (lv' := [some (2, 418), some (2, l1), some (0, l2), some (0, l3), none, none, some (0, l11), some (0, l7), some (0, l8), some (0, l9), some (0, l10), some (0, l11)]) rfl rfl rfl ?_
    refine w_aload_n rfl rfl ?_
    refine w_iload_n rfl rfl ?_
    refine w_iload rfl rfl ?_
    refine w_isub rfl ?_
    refine w_pfI rfl s_418 rfl (w_EC (by decide)) rfl (kk := 17) rfl ?_
    refine w_aload_n rfl rfl ?_
    refine w_gfC (c := 426) rfl s_418 rfl rfl ?_
    refine w_iload rfl rfl ?_
    refine w_iald rfl s_426 (n := 8000) rfl h.1 ?_
    replace h := h.2
    refine w_istore (lv' := [some (2, 418), some (2, l1), some (0, l2), some (0, l3), none, none, some (0, l11), some (0, l7), some (0, (w_up m 418 17 (w_32 (l3 - l10))) 426 l8), some (0, l9), some (0, l10), some (0, l11)]) rfl rfl rfl ?_
    refine w_iinc (lv' := [some (2, 418), some (2, l1), some (0, l2), some (0, l3), none, none, some (0, l11), some (0, l7), some (0, (w_up m 418 17 (w_32 (l3 - l10))) 426 l8), some (0, w_32 (l9 + 1)), some (0, l10), some (0, l11)]) rfl rfl rfl rfl ?_
    refine w_goto rfl ?_
    exact w_W.less h (w_sub [true, true, true, true, false, false, true, true, true, true, false, false] rfl)
  · refine w_aload_n rfl rfl ?_
    refine w_gfC (c := 426) rfl s_418 rfl rfl ?_
    refine w_iload rfl rfl ?_
    refine w_iald rfl s_426 (n := 8000) rfl h.1 ?_
    replace h := h.2
    refine w_istore (lv' := [some (2, 418), some (2, l1), some (0, l2), some (0, l3), none, none, some (0, l6), some (0, l7), some (0, m 426 l8), some (0, l9), some (0, l10), some (0, l11)]) rfl rfl rfl ?_
    refine w_iinc (lv' := [some (2, 418), some (2, l1), some (0, l2), some (0, l3), none, none, some (0, l6), some (0, l7), some (0, m 426 l8), some (0, w_32 (l9 + 1)), some (0, l10), some (0, l11)]) rfl rfl rfl rfl ?_
    refine w_goto rfl ?_
    exact w_W.less h (w_sub [true, true, true, true, false, false, true, true, true, true, false, false] rfl)
theorem xr_wr_meet {d : Nat} {l1 : Int} {m : w_M} {Q : Int → w_M → Prop} (h : if 0 < l1 then (if l1 < 200 then (((0 : Int) ≤ l1 ∧ l1 < 200) ∧ (if (m 420 l1) = 0 then (if (m 418 9) < 0 then (((0 : Int) ≤ l1 ∧ l1 < 200) ∧ (Q (m 420 l1) m)) else (if (m 418 9) < 200 then (((0 : Int) ≤ (m 418 9) ∧ (m 418 9) < 200) ∧ (((0 : Int) ≤ l1 ∧ l1 < 200) ∧ (((0 : Int) ≤ l1 ∧ l1 < 200) ∧ (Q ((w_up (w_up (w_up m 421 (m 418 9) l1) 418 9 (w_32 ((m 418 9) + 1))) 420 l1 (w_32 ((m 418 9) + 1))) 420 l1) (w_up (w_up (w_up m 421 (m 418 9) l1) 418 9 (w_32 ((m 418 9) + 1))) 420 l1 (w_32 ((m 418 9) + 1))))))) else (((0 : Int) ≤ l1 ∧ l1 < 200) ∧ (Q (m 420 l1) m)))) else (((0 : Int) ≤ l1 ∧ l1 < 200) ∧ (Q (m 420 l1) m)))) else (Q 0 m)) else (Q 0 m)) : xc_wr_meet (d + 1) l1 m Q := by
  refine w_enter (q := 0) (lv := [some (2, 418), some (0, l1)]) rfl rfl rfl ?_
  refine w_iload_n rfl rfl ?_
  refine w_ifle rfl (w_ite h (fun h => ?_) (fun h => ?_))
  · refine w_iload_n rfl rfl ?_
    refine w_aload_n rfl rfl ?_
    refine w_gfC (c := 420) rfl s_418 rfl rfl ?_
    refine w_len rfl s_420 (by decide) (n := 200) rfl (by decide) ?_
    refine w_iclt rfl (w_ite h (fun h => ?_) (fun h => ?_))
    · refine w_aload_n rfl rfl ?_
      refine w_gfC (c := 420) rfl s_418 rfl rfl ?_
      refine w_iload_n rfl rfl ?_
      refine w_iald rfl s_420 (n := 200) rfl h.1 ?_
      replace h := h.2
      refine w_ifne rfl (w_ite h (fun h => ?_) (fun h => ?_))
      · refine w_aload_n rfl rfl ?_
        refine x_gfI rfl s_418 rfl (kk := 9) rfl rfl ?_
        refine w_iflt rfl (w_ite h (fun h => ?_) (fun h => ?_))
        · refine w_aload_n rfl rfl ?_
          refine w_gfC (c := 420) rfl s_418 rfl rfl ?_
          refine w_iload_n rfl rfl ?_
          refine w_iald rfl s_420 (n := 200) rfl h.1 ?_
          replace h := h.2
          exact w_iret rfl rfl h
        · refine w_aload_n rfl rfl ?_
          refine x_gfI rfl s_418 rfl (kk := 9) rfl rfl ?_
          refine w_aload_n rfl rfl ?_
          refine w_gfC (c := 421) rfl s_418 rfl rfl ?_
          refine w_len rfl s_421 (by decide) (n := 200) rfl (by decide) ?_
          refine w_icge rfl (w_ite h (fun h => ?_) (fun h => ?_))
          · refine w_aload_n rfl rfl ?_
            refine w_gfC (c := 421) rfl s_418 rfl rfl ?_
            refine w_aload_n rfl rfl ?_
            refine x_gfI rfl s_418 rfl (kk := 9) rfl rfl ?_
            refine w_iload_n rfl rfl ?_
            refine w_iast rfl s_421 (w_EC (by decide)) (n := 200) rfl h.1 ?_
            replace h := h.2
            refine w_aload_n rfl rfl ?_
            refine w_dup rfl (show (2 : Nat) ≠ 1 by decide) ?_
            refine x_gfI rfl s_418 rfl (kk := 9) rfl (w_up_ne (by decide)) ?_
            refine w_iconst rfl (by decide) ?_
            refine w_iadd rfl ?_
            refine w_pfI rfl s_418 rfl (w_EC (by decide)) rfl (kk := 9) rfl ?_
            refine w_aload_n rfl rfl ?_
            refine w_gfC (c := 420) rfl s_418 rfl rfl ?_
            refine w_iload_n rfl rfl ?_
            refine w_aload_n rfl rfl ?_
            refine x_gfI rfl s_418 rfl (kk := 9) rfl (w_up_eq) ?_
            refine w_iast rfl s_420 (w_EC (by decide)) (n := 200) rfl h.1 ?_
            replace h := h.2
            refine w_aload_n rfl rfl ?_
            refine w_gfC (c := 420) rfl s_418 rfl rfl ?_
            refine w_iload_n rfl rfl ?_
            refine w_iald rfl s_420 (n := 200) rfl h.1 ?_
            replace h := h.2
            exact w_iret rfl rfl h
          · refine w_aload_n rfl rfl ?_
            refine w_gfC (c := 420) rfl s_418 rfl rfl ?_
            refine w_iload_n rfl rfl ?_
            refine w_iald rfl s_420 (n := 200) rfl h.1 ?_
            replace h := h.2
            exact w_iret rfl rfl h
      · refine w_aload_n rfl rfl ?_
        refine w_gfC (c := 420) rfl s_418 rfl rfl ?_
        refine w_iload_n rfl rfl ?_
        refine w_iald rfl s_420 (n := 200) rfl h.1 ?_
        replace h := h.2
        exact w_iret rfl rfl h
    · refine w_iconst rfl (by decide) ?_
      exact w_iret rfl rfl h
  · refine w_iconst rfl (by decide) ?_
    exact w_iret rfl rfl h
theorem xr_wr_push {d : Nat} {l1 l2 : Int} {m : w_M} {Q : Int → w_M → Prop} (h : xp_wr_push_25 d (w_up (w_up m 418 13 (w_or (m 418 13) (w_shl l1 (m 418 14)))) 418 14 (w_32 ((m 418 14) + l2))) Q) : xc_wr_push (d + 1) l1 l2 m Q := by
  refine w_enter (q := 0) (lv := [some (2, 418), some (0, l1), some (0, l2)]) rfl rfl rfl ?_
  refine w_aload_n rfl rfl ?_
  refine w_dup rfl (show (2 : Nat) ≠ 1 by decide) ?_
  refine x_gfI rfl s_418 rfl (kk := 13) rfl rfl ?_
  refine w_iload_n rfl rfl ?_
  refine w_aload_n rfl rfl ?_
  refine x_gfI rfl s_418 rfl (kk := 14) rfl rfl ?_
  refine w_ishl rfl ?_
  refine w_ior rfl ?_
  refine w_pfI rfl s_418 rfl (w_EC (by decide)) rfl (kk := 13) rfl ?_
  refine w_aload_n rfl rfl ?_
  refine w_dup rfl (show (2 : Nat) ≠ 1 by decide) ?_
  refine x_gfI rfl s_418 rfl (kk := 14) rfl (w_up_nb (by decide)) ?_
  refine w_iload_n rfl rfl ?_
  refine w_iadd rfl ?_
  refine w_pfI rfl s_418 rfl (w_EC (by decide)) rfl (kk := 14) rfl ?_
  exact w_W.less h (w_sub [true, false, false] rfl)
theorem xr_wr_push_25 {d : Nat} {m : w_M} {Q : Int → w_M → Prop} (h : if (m 418 14) < 8 then (Q 0 m) else (if (m 418 12) < 0 then (xp_wr_push_25 d (w_up (w_up m 418 13 (w_ushr (m 418 13) 8)) 418 14 (w_32 ((m 418 14) - 8))) Q) else (if (m 418 12) < 9216 then (((0 : Int) ≤ (m 418 12) ∧ (m 418 12) < 9216) ∧ (xp_wr_push_25 d (w_up (w_up (w_up (w_up m 424 (m 418 12) (w_8 (w_8 (m 418 13)))) 418 12 (w_32 ((m 418 12) + 1))) 418 13 (w_ushr (m 418 13) 8)) 418 14 (w_32 ((m 418 14) - 8))) Q)) else (xp_wr_push_25 d (w_up (w_up m 418 13 (w_ushr (m 418 13) 8)) 418 14 (w_32 ((m 418 14) - 8))) Q)))) : xp_wr_push_25 d m Q := by
  refine w_aload_n rfl rfl ?_
  refine x_gfI rfl s_418 rfl (kk := 14) rfl rfl ?_
  refine w_bipush rfl (by decide) ?_
  refine w_iclt rfl (w_ite h (fun h => ?_) (fun h => ?_))
  · exact w_vret rfl rfl h
  · refine w_aload_n rfl rfl ?_
    refine x_gfI rfl s_418 rfl (kk := 12) rfl rfl ?_
    refine w_iflt rfl (w_ite h (fun h => ?_) (fun h => ?_))
    · refine w_aload_n rfl rfl ?_
      refine w_dup rfl (show (2 : Nat) ≠ 1 by decide) ?_
      refine x_gfI rfl s_418 rfl (kk := 13) rfl rfl ?_
      refine w_bipush rfl (by decide) ?_
      refine w_iushr rfl ?_
      refine w_pfI rfl s_418 rfl (w_EC (by decide)) rfl (kk := 13) rfl ?_
      refine w_aload_n rfl rfl ?_
      refine w_dup rfl (show (2 : Nat) ≠ 1 by decide) ?_
      refine x_gfI rfl s_418 rfl (kk := 14) rfl (w_up_nb (by decide)) ?_
      refine w_bipush rfl (by decide) ?_
      refine w_isub rfl ?_
      refine w_pfI rfl s_418 rfl (w_EC (by decide)) rfl (kk := 14) rfl ?_
      refine w_goto rfl ?_
      exact w_W.less h (w_sub [true, false, false] rfl)
    · refine w_aload_n rfl rfl ?_
      refine x_gfI rfl s_418 rfl (kk := 12) rfl rfl ?_
      refine w_aload_n rfl rfl ?_
      refine w_gfC (c := 424) rfl s_418 rfl rfl ?_
      refine w_len rfl s_424 (by decide) (n := 9216) rfl (by decide) ?_
      refine w_icge rfl (w_ite h (fun h => ?_) (fun h => ?_))
      · refine w_aload_n rfl rfl ?_
        refine w_gfC (c := 424) rfl s_418 rfl rfl ?_
        refine w_aload_n rfl rfl ?_
        refine x_gfI rfl s_418 rfl (kk := 12) rfl rfl ?_
        refine w_aload_n rfl rfl ?_
        refine x_gfI rfl s_418 rfl (kk := 13) rfl rfl ?_
        refine w_i2b rfl ?_
        refine w_bast rfl s_424 (w_EC (by decide)) (n := 9216) rfl h.1 ?_
        replace h := h.2
        refine w_aload_n rfl rfl ?_
        refine w_dup rfl (show (2 : Nat) ≠ 1 by decide) ?_
        refine x_gfI rfl s_418 rfl (kk := 12) rfl (w_up_ne (by decide)) ?_
        refine w_iconst rfl (by decide) ?_
        refine w_iadd rfl ?_
        refine w_pfI rfl s_418 rfl (w_EC (by decide)) rfl (kk := 12) rfl ?_
        refine w_aload_n rfl rfl ?_
        refine w_dup rfl (show (2 : Nat) ≠ 1 by decide) ?_
        refine x_gfI rfl s_418 rfl (kk := 13) rfl ((w_up_nb (by decide)).trans (w_up_ne (by decide))) ?_
        refine w_bipush rfl (by decide) ?_
        refine w_iushr rfl ?_
        refine w_pfI rfl s_418 rfl (w_EC (by decide)) rfl (kk := 13) rfl ?_
        refine w_aload_n rfl rfl ?_
        refine w_dup rfl (show (2 : Nat) ≠ 1 by decide) ?_
        refine x_gfI rfl s_418 rfl (kk := 14) rfl ((w_up_nb (by decide)).trans ((w_up_nb (by decide)).trans (w_up_ne (by decide)))) ?_
        refine w_bipush rfl (by decide) ?_
        refine w_isub rfl ?_
        refine w_pfI rfl s_418 rfl (w_EC (by decide)) rfl (kk := 14) rfl ?_
        refine w_goto rfl ?_
        exact w_W.less h (w_sub [true, false, false] rfl)
      · refine w_aload_n rfl rfl ?_
        refine w_dup rfl (show (2 : Nat) ≠ 1 by decide) ?_
        refine x_gfI rfl s_418 rfl (kk := 13) rfl rfl ?_
        refine w_bipush rfl (by decide) ?_
        refine w_iushr rfl ?_
        refine w_pfI rfl s_418 rfl (w_EC (by decide)) rfl (kk := 13) rfl ?_
        refine w_aload_n rfl rfl ?_
        refine w_dup rfl (show (2 : Nat) ≠ 1 by decide) ?_
        refine x_gfI rfl s_418 rfl (kk := 14) rfl (w_up_nb (by decide)) ?_
        refine w_bipush rfl (by decide) ?_
        refine w_isub rfl ?_
        refine w_pfI rfl s_418 rfl (w_EC (by decide)) rfl (kk := 14) rfl ?_
        refine w_goto rfl ?_
        exact w_W.less h (w_sub [true, false, false] rfl)
theorem xr_wr_pushCode {d : Nat} {l1 l2 : Int} {m : w_M} {Q : Int → w_M → Prop} (h : xp_wr_pushCode_5 d l1 l2 0 0 m Q) : xc_wr_pushCode (d + 1) l1 l2 m Q := by
  refine w_enter (q := 2) (lv := [some (2, 418), some (0, l1), some (0, l2), none, none]) rfl rfl rfl ?_
  refine w_iconst rfl (by decide) ?_
  refine w_istore_n (lv' := [some (2, 418), some (0, l1), some (0, l2), some (0, 0), none]) rfl rfl rfl ?_
  refine w_iconst rfl (by decide) ?_
  refine w_istore (lv' := [some (2, 418), some (0, l1), some (0, l2), some (0, 0), some (0, 0)]) rfl rfl rfl ?_
  exact w_W.less h (w_sub [true, true, true, true, true] rfl)
theorem xr_wr_pushCode_5 {d : Nat} {l1 l2 l3 l4 : Int} {m : w_M} {Q : Int → w_M → Prop} (h : if l4 < l2 then (xp_wr_pushCode_5 d l1 l2 (w_or (w_32 (l3 * 2)) ((w_shr l1 l4) % 2)) (w_32 (l4 + 1)) m Q) else (xc_wr_push d l3 l2 m (fun r1 m1 => Q 0 m1))) : xp_wr_pushCode_5 d l1 l2 l3 l4 m Q := by
  refine w_iload rfl rfl ?_
  refine w_iload_n rfl rfl ?_
  refine w_icge rfl (w_ite h (fun h => ?_) (fun h => ?_))
  · refine w_iload_n rfl rfl ?_
    refine w_iconst rfl (by decide) ?_
    refine w_ishlk (c := 2) rfl (by decide) (by decide) rfl ?_
    refine w_iload_n rfl rfl ?_
    refine w_iload rfl rfl ?_
    refine w_ishr rfl ?_
    refine w_iconst rfl (by decide) ?_
    refine w_iandm 1 (c := 2) rfl (by decide) rfl rfl ?_
    refine w_ior rfl ?_
    refine w_istore_n (lv' := [some (2, 418), some (0, l1), some (0, l2), some (0, w_or (w_32 (l3 * 2)) ((w_shr l1 l4) % 2)), some (0, l4)]) rfl rfl rfl ?_
    refine w_iinc (lv' := [some (2, 418), some (0, l1), some (0, l2), some (0, w_or (w_32 (l3 * 2)) ((w_shr l1 l4) % 2)), some (0, w_32 (l4 + 1))]) rfl rfl rfl rfl ?_
    refine w_goto rfl ?_
    exact w_W.less h (w_sub [true, true, true, true, true] rfl)
  · refine w_aload_n rfl rfl ?_
    refine w_iload_n rfl rfl ?_
    refine w_iload_n rfl rfl ?_
    refine w_callV (t' := 3) [(0, l2), (0, l3)] [] rfl s_418 rfl rfl ?_
    refine w_C.more (Q := fun r1 m1 => _) h (fun r1 m1 h => ?_)
    replace h := id h
    exact w_vret rfl rfl h
theorem xr_wr_pushRow {d : Nat} {l1 : Int} {m : w_M} {Q : Int → w_M → Prop} (h : xp_wr_pushRow_7 d l1 (w_32 (29 - 1)) m Q) : xc_wr_pushRow (d + 1) l1 m Q := by
  refine w_enter (q := 2) (lv := [some (2, 418), some (0, l1), none, none]) rfl rfl rfl ?_
  refine w_getsR rfl ?_
  refine w_len rfl s_353 (by decide) (n := 29) rfl (by decide) ?_
  refine w_iconst rfl (by decide) ?_
  refine w_isub rfl ?_
  refine w_istore_n (lv' := [some (2, 418), some (0, l1), some (0, w_32 (29 - 1)), none]) rfl rfl rfl ?_
  exact w_W.less h (w_sub [true, true, true, false] rfl)
theorem xr_wr_pushRow_7 {d : Nat} {l1 l2 : Int} {m : w_M} {Q : Int → w_M → Prop} (h : if 0 < l2 then (((0 : Int) ≤ l2 ∧ l2 < 29) ∧ (if l1 < (m 353 l2) then (xp_wr_pushRow_7 d l1 (w_32 (l2 + (-1))) m Q) else (xc_wr_pushSymbol d (w_32 (257 + l2)) m (fun r1 m1 => ((0 : Int) ≤ l2 ∧ l2 < 29) ∧ (((0 : Int) ≤ l2 ∧ l2 < 29) ∧ (xc_wr_push d (w_32 (l1 - (m1 353 l2))) (m1 354 l2) m1 (fun r2 m2 => xp_wr_pushRow_58 d (w_32 (30 - 1)) m2 Q))))))) else (xc_wr_pushSymbol d (w_32 (257 + l2)) m (fun r3 m3 => ((0 : Int) ≤ l2 ∧ l2 < 29) ∧ (((0 : Int) ≤ l2 ∧ l2 < 29) ∧ (xc_wr_push d (w_32 (l1 - (m3 353 l2))) (m3 354 l2) m3 (fun r4 m4 => xp_wr_pushRow_58 d (w_32 (30 - 1)) m4 Q)))))) : xp_wr_pushRow_7 d l1 l2 m Q := by
  refine w_iload_n rfl rfl ?_
  refine w_ifle rfl (w_ite h (fun h => ?_) (fun h => ?_))
  · refine w_getsR rfl ?_
    refine w_iload_n rfl rfl ?_
    refine w_iald rfl s_353 (n := 29) rfl h.1 ?_
    replace h := h.2
    refine w_iload_n rfl rfl ?_
    refine w_icle rfl (w_ite h (fun h => ?_) (fun h => ?_))
    · refine w_iinc (lv' := [some (2, 418), some (0, l1), some (0, w_32 (l2 + (-1))), none]) rfl rfl rfl rfl ?_
      refine w_goto rfl ?_
      exact w_W.less h (w_sub [true, true, true, false] rfl)
    · refine w_aload_n rfl rfl ?_
      refine w_sipush rfl (by decide) ?_
      refine w_iload_n rfl rfl ?_
      refine w_iadd rfl ?_
      refine w_callV (t' := 3) [(0, w_32 (257 + l2))] [] rfl s_418 rfl rfl ?_
      refine w_C.more (Q := fun r1 m1 => _) h (fun r1 m1 h => ?_)
      replace h := id h
      refine w_aload_n rfl rfl ?_
      refine w_iload_n rfl rfl ?_
      refine w_getsR rfl ?_
      refine w_iload_n rfl rfl ?_
      refine w_iald rfl s_353 (n := 29) rfl h.1 ?_
      replace h := h.2
      refine w_isub rfl ?_
      refine w_getsR rfl ?_
      refine w_iload_n rfl rfl ?_
      refine w_bald rfl s_354 (n := 29) rfl h.1 ?_
      replace h := h.2
      refine w_callV (t' := 3) [(0, m1 354 l2), (0, w_32 (l1 - (m1 353 l2)))] [] rfl s_418 rfl rfl ?_
      refine w_C.more (Q := fun r2 m2 => _) h (fun r2 m2 h => ?_)
      replace h := id h
      refine w_getsR rfl ?_
      refine w_len rfl s_355 (by decide) (n := 30) rfl (by decide) ?_
      refine w_iconst rfl (by decide) ?_
      refine w_isub rfl ?_
      refine w_istore_n (lv' := [some (2, 418), some (0, l1), some (0, l2), some (0, w_32 (30 - 1))]) rfl rfl rfl ?_
      exact w_W.less h (w_sub [true, false, false, true] rfl)
  · refine w_aload_n rfl rfl ?_
    refine w_sipush rfl (by decide) ?_
    refine w_iload_n rfl rfl ?_
    refine w_iadd rfl ?_
    refine w_callV (t' := 3) [(0, w_32 (257 + l2))] [] rfl s_418 rfl rfl ?_
    refine w_C.more (Q := fun r3 m3 => _) h (fun r3 m3 h => ?_)
    replace h := id h
    refine w_aload_n rfl rfl ?_
    refine w_iload_n rfl rfl ?_
    refine w_getsR rfl ?_
    refine w_iload_n rfl rfl ?_
    refine w_iald rfl s_353 (n := 29) rfl h.1 ?_
    replace h := h.2
    refine w_isub rfl ?_
    refine w_getsR rfl ?_
    refine w_iload_n rfl rfl ?_
    refine w_bald rfl s_354 (n := 29) rfl h.1 ?_
    replace h := h.2
    refine w_callV (t' := 3) [(0, m3 354 l2), (0, w_32 (l1 - (m3 353 l2)))] [] rfl s_418 rfl rfl ?_
    refine w_C.more (Q := fun r4 m4 => _) h (fun r4 m4 h => ?_)
    replace h := id h
    refine w_getsR rfl ?_
    refine w_len rfl s_355 (by decide) (n := 30) rfl (by decide) ?_
    refine w_iconst rfl (by decide) ?_
    refine w_isub rfl ?_
    refine w_istore_n (lv' := [some (2, 418), some (0, l1), some (0, l2), some (0, w_32 (30 - 1))]) rfl rfl rfl ?_
    exact w_W.less h (w_sub [true, false, false, true] rfl)
theorem xr_wr_pushRow_58 {d : Nat} {l3 : Int} {m : w_M} {Q : Int → w_M → Prop} (h : if 0 < l3 then (((0 : Int) ≤ l3 ∧ l3 < 30) ∧ (if (m 418 17) < (m 355 l3) then (xp_wr_pushRow_58 d (w_32 (l3 + (-1))) m Q) else (xc_wr_pushCode d l3 5 m (fun r1 m1 => ((0 : Int) ≤ l3 ∧ l3 < 30) ∧ (((0 : Int) ≤ l3 ∧ l3 < 30) ∧ (xc_wr_push d (w_32 ((m1 418 17) - (m1 355 l3))) (m1 356 l3) m1 (fun r2 m2 => Q 0 m2))))))) else (xc_wr_pushCode d l3 5 m (fun r3 m3 => ((0 : Int) ≤ l3 ∧ l3 < 30) ∧ (((0 : Int) ≤ l3 ∧ l3 < 30) ∧ (xc_wr_push d (w_32 ((m3 418 17) - (m3 355 l3))) (m3 356 l3) m3 (fun r4 m4 => Q 0 m4)))))) : xp_wr_pushRow_58 d l3 m Q := by
  refine w_iload_n rfl rfl ?_
  refine w_ifle rfl (w_ite h (fun h => ?_) (fun h => ?_))
  · refine w_getsR rfl ?_
    refine w_iload_n rfl rfl ?_
    refine w_iald rfl s_355 (n := 30) rfl h.1 ?_
    replace h := h.2
    refine w_aload_n rfl rfl ?_
    refine x_gfI rfl s_418 rfl (kk := 17) rfl rfl ?_
    refine w_icle rfl (w_ite h (fun h => ?_) (fun h => ?_))
    · refine w_iinc (lv' := [some (2, 418), none, none, some (0, w_32 (l3 + (-1)))]) rfl rfl rfl rfl ?_
      refine w_goto rfl ?_
      exact w_W.less h (w_sub [true, false, false, true] rfl)
    · refine w_aload_n rfl rfl ?_
      refine w_iload_n rfl rfl ?_
      refine w_iconst rfl (by decide) ?_
      refine w_callV (t' := 3) [(0, 5), (0, l3)] [] rfl s_418 rfl rfl ?_
      refine w_C.more (Q := fun r1 m1 => _) h (fun r1 m1 h => ?_)
      replace h := id h
      refine w_aload_n rfl rfl ?_
      refine w_aload_n rfl rfl ?_
      refine x_gfI rfl s_418 rfl (kk := 17) rfl rfl ?_
      refine w_getsR rfl ?_
      refine w_iload_n rfl rfl ?_
      refine w_iald rfl s_355 (n := 30) rfl h.1 ?_
      replace h := h.2
      refine w_isub rfl ?_
      refine w_getsR rfl ?_
      refine w_iload_n rfl rfl ?_
      refine w_bald rfl s_356 (n := 30) rfl h.1 ?_
      replace h := h.2
      refine w_callV (t' := 3) [(0, m1 356 l3), (0, w_32 ((m1 418 17) - (m1 355 l3)))] [] rfl s_418 rfl rfl ?_
      refine w_C.more (Q := fun r2 m2 => _) h (fun r2 m2 h => ?_)
      replace h := id h
      exact w_vret rfl rfl h
  · refine w_aload_n rfl rfl ?_
    refine w_iload_n rfl rfl ?_
    refine w_iconst rfl (by decide) ?_
    refine w_callV (t' := 3) [(0, 5), (0, l3)] [] rfl s_418 rfl rfl ?_
    refine w_C.more (Q := fun r3 m3 => _) h (fun r3 m3 h => ?_)
    replace h := id h
    refine w_aload_n rfl rfl ?_
    refine w_aload_n rfl rfl ?_
    refine x_gfI rfl s_418 rfl (kk := 17) rfl rfl ?_
    refine w_getsR rfl ?_
    refine w_iload_n rfl rfl ?_
    refine w_iald rfl s_355 (n := 30) rfl h.1 ?_
    replace h := h.2
    refine w_isub rfl ?_
    refine w_getsR rfl ?_
    refine w_iload_n rfl rfl ?_
    refine w_bald rfl s_356 (n := 30) rfl h.1 ?_
    replace h := h.2
    refine w_callV (t' := 3) [(0, m3 356 l3), (0, w_32 ((m3 418 17) - (m3 355 l3)))] [] rfl s_418 rfl rfl ?_
    refine w_C.more (Q := fun r4 m4 => _) h (fun r4 m4 h => ?_)
    replace h := id h
    exact w_vret rfl rfl h
theorem xr_wr_pushSymbol {d : Nat} {l1 : Int} {m : w_M} {Q : Int → w_M → Prop} (h : if l1 < 144 then (xc_wr_pushCode d (w_32 (48 + l1)) 8 m (fun r1 m1 => Q 0 m1)) else (if l1 < 256 then (xc_wr_pushCode d (w_32 ((w_32 (400 + l1)) - 144)) 9 m (fun r2 m2 => Q 0 m2)) else (if l1 < 280 then (xc_wr_pushCode d (w_32 (l1 - 256)) 7 m (fun r3 m3 => Q 0 m3)) else (xc_wr_pushCode d (w_32 ((w_32 (192 + l1)) - 280)) 8 m (fun r4 m4 => Q 0 m4))))) : xc_wr_pushSymbol (d + 1) l1 m Q := by
  refine w_enter (q := 0) (lv := [some (2, 418), some (0, l1)]) rfl rfl rfl ?_
  refine w_iload_n rfl rfl ?_
  refine w_sipush rfl (by decide) ?_
  refine w_icge rfl (w_ite h (fun h => ?_) (fun h => ?_))
  · refine w_aload_n rfl rfl ?_
    refine w_bipush rfl (by decide) ?_
    refine w_iload_n rfl rfl ?_
    refine w_iadd rfl ?_
    refine w_bipush rfl (by decide) ?_
    refine w_callV (t' := 3) [(0, 8), (0, w_32 (48 + l1))] [] rfl s_418 rfl rfl ?_
    refine w_C.more (Q := fun r1 m1 => _) h (fun r1 m1 h => ?_)
    replace h := id h
    refine w_goto rfl ?_
    exact w_vret rfl rfl h
  · refine w_iload_n rfl rfl ?_
    refine w_sipush rfl (by decide) ?_
    refine w_icge rfl (w_ite h (fun h => ?_) (fun h => ?_))
    · refine w_aload_n rfl rfl ?_
      refine w_sipush rfl (by decide) ?_
      refine w_iload_n rfl rfl ?_
      refine w_iadd rfl ?_
      refine w_sipush rfl (by decide) ?_
      refine w_isub rfl ?_
      refine w_bipush rfl (by decide) ?_
      refine w_callV (t' := 3) [(0, 9), (0, w_32 ((w_32 (400 + l1)) - 144))] [] rfl s_418 rfl rfl ?_
      refine w_C.more (Q := fun r2 m2 => _) h (fun r2 m2 h => ?_)
      replace h := id h
      refine w_goto rfl ?_
      exact w_vret rfl rfl h
    · refine w_iload_n rfl rfl ?_
      refine w_sipush rfl (by decide) ?_
      refine w_icge rfl (w_ite h (fun h => ?_) (fun h => ?_))
      · refine w_aload_n rfl rfl ?_
        refine w_iload_n rfl rfl ?_
        refine w_sipush rfl (by decide) ?_
        refine w_isub rfl ?_
        refine w_bipush rfl (by decide) ?_
        refine w_callV (t' := 3) [(0, 7), (0, w_32 (l1 - 256))] [] rfl s_418 rfl rfl ?_
        refine w_C.more (Q := fun r3 m3 => _) h (fun r3 m3 h => ?_)
        replace h := id h
        refine w_goto rfl ?_
        exact w_vret rfl rfl h
      · refine w_aload_n rfl rfl ?_
        refine w_sipush rfl (by decide) ?_
        refine w_iload_n rfl rfl ?_
        refine w_iadd rfl ?_
        refine w_sipush rfl (by decide) ?_
        refine w_isub rfl ?_
        refine w_bipush rfl (by decide) ?_
        refine w_callV (t' := 3) [(0, 8), (0, w_32 ((w_32 (192 + l1)) - 280))] [] rfl s_418 rfl rfl ?_
        refine w_C.more (Q := fun r4 m4 => _) h (fun r4 m4 h => ?_)
        replace h := id h
        exact w_vret rfl rfl h
theorem xr_wr_put {d : Nat} {l1 : Int} {m : w_M} {Q : Int → w_M → Prop} (h : if (m 418 3) < 0 then (Q 0 (w_up m 418 4 1)) else (if (m 418 3) < 30000 then (((0 : Int) ≤ (m 418 3) ∧ (m 418 3) < 30000) ∧ (Q 0 (w_up (w_up m 419 (m 418 3) (w_8 (w_8 l1))) 418 3 (w_32 ((m 418 3) + 1))))) else (Q 0 (w_up m 418 4 1)))) : xc_wr_put (d + 1) l1 m Q := by
  refine w_enter (q := 0) (lv := [some (2, 418), some (0, l1)]) rfl rfl rfl ?_
  refine w_aload_n rfl rfl ?_
  refine x_gfI rfl s_418 rfl (kk := 3) rfl rfl ?_
  refine w_iflt rfl (w_ite h (fun h => ?_) (fun h => ?_))
  · refine w_aload_n rfl rfl ?_
    refine w_iconst rfl (by decide) ?_
    refine w_pfZ rfl s_418 rfl (w_EC (by decide)) rfl (kk := 4) rfl (by decide) ?_
    exact w_vret rfl rfl h
  · refine w_aload_n rfl rfl ?_
    refine x_gfI rfl s_418 rfl (kk := 3) rfl rfl ?_
    refine w_aload_n rfl rfl ?_
    refine w_gfC (c := 419) rfl s_418 rfl rfl ?_
    refine w_len rfl s_419 (by decide) (n := 30000) rfl (by decide) ?_
    refine w_iclt rfl (w_ite h (fun h => ?_) (fun h => ?_))
    · refine w_aload_n rfl rfl ?_
      refine w_gfC (c := 419) rfl s_418 rfl rfl ?_
      refine w_aload_n rfl rfl ?_
      refine x_gfI rfl s_418 rfl (kk := 3) rfl rfl ?_
      refine w_iload_n rfl rfl ?_
      refine w_i2b rfl ?_
      refine w_bast rfl s_419 (w_EC (by decide)) (n := 30000) rfl h.1 ?_
      replace h := h.2
      refine w_aload_n rfl rfl ?_
      refine w_dup rfl (show (2 : Nat) ≠ 1 by decide) ?_
      refine x_gfI rfl s_418 rfl (kk := 3) rfl (w_up_ne (by decide)) ?_
      refine w_iconst rfl (by decide) ?_
      refine w_iadd rfl ?_
      refine w_pfI rfl s_418 rfl (w_EC (by decide)) rfl (kk := 3) rfl ?_
      exact w_vret rfl rfl h
    · refine w_aload_n rfl rfl ?_
      refine w_iconst rfl (by decide) ?_
      refine w_pfZ rfl s_418 rfl (w_EC (by decide)) rfl (kk := 4) rfl (by decide) ?_
      exact w_vret rfl rfl h
theorem xr_wr_putCode {d : Nat} {m : w_M} {Q : Int → w_M → Prop} (h : xc_wr_putText d 34 m (fun r1 m1 => xc_wr_putNumber d (m1 418 12) m1 (fun r2 m2 => xc_wr_putText d 36 m2 (fun r3 m3 => xp_wr_putCode_25 d 0 m3 Q)))) : xc_wr_putCode (d + 1) m Q := by
  refine w_enter (q := 1) (lv := [some (2, 418), none]) rfl rfl rfl ?_
  refine w_aload_n rfl rfl ?_
  refine w_ldcwR rfl ?_
  refine w_callV (t' := 3) [(2, 34)] [] rfl s_418 rfl rfl ?_
  refine w_C.more (Q := fun r1 m1 => _) h (fun r1 m1 h => ?_)
  replace h := id h
  refine w_aload_n rfl rfl ?_
  refine w_aload_n rfl rfl ?_
  refine x_gfI rfl s_418 rfl (kk := 12) rfl rfl ?_
  refine w_i2l rfl ?_
  refine w_callV (t' := 3) [(1, m1 418 12)] [] rfl s_418 rfl rfl ?_
  refine w_C.more (Q := fun r2 m2 => _) h (fun r2 m2 h => ?_)
  replace h := id h
  refine w_aload_n rfl rfl ?_
  refine w_ldcwR rfl ?_
  refine w_callV (t' := 3) [(2, 36)] [] rfl s_418 rfl rfl ?_
  refine w_C.more (Q := fun r3 m3 => _) h (fun r3 m3 h => ?_)
  replace h := id h
  refine w_iconst rfl (by decide) ?_
  refine w_istore_n (lv' := [some (2, 418), some (0, 0)]) rfl rfl rfl ?_
  exact w_W.less h (w_sub [true, true] rfl)
theorem xr_wr_putCode_25 {d : Nat} {l1 : Int} {m : w_M} {Q : Int → w_M → Prop} (h : if l1 < (m 418 12) then (if l1 < 9216 then (((0 : Int) ≤ l1 ∧ l1 < 9216) ∧ (xc_wr_put d (m 424 l1) m (fun r1 m1 => xp_wr_putCode_25 d (w_32 (l1 + 1)) m1 Q))) else (xc_wr_putText d 38 m (fun r2 m2 => Q 0 m2))) else (xc_wr_putText d 38 m (fun r3 m3 => Q 0 m3))) : xp_wr_putCode_25 d l1 m Q := by
  refine w_iload_n rfl rfl ?_
  refine w_aload_n rfl rfl ?_
  refine x_gfI rfl s_418 rfl (kk := 12) rfl rfl ?_
  refine w_icge rfl (w_ite h (fun h => ?_) (fun h => ?_))
  · refine w_iload_n rfl rfl ?_
    refine w_aload_n rfl rfl ?_
    refine w_gfC (c := 424) rfl s_418 rfl rfl ?_
    refine w_len rfl s_424 (by decide) (n := 9216) rfl (by decide) ?_
    refine w_icge rfl (w_ite h (fun h => ?_) (fun h => ?_))
    · refine w_aload_n rfl rfl ?_
      refine w_aload_n rfl rfl ?_
      refine w_gfC (c := 424) rfl s_418 rfl rfl ?_
      refine w_iload_n rfl rfl ?_
      refine w_bald rfl s_424 (n := 9216) rfl h.1 ?_
      replace h := h.2
      refine w_callV (t' := 3) [(0, m 424 l1)] [] rfl s_418 rfl rfl ?_
      refine w_C.more (Q := fun r1 m1 => _) h (fun r1 m1 h => ?_)
      replace h := id h
      refine w_iinc (lv' := [some (2, 418), some (0, w_32 (l1 + 1))]) rfl rfl rfl rfl ?_
      refine w_goto rfl ?_
      exact w_W.less h (w_sub [true, true] rfl)
    · refine w_aload_n rfl rfl ?_
      refine w_ldcwR rfl ?_
      refine w_callV (t' := 3) [(2, 38)] [] rfl s_418 rfl rfl ?_
      refine w_C.more (Q := fun r2 m2 => _) h (fun r2 m2 h => ?_)
      replace h := id h
      exact w_vret rfl rfl h
  · refine w_aload_n rfl rfl ?_
    refine w_ldcwR rfl ?_
    refine w_callV (t' := 3) [(2, 38)] [] rfl s_418 rfl rfl ?_
    refine w_C.more (Q := fun r3 m3 => _) h (fun r3 m3 h => ?_)
    replace h := id h
    exact w_vret rfl rfl h
theorem xr_wr_putDigits {d : Nat} {l1 l3 : Int} {m : w_M} {Q : Int → w_M → Prop} (h : xp_wr_putDigits_3 d l1 l3 m Q) : xc_wr_putDigits (d + 1) l1 l3 m Q := by
  refine w_enter (q := 2) (lv := [some (2, 418), some (1, l1), none, some (1, l3), none, none, none]) rfl rfl rfl ?_
  refine w_lload_n rfl rfl ?_
  refine w_lstore (lv' := [some (2, 418), some (1, l1), none, some (1, l3), none, some (1, l3), none]) rfl rfl rfl ?_
  exact w_W.less h (w_sub [true, true, false, false, false, true, false] rfl)
theorem xr_wr_putDigits_3 {d : Nat} {l1 l5 : Int} {m : w_M} {Q : Int → w_M → Prop} (h : if 0 < l5 then (l5 ≠ 0 ∧ (xc_wr_put d (w_32 (w_64 (48 + (Int.tmod (w_ldiv l1 l5) 10)))) m (fun r1 m1 => xp_wr_putDigits_3 d l1 (Int.tdiv l5 10) m1 Q))) else (Q 0 m)) : xp_wr_putDigits_3 d l1 l5 m Q := by
  refine w_lload rfl rfl ?_
  refine w_lconst rfl rfl ?_
  refine w_lcle rfl rfl (w_ite h (fun h => ?_) (fun h => ?_))
  · refine w_aload_n rfl rfl ?_
    refine w_ldc2 (a := 48) rfl (by decide +kernel) (by decide) ?_
    refine w_lload_n rfl rfl ?_
    refine w_lload rfl rfl ?_
    refine w_ldiv' rfl h.1 ?_
    replace h := h.2
    refine w_ldc2 (a := 10) rfl (by decide +kernel) (by decide) ?_
    refine w_lremk rfl (by decide) ?_
    refine w_ladd' rfl ?_
    refine w_l2i rfl ?_
    refine w_callV (t' := 3) [(0, w_32 (w_64 (48 + (Int.tmod (w_ldiv l1 l5) 10))))] [] rfl s_418 rfl rfl ?_
    refine w_C.more (Q := fun r1 m1 => _) h (fun r1 m1 h => ?_)
    replace h := id h
    refine w_lload rfl rfl ?_
    refine w_ldc2 (a := 10) rfl (by decide +kernel) (by decide) ?_
    refine w_ldivk rfl (by decide) ?_
    refine w_lstore (lv' := [some (2, 418), some (1, l1), none, none, none, some (1, Int.tdiv l5 10), none]) rfl rfl rfl ?_
    refine w_goto rfl ?_
    exact w_W.less h (w_sub [true, true, false, false, false, true, false] rfl)
  · exact w_vret rfl rfl h
theorem xr_wr_putEnd {d : Nat} {l1 : Int} {m : w_M} {Q : Int → w_M → Prop} (h : xc_wr_putText d 40 m (fun r1 m1 => xc_wr_putNumber d l1 m1 (fun r2 m2 => xc_wr_putText d 42 m2 (fun r3 m3 => Q 0 m3)))) : xc_wr_putEnd (d + 1) l1 m Q := by
  refine w_enter (q := 0) (lv := [some (2, 418), some (0, l1)]) rfl rfl rfl ?_
  refine w_aload_n rfl rfl ?_
  refine w_ldcR rfl ?_
  refine w_callV (t' := 3) [(2, 40)] [] rfl s_418 rfl rfl ?_
  refine w_C.more (Q := fun r1 m1 => _) h (fun r1 m1 h => ?_)
  replace h := id h
  refine w_aload_n rfl rfl ?_
  refine w_iload_n rfl rfl ?_
  refine w_i2l rfl ?_
  refine w_callV (t' := 3) [(1, l1)] [] rfl s_418 rfl rfl ?_
  refine w_C.more (Q := fun r2 m2 => _) h (fun r2 m2 h => ?_)
  replace h := id h
  refine w_aload_n rfl rfl ?_
  refine w_ldcR rfl ?_
  refine w_callV (t' := 3) [(2, 42)] [] rfl s_418 rfl rfl ?_
  refine w_C.more (Q := fun r3 m3 => _) h (fun r3 m3 h => ?_)
  replace h := id h
  exact w_vret rfl rfl h
theorem xr_wr_putEntries {d : Nat} {l1 l2 l3 : Int} {m : w_M} {Q : Int → w_M → Prop} (h : xc_st_firstPart d l1 m (fun r1 m1 => xc_st_parts d l1 m1 (fun r2 m2 => xp_wr_putEntries_20 d l2 l3 r1 r2 m2 Q))) : xc_wr_putEntries (d + 1) l1 l2 l3 m Q := by
  refine w_enter (q := 4) (lv := [some (2, 418), some (0, l1), some (0, l2), some (0, l3), none, none, none, none]) rfl rfl rfl ?_
  refine w_aload_n rfl rfl ?_
  refine w_gfC (c := 359) rfl s_418 rfl rfl ?_
  refine w_iload_n rfl rfl ?_
  refine w_callV (t' := 0) [(0, l1)] [] rfl s_359 rfl rfl ?_
  refine w_C.more (Q := fun r1 m1 => _) h (fun r1 m1 h => ?_)
  replace h := id h
  refine w_istore (lv' := [some (2, 418), some (0, l1), some (0, l2), some (0, l3), some (0, r1), none, none, none]) rfl rfl rfl ?_
  refine w_aload_n rfl rfl ?_
  refine w_gfC (c := 359) rfl s_418 rfl rfl ?_
  refine w_iload_n rfl rfl ?_
  refine w_callV (t' := 0) [(0, l1)] [] rfl s_359 rfl rfl ?_
  refine w_C.more (Q := fun r2 m2 => _) h (fun r2 m2 h => ?_)
  replace h := id h
  refine w_istore (lv' := [some (2, 418), some (0, l1), some (0, l2), some (0, l3), some (0, r1), some (0, r2), none, none]) rfl rfl rfl ?_
  exact w_W.less h (w_sub [true, false, true, true, true, true, false, false] rfl)
theorem xr_wr_putEntries_20 {d : Nat} {l2 l3 l4 l5 : Int} {m : w_M} {Q : Int → w_M → Prop} (h : if 0 < l5 then (if l2 < 24 then (if (m 418 4) = 0 then (xc_st_keyOf d l4 m (fun r1 m1 => if l3 = 0 then (if r1 < 0 then (xp_wr_putEntries_124 d l2 l3 l4 l5 0 m1 Q) else (xc_wr_putName d r1 m1 (fun r2 m2 => xc_wr_put d 32 m2 (fun r3 m3 => xp_wr_putEntries_124 d l2 l3 l4 l5 0 m3 Q)))) else (xc_st_same d r1 20 m1 (fun r4 m4 => if r4 = 0 then (xc_st_same d r1 21 m4 (fun r5 m5 => if r5 = 0 then (xc_st_same d r1 22 m5 (fun r6 m6 => if r6 = 0 then (if r1 < 0 then (xp_wr_putEntries_124 d l2 l3 l4 l5 0 m6 Q) else (xc_wr_putName d r1 m6 (fun r7 m7 => xc_wr_put d 32 m7 (fun r8 m8 => xp_wr_putEntries_124 d l2 l3 l4 l5 0 m8 Q)))) else (if r1 < 0 then (xp_wr_putEntries_124 d l2 l3 l4 l5 1 m6 Q) else (xp_wr_putEntries_124 d l2 l3 l4 l5 1 m6 Q)))) else (if r1 < 0 then (xp_wr_putEntries_124 d l2 l3 l4 l5 1 m5 Q) else (xp_wr_putEntries_124 d l2 l3 l4 l5 1 m5 Q)))) else (if r1 < 0 then (xp_wr_putEntries_124 d l2 l3 l4 l5 1 m4 Q) else (xp_wr_putEntries_124 d l2 l3 l4 l5 1 m4 Q)))))) else (Q 0 m)) else (Q 0 m)) else (Q 0 m)) : xp_wr_putEntries_20 d l2 l3 l4 l5 m Q := by
  refine w_iload rfl rfl ?_
  refine w_ifle rfl (w_ite h (fun h => ?_) (fun h => ?_))
  · refine w_iload_n rfl rfl ?_
    refine w_bipush rfl (by decide) ?_
    refine w_icge rfl (w_ite h (fun h => ?_) (fun h => ?_))
    · refine w_aload_n rfl rfl ?_
      refine x_gfZ rfl s_418 rfl (kk := 4) rfl rfl ?_
      refine w_ifne rfl (w_ite h (fun h => ?_) (fun h => ?_))
      · refine w_aload_n rfl rfl ?_
        refine w_gfC (c := 359) rfl s_418 rfl rfl ?_
        refine w_iload rfl rfl ?_
        refine w_callV (t' := 0) [(0, l4)] [] rfl s_359 rfl rfl ?_
        refine w_C.more (Q := fun r1 m1 => _) h (fun r1 m1 h => ?_)
        replace h := id h
        refine w_istore (lv' := [some (2, 418), none, some (0, l2), some (0, l3), some (0, l4), some (0, l5), some (0, r1), none]) rfl rfl rfl ?_
        refine w_iload_n rfl rfl ?_
        refine w_ifeq rfl (w_ite h (fun h => ?_) (fun h => ?_))
        · refine w_iconst rfl (by decide) ?_
          refine w_istore (lv' := [some (2, 418), none, some (0, l2), some (0, l3), some (0, l4), some (0, l5), some (0, r1), some (0, 0)]) rfl rfl rfl ?_
          refine w_iload rfl rfl ?_
          refine w_iflt rfl (w_ite h (fun h => ?_) (fun h => ?_))
          · exact w_W.less h (w_sub [true, false, true, true, true, true, false, true] rfl)
          · refine w_iload rfl rfl ?_
            refine w_ifne rfl (w_ift (by decide) ?_)
            refine w_aload_n rfl rfl ?_
            refine w_iload rfl rfl ?_
            refine w_callV (t' := 3) [(0, r1)] [] rfl s_418 rfl rfl ?_
            refine w_C.more (Q := fun r2 m2 => _) h (fun r2 m2 h => ?_)
            replace h := id h
            refine w_aload_n rfl rfl ?_
            refine w_bipush rfl (by decide) ?_
            refine w_callV (t' := 3) [(0, 32)] [] rfl s_418 rfl rfl ?_
            refine w_C.more (Q := fun r3 m3 => _) h (fun r3 m3 h => ?_)
            replace h := id h
            exact w_W.less h (w_sub [true, false, true, true, true, true, false, true] rfl)
        · refine w_aload_n rfl rfl ?_
          refine w_gfC (c := 359) rfl s_418 rfl rfl ?_
          refine w_iload rfl rfl ?_
          refine w_bipush rfl (by decide) ?_
          refine w_callV (t' := 0) [(0, 20), (0, r1)] [] rfl s_359 rfl rfl ?_
          refine w_C.more (Q := fun r4 m4 => _) h (fun r4 m4 h => ?_)
          replace h := id h
          refine w_ifne rfl (w_ite h (fun h => ?_) (fun h => ?_))
          · refine w_aload_n rfl rfl ?_
            refine w_gfC (c := 359) rfl s_418 rfl rfl ?_
            refine w_iload rfl rfl ?_
            refine w_bipush rfl (by decide) ?_
            refine w_callV (t' := 0) [(0, 21), (0, r1)] [] rfl s_359 rfl rfl ?_
            refine w_C.more (Q := fun r5 m5 => _) h (fun r5 m5 h => ?_)
            replace h := id h
            refine w_ifne rfl (w_ite h (fun h => ?_) (fun h => ?_))
            · refine w_aload_n rfl rfl ?_
              refine w_gfC (c := 359) rfl s_418 rfl rfl ?_
              refine w_iload rfl rfl ?_
              refine w_bipush rfl (by decide) ?_
              refine w_callV (t' := 0) [(0, 22), (0, r1)] [] rfl s_359 rfl rfl ?_
              refine w_C.more (Q := fun r6 m6 => _) h (fun r6 m6 h => ?_)
              replace h := id h
              refine w_ifeq rfl (w_ite h (fun h => ?_) (fun h => ?_))
              · refine w_iconst rfl (by decide) ?_
                refine w_istore (lv' := [some (2, 418), none, some (0, l2), some (0, l3), some (0, l4), some (0, l5), some (0, r1), some (0, 0)]) rfl rfl rfl ?_
                refine w_iload rfl rfl ?_
                refine w_iflt rfl (w_ite h (fun h => ?_) (fun h => ?_))
                · exact w_W.less h (w_sub [true, false, true, true, true, true, false, true] rfl)
                · refine w_iload rfl rfl ?_
                  refine w_ifne rfl (w_ift (by decide) ?_)
                  refine w_aload_n rfl rfl ?_
                  refine w_iload rfl rfl ?_
                  refine w_callV (t' := 3) [(0, r1)] [] rfl s_418 rfl rfl ?_
                  refine w_C.more (Q := fun r7 m7 => _) h (fun r7 m7 h => ?_)
                  replace h := id h
                  refine w_aload_n rfl rfl ?_
                  refine w_bipush rfl (by decide) ?_
                  refine w_callV (t' := 3) [(0, 32)] [] rfl s_418 rfl rfl ?_
                  refine w_C.more (Q := fun r8 m8 => _) h (fun r8 m8 h => ?_)
                  replace h := id h
                  exact w_W.less h (w_sub [true, false, true, true, true, true, false, true] rfl)
              · refine w_iconst rfl (by decide) ?_
                refine w_goto rfl ?_
                refine w_istore (lv' := [some (2, 418), none, some (0, l2), some (0, l3), some (0, l4), some (0, l5), some (0, r1), some (0, 1)]) rfl rfl rfl ?_
                refine w_iload rfl rfl ?_
                refine w_iflt rfl (w_ite h (fun h => ?_) (fun h => ?_))
                · exact w_W.less h (w_sub [true, false, true, true, true, true, false, true] rfl)
                · refine w_iload rfl rfl ?_
                  refine w_ifne rfl (w_iff (by decide) ?_)
                  exact w_W.less h (w_sub [true, false, true, true, true, true, false, true] rfl)
            · refine w_iconst rfl (by decide) ?_
              refine w_goto rfl ?_
              refine w_istore (lv' := [some (2, 418), none, some (0, l2), some (0, l3), some (0, l4), some (0, l5), some (0, r1), some (0, 1)]) rfl rfl rfl ?_
              refine w_iload rfl rfl ?_
              refine w_iflt rfl (w_ite h (fun h => ?_) (fun h => ?_))
              · exact w_W.less h (w_sub [true, false, true, true, true, true, false, true] rfl)
              · refine w_iload rfl rfl ?_
                refine w_ifne rfl (w_iff (by decide) ?_)
                exact w_W.less h (w_sub [true, false, true, true, true, true, false, true] rfl)
          · refine w_iconst rfl (by decide) ?_
            refine w_goto rfl ?_
            refine w_istore (lv' := [some (2, 418), none, some (0, l2), some (0, l3), some (0, l4), some (0, l5), some (0, r1), some (0, 1)]) rfl rfl rfl ?_
            refine w_iload rfl rfl ?_
            refine w_iflt rfl (w_ite h (fun h => ?_) (fun h => ?_))
            · exact w_W.less h (w_sub [true, false, true, true, true, true, false, true] rfl)
            · refine w_iload rfl rfl ?_
              refine w_ifne rfl (w_iff (by decide) ?_)
              exact w_W.less h (w_sub [true, false, true, true, true, true, false, true] rfl)
      · exact w_vret rfl rfl h
    · exact w_vret rfl rfl h
  · exact w_vret rfl rfl h
theorem xr_wr_putEntries_124 {d : Nat} {l2 l3 l4 l5 l7 : Int} {m : w_M} {Q : Int → w_M → Prop} (h : if l7 = 0 then (xc_wr_putValue d l4 (w_32 (l2 + 1)) m (fun r1 m1 => xc_wr_put d 32 m1 (fun r2 m2 => xc_st_nextOf d l4 m2 (fun r3 m3 => xp_wr_putEntries_20 d l2 l3 r3 (w_32 (l5 + (-1))) m3 Q)))) else (xc_st_nextOf d l4 m (fun r4 m4 => xp_wr_putEntries_20 d l2 l3 r4 (w_32 (l5 + (-1))) m4 Q))) : xp_wr_putEntries_124 d l2 l3 l4 l5 l7 m Q := by
  refine w_iload rfl rfl ?_
  refine w_ifne rfl (w_ite h (fun h => ?_) (fun h => ?_))
  · refine w_aload_n rfl rfl ?_
    refine w_iload rfl rfl ?_
    refine w_iload_n rfl rfl ?_
    refine w_iconst rfl (by decide) ?_
    refine w_iadd rfl ?_
    refine w_callV (t' := 3) [(0, w_32 (l2 + 1)), (0, l4)] [] rfl s_418 rfl rfl ?_
    refine w_C.more (Q := fun r1 m1 => _) h (fun r1 m1 h => ?_)
    replace h := id h
    refine w_aload_n rfl rfl ?_
    refine w_bipush rfl (by decide) ?_
    refine w_callV (t' := 3) [(0, 32)] [] rfl s_418 rfl rfl ?_
    refine w_C.more (Q := fun r2 m2 => _) h (fun r2 m2 h => ?_)
    replace h := id h
    refine w_aload_n rfl rfl ?_
    refine w_gfC (c := 359) rfl s_418 rfl rfl ?_
    refine w_iload rfl rfl ?_
    refine w_callV (t' := 0) [(0, l4)] [] rfl s_359 rfl rfl ?_
    refine w_C.more (Q := fun r3 m3 => _) h (fun r3 m3 h => ?_)
    replace h := id h
    refine w_istore (lv' := [some (2, 418), none, some (0, l2), some (0, l3), some (0, r3), some (0, l5), none, some (0, l7)]) rfl rfl rfl ?_
    refine w_iinc (lv' := [some (2, 418), none, some (0, l2), some (0, l3), some (0, r3), some (0, w_32 (l5 + (-1))), none, some (0, l7)]) rfl rfl rfl rfl ?_
    refine w_goto rfl ?_
    exact w_W.less h (w_sub [true, false, true, true, true, true, false, false] rfl)
  · refine w_aload_n rfl rfl ?_
    refine w_gfC (c := 359) rfl s_418 rfl rfl ?_
    refine w_iload rfl rfl ?_
    refine w_callV (t' := 0) [(0, l4)] [] rfl s_359 rfl rfl ?_
    refine w_C.more (Q := fun r4 m4 => _) h (fun r4 m4 h => ?_)
    replace h := id h
    refine w_istore (lv' := [some (2, 418), none, some (0, l2), some (0, l3), some (0, r4), some (0, l5), none, some (0, l7)]) rfl rfl rfl ?_
    refine w_iinc (lv' := [some (2, 418), none, some (0, l2), some (0, l3), some (0, r4), some (0, w_32 (l5 + (-1))), none, some (0, l7)]) rfl rfl rfl rfl ?_
    refine w_goto rfl ?_
    exact w_W.less h (w_sub [true, false, true, true, true, true, false, false] rfl)
theorem xr_wr_putEntry {d : Nat} {l1 l2 : Int} {m : w_M} {Q : Int → w_M → Prop} (h : xc_wr_putDigits d l1 1000000000 m (fun r1 m1 => xc_wr_put d 32 m1 (fun r2 m2 => xc_wr_putDigits d l2 10000 m2 (fun r3 m3 => xc_wr_putText d 44 m3 (fun r4 m4 => Q 0 m4))))) : xc_wr_putEntry (d + 1) l1 l2 m Q := by
  refine w_enter (q := 0) (lv := [some (2, 418), some (0, l1), some (0, l2)]) rfl rfl rfl ?_
  refine w_aload_n rfl rfl ?_
  refine w_iload_n rfl rfl ?_
  refine w_i2l rfl ?_
  refine w_ldc2 (a := 1000000000) rfl (by decide +kernel) (by decide) ?_
  refine w_callV (t' := 3) [(1, 1000000000), (1, l1)] [] rfl s_418 rfl rfl ?_
  refine w_C.more (Q := fun r1 m1 => _) h (fun r1 m1 h => ?_)
  replace h := id h
  refine w_aload_n rfl rfl ?_
  refine w_bipush rfl (by decide) ?_
  refine w_callV (t' := 3) [(0, 32)] [] rfl s_418 rfl rfl ?_
  refine w_C.more (Q := fun r2 m2 => _) h (fun r2 m2 h => ?_)
  replace h := id h
  refine w_aload_n rfl rfl ?_
  refine w_iload_n rfl rfl ?_
  refine w_i2l rfl ?_
  refine w_ldc2 (a := 10000) rfl (by decide +kernel) (by decide) ?_
  refine w_callV (t' := 3) [(1, 10000), (1, l2)] [] rfl s_418 rfl rfl ?_
  refine w_C.more (Q := fun r3 m3 => _) h (fun r3 m3 h => ?_)
  replace h := id h
  refine w_aload_n rfl rfl ?_
  refine w_ldcwR rfl ?_
  refine w_callV (t' := 3) [(2, 44)] [] rfl s_418 rfl rfl ?_
  refine w_C.more (Q := fun r4 m4 => _) h (fun r4 m4 h => ?_)
  replace h := id h
  exact w_vret rfl rfl h
theorem xr_wr_putHex {d : Nat} {l1 : Int} {m : w_M} {Q : Int → w_M → Prop} (h : if ((l1 / 16) % 16) < 10 then (xc_wr_put d (w_32 (48 + ((l1 / 16) % 16))) m (fun r1 m1 => if (l1 % 16) < 10 then (xc_wr_put d (w_32 (48 + (l1 % 16))) m1 (fun r2 m2 => Q 0 m2)) else (xc_wr_put d (w_32 ((w_32 (65 + (l1 % 16))) - 10)) m1 (fun r3 m3 => Q 0 m3)))) else (xc_wr_put d (w_32 ((w_32 (65 + ((l1 / 16) % 16))) - 10)) m (fun r4 m4 => if (l1 % 16) < 10 then (xc_wr_put d (w_32 (48 + (l1 % 16))) m4 (fun r5 m5 => Q 0 m5)) else (xc_wr_put d (w_32 ((w_32 (65 + (l1 % 16))) - 10)) m4 (fun r6 m6 => Q 0 m6))))) : xc_wr_putHex (d + 1) l1 m Q := by
  refine w_enter (q := 2) (lv := [some (2, 418), some (0, l1), none, none]) rfl rfl rfl ?_
  refine w_iload_n rfl rfl ?_
  refine w_iconst rfl (by decide) ?_
  refine w_ishrk (c := 16) rfl (by decide) (by decide) rfl ?_
  refine w_bipush rfl (by decide) ?_
  refine w_iandm 4 (c := 16) rfl (by decide) rfl rfl ?_
  refine w_istore_n (lv' := [some (2, 418), some (0, l1), some (0, (l1 / 16) % 16), none]) rfl rfl rfl ?_
  refine w_iload_n rfl rfl ?_
  refine w_bipush rfl (by decide) ?_
  refine w_iandm 4 (c := 16) rfl (by decide) rfl rfl ?_
  refine w_istore_n (lv' := [some (2, 418), some (0, l1), some (0, (l1 / 16) % 16), some (0, l1 % 16)]) rfl rfl rfl ?_
  refine w_aload_n rfl rfl ?_
  refine w_iload_n rfl rfl ?_
  refine w_bipush rfl (by decide) ?_
  refine w_icge rfl (w_ite h (fun h => ?_) (fun h => ?_))
  · refine w_bipush rfl (by decide) ?_
    refine w_iload_n rfl rfl ?_
    refine w_iadd rfl ?_
    refine w_goto rfl ?_
    refine w_callV (t' := 3) [(0, w_32 (48 + ((l1 / 16) % 16)))] [] rfl s_418 rfl rfl ?_
    refine w_C.more (Q := fun r1 m1 => _) h (fun r1 m1 h => ?_)
    replace h := id h
    refine w_aload_n rfl rfl ?_
    refine w_iload_n rfl rfl ?_
    refine w_bipush rfl (by decide) ?_
    refine w_icge rfl (w_ite h (fun h => ?_) (fun h => ?_))
    · refine w_bipush rfl (by decide) ?_
      refine w_iload_n rfl rfl ?_
      refine w_iadd rfl ?_
      refine w_goto rfl ?_
      refine w_callV (t' := 3) [(0, w_32 (48 + (l1 % 16)))] [] rfl s_418 rfl rfl ?_
      refine w_C.more (Q := fun r2 m2 => _) h (fun r2 m2 h => ?_)
      replace h := id h
      exact w_vret rfl rfl h
    · refine w_bipush rfl (by decide) ?_
      refine w_iload_n rfl rfl ?_
      refine w_iadd rfl ?_
      refine w_bipush rfl (by decide) ?_
      refine w_isub rfl ?_
      refine w_callV (t' := 3) [(0, w_32 ((w_32 (65 + (l1 % 16))) - 10))] [] rfl s_418 rfl rfl ?_
      refine w_C.more (Q := fun r3 m3 => _) h (fun r3 m3 h => ?_)
      replace h := id h
      exact w_vret rfl rfl h
  · refine w_bipush rfl (by decide) ?_
    refine w_iload_n rfl rfl ?_
    refine w_iadd rfl ?_
    refine w_bipush rfl (by decide) ?_
    refine w_isub rfl ?_
    refine w_callV (t' := 3) [(0, w_32 ((w_32 (65 + ((l1 / 16) % 16))) - 10))] [] rfl s_418 rfl rfl ?_
    refine w_C.more (Q := fun r4 m4 => _) h (fun r4 m4 h => ?_)
    replace h := id h
    refine w_aload_n rfl rfl ?_
    refine w_iload_n rfl rfl ?_
    refine w_bipush rfl (by decide) ?_
    refine w_icge rfl (w_ite h (fun h => ?_) (fun h => ?_))
    · refine w_bipush rfl (by decide) ?_
      refine w_iload_n rfl rfl ?_
      refine w_iadd rfl ?_
      refine w_goto rfl ?_
      refine w_callV (t' := 3) [(0, w_32 (48 + (l1 % 16)))] [] rfl s_418 rfl rfl ?_
      refine w_C.more (Q := fun r5 m5 => _) h (fun r5 m5 h => ?_)
      replace h := id h
      exact w_vret rfl rfl h
    · refine w_bipush rfl (by decide) ?_
      refine w_iload_n rfl rfl ?_
      refine w_iadd rfl ?_
      refine w_bipush rfl (by decide) ?_
      refine w_isub rfl ?_
      refine w_callV (t' := 3) [(0, w_32 ((w_32 (65 + (l1 % 16))) - 10))] [] rfl s_418 rfl rfl ?_
      refine w_C.more (Q := fun r6 m6 => _) h (fun r6 m6 h => ?_)
      replace h := id h
      exact w_vret rfl rfl h
theorem xr_wr_putName {d : Nat} {l1 : Int} {m : w_M} {Q : Int → w_M → Prop} (h : xc_wr_put d 47 m (fun r1 m1 => xp_wr_putName_8 d l1 0 m1 Q)) : xc_wr_putName (d + 1) l1 m Q := by
  refine w_enter (q := 2) (lv := [some (2, 418), some (0, l1), none, none]) rfl rfl rfl ?_
  refine w_aload_n rfl rfl ?_
  refine w_bipush rfl (by decide) ?_
  refine w_callV (t' := 3) [(0, 47)] [] rfl s_418 rfl rfl ?_
  refine w_C.more (Q := fun r1 m1 => _) h (fun r1 m1 h => ?_)
  replace h := id h
  refine w_iconst rfl (by decide) ?_
  refine w_istore_n (lv' := [some (2, 418), some (0, l1), some (0, 0), none]) rfl rfl rfl ?_
  exact w_W.less h (w_sub [true, true, true, false] rfl)
theorem xr_wr_putName_8 {d : Nat} {l1 l2 : Int} {m : w_M} {Q : Int → w_M → Prop} (h : xc_st_letters d l1 m (fun r1 m1 => if l2 < r1 then (xc_st_letterOf d l1 l2 m1 (fun r2 m2 => if r2 < 33 then (xc_wr_put d 35 m2 (fun r3 m3 => xc_wr_putHex d r2 m3 (fun r4 m4 => xp_wr_putName_8 d l1 (w_32 (l2 + 1)) m4 Q))) else (if 126 < r2 then (xc_wr_put d 35 m2 (fun r5 m5 => xc_wr_putHex d r2 m5 (fun r6 m6 => xp_wr_putName_8 d l1 (w_32 (l2 + 1)) m6 Q))) else (if r2 = 35 then (xc_wr_put d 35 m2 (fun r7 m7 => xc_wr_putHex d r2 m7 (fun r8 m8 => xp_wr_putName_8 d l1 (w_32 (l2 + 1)) m8 Q))) else (xc_ps_isRegular d r2 m2 (fun r9 m9 => if r9 = 0 then (xc_wr_put d 35 m9 (fun r10 m10 => xc_wr_putHex d r2 m10 (fun r11 m11 => xp_wr_putName_8 d l1 (w_32 (l2 + 1)) m11 Q))) else (xc_wr_put d r2 m9 (fun r12 m12 => xp_wr_putName_8 d l1 (w_32 (l2 + 1)) m12 Q)))))))) else (Q 0 m1))) : xp_wr_putName_8 d l1 l2 m Q := by
  refine w_iload_n rfl rfl ?_
  refine w_aload_n rfl rfl ?_
  refine w_gfC (c := 359) rfl s_418 rfl rfl ?_
  refine w_iload_n rfl rfl ?_
  refine w_callV (t' := 0) [(0, l1)] [(0, l2)] rfl s_359 rfl rfl ?_
  refine w_C.more (Q := fun r1 m1 => _) h (fun r1 m1 h => ?_)
  replace h := id h
  refine w_icge rfl (w_ite h (fun h => ?_) (fun h => ?_))
  · refine w_aload_n rfl rfl ?_
    refine w_gfC (c := 359) rfl s_418 rfl rfl ?_
    refine w_iload_n rfl rfl ?_
    refine w_iload_n rfl rfl ?_
    refine w_callV (t' := 0) [(0, l2), (0, l1)] [] rfl s_359 rfl rfl ?_
    refine w_C.more (Q := fun r2 m2 => _) h (fun r2 m2 h => ?_)
    replace h := id h
    refine w_istore_n (lv' := [some (2, 418), some (0, l1), some (0, l2), some (0, r2)]) rfl rfl rfl ?_
    refine w_iload_n rfl rfl ?_
    refine w_bipush rfl (by decide) ?_
    refine w_iclt rfl (w_ite h (fun h => ?_) (fun h => ?_))
    · refine w_aload_n rfl rfl ?_
      refine w_bipush rfl (by decide) ?_
      refine w_callV (t' := 3) [(0, 35)] [] rfl s_418 rfl rfl ?_
      refine w_C.more (Q := fun r3 m3 => _) h (fun r3 m3 h => ?_)
      replace h := id h
      refine w_aload_n rfl rfl ?_
      refine w_iload_n rfl rfl ?_
      refine w_callV (t' := 3) [(0, r2)] [] rfl s_418 rfl rfl ?_
      refine w_C.more (Q := fun r4 m4 => _) h (fun r4 m4 h => ?_)
      replace h := id h
      refine w_goto rfl ?_
      refine w_iinc (lv' := [some (2, 418), some (0, l1), some (0, w_32 (l2 + 1)), some (0, r2)]) rfl rfl rfl rfl ?_
      refine w_goto rfl ?_
      exact w_W.less h (w_sub [true, true, true, false] rfl)
    · refine w_iload_n rfl rfl ?_
      refine w_bipush rfl (by decide) ?_
      refine w_icgt rfl (w_ite h (fun h => ?_) (fun h => ?_))
      · refine w_aload_n rfl rfl ?_
        refine w_bipush rfl (by decide) ?_
        refine w_callV (t' := 3) [(0, 35)] [] rfl s_418 rfl rfl ?_
        refine w_C.more (Q := fun r5 m5 => _) h (fun r5 m5 h => ?_)
        replace h := id h
        refine w_aload_n rfl rfl ?_
        refine w_iload_n rfl rfl ?_
        refine w_callV (t' := 3) [(0, r2)] [] rfl s_418 rfl rfl ?_
        refine w_C.more (Q := fun r6 m6 => _) h (fun r6 m6 h => ?_)
        replace h := id h
        refine w_goto rfl ?_
        refine w_iinc (lv' := [some (2, 418), some (0, l1), some (0, w_32 (l2 + 1)), some (0, r2)]) rfl rfl rfl rfl ?_
        refine w_goto rfl ?_
        exact w_W.less h (w_sub [true, true, true, false] rfl)
      · refine w_iload_n rfl rfl ?_
        refine w_bipush rfl (by decide) ?_
        refine w_iceq rfl (w_ite h (fun h => ?_) (fun h => ?_))
        · refine w_aload_n rfl rfl ?_
          refine w_bipush rfl (by decide) ?_
          refine w_callV (t' := 3) [(0, 35)] [] rfl s_418 rfl rfl ?_
          refine w_C.more (Q := fun r7 m7 => _) h (fun r7 m7 h => ?_)
          replace h := id h
          refine w_aload_n rfl rfl ?_
          refine w_iload_n rfl rfl ?_
          refine w_callV (t' := 3) [(0, r2)] [] rfl s_418 rfl rfl ?_
          refine w_C.more (Q := fun r8 m8 => _) h (fun r8 m8 h => ?_)
          replace h := id h
          refine w_goto rfl ?_
          refine w_iinc (lv' := [some (2, 418), some (0, l1), some (0, w_32 (l2 + 1)), some (0, r2)]) rfl rfl rfl rfl ?_
          refine w_goto rfl ?_
          exact w_W.less h (w_sub [true, true, true, false] rfl)
        · refine w_iload_n rfl rfl ?_
          refine w_callS (t' := 0) [(0, r2)] [] rfl (by decide) rfl rfl ?_
          refine w_C.more (Q := fun r9 m9 => _) h (fun r9 m9 h => ?_)
          replace h := id h
          refine w_ifne rfl (w_ite h (fun h => ?_) (fun h => ?_))
          · refine w_aload_n rfl rfl ?_
            refine w_bipush rfl (by decide) ?_
            refine w_callV (t' := 3) [(0, 35)] [] rfl s_418 rfl rfl ?_
            refine w_C.more (Q := fun r10 m10 => _) h (fun r10 m10 h => ?_)
            replace h := id h
            refine w_aload_n rfl rfl ?_
            refine w_iload_n rfl rfl ?_
            refine w_callV (t' := 3) [(0, r2)] [] rfl s_418 rfl rfl ?_
            refine w_C.more (Q := fun r11 m11 => _) h (fun r11 m11 h => ?_)
            replace h := id h
            refine w_goto rfl ?_
            refine w_iinc (lv' := [some (2, 418), some (0, l1), some (0, w_32 (l2 + 1)), some (0, r2)]) rfl rfl rfl rfl ?_
            refine w_goto rfl ?_
            exact w_W.less h (w_sub [true, true, true, false] rfl)
          · refine w_aload_n rfl rfl ?_
            refine w_iload_n rfl rfl ?_
            refine w_callV (t' := 3) [(0, r2)] [] rfl s_418 rfl rfl ?_
            refine w_C.more (Q := fun r12 m12 => _) h (fun r12 m12 h => ?_)
            replace h := id h
            refine w_iinc (lv' := [some (2, 418), some (0, l1), some (0, w_32 (l2 + 1)), some (0, r2)]) rfl rfl rfl rfl ?_
            refine w_goto rfl ?_
            exact w_W.less h (w_sub [true, true, true, false] rfl)
  · exact w_vret rfl rfl h
theorem xr_wr_putNumber {d : Nat} {l1 : Int} {m : w_M} {Q : Int → w_M → Prop} (h : if l1 < 0 then (if l1 < 0 then (xc_wr_put d 45 m (fun r1 m1 => xp_wr_putNumber_28 d (w_64 (-l1)) 1 m1 Q)) else (xp_wr_putNumber_28 d (w_64 (-l1)) 1 m Q)) else (if l1 < 0 then (xc_wr_put d 45 m (fun r2 m2 => xp_wr_putNumber_28 d l1 1 m2 Q)) else (xp_wr_putNumber_28 d l1 1 m Q))) : xc_wr_putNumber (d + 1) l1 m Q := by
  refine w_enter (q := 4) (lv := [some (2, 418), some (1, l1), none, none, none, none, none]) rfl rfl rfl ?_
  refine w_lload_n rfl rfl ?_
  refine w_lconst rfl rfl ?_
  refine w_lcge rfl rfl (w_ite h (fun h => ?_) (fun h => ?_))
  · refine w_lload_n rfl rfl ?_
    refine w_lneg rfl ?_
    refine w_goto rfl ?_
    refine w_lstore_n (lv' := [some (2, 418), some (1, l1), none, some (1, w_64 (-l1)), none, none, none]) rfl rfl rfl ?_
    refine w_lload_n rfl rfl ?_
    refine w_lconst rfl rfl ?_
    refine w_lcge rfl rfl (w_ite h (fun h => ?_) (fun h => ?_))
    · refine w_aload_n rfl rfl ?_
      refine w_bipush rfl (by decide) ?_
      refine w_callV (t' := 3) [(0, 45)] [] rfl s_418 rfl rfl ?_
      refine w_C.more (Q := fun r1 m1 => _) h (fun r1 m1 h => ?_)
      replace h := id h
      refine w_lconst rfl rfl ?_
      refine w_lstore (lv' := [some (2, 418), some (1, l1), none, some (1, w_64 (-l1)), none, some (1, 1), none]) rfl rfl rfl ?_
      exact w_W.less h (w_sub [true, false, false, true, false, true, false] rfl)
    · refine w_lconst rfl rfl ?_
      refine w_lstore (lv' := [some (2, 418), some (1, l1), none, some (1, w_64 (-l1)), none, some (1, 1), none]) rfl rfl rfl ?_
      exact w_W.less h (w_sub [true, false, false, true, false, true, false] rfl)
  · refine w_lload_n rfl rfl ?_
    refine w_lstore_n (lv' := [some (2, 418), some (1, l1), none, some (1, l1), none, none, none]) rfl rfl rfl ?_
    refine w_lload_n rfl rfl ?_
    refine w_lconst rfl rfl ?_
    refine w_lcge rfl rfl (w_ite h (fun h => ?_) (fun h => ?_))
    · refine w_aload_n rfl rfl ?_
      refine w_bipush rfl (by decide) ?_
      refine w_callV (t' := 3) [(0, 45)] [] rfl s_418 rfl rfl ?_
      refine w_C.more (Q := fun r2 m2 => _) h (fun r2 m2 h => ?_)
      replace h := id h
      refine w_lconst rfl rfl ?_
      refine w_lstore (lv' := [some (2, 418), some (1, l1), none, some (1, l1), none, some (1, 1), none]) rfl rfl rfl ?_
      exact w_W.less h (w_sub [true, false, false, true, false, true, false] rfl)
    · refine w_lconst rfl rfl ?_
      refine w_lstore (lv' := [some (2, 418), some (1, l1), none, some (1, l1), none, some (1, 1), none]) rfl rfl rfl ?_
      exact w_W.less h (w_sub [true, false, false, true, false, true, false] rfl)
theorem xr_wr_putNumber_28 {d : Nat} {l3 l5 : Int} {m : w_M} {Q : Int → w_M → Prop} (h : if 1000000000000000 < l5 then (xp_wr_putNumber_59 d l3 l5 m Q) else (l5 ≠ 0 ∧ (if (w_ldiv l3 l5) < 10 then (xp_wr_putNumber_59 d l3 l5 m Q) else (xp_wr_putNumber_28 d l3 (w_64 (l5 * 10)) m Q)))) : xp_wr_putNumber_28 d l3 l5 m Q := by
  refine w_lload rfl rfl ?_
  refine w_ldc2 (a := 1000000000000000) rfl (by decide +kernel) (by decide) ?_
  refine w_lcgt rfl rfl (w_ite h (fun h => ?_) (fun h => ?_))
  · exact w_W.less h (w_sub [true, false, false, true, false, true, false] rfl)
  · refine w_lload_n rfl rfl ?_
    refine w_lload rfl rfl ?_
    refine w_ldiv' rfl h.1 ?_
    replace h := h.2
    refine w_ldc2 (a := 10) rfl (by decide +kernel) (by decide) ?_
    refine w_lclt rfl rfl (w_ite h (fun h => ?_) (fun h => ?_))
    · exact w_W.less h (w_sub [true, false, false, true, false, true, false] rfl)
    · refine w_lload rfl rfl ?_
      refine w_ldc2 (a := 10) rfl (by decide +kernel) (by decide) ?_
      refine w_lmul' rfl ?_
      refine w_lstore (lv' := [some (2, 418), none, none, some (1, l3), none, some (1, w_64 (l5 * 10)), none]) rfl rfl rfl ?_
      refine w_goto rfl ?_
      exact w_W.less h (w_sub [true, false, false, true, false, true, false] rfl)
theorem xr_wr_putNumber_59 {d : Nat} {l3 l5 : Int} {m : w_M} {Q : Int → w_M → Prop} (h : if 0 < l5 then (l5 ≠ 0 ∧ (xc_wr_put d (w_32 (w_64 (48 + (Int.tmod (w_ldiv l3 l5) 10)))) m (fun r1 m1 => xp_wr_putNumber_59 d l3 (Int.tdiv l5 10) m1 Q))) else (Q 0 m)) : xp_wr_putNumber_59 d l3 l5 m Q := by
  refine w_lload rfl rfl ?_
  refine w_lconst rfl rfl ?_
  refine w_lcle rfl rfl (w_ite h (fun h => ?_) (fun h => ?_))
  · refine w_aload_n rfl rfl ?_
    refine w_ldc2 (a := 48) rfl (by decide +kernel) (by decide) ?_
    refine w_lload_n rfl rfl ?_
    refine w_lload rfl rfl ?_
    refine w_ldiv' rfl h.1 ?_
    replace h := h.2
    refine w_ldc2 (a := 10) rfl (by decide +kernel) (by decide) ?_
    refine w_lremk rfl (by decide) ?_
    refine w_ladd' rfl ?_
    refine w_l2i rfl ?_
    refine w_callV (t' := 3) [(0, w_32 (w_64 (48 + (Int.tmod (w_ldiv l3 l5) 10))))] [] rfl s_418 rfl rfl ?_
    refine w_C.more (Q := fun r1 m1 => _) h (fun r1 m1 h => ?_)
    replace h := id h
    refine w_lload rfl rfl ?_
    refine w_ldc2 (a := 10) rfl (by decide +kernel) (by decide) ?_
    refine w_ldivk rfl (by decide) ?_
    refine w_lstore (lv' := [some (2, 418), none, none, some (1, l3), none, some (1, Int.tdiv l5 10), none]) rfl rfl rfl ?_
    refine w_goto rfl ?_
    exact w_W.less h (w_sub [true, false, false, true, false, true, false] rfl)
  · exact w_vret rfl rfl h
theorem xr_wr_putObject {d : Nat} {l1 l2 l3 : Int} {m : w_M} {Q : Int → w_M → Prop} (h : xc_wr_putNumber d l2 m (fun r1 m1 => xc_wr_put d 32 m1 (fun r2 m2 => xc_wr_putNumber d l3 m2 (fun r3 m3 => xc_wr_putText d 46 m3 (fun r4 m4 => xc_ta_isStream d l1 m4 (fun r5 m5 => if r5 = 0 then (xc_ta_rootOf d l1 m5 (fun r6 m6 => xc_wr_putValue d r6 0 m6 (fun r7 m7 => xc_wr_putText d 50 m7 (fun r8 m8 => Q 0 m8)))) else (xc_ta_beginOf d l1 m5 (fun r9 m9 => xc_ta_lengthOf d l1 m9 (fun r10 m10 => xc_wr_squeeze d 375 r9 r10 m10 (fun r11 m11 => xc_wr_putText d 48 m11 (fun r12 m12 => xc_ta_rootOf d l1 m12 (fun r13 m13 => xc_wr_putEntries d r13 0 1 m13 (fun r14 m14 => xc_wr_putCode d m14 (fun r15 m15 => xc_wr_putText d 50 m15 (fun r16 m16 => Q 0 m16))))))))))))))) : xc_wr_putObject (d + 1) l1 l2 l3 m Q := by
  refine w_enter (q := 0) (lv := [some (2, 418), some (0, l1), some (0, l2), some (0, l3)]) rfl rfl rfl ?_
  refine w_aload_n rfl rfl ?_
  refine w_iload_n rfl rfl ?_
  refine w_i2l rfl ?_
  refine w_callV (t' := 3) [(1, l2)] [] rfl s_418 rfl rfl ?_
  refine w_C.more (Q := fun r1 m1 => _) h (fun r1 m1 h => ?_)
  replace h := id h
  refine w_aload_n rfl rfl ?_
  refine w_bipush rfl (by decide) ?_
  refine w_callV (t' := 3) [(0, 32)] [] rfl s_418 rfl rfl ?_
  refine w_C.more (Q := fun r2 m2 => _) h (fun r2 m2 h => ?_)
  replace h := id h
  refine w_aload_n rfl rfl ?_
  refine w_iload_n rfl rfl ?_
  refine w_i2l rfl ?_
  refine w_callV (t' := 3) [(1, l3)] [] rfl s_418 rfl rfl ?_
  refine w_C.more (Q := fun r3 m3 => _) h (fun r3 m3 h => ?_)
  replace h := id h
  refine w_aload_n rfl rfl ?_
  refine w_ldcR rfl ?_
  refine w_callV (t' := 3) [(2, 46)] [] rfl s_418 rfl rfl ?_
  refine w_C.more (Q := fun r4 m4 => _) h (fun r4 m4 h => ?_)
  replace h := id h
  refine w_aload_n rfl rfl ?_
  refine w_gfC (c := 366) rfl s_418 rfl rfl ?_
  refine w_iload_n rfl rfl ?_
  refine w_callV (t' := 0) [(0, l1)] [] rfl s_366 rfl rfl ?_
  refine w_C.more (Q := fun r5 m5 => _) h (fun r5 m5 h => ?_)
  replace h := id h
  refine w_ifeq rfl (w_ite h (fun h => ?_) (fun h => ?_))
  · refine w_aload_n rfl rfl ?_
    refine w_aload_n rfl rfl ?_
    refine w_gfC (c := 366) rfl s_418 rfl rfl ?_
    refine w_iload_n rfl rfl ?_
    refine w_callV (t' := 0) [(0, l1)] [(2, 418)] rfl s_366 rfl rfl ?_
    refine w_C.more (Q := fun r6 m6 => _) h (fun r6 m6 h => ?_)
    replace h := id h
    refine w_iconst rfl (by decide) ?_
    refine w_callV (t' := 3) [(0, 0), (0, r6)] [] rfl s_418 rfl rfl ?_
    refine w_C.more (Q := fun r7 m7 => _) h (fun r7 m7 h => ?_)
    replace h := id h
    refine w_aload_n rfl rfl ?_
    refine w_ldcR rfl ?_
    refine w_callV (t' := 3) [(2, 50)] [] rfl s_418 rfl rfl ?_
    refine w_C.more (Q := fun r8 m8 => _) h (fun r8 m8 h => ?_)
    replace h := id h
    exact w_vret rfl rfl h
  · refine w_aload_n rfl rfl ?_
    refine w_aload_n rfl rfl ?_
    refine w_gfC (c := 366) rfl s_418 rfl rfl ?_
    refine w_gfC (c := 375) rfl s_366 rfl rfl ?_
    refine w_aload_n rfl rfl ?_
    refine w_gfC (c := 366) rfl s_418 rfl rfl ?_
    refine w_iload_n rfl rfl ?_
    refine w_callV (t' := 0) [(0, l1)] [(2, 375), (2, 418)] rfl s_366 rfl rfl ?_
    refine w_C.more (Q := fun r9 m9 => _) h (fun r9 m9 h => ?_)
    replace h := id h
    refine w_aload_n rfl rfl ?_
    refine w_gfC (c := 366) rfl s_418 rfl rfl ?_
    refine w_iload_n rfl rfl ?_
    refine w_callV (t' := 0) [(0, l1)] [(0, r9), (2, 375), (2, 418)] rfl s_366 rfl rfl ?_
    refine w_C.more (Q := fun r10 m10 => _) h (fun r10 m10 h => ?_)
    replace h := id h
    refine w_callV (t' := 3) [(0, r10), (0, r9), (2, 375)] [] rfl s_418 rfl rfl ?_
    refine w_C.more (Q := fun r11 m11 => _) h (fun r11 m11 h => ?_)
    replace h := id h
    refine w_aload_n rfl rfl ?_
    refine w_ldcR rfl ?_
    refine w_callV (t' := 3) [(2, 48)] [] rfl s_418 rfl rfl ?_
    refine w_C.more (Q := fun r12 m12 => _) h (fun r12 m12 h => ?_)
    replace h := id h
    refine w_aload_n rfl rfl ?_
    refine w_aload_n rfl rfl ?_
    refine w_gfC (c := 366) rfl s_418 rfl rfl ?_
    refine w_iload_n rfl rfl ?_
    refine w_callV (t' := 0) [(0, l1)] [(2, 418)] rfl s_366 rfl rfl ?_
    refine w_C.more (Q := fun r13 m13 => _) h (fun r13 m13 h => ?_)
    replace h := id h
    refine w_iconst rfl (by decide) ?_
    refine w_iconst rfl (by decide) ?_
    refine w_callV (t' := 3) [(0, 1), (0, 0), (0, r13)] [] rfl s_418 rfl rfl ?_
    refine w_C.more (Q := fun r14 m14 => _) h (fun r14 m14 h => ?_)
    replace h := id h
    refine w_aload_n rfl rfl ?_
    refine w_callV (t' := 3) [] [] rfl s_418 rfl rfl ?_
    refine w_C.more (Q := fun r15 m15 => _) h (fun r15 m15 h => ?_)
    replace h := id h
    refine w_goto rfl ?_
    refine w_aload_n rfl rfl ?_
    refine w_ldcR rfl ?_
    refine w_callV (t' := 3) [(2, 50)] [] rfl s_418 rfl rfl ?_
    refine w_C.more (Q := fun r16 m16 => _) h (fun r16 m16 h => ?_)
    replace h := id h
    exact w_vret rfl rfl h
theorem xr_wr_putReal {d : Nat} {l1 : Int} {m : w_M} {Q : Int → w_M → Prop} (h : if l1 < 0 then (if l1 < 0 then (xc_wr_put d 45 m (fun r1 m1 => xp_wr_putReal_37 d ((w_64 ((w_64 ((w_64 (-l1)) * 100000)) + 32768)) / 65536) m1 Q)) else (xp_wr_putReal_37 d ((w_64 ((w_64 ((w_64 (-l1)) * 100000)) + 32768)) / 65536) m Q)) else (if l1 < 0 then (xc_wr_put d 45 m (fun r2 m2 => xp_wr_putReal_37 d ((w_64 ((w_64 (l1 * 100000)) + 32768)) / 65536) m2 Q)) else (xp_wr_putReal_37 d ((w_64 ((w_64 (l1 * 100000)) + 32768)) / 65536) m Q))) : xc_wr_putReal (d + 1) l1 m Q := by
  refine w_enter (q := 8) (lv := [some (2, 418), some (0, l1), none, none, none, none, none, none, none, none]) rfl rfl rfl ?_
  refine w_iload_n rfl rfl ?_
  refine w_ifge rfl (w_ite h (fun h => ?_) (fun h => ?_))
  · refine w_iload_n rfl rfl ?_
    refine w_i2l rfl ?_
    refine w_lneg rfl ?_
    refine w_goto rfl ?_
    refine w_lstore_n (lv' := [some (2, 418), some (0, l1), some (1, w_64 (-l1)), none, none, none, none, none, none, none]) rfl rfl rfl ?_
    refine w_lload_n rfl rfl ?_
    refine w_ldc2 (a := 100000) rfl (by decide +kernel) (by decide) ?_
    refine w_lmul' rfl ?_
    refine w_ldc2 (a := 32768) rfl (by decide +kernel) (by decide) ?_
    refine w_ladd' rfl ?_
    refine w_bipush rfl (by decide) ?_
    refine w_lshrk (c := 65536) rfl (by decide) (by decide) rfl ?_
    refine w_lstore (lv' := [some (2, 418), some (0, l1), some (1, w_64 (-l1)), none, some (1, (w_64 ((w_64 ((w_64 (-l1)) * 100000)) + 32768)) / 65536), none, none, none, none, none]) rfl rfl rfl ?_
    refine w_iload_n rfl rfl ?_
    refine w_ifge rfl (w_ite h (fun h => ?_) (fun h => ?_))
    · refine w_aload_n rfl rfl ?_
      refine w_bipush rfl (by decide) ?_
      refine w_callV (t' := 3) [(0, 45)] [] rfl s_418 rfl rfl ?_
      refine w_C.more (Q := fun r1 m1 => _) h (fun r1 m1 h => ?_)
      replace h := id h
      exact w_W.less h (w_sub [true, false, false, false, true, false, false, false, false, false] rfl)
    · exact w_W.less h (w_sub [true, false, false, false, true, false, false, false, false, false] rfl)
  · refine w_iload_n rfl rfl ?_
    refine w_i2l rfl ?_
    refine w_lstore_n (lv' := [some (2, 418), some (0, l1), some (1, l1), none, none, none, none, none, none, none]) rfl rfl rfl ?_
    refine w_lload_n rfl rfl ?_
    refine w_ldc2 (a := 100000) rfl (by decide +kernel) (by decide) ?_
    refine w_lmul' rfl ?_
    refine w_ldc2 (a := 32768) rfl (by decide +kernel) (by decide) ?_
    refine w_ladd' rfl ?_
    refine w_bipush rfl (by decide) ?_
    refine w_lshrk (c := 65536) rfl (by decide) (by decide) rfl ?_
    refine w_lstore (lv' := [some (2, 418), some (0, l1), some (1, l1), none, some (1, (w_64 ((w_64 (l1 * 100000)) + 32768)) / 65536), none, none, none, none, none]) rfl rfl rfl ?_
    refine w_iload_n rfl rfl ?_
    refine w_ifge rfl (w_ite h (fun h => ?_) (fun h => ?_))
    · refine w_aload_n rfl rfl ?_
      refine w_bipush rfl (by decide) ?_
      refine w_callV (t' := 3) [(0, 45)] [] rfl s_418 rfl rfl ?_
      refine w_C.more (Q := fun r2 m2 => _) h (fun r2 m2 h => ?_)
      replace h := id h
      exact w_W.less h (w_sub [true, false, false, false, true, false, false, false, false, false] rfl)
    · exact w_W.less h (w_sub [true, false, false, false, true, false, false, false, false, false] rfl)
theorem xr_wr_putReal_37 {d : Nat} {l4 : Int} {m : w_M} {Q : Int → w_M → Prop} (h : xc_wr_putNumber d (Int.tdiv l4 100000) m (fun r1 m1 => xc_wr_put d 46 m1 (fun r2 m2 => xc_wr_put d (w_32 (w_64 (48 + (Int.tdiv (Int.tmod l4 100000) 10000)))) m2 (fun r3 m3 => xp_wr_putReal_87 d (Int.tmod (Int.tmod l4 100000) 10000) 10000 m3 Q)))) : xp_wr_putReal_37 d l4 m Q := by
  refine w_aload_n rfl rfl ?_
  refine w_lload rfl rfl ?_
  refine w_ldc2 (a := 100000) rfl (by decide +kernel) (by decide) ?_
  refine w_ldivk rfl (by decide) ?_
  refine w_callV (t' := 3) [(1, Int.tdiv l4 100000)] [] rfl s_418 rfl rfl ?_
  refine w_C.more (Q := fun r1 m1 => _) h (fun r1 m1 h => ?_)
  replace h := id h
  refine w_aload_n rfl rfl ?_
  refine w_bipush rfl (by decide) ?_
  refine w_callV (t' := 3) [(0, 46)] [] rfl s_418 rfl rfl ?_
  refine w_C.more (Q := fun r2 m2 => _) h (fun r2 m2 h => ?_)
  replace h := id h
  refine w_lload rfl rfl ?_
  refine w_ldc2 (a := 100000) rfl (by decide +kernel) (by decide) ?_
  refine w_lremk rfl (by decide) ?_
  refine w_lstore (lv' := [some (2, 418), none, none, none, some (1, l4), none, some (1, Int.tmod l4 100000), none, none, none]) rfl rfl rfl ?_
  refine w_ldc2 (a := 10000) rfl (by decide +kernel) (by decide) ?_
  refine w_lstore (lv' := [some (2, 418), none, none, none, some (1, l4), none, some (1, Int.tmod l4 100000), none, some (1, 10000), none]) rfl rfl rfl ?_
  refine w_aload_n rfl rfl ?_
  refine w_ldc2 (a := 48) rfl (by decide +kernel) (by decide) ?_
  refine w_lload rfl rfl ?_
  refine w_lload rfl rfl ?_
  refine w_ldivk rfl (by decide) ?_
  refine w_ladd' rfl ?_
  refine w_l2i rfl ?_
  refine w_callV (t' := 3) [(0, w_32 (w_64 (48 + (Int.tdiv (Int.tmod l4 100000) 10000))))] [] rfl s_418 rfl rfl ?_
  refine w_C.more (Q := fun r3 m3 => _) h (fun r3 m3 h => ?_)
  replace h := id h
  refine w_lload rfl rfl ?_
  refine w_lload rfl rfl ?_
  refine w_lremk rfl (by decide) ?_
  refine w_lstore (lv' := [some (2, 418), none, none, none, some (1, l4), none, some (1, Int.tmod (Int.tmod l4 100000) 10000), none, some (1, 10000), none]) rfl rfl rfl ?_
  exact w_W.less h (w_sub [true, false, false, false, false, false, true, false, true, false] rfl)
theorem xr_wr_putReal_87 {d : Nat} {l6 l8 : Int} {m : w_M} {Q : Int → w_M → Prop} (h : if 0 < l6 then (if 1 < l8 then ((Int.tdiv l8 10) ≠ 0 ∧ (xc_wr_put d (w_32 (w_64 (48 + (w_ldiv l6 (Int.tdiv l8 10))))) m (fun r1 m1 => (Int.tdiv l8 10) ≠ 0 ∧ (xp_wr_putReal_87 d (w_lrem l6 (Int.tdiv l8 10)) (Int.tdiv l8 10) m1 Q)))) else (Q 0 m)) else (Q 0 m)) : xp_wr_putReal_87 d l6 l8 m Q := by
  refine w_lload rfl rfl ?_
  refine w_lconst rfl rfl ?_
  refine w_lcle rfl rfl (w_ite h (fun h => ?_) (fun h => ?_))
  · refine w_lload rfl rfl ?_
    refine w_lconst rfl rfl ?_
    refine w_lcle rfl rfl (w_ite h (fun h => ?_) (fun h => ?_))
    · refine w_lload rfl rfl ?_
      refine w_ldc2 (a := 10) rfl (by decide +kernel) (by decide) ?_
      refine w_ldivk rfl (by decide) ?_
      refine w_lstore (lv' := [some (2, 418), none, none, none, none, none, some (1, l6), none, some (1, Int.tdiv l8 10), none]) rfl rfl rfl ?_
      refine w_aload_n rfl rfl ?_
      refine w_ldc2 (a := 48) rfl (by decide +kernel) (by decide) ?_
      refine w_lload rfl rfl ?_
      refine w_lload rfl rfl ?_
      refine w_ldiv' rfl h.1 ?_
      replace h := h.2
      refine w_ladd' rfl ?_
      refine w_l2i rfl ?_
      refine w_callV (t' := 3) [(0, w_32 (w_64 (48 + (w_ldiv l6 (Int.tdiv l8 10)))))] [] rfl s_418 rfl rfl ?_
      refine w_C.more (Q := fun r1 m1 => _) h (fun r1 m1 h => ?_)
      replace h := id h
      refine w_lload rfl rfl ?_
      refine w_lload rfl rfl ?_
      refine w_lrem' rfl h.1 ?_
      replace h := h.2
      refine w_lstore (lv' := [some (2, 418), none, none, none, none, none, some (1, w_lrem l6 (Int.tdiv l8 10)), none, some (1, Int.tdiv l8 10), none]) rfl rfl rfl ?_
      refine w_goto rfl ?_
      exact w_W.less h (w_sub [true, false, false, false, false, false, true, false, true, false] rfl)
    · exact w_vret rfl rfl h
  · exact w_vret rfl rfl h
theorem xr_wr_putReference {d : Nat} {l1 : Int} {m : w_M} {Q : Int → w_M → Prop} (h : if (m 418 5) = 0 then (xc_st_oneOf d l1 m (fun r1 m1 => xp_wr_putReference_26 d l1 r1 m1 Q)) else (xc_ta_target d l1 m (fun r2 m2 => xp_wr_putReference_26 d l1 r2 m2 Q))) : xc_wr_putReference (d + 1) l1 m Q := by
  refine w_enter (q := 1) (lv := [some (2, 418), some (0, l1), none]) rfl rfl rfl ?_
  refine w_aload_n rfl rfl ?_
  refine x_gfZ rfl s_418 rfl (kk := 5) rfl rfl ?_
  refine w_ifeq rfl (w_ite h (fun h => ?_) (fun h => ?_))
  · refine w_aload_n rfl rfl ?_
    refine w_gfC (c := 359) rfl s_418 rfl rfl ?_
    refine w_iload_n rfl rfl ?_
    refine w_callV (t' := 0) [(0, l1)] [] rfl s_359 rfl rfl ?_
    refine w_C.more (Q := fun r1 m1 => _) h (fun r1 m1 h => ?_)
    replace h := id h
    exact w_W.less h (w_sub [true, true, false] rfl)
  · refine w_aload_n rfl rfl ?_
    refine w_gfC (c := 366) rfl s_418 rfl rfl ?_
    refine w_iload_n rfl rfl ?_
    refine w_callV (t' := 0) [(0, l1)] [] rfl s_366 rfl rfl ?_
    refine w_C.more (Q := fun r2 m2 => _) h (fun r2 m2 h => ?_)
    replace h := id h
    refine w_goto rfl ?_
    exact w_W.less h (w_sub [true, true, false] rfl)
theorem xr_wr_putReference_26 {d : Nat} {l1 s0 : Int} {m : w_M} {Q : Int → w_M → Prop} (h : if (m 418 5) = 0 then (if (m 418 5) = 0 then (xp_wr_putReference_65 d l1 s0 m Q) else (xc_wr_meet d s0 m (fun r1 m1 => xp_wr_putReference_65 d l1 r1 m1 Q))) else (if s0 = 0 then (xc_wr_putText d 52 m (fun r2 m2 => Q 0 m2)) else (if (m 418 5) = 0 then (xp_wr_putReference_65 d l1 s0 m Q) else (xc_wr_meet d s0 m (fun r3 m3 => xp_wr_putReference_65 d l1 r3 m3 Q))))) : xp_wr_putReference_26 d l1 s0 m Q := by
  refine w_istore_n (lv' := [some (2, 418), some (0, l1), some (0, s0)]) rfl rfl rfl ?_
  refine w_aload_n rfl rfl ?_
  refine x_gfZ rfl s_418 rfl (kk := 5) rfl rfl ?_
  refine w_ifeq rfl (w_ite h (fun h => ?_) (fun h => ?_))
  · refine w_aload_n rfl rfl ?_
    refine w_aload_n rfl rfl ?_
    refine x_gfZ rfl s_418 rfl (kk := 5) rfl rfl ?_
    refine w_ifeq rfl (w_ite h (fun h => ?_) (fun h => ?_))
    · refine w_iload_n rfl rfl ?_
      refine w_i2l rfl ?_
      exact w_W.less h (w_sub [true, true, false] rfl)
    · refine w_aload_n rfl rfl ?_
      refine w_iload_n rfl rfl ?_
      refine w_callV (t' := 0) [(0, s0)] [(2, 418)] rfl s_418 rfl rfl ?_
      refine w_C.more (Q := fun r1 m1 => _) h (fun r1 m1 h => ?_)
      replace h := id h
      refine w_i2l rfl ?_
      refine w_goto rfl ?_
      exact w_W.less h (w_sub [true, true, false] rfl)
  · refine w_iload_n rfl rfl ?_
    refine w_ifne rfl (w_ite h (fun h => ?_) (fun h => ?_))
    · refine w_aload_n rfl rfl ?_
      refine w_ldcwR rfl ?_
      refine w_callV (t' := 3) [(2, 52)] [] rfl s_418 rfl rfl ?_
      refine w_C.more (Q := fun r2 m2 => _) h (fun r2 m2 h => ?_)
      replace h := id h
      exact w_vret rfl rfl h
    · refine w_aload_n rfl rfl ?_
      refine w_aload_n rfl rfl ?_
      refine x_gfZ rfl s_418 rfl (kk := 5) rfl rfl ?_
      refine w_ifeq rfl (w_ite h (fun h => ?_) (fun h => ?_))
      · refine w_iload_n rfl rfl ?_
        refine w_i2l rfl ?_
        exact w_W.less h (w_sub [true, true, false] rfl)
      · refine w_aload_n rfl rfl ?_
        refine w_iload_n rfl rfl ?_
        refine w_callV (t' := 0) [(0, s0)] [(2, 418)] rfl s_418 rfl rfl ?_
        refine w_C.more (Q := fun r3 m3 => _) h (fun r3 m3 h => ?_)
        replace h := id h
        refine w_i2l rfl ?_
        refine w_goto rfl ?_
        exact w_W.less h (w_sub [true, true, false] rfl)
theorem xr_wr_putReference_65 {d : Nat} {l1 s1 : Int} {m : w_M} {Q : Int → w_M → Prop} (h : xc_wr_putNumber d s1 m (fun r1 m1 => xc_wr_put d 32 m1 (fun r2 m2 => if (m2 418 5) = 0 then (xc_st_twoOf d l1 m2 (fun r3 m3 => xc_wr_putNumber d r3 m3 (fun r4 m4 => xc_wr_putText d 54 m4 (fun r5 m5 => Q 0 m5)))) else (xc_wr_putNumber d 0 m2 (fun r6 m6 => xc_wr_putText d 54 m6 (fun r7 m7 => Q 0 m7)))))) : xp_wr_putReference_65 d l1 s1 m Q := by
  refine w_callV (t' := 3) [(1, s1)] [] rfl s_418 rfl rfl ?_
  refine w_C.more (Q := fun r1 m1 => _) h (fun r1 m1 h => ?_)
  replace h := id h
  refine w_aload_n rfl rfl ?_
  refine w_bipush rfl (by decide) ?_
  refine w_callV (t' := 3) [(0, 32)] [] rfl s_418 rfl rfl ?_
  refine w_C.more (Q := fun r2 m2 => _) h (fun r2 m2 h => ?_)
  replace h := id h
  refine w_aload_n rfl rfl ?_
  refine w_aload_n rfl rfl ?_
  refine x_gfZ rfl s_418 rfl (kk := 5) rfl rfl ?_
  refine w_ifeq rfl (w_ite h (fun h => ?_) (fun h => ?_))
  · refine w_aload_n rfl rfl ?_
    refine w_gfC (c := 359) rfl s_418 rfl rfl ?_
    refine w_iload_n rfl rfl ?_
    refine w_callV (t' := 0) [(0, l1)] [(2, 418)] rfl s_359 rfl rfl ?_
    refine w_C.more (Q := fun r3 m3 => _) h (fun r3 m3 h => ?_)
    replace h := id h
    refine w_i2l rfl ?_
    refine w_callV (t' := 3) [(1, r3)] [] rfl s_418 rfl rfl ?_
    refine w_C.more (Q := fun r4 m4 => _) h (fun r4 m4 h => ?_)
    replace h := id h
    refine w_aload_n rfl rfl ?_
    refine w_ldcR rfl ?_
    refine w_callV (t' := 3) [(2, 54)] [] rfl s_418 rfl rfl ?_
    refine w_C.more (Q := fun r5 m5 => _) h (fun r5 m5 h => ?_)
    replace h := id h
    exact w_vret rfl rfl h
  · refine w_lconst rfl rfl ?_
    refine w_goto rfl ?_
    refine w_callV (t' := 3) [(1, 0)] [] rfl s_418 rfl rfl ?_
    refine w_C.more (Q := fun r6 m6 => _) h (fun r6 m6 h => ?_)
    replace h := id h
    refine w_aload_n rfl rfl ?_
    refine w_ldcR rfl ?_
    refine w_callV (t' := 3) [(2, 54)] [] rfl s_418 rfl rfl ?_
    refine w_C.more (Q := fun r7 m7 => _) h (fun r7 m7 h => ?_)
    replace h := id h
    exact w_vret rfl rfl h
theorem xr_wr_putRoot {d : Nat} {l1 l2 : Int} {m : w_M} {Q : Int → w_M → Prop} (h : xc_wr_putText d l1 m (fun r1 m1 => if (m1 418 5) = 0 then (xp_wr_putRoot_24 d l2 l2 m1 Q) else (xc_wr_meet d l2 m1 (fun r2 m2 => xp_wr_putRoot_24 d l2 r2 m2 Q)))) : xc_wr_putRoot (d + 1) l1 l2 m Q := by
  refine w_enter (q := 0) (lv := [some (2, 418), some (2, l1), some (0, l2)]) rfl rfl rfl ?_
  refine w_aload_n rfl rfl ?_
  refine w_aload_n rfl rfl ?_
  refine w_callV (t' := 3) [(2, l1)] [] rfl s_418 rfl rfl ?_
  refine w_C.more (Q := fun r1 m1 => _) h (fun r1 m1 h => ?_)
  replace h := id h
  refine w_aload_n rfl rfl ?_
  refine w_aload_n rfl rfl ?_
  refine x_gfZ rfl s_418 rfl (kk := 5) rfl rfl ?_
  refine w_ifeq rfl (w_ite h (fun h => ?_) (fun h => ?_))
  · refine w_iload_n rfl rfl ?_
    refine w_i2l rfl ?_
    exact w_W.less h (w_sub [true, false, true] rfl)
  · refine w_aload_n rfl rfl ?_
    refine w_iload_n rfl rfl ?_
    refine w_callV (t' := 0) [(0, l2)] [(2, 418)] rfl s_418 rfl rfl ?_
    refine w_C.more (Q := fun r2 m2 => _) h (fun r2 m2 h => ?_)
    replace h := id h
    refine w_i2l rfl ?_
    refine w_goto rfl ?_
    exact w_W.less h (w_sub [true, false, true] rfl)
theorem xr_wr_putRoot_24 {d : Nat} {l2 s1 : Int} {m : w_M} {Q : Int → w_M → Prop} (h : xc_wr_putNumber d s1 m (fun r1 m1 => xc_wr_put d 32 m1 (fun r2 m2 => if (m2 418 5) = 0 then (xc_ta_generationOf d l2 m2 (fun r3 m3 => xc_wr_putNumber d r3 m3 (fun r4 m4 => xc_wr_putText d 54 m4 (fun r5 m5 => Q 0 m5)))) else (xc_wr_putNumber d 0 m2 (fun r6 m6 => xc_wr_putText d 54 m6 (fun r7 m7 => Q 0 m7)))))) : xp_wr_putRoot_24 d l2 s1 m Q := by
  refine w_callV (t' := 3) [(1, s1)] [] rfl s_418 rfl rfl ?_
  refine w_C.more (Q := fun r1 m1 => _) h (fun r1 m1 h => ?_)
  replace h := id h
  refine w_aload_n rfl rfl ?_
  refine w_bipush rfl (by decide) ?_
  refine w_callV (t' := 3) [(0, 32)] [] rfl s_418 rfl rfl ?_
  refine w_C.more (Q := fun r2 m2 => _) h (fun r2 m2 h => ?_)
  replace h := id h
  refine w_aload_n rfl rfl ?_
  refine w_aload_n rfl rfl ?_
  refine x_gfZ rfl s_418 rfl (kk := 5) rfl rfl ?_
  refine w_ifeq rfl (w_ite h (fun h => ?_) (fun h => ?_))
  · refine w_aload_n rfl rfl ?_
    refine w_gfC (c := 366) rfl s_418 rfl rfl ?_
    refine w_iload_n rfl rfl ?_
    refine w_callV (t' := 0) [(0, l2)] [(2, 418)] rfl s_366 rfl rfl ?_
    refine w_C.more (Q := fun r3 m3 => _) h (fun r3 m3 h => ?_)
    replace h := id h
    refine w_i2l rfl ?_
    refine w_callV (t' := 3) [(1, r3)] [] rfl s_418 rfl rfl ?_
    refine w_C.more (Q := fun r4 m4 => _) h (fun r4 m4 h => ?_)
    replace h := id h
    refine w_aload_n rfl rfl ?_
    refine w_ldcR rfl ?_
    refine w_callV (t' := 3) [(2, 54)] [] rfl s_418 rfl rfl ?_
    refine w_C.more (Q := fun r5 m5 => _) h (fun r5 m5 h => ?_)
    replace h := id h
    exact w_vret rfl rfl h
  · refine w_lconst rfl rfl ?_
    refine w_goto rfl ?_
    refine w_callV (t' := 3) [(1, 0)] [] rfl s_418 rfl rfl ?_
    refine w_C.more (Q := fun r6 m6 => _) h (fun r6 m6 h => ?_)
    replace h := id h
    refine w_aload_n rfl rfl ?_
    refine w_ldcR rfl ?_
    refine w_callV (t' := 3) [(2, 54)] [] rfl s_418 rfl rfl ?_
    refine w_C.more (Q := fun r7 m7 => _) h (fun r7 m7 h => ?_)
    replace h := id h
    exact w_vret rfl rfl h
theorem xr_wr_putRoots {d : Nat} {m : w_M} {Q : Int → w_M → Prop} (h : xc_wr_putRoot d 56 (m 366 13) m (fun r1 m1 => if 0 < (m1 366 14) then (xc_wr_putRoot d 58 (m1 366 14) m1 (fun r2 m2 => Q 0 m2)) else (Q 0 m1))) : xc_wr_putRoots (d + 1) m Q := by
  refine w_enter (q := 0) (lv := [some (2, 418)]) rfl rfl rfl ?_
  refine w_aload_n rfl rfl ?_
  refine w_ldcR rfl ?_
  refine w_aload_n rfl rfl ?_
  refine w_gfC (c := 366) rfl s_418 rfl rfl ?_
  refine x_gfI rfl s_366 rfl (kk := 13) rfl rfl ?_
  refine w_callV (t' := 3) [(0, m 366 13), (2, 56)] [] rfl s_418 rfl rfl ?_
  refine w_C.more (Q := fun r1 m1 => _) h (fun r1 m1 h => ?_)
  replace h := id h
  refine w_aload_n rfl rfl ?_
  refine w_gfC (c := 366) rfl s_418 rfl rfl ?_
  refine x_gfI rfl s_366 rfl (kk := 14) rfl rfl ?_
  refine w_ifle rfl (w_ite h (fun h => ?_) (fun h => ?_))
  · refine w_aload_n rfl rfl ?_
    refine w_ldcR rfl ?_
    refine w_aload_n rfl rfl ?_
    refine w_gfC (c := 366) rfl s_418 rfl rfl ?_
    refine x_gfI rfl s_366 rfl (kk := 14) rfl rfl ?_
    refine w_callV (t' := 3) [(0, m1 366 14), (2, 58)] [] rfl s_418 rfl rfl ?_
    refine w_C.more (Q := fun r2 m2 => _) h (fun r2 m2 h => ?_)
    replace h := id h
    exact w_vret rfl rfl h
  · exact w_vret rfl rfl h
theorem xr_wr_putRows {d : Nat} {l1 l2 : Int} {m : w_M} {Q : Int → w_M → Prop} (h : xc_wr_putNumber d l1 m (fun r1 m1 => xc_wr_putText d 60 m1 (fun r2 m2 => xc_wr_putNumber d (w_32 (l1 + 1)) m2 (fun r3 m3 => xc_wr_putText d 62 m3 (fun r4 m4 => xp_wr_putRows_31 d l1 l2 0 1 m4 Q))))) : xc_wr_putRows (d + 1) l1 l2 m Q := by
  refine w_enter (q := 4) (lv := [some (2, 418), some (0, l1), some (0, l2), none, none, none, none]) rfl rfl rfl ?_
  refine w_aload_n rfl rfl ?_
  refine w_iload_n rfl rfl ?_
  refine w_i2l rfl ?_
  refine w_callV (t' := 3) [(1, l1)] [] rfl s_418 rfl rfl ?_
  refine w_C.more (Q := fun r1 m1 => _) h (fun r1 m1 h => ?_)
  replace h := id h
  refine w_aload_n rfl rfl ?_
  refine w_ldcR rfl ?_
  refine w_callV (t' := 3) [(2, 60)] [] rfl s_418 rfl rfl ?_
  refine w_C.more (Q := fun r2 m2 => _) h (fun r2 m2 h => ?_)
  replace h := id h
  refine w_aload_n rfl rfl ?_
  refine w_iload_n rfl rfl ?_
  refine w_iconst rfl (by decide) ?_
  refine w_iadd rfl ?_
  refine w_i2l rfl ?_
  refine w_callV (t' := 3) [(1, w_32 (l1 + 1))] [] rfl s_418 rfl rfl ?_
  refine w_C.more (Q := fun r3 m3 => _) h (fun r3 m3 h => ?_)
  replace h := id h
  refine w_aload_n rfl rfl ?_
  refine w_ldcR rfl ?_
  refine w_callV (t' := 3) [(2, 62)] [] rfl s_418 rfl rfl ?_
  refine w_C.more (Q := fun r4 m4 => _) h (fun r4 m4 h => ?_)
  replace h := id h
  refine w_iconst rfl (by decide) ?_
  refine w_istore_n (lv' := [some (2, 418), some (0, l1), some (0, l2), some (0, 0), none, none, none]) rfl rfl rfl ?_
  refine w_iconst rfl (by decide) ?_
  refine w_istore (lv' := [some (2, 418), some (0, l1), some (0, l2), some (0, 0), some (0, 1), none, none]) rfl rfl rfl ?_
  exact w_W.less h (w_sub [true, true, true, true, true, false, false] rfl)
theorem xr_wr_putRows_31 {d : Nat} {l1 l2 l3 l4 : Int} {m : w_M} {Q : Int → w_M → Prop} (h : if l1 < l4 then (xc_wr_put d 93 m (fun r1 m1 => xc_wr_putRoots d m1 (fun r2 m2 => xc_wr_putText d 64 m2 (fun r3 m3 => xc_wr_putNumber d l2 m3 (fun r4 m4 => xc_wr_squeeze d 423 0 l3 m4 (fun r5 m5 => xc_wr_putText d 66 m5 (fun r6 m6 => xc_wr_putCode d m6 (fun r7 m7 => xc_wr_putText d 50 m7 (fun r8 m8 => Q 0 m8))))))))) else (xc_wr_endOfRow d l4 l1 (w_32 (l1 + 1)) m (fun r9 m9 => if l4 < r9 then (xc_wr_putNumber d l4 m9 (fun r10 m10 => xc_wr_put d 32 m10 (fun r11 m11 => xc_wr_putNumber d (w_32 (r9 - l4)) m11 (fun r12 m12 => xc_wr_put d 32 m12 (fun r13 m13 => xp_wr_putRows_89 d l1 l2 l3 r9 l4 m13 Q))))) else (xp_wr_putRows_89 d l1 l2 l3 r9 l4 m9 Q)))) : xp_wr_putRows_31 d l1 l2 l3 l4 m Q := by
  refine w_iload rfl rfl ?_
  refine w_iload_n rfl rfl ?_
  refine w_icgt rfl (w_ite h (fun h => ?_) (fun h => ?_))
  · refine w_aload_n rfl rfl ?_
    refine w_bipush rfl (by decide) ?_
    refine w_callV (t' := 3) [(0, 93)] [] rfl s_418 rfl rfl ?_
    refine w_C.more (Q := fun r1 m1 => _) h (fun r1 m1 h => ?_)
    replace h := id h
    refine w_aload_n rfl rfl ?_
    refine w_callV (t' := 3) [] [] rfl s_418 rfl rfl ?_
    refine w_C.more (Q := fun r2 m2 => _) h (fun r2 m2 h => ?_)
    replace h := id h
    refine w_aload_n rfl rfl ?_
    refine w_ldcR rfl ?_
    refine w_callV (t' := 3) [(2, 64)] [] rfl s_418 rfl rfl ?_
    refine w_C.more (Q := fun r3 m3 => _) h (fun r3 m3 h => ?_)
    replace h := id h
    refine w_aload_n rfl rfl ?_
    refine w_iload_n rfl rfl ?_
    refine w_i2l rfl ?_
    refine w_callV (t' := 3) [(1, l2)] [] rfl s_418 rfl rfl ?_
    refine w_C.more (Q := fun r4 m4 => _) h (fun r4 m4 h => ?_)
    replace h := id h
    refine w_aload_n rfl rfl ?_
    refine w_aload_n rfl rfl ?_
    refine w_gfC (c := 423) rfl s_418 rfl rfl ?_
    refine w_iconst rfl (by decide) ?_
    refine w_iload_n rfl rfl ?_
    refine w_callV (t' := 3) [(0, l3), (0, 0), (2, 423)] [] rfl s_418 rfl rfl ?_
    refine w_C.more (Q := fun r5 m5 => _) h (fun r5 m5 h => ?_)
    replace h := id h
    refine w_aload_n rfl rfl ?_
    refine w_ldcR rfl ?_
    refine w_callV (t' := 3) [(2, 66)] [] rfl s_418 rfl rfl ?_
    refine w_C.more (Q := fun r6 m6 => _) h (fun r6 m6 h => ?_)
    replace h := id h
    refine w_aload_n rfl rfl ?_
    refine w_callV (t' := 3) [] [] rfl s_418 rfl rfl ?_
    refine w_C.more (Q := fun r7 m7 => _) h (fun r7 m7 h => ?_)
    replace h := id h
    refine w_aload_n rfl rfl ?_
    refine w_ldcR rfl ?_
    refine w_callV (t' := 3) [(2, 50)] [] rfl s_418 rfl rfl ?_
    refine w_C.more (Q := fun r8 m8 => _) h (fun r8 m8 h => ?_)
    replace h := id h
    exact w_vret rfl rfl h
  · refine w_aload_n rfl rfl ?_
    refine w_iload rfl rfl ?_
    refine w_iload_n rfl rfl ?_
    refine w_iload_n rfl rfl ?_
    refine w_iconst rfl (by decide) ?_
    refine w_iadd rfl ?_
    refine w_callV (t' := 0) [(0, w_32 (l1 + 1)), (0, l1), (0, l4)] [] rfl s_418 rfl rfl ?_
    refine w_C.more (Q := fun r9 m9 => _) h (fun r9 m9 h => ?_)
    replace h := id h
    refine w_istore (lv' := [some (2, 418), some (0, l1), some (0, l2), some (0, l3), some (0, l4), some (0, r9), none]) rfl rfl rfl ?_
    refine w_iload rfl rfl ?_
    refine w_iload rfl rfl ?_
    refine w_icle rfl (w_ite h (fun h => ?_) (fun h => ?_))
    · refine w_aload_n rfl rfl ?_
      refine w_iload rfl rfl ?_
      refine w_i2l rfl ?_
      refine w_callV (t' := 3) [(1, l4)] [] rfl s_418 rfl rfl ?_
      refine w_C.more (Q := fun r10 m10 => _) h (fun r10 m10 h => ?_)
      replace h := id h
      refine w_aload_n rfl rfl ?_
      refine w_bipush rfl (by decide) ?_
      refine w_callV (t' := 3) [(0, 32)] [] rfl s_418 rfl rfl ?_
      refine w_C.more (Q := fun r11 m11 => _) h (fun r11 m11 h => ?_)
      replace h := id h
      refine w_aload_n rfl rfl ?_
      refine w_iload rfl rfl ?_
      refine w_iload rfl rfl ?_
      refine w_isub rfl ?_
      refine w_i2l rfl ?_
      refine w_callV (t' := 3) [(1, w_32 (r9 - l4))] [] rfl s_418 rfl rfl ?_
      refine w_C.more (Q := fun r12 m12 => _) h (fun r12 m12 h => ?_)
      replace h := id h
      refine w_aload_n rfl rfl ?_
      refine w_bipush rfl (by decide) ?_
      refine w_callV (t' := 3) [(0, 32)] [] rfl s_418 rfl rfl ?_
      refine w_C.more (Q := fun r13 m13 => _) h (fun r13 m13 h => ?_)
      replace h := id h
      refine w_iload rfl rfl ?_
      refine w_istore (lv' := [some (2, 418), some (0, l1), some (0, l2), some (0, l3), some (0, l4), some (0, r9), some (0, l4)]) rfl rfl rfl ?_
      exact w_W.less h (w_sub [true, true, true, true, false, true, true] rfl)
    · refine w_iload rfl rfl ?_
      refine w_istore (lv' := [some (2, 418), some (0, l1), some (0, l2), some (0, l3), some (0, l4), some (0, r9), some (0, l4)]) rfl rfl rfl ?_
      exact w_W.less h (w_sub [true, true, true, true, false, true, true] rfl)
theorem xr_wr_putRows_89 {d : Nat} {l1 l2 l3 l5 l6 : Int} {m : w_M} {Q : Int → w_M → Prop} (h : if l6 < l5 then (xc_wr_layRow d l3 l6 l1 m (fun r1 m1 => xp_wr_putRows_89 d l1 l2 r1 l5 (w_32 (l6 + 1)) m1 Q)) else (xp_wr_putRows_31 d l1 l2 l3 (w_32 (l5 + 1)) m Q)) : xp_wr_putRows_89 d l1 l2 l3 l5 l6 m Q := by
  refine w_iload rfl rfl ?_
  refine w_iload rfl rfl ?_
  refine w_icge rfl (w_ite h (fun h => ?_) (fun h => ?_))
  · refine w_aload_n rfl rfl ?_
    refine w_iload_n rfl rfl ?_
    refine w_iload rfl rfl ?_
    refine w_iload_n rfl rfl ?_
    refine w_callV (t' := 0) [(0, l1), (0, l6), (0, l3)] [] rfl s_418 rfl rfl ?_
    refine w_C.more (Q := fun r1 m1 => _) h (fun r1 m1 h => ?_)
    replace h := id h
    refine w_istore_n (lv' := [some (2, 418), some (0, l1), some (0, l2), some (0, r1), none, some (0, l5), some (0, l6)]) rfl rfl rfl ?_
    refine w_iinc (lv' := [some (2, 418), some (0, l1), some (0, l2), some (0, r1), none, some (0, l5), some (0, w_32 (l6 + 1))]) rfl rfl rfl rfl ?_
    refine w_goto rfl ?_
    exact w_W.less h (w_sub [true, true, true, true, false, true, true] rfl)
  · refine w_iload rfl rfl ?_
    refine w_iconst rfl (by decide) ?_
    refine w_iadd rfl ?_
    refine w_istore (lv' := [some (2, 418), some (0, l1), some (0, l2), some (0, l3), some (0, w_32 (l5 + 1)), some (0, l5), some (0, l6)]) rfl rfl rfl ?_
    refine w_goto rfl ?_
    exact w_W.less h (w_sub [true, true, true, true, true, false, false] rfl)
theorem xr_wr_putString {d : Nat} {l1 : Int} {m : w_M} {Q : Int → w_M → Prop} (h : xp_wr_putString_4 d l1 1 0 m Q) : xc_wr_putString (d + 1) l1 m Q := by
  refine w_enter (q := 3) (lv := [some (2, 418), some (0, l1), none, none, none]) rfl rfl rfl ?_
  refine w_iconst rfl (by decide) ?_
  refine w_istore_n (lv' := [some (2, 418), some (0, l1), some (0, 1), none, none]) rfl rfl rfl ?_
  refine w_iconst rfl (by decide) ?_
  refine w_istore_n (lv' := [some (2, 418), some (0, l1), some (0, 1), some (0, 0), none]) rfl rfl rfl ?_
  exact w_W.less h (w_sub [true, true, true, true, false] rfl)
theorem xr_wr_putString_4 {d : Nat} {l1 l2 l3 : Int} {m : w_M} {Q : Int → w_M → Prop} (h : xc_st_letters d l1 m (fun r1 m1 => if l3 < r1 then (xc_st_letterOf d l1 l3 m1 (fun r2 m2 => if l2 = 0 then (xp_wr_putString_4 d l1 0 (w_32 (l3 + 1)) m2 Q) else (if r2 < 32 then (xp_wr_putString_4 d l1 0 (w_32 (l3 + 1)) m2 Q) else (if 126 < r2 then (xp_wr_putString_4 d l1 0 (w_32 (l3 + 1)) m2 Q) else (if r2 = 40 then (xp_wr_putString_4 d l1 0 (w_32 (l3 + 1)) m2 Q) else (if r2 = 41 then (xp_wr_putString_4 d l1 0 (w_32 (l3 + 1)) m2 Q) else (if r2 = 92 then (xp_wr_putString_4 d l1 0 (w_32 (l3 + 1)) m2 Q) else (xp_wr_putString_4 d l1 1 (w_32 (l3 + 1)) m2 Q)))))))) else (if l2 = 0 then (xc_wr_put d 60 m1 (fun r3 m3 => xp_wr_putString_95 d l1 l2 0 m3 Q)) else (xc_wr_put d 40 m1 (fun r4 m4 => xp_wr_putString_95 d l1 l2 0 m4 Q))))) : xp_wr_putString_4 d l1 l2 l3 m Q := by
  refine w_iload_n rfl rfl ?_
  refine w_aload_n rfl rfl ?_
  refine w_gfC (c := 359) rfl s_418 rfl rfl ?_
  refine w_iload_n rfl rfl ?_
  refine w_callV (t' := 0) [(0, l1)] [(0, l3)] rfl s_359 rfl rfl ?_
  refine w_C.more (Q := fun r1 m1 => _) h (fun r1 m1 h => ?_)
  replace h := id h
  refine w_icge rfl (w_ite h (fun h => ?_) (fun h => ?_))
  · refine w_aload_n rfl rfl ?_
    refine w_gfC (c := 359) rfl s_418 rfl rfl ?_
    refine w_iload_n rfl rfl ?_
    refine w_iload_n rfl rfl ?_
    refine w_callV (t' := 0) [(0, l3), (0, l1)] [] rfl s_359 rfl rfl ?_
    refine w_C.more (Q := fun r2 m2 => _) h (fun r2 m2 h => ?_)
    replace h := id h
    refine w_istore (lv' := [some (2, 418), some (0, l1), some (0, l2), some (0, l3), some (0, r2)]) rfl rfl rfl ?_
    refine w_iload_n rfl rfl ?_
    refine w_ifeq rfl (w_ite h (fun h => ?_) (fun h => ?_))
    · refine w_iconst rfl (by decide) ?_
      refine w_istore_n (lv' := [some (2, 418), some (0, l1), some (0, 0), some (0, l3), some (0, r2)]) rfl rfl rfl ?_
      refine w_iinc (lv' := [some (2, 418), some (0, l1), some (0, 0), some (0, w_32 (l3 + 1)), some (0, r2)]) rfl rfl rfl rfl ?_
      refine w_goto rfl ?_
      exact w_W.less h (w_sub [true, true, true, true, false] rfl)
    · refine w_iload rfl rfl ?_
      refine w_bipush rfl (by decide) ?_
      refine w_iclt rfl (w_ite h (fun h => ?_) (fun h => ?_))
      · refine w_iconst rfl (by decide) ?_
        refine w_istore_n (lv' := [some (2, 418), some (0, l1), some (0, 0), some (0, l3), some (0, r2)]) rfl rfl rfl ?_
        refine w_iinc (lv' := [some (2, 418), some (0, l1), some (0, 0), some (0, w_32 (l3 + 1)), some (0, r2)]) rfl rfl rfl rfl ?_
        refine w_goto rfl ?_
        exact w_W.less h (w_sub [true, true, true, true, false] rfl)
      · refine w_iload rfl rfl ?_
        refine w_bipush rfl (by decide) ?_
        refine w_icgt rfl (w_ite h (fun h => ?_) (fun h => ?_))
        · refine w_iconst rfl (by decide) ?_
          refine w_istore_n (lv' := [some (2, 418), some (0, l1), some (0, 0), some (0, l3), some (0, r2)]) rfl rfl rfl ?_
          refine w_iinc (lv' := [some (2, 418), some (0, l1), some (0, 0), some (0, w_32 (l3 + 1)), some (0, r2)]) rfl rfl rfl rfl ?_
          refine w_goto rfl ?_
          exact w_W.less h (w_sub [true, true, true, true, false] rfl)
        · refine w_iload rfl rfl ?_
          refine w_bipush rfl (by decide) ?_
          refine w_iceq rfl (w_ite h (fun h => ?_) (fun h => ?_))
          · refine w_iconst rfl (by decide) ?_
            refine w_istore_n (lv' := [some (2, 418), some (0, l1), some (0, 0), some (0, l3), some (0, r2)]) rfl rfl rfl ?_
            refine w_iinc (lv' := [some (2, 418), some (0, l1), some (0, 0), some (0, w_32 (l3 + 1)), some (0, r2)]) rfl rfl rfl rfl ?_
            refine w_goto rfl ?_
            exact w_W.less h (w_sub [true, true, true, true, false] rfl)
          · refine w_iload rfl rfl ?_
            refine w_bipush rfl (by decide) ?_
            refine w_iceq rfl (w_ite h (fun h => ?_) (fun h => ?_))
            · refine w_iconst rfl (by decide) ?_
              refine w_istore_n (lv' := [some (2, 418), some (0, l1), some (0, 0), some (0, l3), some (0, r2)]) rfl rfl rfl ?_
              refine w_iinc (lv' := [some (2, 418), some (0, l1), some (0, 0), some (0, w_32 (l3 + 1)), some (0, r2)]) rfl rfl rfl rfl ?_
              refine w_goto rfl ?_
              exact w_W.less h (w_sub [true, true, true, true, false] rfl)
            · refine w_iload rfl rfl ?_
              refine w_bipush rfl (by decide) ?_
              refine w_iceq rfl (w_ite h (fun h => ?_) (fun h => ?_))
              · refine w_iconst rfl (by decide) ?_
                refine w_istore_n (lv' := [some (2, 418), some (0, l1), some (0, 0), some (0, l3), some (0, r2)]) rfl rfl rfl ?_
                refine w_iinc (lv' := [some (2, 418), some (0, l1), some (0, 0), some (0, w_32 (l3 + 1)), some (0, r2)]) rfl rfl rfl rfl ?_
                refine w_goto rfl ?_
                exact w_W.less h (w_sub [true, true, true, true, false] rfl)
              · refine w_iconst rfl (by decide) ?_
                refine w_goto rfl ?_
                refine w_istore_n (lv' := [some (2, 418), some (0, l1), some (0, 1), some (0, l3), some (0, r2)]) rfl rfl rfl ?_
                refine w_iinc (lv' := [some (2, 418), some (0, l1), some (0, 1), some (0, w_32 (l3 + 1)), some (0, r2)]) rfl rfl rfl rfl ?_
                refine w_goto rfl ?_
                exact w_W.less h (w_sub [true, true, true, true, false] rfl)
  · refine w_aload_n rfl rfl ?_
    refine w_iload_n rfl rfl ?_
    refine w_ifeq rfl (w_ite h (fun h => ?_) (fun h => ?_))
    · refine w_bipush rfl (by decide) ?_
      refine w_callV (t' := 3) [(0, 60)] [] rfl s_418 rfl rfl ?_
      refine w_C.more (Q := fun r3 m3 => _) h (fun r3 m3 h => ?_)
      replace h := id h
      refine w_iconst rfl (by decide) ?_
      refine w_istore_n (lv' := [some (2, 418), some (0, l1), some (0, l2), some (0, 0), none]) rfl rfl rfl ?_
      exact w_W.less h (w_sub [true, true, true, true, false] rfl)
    · refine w_bipush rfl (by decide) ?_
      refine w_goto rfl ?_
      refine w_callV (t' := 3) [(0, 40)] [] rfl s_418 rfl rfl ?_
      refine w_C.more (Q := fun r4 m4 => _) h (fun r4 m4 h => ?_)
      replace h := id h
      refine w_iconst rfl (by decide) ?_
      refine w_istore_n (lv' := [some (2, 418), some (0, l1), some (0, l2), some (0, 0), none]) rfl rfl rfl ?_
      exact w_W.less h (w_sub [true, true, true, true, false] rfl)
theorem xr_wr_putString_95 {d : Nat} {l1 l2 l3 : Int} {m : w_M} {Q : Int → w_M → Prop} (h : xc_st_letters d l1 m (fun r1 m1 => if l3 < r1 then (xc_st_letterOf d l1 l3 m1 (fun r2 m2 => if l2 = 0 then (xc_wr_putHex d r2 m2 (fun r3 m3 => xp_wr_putString_95 d l1 l2 (w_32 (l3 + 1)) m3 Q)) else (xc_wr_put d r2 m2 (fun r4 m4 => xp_wr_putString_95 d l1 l2 (w_32 (l3 + 1)) m4 Q)))) else (if l2 = 0 then (xc_wr_put d 62 m1 (fun r5 m5 => Q 0 m5)) else (xc_wr_put d 41 m1 (fun r6 m6 => Q 0 m6))))) : xp_wr_putString_95 d l1 l2 l3 m Q := by
  refine w_iload_n rfl rfl ?_
  refine w_aload_n rfl rfl ?_
  refine w_gfC (c := 359) rfl s_418 rfl rfl ?_
  refine w_iload_n rfl rfl ?_
  refine w_callV (t' := 0) [(0, l1)] [(0, l3)] rfl s_359 rfl rfl ?_
  refine w_C.more (Q := fun r1 m1 => _) h (fun r1 m1 h => ?_)
  replace h := id h
  refine w_icge rfl (w_ite h (fun h => ?_) (fun h => ?_))
  · refine w_aload_n rfl rfl ?_
    refine w_gfC (c := 359) rfl s_418 rfl rfl ?_
    refine w_iload_n rfl rfl ?_
    refine w_iload_n rfl rfl ?_
    refine w_callV (t' := 0) [(0, l3), (0, l1)] [] rfl s_359 rfl rfl ?_
    refine w_C.more (Q := fun r2 m2 => _) h (fun r2 m2 h => ?_)
    replace h := id h
    refine w_istore (lv' := [some (2, 418), some (0, l1), some (0, l2), some (0, l3), some (0, r2)]) rfl rfl rfl ?_
    refine w_iload_n rfl rfl ?_
    refine w_ifeq rfl (w_ite h (fun h => ?_) (fun h => ?_))
    · refine w_aload_n rfl rfl ?_
      refine w_iload rfl rfl ?_
      refine w_callV (t' := 3) [(0, r2)] [] rfl s_418 rfl rfl ?_
      refine w_C.more (Q := fun r3 m3 => _) h (fun r3 m3 h => ?_)
      replace h := id h
      refine w_iinc (lv' := [some (2, 418), some (0, l1), some (0, l2), some (0, w_32 (l3 + 1)), some (0, r2)]) rfl rfl rfl rfl ?_
      refine w_goto rfl ?_
      exact w_W.less h (w_sub [true, true, true, true, false] rfl)
    · refine w_aload_n rfl rfl ?_
      refine w_iload rfl rfl ?_
      refine w_callV (t' := 3) [(0, r2)] [] rfl s_418 rfl rfl ?_
      refine w_C.more (Q := fun r4 m4 => _) h (fun r4 m4 h => ?_)
      replace h := id h
      refine w_goto rfl ?_
      refine w_iinc (lv' := [some (2, 418), some (0, l1), some (0, l2), some (0, w_32 (l3 + 1)), some (0, r2)]) rfl rfl rfl rfl ?_
      refine w_goto rfl ?_
      exact w_W.less h (w_sub [true, true, true, true, false] rfl)
  · refine w_aload_n rfl rfl ?_
    refine w_iload_n rfl rfl ?_
    refine w_ifeq rfl (w_ite h (fun h => ?_) (fun h => ?_))
    · refine w_bipush rfl (by decide) ?_
      refine w_callV (t' := 3) [(0, 62)] [] rfl s_418 rfl rfl ?_
      refine w_C.more (Q := fun r5 m5 => _) h (fun r5 m5 h => ?_)
      replace h := id h
      exact w_vret rfl rfl h
    · refine w_bipush rfl (by decide) ?_
      refine w_goto rfl ?_
      refine w_callV (t' := 3) [(0, 41)] [] rfl s_418 rfl rfl ?_
      refine w_C.more (Q := fun r6 m6 => _) h (fun r6 m6 h => ?_)
      replace h := id h
      exact w_vret rfl rfl h
theorem xr_wr_putTable {d : Nat} {l1 : Int} {m : w_M} {Q : Int → w_M → Prop} (h : xc_wr_putText d 68 m (fun r1 m1 => xp_wr_putTable_10 d l1 1 1 m1 Q)) : xc_wr_putTable (d + 1) l1 m Q := by
  refine w_enter (q := 4) (lv := [some (2, 418), some (0, l1), none, none, none, none]) rfl rfl rfl ?_
  refine w_aload_n rfl rfl ?_
  refine w_ldcR rfl ?_
  refine w_callV (t' := 3) [(2, 68)] [] rfl s_418 rfl rfl ?_
  refine w_C.more (Q := fun r1 m1 => _) h (fun r1 m1 h => ?_)
  replace h := id h
  refine w_iconst rfl (by decide) ?_
  refine w_istore_n (lv' := [some (2, 418), some (0, l1), some (0, 1), none, none, none]) rfl rfl rfl ?_
  refine w_iconst rfl (by decide) ?_
  refine w_istore_n (lv' := [some (2, 418), some (0, l1), some (0, 1), some (0, 1), none, none]) rfl rfl rfl ?_
  exact w_W.less h (w_sub [true, true, true, true, false, false] rfl)
theorem xr_wr_putTable_10 {d : Nat} {l1 l2 l3 : Int} {m : w_M} {Q : Int → w_M → Prop} (h : if l2 < (m 366 11) then (xc_wr_endOfRow d l2 (-1) (m 366 11) m (fun r1 m1 => if l2 < r1 then (xc_wr_putNumber d l2 m1 (fun r2 m2 => xc_wr_put d 32 m2 (fun r3 m3 => xc_wr_putNumber d (w_32 (r1 - l2)) m3 (fun r4 m4 => xc_wr_put d 10 m4 (fun r5 m5 => xp_wr_putTable_74 d l1 0 r1 l2 m5 Q))))) else (xp_wr_putTable_74 d l1 l3 r1 l2 m1 Q))) else (if l3 = 0 then (xc_wr_putText d 74 m (fun r6 m6 => xc_wr_putNumber d (m6 366 11) m6 (fun r7 m7 => xc_wr_putRoots d m7 (fun r8 m8 => xc_wr_putText d 64 m8 (fun r9 m9 => xc_wr_putNumber d l1 m9 (fun r10 m10 => xc_wr_putText d 76 m10 (fun r11 m11 => Q 0 m11))))))) else (xc_wr_putText d 72 m (fun r12 m12 => xc_wr_putNumber d (m12 366 11) m12 (fun r13 m13 => xc_wr_putRoots d m13 (fun r14 m14 => xc_wr_putText d 64 m14 (fun r15 m15 => xc_wr_putNumber d l1 m15 (fun r16 m16 => xc_wr_putText d 76 m16 (fun r17 m17 => Q 0 m17))))))))) : xp_wr_putTable_10 d l1 l2 l3 m Q := by
  refine w_iload_n rfl rfl ?_
  refine w_aload_n rfl rfl ?_
  refine w_gfC (c := 366) rfl s_418 rfl rfl ?_
  refine x_gfI rfl s_366 rfl (kk := 11) rfl rfl ?_
  refine w_icge rfl (w_ite h (fun h => ?_) (fun h => ?_))
  · refine w_aload_n rfl rfl ?_
    refine w_iload_n rfl rfl ?_
    refine w_iconst rfl (by decide) ?_
    refine w_aload_n rfl rfl ?_
    refine w_gfC (c := 366) rfl s_418 rfl rfl ?_
    refine x_gfI rfl s_366 rfl (kk := 11) rfl rfl ?_
    refine w_callV (t' := 0) [(0, m 366 11), (0, (-1)), (0, l2)] [] rfl s_418 rfl rfl ?_
    refine w_C.more (Q := fun r1 m1 => _) h (fun r1 m1 h => ?_)
    replace h := id h
    refine w_istore (lv' := [some (2, 418), some (0, l1), some (0, l2), some (0, l3), some (0, r1), none]) rfl rfl rfl ?_
    refine w_iload rfl rfl ?_
    refine w_iload_n rfl rfl ?_
    refine w_icle rfl (w_ite h (fun h => ?_) (fun h => ?_))
    · refine w_iconst rfl (by decide) ?_
      refine w_istore_n (lv' := [some (2, 418), some (0, l1), some (0, l2), some (0, 0), some (0, r1), none]) rfl rfl rfl ?_
      refine w_aload_n rfl rfl ?_
      refine w_iload_n rfl rfl ?_
      refine w_i2l rfl ?_
      refine w_callV (t' := 3) [(1, l2)] [] rfl s_418 rfl rfl ?_
      refine w_C.more (Q := fun r2 m2 => _) h (fun r2 m2 h => ?_)
      replace h := id h
      refine w_aload_n rfl rfl ?_
      refine w_bipush rfl (by decide) ?_
      refine w_callV (t' := 3) [(0, 32)] [] rfl s_418 rfl rfl ?_
      refine w_C.more (Q := fun r3 m3 => _) h (fun r3 m3 h => ?_)
      replace h := id h
      refine w_aload_n rfl rfl ?_
      refine w_iload rfl rfl ?_
      refine w_iload_n rfl rfl ?_
      refine w_isub rfl ?_
      refine w_i2l rfl ?_
      refine w_callV (t' := 3) [(1, w_32 (r1 - l2))] [] rfl s_418 rfl rfl ?_
      refine w_C.more (Q := fun r4 m4 => _) h (fun r4 m4 h => ?_)
      replace h := id h
      refine w_aload_n rfl rfl ?_
      refine w_bipush rfl (by decide) ?_
      refine w_callV (t' := 3) [(0, 10)] [] rfl s_418 rfl rfl ?_
      refine w_C.more (Q := fun r5 m5 => _) h (fun r5 m5 h => ?_)
      replace h := id h
      refine w_iload_n rfl rfl ?_
      refine w_istore (lv' := [some (2, 418), some (0, l1), some (0, l2), some (0, 0), some (0, r1), some (0, l2)]) rfl rfl rfl ?_
      exact w_W.less h (w_sub [true, true, false, true, true, true] rfl)
    · refine w_iload_n rfl rfl ?_
      refine w_istore (lv' := [some (2, 418), some (0, l1), some (0, l2), some (0, l3), some (0, r1), some (0, l2)]) rfl rfl rfl ?_
      exact w_W.less h (w_sub [true, true, false, true, true, true] rfl)
  · refine w_aload_n rfl rfl ?_
    refine w_iload_n rfl rfl ?_
    refine w_ifeq rfl (w_ite h (fun h => ?_) (fun h => ?_))
    · refine w_ldcR rfl ?_
      refine w_callV (t' := 3) [(2, 74)] [] rfl s_418 rfl rfl ?_
      refine w_C.more (Q := fun r6 m6 => _) h (fun r6 m6 h => ?_)
      replace h := id h
      refine w_aload_n rfl rfl ?_
      refine w_aload_n rfl rfl ?_
      refine w_gfC (c := 366) rfl s_418 rfl rfl ?_
      refine x_gfI rfl s_366 rfl (kk := 11) rfl rfl ?_
      refine w_i2l rfl ?_
      refine w_callV (t' := 3) [(1, m6 366 11)] [] rfl s_418 rfl rfl ?_
      refine w_C.more (Q := fun r7 m7 => _) h (fun r7 m7 h => ?_)
      replace h := id h
      refine w_aload_n rfl rfl ?_
      refine w_callV (t' := 3) [] [] rfl s_418 rfl rfl ?_
      refine w_C.more (Q := fun r8 m8 => _) h (fun r8 m8 h => ?_)
      replace h := id h
      refine w_aload_n rfl rfl ?_
      refine w_ldcR rfl ?_
      refine w_callV (t' := 3) [(2, 64)] [] rfl s_418 rfl rfl ?_
      refine w_C.more (Q := fun r9 m9 => _) h (fun r9 m9 h => ?_)
      replace h := id h
      refine w_aload_n rfl rfl ?_
      refine w_iload_n rfl rfl ?_
      refine w_i2l rfl ?_
      refine w_callV (t' := 3) [(1, l1)] [] rfl s_418 rfl rfl ?_
      refine w_C.more (Q := fun r10 m10 => _) h (fun r10 m10 h => ?_)
      replace h := id h
      refine w_aload_n rfl rfl ?_
      refine w_ldcR rfl ?_
      refine w_callV (t' := 3) [(2, 76)] [] rfl s_418 rfl rfl ?_
      refine w_C.more (Q := fun r11 m11 => _) h (fun r11 m11 h => ?_)
      replace h := id h
      exact w_vret rfl rfl h
    · refine w_ldcR rfl ?_
      refine w_goto rfl ?_
      refine w_callV (t' := 3) [(2, 72)] [] rfl s_418 rfl rfl ?_
      refine w_C.more (Q := fun r12 m12 => _) h (fun r12 m12 h => ?_)
      replace h := id h
      refine w_aload_n rfl rfl ?_
      refine w_aload_n rfl rfl ?_
      refine w_gfC (c := 366) rfl s_418 rfl rfl ?_
      refine x_gfI rfl s_366 rfl (kk := 11) rfl rfl ?_
      refine w_i2l rfl ?_
      refine w_callV (t' := 3) [(1, m12 366 11)] [] rfl s_418 rfl rfl ?_
      refine w_C.more (Q := fun r13 m13 => _) h (fun r13 m13 h => ?_)
      replace h := id h
      refine w_aload_n rfl rfl ?_
      refine w_callV (t' := 3) [] [] rfl s_418 rfl rfl ?_
      refine w_C.more (Q := fun r14 m14 => _) h (fun r14 m14 h => ?_)
      replace h := id h
      refine w_aload_n rfl rfl ?_
      refine w_ldcR rfl ?_
      refine w_callV (t' := 3) [(2, 64)] [] rfl s_418 rfl rfl ?_
      refine w_C.more (Q := fun r15 m15 => _) h (fun r15 m15 h => ?_)
      replace h := id h
      refine w_aload_n rfl rfl ?_
      refine w_iload_n rfl rfl ?_
      refine w_i2l rfl ?_
      refine w_callV (t' := 3) [(1, l1)] [] rfl s_418 rfl rfl ?_
      refine w_C.more (Q := fun r16 m16 => _) h (fun r16 m16 h => ?_)
      replace h := id h
      refine w_aload_n rfl rfl ?_
      refine w_ldcR rfl ?_
      refine w_callV (t' := 3) [(2, 76)] [] rfl s_418 rfl rfl ?_
      refine w_C.more (Q := fun r17 m17 => _) h (fun r17 m17 h => ?_)
      replace h := id h
      exact w_vret rfl rfl h
theorem xr_wr_putTable_74 {d : Nat} {l1 l3 l4 l5 : Int} {m : w_M} {Q : Int → w_M → Prop} (h : if l5 < l4 then (if l5 < 200 then (xc_ta_isChanged d l5 m (fun r1 m1 => if r1 = 0 then (xc_wr_putText d 70 m1 (fun r2 m2 => xp_wr_putTable_74 d l1 l3 l4 (w_32 (l5 + 1)) m2 Q)) else (((0 : Int) ≤ l5 ∧ l5 < 200) ∧ (xc_ta_generationOf d l5 m1 (fun r3 m3 => xc_wr_putEntry d (m1 422 l5) r3 m3 (fun r4 m4 => xp_wr_putTable_74 d l1 l3 l4 (w_32 (l5 + 1)) m4 Q)))))) else (xp_wr_putTable_10 d l1 (w_32 (l4 + 1)) l3 m Q)) else (xp_wr_putTable_10 d l1 (w_32 (l4 + 1)) l3 m Q)) : xp_wr_putTable_74 d l1 l3 l4 l5 m Q := by
  refine w_iload rfl rfl ?_
  refine w_iload rfl rfl ?_
  refine w_icge rfl (w_ite h (fun h => ?_) (fun h => ?_))
  · refine w_iload rfl rfl ?_
    refine w_aload_n rfl rfl ?_
    refine w_gfC (c := 422) rfl s_418 rfl rfl ?_
    refine w_len rfl s_422 (by decide) (n := 200) rfl (by decide) ?_
    refine w_icge rfl (w_ite h (fun h => ?_) (fun h => ?_))
    · refine w_aload_n rfl rfl ?_
      refine w_gfC (c := 366) rfl s_418 rfl rfl ?_
      refine w_iload rfl rfl ?_
      refine w_callV (t' := 0) [(0, l5)] [] rfl s_366 rfl rfl ?_
      refine w_C.more (Q := fun r1 m1 => _) h (fun r1 m1 h => ?_)
      replace h := id h
      refine w_ifeq rfl (w_ite h (fun h => ?_) (fun h => ?_))
      · refine w_aload_n rfl rfl ?_
        refine w_ldcR rfl ?_
        refine w_callV (t' := 3) [(2, 70)] [] rfl s_418 rfl rfl ?_
        refine w_C.more (Q := fun r2 m2 => _) h (fun r2 m2 h => ?_)
        replace h := id h
        refine w_iinc (lv' := [some (2, 418), some (0, l1), none, some (0, l3), some (0, l4), some (0, w_32 (l5 + 1))]) rfl rfl rfl rfl ?_
        refine w_goto rfl ?_
        exact w_W.less h (w_sub [true, true, false, true, true, true] rfl)
      · refine w_aload_n rfl rfl ?_
        refine w_aload_n rfl rfl ?_
        refine w_gfC (c := 422) rfl s_418 rfl rfl ?_
        refine w_iload rfl rfl ?_
        refine w_iald rfl s_422 (n := 200) rfl h.1 ?_
        replace h := h.2
        refine w_aload_n rfl rfl ?_
        refine w_gfC (c := 366) rfl s_418 rfl rfl ?_
        refine w_iload rfl rfl ?_
        refine w_callV (t' := 0) [(0, l5)] [(0, m1 422 l5), (2, 418)] rfl s_366 rfl rfl ?_
        refine w_C.more (Q := fun r3 m3 => _) h (fun r3 m3 h => ?_)
        replace h := id h
        refine w_callV (t' := 3) [(0, r3), (0, m1 422 l5)] [] rfl s_418 rfl rfl ?_
        refine w_C.more (Q := fun r4 m4 => _) h (fun r4 m4 h => ?_)
        replace h := id h
        refine w_goto rfl ?_
        refine w_iinc (lv' := [some (2, 418), some (0, l1), none, some (0, l3), some (0, l4), some (0, w_32 (l5 + 1))]) rfl rfl rfl rfl ?_
        refine w_goto rfl ?_
        exact w_W.less h (w_sub [true, true, false, true, true, true] rfl)
    · refine w_iload rfl rfl ?_
      refine w_iconst rfl (by decide) ?_
      refine w_iadd rfl ?_
      refine w_istore_n (lv' := [some (2, 418), some (0, l1), some (0, w_32 (l4 + 1)), some (0, l3), some (0, l4), some (0, l5)]) rfl rfl rfl ?_
      refine w_goto rfl ?_
      exact w_W.less h (w_sub [true, true, true, true, false, false] rfl)
  · refine w_iload rfl rfl ?_
    refine w_iconst rfl (by decide) ?_
    refine w_iadd rfl ?_
    refine w_istore_n (lv' := [some (2, 418), some (0, l1), some (0, w_32 (l4 + 1)), some (0, l3), some (0, l4), some (0, l5)]) rfl rfl rfl ?_
    refine w_goto rfl ?_
    exact w_W.less h (w_sub [true, true, true, true, false, false] rfl)
theorem xr_wr_putText {d : Nat} {l1 : Int} {m : w_M} {Q : Int → w_M → Prop} (h : xp_wr_putText_2 d l1 0 m Q) : xc_wr_putText (d + 1) l1 m Q := by
  refine w_enter (q := 1) (lv := [some (2, 418), some (2, l1), none]) rfl rfl rfl ?_
  refine w_iconst rfl (by decide) ?_
  refine w_istore_n (lv' := [some (2, 418), some (2, l1), some (0, 0)]) rfl rfl rfl ?_
  exact w_W.less h (w_sub [true, true, true] rfl)
theorem xr_wr_putText_2 {d : Nat} {l1 l2 : Int} {m : w_M} {Q : Int → w_M → Prop} (h : w_isS l1 ∧ (xc_js_length sC d l1 m (fun r1 m1 => if l2 < r1 then (w_isS l1 ∧ (xc_js_charAt sC d l1 l2 m1 (fun r2 m2 => xc_wr_put d r2 m2 (fun r3 m3 => xp_wr_putText_2 d l1 (w_32 (l2 + 1)) m3 Q)))) else (Q 0 m1)))) : xp_wr_putText_2 d l1 l2 m Q := by
  refine w_iload_n rfl rfl ?_
  refine w_aload_n rfl rfl ?_
  refine w_callV (t' := 0) [] [(0, l2)] rfl (w_isS_s h.1) rfl rfl ?_
  replace h := h.2
  refine w_C.more (Q := fun r1 m1 => _) h (fun r1 m1 h => ?_)
  replace h := id h
  refine w_icge rfl (w_ite h (fun h => ?_) (fun h => ?_))
  · refine w_aload_n rfl rfl ?_
    refine w_aload_n rfl rfl ?_
    refine w_iload_n rfl rfl ?_
    refine w_callV (t' := 0) [(0, l2)] [(2, 418)] rfl (w_isS_s h.1) rfl rfl ?_
    replace h := h.2
    refine w_C.more (Q := fun r2 m2 => _) h (fun r2 m2 h => ?_)
    replace h := id h
    refine w_callV (t' := 3) [(0, r2)] [] rfl s_418 rfl rfl ?_
    refine w_C.more (Q := fun r3 m3 => _) h (fun r3 m3 h => ?_)
    replace h := id h
    refine w_iinc (lv' := [some (2, 418), some (2, l1), some (0, w_32 (l2 + 1))]) rfl rfl rfl rfl ?_
    refine w_goto rfl ?_
    exact w_W.less h (w_sub [true, true, true] rfl)
  · exact w_vret rfl rfl h
theorem xr_wr_putValue {d : Nat} {l1 l2 : Int} {m : w_M} {Q : Int → w_M → Prop} (h : xc_st_kindOf d l1 m (fun r1 m1 => if r1 = 1 then (xc_st_oneOf d l1 m1 (fun r2 m2 => if r2 = 1 then (xc_wr_putText d 78 m2 (fun r3 m3 => Q 0 m3)) else (xc_wr_putText d 80 m2 (fun r4 m4 => Q 0 m4)))) else (if r1 = 2 then (xc_st_oneOf d l1 m1 (fun r5 m5 => xc_wr_putNumber d r5 m5 (fun r6 m6 => Q 0 m6))) else (if r1 = 3 then (xc_st_oneOf d l1 m1 (fun r7 m7 => xc_wr_putReal d r7 m7 (fun r8 m8 => Q 0 m8))) else (if r1 = 4 then (xc_wr_putName d l1 m1 (fun r9 m9 => Q 0 m9)) else (if r1 = 5 then (xc_wr_putString d l1 m1 (fun r10 m10 => Q 0 m10)) else (if r1 = 6 then (xc_wr_putText d 82 m1 (fun r11 m11 => xc_wr_putEntries d l1 l2 0 m11 (fun r12 m12 => xc_wr_putText d 84 m12 (fun r13 m13 => Q 0 m13)))) else (if r1 = 7 then (xc_wr_putText d 48 m1 (fun r14 m14 => xc_wr_putEntries d l1 l2 0 m14 (fun r15 m15 => xc_wr_putText d 86 m15 (fun r16 m16 => Q 0 m16)))) else (if r1 = 8 then (xc_wr_putReference d l1 m1 (fun r17 m17 => Q 0 m17)) else (xc_wr_putText d 52 m1 (fun r18 m18 => Q 0 m18))))))))))) : xc_wr_putValue (d + 1) l1 l2 m Q := by
  refine w_enter (q := 0) (lv := [some (2, 418), some (0, l1), some (0, l2)]) rfl rfl rfl ?_
  refine w_aload_n rfl rfl ?_
  refine w_gfC (c := 359) rfl s_418 rfl rfl ?_
  refine w_iload_n rfl rfl ?_
  refine w_callV (t' := 0) [(0, l1)] [] rfl s_359 rfl rfl ?_
  refine w_C.more (Q := fun r1 m1 => _) h (fun r1 m1 h => ?_)
  replace h := id h
  refine w_tswitch (pd := 166) [(1, 56), (2, 80), (3, 94), (4, 107), (5, 113), (6, 119), (7, 139), (8, 160)] rfl rfl (by decide) (w_tsw_ok _ _ (by decide)) (by decide) ?_
  refine w_ite h (fun h => ?_) (fun h => ?_)
  · refine w_aload_n rfl rfl ?_
    refine w_aload_n rfl rfl ?_
    refine w_gfC (c := 359) rfl s_418 rfl rfl ?_
    refine w_iload_n rfl rfl ?_
    refine w_callV (t' := 0) [(0, l1)] [(2, 418)] rfl s_359 rfl rfl ?_
    refine w_C.more (Q := fun r2 m2 => _) h (fun r2 m2 h => ?_)
    replace h := id h
    refine w_iconst rfl (by decide) ?_
    refine w_icne rfl (w_ite h (fun h => ?_) (fun h => ?_))
    · refine w_ldcR rfl ?_
      refine w_goto rfl ?_
      refine w_callV (t' := 3) [(2, 78)] [] rfl s_418 rfl rfl ?_
      refine w_C.more (Q := fun r3 m3 => _) h (fun r3 m3 h => ?_)
      replace h := id h
      exact w_vret rfl rfl h
    · refine w_ldcR rfl ?_
      refine w_callV (t' := 3) [(2, 80)] [] rfl s_418 rfl rfl ?_
      refine w_C.more (Q := fun r4 m4 => _) h (fun r4 m4 h => ?_)
      replace h := id h
      exact w_vret rfl rfl h
  ·
    refine w_ite h (fun h => ?_) (fun h => ?_)
    · refine w_aload_n rfl rfl ?_
      refine w_aload_n rfl rfl ?_
      refine w_gfC (c := 359) rfl s_418 rfl rfl ?_
      refine w_iload_n rfl rfl ?_
      refine w_callV (t' := 0) [(0, l1)] [(2, 418)] rfl s_359 rfl rfl ?_
      refine w_C.more (Q := fun r5 m5 => _) h (fun r5 m5 h => ?_)
      replace h := id h
      refine w_i2l rfl ?_
      refine w_callV (t' := 3) [(1, r5)] [] rfl s_418 rfl rfl ?_
      refine w_C.more (Q := fun r6 m6 => _) h (fun r6 m6 h => ?_)
      replace h := id h
      exact w_vret rfl rfl h
    ·
      refine w_ite h (fun h => ?_) (fun h => ?_)
      · refine w_aload_n rfl rfl ?_
        refine w_aload_n rfl rfl ?_
        refine w_gfC (c := 359) rfl s_418 rfl rfl ?_
        refine w_iload_n rfl rfl ?_
        refine w_callV (t' := 0) [(0, l1)] [(2, 418)] rfl s_359 rfl rfl ?_
        refine w_C.more (Q := fun r7 m7 => _) h (fun r7 m7 h => ?_)
        replace h := id h
        refine w_callV (t' := 3) [(0, r7)] [] rfl s_418 rfl rfl ?_
        refine w_C.more (Q := fun r8 m8 => _) h (fun r8 m8 h => ?_)
        replace h := id h
        exact w_vret rfl rfl h
      ·
        refine w_ite h (fun h => ?_) (fun h => ?_)
        · refine w_aload_n rfl rfl ?_
          refine w_iload_n rfl rfl ?_
          refine w_callV (t' := 3) [(0, l1)] [] rfl s_418 rfl rfl ?_
          refine w_C.more (Q := fun r9 m9 => _) h (fun r9 m9 h => ?_)
          replace h := id h
          exact w_vret rfl rfl h
        ·
          refine w_ite h (fun h => ?_) (fun h => ?_)
          · refine w_aload_n rfl rfl ?_
            refine w_iload_n rfl rfl ?_
            refine w_callV (t' := 3) [(0, l1)] [] rfl s_418 rfl rfl ?_
            refine w_C.more (Q := fun r10 m10 => _) h (fun r10 m10 h => ?_)
            replace h := id h
            exact w_vret rfl rfl h
          ·
            refine w_ite h (fun h => ?_) (fun h => ?_)
            · refine w_aload_n rfl rfl ?_
              refine w_ldcR rfl ?_
              refine w_callV (t' := 3) [(2, 82)] [] rfl s_418 rfl rfl ?_
              refine w_C.more (Q := fun r11 m11 => _) h (fun r11 m11 h => ?_)
              replace h := id h
              refine w_aload_n rfl rfl ?_
              refine w_iload_n rfl rfl ?_
              refine w_iload_n rfl rfl ?_
              refine w_iconst rfl (by decide) ?_
              refine w_callV (t' := 3) [(0, 0), (0, l2), (0, l1)] [] rfl s_418 rfl rfl ?_
              refine w_C.more (Q := fun r12 m12 => _) h (fun r12 m12 h => ?_)
              replace h := id h
              refine w_aload_n rfl rfl ?_
              refine w_ldcR rfl ?_
              refine w_callV (t' := 3) [(2, 84)] [] rfl s_418 rfl rfl ?_
              refine w_C.more (Q := fun r13 m13 => _) h (fun r13 m13 h => ?_)
              replace h := id h
              exact w_vret rfl rfl h
            ·
              refine w_ite h (fun h => ?_) (fun h => ?_)
              · refine w_aload_n rfl rfl ?_
                refine w_ldcR rfl ?_
                refine w_callV (t' := 3) [(2, 48)] [] rfl s_418 rfl rfl ?_
                refine w_C.more (Q := fun r14 m14 => _) h (fun r14 m14 h => ?_)
                replace h := id h
                refine w_aload_n rfl rfl ?_
                refine w_iload_n rfl rfl ?_
                refine w_iload_n rfl rfl ?_
                refine w_iconst rfl (by decide) ?_
                refine w_callV (t' := 3) [(0, 0), (0, l2), (0, l1)] [] rfl s_418 rfl rfl ?_
                refine w_C.more (Q := fun r15 m15 => _) h (fun r15 m15 h => ?_)
                replace h := id h
                refine w_aload_n rfl rfl ?_
                refine w_ldcwR rfl ?_
                refine w_callV (t' := 3) [(2, 86)] [] rfl s_418 rfl rfl ?_
                refine w_C.more (Q := fun r16 m16 => _) h (fun r16 m16 h => ?_)
                replace h := id h
                exact w_vret rfl rfl h
              ·
                refine w_ite h (fun h => ?_) (fun h => ?_)
                · refine w_aload_n rfl rfl ?_
                  refine w_iload_n rfl rfl ?_
                  refine w_callV (t' := 3) [(0, l1)] [] rfl s_418 rfl rfl ?_
                  refine w_C.more (Q := fun r17 m17 => _) h (fun r17 m17 h => ?_)
                  replace h := id h
                  exact w_vret rfl rfl h
                · refine w_aload_n rfl rfl ?_
                  refine w_ldcwR rfl ?_
                  refine w_callV (t' := 3) [(2, 52)] [] rfl s_418 rfl rfl ?_
                  refine w_C.more (Q := fun r18 m18 => _) h (fun r18 m18 h => ?_)
                  replace h := id h
                  exact w_vret rfl rfl h
theorem xr_wr_remember {d : Nat} {l1 l2 l3 l4 : Int} {m : w_M} {Q : Int → w_M → Prop} (h : xc_wr_hash d l1 l3 l4 m (fun r1 m1 => if r1 < 0 then (Q 0 m1) else (if r1 < 4096 then (if (w_32 (l3 - l2)) < 0 then (Q 0 m1) else (if (w_32 (l3 - l2)) < 8000 then (((0 : Int) ≤ r1 ∧ r1 < 4096) ∧ (((0 : Int) ≤ (w_32 (l3 - l2)) ∧ (w_32 (l3 - l2)) < 8000) ∧ (((0 : Int) ≤ r1 ∧ r1 < 4096) ∧ (Q 0 (w_up (w_up m1 426 (w_32 (l3 - l2)) (m1 425 r1)) 425 r1 (w_32 (l3 - l2))))))) else (Q 0 m1))) else (Q 0 m1)))) : xc_wr_remember (d + 1) l1 l2 l3 l4 m Q := by
  refine w_enter (q := 2) (lv := [some (2, 418), some (2, l1), some (0, l2), some (0, l3), some (0, l4), none, none]) rfl rfl rfl ?_
  refine w_aload_n rfl rfl ?_
  refine w_iload_n rfl rfl ?_
  refine w_iload rfl rfl ?_
  refine w_callS (t' := 0) [(0, l4), (0, l3), (2, l1)] [] rfl (by decide) rfl rfl ?_
  refine w_C.more (Q := fun r1 m1 => _) h (fun r1 m1 h => ?_)
  replace h := id h
  refine w_istore (lv' := [some (2, 418), some (2, l1), some (0, l2), some (0, l3), some (0, l4), some (0, r1), none]) rfl rfl rfl ?_
  refine w_iload_n rfl rfl ?_
  refine w_iload_n rfl rfl ?_
  refine w_isub rfl ?_
  refine w_istore (lv' := [some (2, 418), some (2, l1), some (0, l2), some (0, l3), some (0, l4), some (0, r1), some (0, w_32 (l3 - l2))]) rfl rfl rfl ?_
  refine w_iload rfl rfl ?_
  refine w_iflt rfl (w_ite h (fun h => ?_) (fun h => ?_))
  · exact w_vret rfl rfl h
  · refine w_iload rfl rfl ?_
    refine w_aload_n rfl rfl ?_
    refine w_gfC (c := 425) rfl s_418 rfl rfl ?_
    refine w_len rfl s_425 (by decide) (n := 4096) rfl (by decide) ?_
    refine w_icge rfl (w_ite h (fun h => ?_) (fun h => ?_))
    · refine w_iload rfl rfl ?_
      refine w_iflt rfl (w_ite h (fun h => ?_) (fun h => ?_))
      · exact w_vret rfl rfl h
      · refine w_iload rfl rfl ?_
        refine w_aload_n rfl rfl ?_
        refine w_gfC (c := 426) rfl s_418 rfl rfl ?_
        refine w_len rfl s_426 (by decide) (n := 8000) rfl (by decide) ?_
        refine w_icge rfl (w_ite h (fun h => ?_) (fun h => ?_))
        · refine w_aload_n rfl rfl ?_
          refine w_gfC (c := 426) rfl s_418 rfl rfl ?_
          refine w_iload rfl rfl ?_
          refine w_aload_n rfl rfl ?_
          refine w_gfC (c := 425) rfl s_418 rfl rfl ?_
          refine w_iload rfl rfl ?_
          refine w_iald rfl s_425 (n := 4096) rfl h.1 ?_
          replace h := h.2
          refine w_iast rfl s_426 (w_EC (by decide)) (n := 8000) rfl h.1 ?_
          replace h := h.2
          refine w_aload_n rfl rfl ?_
          refine w_gfC (c := 425) rfl s_418 rfl rfl ?_
          refine w_iload rfl rfl ?_
          refine w_iload rfl rfl ?_
          refine w_iast rfl s_425 (w_EC (by decide)) (n := 4096) rfl h.1 ?_
          replace h := h.2
          exact w_vret rfl rfl h
        · exact w_vret rfl rfl h
    · exact w_vret rfl rfl h
theorem xr_wr_squeeze {d : Nat} {l1 l2 l3 : Int} {m : w_M} {Q : Int → w_M → Prop} (h : w_isR l1 ∧ (xc_wr_push d 120 8 (w_up (w_up (w_up m 418 12 0) 418 13 0) 418 14 0) (fun r1 m1 => xc_wr_push d 156 8 m1 (fun r2 m2 => xc_wr_push d 3 3 m2 (fun r3 m3 => xp_wr_squeeze_59 d l1 l2 l3 (min (w_32 (l2 + (min l3 8000))) (w_ln l1)) l2 m3 Q))))) : xc_wr_squeeze (d + 1) l1 l2 l3 m Q := by
  refine w_enter (q := 4) (lv := [some (2, 418), some (2, l1), some (0, l2), some (0, l3), none, none, none, none]) rfl rfl rfl ?_
  refine w_aload_n rfl rfl ?_
  refine w_iconst rfl (by decide) ?_
  refine w_pfI rfl s_418 rfl (w_EC (by decide)) rfl (kk := 12) rfl ?_
  refine w_aload_n rfl rfl ?_
  refine w_iconst rfl (by decide) ?_
  refine w_pfI rfl s_418 rfl (w_EC (by decide)) rfl (kk := 13) rfl ?_
  refine w_aload_n rfl rfl ?_
  refine w_iconst rfl (by decide) ?_
  refine w_pfI rfl s_418 rfl (w_EC (by decide)) rfl (kk := 14) rfl ?_
  refine w_iload_n rfl rfl ?_
  refine w_iload_n rfl rfl ?_
  refine w_aload_n rfl rfl ?_
  refine w_gfC (c := 426) rfl s_418 rfl rfl ?_
  refine w_len rfl s_426 (by decide) (n := 8000) rfl (by decide) ?_
  refine w_min rfl rfl ?_
  refine w_iadd rfl ?_
  refine w_aload_n rfl rfl ?_
  refine x_len rfl h.1 ?_
  replace h := h.2
  refine w_min rfl rfl ?_
  refine w_istore (lv' := [some (2, 418), some (2, l1), some (0, l2), some (0, l3), some (0, min (w_32 (l2 + (min l3 8000))) (w_ln l1)), none, none, none]) rfl rfl rfl ?_
  refine w_aload_n rfl rfl ?_
  refine w_bipush rfl (by decide) ?_
  refine w_bipush rfl (by decide) ?_
  refine w_callV (t' := 3) [(0, 8), (0, 120)] [] rfl s_418 rfl rfl ?_
  refine w_C.more (Q := fun r1 m1 => _) h (fun r1 m1 h => ?_)
  replace h := id h
  refine w_aload_n rfl rfl ?_
  refine w_sipush rfl (by decide) ?_
  refine w_bipush rfl (by decide) ?_
  refine w_callV (t' := 3) [(0, 8), (0, 156)] [] rfl s_418 rfl rfl ?_
  refine w_C.more (Q := fun r2 m2 => _) h (fun r2 m2 h => ?_)
  replace h := id h
  refine w_aload_n rfl rfl ?_
  refine w_iconst rfl (by decide) ?_
  refine w_iconst rfl (by decide) ?_
  refine w_callV (t' := 3) [(0, 3), (0, 3)] [] rfl s_418 rfl rfl ?_
  refine w_C.more (Q := fun r3 m3 => _) h (fun r3 m3 h => ?_)
  replace h := id h
  refine w_iload_n rfl rfl ?_
  refine w_istore (lv' := [some (2, 418), some (2, l1), some (0, l2), some (0, l3), some (0, min (w_32 (l2 + (min l3 8000))) (w_ln l1)), some (0, l2), none, none]) rfl rfl rfl ?_
  exact w_W.less h (w_sub [true, true, true, true, true, true, false, false] rfl)
theorem xr_wr_squeeze_59 {d : Nat} {l1 l2 l3 l4 l5 : Int} {m : w_M} {Q : Int → w_M → Prop} (h : if l5 < 0 then (xc_wr_pushSymbol d 256 m (fun r1 m1 => xc_wr_push d 0 (Int.tmod (w_32 (8 - (m1 418 14))) 8) m1 (fun r2 m2 => xc_wr_adler d l1 l2 l3 m2 (fun r3 m3 => xp_wr_squeeze_187 d l1 l2 l4 r3 24 m3 Q)))) else (if l5 < l4 then (xc_wr_longest d l1 l2 l5 l4 m (fun r4 m4 => if r4 < 3 then (w_isA 1 l1 ∧ ((0 : Int) ≤ l5 ∧ l5 < w_ln l1) ∧ (xc_wr_pushSymbol d ((m4 l1 l5) % 256) m4 (fun r5 m5 => xp_wr_squeeze_117 d l1 l2 l3 l4 l5 1 l5 m5 Q))) else (xc_wr_pushRow d r4 m4 (fun r6 m6 => xp_wr_squeeze_117 d l1 l2 l3 l4 l5 r4 l5 m6 Q)))) else (xc_wr_pushSymbol d 256 m (fun r7 m7 => xc_wr_push d 0 (Int.tmod (w_32 (8 - (m7 418 14))) 8) m7 (fun r8 m8 => xc_wr_adler d l1 l2 l3 m8 (fun r9 m9 => xp_wr_squeeze_187 d l1 l2 l4 r9 24 m9 Q)))))) : xp_wr_squeeze_59 d l1 l2 l3 l4 l5 m Q := by
  refine w_iload rfl rfl ?_
  refine w_iflt rfl (w_ite h (fun h => ?_) (fun h => ?_))
  · refine w_aload_n rfl rfl ?_
    refine w_sipush rfl (by decide) ?_
    refine w_callV (t' := 3) [(0, 256)] [] rfl s_418 rfl rfl ?_
    refine w_C.more (Q := fun r1 m1 => _) h (fun r1 m1 h => ?_)
    replace h := id h
    refine w_aload_n rfl rfl ?_
    refine w_iconst rfl (by decide) ?_
    refine w_bipush rfl (by decide) ?_
    refine w_aload_n rfl rfl ?_
    refine x_gfI rfl s_418 rfl (kk := 14) rfl rfl ?_
    refine w_isub rfl ?_
    refine w_bipush rfl (by decide) ?_
    refine w_iremk rfl (by decide) ?_
    refine w_callV (t' := 3) [(0, Int.tmod (w_32 (8 - (m1 418 14))) 8), (0, 0)] [] rfl s_418 rfl rfl ?_
    refine w_C.more (Q := fun r2 m2 => _) h (fun r2 m2 h => ?_)
    replace h := id h
    refine w_aload_n rfl rfl ?_
    refine w_iload_n rfl rfl ?_
    refine w_iload_n rfl rfl ?_
    refine w_callS (t' := 0) [(0, l3), (0, l2), (2, l1)] [] rfl (by decide) rfl rfl ?_
    refine w_C.more (Q := fun r3 m3 => _) h (fun r3 m3 h => ?_)
    replace h := id h
    refine w_istore (lv' := [some (2, 418), some (2, l1), some (0, l2), some (0, l3), some (0, l4), some (0, l5), some (0, r3), none]) rfl rfl rfl ?_
    refine w_bipush rfl (by decide) ?_
    refine w_istore (lv' := [some (2, 418), some (2, l1), some (0, l2), some (0, l3), some (0, l4), some (0, l5), some (0, r3), some (0, 24)]) rfl rfl rfl ?_
    exact w_W.less h (w_sub [true, true, true, false, true, false, true, true] rfl)
  · refine w_iload rfl rfl ?_
    refine w_iload rfl rfl ?_
    refine w_icge rfl (w_ite h (fun h => ?_) (fun h => ?_))
    · refine w_aload_n rfl rfl ?_
      refine w_aload_n rfl rfl ?_
      refine w_iload_n rfl rfl ?_
      refine w_iload rfl rfl ?_
      refine w_iload rfl rfl ?_
      refine w_callV (t' := 0) [(0, l4), (0, l5), (0, l2), (2, l1)] [] rfl s_418 rfl rfl ?_
      refine w_C.more (Q := fun r4 m4 => _) h (fun r4 m4 h => ?_)
      replace h := id h
      refine w_istore (lv' := [some (2, 418), some (2, l1), some (0, l2), some (0, l3), some (0, l4), some (0, l5), some (0, r4), none]) rfl rfl rfl ?_
      refine w_iload rfl rfl ?_
      refine w_iconst rfl (by decide) ?_
      refine w_icge rfl (w_ite h (fun h => ?_) (fun h => ?_))
      · refine w_iconst rfl (by decide) ?_
        refine w_istore (lv' := [some (2, 418), some (2, l1), some (0, l2), some (0, l3), some (0, l4), some (0, l5), some (0, 1), none]) rfl rfl rfl ?_
        refine w_aload_n rfl rfl ?_
        refine w_aload_n rfl rfl ?_
        refine w_iload rfl rfl ?_
        refine x_bald rfl h.1 h.2.1 ?_
        replace h := h.2.2
        refine w_sipush rfl (by decide) ?_
        refine w_iandm 8 (c := 256) rfl (by decide) rfl rfl ?_
        refine w_callV (t' := 3) [(0, (m4 l1 l5) % 256)] [] rfl s_418 rfl rfl ?_
        refine w_C.more (Q := fun r5 m5 => _) h (fun r5 m5 h => ?_)
        replace h := id h
        refine w_goto rfl ?_
        refine w_iload rfl rfl ?_
        refine w_istore (lv' := [some (2, 418), some (2, l1), some (0, l2), some (0, l3), some (0, l4), some (0, l5), some (0, 1), some (0, l5)]) rfl rfl rfl ?_
        exact w_W.less h (w_sub [true, true, true, true, true, true, true, true] rfl)
      · refine w_aload_n rfl rfl ?_
        refine w_iload rfl rfl ?_
        refine w_callV (t' := 3) [(0, r4)] [] rfl s_418 rfl rfl ?_
        refine w_C.more (Q := fun r6 m6 => _) h (fun r6 m6 h => ?_)
        replace h := id h
        refine w_iload rfl rfl ?_
        refine w_istore (lv' := [some (2, 418), some (2, l1), some (0, l2), some (0, l3), some (0, l4), some (0, l5), some (0, r4), some (0, l5)]) rfl rfl rfl ?_
        exact w_W.less h (w_sub [true, true, true, true, true, true, true, true] rfl)
    · refine w_aload_n rfl rfl ?_
      refine w_sipush rfl (by decide) ?_
      refine w_callV (t' := 3) [(0, 256)] [] rfl s_418 rfl rfl ?_
      refine w_C.more (Q := fun r7 m7 => _) h (fun r7 m7 h => ?_)
      replace h := id h
      refine w_aload_n rfl rfl ?_
      refine w_iconst rfl (by decide) ?_
      refine w_bipush rfl (by decide) ?_
      refine w_aload_n rfl rfl ?_
      refine x_gfI rfl s_418 rfl (kk := 14) rfl rfl ?_
      refine w_isub rfl ?_
      refine w_bipush rfl (by decide) ?_
      refine w_iremk rfl (by decide) ?_
      refine w_callV (t' := 3) [(0, Int.tmod (w_32 (8 - (m7 418 14))) 8), (0, 0)] [] rfl s_418 rfl rfl ?_
      refine w_C.more (Q := fun r8 m8 => _) h (fun r8 m8 h => ?_)
      replace h := id h
      refine w_aload_n rfl rfl ?_
      refine w_iload_n rfl rfl ?_
      refine w_iload_n rfl rfl ?_
      refine w_callS (t' := 0) [(0, l3), (0, l2), (2, l1)] [] rfl (by decide) rfl rfl ?_
      refine w_C.more (Q := fun r9 m9 => _) h (fun r9 m9 h => ?_)
      replace h := id h
      refine w_istore (lv' := [some (2, 418), some (2, l1), some (0, l2), some (0, l3), some (0, l4), some (0, l5), some (0, r9), none]) rfl rfl rfl ?_
      refine w_bipush rfl (by decide) ?_
      refine w_istore (lv' := [some (2, 418), some (2, l1), some (0, l2), some (0, l3), some (0, l4), some (0, l5), some (0, r9), some (0, 24)]) rfl rfl rfl ?_
      exact w_W.less h (w_sub [true, true, true, false, true, false, true, true] rfl)
theorem xr_wr_squeeze_117 {d : Nat} {l1 l2 l3 l4 l5 l6 l7 : Int} {m : w_M} {Q : Int → w_M → Prop} (h : if l7 < (w_32 (l5 + l6)) then (xc_wr_remember d l1 l2 l7 l4 m (fun r1 m1 => xp_wr_squeeze_117 d l1 l2 l3 l4 l5 l6 (w_32 (l7 + 1)) m1 Q)) else (xp_wr_squeeze_59 d l1 l2 l3 l4 (w_32 (l5 + l6)) m Q)) : xp_wr_squeeze_117 d l1 l2 l3 l4 l5 l6 l7 m Q := by
  refine w_iload rfl rfl ?_
  refine w_iload rfl rfl ?_
  refine w_iload rfl rfl ?_
  refine w_iadd rfl ?_
  refine w_icge rfl (w_ite h (fun h => ?_) (fun h => ?_))
  · refine w_aload_n rfl rfl ?_
    refine w_aload_n rfl rfl ?_
    refine w_iload_n rfl rfl ?_
    refine w_iload rfl rfl ?_
    refine w_iload rfl rfl ?_
    refine w_callV (t' := 3) [(0, l4), (0, l7), (0, l2), (2, l1)] [] rfl s_418 rfl rfl ?_
    refine w_C.more (Q := fun r1 m1 => _) h (fun r1 m1 h => ?_)
    replace h := id h
    refine w_iinc (lv' := [some (2, 418), some (2, l1), some (0, l2), some (0, l3), some (0, l4), some (0, l5), some (0, l6), some (0, w_32 (l7 + 1))]) rfl rfl rfl rfl ?_
    refine w_goto rfl ?_
    exact w_W.less h (w_sub [true, true, true, true, true, true, true, true] rfl)
  · refine w_iload rfl rfl ?_
    refine w_iload rfl rfl ?_
    refine w_iadd rfl ?_
    refine w_istore (lv' := [some (2, 418), some (2, l1), some (0, l2), some (0, l3), some (0, l4), some (0, w_32 (l5 + l6)), some (0, l6), some (0, l7)]) rfl rfl rfl ?_
    refine w_goto rfl ?_
    exact w_W.less h (w_sub [true, true, true, true, true, true, false, false] rfl)
theorem xr_wr_squeeze_187 {d : Nat} {l1 l2 l4 l6 l7 : Int} {m : w_M} {Q : Int → w_M → Prop} (h : if l7 < 0 then (xp_wr_squeeze_216 d l1 l4 l2 m Q) else (xc_wr_push d ((w_shr l6 l7) % 256) 8 m (fun r1 m1 => xp_wr_squeeze_187 d l1 l2 l4 l6 (w_32 (l7 + (-8))) m1 Q))) : xp_wr_squeeze_187 d l1 l2 l4 l6 l7 m Q := by
  refine w_iload rfl rfl ?_
  refine w_iflt rfl (w_ite h (fun h => ?_) (fun h => ?_))
  · refine w_iload_n rfl rfl ?_
    refine w_istore (lv' := [some (2, 418), some (2, l1), some (0, l2), none, some (0, l4), none, some (0, l6), some (0, l2)]) rfl rfl rfl ?_
    exact w_W.less h (w_sub [true, true, false, false, true, false, false, true] rfl)
  · refine w_aload_n rfl rfl ?_
    refine w_iload rfl rfl ?_
    refine w_iload rfl rfl ?_
    refine w_ishr rfl ?_
    refine w_sipush rfl (by decide) ?_
    refine w_iandm 8 (c := 256) rfl (by decide) rfl rfl ?_
    refine w_bipush rfl (by decide) ?_
    refine w_callV (t' := 3) [(0, 8), (0, (w_shr l6 l7) % 256)] [] rfl s_418 rfl rfl ?_
    refine w_C.more (Q := fun r1 m1 => _) h (fun r1 m1 h => ?_)
    replace h := id h
    refine w_iinc (lv' := [some (2, 418), some (2, l1), some (0, l2), none, some (0, l4), none, some (0, l6), some (0, w_32 (l7 + (-8)))]) rfl rfl rfl rfl ?_
    refine w_goto rfl ?_
    exact w_W.less h (w_sub [true, true, true, false, true, false, true, true] rfl)
theorem xr_wr_squeeze_216 {d : Nat} {l1 l4 l7 : Int} {m : w_M} {Q : Int → w_M → Prop} (h : if l7 < l4 then (xc_wr_forget d l1 l7 l4 m (fun r1 m1 => xp_wr_squeeze_216 d l1 l4 (w_32 (l7 + 1)) m1 Q)) else (Q 0 m)) : xp_wr_squeeze_216 d l1 l4 l7 m Q := by
  refine w_iload rfl rfl ?_
  refine w_iload rfl rfl ?_
  refine w_icge rfl (w_ite h (fun h => ?_) (fun h => ?_))
  · refine w_aload_n rfl rfl ?_
    refine w_aload_n rfl rfl ?_
    refine w_iload rfl rfl ?_
    refine w_iload rfl rfl ?_
    refine w_callV (t' := 3) [(0, l4), (0, l7), (2, l1)] [] rfl s_418 rfl rfl ?_
    refine w_C.more (Q := fun r1 m1 => _) h (fun r1 m1 h => ?_)
    replace h := id h
    refine w_iinc (lv' := [some (2, 418), some (2, l1), none, none, some (0, l4), none, none, some (0, w_32 (l7 + 1))]) rfl rfl rfl rfl ?_
    refine w_goto rfl ?_
    exact w_W.less h (w_sub [true, true, false, false, true, false, false, true] rfl)
  · exact w_vret rfl rfl h
theorem xr_wr_writeMore {d : Nat} {l1 l2 l3 l4 : Int} {m : w_M} {Q : Int → w_M → Prop} (h : xc_ta_spare d (w_up m 418 5 0) (fun r1 m1 => if l4 = 0 then (xp_wr_writeMore_29 d l1 l2 l3 l4 r1 0 m1 Q) else (if r1 < 0 then (Q (-1) m1) else (xp_wr_writeMore_29 d l1 l2 l3 l4 r1 0 m1 Q)))) : xc_wr_writeMore (d + 1) l1 l2 l3 l4 m Q := by
  refine w_enter (q := 2) (lv := [some (2, 418), some (2, l1), some (0, l2), some (0, l3), some (0, l4), none, none]) rfl rfl rfl ?_
  refine w_aload_n rfl rfl ?_
  refine w_iconst rfl (by decide) ?_
  refine w_pfZ rfl s_418 rfl (w_EC (by decide)) rfl (kk := 5) rfl (by decide) ?_
  refine w_aload_n rfl rfl ?_
  refine w_gfC (c := 366) rfl s_418 rfl rfl ?_
  refine w_callV (t' := 0) [] [] rfl s_366 rfl rfl ?_
  refine w_C.more (Q := fun r1 m1 => _) h (fun r1 m1 h => ?_)
  replace h := id h
  refine w_istore (lv' := [some (2, 418), some (2, l1), some (0, l2), some (0, l3), some (0, l4), some (0, r1), none]) rfl rfl rfl ?_
  refine w_iload rfl rfl ?_
  refine w_ifeq rfl (w_ite h (fun h => ?_) (fun h => ?_))
  · refine w_iconst rfl (by decide) ?_
    refine w_istore (lv' := [some (2, 418), some (2, l1), some (0, l2), some (0, l3), some (0, l4), some (0, r1), some (0, 0)]) rfl rfl rfl ?_
    exact w_W.less h (w_sub [true, true, true, true, true, true, true] rfl)
  · refine w_iload rfl rfl ?_
    refine w_ifge rfl (w_ite h (fun h => ?_) (fun h => ?_))
    · refine w_iconst rfl (by decide) ?_
      exact w_iret rfl rfl h
    · refine w_iconst rfl (by decide) ?_
      refine w_istore (lv' := [some (2, 418), some (2, l1), some (0, l2), some (0, l3), some (0, l4), some (0, r1), some (0, 0)]) rfl rfl rfl ?_
      exact w_W.less h (w_sub [true, true, true, true, true, true, true] rfl)
theorem xr_wr_writeMore_29 {d : Nat} {l1 l2 l3 l4 l5 l6 : Int} {m : w_M} {Q : Int → w_M → Prop} (h : if l6 < l2 then (w_isR l1 ∧ (if l6 < (w_ln l1) then (w_isA 1 l1 ∧ ((0 : Int) ≤ l6 ∧ l6 < w_ln l1) ∧ (xc_wr_put d (m l1 l6) m (fun r1 m1 => xp_wr_writeMore_29 d l1 l2 l3 l4 l5 (w_32 (l6 + 1)) m1 Q))) else (xc_wr_byteAt d (w_32 ((m 418 3) - 1)) m (fun r2 m2 => if r2 = 10 then (xp_wr_writeMore_80 d l3 l4 l5 1 m2 Q) else (xc_wr_put d 10 m2 (fun r3 m3 => xp_wr_writeMore_80 d l3 l4 l5 1 m3 Q)))))) else (xc_wr_byteAt d (w_32 ((m 418 3) - 1)) m (fun r4 m4 => if r4 = 10 then (xp_wr_writeMore_80 d l3 l4 l5 1 m4 Q) else (xc_wr_put d 10 m4 (fun r5 m5 => xp_wr_writeMore_80 d l3 l4 l5 1 m5 Q))))) : xp_wr_writeMore_29 d l1 l2 l3 l4 l5 l6 m Q := by
  refine w_iload rfl rfl ?_
  refine w_iload_n rfl rfl ?_
  refine w_icge rfl (w_ite h (fun h => ?_) (fun h => ?_))
  · refine w_iload rfl rfl ?_
    refine w_aload_n rfl rfl ?_
    refine x_len rfl h.1 ?_
    replace h := h.2
    refine w_icge rfl (w_ite h (fun h => ?_) (fun h => ?_))
    · refine w_aload_n rfl rfl ?_
      refine w_aload_n rfl rfl ?_
      refine w_iload rfl rfl ?_
      refine x_bald rfl h.1 h.2.1 ?_
      replace h := h.2.2
      refine w_callV (t' := 3) [(0, m l1 l6)] [] rfl s_418 rfl rfl ?_
      refine w_C.more (Q := fun r1 m1 => _) h (fun r1 m1 h => ?_)
      replace h := id h
      refine w_iinc (lv' := [some (2, 418), some (2, l1), some (0, l2), some (0, l3), some (0, l4), some (0, l5), some (0, w_32 (l6 + 1))]) rfl rfl rfl rfl ?_
      refine w_goto rfl ?_
      exact w_W.less h (w_sub [true, true, true, true, true, true, true] rfl)
    · refine w_aload_n rfl rfl ?_
      refine w_aload_n rfl rfl ?_
      refine x_gfI rfl s_418 rfl (kk := 3) rfl rfl ?_
      refine w_iconst rfl (by decide) ?_
      refine w_isub rfl ?_
      refine w_callV (t' := 0) [(0, w_32 ((m 418 3) - 1))] [] rfl s_418 rfl rfl ?_
      refine w_C.more (Q := fun r2 m2 => _) h (fun r2 m2 h => ?_)
      replace h := id h
      refine w_bipush rfl (by decide) ?_
      refine w_iceq rfl (w_ite h (fun h => ?_) (fun h => ?_))
      · refine w_iconst rfl (by decide) ?_
        refine w_istore (lv' := [some (2, 418), some (2, l1), some (0, l2), some (0, l3), some (0, l4), some (0, l5), some (0, 1)]) rfl rfl rfl ?_
        exact w_W.less h (w_sub [true, false, false, true, true, true, true] rfl)
      · refine w_aload_n rfl rfl ?_
        refine w_bipush rfl (by decide) ?_
        refine w_callV (t' := 3) [(0, 10)] [] rfl s_418 rfl rfl ?_
        refine w_C.more (Q := fun r3 m3 => _) h (fun r3 m3 h => ?_)
        replace h := id h
        refine w_iconst rfl (by decide) ?_
        refine w_istore (lv' := [some (2, 418), some (2, l1), some (0, l2), some (0, l3), some (0, l4), some (0, l5), some (0, 1)]) rfl rfl rfl ?_
        exact w_W.less h (w_sub [true, false, false, true, true, true, true] rfl)
  · refine w_aload_n rfl rfl ?_
    refine w_aload_n rfl rfl ?_
    refine x_gfI rfl s_418 rfl (kk := 3) rfl rfl ?_
    refine w_iconst rfl (by decide) ?_
    refine w_isub rfl ?_
    refine w_callV (t' := 0) [(0, w_32 ((m 418 3) - 1))] [] rfl s_418 rfl rfl ?_
    refine w_C.more (Q := fun r4 m4 => _) h (fun r4 m4 h => ?_)
    replace h := id h
    refine w_bipush rfl (by decide) ?_
    refine w_iceq rfl (w_ite h (fun h => ?_) (fun h => ?_))
    · refine w_iconst rfl (by decide) ?_
      refine w_istore (lv' := [some (2, 418), some (2, l1), some (0, l2), some (0, l3), some (0, l4), some (0, l5), some (0, 1)]) rfl rfl rfl ?_
      exact w_W.less h (w_sub [true, false, false, true, true, true, true] rfl)
    · refine w_aload_n rfl rfl ?_
      refine w_bipush rfl (by decide) ?_
      refine w_callV (t' := 3) [(0, 10)] [] rfl s_418 rfl rfl ?_
      refine w_C.more (Q := fun r5 m5 => _) h (fun r5 m5 h => ?_)
      replace h := id h
      refine w_iconst rfl (by decide) ?_
      refine w_istore (lv' := [some (2, 418), some (2, l1), some (0, l2), some (0, l3), some (0, l4), some (0, l5), some (0, 1)]) rfl rfl rfl ?_
      exact w_W.less h (w_sub [true, false, false, true, true, true, true] rfl)
theorem xr_wr_writeMore_80 {d : Nat} {l3 l4 l5 l6 : Int} {m : w_M} {Q : Int → w_M → Prop} (h : if l6 < (m 366 11) then (if l6 < 200 then (if (m 418 4) = 0 then (xc_ta_isChanged d l6 m (fun r1 m1 => if r1 = 0 then (xp_wr_writeMore_80 d l3 l4 l5 (w_32 (l6 + 1)) m1 Q) else (((0 : Int) ≤ l6 ∧ l6 < 200) ∧ (xc_ta_generationOf d l6 (w_up m1 422 l6 (m1 418 3)) (fun r2 m2 => xc_wr_putObject d l6 l6 r2 m2 (fun r3 m3 => xp_wr_writeMore_80 d l3 l4 l5 (w_32 (l6 + 1)) m3 Q)))))) else (xp_wr_writeMore_155 d l3 l4 l5 m Q)) else (xp_wr_writeMore_155 d l3 l4 l5 m Q)) else (xp_wr_writeMore_155 d l3 l4 l5 m Q)) : xp_wr_writeMore_80 d l3 l4 l5 l6 m Q := by
  refine w_iload rfl rfl ?_
  refine w_aload_n rfl rfl ?_
  refine w_gfC (c := 366) rfl s_418 rfl rfl ?_
  refine x_gfI rfl s_366 rfl (kk := 11) rfl rfl ?_
  refine w_icge rfl (w_ite h (fun h => ?_) (fun h => ?_))
  · refine w_iload rfl rfl ?_
    refine w_aload_n rfl rfl ?_
    refine w_gfC (c := 422) rfl s_418 rfl rfl ?_
    refine w_len rfl s_422 (by decide) (n := 200) rfl (by decide) ?_
    refine w_icge rfl (w_ite h (fun h => ?_) (fun h => ?_))
    · refine w_aload_n rfl rfl ?_
      refine x_gfZ rfl s_418 rfl (kk := 4) rfl rfl ?_
      refine w_ifne rfl (w_ite h (fun h => ?_) (fun h => ?_))
      · refine w_aload_n rfl rfl ?_
        refine w_gfC (c := 366) rfl s_418 rfl rfl ?_
        refine w_iload rfl rfl ?_
        refine w_callV (t' := 0) [(0, l6)] [] rfl s_366 rfl rfl ?_
        refine w_C.more (Q := fun r1 m1 => _) h (fun r1 m1 h => ?_)
        replace h := id h
        refine w_ifeq rfl (w_ite h (fun h => ?_) (fun h => ?_))
        · refine w_iinc (lv' := [some (2, 418), none, none, some (0, l3), some (0, l4), some (0, l5), some (0, w_32 (l6 + 1))]) rfl rfl rfl rfl ?_
          refine w_goto rfl ?_
          exact w_W.less h (w_sub [true, false, false, true, true, true, true] rfl)
        · refine w_aload_n rfl rfl ?_
          refine w_gfC (c := 422) rfl s_418 rfl rfl ?_
          refine w_iload rfl rfl ?_
          refine w_aload_n rfl rfl ?_
          refine x_gfI rfl s_418 rfl (kk := 3) rfl rfl ?_
          refine w_iast rfl s_422 (w_EC (by decide)) (n := 200) rfl h.1 ?_
          replace h := h.2
          refine w_aload_n rfl rfl ?_
          refine w_iload rfl rfl ?_
          refine w_iload rfl rfl ?_
          refine w_aload_n rfl rfl ?_
          refine w_gfC (c := 366) rfl s_418 rfl rfl ?_
          refine w_iload rfl rfl ?_
          refine w_callV (t' := 0) [(0, l6)] [(0, l6), (0, l6), (2, 418)] rfl s_366 rfl rfl ?_
          refine w_C.more (Q := fun r2 m2 => _) h (fun r2 m2 h => ?_)
          replace h := id h
          refine w_callV (t' := 3) [(0, r2), (0, l6), (0, l6)] [] rfl s_418 rfl rfl ?_
          refine w_C.more (Q := fun r3 m3 => _) h (fun r3 m3 h => ?_)
          replace h := id h
          refine w_iinc (lv' := [some (2, 418), none, none, some (0, l3), some (0, l4), some (0, l5), some (0, w_32 (l6 + 1))]) rfl rfl rfl rfl ?_
          refine w_goto rfl ?_
          exact w_W.less h (w_sub [true, false, false, true, true, true, true] rfl)
      · exact w_W.less h (w_sub [true, false, false, true, true, true, false] rfl)
    · exact w_W.less h (w_sub [true, false, false, true, true, true, false] rfl)
  · exact w_W.less h (w_sub [true, false, false, true, true, true, false] rfl)
theorem xr_wr_writeMore_155 {d : Nat} {l3 l4 l5 : Int} {m : w_M} {Q : Int → w_M → Prop} (h : if l4 = 0 then (xc_wr_putTable d l3 m (fun r1 m1 => xc_wr_putEnd d (m 418 3) m1 (fun r2 m2 => xc_wr_finish d m2 (fun r3 m3 => Q r3 m3)))) else (if l5 < 200 then (((0 : Int) ≤ l5 ∧ l5 < 200) ∧ (xc_wr_putRows d l5 l3 (w_up m 422 l5 (m 418 3)) (fun r4 m4 => xc_wr_putEnd d (m 418 3) m4 (fun r5 m5 => xc_wr_finish d m5 (fun r6 m6 => Q r6 m6))))) else (xc_wr_putTable d l3 m (fun r7 m7 => xc_wr_putEnd d (m 418 3) m7 (fun r8 m8 => xc_wr_finish d m8 (fun r9 m9 => Q r9 m9)))))) : xp_wr_writeMore_155 d l3 l4 l5 m Q := by
  refine w_aload_n rfl rfl ?_
  refine x_gfI rfl s_418 rfl (kk := 3) rfl rfl ?_
  refine w_istore (lv' := [some (2, 418), none, none, some (0, l3), some (0, l4), some (0, l5), some (0, m 418 3)]) rfl rfl rfl ?_
  refine w_iload rfl rfl ?_
  refine w_ifeq rfl (w_ite h (fun h => ?_) (fun h => ?_))
  · refine w_aload_n rfl rfl ?_
    refine w_iload_n rfl rfl ?_
    refine w_callV (t' := 3) [(0, l3)] [] rfl s_418 rfl rfl ?_
    refine w_C.more (Q := fun r1 m1 => _) h (fun r1 m1 h => ?_)
    replace h := id h
    refine w_aload_n rfl rfl ?_
    refine w_iload rfl rfl ?_
    refine w_callV (t' := 3) [(0, m 418 3)] [] rfl s_418 rfl rfl ?_
    refine w_C.more (Q := fun r2 m2 => _) h (fun r2 m2 h => ?_)
    replace h := id h
    refine w_aload_n rfl rfl ?_
    refine w_callV (t' := 0) [] [] rfl s_418 rfl rfl ?_
    refine w_C.more (Q := fun r3 m3 => _) h (fun r3 m3 h => ?_)
    replace h := id h
    exact w_iret rfl rfl h
  · refine w_iload rfl rfl ?_
    refine w_aload_n rfl rfl ?_
    refine w_gfC (c := 422) rfl s_418 rfl rfl ?_
    refine w_len rfl s_422 (by decide) (n := 200) rfl (by decide) ?_
    refine w_icge rfl (w_ite h (fun h => ?_) (fun h => ?_))
    · refine w_aload_n rfl rfl ?_
      refine w_gfC (c := 422) rfl s_418 rfl rfl ?_
      refine w_iload rfl rfl ?_
      refine w_aload_n rfl rfl ?_
      refine x_gfI rfl s_418 rfl (kk := 3) rfl rfl ?_
      refine w_iast rfl s_422 (w_EC (by decide)) (n := 200) rfl h.1 ?_
      replace h := h.2
      refine w_aload_n rfl rfl ?_
      refine w_iload rfl rfl ?_
      refine w_iload_n rfl rfl ?_
      refine w_callV (t' := 3) [(0, l3), (0, l5)] [] rfl s_418 rfl rfl ?_
      refine w_C.more (Q := fun r4 m4 => _) h (fun r4 m4 h => ?_)
      replace h := id h
      refine w_goto rfl ?_
      refine w_aload_n rfl rfl ?_
      refine w_iload rfl rfl ?_
      refine w_callV (t' := 3) [(0, m 418 3)] [] rfl s_418 rfl rfl ?_
      refine w_C.more (Q := fun r5 m5 => _) h (fun r5 m5 h => ?_)
      replace h := id h
      refine w_aload_n rfl rfl ?_
      refine w_callV (t' := 0) [] [] rfl s_418 rfl rfl ?_
      refine w_C.more (Q := fun r6 m6 => _) h (fun r6 m6 h => ?_)
      replace h := id h
      exact w_iret rfl rfl h
    · refine w_aload_n rfl rfl ?_
      refine w_iload_n rfl rfl ?_
      refine w_callV (t' := 3) [(0, l3)] [] rfl s_418 rfl rfl ?_
      refine w_C.more (Q := fun r7 m7 => _) h (fun r7 m7 h => ?_)
      replace h := id h
      refine w_aload_n rfl rfl ?_
      refine w_iload rfl rfl ?_
      refine w_callV (t' := 3) [(0, m 418 3)] [] rfl s_418 rfl rfl ?_
      refine w_C.more (Q := fun r8 m8 => _) h (fun r8 m8 h => ?_)
      replace h := id h
      refine w_aload_n rfl rfl ?_
      refine w_callV (t' := 0) [] [] rfl s_418 rfl rfl ?_
      refine w_C.more (Q := fun r9 m9 => _) h (fun r9 m9 h => ?_)
      replace h := id h
      exact w_iret rfl rfl h
theorem xr_wr_writeWhole {d : Nat} {m : w_M} {Q : Int → w_M → Prop} (h : xc_ja_fill sC d 420 0 (w_up (w_up m 418 5 1) 418 9 0) (fun r1 m1 => xc_wr_putText d 88 m1 (fun r2 m2 => xc_wr_meet d (m2 366 13) m2 (fun r3 m3 => xc_wr_meet d (m3 366 14) m3 (fun r4 m4 => xp_wr_writeWhole_50 d 0 m4 Q))))) : xc_wr_writeWhole (d + 1) m Q := by
  refine w_enter (q := 2) (lv := [some (2, 418), none, none]) rfl rfl rfl ?_
  refine w_aload_n rfl rfl ?_
  refine w_iconst rfl (by decide) ?_
  refine w_pfZ rfl s_418 rfl (w_EC (by decide)) rfl (kk := 5) rfl (by decide) ?_
  refine w_aload_n rfl rfl ?_
  refine w_iconst rfl (by decide) ?_
  refine w_pfI rfl s_418 rfl (w_EC (by decide)) rfl (kk := 9) rfl ?_
  refine w_aload_n rfl rfl ?_
  refine w_gfC (c := 420) rfl s_418 rfl rfl ?_
  refine w_iconst rfl (by decide) ?_
  refine w_callS (t' := 3) [(0, 0), (2, 420)] [] rfl (by decide) rfl rfl ?_
  refine w_C.more (Q := fun r1 m1 => _) h (fun r1 m1 h => ?_)
  replace h := id h
  refine w_aload_n rfl rfl ?_
  refine w_ldcR rfl ?_
  refine w_callV (t' := 3) [(2, 88)] [] rfl s_418 rfl rfl ?_
  refine w_C.more (Q := fun r2 m2 => _) h (fun r2 m2 h => ?_)
  replace h := id h
  refine w_aload_n rfl rfl ?_
  refine w_aload_n rfl rfl ?_
  refine w_gfC (c := 366) rfl s_418 rfl rfl ?_
  refine x_gfI rfl s_366 rfl (kk := 13) rfl rfl ?_
  refine w_callV (t' := 0) [(0, m2 366 13)] [] rfl s_418 rfl rfl ?_
  refine w_C.more (Q := fun r3 m3 => _) h (fun r3 m3 h => ?_)
  replace h := id h
  refine w_pop rfl (show (0 : Nat) ≠ 1 by decide) ?_
  refine w_aload_n rfl rfl ?_
  refine w_aload_n rfl rfl ?_
  refine w_gfC (c := 366) rfl s_418 rfl rfl ?_
  refine x_gfI rfl s_366 rfl (kk := 14) rfl rfl ?_
  refine w_callV (t' := 0) [(0, m3 366 14)] [] rfl s_418 rfl rfl ?_
  refine w_C.more (Q := fun r4 m4 => _) h (fun r4 m4 h => ?_)
  replace h := id h
  refine w_pop rfl (show (0 : Nat) ≠ 1 by decide) ?_
  refine w_iconst rfl (by decide) ?_
  refine w_istore_n (lv' := [some (2, 418), some (0, 0), none]) rfl rfl rfl ?_
  exact w_W.less h (w_sub [true, true, false] rfl)
theorem xr_wr_writeWhole_50 {d : Nat} {l1 : Int} {m : w_M} {Q : Int → w_M → Prop} (h : if l1 < (m 418 9) then (if (w_32 (l1 + 1)) < 200 then (if (m 418 4) = 0 then (((0 : Int) ≤ (w_32 (l1 + 1)) ∧ (w_32 (l1 + 1)) < 200) ∧ (((0 : Int) ≤ l1 ∧ l1 < 200) ∧ (xc_wr_putObject d ((w_up m 422 (w_32 (l1 + 1)) (m 418 3)) 421 l1) (w_32 (l1 + 1)) 0 (w_up m 422 (w_32 (l1 + 1)) (m 418 3)) (fun r1 m1 => xp_wr_writeWhole_50 d (w_32 (l1 + 1)) m1 Q)))) else (xc_wr_putText d 90 m (fun r2 m2 => xc_wr_putNumber d (w_32 ((m2 418 9) + 1)) m2 (fun r3 m3 => xc_wr_putText d 92 m3 (fun r4 m4 => xp_wr_writeWhole_138 d (m 418 3) 1 m4 Q))))) else (xc_wr_putText d 90 m (fun r5 m5 => xc_wr_putNumber d (w_32 ((m5 418 9) + 1)) m5 (fun r6 m6 => xc_wr_putText d 92 m6 (fun r7 m7 => xp_wr_writeWhole_138 d (m 418 3) 1 m7 Q))))) else (xc_wr_putText d 90 m (fun r8 m8 => xc_wr_putNumber d (w_32 ((m8 418 9) + 1)) m8 (fun r9 m9 => xc_wr_putText d 92 m9 (fun r10 m10 => xp_wr_writeWhole_138 d (m 418 3) 1 m10 Q))))) : xp_wr_writeWhole_50 d l1 m Q := by
  refine w_iload_n rfl rfl ?_
  refine w_aload_n rfl rfl ?_
  refine x_gfI rfl s_418 rfl (kk := 9) rfl rfl ?_
  refine w_icge rfl (w_ite h (fun h => ?_) (fun h => ?_))
  · refine w_iload_n rfl rfl ?_
    refine w_iconst rfl (by decide) ?_
    refine w_iadd rfl ?_
    refine w_aload_n rfl rfl ?_
    refine w_gfC (c := 422) rfl s_418 rfl rfl ?_
    refine w_len rfl s_422 (by decide) (n := 200) rfl (by decide) ?_
    refine w_icge rfl (w_ite h (fun h => ?_) (fun h => ?_))
    · refine w_aload_n rfl rfl ?_
      refine x_gfZ rfl s_418 rfl (kk := 4) rfl rfl ?_
      refine w_ifne rfl (w_ite h (fun h => ?_) (fun h => ?_))
      · refine w_aload_n rfl rfl ?_
        refine w_gfC (c := 422) rfl s_418 rfl rfl ?_
        refine w_iload_n rfl rfl ?_
        refine w_iconst rfl (by decide) ?_
        refine w_iadd rfl ?_
        refine w_aload_n rfl rfl ?_
        refine x_gfI rfl s_418 rfl (kk := 3) rfl rfl ?_
        refine w_iast rfl s_422 (w_EC (by decide)) (n := 200) rfl h.1 ?_
        replace h := h.2
        refine w_aload_n rfl rfl ?_
        refine w_aload_n rfl rfl ?_
        refine w_gfC (c := 421) rfl s_418 rfl rfl ?_
        refine w_iload_n rfl rfl ?_
        refine w_iald rfl s_421 (n := 200) rfl h.1 ?_
        replace h := h.2
        refine w_iload_n rfl rfl ?_
        refine w_iconst rfl (by decide) ?_
        refine w_iadd rfl ?_
        refine w_iconst rfl (by decide) ?_
        refine w_callV (t' := 3) [(0, 0), (0, w_32 (l1 + 1)), (0, (w_up m 422 (w_32 (l1 + 1)) (m 418 3)) 421 l1)] [] rfl s_418 rfl rfl ?_
        refine w_C.more (Q := fun r1 m1 => _) h (fun r1 m1 h => ?_)
        replace h := id h
        refine w_iinc (lv' := [some (2, 418), some (0, w_32 (l1 + 1)), none]) rfl rfl rfl rfl ?_
        refine w_goto rfl ?_
        exact w_W.less h (w_sub [true, true, false] rfl)
      · refine w_aload_n rfl rfl ?_
        refine x_gfI rfl s_418 rfl (kk := 3) rfl rfl ?_
        refine w_istore_n (lv' := [some (2, 418), some (0, m 418 3), none]) rfl rfl rfl ?_
        refine w_aload_n rfl rfl ?_
        refine w_ldcR rfl ?_
        refine w_callV (t' := 3) [(2, 90)] [] rfl s_418 rfl rfl ?_
        refine w_C.more (Q := fun r2 m2 => _) h (fun r2 m2 h => ?_)
        replace h := id h
        refine w_aload_n rfl rfl ?_
        refine w_aload_n rfl rfl ?_
        refine x_gfI rfl s_418 rfl (kk := 9) rfl rfl ?_
        refine w_iconst rfl (by decide) ?_
        refine w_iadd rfl ?_
        refine w_i2l rfl ?_
        refine w_callV (t' := 3) [(1, w_32 ((m2 418 9) + 1))] [] rfl s_418 rfl rfl ?_
        refine w_C.more (Q := fun r3 m3 => _) h (fun r3 m3 h => ?_)
        replace h := id h
        refine w_aload_n rfl rfl ?_
        refine w_ldcR rfl ?_
        refine w_callV (t' := 3) [(2, 92)] [] rfl s_418 rfl rfl ?_
        refine w_C.more (Q := fun r4 m4 => _) h (fun r4 m4 h => ?_)
        replace h := id h
        refine w_iconst rfl (by decide) ?_
        refine w_istore_n (lv' := [some (2, 418), some (0, m 418 3), some (0, 1)]) rfl rfl rfl ?_
        exact w_W.less h (w_sub [true, true, true] rfl)
    · refine w_aload_n rfl rfl ?_
      refine x_gfI rfl s_418 rfl (kk := 3) rfl rfl ?_
      refine w_istore_n (lv' := [some (2, 418), some (0, m 418 3), none]) rfl rfl rfl ?_
      refine w_aload_n rfl rfl ?_
      refine w_ldcR rfl ?_
      refine w_callV (t' := 3) [(2, 90)] [] rfl s_418 rfl rfl ?_
      refine w_C.more (Q := fun r5 m5 => _) h (fun r5 m5 h => ?_)
      replace h := id h
      refine w_aload_n rfl rfl ?_
      refine w_aload_n rfl rfl ?_
      refine x_gfI rfl s_418 rfl (kk := 9) rfl rfl ?_
      refine w_iconst rfl (by decide) ?_
      refine w_iadd rfl ?_
      refine w_i2l rfl ?_
      refine w_callV (t' := 3) [(1, w_32 ((m5 418 9) + 1))] [] rfl s_418 rfl rfl ?_
      refine w_C.more (Q := fun r6 m6 => _) h (fun r6 m6 h => ?_)
      replace h := id h
      refine w_aload_n rfl rfl ?_
      refine w_ldcR rfl ?_
      refine w_callV (t' := 3) [(2, 92)] [] rfl s_418 rfl rfl ?_
      refine w_C.more (Q := fun r7 m7 => _) h (fun r7 m7 h => ?_)
      replace h := id h
      refine w_iconst rfl (by decide) ?_
      refine w_istore_n (lv' := [some (2, 418), some (0, m 418 3), some (0, 1)]) rfl rfl rfl ?_
      exact w_W.less h (w_sub [true, true, true] rfl)
  · refine w_aload_n rfl rfl ?_
    refine x_gfI rfl s_418 rfl (kk := 3) rfl rfl ?_
    refine w_istore_n (lv' := [some (2, 418), some (0, m 418 3), none]) rfl rfl rfl ?_
    refine w_aload_n rfl rfl ?_
    refine w_ldcR rfl ?_
    refine w_callV (t' := 3) [(2, 90)] [] rfl s_418 rfl rfl ?_
    refine w_C.more (Q := fun r8 m8 => _) h (fun r8 m8 h => ?_)
    replace h := id h
    refine w_aload_n rfl rfl ?_
    refine w_aload_n rfl rfl ?_
    refine x_gfI rfl s_418 rfl (kk := 9) rfl rfl ?_
    refine w_iconst rfl (by decide) ?_
    refine w_iadd rfl ?_
    refine w_i2l rfl ?_
    refine w_callV (t' := 3) [(1, w_32 ((m8 418 9) + 1))] [] rfl s_418 rfl rfl ?_
    refine w_C.more (Q := fun r9 m9 => _) h (fun r9 m9 h => ?_)
    replace h := id h
    refine w_aload_n rfl rfl ?_
    refine w_ldcR rfl ?_
    refine w_callV (t' := 3) [(2, 92)] [] rfl s_418 rfl rfl ?_
    refine w_C.more (Q := fun r10 m10 => _) h (fun r10 m10 h => ?_)
    replace h := id h
    refine w_iconst rfl (by decide) ?_
    refine w_istore_n (lv' := [some (2, 418), some (0, m 418 3), some (0, 1)]) rfl rfl rfl ?_
    exact w_W.less h (w_sub [true, true, true] rfl)
theorem xr_wr_writeWhole_138 {d : Nat} {l1 l2 : Int} {m : w_M} {Q : Int → w_M → Prop} (h : if (m 418 9) < l2 then (xc_wr_putText d 74 m (fun r1 m1 => xc_wr_putNumber d (w_32 ((m1 418 9) + 1)) m1 (fun r2 m2 => xc_wr_putRoots d m2 (fun r3 m3 => xc_wr_putText d 76 m3 (fun r4 m4 => xc_wr_putEnd d l1 m4 (fun r5 m5 => xc_wr_finish d m5 (fun r6 m6 => Q r6 m6))))))) else (if l2 < 200 then (((0 : Int) ≤ l2 ∧ l2 < 200) ∧ (xc_wr_putEntry d (m 422 l2) 0 m (fun r7 m7 => xp_wr_writeWhole_138 d l1 (w_32 (l2 + 1)) m7 Q))) else (xc_wr_putText d 74 m (fun r8 m8 => xc_wr_putNumber d (w_32 ((m8 418 9) + 1)) m8 (fun r9 m9 => xc_wr_putRoots d m9 (fun r10 m10 => xc_wr_putText d 76 m10 (fun r11 m11 => xc_wr_putEnd d l1 m11 (fun r12 m12 => xc_wr_finish d m12 (fun r13 m13 => Q r13 m13))))))))) : xp_wr_writeWhole_138 d l1 l2 m Q := by
  refine w_iload_n rfl rfl ?_
  refine w_aload_n rfl rfl ?_
  refine x_gfI rfl s_418 rfl (kk := 9) rfl rfl ?_
  refine w_icgt rfl (w_ite h (fun h => ?_) (fun h => ?_))
  · refine w_aload_n rfl rfl ?_
    refine w_ldcR rfl ?_
    refine w_callV (t' := 3) [(2, 74)] [] rfl s_418 rfl rfl ?_
    refine w_C.more (Q := fun r1 m1 => _) h (fun r1 m1 h => ?_)
    replace h := id h
    refine w_aload_n rfl rfl ?_
    refine w_aload_n rfl rfl ?_
    refine x_gfI rfl s_418 rfl (kk := 9) rfl rfl ?_
    refine w_iconst rfl (by decide) ?_
    refine w_iadd rfl ?_
    refine w_i2l rfl ?_
    refine w_callV (t' := 3) [(1, w_32 ((m1 418 9) + 1))] [] rfl s_418 rfl rfl ?_
    refine w_C.more (Q := fun r2 m2 => _) h (fun r2 m2 h => ?_)
    replace h := id h
    refine w_aload_n rfl rfl ?_
    refine w_callV (t' := 3) [] [] rfl s_418 rfl rfl ?_
    refine w_C.more (Q := fun r3 m3 => _) h (fun r3 m3 h => ?_)
    replace h := id h
    refine w_aload_n rfl rfl ?_
    refine w_ldcR rfl ?_
    refine w_callV (t' := 3) [(2, 76)] [] rfl s_418 rfl rfl ?_
    refine w_C.more (Q := fun r4 m4 => _) h (fun r4 m4 h => ?_)
    replace h := id h
    refine w_aload_n rfl rfl ?_
    refine w_iload_n rfl rfl ?_
    refine w_callV (t' := 3) [(0, l1)] [] rfl s_418 rfl rfl ?_
    refine w_C.more (Q := fun r5 m5 => _) h (fun r5 m5 h => ?_)
    replace h := id h
    refine w_aload_n rfl rfl ?_
    refine w_callV (t' := 0) [] [] rfl s_418 rfl rfl ?_
    refine w_C.more (Q := fun r6 m6 => _) h (fun r6 m6 h => ?_)
    replace h := id h
    exact w_iret rfl rfl h
  · refine w_iload_n rfl rfl ?_
    refine w_aload_n rfl rfl ?_
    refine w_gfC (c := 422) rfl s_418 rfl rfl ?_
    refine w_len rfl s_422 (by decide) (n := 200) rfl (by decide) ?_
    refine w_icge rfl (w_ite h (fun h => ?_) (fun h => ?_))
    · refine w_aload_n rfl rfl ?_
      refine w_aload_n rfl rfl ?_
      refine w_gfC (c := 422) rfl s_418 rfl rfl ?_
      refine w_iload_n rfl rfl ?_
      refine w_iald rfl s_422 (n := 200) rfl h.1 ?_
      replace h := h.2
      refine w_iconst rfl (by decide) ?_
      refine w_callV (t' := 3) [(0, 0), (0, m 422 l2)] [] rfl s_418 rfl rfl ?_
      refine w_C.more (Q := fun r7 m7 => _) h (fun r7 m7 h => ?_)
      replace h := id h
      refine w_iinc (lv' := [some (2, 418), some (0, l1), some (0, w_32 (l2 + 1))]) rfl rfl rfl rfl ?_
      refine w_goto rfl ?_
      exact w_W.less h (w_sub [true, true, true] rfl)
    · refine w_aload_n rfl rfl ?_
      refine w_ldcR rfl ?_
      refine w_callV (t' := 3) [(2, 74)] [] rfl s_418 rfl rfl ?_
      refine w_C.more (Q := fun r8 m8 => _) h (fun r8 m8 h => ?_)
      replace h := id h
      refine w_aload_n rfl rfl ?_
      refine w_aload_n rfl rfl ?_
      refine x_gfI rfl s_418 rfl (kk := 9) rfl rfl ?_
      refine w_iconst rfl (by decide) ?_
      refine w_iadd rfl ?_
      refine w_i2l rfl ?_
      refine w_callV (t' := 3) [(1, w_32 ((m8 418 9) + 1))] [] rfl s_418 rfl rfl ?_
      refine w_C.more (Q := fun r9 m9 => _) h (fun r9 m9 h => ?_)
      replace h := id h
      refine w_aload_n rfl rfl ?_
      refine w_callV (t' := 3) [] [] rfl s_418 rfl rfl ?_
      refine w_C.more (Q := fun r10 m10 => _) h (fun r10 m10 h => ?_)
      replace h := id h
      refine w_aload_n rfl rfl ?_
      refine w_ldcR rfl ?_
      refine w_callV (t' := 3) [(2, 76)] [] rfl s_418 rfl rfl ?_
      refine w_C.more (Q := fun r11 m11 => _) h (fun r11 m11 h => ?_)
      replace h := id h
      refine w_aload_n rfl rfl ?_
      refine w_iload_n rfl rfl ?_
      refine w_callV (t' := 3) [(0, l1)] [] rfl s_418 rfl rfl ?_
      refine w_C.more (Q := fun r12 m12 => _) h (fun r12 m12 h => ?_)
      replace h := id h
      refine w_aload_n rfl rfl ?_
      refine w_callV (t' := 0) [] [] rfl s_418 rfl rfl ?_
      refine w_C.more (Q := fun r13 m13 => _) h (fun r13 m13 h => ?_)
      replace h := id h
      exact w_iret rfl rfl h
