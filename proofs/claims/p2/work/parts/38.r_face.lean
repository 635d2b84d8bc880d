/-! ===== regions (printed by program): x_.*|js_.*|jl_.*|ja_.*|jm_.*|jp_.* ===== -/
set_option maxRecDepth 100000
theorem xr_x_changed {d : Nat} {l1 : Int} {m : w_M} {Q : Int → w_M → Prop} (h : if l1 = (-1) then (Q l1 m) else (Q l1 (w_up m 357 12 (-1)))) : xc_x_changed (d + 1) l1 m Q := by
  refine w_enter (q := 0) (lv := [some (2, 357), some (0, l1)]) rfl rfl rfl ?_
  refine w_iload_n rfl rfl ?_
  refine w_iconst rfl (by decide) ?_
  refine w_iceq rfl (w_ite h (fun h => ?_) (fun h => ?_))
  · refine w_iload_n rfl rfl ?_
    exact w_iret rfl rfl h
  · refine w_aload_n rfl rfl ?_
    refine w_iconst rfl (by decide) ?_
    refine w_pfI rfl s_357 rfl (w_EC (by decide)) rfl (kk := 12) rfl ?_
    refine w_iload_n rfl rfl ?_
    exact w_iret rfl rfl h
theorem xr_x_contents {d : Nat} {l1 : Int} {m : w_M} {Q : Int → w_M → Prop} (h : if (m 357 14) = 0 then (Q (-1) (w_up m 357 1 0)) else (xc_ch_setContents d l1 358 (m 357 1) (w_up m 357 1 0) (fun r1 m1 => xc_x_changed d r1 m1 (fun r2 m2 => Q r2 m2)))) : xc_x_contents (d + 1) l1 m Q := by
  refine w_enter (q := 1) (lv := [some (2, 357), some (0, l1), none]) rfl rfl rfl ?_
  refine w_aload_n rfl rfl ?_
  refine x_gfI rfl s_357 rfl (kk := 1) rfl rfl ?_
  refine w_istore_n (lv' := [some (2, 357), some (0, l1), some (0, m 357 1)]) rfl rfl rfl ?_
  refine w_aload_n rfl rfl ?_
  refine w_iconst rfl (by decide) ?_
  refine w_pfI rfl s_357 rfl (w_EC (by decide)) rfl (kk := 1) rfl ?_
  refine w_aload_n rfl rfl ?_
  refine x_gfZ rfl s_357 rfl (kk := 14) rfl (w_up_nb (by decide)) ?_
  refine w_ifeq rfl (w_ite h (fun h => ?_) (fun h => ?_))
  · refine w_iconst rfl (by decide) ?_
    exact w_iret rfl rfl h
  · refine w_aload_n rfl rfl ?_
    refine w_aload_n rfl rfl ?_
    refine w_gfC (c := 417) rfl s_357 rfl rfl ?_
    refine w_iload_n rfl rfl ?_
    refine w_aload_n rfl rfl ?_
    refine w_gfC (c := 358) rfl s_357 rfl rfl ?_
    refine w_iload_n rfl rfl ?_
    refine w_callV (t' := 0) [(0, m 357 1), (2, 358), (0, l1)] [(2, 357)] rfl s_417 rfl rfl ?_
    refine w_C.more (Q := fun r1 m1 => _) h (fun r1 m1 h => ?_)
    replace h := id h
    refine w_callV (t' := 0) [(0, r1)] [] rfl s_357 rfl rfl ?_
    refine w_C.more (Q := fun r2 m2 => _) h (fun r2 m2 h => ?_)
    replace h := id h
    refine w_goto rfl ?_
    exact w_iret rfl rfl h
theorem xr_x_count {d : Nat} {l1 : Int} {m : w_M} {Q : Int → w_M → Prop} (h : if (m 357 14) = 0 then (Q (-1) m) else (if l1 = 0 then (Q (m 366 11) m) else (if l1 = 1 then (Q (m 366 13) m) else (if l1 = 2 then (Q (m 366 14) m) else (if l1 = 3 then (Q (m 391 6) m) else (if l1 = 4 then (if (m 391 10) = 0 then (Q 0 m) else (Q 1 m)) else (if l1 = 5 then (xc_se_newest d m (fun r1 m1 => Q r1 m1)) else (if l1 = 6 then (xc_ta_changes d m (fun r2 m2 => Q r2 m2)) else (Q (-1) m))))))))) : xc_x_count (d + 1) l1 m Q := by
  refine w_enter (q := 0) (lv := [some (2, 357), some (0, l1)]) rfl rfl rfl ?_
  refine w_aload_n rfl rfl ?_
  refine x_gfZ rfl s_357 rfl (kk := 14) rfl rfl ?_
  refine w_ifne rfl (w_ite h (fun h => ?_) (fun h => ?_))
  · refine w_iconst rfl (by decide) ?_
    exact w_iret rfl rfl h
  · refine w_iload_n rfl rfl ?_
    refine w_tswitch (pd := 116) [(0, 52), (1, 60), (2, 68), (3, 76), (4, 84), (5, 100), (6, 108)] rfl rfl (by decide) (w_tsw_ok _ _ (by decide)) (by decide) ?_
    refine w_ite h (fun h => ?_) (fun h => ?_)
    · refine w_aload_n rfl rfl ?_
      refine w_gfC (c := 366) rfl s_357 rfl rfl ?_
      refine x_gfI rfl s_366 rfl (kk := 11) rfl rfl ?_
      exact w_iret rfl rfl h
    ·
      refine w_ite h (fun h => ?_) (fun h => ?_)
      · refine w_aload_n rfl rfl ?_
        refine w_gfC (c := 366) rfl s_357 rfl rfl ?_
        refine x_gfI rfl s_366 rfl (kk := 13) rfl rfl ?_
        exact w_iret rfl rfl h
      ·
        refine w_ite h (fun h => ?_) (fun h => ?_)
        · refine w_aload_n rfl rfl ?_
          refine w_gfC (c := 366) rfl s_357 rfl rfl ?_
          refine x_gfI rfl s_366 rfl (kk := 14) rfl rfl ?_
          exact w_iret rfl rfl h
        ·
          refine w_ite h (fun h => ?_) (fun h => ?_)
          · refine w_aload_n rfl rfl ?_
            refine w_gfC (c := 391) rfl s_357 rfl rfl ?_
            refine x_gfI rfl s_391 rfl (kk := 6) rfl rfl ?_
            exact w_iret rfl rfl h
          ·
            refine w_ite h (fun h => ?_) (fun h => ?_)
            · refine w_aload_n rfl rfl ?_
              refine w_gfC (c := 391) rfl s_357 rfl rfl ?_
              refine x_gfZ rfl s_391 rfl (kk := 10) rfl rfl ?_
              refine w_ifeq rfl (w_ite h (fun h => ?_) (fun h => ?_))
              · refine w_iconst rfl (by decide) ?_
                exact w_iret rfl rfl h
              · refine w_iconst rfl (by decide) ?_
                refine w_goto rfl ?_
                exact w_iret rfl rfl h
            ·
              refine w_ite h (fun h => ?_) (fun h => ?_)
              · refine w_aload_n rfl rfl ?_
                refine w_gfC (c := 391) rfl s_357 rfl rfl ?_
                refine w_callV (t' := 0) [] [] rfl s_391 rfl rfl ?_
                refine w_C.more (Q := fun r1 m1 => _) h (fun r1 m1 h => ?_)
                replace h := id h
                exact w_iret rfl rfl h
              ·
                refine w_ite h (fun h => ?_) (fun h => ?_)
                · refine w_aload_n rfl rfl ?_
                  refine w_gfC (c := 366) rfl s_357 rfl rfl ?_
                  refine w_callV (t' := 0) [] [] rfl s_366 rfl rfl ?_
                  refine w_C.more (Q := fun r2 m2 => _) h (fun r2 m2 h => ?_)
                  replace h := id h
                  exact w_iret rfl rfl h
                · refine w_iconst rfl (by decide) ?_
                  exact w_iret rfl rfl h
theorem xr_x_cut {d : Nat} {l1 : Int} {m : w_M} {Q : Int → w_M → Prop} (h : if l1 < 0 then (Q (-1) m) else (if (m 357 1) < l1 then (Q (-1) m) else (Q (w_32 ((m 357 1) - l1)) (w_up m 357 1 l1)))) : xc_x_cut (d + 1) l1 m Q := by
  refine w_enter (q := 1) (lv := [some (2, 357), some (0, l1), none]) rfl rfl rfl ?_
  refine w_iload_n rfl rfl ?_
  refine w_iflt rfl (w_ite h (fun h => ?_) (fun h => ?_))
  · refine w_iconst rfl (by decide) ?_
    exact w_iret rfl rfl h
  · refine w_iload_n rfl rfl ?_
    refine w_aload_n rfl rfl ?_
    refine x_gfI rfl s_357 rfl (kk := 1) rfl rfl ?_
    refine w_icle rfl (w_ite h (fun h => ?_) (fun h => ?_))
    · refine w_iconst rfl (by decide) ?_
      exact w_iret rfl rfl h
    · refine w_aload_n rfl rfl ?_
      refine x_gfI rfl s_357 rfl (kk := 1) rfl rfl ?_
      refine w_iload_n rfl rfl ?_
      refine w_isub rfl ?_
      refine w_istore_n (lv' := [some (2, 357), some (0, l1), some (0, w_32 ((m 357 1) - l1))]) rfl rfl rfl ?_
      refine w_aload_n rfl rfl ?_
      refine w_iload_n rfl rfl ?_
      refine w_pfI rfl s_357 rfl (w_EC (by decide)) rfl (kk := 1) rfl ?_
      refine w_iload_n rfl rfl ?_
      exact w_iret rfl rfl h
theorem xr_x_data {d : Nat} {l1 l2 : Int} {m : w_M} {Q : Int → w_M → Prop} (h : if (m 357 14) = 0 then (Q (-1) m) else (xc_ta_byteOf d l1 l2 m (fun r1 m1 => Q r1 m1))) : xc_x_data (d + 1) l1 l2 m Q := by
  refine w_enter (q := 0) (lv := [some (2, 357), some (0, l1), some (0, l2)]) rfl rfl rfl ?_
  refine w_aload_n rfl rfl ?_
  refine x_gfZ rfl s_357 rfl (kk := 14) rfl rfl ?_
  refine w_ifeq rfl (w_ite h (fun h => ?_) (fun h => ?_))
  · refine w_iconst rfl (by decide) ?_
    exact w_iret rfl rfl h
  · refine w_aload_n rfl rfl ?_
    refine w_gfC (c := 366) rfl s_357 rfl rfl ?_
    refine w_iload_n rfl rfl ?_
    refine w_iload_n rfl rfl ?_
    refine w_callV (t' := 0) [(0, l2), (0, l1)] [] rfl s_366 rfl rfl ?_
    refine w_C.more (Q := fun r1 m1 => _) h (fun r1 m1 h => ?_)
    replace h := id h
    refine w_goto rfl ?_
    exact w_iret rfl rfl h
theorem xr_x_delete {d : Nat} {l1 : Int} {m : w_M} {Q : Int → w_M → Prop} (h : if (m 357 14) = 0 then (Q (-1) m) else (xc_ch_deletePage d l1 m (fun r1 m1 => xc_x_changed d r1 m1 (fun r2 m2 => Q r2 m2)))) : xc_x_delete (d + 1) l1 m Q := by
  refine w_enter (q := 0) (lv := [some (2, 357), some (0, l1)]) rfl rfl rfl ?_
  refine w_aload_n rfl rfl ?_
  refine x_gfZ rfl s_357 rfl (kk := 14) rfl rfl ?_
  refine w_ifeq rfl (w_ite h (fun h => ?_) (fun h => ?_))
  · refine w_iconst rfl (by decide) ?_
    exact w_iret rfl rfl h
  · refine w_aload_n rfl rfl ?_
    refine w_aload_n rfl rfl ?_
    refine w_gfC (c := 417) rfl s_357 rfl rfl ?_
    refine w_iload_n rfl rfl ?_
    refine w_callV (t' := 0) [(0, l1)] [(2, 357)] rfl s_417 rfl rfl ?_
    refine w_C.more (Q := fun r1 m1 => _) h (fun r1 m1 h => ?_)
    replace h := id h
    refine w_callV (t' := 0) [(0, r1)] [] rfl s_357 rfl rfl ?_
    refine w_C.more (Q := fun r2 m2 => _) h (fun r2 m2 h => ?_)
    replace h := id h
    refine w_goto rfl ?_
    exact w_iret rfl rfl h
theorem xr_x_down {d : Nat} {l1 : Int} {m : w_M} {Q : Int → w_M → Prop} (h : xc_x_isNowhere d m (fun r1 m1 => if r1 = 0 then (if (m1 357 12) < 24 then (((0 : Int) ≤ (m1 357 12) ∧ (m1 357 12) < 25) ∧ (xc_st_part d (m1 427 (m1 357 12)) l1 m1 (fun r2 m2 => if r2 < 0 then (Q (-1) m2) else (((0 : Int) ≤ (w_32 ((m2 357 12) + 1)) ∧ (w_32 ((m2 357 12) + 1)) < 25) ∧ (xc_x_kindHere d (w_up (w_up m2 357 12 (w_32 ((m2 357 12) + 1))) 427 (w_32 ((m2 357 12) + 1)) r2) (fun r3 m3 => Q r3 m3)))))) else (Q (-1) m1)) else (Q (-1) m1))) : xc_x_down (d + 1) l1 m Q := by
  refine w_enter (q := 1) (lv := [some (2, 357), some (0, l1), none]) rfl rfl rfl ?_
  refine w_aload_n rfl rfl ?_
  refine w_callV (t' := 0) [] [] rfl s_357 rfl rfl ?_
  refine w_C.more (Q := fun r1 m1 => _) h (fun r1 m1 h => ?_)
  replace h := id h
  refine w_ifne rfl (w_ite h (fun h => ?_) (fun h => ?_))
  · refine w_aload_n rfl rfl ?_
    refine x_gfI rfl s_357 rfl (kk := 12) rfl rfl ?_
    refine w_bipush rfl (by decide) ?_
    refine w_iclt rfl (w_ite h (fun h => ?_) (fun h => ?_))
    · refine w_aload_n rfl rfl ?_
      refine w_gfC (c := 359) rfl s_357 rfl rfl ?_
      refine w_aload_n rfl rfl ?_
      refine w_gfC (c := 427) rfl s_357 rfl rfl ?_
      refine w_aload_n rfl rfl ?_
      refine x_gfI rfl s_357 rfl (kk := 12) rfl rfl ?_
      refine w_iald rfl s_427 (n := 25) rfl h.1 ?_
      replace h := h.2
      refine w_iload_n rfl rfl ?_
      refine w_callV (t' := 0) [(0, l1), (0, m1 427 (m1 357 12))] [] rfl s_359 rfl rfl ?_
      refine w_C.more (Q := fun r2 m2 => _) h (fun r2 m2 h => ?_)
      replace h := id h
      refine w_istore_n (lv' := [some (2, 357), some (0, l1), some (0, r2)]) rfl rfl rfl ?_
      refine w_iload_n rfl rfl ?_
      refine w_ifge rfl (w_ite h (fun h => ?_) (fun h => ?_))
      · refine w_iconst rfl (by decide) ?_
        exact w_iret rfl rfl h
      · refine w_aload_n rfl rfl ?_
        refine w_dup rfl (show (2 : Nat) ≠ 1 by decide) ?_
        refine x_gfI rfl s_357 rfl (kk := 12) rfl rfl ?_
        refine w_iconst rfl (by decide) ?_
        refine w_iadd rfl ?_
        refine w_pfI rfl s_357 rfl (w_EC (by decide)) rfl (kk := 12) rfl ?_
        refine w_aload_n rfl rfl ?_
        refine w_gfC (c := 427) rfl s_357 rfl rfl ?_
        refine w_aload_n rfl rfl ?_
        refine x_gfI rfl s_357 rfl (kk := 12) rfl (w_up_eq) ?_
        refine w_iload_n rfl rfl ?_
        refine w_iast rfl s_427 (w_EC (by decide)) (n := 25) rfl h.1 ?_
        replace h := h.2
        refine w_aload_n rfl rfl ?_
        refine w_callV (t' := 0) [] [] rfl s_357 rfl rfl ?_
        refine w_C.more (Q := fun r3 m3 => _) h (fun r3 m3 h => ?_)
        replace h := id h
        exact w_iret rfl rfl h
    · refine w_iconst rfl (by decide) ?_
      exact w_iret rfl rfl h
  · refine w_iconst rfl (by decide) ?_
    exact w_iret rfl rfl h
theorem xr_x_fault {d : Nat} {l1 : Int} {m : w_M} {Q : Int → w_M → Prop} (h : if l1 = 0 then (Q (m 357 15) m) else (if l1 = 1 then (Q (m 357 16) m) else (if l1 = 2 then (Q (m 357 17) m) else (if l1 = 3 then (Q (m 357 18) m) else (Q (-1) m))))) : xc_x_fault (d + 1) l1 m Q := by
  refine w_enter (q := 0) (lv := [some (2, 357), some (0, l1)]) rfl rfl rfl ?_
  refine w_iload_n rfl rfl ?_
  refine w_tswitch (pd := 52) [(0, 32), (1, 37), (2, 42), (3, 47)] rfl rfl (by decide) (w_tsw_ok _ _ (by decide)) (by decide) ?_
  refine w_ite h (fun h => ?_) (fun h => ?_)
  · refine w_aload_n rfl rfl ?_
    refine x_gfI rfl s_357 rfl (kk := 15) rfl rfl ?_
    exact w_iret rfl rfl h
  ·
    refine w_ite h (fun h => ?_) (fun h => ?_)
    · refine w_aload_n rfl rfl ?_
      refine x_gfI rfl s_357 rfl (kk := 16) rfl rfl ?_
      exact w_iret rfl rfl h
    ·
      refine w_ite h (fun h => ?_) (fun h => ?_)
      · refine w_aload_n rfl rfl ?_
        refine x_gfI rfl s_357 rfl (kk := 17) rfl rfl ?_
        exact w_iret rfl rfl h
      ·
        refine w_ite h (fun h => ?_) (fun h => ?_)
        · refine w_aload_n rfl rfl ?_
          refine x_gfI rfl s_357 rfl (kk := 18) rfl rfl ?_
          exact w_iret rfl rfl h
        · refine w_iconst rfl (by decide) ?_
          exact w_iret rfl rfl h
theorem xr_x_feed {d : Nat} {l1 l2 l3 l4 l5 : Int} {m : w_M} {Q : Int → w_M → Prop} (h : if 8000 < (w_32 ((m 357 1) + 20)) then (Q (-1) m) else (xc_x_layNumber d l1 m (fun r1 m1 => xc_x_layNumber d l2 m1 (fun r2 m2 => xc_x_layNumber d l3 m2 (fun r3 m3 => xc_x_layNumber d l4 m3 (fun r4 m4 => xc_x_layNumber d l5 m4 (fun r5 m5 => Q (m5 357 1) m5))))))) : xc_x_feed (d + 1) l1 l2 l3 l4 l5 m Q := by
  refine w_enter (q := 0) (lv := [some (2, 357), some (0, l1), some (0, l2), some (0, l3), some (0, l4), some (0, l5)]) rfl rfl rfl ?_
  refine w_aload_n rfl rfl ?_
  refine x_gfI rfl s_357 rfl (kk := 1) rfl rfl ?_
  refine w_bipush rfl (by decide) ?_
  refine w_iadd rfl ?_
  refine w_sipush rfl (by decide) ?_
  refine w_icle rfl (w_ite h (fun h => ?_) (fun h => ?_))
  · refine w_iconst rfl (by decide) ?_
    exact w_iret rfl rfl h
  · refine w_aload_n rfl rfl ?_
    refine w_iload_n rfl rfl ?_
    refine w_callV (t' := 3) [(0, l1)] [] rfl s_357 rfl rfl ?_
    refine w_C.more (Q := fun r1 m1 => _) h (fun r1 m1 h => ?_)
    replace h := id h
    refine w_aload_n rfl rfl ?_
    refine w_iload_n rfl rfl ?_
    refine w_callV (t' := 3) [(0, l2)] [] rfl s_357 rfl rfl ?_
    refine w_C.more (Q := fun r2 m2 => _) h (fun r2 m2 h => ?_)
    replace h := id h
    refine w_aload_n rfl rfl ?_
    refine w_iload_n rfl rfl ?_
    refine w_callV (t' := 3) [(0, l3)] [] rfl s_357 rfl rfl ?_
    refine w_C.more (Q := fun r3 m3 => _) h (fun r3 m3 h => ?_)
    replace h := id h
    refine w_aload_n rfl rfl ?_
    refine w_iload rfl rfl ?_
    refine w_callV (t' := 3) [(0, l4)] [] rfl s_357 rfl rfl ?_
    refine w_C.more (Q := fun r4 m4 => _) h (fun r4 m4 h => ?_)
    replace h := id h
    refine w_aload_n rfl rfl ?_
    refine w_iload rfl rfl ?_
    refine w_callV (t' := 3) [(0, l5)] [] rfl s_357 rfl rfl ?_
    refine w_C.more (Q := fun r5 m5 => _) h (fun r5 m5 h => ?_)
    replace h := id h
    refine w_aload_n rfl rfl ?_
    refine x_gfI rfl s_357 rfl (kk := 1) rfl rfl ?_
    exact w_iret rfl rfl h
theorem xr_x_glyph {d : Nat} {l1 l2 : Int} {m : w_M} {Q : Int → w_M → Prop} (h : if (m 357 14) = 0 then (Q (-1) m) else (xc_pa_glyphAt d l1 l2 m (fun r1 m1 => Q r1 m1))) : xc_x_glyph (d + 1) l1 l2 m Q := by
  refine w_enter (q := 0) (lv := [some (2, 357), some (0, l1), some (0, l2)]) rfl rfl rfl ?_
  refine w_aload_n rfl rfl ?_
  refine x_gfZ rfl s_357 rfl (kk := 14) rfl rfl ?_
  refine w_ifeq rfl (w_ite h (fun h => ?_) (fun h => ?_))
  · refine w_iconst rfl (by decide) ?_
    exact w_iret rfl rfl h
  · refine w_aload_n rfl rfl ?_
    refine w_gfC (c := 404) rfl s_357 rfl rfl ?_
    refine w_iload_n rfl rfl ?_
    refine w_iload_n rfl rfl ?_
    refine w_callV (t' := 0) [(0, l2), (0, l1)] [] rfl s_404 rfl rfl ?_
    refine w_C.more (Q := fun r1 m1 => _) h (fun r1 m1 h => ?_)
    replace h := id h
    refine w_goto rfl ?_
    exact w_iret rfl rfl h
theorem xr_x_go {d : Nat} {l1 : Int} {m : w_M} {Q : Int → w_M → Prop} (h : if (m 357 14) = 0 then (Q (-1) (w_up m 357 12 (-1))) else (xc_ta_isFree d l1 (w_up m 357 12 (-1)) (fun r1 m1 => if r1 = 0 then (xc_ta_rootOf d l1 (w_up (w_up m1 357 12 0) 357 13 l1) (fun r2 m2 => xc_x_kindHere d (w_up m2 427 0 r2) (fun r3 m3 => Q r3 m3))) else (Q (-1) m1)))) : xc_x_go (d + 1) l1 m Q := by
  refine w_enter (q := 0) (lv := [some (2, 357), some (0, l1)]) rfl rfl rfl ?_
  refine w_aload_n rfl rfl ?_
  refine w_iconst rfl (by decide) ?_
  refine w_pfI rfl s_357 rfl (w_EC (by decide)) rfl (kk := 12) rfl ?_
  refine w_aload_n rfl rfl ?_
  refine x_gfZ rfl s_357 rfl (kk := 14) rfl (w_up_nb (by decide)) ?_
  refine w_ifeq rfl (w_ite h (fun h => ?_) (fun h => ?_))
  · refine w_iconst rfl (by decide) ?_
    exact w_iret rfl rfl h
  · refine w_aload_n rfl rfl ?_
    refine w_gfC (c := 366) rfl s_357 rfl rfl ?_
    refine w_iload_n rfl rfl ?_
    refine w_callV (t' := 0) [(0, l1)] [] rfl s_366 rfl rfl ?_
    refine w_C.more (Q := fun r1 m1 => _) h (fun r1 m1 h => ?_)
    replace h := id h
    refine w_ifeq rfl (w_ite h (fun h => ?_) (fun h => ?_))
    · refine w_aload_n rfl rfl ?_
      refine w_iconst rfl (by decide) ?_
      refine w_pfI rfl s_357 rfl (w_EC (by decide)) rfl (kk := 12) rfl ?_
      refine w_aload_n rfl rfl ?_
      refine w_iload_n rfl rfl ?_
      refine w_pfI rfl s_357 rfl (w_EC (by decide)) rfl (kk := 13) rfl ?_
      refine w_aload_n rfl rfl ?_
      refine w_gfC (c := 427) rfl s_357 rfl rfl ?_
      refine w_iconst rfl (by decide) ?_
      refine w_aload_n rfl rfl ?_
      refine w_gfC (c := 366) rfl s_357 rfl rfl ?_
      refine w_iload_n rfl rfl ?_
      refine w_callV (t' := 0) [(0, l1)] [(0, 0), (2, 427)] rfl s_366 rfl rfl ?_
      refine w_C.more (Q := fun r2 m2 => _) h (fun r2 m2 h => ?_)
      replace h := id h
      refine w_iast rfl s_427 (w_EC (by decide)) (n := 25) rfl (by decide) ?_
      refine w_aload_n rfl rfl ?_
      refine w_callV (t' := 0) [] [] rfl s_357 rfl rfl ?_
      refine w_C.more (Q := fun r3 m3 => _) h (fun r3 m3 h => ?_)
      replace h := id h
      exact w_iret rfl rfl h
    · refine w_iconst rfl (by decide) ?_
      exact w_iret rfl rfl h
theorem xr_x_here {d : Nat} {l1 : Int} {m : w_M} {Q : Int → w_M → Prop} (h : xc_x_isNowhere d m (fun r1 m1 => if r1 = 0 then (if l1 < 0 then (Q (-1) m1) else (if 4 < l1 then (Q (-1) m1) else (xc_x_kindHere d m1 (fun r2 m2 => xc_x_nodeHere d m2 (fun r3 m3 => if l1 = 0 then (Q r2 m3) else (if l1 = 1 then (if r2 = 1 then (xc_st_oneOf d r3 m3 (fun r4 m4 => Q r4 m4)) else (if r2 = 2 then (xc_st_oneOf d r3 m3 (fun r5 m5 => Q r5 m5)) else (if r2 = 3 then (xc_st_oneOf d r3 m3 (fun r6 m6 => Q r6 m6)) else (if r2 = 8 then (xc_st_oneOf d r3 m3 (fun r7 m7 => Q r7 m7)) else (Q 0 m3))))) else (if l1 = 2 then (if r2 = 9 then (xc_st_twoOf d r3 m3 (fun r8 m8 => Q r8 m8)) else (if r2 < 4 then (Q 0 m3) else (if 7 < r2 then (Q 0 m3) else (xc_st_twoOf d r3 m3 (fun r9 m9 => Q r9 m9))))) else (if l1 = 3 then (if r2 = 8 then (xc_st_twoOf d r3 m3 (fun r10 m10 => Q r10 m10)) else (Q 0 m3)) else (xc_x_keyHere d m3 (fun r11 m11 => xc_st_letters d r11 m11 (fun r12 m12 => Q (max 0 r12) m12))))))))))) else (Q (-1) m1))) : xc_x_here (d + 1) l1 m Q := by
  refine w_enter (q := 2) (lv := [some (2, 357), some (0, l1), none, none]) rfl rfl rfl ?_
  refine w_aload_n rfl rfl ?_
  refine w_callV (t' := 0) [] [] rfl s_357 rfl rfl ?_
  refine w_C.more (Q := fun r1 m1 => _) h (fun r1 m1 h => ?_)
  replace h := id h
  refine w_ifne rfl (w_ite h (fun h => ?_) (fun h => ?_))
  · refine w_iload_n rfl rfl ?_
    refine w_iflt rfl (w_ite h (fun h => ?_) (fun h => ?_))
    · refine w_iconst rfl (by decide) ?_
      exact w_iret rfl rfl h
    · refine w_iload_n rfl rfl ?_
      refine w_iconst rfl (by decide) ?_
      refine w_icle rfl (w_ite h (fun h => ?_) (fun h => ?_))
      · refine w_iconst rfl (by decide) ?_
        exact w_iret rfl rfl h
      · refine w_aload_n rfl rfl ?_
        refine w_callV (t' := 0) [] [] rfl s_357 rfl rfl ?_
        refine w_C.more (Q := fun r2 m2 => _) h (fun r2 m2 h => ?_)
        replace h := id h
        refine w_istore_n (lv' := [some (2, 357), some (0, l1), some (0, r2), none]) rfl rfl rfl ?_
        refine w_aload_n rfl rfl ?_
        refine w_callV (t' := 0) [] [] rfl s_357 rfl rfl ?_
        refine w_C.more (Q := fun r3 m3 => _) h (fun r3 m3 h => ?_)
        replace h := id h
        refine w_istore_n (lv' := [some (2, 357), some (0, l1), some (0, r2), some (0, r3)]) rfl rfl rfl ?_
        refine w_iload_n rfl rfl ?_
        refine w_tswitch (pd := 145) [(0, 60), (1, 62), (2, 96), (3, 126)] rfl rfl (by decide) (w_tsw_ok _ _ (by decide)) (by decide) ?_
        refine w_ite h (fun h => ?_) (fun h => ?_)
        · refine w_iload_n rfl rfl ?_
          exact w_iret rfl rfl h
        ·
          refine w_ite h (fun h => ?_) (fun h => ?_)
          · refine w_iload_n rfl rfl ?_
            refine w_iconst rfl (by decide) ?_
            refine w_iceq rfl (w_ite h (fun h => ?_) (fun h => ?_))
            · refine w_aload_n rfl rfl ?_
              refine w_gfC (c := 359) rfl s_357 rfl rfl ?_
              refine w_iload_n rfl rfl ?_
              refine w_callV (t' := 0) [(0, r3)] [] rfl s_359 rfl rfl ?_
              refine w_C.more (Q := fun r4 m4 => _) h (fun r4 m4 h => ?_)
              replace h := id h
              refine w_goto rfl ?_
              exact w_iret rfl rfl h
            · refine w_iload_n rfl rfl ?_
              refine w_iconst rfl (by decide) ?_
              refine w_iceq rfl (w_ite h (fun h => ?_) (fun h => ?_))
              · refine w_aload_n rfl rfl ?_
                refine w_gfC (c := 359) rfl s_357 rfl rfl ?_
                refine w_iload_n rfl rfl ?_
                refine w_callV (t' := 0) [(0, r3)] [] rfl s_359 rfl rfl ?_
                refine w_C.more (Q := fun r5 m5 => _) h (fun r5 m5 h => ?_)
                replace h := id h
                refine w_goto rfl ?_
                exact w_iret rfl rfl h
              · refine w_iload_n rfl rfl ?_
                refine w_iconst rfl (by decide) ?_
                refine w_iceq rfl (w_ite h (fun h => ?_) (fun h => ?_))
                · refine w_aload_n rfl rfl ?_
                  refine w_gfC (c := 359) rfl s_357 rfl rfl ?_
                  refine w_iload_n rfl rfl ?_
                  refine w_callV (t' := 0) [(0, r3)] [] rfl s_359 rfl rfl ?_
                  refine w_C.more (Q := fun r6 m6 => _) h (fun r6 m6 h => ?_)
                  replace h := id h
                  refine w_goto rfl ?_
                  exact w_iret rfl rfl h
                · refine w_iload_n rfl rfl ?_
                  refine w_bipush rfl (by decide) ?_
                  refine w_icne rfl (w_ite h (fun h => ?_) (fun h => ?_))
                  · refine w_aload_n rfl rfl ?_
                    refine w_gfC (c := 359) rfl s_357 rfl rfl ?_
                    refine w_iload_n rfl rfl ?_
                    refine w_callV (t' := 0) [(0, r3)] [] rfl s_359 rfl rfl ?_
                    refine w_C.more (Q := fun r7 m7 => _) h (fun r7 m7 h => ?_)
                    replace h := id h
                    refine w_goto rfl ?_
                    exact w_iret rfl rfl h
                  · refine w_iconst rfl (by decide) ?_
                    exact w_iret rfl rfl h
          ·
            refine w_ite h (fun h => ?_) (fun h => ?_)
            · refine w_iload_n rfl rfl ?_
              refine w_bipush rfl (by decide) ?_
              refine w_iceq rfl (w_ite h (fun h => ?_) (fun h => ?_))
              · refine w_aload_n rfl rfl ?_
                refine w_gfC (c := 359) rfl s_357 rfl rfl ?_
                refine w_iload_n rfl rfl ?_
                refine w_callV (t' := 0) [(0, r3)] [] rfl s_359 rfl rfl ?_
                refine w_C.more (Q := fun r8 m8 => _) h (fun r8 m8 h => ?_)
                replace h := id h
                refine w_goto rfl ?_
                exact w_iret rfl rfl h
              · refine w_iload_n rfl rfl ?_
                refine w_iconst rfl (by decide) ?_
                refine w_iclt rfl (w_ite h (fun h => ?_) (fun h => ?_))
                · refine w_iconst rfl (by decide) ?_
                  exact w_iret rfl rfl h
                · refine w_iload_n rfl rfl ?_
                  refine w_bipush rfl (by decide) ?_
                  refine w_icgt rfl (w_ite h (fun h => ?_) (fun h => ?_))
                  · refine w_iconst rfl (by decide) ?_
                    exact w_iret rfl rfl h
                  · refine w_aload_n rfl rfl ?_
                    refine w_gfC (c := 359) rfl s_357 rfl rfl ?_
                    refine w_iload_n rfl rfl ?_
                    refine w_callV (t' := 0) [(0, r3)] [] rfl s_359 rfl rfl ?_
                    refine w_C.more (Q := fun r9 m9 => _) h (fun r9 m9 h => ?_)
                    replace h := id h
                    refine w_goto rfl ?_
                    exact w_iret rfl rfl h
            ·
              refine w_ite h (fun h => ?_) (fun h => ?_)
              · refine w_iload_n rfl rfl ?_
                refine w_bipush rfl (by decide) ?_
                refine w_icne rfl (w_ite h (fun h => ?_) (fun h => ?_))
                · refine w_aload_n rfl rfl ?_
                  refine w_gfC (c := 359) rfl s_357 rfl rfl ?_
                  refine w_iload_n rfl rfl ?_
                  refine w_callV (t' := 0) [(0, r3)] [] rfl s_359 rfl rfl ?_
                  refine w_C.more (Q := fun r10 m10 => _) h (fun r10 m10 h => ?_)
                  replace h := id h
                  refine w_goto rfl ?_
                  exact w_iret rfl rfl h
                · refine w_iconst rfl (by decide) ?_
                  exact w_iret rfl rfl h
              · refine w_iconst rfl (by decide) ?_
                refine w_aload_n rfl rfl ?_
                refine w_gfC (c := 359) rfl s_357 rfl rfl ?_
                refine w_aload_n rfl rfl ?_
                refine w_callV (t' := 0) [] [(2, 359), (0, 0)] rfl s_357 rfl rfl ?_
                refine w_C.more (Q := fun r11 m11 => _) h (fun r11 m11 h => ?_)
                replace h := id h
                refine w_callV (t' := 0) [(0, r11)] [(0, 0)] rfl s_359 rfl rfl ?_
                refine w_C.more (Q := fun r12 m12 => _) h (fun r12 m12 h => ?_)
                replace h := id h
                refine w_max rfl rfl ?_
                exact w_iret rfl rfl h
  · refine w_iconst rfl (by decide) ?_
    exact w_iret rfl rfl h
theorem xr_x_info {d : Nat} {l1 : Int} {m : w_M} {Q : Int → w_M → Prop} (h : if (m 357 14) = 0 then (Q (-1) (w_up m 357 1 0)) else (xc_ch_setInfo d l1 358 (m 357 1) (w_up m 357 1 0) (fun r1 m1 => xc_x_changed d r1 m1 (fun r2 m2 => Q r2 m2)))) : xc_x_info (d + 1) l1 m Q := by
  refine w_enter (q := 1) (lv := [some (2, 357), some (0, l1), none]) rfl rfl rfl ?_
  refine w_aload_n rfl rfl ?_
  refine x_gfI rfl s_357 rfl (kk := 1) rfl rfl ?_
  refine w_istore_n (lv' := [some (2, 357), some (0, l1), some (0, m 357 1)]) rfl rfl rfl ?_
  refine w_aload_n rfl rfl ?_
  refine w_iconst rfl (by decide) ?_
  refine w_pfI rfl s_357 rfl (w_EC (by decide)) rfl (kk := 1) rfl ?_
  refine w_aload_n rfl rfl ?_
  refine x_gfZ rfl s_357 rfl (kk := 14) rfl (w_up_nb (by decide)) ?_
  refine w_ifeq rfl (w_ite h (fun h => ?_) (fun h => ?_))
  · refine w_iconst rfl (by decide) ?_
    exact w_iret rfl rfl h
  · refine w_aload_n rfl rfl ?_
    refine w_aload_n rfl rfl ?_
    refine w_gfC (c := 417) rfl s_357 rfl rfl ?_
    refine w_iload_n rfl rfl ?_
    refine w_aload_n rfl rfl ?_
    refine w_gfC (c := 358) rfl s_357 rfl rfl ?_
    refine w_iload_n rfl rfl ?_
    refine w_callV (t' := 0) [(0, m 357 1), (2, 358), (0, l1)] [(2, 357)] rfl s_417 rfl rfl ?_
    refine w_C.more (Q := fun r1 m1 => _) h (fun r1 m1 h => ?_)
    replace h := id h
    refine w_callV (t' := 0) [(0, r1)] [] rfl s_357 rfl rfl ?_
    refine w_C.more (Q := fun r2 m2 => _) h (fun r2 m2 h => ?_)
    replace h := id h
    refine w_goto rfl ?_
    exact w_iret rfl rfl h
theorem xr_x_insert {d : Nat} {l1 l2 l3 : Int} {m : w_M} {Q : Int → w_M → Prop} (h : if (m 357 14) = 0 then (Q (-1) m) else (xc_ch_insertPage d l1 l2 l3 m (fun r1 m1 => xc_x_changed d r1 m1 (fun r2 m2 => Q r2 m2)))) : xc_x_insert (d + 1) l1 l2 l3 m Q := by
  refine w_enter (q := 0) (lv := [some (2, 357), some (0, l1), some (0, l2), some (0, l3)]) rfl rfl rfl ?_
  refine w_aload_n rfl rfl ?_
  refine x_gfZ rfl s_357 rfl (kk := 14) rfl rfl ?_
  refine w_ifeq rfl (w_ite h (fun h => ?_) (fun h => ?_))
  · refine w_iconst rfl (by decide) ?_
    exact w_iret rfl rfl h
  · refine w_aload_n rfl rfl ?_
    refine w_aload_n rfl rfl ?_
    refine w_gfC (c := 417) rfl s_357 rfl rfl ?_
    refine w_iload_n rfl rfl ?_
    refine w_iload_n rfl rfl ?_
    refine w_iload_n rfl rfl ?_
    refine w_callV (t' := 0) [(0, l3), (0, l2), (0, l1)] [(2, 357)] rfl s_417 rfl rfl ?_
    refine w_C.more (Q := fun r1 m1 => _) h (fun r1 m1 h => ?_)
    replace h := id h
    refine w_callV (t' := 0) [(0, r1)] [] rfl s_357 rfl rfl ?_
    refine w_C.more (Q := fun r2 m2 => _) h (fun r2 m2 h => ?_)
    replace h := id h
    refine w_goto rfl ?_
    exact w_iret rfl rfl h
theorem xr_x_isNowhere {d : Nat} {m : w_M} {Q : Int → w_M → Prop} (h : if (m 357 14) = 0 then (Q 1 m) else (if (m 357 12) < 0 then (Q 1 m) else (if (m 357 12) < 25 then (Q 0 m) else (Q 1 m)))) : xc_x_isNowhere (d + 1) m Q := by
  refine w_enter (q := 0) (lv := [some (2, 357)]) rfl rfl rfl ?_
  refine w_aload_n rfl rfl ?_
  refine x_gfZ rfl s_357 rfl (kk := 14) rfl rfl ?_
  refine w_ifeq rfl (w_ite h (fun h => ?_) (fun h => ?_))
  · refine w_iconst rfl (by decide) ?_
    refine w_goto rfl ?_
    exact w_zret rfl rfl (by decide) h
  · refine w_aload_n rfl rfl ?_
    refine x_gfI rfl s_357 rfl (kk := 12) rfl rfl ?_
    refine w_iflt rfl (w_ite h (fun h => ?_) (fun h => ?_))
    · refine w_iconst rfl (by decide) ?_
      refine w_goto rfl ?_
      exact w_zret rfl rfl (by decide) h
    · refine w_aload_n rfl rfl ?_
      refine x_gfI rfl s_357 rfl (kk := 12) rfl rfl ?_
      refine w_aload_n rfl rfl ?_
      refine w_gfC (c := 427) rfl s_357 rfl rfl ?_
      refine w_len rfl s_427 (by decide) (n := 25) rfl (by decide) ?_
      refine w_iclt rfl (w_ite h (fun h => ?_) (fun h => ?_))
      · refine w_iconst rfl (by decide) ?_
        exact w_zret rfl rfl (by decide) h
      · refine w_iconst rfl (by decide) ?_
        refine w_goto rfl ?_
        exact w_zret rfl rfl (by decide) h
theorem xr_x_keyHere {d : Nat} {m : w_M} {Q : Int → w_M → Prop} (h : xc_x_isNowhere d m (fun r1 m1 => if r1 = 0 then (if (m1 357 12) = 0 then (Q (-1) m1) else (((0 : Int) ≤ (m1 357 12) ∧ (m1 357 12) < 25) ∧ (xc_st_keyOf d (m1 427 (m1 357 12)) m1 (fun r2 m2 => Q r2 m2)))) else (Q (-1) m1))) : xc_x_keyHere (d + 1) m Q := by
  refine w_enter (q := 0) (lv := [some (2, 357)]) rfl rfl rfl ?_
  refine w_aload_n rfl rfl ?_
  refine w_callV (t' := 0) [] [] rfl s_357 rfl rfl ?_
  refine w_C.more (Q := fun r1 m1 => _) h (fun r1 m1 h => ?_)
  replace h := id h
  refine w_ifne rfl (w_ite h (fun h => ?_) (fun h => ?_))
  · refine w_aload_n rfl rfl ?_
    refine x_gfI rfl s_357 rfl (kk := 12) rfl rfl ?_
    refine w_ifne rfl (w_ite h (fun h => ?_) (fun h => ?_))
    · refine w_iconst rfl (by decide) ?_
      refine w_goto rfl ?_
      exact w_iret rfl rfl h
    · refine w_aload_n rfl rfl ?_
      refine w_gfC (c := 359) rfl s_357 rfl rfl ?_
      refine w_aload_n rfl rfl ?_
      refine w_gfC (c := 427) rfl s_357 rfl rfl ?_
      refine w_aload_n rfl rfl ?_
      refine x_gfI rfl s_357 rfl (kk := 12) rfl rfl ?_
      refine w_iald rfl s_427 (n := 25) rfl h.1 ?_
      replace h := h.2
      refine w_callV (t' := 0) [(0, m1 427 (m1 357 12))] [] rfl s_359 rfl rfl ?_
      refine w_C.more (Q := fun r2 m2 => _) h (fun r2 m2 h => ?_)
      replace h := id h
      exact w_iret rfl rfl h
  · refine w_iconst rfl (by decide) ?_
    refine w_goto rfl ?_
    exact w_iret rfl rfl h
theorem xr_x_kindHere {d : Nat} {m : w_M} {Q : Int → w_M → Prop} (h : if (m 357 12) = 0 then (xc_ta_isStream d (m 357 13) m (fun r1 m1 => if r1 = 0 then (xc_x_nodeHere d m1 (fun r2 m2 => xc_st_kindOf d r2 m2 (fun r3 m3 => Q r3 m3))) else (Q 9 m1))) else (xc_x_nodeHere d m (fun r4 m4 => xc_st_kindOf d r4 m4 (fun r5 m5 => Q r5 m5)))) : xc_x_kindHere (d + 1) m Q := by
  refine w_enter (q := 0) (lv := [some (2, 357)]) rfl rfl rfl ?_
  refine w_aload_n rfl rfl ?_
  refine x_gfI rfl s_357 rfl (kk := 12) rfl rfl ?_
  refine w_ifne rfl (w_ite h (fun h => ?_) (fun h => ?_))
  · refine w_aload_n rfl rfl ?_
    refine w_gfC (c := 366) rfl s_357 rfl rfl ?_
    refine w_aload_n rfl rfl ?_
    refine x_gfI rfl s_357 rfl (kk := 13) rfl rfl ?_
    refine w_callV (t' := 0) [(0, m 357 13)] [] rfl s_366 rfl rfl ?_
    refine w_C.more (Q := fun r1 m1 => _) h (fun r1 m1 h => ?_)
    replace h := id h
    refine w_ifeq rfl (w_ite h (fun h => ?_) (fun h => ?_))
    · refine w_aload_n rfl rfl ?_
      refine w_gfC (c := 359) rfl s_357 rfl rfl ?_
      refine w_aload_n rfl rfl ?_
      refine w_callV (t' := 0) [] [(2, 359)] rfl s_357 rfl rfl ?_
      refine w_C.more (Q := fun r2 m2 => _) h (fun r2 m2 h => ?_)
      replace h := id h
      refine w_callV (t' := 0) [(0, r2)] [] rfl s_359 rfl rfl ?_
      refine w_C.more (Q := fun r3 m3 => _) h (fun r3 m3 h => ?_)
      replace h := id h
      exact w_iret rfl rfl h
    · refine w_bipush rfl (by decide) ?_
      exact w_iret rfl rfl h
  · refine w_aload_n rfl rfl ?_
    refine w_gfC (c := 359) rfl s_357 rfl rfl ?_
    refine w_aload_n rfl rfl ?_
    refine w_callV (t' := 0) [] [(2, 359)] rfl s_357 rfl rfl ?_
    refine w_C.more (Q := fun r4 m4 => _) h (fun r4 m4 h => ?_)
    replace h := id h
    refine w_callV (t' := 0) [(0, r4)] [] rfl s_359 rfl rfl ?_
    refine w_C.more (Q := fun r5 m5 => _) h (fun r5 m5 h => ?_)
    replace h := id h
    exact w_iret rfl rfl h
theorem xr_x_layNumber {d : Nat} {l1 : Int} {m : w_M} {Q : Int → w_M → Prop} (h : xp_x_layNumber_3 d l1 24 m Q) : xc_x_layNumber (d + 1) l1 m Q := by
  refine w_enter (q := 1) (lv := [some (2, 357), some (0, l1), none]) rfl rfl rfl ?_
  refine w_bipush rfl (by decide) ?_
  refine w_istore_n (lv' := [some (2, 357), some (0, l1), some (0, 24)]) rfl rfl rfl ?_
  exact w_W.less h (w_sub [true, true, true] rfl)
theorem xr_x_layNumber_3 {d : Nat} {l1 l2 : Int} {m : w_M} {Q : Int → w_M → Prop} (h : if l2 < 0 then (Q 0 m) else (if (m 357 1) < 0 then (xp_x_layNumber_3 d l1 (w_32 (l2 + (-8))) m Q) else (if (m 357 1) < 8000 then (((0 : Int) ≤ (m 357 1) ∧ (m 357 1) < 8000) ∧ (xp_x_layNumber_3 d l1 (w_32 (l2 + (-8))) (w_up (w_up m 358 (m 357 1) (w_8 (w_8 (w_shr l1 l2)))) 357 1 (w_32 ((m 357 1) + 1))) Q)) else (xp_x_layNumber_3 d l1 (w_32 (l2 + (-8))) m Q)))) : xp_x_layNumber_3 d l1 l2 m Q := by
  refine w_iload_n rfl rfl ?_
  refine w_iflt rfl (w_ite h (fun h => ?_) (fun h => ?_))
  · exact w_vret rfl rfl h
  · refine w_aload_n rfl rfl ?_
    refine x_gfI rfl s_357 rfl (kk := 1) rfl rfl ?_
    refine w_iflt rfl (w_ite h (fun h => ?_) (fun h => ?_))
    · refine w_iinc (lv' := [some (2, 357), some (0, l1), some (0, w_32 (l2 + (-8)))]) rfl rfl rfl rfl ?_
      refine w_goto rfl ?_
      exact w_W.less h (w_sub [true, true, true] rfl)
    · refine w_aload_n rfl rfl ?_
      refine x_gfI rfl s_357 rfl (kk := 1) rfl rfl ?_
      refine w_aload_n rfl rfl ?_
      refine w_gfC (c := 358) rfl s_357 rfl rfl ?_
      refine w_len rfl s_358 (by decide) (n := 8000) rfl (by decide) ?_
      refine w_icge rfl (w_ite h (fun h => ?_) (fun h => ?_))
      · refine w_aload_n rfl rfl ?_
        refine w_gfC (c := 358) rfl s_357 rfl rfl ?_
        refine w_aload_n rfl rfl ?_
        refine x_gfI rfl s_357 rfl (kk := 1) rfl rfl ?_
        refine w_iload_n rfl rfl ?_
        refine w_iload_n rfl rfl ?_
        refine w_ishr rfl ?_
        refine w_i2b rfl ?_
        refine w_bast rfl s_358 (w_EC (by decide)) (n := 8000) rfl h.1 ?_
        replace h := h.2
        refine w_aload_n rfl rfl ?_
        refine w_dup rfl (show (2 : Nat) ≠ 1 by decide) ?_
        refine x_gfI rfl s_357 rfl (kk := 1) rfl (w_up_ne (by decide)) ?_
        refine w_iconst rfl (by decide) ?_
        refine w_iadd rfl ?_
        refine w_pfI rfl s_357 rfl (w_EC (by decide)) rfl (kk := 1) rfl ?_
        refine w_iinc (lv' := [some (2, 357), some (0, l1), some (0, w_32 (l2 + (-8)))]) rfl rfl rfl rfl ?_
        refine w_goto rfl ?_
        exact w_W.less h (w_sub [true, true, true] rfl)
      · refine w_iinc (lv' := [some (2, 357), some (0, l1), some (0, w_32 (l2 + (-8)))]) rfl rfl rfl rfl ?_
        refine w_goto rfl ?_
        exact w_W.less h (w_sub [true, true, true] rfl)
theorem xr_x_letter {d : Nat} {l1 l2 : Int} {m : w_M} {Q : Int → w_M → Prop} (h : xc_x_isNowhere d m (fun r1 m1 => if r1 = 0 then (if l2 = 0 then (xc_x_nodeHere d m1 (fun r2 m2 => xc_st_letterOf d r2 l1 m2 (fun r3 m3 => Q r3 m3))) else (xc_x_keyHere d m1 (fun r4 m4 => xc_st_letterOf d r4 l1 m4 (fun r5 m5 => Q r5 m5)))) else (Q (-1) m1))) : xc_x_letter (d + 1) l1 l2 m Q := by
  refine w_enter (q := 0) (lv := [some (2, 357), some (0, l1), some (0, l2)]) rfl rfl rfl ?_
  refine w_aload_n rfl rfl ?_
  refine w_callV (t' := 0) [] [] rfl s_357 rfl rfl ?_
  refine w_C.more (Q := fun r1 m1 => _) h (fun r1 m1 h => ?_)
  replace h := id h
  refine w_ifeq rfl (w_ite h (fun h => ?_) (fun h => ?_))
  · refine w_aload_n rfl rfl ?_
    refine w_gfC (c := 359) rfl s_357 rfl rfl ?_
    refine w_iload_n rfl rfl ?_
    refine w_ifeq rfl (w_ite h (fun h => ?_) (fun h => ?_))
    · refine w_aload_n rfl rfl ?_
      refine w_callV (t' := 0) [] [(2, 359)] rfl s_357 rfl rfl ?_
      refine w_C.more (Q := fun r2 m2 => _) h (fun r2 m2 h => ?_)
      replace h := id h
      refine w_iload_n rfl rfl ?_
      refine w_callV (t' := 0) [(0, l1), (0, r2)] [] rfl s_359 rfl rfl ?_
      refine w_C.more (Q := fun r3 m3 => _) h (fun r3 m3 h => ?_)
      replace h := id h
      exact w_iret rfl rfl h
    · refine w_aload_n rfl rfl ?_
      refine w_callV (t' := 0) [] [(2, 359)] rfl s_357 rfl rfl ?_
      refine w_C.more (Q := fun r4 m4 => _) h (fun r4 m4 h => ?_)
      replace h := id h
      refine w_goto rfl ?_
      refine w_iload_n rfl rfl ?_
      refine w_callV (t' := 0) [(0, l1), (0, r4)] [] rfl s_359 rfl rfl ?_
      refine w_C.more (Q := fun r5 m5 => _) h (fun r5 m5 h => ?_)
      replace h := id h
      exact w_iret rfl rfl h
  · refine w_iconst rfl (by decide) ?_
    exact w_iret rfl rfl h
theorem xr_x_load {d : Nat} {m : w_M} {Q : Int → w_M → Prop} (h : xc_pa_forget d (w_up (w_up (w_up m 357 12 (-1)) 357 17 0) 357 18 (-1)) (fun r1 m1 => xc_lo_begin d 358 (m1 357 1) m1 (fun r2 m2 => xc_se_clear d (w_up m2 357 1 0) (fun r3 m3 => xp_x_load_52 d r2 0 m3 Q)))) : xc_x_load (d + 1) m Q := by
  refine w_enter (q := 6) (lv := [some (2, 357), none, none, none, none, none, none]) rfl rfl rfl ?_
  refine w_aload_n rfl rfl ?_
  refine w_iconst rfl (by decide) ?_
  refine w_pfI rfl s_357 rfl (w_EC (by decide)) rfl (kk := 12) rfl ?_
  refine w_aload_n rfl rfl ?_
  refine w_iconst rfl (by decide) ?_
  refine w_pfI rfl s_357 rfl (w_EC (by decide)) rfl (kk := 17) rfl ?_
  refine w_aload_n rfl rfl ?_
  refine w_iconst rfl (by decide) ?_
  refine w_pfI rfl s_357 rfl (w_EC (by decide)) rfl (kk := 18) rfl ?_
  refine w_aload_n rfl rfl ?_
  refine w_gfC (c := 404) rfl s_357 rfl rfl ?_
  refine w_callV (t' := 3) [] [] rfl s_404 rfl rfl ?_
  refine w_C.more (Q := fun r1 m1 => _) h (fun r1 m1 h => ?_)
  replace h := id h
  refine w_aload_n rfl rfl ?_
  refine w_gfC (c := 394) rfl s_357 rfl rfl ?_
  refine w_aload_n rfl rfl ?_
  refine w_gfC (c := 358) rfl s_357 rfl rfl ?_
  refine w_aload_n rfl rfl ?_
  refine x_gfI rfl s_357 rfl (kk := 1) rfl rfl ?_
  refine w_callV (t' := 0) [(0, m1 357 1), (2, 358)] [] rfl s_394 rfl rfl ?_
  refine w_C.more (Q := fun r2 m2 => _) h (fun r2 m2 h => ?_)
  replace h := id h
  refine w_istore_n (lv' := [some (2, 357), some (0, r2), none, none, none, none, none]) rfl rfl rfl ?_
  refine w_aload_n rfl rfl ?_
  refine w_iconst rfl (by decide) ?_
  refine w_pfI rfl s_357 rfl (w_EC (by decide)) rfl (kk := 1) rfl ?_
  refine w_aload_n rfl rfl ?_
  refine w_gfC (c := 391) rfl s_357 rfl rfl ?_
  refine w_callV (t' := 3) [] [] rfl s_391 rfl rfl ?_
  refine w_C.more (Q := fun r3 m3 => _) h (fun r3 m3 h => ?_)
  replace h := id h
  refine w_iconst rfl (by decide) ?_
  refine w_istore_n (lv' := [some (2, 357), some (0, r2), some (0, 0), none, none, none, none]) rfl rfl rfl ?_
  exact w_W.less h (w_sub [true, true, true, false, false, false, false] rfl)
theorem xr_x_load_52 {d : Nat} {l1 l2 : Int} {m : w_M} {Q : Int → w_M → Prop} (h : if 10 < l2 then (xp_x_load_84 d m Q) else (if l1 < 0 then (xp_x_load_84 d m Q) else (xc_se_read d l1 395 m (fun r1 m1 => xp_x_load_52 d r1 (w_32 (l2 + 1)) m1 Q)))) : xp_x_load_52 d l1 l2 m Q := by
  refine w_iload_n rfl rfl ?_
  refine w_bipush rfl (by decide) ?_
  refine w_icgt rfl (w_ite h (fun h => ?_) (fun h => ?_))
  · exact w_W.less h (w_sub [true, false, false, false, false, false, false] rfl)
  · refine w_iload_n rfl rfl ?_
    refine w_iflt rfl (w_ite h (fun h => ?_) (fun h => ?_))
    · exact w_W.less h (w_sub [true, false, false, false, false, false, false] rfl)
    · refine w_aload_n rfl rfl ?_
      refine w_gfC (c := 391) rfl s_357 rfl rfl ?_
      refine w_iload_n rfl rfl ?_
      refine w_aload_n rfl rfl ?_
      refine w_gfC (c := 394) rfl s_357 rfl rfl ?_
      refine w_gfC (c := 395) rfl s_394 rfl rfl ?_
      refine w_callV (t' := 0) [(2, 395), (0, l1)] [] rfl s_391 rfl rfl ?_
      refine w_C.more (Q := fun r1 m1 => _) h (fun r1 m1 h => ?_)
      replace h := id h
      refine w_istore_n (lv' := [some (2, 357), some (0, r1), some (0, l2), none, none, none, none]) rfl rfl rfl ?_
      refine w_iinc (lv' := [some (2, 357), some (0, r1), some (0, w_32 (l2 + 1)), none, none, none, none]) rfl rfl rfl rfl ?_
      refine w_goto rfl ?_
      exact w_W.less h (w_sub [true, true, true, false, false, false, false] rfl)
theorem xr_x_load_84 {d : Nat} {m : w_M} {Q : Int → w_M → Prop} (h : if (m 376 6) = 0 then (xc_st_wholeEntry d (m 391 7) 32 m (fun r1 m1 => xc_ta_close d r1 m1 (fun r2 m2 => xp_x_load_138 d (m 359 6) 1 0 m2 Q))) else (xp_x_load_138 d (m 359 6) 0 0 m Q)) : xp_x_load_84 d m Q := by
  refine w_aload_n rfl rfl ?_
  refine w_gfC (c := 359) rfl s_357 rfl rfl ?_
  refine x_gfI rfl s_359 rfl (kk := 6) rfl rfl ?_
  refine w_istore_n (lv' := [some (2, 357), none, some (0, m 359 6), none, none, none, none]) rfl rfl rfl ?_
  refine w_aload_n rfl rfl ?_
  refine w_gfC (c := 376) rfl s_357 rfl rfl ?_
  refine x_gfI rfl s_376 rfl (kk := 6) rfl rfl ?_
  refine w_ifne rfl (w_ite h (fun h => ?_) (fun h => ?_))
  · refine w_iconst rfl (by decide) ?_
    refine w_goto rfl ?_
    refine w_istore_n (lv' := [some (2, 357), none, some (0, m 359 6), some (0, 1), none, none, none]) rfl rfl rfl ?_
    refine w_iload_n rfl rfl ?_
    refine w_ifeq rfl (w_iff (by decide) ?_)
    refine w_aload_n rfl rfl ?_
    refine w_gfC (c := 366) rfl s_357 rfl rfl ?_
    refine w_aload_n rfl rfl ?_
    refine w_gfC (c := 359) rfl s_357 rfl rfl ?_
    refine w_aload_n rfl rfl ?_
    refine w_gfC (c := 391) rfl s_357 rfl rfl ?_
    refine x_gfI rfl s_391 rfl (kk := 7) rfl rfl ?_
    refine w_bipush rfl (by decide) ?_
    refine w_callV (t' := 0) [(0, 32), (0, m 391 7)] [(2, 366)] rfl s_359 rfl rfl ?_
    refine w_C.more (Q := fun r1 m1 => _) h (fun r1 m1 h => ?_)
    replace h := id h
    refine w_callV (t' := 3) [(0, r1)] [] rfl s_366 rfl rfl ?_
    refine w_C.more (Q := fun r2 m2 => _) h (fun r2 m2 h => ?_)
    replace h := id h
    refine w_iconst rfl (by decide) ?_
    refine w_istore (lv' := [some (2, 357), none, some (0, m 359 6), some (0, 1), some (0, 0), none, none]) rfl rfl rfl ?_
    exact w_W.less h (w_sub [true, false, true, true, true, false, false] rfl)
  · refine w_iconst rfl (by decide) ?_
    refine w_istore_n (lv' := [some (2, 357), none, some (0, m 359 6), some (0, 0), none, none, none]) rfl rfl rfl ?_
    refine w_iload_n rfl rfl ?_
    refine w_ifeq rfl (w_ift (by decide) ?_)
    refine w_iconst rfl (by decide) ?_
    refine w_istore (lv' := [some (2, 357), none, some (0, m 359 6), some (0, 0), some (0, 0), none, none]) rfl rfl rfl ?_
    exact w_W.less h (w_sub [true, false, true, true, true, false, false] rfl)
theorem xr_x_load_138 {d : Nat} {l2 l3 l4 : Int} {m : w_M} {Q : Int → w_M → Prop} (h : if l4 < 1000 then (if l3 = 0 then (xp_x_load_229 d l2 m Q) else (xc_lo_isWaiting d m (fun r1 m1 => if r1 = 0 then (xc_lo_nextUnread d m1 (fun r2 m2 => if 0 < r2 then (xc_lo_readObject d r2 m2 (fun r3 m3 => xp_x_load_197 d l2 l4 r1 r2 m3 Q)) else (xp_x_load_197 d l2 l4 r1 r2 m2 Q))) else (xc_lo_readBody d m1 (fun r4 m4 => if 0 < r4 then (xc_lo_readObject d r4 m4 (fun r5 m5 => xp_x_load_197 d l2 l4 r1 r4 m5 Q)) else (xp_x_load_197 d l2 l4 r1 r4 m4 Q)))))) else (xp_x_load_229 d l2 m Q)) : xp_x_load_138 d l2 l3 l4 m Q := by
  refine w_iload rfl rfl ?_
  refine w_sipush rfl (by decide) ?_
  refine w_icge rfl (w_ite h (fun h => ?_) (fun h => ?_))
  · refine w_iload_n rfl rfl ?_
    refine w_ifeq rfl (w_ite h (fun h => ?_) (fun h => ?_))
    · exact w_W.less h (w_sub [true, false, true, false, false, false, false] rfl)
    · refine w_aload_n rfl rfl ?_
      refine w_gfC (c := 394) rfl s_357 rfl rfl ?_
      refine w_callV (t' := 0) [] [] rfl s_394 rfl rfl ?_
      refine w_C.more (Q := fun r1 m1 => _) h (fun r1 m1 h => ?_)
      replace h := id h
      refine w_istore (lv' := [some (2, 357), none, some (0, l2), some (0, l3), some (0, l4), some (0, r1), none]) rfl rfl rfl ?_
      refine w_iload rfl rfl ?_
      refine w_ifeq rfl (w_ite h (fun h => ?_) (fun h => ?_))
      · refine w_aload_n rfl rfl ?_
        refine w_gfC (c := 394) rfl s_357 rfl rfl ?_
        refine w_callV (t' := 0) [] [] rfl s_394 rfl rfl ?_
        refine w_C.more (Q := fun r2 m2 => _) h (fun r2 m2 h => ?_)
        replace h := id h
        refine w_istore (lv' := [some (2, 357), none, some (0, l2), some (0, l3), some (0, l4), some (0, r1), some (0, r2)]) rfl rfl rfl ?_
        refine w_iload rfl rfl ?_
        refine w_ifle rfl (w_ite h (fun h => ?_) (fun h => ?_))
        · refine w_aload_n rfl rfl ?_
          refine w_gfC (c := 394) rfl s_357 rfl rfl ?_
          refine w_iload rfl rfl ?_
          refine w_callV (t' := 3) [(0, r2)] [] rfl s_394 rfl rfl ?_
          refine w_C.more (Q := fun r3 m3 => _) h (fun r3 m3 h => ?_)
          replace h := id h
          exact w_W.less h (w_sub [true, false, true, false, true, true, true] rfl)
        · exact w_W.less h (w_sub [true, false, true, false, true, true, true] rfl)
      · refine w_aload_n rfl rfl ?_
        refine w_gfC (c := 394) rfl s_357 rfl rfl ?_
        refine w_callV (t' := 0) [] [] rfl s_394 rfl rfl ?_
        refine w_C.more (Q := fun r4 m4 => _) h (fun r4 m4 h => ?_)
        replace h := id h
        refine w_goto rfl ?_
        refine w_istore (lv' := [some (2, 357), none, some (0, l2), some (0, l3), some (0, l4), some (0, r1), some (0, r4)]) rfl rfl rfl ?_
        refine w_iload rfl rfl ?_
        refine w_ifle rfl (w_ite h (fun h => ?_) (fun h => ?_))
        · refine w_aload_n rfl rfl ?_
          refine w_gfC (c := 394) rfl s_357 rfl rfl ?_
          refine w_iload rfl rfl ?_
          refine w_callV (t' := 3) [(0, r4)] [] rfl s_394 rfl rfl ?_
          refine w_C.more (Q := fun r5 m5 => _) h (fun r5 m5 h => ?_)
          replace h := id h
          exact w_W.less h (w_sub [true, false, true, false, true, true, true] rfl)
        · exact w_W.less h (w_sub [true, false, true, false, true, true, true] rfl)
  · exact w_W.less h (w_sub [true, false, true, false, false, false, false] rfl)
theorem xr_x_load_197 {d : Nat} {l2 l4 l5 l6 : Int} {m : w_M} {Q : Int → w_M → Prop} (h : if (m 376 6) = 0 then (if 0 < l6 then (xp_x_load_138 d l2 1 (w_32 (l4 + 1)) m Q) else (if l5 = 0 then (xp_x_load_138 d l2 0 (w_32 (l4 + 1)) m Q) else (xp_x_load_138 d l2 1 (w_32 (l4 + 1)) m Q))) else (xp_x_load_138 d l2 0 (w_32 (l4 + 1)) m Q)) : xp_x_load_197 d l2 l4 l5 l6 m Q := by
  refine w_aload_n rfl rfl ?_
  refine w_gfC (c := 376) rfl s_357 rfl rfl ?_
  refine x_gfI rfl s_376 rfl (kk := 6) rfl rfl ?_
  refine w_ifne rfl (w_ite h (fun h => ?_) (fun h => ?_))
  · refine w_iload rfl rfl ?_
    refine w_ifgt rfl (w_ite h (fun h => ?_) (fun h => ?_))
    · refine w_iconst rfl (by decide) ?_
      refine w_goto rfl ?_
      refine w_istore_n (lv' := [some (2, 357), none, some (0, l2), some (0, 1), some (0, l4), some (0, l5), some (0, l6)]) rfl rfl rfl ?_
      refine w_iinc (lv' := [some (2, 357), none, some (0, l2), some (0, 1), some (0, w_32 (l4 + 1)), some (0, l5), some (0, l6)]) rfl rfl rfl rfl ?_
      refine w_goto rfl ?_
      exact w_W.less h (w_sub [true, false, true, true, true, false, false] rfl)
    · refine w_iload rfl rfl ?_
      refine w_ifeq rfl (w_ite h (fun h => ?_) (fun h => ?_))
      · refine w_iconst rfl (by decide) ?_
        refine w_istore_n (lv' := [some (2, 357), none, some (0, l2), some (0, 0), some (0, l4), some (0, l5), some (0, l6)]) rfl rfl rfl ?_
        refine w_iinc (lv' := [some (2, 357), none, some (0, l2), some (0, 0), some (0, w_32 (l4 + 1)), some (0, l5), some (0, l6)]) rfl rfl rfl rfl ?_
        refine w_goto rfl ?_
        exact w_W.less h (w_sub [true, false, true, true, true, false, false] rfl)
      · refine w_iconst rfl (by decide) ?_
        refine w_goto rfl ?_
        refine w_istore_n (lv' := [some (2, 357), none, some (0, l2), some (0, 1), some (0, l4), some (0, l5), some (0, l6)]) rfl rfl rfl ?_
        refine w_iinc (lv' := [some (2, 357), none, some (0, l2), some (0, 1), some (0, w_32 (l4 + 1)), some (0, l5), some (0, l6)]) rfl rfl rfl rfl ?_
        refine w_goto rfl ?_
        exact w_W.less h (w_sub [true, false, true, true, true, false, false] rfl)
  · refine w_iconst rfl (by decide) ?_
    refine w_istore_n (lv' := [some (2, 357), none, some (0, l2), some (0, 0), some (0, l4), some (0, l5), some (0, l6)]) rfl rfl rfl ?_
    refine w_iinc (lv' := [some (2, 357), none, some (0, l2), some (0, 0), some (0, w_32 (l4 + 1)), some (0, l5), some (0, l6)]) rfl rfl rfl rfl ?_
    refine w_goto rfl ?_
    exact w_W.less h (w_sub [true, false, true, true, true, false, false] rfl)
theorem xr_x_load_229 {d : Nat} {l2 : Int} {m : w_M} {Q : Int → w_M → Prop} (h : if (m 376 6) = 0 then (xc_ta_nameAll d (m 391 8) (m 391 9) m (fun r1 m1 => xc_ta_nameAll d l2 (m1 359 6) m1 (fun r2 m2 => xc_tr_read d (m2 391 7) m2 (fun r3 m3 => if (m3 376 6) = 0 then (xp_x_load_313 d 1 (w_up m3 357 15 (m3 376 6)) Q) else (xp_x_load_313 d 0 (w_up m3 357 15 (m3 376 6)) Q))))) else (if (m 376 6) = 0 then (xp_x_load_313 d 1 (w_up m 357 15 (m 376 6)) Q) else (xp_x_load_313 d 0 (w_up m 357 15 (m 376 6)) Q))) : xp_x_load_229 d l2 m Q := by
  refine w_aload_n rfl rfl ?_
  refine w_gfC (c := 376) rfl s_357 rfl rfl ?_
  refine x_gfI rfl s_376 rfl (kk := 6) rfl rfl ?_
  refine w_ifne rfl (w_ite h (fun h => ?_) (fun h => ?_))
  · refine w_aload_n rfl rfl ?_
    refine w_gfC (c := 366) rfl s_357 rfl rfl ?_
    refine w_aload_n rfl rfl ?_
    refine w_gfC (c := 391) rfl s_357 rfl rfl ?_
    refine x_gfI rfl s_391 rfl (kk := 8) rfl rfl ?_
    refine w_aload_n rfl rfl ?_
    refine w_gfC (c := 391) rfl s_357 rfl rfl ?_
    refine x_gfI rfl s_391 rfl (kk := 9) rfl rfl ?_
    refine w_callV (t' := 3) [(0, m 391 9), (0, m 391 8)] [] rfl s_366 rfl rfl ?_
    refine w_C.more (Q := fun r1 m1 => _) h (fun r1 m1 h => ?_)
    replace h := id h
    refine w_aload_n rfl rfl ?_
    refine w_gfC (c := 366) rfl s_357 rfl rfl ?_
    refine w_iload_n rfl rfl ?_
    refine w_aload_n rfl rfl ?_
    refine w_gfC (c := 359) rfl s_357 rfl rfl ?_
    refine x_gfI rfl s_359 rfl (kk := 6) rfl rfl ?_
    refine w_callV (t' := 3) [(0, m1 359 6), (0, l2)] [] rfl s_366 rfl rfl ?_
    refine w_C.more (Q := fun r2 m2 => _) h (fun r2 m2 h => ?_)
    replace h := id h
    refine w_aload_n rfl rfl ?_
    refine w_gfC (c := 399) rfl s_357 rfl rfl ?_
    refine w_aload_n rfl rfl ?_
    refine w_gfC (c := 391) rfl s_357 rfl rfl ?_
    refine x_gfI rfl s_391 rfl (kk := 7) rfl rfl ?_
    refine w_callV (t' := 3) [(0, m2 391 7)] [] rfl s_399 rfl rfl ?_
    refine w_C.more (Q := fun r3 m3 => _) h (fun r3 m3 h => ?_)
    replace h := id h
    refine w_aload_n rfl rfl ?_
    refine w_aload_n rfl rfl ?_
    refine w_gfC (c := 376) rfl s_357 rfl rfl ?_
    refine x_gfI rfl s_376 rfl (kk := 6) rfl rfl ?_
    refine w_pfI rfl s_357 rfl (w_EC (by decide)) rfl (kk := 15) rfl ?_
    refine w_aload_n rfl rfl ?_
    refine w_aload_n rfl rfl ?_
    refine x_gfI rfl s_357 rfl (kk := 15) rfl (w_up_eq) ?_
    refine w_ifne rfl (w_ite h (fun h => ?_) (fun h => ?_))
    · refine w_iconst rfl (by decide) ?_
      refine w_goto rfl ?_
      exact w_W.less h (w_sub [true, false, false, false, false, false, false] rfl)
    · refine w_iconst rfl (by decide) ?_
      exact w_W.less h (w_sub [true, false, false, false, false, false, false] rfl)
  · refine w_aload_n rfl rfl ?_
    refine w_aload_n rfl rfl ?_
    refine w_gfC (c := 376) rfl s_357 rfl rfl ?_
    refine x_gfI rfl s_376 rfl (kk := 6) rfl rfl ?_
    refine w_pfI rfl s_357 rfl (w_EC (by decide)) rfl (kk := 15) rfl ?_
    refine w_aload_n rfl rfl ?_
    refine w_aload_n rfl rfl ?_
    refine x_gfI rfl s_357 rfl (kk := 15) rfl (w_up_eq) ?_
    refine w_ifne rfl (w_ite h (fun h => ?_) (fun h => ?_))
    · refine w_iconst rfl (by decide) ?_
      refine w_goto rfl ?_
      exact w_W.less h (w_sub [true, false, false, false, false, false, false] rfl)
    · refine w_iconst rfl (by decide) ?_
      exact w_W.less h (w_sub [true, false, false, false, false, false, false] rfl)
theorem xr_x_load_313 {d : Nat} {s1 : Int} {m : w_M} {Q : Int → w_M → Prop} (h : (s1 = 0 ∨ s1 = 1) ∧ (if s1 = 0 then (if s1 = 0 then (Q (w_32 ((-100) - (m 357 15))) (w_up (w_up m 357 14 s1) 357 16 (m 376 7))) else (Q (m 399 7) (w_up (w_up m 357 14 s1) 357 16 (m 376 7)))) else (if s1 = 0 then (Q (w_32 ((-100) - (m 357 15))) (w_up (w_up m 357 14 s1) 357 16 (-1))) else (Q (m 399 7) (w_up (w_up m 357 14 s1) 357 16 (-1)))))) : xp_x_load_313 d s1 m Q := by
  refine w_pfZ rfl s_357 rfl (w_EC (by decide)) rfl (kk := 14) rfl h.1 ?_
  replace h := h.2
  refine w_aload_n rfl rfl ?_
  refine w_aload_n rfl rfl ?_
  refine x_gfZ rfl s_357 rfl (kk := 14) rfl (w_up_eq) ?_
  refine w_ifeq rfl (w_ite h (fun h => ?_) (fun h => ?_))
  · refine w_aload_n rfl rfl ?_
    refine w_gfC (c := 376) rfl s_357 rfl rfl ?_
    refine x_gfI rfl s_376 rfl (kk := 7) rfl (w_up_ne (by decide)) ?_
    refine w_pfI rfl s_357 rfl (w_EC (by decide)) rfl (kk := 16) rfl ?_
    refine w_aload_n rfl rfl ?_
    refine x_gfZ rfl s_357 rfl (kk := 14) rfl ((w_up_nb (by decide)).trans (w_up_eq)) ?_
    refine w_ifeq rfl (w_ite h (fun h => ?_) (fun h => ?_))
    · refine w_bipush rfl (by decide) ?_
      refine w_aload_n rfl rfl ?_
      refine x_gfI rfl s_357 rfl (kk := 15) rfl ((w_up_nb (by decide)).trans (w_up_nb (by decide))) ?_
      refine w_isub rfl ?_
      exact w_iret rfl rfl h
    · refine w_aload_n rfl rfl ?_
      refine w_gfC (c := 399) rfl s_357 rfl rfl ?_
      refine x_gfI rfl s_399 rfl (kk := 7) rfl ((w_up_ne (by decide)).trans (w_up_ne (by decide))) ?_
      refine w_goto rfl ?_
      exact w_iret rfl rfl h
  · refine w_iconst rfl (by decide) ?_
    refine w_goto rfl ?_
    refine w_pfI rfl s_357 rfl (w_EC (by decide)) rfl (kk := 16) rfl ?_
    refine w_aload_n rfl rfl ?_
    refine x_gfZ rfl s_357 rfl (kk := 14) rfl ((w_up_nb (by decide)).trans (w_up_eq)) ?_
    refine w_ifeq rfl (w_ite h (fun h => ?_) (fun h => ?_))
    · refine w_bipush rfl (by decide) ?_
      refine w_aload_n rfl rfl ?_
      refine x_gfI rfl s_357 rfl (kk := 15) rfl ((w_up_nb (by decide)).trans (w_up_nb (by decide))) ?_
      refine w_isub rfl ?_
      exact w_iret rfl rfl h
    · refine w_aload_n rfl rfl ?_
      refine w_gfC (c := 399) rfl s_357 rfl rfl ?_
      refine x_gfI rfl s_399 rfl (kk := 7) rfl ((w_up_ne (by decide)).trans (w_up_ne (by decide))) ?_
      refine w_goto rfl ?_
      exact w_iret rfl rfl h
theorem xr_x_more {d : Nat} {m : w_M} {Q : Int → w_M → Prop} (h : xc_wr_clear d m (fun r1 m1 => if (m1 357 14) = 0 then (Q (-1) m1) else (xc_se_newest d m1 (fun r2 m2 => xc_wr_writeMore d 395 (m1 394 1) r2 (m2 391 10) m2 (fun r3 m3 => Q r3 m3))))) : xc_x_more (d + 1) m Q := by
  refine w_enter (q := 0) (lv := [some (2, 357)]) rfl rfl rfl ?_
  refine w_aload_n rfl rfl ?_
  refine w_gfC (c := 418) rfl s_357 rfl rfl ?_
  refine w_callV (t' := 3) [] [] rfl s_418 rfl rfl ?_
  refine w_C.more (Q := fun r1 m1 => _) h (fun r1 m1 h => ?_)
  replace h := id h
  refine w_aload_n rfl rfl ?_
  refine x_gfZ rfl s_357 rfl (kk := 14) rfl rfl ?_
  refine w_ifeq rfl (w_ite h (fun h => ?_) (fun h => ?_))
  · refine w_iconst rfl (by decide) ?_
    exact w_iret rfl rfl h
  · refine w_aload_n rfl rfl ?_
    refine w_gfC (c := 418) rfl s_357 rfl rfl ?_
    refine w_aload_n rfl rfl ?_
    refine w_gfC (c := 394) rfl s_357 rfl rfl ?_
    refine w_gfC (c := 395) rfl s_394 rfl rfl ?_
    refine w_aload_n rfl rfl ?_
    refine w_gfC (c := 394) rfl s_357 rfl rfl ?_
    refine x_gfI rfl s_394 rfl (kk := 1) rfl rfl ?_
    refine w_aload_n rfl rfl ?_
    refine w_gfC (c := 391) rfl s_357 rfl rfl ?_
    refine w_callV (t' := 0) [] [(0, m1 394 1), (2, 395), (2, 418)] rfl s_391 rfl rfl ?_
    refine w_C.more (Q := fun r2 m2 => _) h (fun r2 m2 h => ?_)
    replace h := id h
    refine w_aload_n rfl rfl ?_
    refine w_gfC (c := 391) rfl s_357 rfl rfl ?_
    refine x_gfZ rfl s_391 rfl (kk := 10) rfl rfl ?_
    refine w_callV (t' := 0) [(0, m2 391 10), (0, r2), (0, m1 394 1), (2, 395)] [] rfl s_418 rfl rfl ?_
    refine w_C.more (Q := fun r3 m3 => _) h (fun r3 m3 h => ?_)
    replace h := id h
    refine w_goto rfl ?_
    exact w_iret rfl rfl h
theorem xr_x_move {d : Nat} {l1 l2 : Int} {m : w_M} {Q : Int → w_M → Prop} (h : if (m 357 14) = 0 then (Q (-1) m) else (xc_ch_movePage d l1 l2 m (fun r1 m1 => xc_x_changed d r1 m1 (fun r2 m2 => Q r2 m2)))) : xc_x_move (d + 1) l1 l2 m Q := by
  refine w_enter (q := 0) (lv := [some (2, 357), some (0, l1), some (0, l2)]) rfl rfl rfl ?_
  refine w_aload_n rfl rfl ?_
  refine x_gfZ rfl s_357 rfl (kk := 14) rfl rfl ?_
  refine w_ifeq rfl (w_ite h (fun h => ?_) (fun h => ?_))
  · refine w_iconst rfl (by decide) ?_
    exact w_iret rfl rfl h
  · refine w_aload_n rfl rfl ?_
    refine w_aload_n rfl rfl ?_
    refine w_gfC (c := 417) rfl s_357 rfl rfl ?_
    refine w_iload_n rfl rfl ?_
    refine w_iload_n rfl rfl ?_
    refine w_callV (t' := 0) [(0, l2), (0, l1)] [(2, 357)] rfl s_417 rfl rfl ?_
    refine w_C.more (Q := fun r1 m1 => _) h (fun r1 m1 h => ?_)
    replace h := id h
    refine w_callV (t' := 0) [(0, r1)] [] rfl s_357 rfl rfl ?_
    refine w_C.more (Q := fun r2 m2 => _) h (fun r2 m2 h => ?_)
    replace h := id h
    refine w_goto rfl ?_
    exact w_iret rfl rfl h
theorem xr_x_nodeHere {d : Nat} {m : w_M} {Q : Int → w_M → Prop} (h : xc_x_isNowhere d m (fun r1 m1 => if r1 = 0 then (((0 : Int) ≤ (m1 357 12) ∧ (m1 357 12) < 25) ∧ (Q (m1 427 (m1 357 12)) m1)) else (Q (-1) m1))) : xc_x_nodeHere (d + 1) m Q := by
  refine w_enter (q := 0) (lv := [some (2, 357)]) rfl rfl rfl ?_
  refine w_aload_n rfl rfl ?_
  refine w_callV (t' := 0) [] [] rfl s_357 rfl rfl ?_
  refine w_C.more (Q := fun r1 m1 => _) h (fun r1 m1 h => ?_)
  replace h := id h
  refine w_ifeq rfl (w_ite h (fun h => ?_) (fun h => ?_))
  · refine w_aload_n rfl rfl ?_
    refine w_gfC (c := 427) rfl s_357 rfl rfl ?_
    refine w_aload_n rfl rfl ?_
    refine x_gfI rfl s_357 rfl (kk := 12) rfl rfl ?_
    refine w_iald rfl s_427 (n := 25) rfl h.1 ?_
    replace h := h.2
    exact w_iret rfl rfl h
  · refine w_iconst rfl (by decide) ?_
    refine w_goto rfl ?_
    exact w_iret rfl rfl h
theorem xr_x_objects {d : Nat} {m : w_M} {Q : Int → w_M → Prop} (h : if (m 357 14) = 0 then (Q (-1) m) else (xp_x_objects_13 d 0 1 m Q)) : xc_x_objects (d + 1) m Q := by
  refine w_enter (q := 2) (lv := [some (2, 357), none, none]) rfl rfl rfl ?_
  refine w_aload_n rfl rfl ?_
  refine x_gfZ rfl s_357 rfl (kk := 14) rfl rfl ?_
  refine w_ifne rfl (w_ite h (fun h => ?_) (fun h => ?_))
  · refine w_iconst rfl (by decide) ?_
    exact w_iret rfl rfl h
  · refine w_iconst rfl (by decide) ?_
    refine w_istore_n (lv' := [some (2, 357), some (0, 0), none]) rfl rfl rfl ?_
    refine w_iconst rfl (by decide) ?_
    refine w_istore_n (lv' := [some (2, 357), some (0, 0), some (0, 1)]) rfl rfl rfl ?_
    exact w_W.less h (w_sub [true, true, true] rfl)
theorem xr_x_objects_13 {d : Nat} {l1 l2 : Int} {m : w_M} {Q : Int → w_M → Prop} (h : if l2 < (m 366 11) then (xc_ta_isFree d l2 m (fun r1 m1 => if r1 = 0 then (xp_x_objects_13 d (w_32 (l1 + 1)) (w_32 (l2 + 1)) m1 Q) else (xp_x_objects_13 d l1 (w_32 (l2 + 1)) m1 Q))) else (Q l1 m)) : xp_x_objects_13 d l1 l2 m Q := by
  refine w_iload_n rfl rfl ?_
  refine w_aload_n rfl rfl ?_
  refine w_gfC (c := 366) rfl s_357 rfl rfl ?_
  refine x_gfI rfl s_366 rfl (kk := 11) rfl rfl ?_
  refine w_icge rfl (w_ite h (fun h => ?_) (fun h => ?_))
  · refine w_aload_n rfl rfl ?_
    refine w_gfC (c := 366) rfl s_357 rfl rfl ?_
    refine w_iload_n rfl rfl ?_
    refine w_callV (t' := 0) [(0, l2)] [] rfl s_366 rfl rfl ?_
    refine w_C.more (Q := fun r1 m1 => _) h (fun r1 m1 h => ?_)
    replace h := id h
    refine w_ifne rfl (w_ite h (fun h => ?_) (fun h => ?_))
    · refine w_iinc (lv' := [some (2, 357), some (0, w_32 (l1 + 1)), some (0, l2)]) rfl rfl rfl rfl ?_
      refine w_iinc (lv' := [some (2, 357), some (0, w_32 (l1 + 1)), some (0, w_32 (l2 + 1))]) rfl rfl rfl rfl ?_
      refine w_goto rfl ?_
      exact w_W.less h (w_sub [true, true, true] rfl)
    · refine w_iinc (lv' := [some (2, 357), some (0, l1), some (0, w_32 (l2 + 1))]) rfl rfl rfl rfl ?_
      refine w_goto rfl ?_
      exact w_W.less h (w_sub [true, true, true] rfl)
  · refine w_iload_n rfl rfl ?_
    exact w_iret rfl rfl h
theorem xr_x_out {d : Nat} {l1 : Int} {m : w_M} {Q : Int → w_M → Prop} (h : xc_wr_byteAt d l1 m (fun r1 m1 => Q r1 m1)) : xc_x_out (d + 1) l1 m Q := by
  refine w_enter (q := 0) (lv := [some (2, 357), some (0, l1)]) rfl rfl rfl ?_
  refine w_aload_n rfl rfl ?_
  refine w_gfC (c := 418) rfl s_357 rfl rfl ?_
  refine w_iload_n rfl rfl ?_
  refine w_callV (t' := 0) [(0, l1)] [] rfl s_418 rfl rfl ?_
  refine w_C.more (Q := fun r1 m1 => _) h (fun r1 m1 h => ?_)
  replace h := id h
  exact w_iret rfl rfl h
theorem xr_x_outs {d : Nat} {m : w_M} {Q : Int → w_M → Prop} (h : Q (m 418 3) m) : xc_x_outs (d + 1) m Q := by
  refine w_enter (q := 0) (lv := [some (2, 357)]) rfl rfl rfl ?_
  refine w_aload_n rfl rfl ?_
  refine w_gfC (c := 418) rfl s_357 rfl rfl ?_
  refine x_gfI rfl s_418 rfl (kk := 3) rfl rfl ?_
  exact w_iret rfl rfl h
theorem xr_x_page {d : Nat} {l1 l2 : Int} {m : w_M} {Q : Int → w_M → Prop} (h : if (m 357 14) = 0 then (Q (-1) m) else (xc_tr_has d l1 m (fun r1 m1 => if r1 = 0 then (Q 0 m1) else (xc_tr_leafAt d l1 m1 (fun r2 m2 => if l2 = 0 then (Q r2 m2) else (if l2 = 1 then (xc_tr_attribute d r2 8 m2 (fun r3 m3 => xc_ta_value d r3 m3 (fun r4 m4 => xc_st_part d r4 (w_32 (l2 - 1)) m4 (fun r5 m5 => xc_ta_value d r5 m5 (fun r6 m6 => xc_st_units d r6 m6 (fun r7 m7 => Q r7 m7)))))) else (if l2 = 2 then (xc_tr_attribute d r2 8 m2 (fun r8 m8 => xc_ta_value d r8 m8 (fun r9 m9 => xc_st_part d r9 (w_32 (l2 - 1)) m9 (fun r10 m10 => xc_ta_value d r10 m10 (fun r11 m11 => xc_st_units d r11 m11 (fun r12 m12 => Q r12 m12)))))) else (if l2 = 3 then (xc_tr_attribute d r2 8 m2 (fun r13 m13 => xc_ta_value d r13 m13 (fun r14 m14 => xc_st_part d r14 (w_32 (l2 - 1)) m14 (fun r15 m15 => xc_ta_value d r15 m15 (fun r16 m16 => xc_st_units d r16 m16 (fun r17 m17 => Q r17 m17)))))) else (if l2 = 4 then (xc_tr_attribute d r2 8 m2 (fun r18 m18 => xc_ta_value d r18 m18 (fun r19 m19 => xc_st_part d r19 (w_32 (l2 - 1)) m19 (fun r20 m20 => xc_ta_value d r20 m20 (fun r21 m21 => xc_st_units d r21 m21 (fun r22 m22 => Q r22 m22)))))) else (if l2 = 5 then (xc_tr_attribute d r2 10 m2 (fun r23 m23 => xc_ta_value d r23 m23 (fun r24 m24 => xc_st_oneOf d r24 m24 (fun r25 m25 => Q r25 m25)))) else (if l2 = 6 then (xc_tr_contentBytes d r2 m2 (fun r26 m26 => Q r26 m26)) else (Q 0 m2)))))))))))) : xc_x_page (d + 1) l1 l2 m Q := by
  refine w_enter (q := 2) (lv := [some (2, 357), some (0, l1), some (0, l2), none, none]) rfl rfl rfl ?_
  refine w_aload_n rfl rfl ?_
  refine x_gfZ rfl s_357 rfl (kk := 14) rfl rfl ?_
  refine w_ifne rfl (w_ite h (fun h => ?_) (fun h => ?_))
  · refine w_iconst rfl (by decide) ?_
    exact w_iret rfl rfl h
  · refine w_aload_n rfl rfl ?_
    refine w_gfC (c := 399) rfl s_357 rfl rfl ?_
    refine w_iload_n rfl rfl ?_
    refine w_callV (t' := 0) [(0, l1)] [] rfl s_399 rfl rfl ?_
    refine w_C.more (Q := fun r1 m1 => _) h (fun r1 m1 h => ?_)
    replace h := id h
    refine w_ifne rfl (w_ite h (fun h => ?_) (fun h => ?_))
    · refine w_iconst rfl (by decide) ?_
      exact w_iret rfl rfl h
    · refine w_aload_n rfl rfl ?_
      refine w_gfC (c := 399) rfl s_357 rfl rfl ?_
      refine w_iload_n rfl rfl ?_
      refine w_callV (t' := 0) [(0, l1)] [] rfl s_399 rfl rfl ?_
      refine w_C.more (Q := fun r2 m2 => _) h (fun r2 m2 h => ?_)
      replace h := id h
      refine w_istore_n (lv' := [some (2, 357), some (0, l1), some (0, l2), some (0, r2), none]) rfl rfl rfl ?_
      refine w_iload_n rfl rfl ?_
      refine w_tswitch (pd := 158) [(0, 76), (1, 78), (2, 78), (3, 78), (4, 78), (5, 124), (6, 149)] rfl rfl (by decide) (w_tsw_ok _ _ (by decide)) (by decide) ?_
      refine w_ite h (fun h => ?_) (fun h => ?_)
      · refine w_iload_n rfl rfl ?_
        exact w_iret rfl rfl h
      ·
        refine w_ite h (fun h => ?_) (fun h => ?_)
        · refine w_aload_n rfl rfl ?_
          refine w_gfC (c := 366) rfl s_357 rfl rfl ?_
          refine w_aload_n rfl rfl ?_
          refine w_gfC (c := 399) rfl s_357 rfl rfl ?_
          refine w_iload_n rfl rfl ?_
          refine w_bipush rfl (by decide) ?_
          refine w_callV (t' := 0) [(0, 8), (0, r2)] [(2, 366)] rfl s_399 rfl rfl ?_
          refine w_C.more (Q := fun r3 m3 => _) h (fun r3 m3 h => ?_)
          replace h := id h
          refine w_callV (t' := 0) [(0, r3)] [] rfl s_366 rfl rfl ?_
          refine w_C.more (Q := fun r4 m4 => _) h (fun r4 m4 h => ?_)
          replace h := id h
          refine w_istore (lv' := [some (2, 357), some (0, l1), some (0, l2), some (0, r2), some (0, r4)]) rfl rfl rfl ?_
          refine w_aload_n rfl rfl ?_
          refine w_gfC (c := 359) rfl s_357 rfl rfl ?_
          refine w_aload_n rfl rfl ?_
          refine w_gfC (c := 366) rfl s_357 rfl rfl ?_
          refine w_aload_n rfl rfl ?_
          refine w_gfC (c := 359) rfl s_357 rfl rfl ?_
          refine w_iload rfl rfl ?_
          refine w_iload_n rfl rfl ?_
          refine w_iconst rfl (by decide) ?_
          refine w_isub rfl ?_
          refine w_callV (t' := 0) [(0, w_32 (l2 - 1)), (0, r4)] [(2, 366), (2, 359)] rfl s_359 rfl rfl ?_
          refine w_C.more (Q := fun r5 m5 => _) h (fun r5 m5 h => ?_)
          replace h := id h
          refine w_callV (t' := 0) [(0, r5)] [(2, 359)] rfl s_366 rfl rfl ?_
          refine w_C.more (Q := fun r6 m6 => _) h (fun r6 m6 h => ?_)
          replace h := id h
          refine w_callV (t' := 0) [(0, r6)] [] rfl s_359 rfl rfl ?_
          refine w_C.more (Q := fun r7 m7 => _) h (fun r7 m7 h => ?_)
          replace h := id h
          exact w_iret rfl rfl h
        ·
          refine w_ite h (fun h => ?_) (fun h => ?_)
          · refine w_aload_n rfl rfl ?_
            refine w_gfC (c := 366) rfl s_357 rfl rfl ?_
            refine w_aload_n rfl rfl ?_
            refine w_gfC (c := 399) rfl s_357 rfl rfl ?_
            refine w_iload_n rfl rfl ?_
            refine w_bipush rfl (by decide) ?_
            refine w_callV (t' := 0) [(0, 8), (0, r2)] [(2, 366)] rfl s_399 rfl rfl ?_
            refine w_C.more (Q := fun r8 m8 => _) h (fun r8 m8 h => ?_)
            replace h := id h
            refine w_callV (t' := 0) [(0, r8)] [] rfl s_366 rfl rfl ?_
            refine w_C.more (Q := fun r9 m9 => _) h (fun r9 m9 h => ?_)
            replace h := id h
            refine w_istore (lv' := [some (2, 357), some (0, l1), some (0, l2), some (0, r2), some (0, r9)]) rfl rfl rfl ?_
            refine w_aload_n rfl rfl ?_
            refine w_gfC (c := 359) rfl s_357 rfl rfl ?_
            refine w_aload_n rfl rfl ?_
            refine w_gfC (c := 366) rfl s_357 rfl rfl ?_
            refine w_aload_n rfl rfl ?_
            refine w_gfC (c := 359) rfl s_357 rfl rfl ?_
            refine w_iload rfl rfl ?_
            refine w_iload_n rfl rfl ?_
            refine w_iconst rfl (by decide) ?_
            refine w_isub rfl ?_
            refine w_callV (t' := 0) [(0, w_32 (l2 - 1)), (0, r9)] [(2, 366), (2, 359)] rfl s_359 rfl rfl ?_
            refine w_C.more (Q := fun r10 m10 => _) h (fun r10 m10 h => ?_)
            replace h := id h
            refine w_callV (t' := 0) [(0, r10)] [(2, 359)] rfl s_366 rfl rfl ?_
            refine w_C.more (Q := fun r11 m11 => _) h (fun r11 m11 h => ?_)
            replace h := id h
            refine w_callV (t' := 0) [(0, r11)] [] rfl s_359 rfl rfl ?_
            refine w_C.more (Q := fun r12 m12 => _) h (fun r12 m12 h => ?_)
            replace h := id h
            exact w_iret rfl rfl h
          ·
            refine w_ite h (fun h => ?_) (fun h => ?_)
            · refine w_aload_n rfl rfl ?_
              refine w_gfC (c := 366) rfl s_357 rfl rfl ?_
              refine w_aload_n rfl rfl ?_
              refine w_gfC (c := 399) rfl s_357 rfl rfl ?_
              refine w_iload_n rfl rfl ?_
              refine w_bipush rfl (by decide) ?_
              refine w_callV (t' := 0) [(0, 8), (0, r2)] [(2, 366)] rfl s_399 rfl rfl ?_
              refine w_C.more (Q := fun r13 m13 => _) h (fun r13 m13 h => ?_)
              replace h := id h
              refine w_callV (t' := 0) [(0, r13)] [] rfl s_366 rfl rfl ?_
              refine w_C.more (Q := fun r14 m14 => _) h (fun r14 m14 h => ?_)
              replace h := id h
              refine w_istore (lv' := [some (2, 357), some (0, l1), some (0, l2), some (0, r2), some (0, r14)]) rfl rfl rfl ?_
              refine w_aload_n rfl rfl ?_
              refine w_gfC (c := 359) rfl s_357 rfl rfl ?_
              refine w_aload_n rfl rfl ?_
              refine w_gfC (c := 366) rfl s_357 rfl rfl ?_
              refine w_aload_n rfl rfl ?_
              refine w_gfC (c := 359) rfl s_357 rfl rfl ?_
              refine w_iload rfl rfl ?_
              refine w_iload_n rfl rfl ?_
              refine w_iconst rfl (by decide) ?_
              refine w_isub rfl ?_
              refine w_callV (t' := 0) [(0, w_32 (l2 - 1)), (0, r14)] [(2, 366), (2, 359)] rfl s_359 rfl rfl ?_
              refine w_C.more (Q := fun r15 m15 => _) h (fun r15 m15 h => ?_)
              replace h := id h
              refine w_callV (t' := 0) [(0, r15)] [(2, 359)] rfl s_366 rfl rfl ?_
              refine w_C.more (Q := fun r16 m16 => _) h (fun r16 m16 h => ?_)
              replace h := id h
              refine w_callV (t' := 0) [(0, r16)] [] rfl s_359 rfl rfl ?_
              refine w_C.more (Q := fun r17 m17 => _) h (fun r17 m17 h => ?_)
              replace h := id h
              exact w_iret rfl rfl h
            ·
              refine w_ite h (fun h => ?_) (fun h => ?_)
              · refine w_aload_n rfl rfl ?_
                refine w_gfC (c := 366) rfl s_357 rfl rfl ?_
                refine w_aload_n rfl rfl ?_
                refine w_gfC (c := 399) rfl s_357 rfl rfl ?_
                refine w_iload_n rfl rfl ?_
                refine w_bipush rfl (by decide) ?_
                refine w_callV (t' := 0) [(0, 8), (0, r2)] [(2, 366)] rfl s_399 rfl rfl ?_
                refine w_C.more (Q := fun r18 m18 => _) h (fun r18 m18 h => ?_)
                replace h := id h
                refine w_callV (t' := 0) [(0, r18)] [] rfl s_366 rfl rfl ?_
                refine w_C.more (Q := fun r19 m19 => _) h (fun r19 m19 h => ?_)
                replace h := id h
                refine w_istore (lv' := [some (2, 357), some (0, l1), some (0, l2), some (0, r2), some (0, r19)]) rfl rfl rfl ?_
                refine w_aload_n rfl rfl ?_
                refine w_gfC (c := 359) rfl s_357 rfl rfl ?_
                refine w_aload_n rfl rfl ?_
                refine w_gfC (c := 366) rfl s_357 rfl rfl ?_
                refine w_aload_n rfl rfl ?_
                refine w_gfC (c := 359) rfl s_357 rfl rfl ?_
                refine w_iload rfl rfl ?_
                refine w_iload_n rfl rfl ?_
                refine w_iconst rfl (by decide) ?_
                refine w_isub rfl ?_
                refine w_callV (t' := 0) [(0, w_32 (l2 - 1)), (0, r19)] [(2, 366), (2, 359)] rfl s_359 rfl rfl ?_
                refine w_C.more (Q := fun r20 m20 => _) h (fun r20 m20 h => ?_)
                replace h := id h
                refine w_callV (t' := 0) [(0, r20)] [(2, 359)] rfl s_366 rfl rfl ?_
                refine w_C.more (Q := fun r21 m21 => _) h (fun r21 m21 h => ?_)
                replace h := id h
                refine w_callV (t' := 0) [(0, r21)] [] rfl s_359 rfl rfl ?_
                refine w_C.more (Q := fun r22 m22 => _) h (fun r22 m22 h => ?_)
                replace h := id h
                exact w_iret rfl rfl h
              ·
                refine w_ite h (fun h => ?_) (fun h => ?_)
                · refine w_aload_n rfl rfl ?_
                  refine w_gfC (c := 359) rfl s_357 rfl rfl ?_
                  refine w_aload_n rfl rfl ?_
                  refine w_gfC (c := 366) rfl s_357 rfl rfl ?_
                  refine w_aload_n rfl rfl ?_
                  refine w_gfC (c := 399) rfl s_357 rfl rfl ?_
                  refine w_iload_n rfl rfl ?_
                  refine w_bipush rfl (by decide) ?_
                  refine w_callV (t' := 0) [(0, 10), (0, r2)] [(2, 366), (2, 359)] rfl s_399 rfl rfl ?_
                  refine w_C.more (Q := fun r23 m23 => _) h (fun r23 m23 h => ?_)
                  replace h := id h
                  refine w_callV (t' := 0) [(0, r23)] [(2, 359)] rfl s_366 rfl rfl ?_
                  refine w_C.more (Q := fun r24 m24 => _) h (fun r24 m24 h => ?_)
                  replace h := id h
                  refine w_callV (t' := 0) [(0, r24)] [] rfl s_359 rfl rfl ?_
                  refine w_C.more (Q := fun r25 m25 => _) h (fun r25 m25 h => ?_)
                  replace h := id h
                  exact w_iret rfl rfl h
                ·
                  refine w_ite h (fun h => ?_) (fun h => ?_)
                  · refine w_aload_n rfl rfl ?_
                    refine w_gfC (c := 399) rfl s_357 rfl rfl ?_
                    refine w_iload_n rfl rfl ?_
                    refine w_callV (t' := 0) [(0, r2)] [] rfl s_399 rfl rfl ?_
                    refine w_C.more (Q := fun r26 m26 => _) h (fun r26 m26 h => ?_)
                    replace h := id h
                    exact w_iret rfl rfl h
                  · refine w_iconst rfl (by decide) ?_
                    exact w_iret rfl rfl h
theorem xr_x_pages {d : Nat} {m : w_M} {Q : Int → w_M → Prop} (h : if (m 357 14) = 0 then (Q (-1) m) else (Q (m 399 7) m)) : xc_x_pages (d + 1) m Q := by
  refine w_enter (q := 0) (lv := [some (2, 357)]) rfl rfl rfl ?_
  refine w_aload_n rfl rfl ?_
  refine x_gfZ rfl s_357 rfl (kk := 14) rfl rfl ?_
  refine w_ifeq rfl (w_ite h (fun h => ?_) (fun h => ?_))
  · refine w_iconst rfl (by decide) ?_
    exact w_iret rfl rfl h
  · refine w_aload_n rfl rfl ?_
    refine w_gfC (c := 399) rfl s_357 rfl rfl ?_
    refine x_gfI rfl s_399 rfl (kk := 7) rfl rfl ?_
    refine w_goto rfl ?_
    exact w_iret rfl rfl h
theorem xr_x_show {d : Nat} {l1 : Int} {m : w_M} {Q : Int → w_M → Prop} (h : if (m 357 14) = 0 then (Q (-1) m) else (xc_tr_has d l1 m (fun r1 m1 => if r1 = 0 then (Q (-1) m1) else (xc_tr_leafAt d l1 m1 (fun r2 m2 => xc_pa_paint d r2 m2 (fun r3 m3 => xc_pa_wrong d m3 (fun r4 m4 => if r4 = 0 then (if r4 = 0 then (Q (m4 404 18) (w_up (w_up m4 357 17 r4) 357 18 (-1))) else (Q (w_32 ((-100) - r4)) (w_up (w_up m4 357 17 r4) 357 18 (-1)))) else (xc_pa_wrongAt d (w_up m4 357 17 r4) (fun r5 m5 => if (m5 357 17) = 0 then (Q (m5 404 18) (w_up m5 357 18 r5)) else (Q (w_32 ((-100) - (m5 357 17))) (w_up m5 357 18 r5))))))))))) : xc_x_show (d + 1) l1 m Q := by
  refine w_enter (q := 0) (lv := [some (2, 357), some (0, l1)]) rfl rfl rfl ?_
  refine w_aload_n rfl rfl ?_
  refine x_gfZ rfl s_357 rfl (kk := 14) rfl rfl ?_
  refine w_ifeq rfl (w_ite h (fun h => ?_) (fun h => ?_))
  · refine w_iconst rfl (by decide) ?_
    exact w_iret rfl rfl h
  · refine w_aload_n rfl rfl ?_
    refine w_gfC (c := 399) rfl s_357 rfl rfl ?_
    refine w_iload_n rfl rfl ?_
    refine w_callV (t' := 0) [(0, l1)] [] rfl s_399 rfl rfl ?_
    refine w_C.more (Q := fun r1 m1 => _) h (fun r1 m1 h => ?_)
    replace h := id h
    refine w_ifne rfl (w_ite h (fun h => ?_) (fun h => ?_))
    · refine w_iconst rfl (by decide) ?_
      exact w_iret rfl rfl h
    · refine w_aload_n rfl rfl ?_
      refine w_gfC (c := 404) rfl s_357 rfl rfl ?_
      refine w_aload_n rfl rfl ?_
      refine w_gfC (c := 399) rfl s_357 rfl rfl ?_
      refine w_iload_n rfl rfl ?_
      refine w_callV (t' := 0) [(0, l1)] [(2, 404)] rfl s_399 rfl rfl ?_
      refine w_C.more (Q := fun r2 m2 => _) h (fun r2 m2 h => ?_)
      replace h := id h
      refine w_callV (t' := 3) [(0, r2)] [] rfl s_404 rfl rfl ?_
      refine w_C.more (Q := fun r3 m3 => _) h (fun r3 m3 h => ?_)
      replace h := id h
      refine w_aload_n rfl rfl ?_
      refine w_aload_n rfl rfl ?_
      refine w_gfC (c := 404) rfl s_357 rfl rfl ?_
      refine w_callV (t' := 0) [] [(2, 357)] rfl s_404 rfl rfl ?_
      refine w_C.more (Q := fun r4 m4 => _) h (fun r4 m4 h => ?_)
      replace h := id h
      refine w_pfI rfl s_357 rfl (w_EC (by decide)) rfl (kk := 17) rfl ?_
      refine w_aload_n rfl rfl ?_
      refine w_aload_n rfl rfl ?_
      refine x_gfI rfl s_357 rfl (kk := 17) rfl (w_up_eq) ?_
      refine w_ifne rfl (w_ite h (fun h => ?_) (fun h => ?_))
      · refine w_iconst rfl (by decide) ?_
        refine w_goto rfl ?_
        refine w_pfI rfl s_357 rfl (w_EC (by decide)) rfl (kk := 18) rfl ?_
        refine w_aload_n rfl rfl ?_
        refine x_gfI rfl s_357 rfl (kk := 17) rfl ((w_up_nb (by decide)).trans (w_up_eq)) ?_
        refine w_ifne rfl (w_ite h (fun h => ?_) (fun h => ?_))
        · refine w_aload_n rfl rfl ?_
          refine w_gfC (c := 404) rfl s_357 rfl rfl ?_
          refine x_gfI rfl s_404 rfl (kk := 18) rfl ((w_up_ne (by decide)).trans (w_up_ne (by decide))) ?_
          refine w_goto rfl ?_
          exact w_iret rfl rfl h
        · refine w_bipush rfl (by decide) ?_
          refine w_aload_n rfl rfl ?_
          refine x_gfI rfl s_357 rfl (kk := 17) rfl ((w_up_nb (by decide)).trans (w_up_eq)) ?_
          refine w_isub rfl ?_
          exact w_iret rfl rfl h
      · refine w_aload_n rfl rfl ?_
        refine w_gfC (c := 404) rfl s_357 rfl rfl ?_
        refine w_callV (t' := 0) [] [(2, 357)] rfl s_404 rfl rfl ?_
        refine w_C.more (Q := fun r5 m5 => _) h (fun r5 m5 h => ?_)
        replace h := id h
        refine w_pfI rfl s_357 rfl (w_EC (by decide)) rfl (kk := 18) rfl ?_
        refine w_aload_n rfl rfl ?_
        refine x_gfI rfl s_357 rfl (kk := 17) rfl (w_up_nb (by decide)) ?_
        refine w_ifne rfl (w_ite h (fun h => ?_) (fun h => ?_))
        · refine w_aload_n rfl rfl ?_
          refine w_gfC (c := 404) rfl s_357 rfl rfl ?_
          refine x_gfI rfl s_404 rfl (kk := 18) rfl (w_up_ne (by decide)) ?_
          refine w_goto rfl ?_
          exact w_iret rfl rfl h
        · refine w_bipush rfl (by decide) ?_
          refine w_aload_n rfl rfl ?_
          refine x_gfI rfl s_357 rfl (kk := 17) rfl (w_up_nb (by decide)) ?_
          refine w_isub rfl ?_
          exact w_iret rfl rfl h
theorem xr_x_size {d : Nat} {l1 : Int} {m : w_M} {Q : Int → w_M → Prop} (h : if (m 357 14) = 0 then (Q (-1) m) else (xc_ta_isStream d l1 m (fun r1 m1 => if r1 = 0 then (Q (-1) m1) else (xc_ta_lengthOf d l1 m1 (fun r2 m2 => Q r2 m2))))) : xc_x_size (d + 1) l1 m Q := by
  refine w_enter (q := 0) (lv := [some (2, 357), some (0, l1)]) rfl rfl rfl ?_
  refine w_aload_n rfl rfl ?_
  refine x_gfZ rfl s_357 rfl (kk := 14) rfl rfl ?_
  refine w_ifeq rfl (w_ite h (fun h => ?_) (fun h => ?_))
  · refine w_iconst rfl (by decide) ?_
    exact w_iret rfl rfl h
  · refine w_aload_n rfl rfl ?_
    refine w_gfC (c := 366) rfl s_357 rfl rfl ?_
    refine w_iload_n rfl rfl ?_
    refine w_callV (t' := 0) [(0, l1)] [] rfl s_366 rfl rfl ?_
    refine w_C.more (Q := fun r1 m1 => _) h (fun r1 m1 h => ?_)
    replace h := id h
    refine w_ifeq rfl (w_ite h (fun h => ?_) (fun h => ?_))
    · refine w_iconst rfl (by decide) ?_
      exact w_iret rfl rfl h
    · refine w_aload_n rfl rfl ?_
      refine w_gfC (c := 366) rfl s_357 rfl rfl ?_
      refine w_iload_n rfl rfl ?_
      refine w_callV (t' := 0) [(0, l1)] [] rfl s_366 rfl rfl ?_
      refine w_C.more (Q := fun r2 m2 => _) h (fun r2 m2 h => ?_)
      replace h := id h
      refine w_goto rfl ?_
      exact w_iret rfl rfl h
theorem xr_x_sum {d : Nat} {m : w_M} {Q : Int → w_M → Prop} (h : xc_wr_adler d 419 0 (m 418 3) m (fun r1 m1 => Q r1 m1)) : xc_x_sum (d + 1) m Q := by
  refine w_enter (q := 0) (lv := [some (2, 357)]) rfl rfl rfl ?_
  refine w_aload_n rfl rfl ?_
  refine w_gfC (c := 418) rfl s_357 rfl rfl ?_
  refine w_gfC (c := 419) rfl s_418 rfl rfl ?_
  refine w_iconst rfl (by decide) ?_
  refine w_aload_n rfl rfl ?_
  refine w_gfC (c := 418) rfl s_357 rfl rfl ?_
  refine x_gfI rfl s_418 rfl (kk := 3) rfl rfl ?_
  refine w_callS (t' := 0) [(0, m 418 3), (0, 0), (2, 419)] [] rfl (by decide) rfl rfl ?_
  refine w_C.more (Q := fun r1 m1 => _) h (fun r1 m1 h => ?_)
  replace h := id h
  exact w_iret rfl rfl h
theorem xr_x_take {d : Nat} {m : w_M} {Q : Int → w_M → Prop} (h : if 8000 < (m 418 3) then (Q (-1) m) else (xp_x_take_22 d 0 (w_up m 357 1 0) Q)) : xc_x_take (d + 1) m Q := by
  refine w_enter (q := 1) (lv := [some (2, 357), none]) rfl rfl rfl ?_
  refine w_aload_n rfl rfl ?_
  refine w_gfC (c := 418) rfl s_357 rfl rfl ?_
  refine x_gfI rfl s_418 rfl (kk := 3) rfl rfl ?_
  refine w_sipush rfl (by decide) ?_
  refine w_icle rfl (w_ite h (fun h => ?_) (fun h => ?_))
  · refine w_iconst rfl (by decide) ?_
    exact w_iret rfl rfl h
  · refine w_aload_n rfl rfl ?_
    refine w_iconst rfl (by decide) ?_
    refine w_pfI rfl s_357 rfl (w_EC (by decide)) rfl (kk := 1) rfl ?_
    refine w_iconst rfl (by decide) ?_
    refine w_istore_n (lv' := [some (2, 357), some (0, 0)]) rfl rfl rfl ?_
    exact w_W.less h (w_sub [true, true] rfl)
theorem xr_x_take_22 {d : Nat} {l1 : Int} {m : w_M} {Q : Int → w_M → Prop} (h : if l1 < (m 418 3) then (if l1 < 8000 then (xc_wr_byteAt d l1 m (fun r1 m1 => ((0 : Int) ≤ l1 ∧ l1 < 8000) ∧ (xp_x_take_22 d (w_32 (l1 + 1)) (w_up (w_up m1 358 l1 (w_8 (w_8 r1))) 357 1 (w_32 ((m1 357 1) + 1))) Q))) else (Q (m 357 1) m)) else (Q (m 357 1) m)) : xp_x_take_22 d l1 m Q := by
  refine w_iload_n rfl rfl ?_
  refine w_aload_n rfl rfl ?_
  refine w_gfC (c := 418) rfl s_357 rfl rfl ?_
  refine x_gfI rfl s_418 rfl (kk := 3) rfl rfl ?_
  refine w_icge rfl (w_ite h (fun h => ?_) (fun h => ?_))
  · refine w_iload_n rfl rfl ?_
    refine w_aload_n rfl rfl ?_
    refine w_gfC (c := 358) rfl s_357 rfl rfl ?_
    refine w_len rfl s_358 (by decide) (n := 8000) rfl (by decide) ?_
    refine w_icge rfl (w_ite h (fun h => ?_) (fun h => ?_))
    · refine w_aload_n rfl rfl ?_
      refine w_gfC (c := 358) rfl s_357 rfl rfl ?_
      refine w_iload_n rfl rfl ?_
      refine w_aload_n rfl rfl ?_
      refine w_gfC (c := 418) rfl s_357 rfl rfl ?_
      refine w_iload_n rfl rfl ?_
      refine w_callV (t' := 0) [(0, l1)] [(0, l1), (2, 358)] rfl s_418 rfl rfl ?_
      refine w_C.more (Q := fun r1 m1 => _) h (fun r1 m1 h => ?_)
      replace h := id h
      refine w_i2b rfl ?_
      refine w_bast rfl s_358 (w_EC (by decide)) (n := 8000) rfl h.1 ?_
      replace h := h.2
      refine w_aload_n rfl rfl ?_
      refine w_dup rfl (show (2 : Nat) ≠ 1 by decide) ?_
      refine x_gfI rfl s_357 rfl (kk := 1) rfl (w_up_ne (by decide)) ?_
      refine w_iconst rfl (by decide) ?_
      refine w_iadd rfl ?_
      refine w_pfI rfl s_357 rfl (w_EC (by decide)) rfl (kk := 1) rfl ?_
      refine w_iinc (lv' := [some (2, 357), some (0, w_32 (l1 + 1))]) rfl rfl rfl rfl ?_
      refine w_goto rfl ?_
      exact w_W.less h (w_sub [true, true] rfl)
    · refine w_aload_n rfl rfl ?_
      refine x_gfI rfl s_357 rfl (kk := 1) rfl rfl ?_
      exact w_iret rfl rfl h
  · refine w_aload_n rfl rfl ?_
    refine x_gfI rfl s_357 rfl (kk := 1) rfl rfl ?_
    exact w_iret rfl rfl h
theorem xr_x_turn {d : Nat} {l1 l2 : Int} {m : w_M} {Q : Int → w_M → Prop} (h : if (m 357 14) = 0 then (Q 0 m) else (xc_ch_turnPage d l1 l2 m (fun r1 m1 => xc_x_changed d r1 m1 (fun r2 m2 => if r2 = (-1) then (Q 0 m2) else (Q 1 m2))))) : xc_x_turn (d + 1) l1 l2 m Q := by
  refine w_enter (q := 0) (lv := [some (2, 357), some (0, l1), some (0, l2)]) rfl rfl rfl ?_
  refine w_aload_n rfl rfl ?_
  refine x_gfZ rfl s_357 rfl (kk := 14) rfl rfl ?_
  refine w_ifeq rfl (w_ite h (fun h => ?_) (fun h => ?_))
  · refine w_iconst rfl (by decide) ?_
    exact w_zret rfl rfl (by decide) h
  · refine w_aload_n rfl rfl ?_
    refine w_aload_n rfl rfl ?_
    refine w_gfC (c := 417) rfl s_357 rfl rfl ?_
    refine w_iload_n rfl rfl ?_
    refine w_iload_n rfl rfl ?_
    refine w_callV (t' := 0) [(0, l2), (0, l1)] [(2, 357)] rfl s_417 rfl rfl ?_
    refine w_C.more (Q := fun r1 m1 => _) h (fun r1 m1 h => ?_)
    replace h := id h
    refine w_callV (t' := 0) [(0, r1)] [] rfl s_357 rfl rfl ?_
    refine w_C.more (Q := fun r2 m2 => _) h (fun r2 m2 h => ?_)
    replace h := id h
    refine w_iconst rfl (by decide) ?_
    refine w_iceq rfl (w_ite h (fun h => ?_) (fun h => ?_))
    · refine w_iconst rfl (by decide) ?_
      exact w_zret rfl rfl (by decide) h
    · refine w_iconst rfl (by decide) ?_
      refine w_goto rfl ?_
      exact w_zret rfl rfl (by decide) h
theorem xr_x_up {d : Nat} {m : w_M} {Q : Int → w_M → Prop} (h : xc_x_isNowhere d m (fun r1 m1 => if r1 = 0 then (if (m1 357 12) = 0 then (Q (-1) m1) else (Q (w_32 ((m1 357 12) - 1)) (w_up m1 357 12 (w_32 ((m1 357 12) - 1))))) else (Q (-1) m1))) : xc_x_up (d + 1) m Q := by
  refine w_enter (q := 0) (lv := [some (2, 357)]) rfl rfl rfl ?_
  refine w_aload_n rfl rfl ?_
  refine w_callV (t' := 0) [] [] rfl s_357 rfl rfl ?_
  refine w_C.more (Q := fun r1 m1 => _) h (fun r1 m1 h => ?_)
  replace h := id h
  refine w_ifne rfl (w_ite h (fun h => ?_) (fun h => ?_))
  · refine w_aload_n rfl rfl ?_
    refine x_gfI rfl s_357 rfl (kk := 12) rfl rfl ?_
    refine w_ifne rfl (w_ite h (fun h => ?_) (fun h => ?_))
    · refine w_iconst rfl (by decide) ?_
      exact w_iret rfl rfl h
    · refine w_aload_n rfl rfl ?_
      refine w_dup rfl (show (2 : Nat) ≠ 1 by decide) ?_
      refine x_gfI rfl s_357 rfl (kk := 12) rfl rfl ?_
      refine w_iconst rfl (by decide) ?_
      refine w_isub rfl ?_
      refine w_pfI rfl s_357 rfl (w_EC (by decide)) rfl (kk := 12) rfl ?_
      refine w_aload_n rfl rfl ?_
      refine x_gfI rfl s_357 rfl (kk := 12) rfl (w_up_eq) ?_
      exact w_iret rfl rfl h
  · refine w_iconst rfl (by decide) ?_
    exact w_iret rfl rfl h
theorem xr_x_whole {d : Nat} {m : w_M} {Q : Int → w_M → Prop} (h : xc_wr_clear d m (fun r1 m1 => if (m1 357 14) = 0 then (Q (-1) m1) else (xc_wr_writeWhole d m1 (fun r2 m2 => Q r2 m2)))) : xc_x_whole (d + 1) m Q := by
  refine w_enter (q := 0) (lv := [some (2, 357)]) rfl rfl rfl ?_
  refine w_aload_n rfl rfl ?_
  refine w_gfC (c := 418) rfl s_357 rfl rfl ?_
  refine w_callV (t' := 3) [] [] rfl s_418 rfl rfl ?_
  refine w_C.more (Q := fun r1 m1 => _) h (fun r1 m1 h => ?_)
  replace h := id h
  refine w_aload_n rfl rfl ?_
  refine x_gfZ rfl s_357 rfl (kk := 14) rfl rfl ?_
  refine w_ifeq rfl (w_ite h (fun h => ?_) (fun h => ?_))
  · refine w_iconst rfl (by decide) ?_
    exact w_iret rfl rfl h
  · refine w_aload_n rfl rfl ?_
    refine w_gfC (c := 418) rfl s_357 rfl rfl ?_
    refine w_callV (t' := 0) [] [] rfl s_418 rfl rfl ?_
    refine w_C.more (Q := fun r2 m2 => _) h (fun r2 m2 h => ?_)
    replace h := id h
    refine w_goto rfl ?_
    exact w_iret rfl rfl h
theorem xr_js_charAt {S : Nat → Prop} {d : Nat} {l0 l1 : Int} {m : w_M} {Q : Int → w_M → Prop} (hl0 : w_isS l0) (h : xc_js_isLatin1 S d l0 m (fun r1 m1 => if r1 = 0 then (False) else (xc_jl_charAt S d (l0 + 1) l1 m1 (fun r2 m2 => ((0 : Int) ≤ r2 ∧ r2 < 65536) ∧ Q r2 m2)))) : xc_js_charAt S (d + 1) l0 l1 m Q := by
  refine w_enter (q := 0) (lv := [some (2, l0), some (0, l1)]) rfl rfl rfl ?_
  refine w_aload_n rfl rfl ?_
  refine w_callV (t' := 0) [] [] rfl (w_isS_s hl0) rfl rfl ?_
  refine w_C.more (Q := fun r1 m1 => _) h (fun r1 m1 h => ?_)
  replace h := id h
  refine w_ifeq rfl (w_ite h (fun h => ?_) (fun h => ?_))
  · refine w_aload_n rfl rfl ?_
    refine w_gfS rfl hl0 ?_
    refine w_iload_n rfl rfl ?_
    exact h.elim
  · refine w_aload_n rfl rfl ?_
    refine w_gfS rfl hl0 ?_
    refine w_iload_n rfl rfl ?_
    refine w_callS (t' := 0) [(0, l1), (2, l0 + 1)] [] rfl (by decide) rfl rfl ?_
    refine w_C.more (Q := fun r2 m2 => _) h (fun r2 m2 h => ?_)
    replace h := id h
    exact w_cret rfl rfl (w_c_ok h.1) h.2
theorem xr_js_checkIndex {S : Nat → Prop} {d : Nat} {l0 l1 : Int} {m : w_M} {Q : Int → w_M → Prop} (h : xc_jp_checkIndex S d l0 l1 m (fun r1 m1 => Q 0 m1)) : xc_js_checkIndex S (d + 1) l0 l1 m Q := by
  refine w_enter (q := 0) (lv := [some (0, l0), some (0, l1)]) rfl rfl rfl ?_
  refine w_iload_n rfl rfl ?_
  refine w_iload_n rfl rfl ?_
  refine w_getsT rfl ?_
  refine w_callS (t' := 0) [(3, 0), (0, l1), (0, l0)] [] rfl (by decide) rfl rfl ?_
  refine w_C.more (Q := fun r1 m1 => _) h (fun r1 m1 h => ?_)
  replace h := id h
  refine w_pop rfl (show (0 : Nat) ≠ 1 by decide) ?_
  exact w_vret rfl rfl h
theorem xr_js_coder {S : Nat → Prop} {d : Nat} {l0 : Int} {m : w_M} {Q : Int → w_M → Prop} (hl0 : w_isS l0) (h : ((-128 : Int) ≤ (m l0 1) ∧ (m l0 1) < 128) ∧ Q (m l0 1) m) : xc_js_coder S (d + 1) l0 m Q := by
  refine w_enter (q := 0) (lv := [some (2, l0)]) rfl rfl rfl ?_
  refine w_gets (a := 1) rfl (by decide +kernel) (by decide) ?_
  refine w_ifeq rfl (w_iff (by decide) ?_)
  refine w_aload_n rfl rfl ?_
  refine w_gfI rfl (w_isS_s hl0) rfl rfl ?_
  refine w_goto rfl ?_
  exact w_bret rfl rfl (w_b_ok h.1) h.2
theorem xr_js_equals {S : Nat → Prop} {d : Nat} {l0 l1 : Int} {m : w_M} {Q : Int → w_M → Prop} (hl0 : w_isS l0) (h : if l0 = l1 then (Q 1 m) else (w_isS l1 ∧ (w_isS l1 ∧ (w_isS l1 ∧ (if (m l0 1) = (m l1 1) then (w_isS l1 ∧ (xc_jl_equals S d (l0 + 1) (l1 + 1) m (fun r1 m1 => if r1 = 0 then (Q 0 m1) else (Q 1 m1)))) else (Q 0 m)))))) : xc_js_equals S (d + 1) l0 l1 m Q := by
  refine w_enter (q := 1) (lv := [some (2, l0), some (2, l1), none]) rfl rfl rfl ?_
  refine w_aload_n rfl rfl ?_
  refine w_aload_n rfl rfl ?_
  refine w_acne rfl (w_ite h (fun h => ?_) (fun h => ?_))
  · refine w_iconst rfl (by decide) ?_
    exact w_zret rfl rfl (by decide) h
  · refine w_aload_n rfl rfl ?_
    refine w_isS1 rfl h.1 ?_
    replace h := h.2
    refine w_ifeq rfl (w_iff (by decide) ?_)
    refine w_aload_n rfl rfl ?_
    refine w_asS1 rfl h.1 ?_
    replace h := h.2
    refine w_astore_n (lv' := [some (2, l0), some (2, l1), some (2, l1)]) rfl rfl rfl ?_
    refine w_gets (a := 1) rfl (by decide +kernel) (by decide) ?_
    refine w_ifeq rfl (w_iff (by decide) ?_)
    refine w_aload_n rfl rfl ?_
    refine w_gfI rfl (w_isS_s hl0) rfl rfl ?_
    refine w_aload_n rfl rfl ?_
    obtain ⟨h0, h⟩ := h
    refine w_gfI rfl (w_isS_s h0) rfl rfl ?_
    refine w_icne rfl (w_ite h (fun h => ?_) (fun h => ?_))
    · refine w_aload_n rfl rfl ?_
      refine w_gfS rfl hl0 ?_
      refine w_aload_n rfl rfl ?_
      obtain ⟨h0, h⟩ := h
      refine w_gfS rfl h0 ?_
      refine w_callS (t' := 0) [(2, l1 + 1), (2, l0 + 1)] [] rfl (by decide) rfl rfl ?_
      refine w_C.more (Q := fun r1 m1 => _) h (fun r1 m1 h => ?_)
      replace h := id h
      refine w_ifeq rfl (w_ite h (fun h => ?_) (fun h => ?_))
      · refine w_iconst rfl (by decide) ?_
        exact w_zret rfl rfl (by decide) h
      · refine w_iconst rfl (by decide) ?_
        refine w_goto rfl ?_
        exact w_zret rfl rfl (by decide) h
    · refine w_iconst rfl (by decide) ?_
      exact w_zret rfl rfl (by decide) h
theorem xr_js_hashCode {S : Nat → Prop} {d : Nat} {l0 : Int} {m : w_M} {Q : Int → w_M → Prop} (hl0 : w_isS l0) (h : if (m l0 2) = 0 then (if (m l0 3) = 0 then (xc_js_isLatin1 S d l0 m (fun r1 m1 => if r1 = 0 then (False) else (False))) else (Q (m l0 2) m)) else (Q (m l0 2) m)) : xc_js_hashCode S (d + 1) l0 m Q := by
  refine w_enter (q := 1) (lv := [some (2, l0), none]) rfl rfl rfl ?_
  refine w_aload_n rfl rfl ?_
  refine w_gfI rfl (w_isS_s hl0) rfl rfl ?_
  refine w_istore_n (lv' := [some (2, l0), some (0, m l0 2)]) rfl rfl rfl ?_
  refine w_iload_n rfl rfl ?_
  refine w_ifne rfl (w_ite h (fun h => ?_) (fun h => ?_))
  · refine w_aload_n rfl rfl ?_
    refine w_gfZ rfl (w_isS_s hl0) rfl rfl ?_
    refine w_ifne rfl (w_ite h (fun h => ?_) (fun h => ?_))
    · refine w_aload_n rfl rfl ?_
      refine w_callV (t' := 0) [] [] rfl (w_isS_s hl0) rfl rfl ?_
      refine w_C.more (Q := fun r1 m1 => _) h (fun r1 m1 h => ?_)
      replace h := id h
      refine w_ifeq rfl (w_ite h (fun h => ?_) (fun h => ?_))
      · refine w_aload_n rfl rfl ?_
        refine w_gfS rfl hl0 ?_
        exact h.elim
      · refine w_aload_n rfl rfl ?_
        refine w_gfS rfl hl0 ?_
        exact h.elim
    · refine w_iload_n rfl rfl ?_
      exact w_iret rfl rfl h
  · refine w_iload_n rfl rfl ?_
    exact w_iret rfl rfl h
theorem xr_js_isLatin1 {S : Nat → Prop} {d : Nat} {l0 : Int} {m : w_M} {Q : Int → w_M → Prop} (hl0 : w_isS l0) (h : if (m l0 1) = 0 then (Q 1 m) else (Q 0 m)) : xc_js_isLatin1 S (d + 1) l0 m Q := by
  refine w_enter (q := 0) (lv := [some (2, l0)]) rfl rfl rfl ?_
  refine w_gets (a := 1) rfl (by decide +kernel) (by decide) ?_
  refine w_ifeq rfl (w_iff (by decide) ?_)
  refine w_aload_n rfl rfl ?_
  refine w_gfI rfl (w_isS_s hl0) rfl rfl ?_
  refine w_ifne rfl (w_ite h (fun h => ?_) (fun h => ?_))
  · refine w_iconst rfl (by decide) ?_
    refine w_goto rfl ?_
    exact w_zret rfl rfl (by decide) h
  · refine w_iconst rfl (by decide) ?_
    exact w_zret rfl rfl (by decide) h
theorem xr_js_length {S : Nat → Prop} {d : Nat} {l0 : Int} {m : w_M} {Q : Int → w_M → Prop} (hl0 : w_isS l0) (h : w_isR (l0 + 1) ∧ (xc_js_coder S d l0 m (fun r1 m1 => Q (w_shr (w_ln (l0 + 1)) r1) m1))) : xc_js_length S (d + 1) l0 m Q := by
  refine w_enter (q := 0) (lv := [some (2, l0)]) rfl rfl rfl ?_
  refine w_aload_n rfl rfl ?_
  refine w_gfS rfl hl0 ?_
  refine x_len rfl h.1 ?_
  replace h := h.2
  refine w_aload_n rfl rfl ?_
  refine w_callV (t' := 0) [] [(0, w_ln (l0 + 1))] rfl (w_isS_s hl0) rfl rfl ?_
  refine w_C.more (Q := fun r1 m1 => _) h (fun r1 m1 h => ?_)
  replace h := id h
  refine w_ishr rfl ?_
  exact w_iret rfl rfl h
theorem xr_jm_floorDiv {S : Nat → Prop} {d : Nat} {l0 l2 : Int} {m : w_M} {Q : Int → w_M → Prop} (h : l2 ≠ 0 ∧ (if (w_lxor l0 l2) < 0 then (if (w_64 ((w_ldiv l0 l2) * l2)) = l0 then (Q (w_ldiv l0 l2) m) else (Q (w_64 ((w_ldiv l0 l2) - 1)) m)) else (Q (w_ldiv l0 l2) m))) : xc_jm_floorDiv S (d + 1) l0 l2 m Q := by
  refine w_enter (q := 2) (lv := [some (1, l0), none, some (1, l2), none, none, none]) rfl rfl rfl ?_
  refine w_lload_n rfl rfl ?_
  refine w_lload_n rfl rfl ?_
  refine w_ldiv' rfl h.1 ?_
  replace h := h.2
  refine w_lstore (lv' := [some (1, l0), none, some (1, l2), none, some (1, w_ldiv l0 l2), none]) rfl rfl rfl ?_
  refine w_lload_n rfl rfl ?_
  refine w_lload_n rfl rfl ?_
  refine w_lxor' rfl ?_
  refine w_lconst rfl rfl ?_
  refine w_lcge rfl rfl (w_ite h (fun h => ?_) (fun h => ?_))
  · refine w_lload rfl rfl ?_
    refine w_lload_n rfl rfl ?_
    refine w_lmul' rfl ?_
    refine w_lload_n rfl rfl ?_
    refine w_lceq rfl rfl (w_ite h (fun h => ?_) (fun h => ?_))
    · refine w_lload rfl rfl ?_
      exact w_lret rfl rfl h
    · refine w_lload rfl rfl ?_
      refine w_lconst rfl rfl ?_
      refine w_lsub' rfl ?_
      exact w_lret rfl rfl h
  · refine w_lload rfl rfl ?_
    exact w_lret rfl rfl h
theorem xr_jl_charAt {S : Nat → Prop} {d : Nat} {l0 l1 : Int} {m : w_M} {Q : Int → w_M → Prop} (h : w_isR l0 ∧ (xc_js_checkIndex S d l1 (w_ln l0) m (fun r1 m1 => w_isA 1 l0 ∧ ((0 : Int) ≤ l1 ∧ l1 < w_ln l0) ∧ (((0 : Int) ≤ (w_c16 ((m1 l0 l1) % 256)) ∧ (w_c16 ((m1 l0 l1) % 256)) < 65536) ∧ Q (w_c16 ((m1 l0 l1) % 256)) m1)))) : xc_jl_charAt S (d + 1) l0 l1 m Q := by
  refine w_enter (q := 0) (lv := [some (2, l0), some (0, l1)]) rfl rfl rfl ?_
  refine w_iload_n rfl rfl ?_
  refine w_aload_n rfl rfl ?_
  refine x_len rfl h.1 ?_
  replace h := h.2
  refine w_callS (t' := 3) [(0, w_ln l0), (0, l1)] [] rfl (by decide) rfl rfl ?_
  refine w_C.more (Q := fun r1 m1 => _) h (fun r1 m1 h => ?_)
  replace h := id h
  refine w_aload_n rfl rfl ?_
  refine w_iload_n rfl rfl ?_
  refine x_bald rfl h.1 h.2.1 ?_
  replace h := h.2.2
  refine w_sipush rfl (by decide) ?_
  refine w_iandm 8 (c := 256) rfl (by decide) rfl rfl ?_
  refine w_i2c rfl ?_
  exact w_cret rfl rfl (w_c_ok h.1) h.2
theorem xr_jl_equals {S : Nat → Prop} {d : Nat} {l0 l1 : Int} {m : w_M} {Q : Int → w_M → Prop} (h : w_isR l0 ∧ (w_isR l1 ∧ (if (w_ln l0) = (w_ln l1) then (xp_jl_equals_9 S d l0 l1 0 m Q) else (Q 0 m)))) : xc_jl_equals S (d + 1) l0 l1 m Q := by
  refine w_enter (q := 1) (lv := [some (2, l0), some (2, l1), none]) rfl rfl rfl ?_
  refine w_aload_n rfl rfl ?_
  refine x_len rfl h.1 ?_
  replace h := h.2
  refine w_aload_n rfl rfl ?_
  refine x_len rfl h.1 ?_
  replace h := h.2
  refine w_icne rfl (w_ite h (fun h => ?_) (fun h => ?_))
  · refine w_iconst rfl (by decide) ?_
    refine w_istore_n (lv' := [some (2, l0), some (2, l1), some (0, 0)]) rfl rfl rfl ?_
    exact w_W.less h (w_sub [true, true, true] rfl)
  · refine w_iconst rfl (by decide) ?_
    exact w_zret rfl rfl (by decide) h
theorem xr_jl_equals_9 {S : Nat → Prop} {d : Nat} {l0 l1 l2 : Int} {m : w_M} {Q : Int → w_M → Prop} (h : w_isR l0 ∧ (if l2 < (w_ln l0) then (w_isA 1 l0 ∧ ((0 : Int) ≤ l2 ∧ l2 < w_ln l0) ∧ (w_isA 1 l1 ∧ ((0 : Int) ≤ l2 ∧ l2 < w_ln l1) ∧ (if (m l0 l2) = (m l1 l2) then (xp_jl_equals_9 S d l0 l1 (w_32 (l2 + 1)) m Q) else (Q 0 m)))) else (Q 1 m))) : xp_jl_equals_9 S d l0 l1 l2 m Q := by
  refine w_iload_n rfl rfl ?_
  refine w_aload_n rfl rfl ?_
  refine x_len rfl h.1 ?_
  replace h := h.2
  refine w_icge rfl (w_ite h (fun h => ?_) (fun h => ?_))
  · refine w_aload_n rfl rfl ?_
    refine w_iload_n rfl rfl ?_
    refine x_bald rfl h.1 h.2.1 ?_
    replace h := h.2.2
    refine w_aload_n rfl rfl ?_
    refine w_iload_n rfl rfl ?_
    refine x_bald rfl h.1 h.2.1 ?_
    replace h := h.2.2
    refine w_iceq rfl (w_ite h (fun h => ?_) (fun h => ?_))
    · refine w_iinc (lv' := [some (2, l0), some (2, l1), some (0, w_32 (l2 + 1))]) rfl rfl rfl rfl ?_
      refine w_goto rfl ?_
      exact w_W.less h (w_sub [true, true, true] rfl)
    · refine w_iconst rfl (by decide) ?_
      exact w_zret rfl rfl (by decide) h
  · refine w_iconst rfl (by decide) ?_
    exact w_zret rfl rfl (by decide) h
theorem xr_ja_fill {S : Nat → Prop} {d : Nat} {l0 l1 : Int} {m : w_M} {Q : Int → w_M → Prop} (h : w_isR l0 ∧ (xp_ja_fill_5 S d l0 l1 0 (w_ln l0) m Q)) : xc_ja_fill S (d + 1) l0 l1 m Q := by
  refine w_enter (q := 2) (lv := [some (2, l0), some (0, l1), none, none]) rfl rfl rfl ?_
  refine w_iconst rfl (by decide) ?_
  refine w_istore_n (lv' := [some (2, l0), some (0, l1), some (0, 0), none]) rfl rfl rfl ?_
  refine w_aload_n rfl rfl ?_
  refine x_len rfl h.1 ?_
  replace h := h.2
  refine w_istore_n (lv' := [some (2, l0), some (0, l1), some (0, 0), some (0, w_ln l0)]) rfl rfl rfl ?_
  exact w_W.less h (w_sub [true, true, true, true] rfl)
theorem xr_ja_fill_5 {S : Nat → Prop} {d : Nat} {l0 l1 l2 l3 : Int} {m : w_M} {Q : Int → w_M → Prop} (h : if l2 < l3 then (w_isA 0 l0 ∧ w_wr (w_G0 S) (Int.toNat l0) ∧ ((0 : Int) ≤ l2 ∧ l2 < w_ln l0) ∧ (xp_ja_fill_5 S d l0 l1 (w_32 (l2 + 1)) l3 (w_up m l0 l2 l1) Q)) else (Q 0 m)) : xp_ja_fill_5 S d l0 l1 l2 l3 m Q := by
  refine w_iload_n rfl rfl ?_
  refine w_iload_n rfl rfl ?_
  refine w_icge rfl (w_ite h (fun h => ?_) (fun h => ?_))
  · refine w_aload_n rfl rfl ?_
    refine w_iload_n rfl rfl ?_
    refine w_iload_n rfl rfl ?_
    refine x_iast rfl h.1 h.2.1 h.2.2.1 ?_
    replace h := h.2.2.2
    refine w_iinc (lv' := [some (2, l0), some (0, l1), some (0, w_32 (l2 + 1)), some (0, l3)]) rfl rfl rfl rfl ?_
    refine w_goto rfl ?_
    exact w_W.less h (w_sub [true, true, true, true] rfl)
  · exact w_vret rfl rfl h
theorem xr_jp_checkIndex {S : Nat → Prop} {d : Nat} {l0 l1 : Int} {m : w_M} {Q : Int → w_M → Prop} (h : if l0 < 0 then (False) else (if l0 < l1 then (Q l0 m) else (False))) : xc_jp_checkIndex S (d + 1) l0 l1 m Q := by
  refine w_enter (q := 0) (lv := [some (0, l0), some (0, l1), some (3, 0)]) rfl rfl rfl ?_
  refine w_iload_n rfl rfl ?_
  refine w_iflt rfl (w_ite h (fun h => ?_) (fun h => ?_))
  · exact h.elim
  · refine w_iload_n rfl rfl ?_
    refine w_iload_n rfl rfl ?_
    refine w_iclt rfl (w_ite h (fun h => ?_) (fun h => ?_))
    · refine w_iload_n rfl rfl ?_
      exact w_iret rfl rfl h
    · exact h.elim
