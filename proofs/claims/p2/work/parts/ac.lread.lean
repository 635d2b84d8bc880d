/-! ===== the loader: an object at its place, both sides ===== -/
section SG2
variable {d c : Nat} {g g' : s_g} {m m' m1 m2 n n' n1 n2 : w_M} {Q : Int → w_M → Prop} {W : Int → Int} {L p k v x y P r b len w C i l l2 l5 l6 o e : Int} {K : Nat}
theorem s_st.two8 (h : s_st g m n) (hy : s_no n y) (hk : s_kd n y = 8) : f_st_oneOf m (s_up g.1 y) = n 433 y ∧ f_st_twoOf m (s_up g.1 y) = n 434 y ∧ (0 ≤ y ∧ y < n 428 15) ∧ n 432 y = 8 ∧ (1 ≤ n 433 y ∧ n 433 y < 200) ∧ (0 ≤ n 434 y ∧ n 434 y ≤ 65535) := by
  have one := h.one hy (Or.inr (Or.inr (Or.inr hk)))
  unfold s_kd at hk
  rcases h.no hy with ⟨e1, e2⟩ | ⟨a1, a2, a3, a4, a5, a6, a7⟩
  · rw [if_pos (by omega)] at hk
    omega
  · rw [if_neg (by omega)] at hk
    have z := a4.2.2.2.2.2.2.1 hk
    refine ⟨one, ?_, ⟨a1, a2⟩, hk, ⟨z.2.1, z.2.2.1⟩, z.2.2.2⟩
    rw [a3, f_two_v ⟨by omega, a6⟩ a7]
    exact z.1
/-- the length's object can be asked -/
def l_okr (n : w_M) (l o : Int) : Prop := o < n 428 60 ∧ n 451 o = 1 ∧ n 456 o ≠ 1 ∧ n 453 o = n 434 l
/-- the class at the body of the stream that waits last -/
theorem c_rb (hI : l_I g m n W L C) (ht : l_top g m n L w k b r) (hl : l = s_fd n (s_wd 20) (g.2.1 r)) :
    (s_kd n l ≠ 8 → ∀ R : Int → w_M → Prop, xp_lo_readBody_141 (c + 59) w k (s_up g.1 l) m R → xc_lo_readBody (c + 60) m R) ∧
    (s_kd n l = 8 → ¬ l_okr n l (n 433 l) → ∀ R : Int → w_M → Prop, xc_lo_failObject (c + 59) k m (fun r m' => R r m') → xc_lo_readBody (c + 60) m R) ∧
    (s_kd n l = 8 → l_okr n l (n 433 l) → n 456 (n 433 l) = 0 → ∀ R : Int → w_M → Prop, R (n 433 l) m → xc_lo_readBody (c + 60) m R) ∧
    (s_kd n l = 8 → l_okr n l (n 433 l) → n 456 (n 433 l) = 2 → ∀ R : Int → w_M → Prop, xp_lo_readBody_141 (c + 59) w k (g.1 (n 455 (n 433 l))) m R → xc_lo_readBody (c + 60) m R) := by
  obtain ⟨⟨t1, t2, t3⟩, ⟨t4, t4b, t4c⟩, t5, t6, t7, t8, t9, t10⟩ := ht
  obtain ⟨i1, i2, i3, i4, i5, i6, i7, i8, i9, i10, i11, i12, i13, i14, i15⟩ := id hI
  have tr := (i12 k (by omega) (by omega)).root (by omega)
  rw [t5] at tr
  have r0 : 0 ≤ r ∧ r < n 428 15 := by have := tr.1; have := tr.2.1; have := tr.2.2.1; omega
  have no : s_no n l := by rw [hl]; exact i1.fd r0 t9
  have hs : m 366 11 ≤ 200 := by omega
  have opn : ∀ R : Int → w_M → Prop, (if s_kd n l = 8 then (xc_st_oneOf (c + 59) (s_up g.1 l) m (fun r3 m3 => xc_ta_howOf (c + 59) r3 m3 (fun r4 m4 => if r4 = 2 then (xc_ta_generationOf (c + 59) r3 m4 (fun r5 m5 => xc_st_twoOf (c + 59) (s_up g.1 l) m5 (fun r6 m6 => if r5 = r6 then (xc_lo_waits (c + 59) r3 m6 (fun r7 m7 => if r7 = 0 then (xc_ta_rootOf (c + 59) r3 m7 (fun r8 m8 => if r8 < 0 then (R r3 m8) else (xc_ta_rootOf (c + 59) r3 m8 (fun r9 m9 => xp_lo_readBody_141 (c + 59) w k r9 m9 R)))) else (xc_lo_failObject (c + 59) k m7 (fun r10 m10 => R r10 m10)))) else (xc_lo_failObject (c + 59) k m6 (fun r11 m11 => R r11 m11))))) else (xc_lo_failObject (c + 59) k m4 (fun r12 m12 => R r12 m12))))) else (xp_lo_readBody_141 (c + 59) w k (s_up g.1 l) m R)) → xc_lo_readBody (c + 60) m R := fun R hR => by
    apply xr_lo_readBody
    rw [t3, w_32_id (x := w + 1 - 1) (by omega) (by omega), show w + 1 - 1 = w by omega, if_neg (by omega), if_pos t2, t4, t4c]
    refine ⟨⟨t1, t2⟩, ⟨t1, t2⟩, ?_⟩
    refine sp_st_entry (d := c + 56) i1 i2 (by decide) r0 t9 ?_
    rw [← hl]
    refine sp_st_kindOf (d := c + 58) ?_
    rw [i1.kd no]
    exact hR
  refine ⟨fun h8 R hR => ?_, fun h8 nok R hR => ?_, fun h8 ok z0 R hR => ?_, fun h8 ok z2 R hR => ?_⟩
  · refine opn R ?_
    rw [if_neg h8]
    exact hR
  · obtain ⟨u1, u2, u3, u4, ⟨u5, u5b⟩, u6⟩ := i1.two8 no h8
    refine opn R ?_
    rw [if_pos h8]
    refine sp_st_oneOf (d := c + 58) ?_
    rw [u1]
    obtain ⟨o, ho⟩ : ∃ o, o = n 433 l := ⟨_, rfl⟩
    rw [← ho] at nok u5 u5b ⊢
    by_cases us : l_us m o
    · refine sp_howOf_y (d := c + 57) us hs ?_
      by_cases q2 : m 367 o = 2
      · rw [if_pos q2]
        refine sp_generationOf_y (d := c + 57) us hs ?_
        refine sp_st_twoOf (d := c + 58) ?_
        rw [u2]
        obtain ⟨a1, a2, a3, a4, a5, a6, a7, a8, a9, b1, b2, b3⟩ := (i12 o (by omega) u5b).resolve_left (fun z => by have := z.2.1 u5; omega)
        have e51 : n 451 o = 1 := by omega
        rw [if_neg (by omega)] at a9
        by_cases q3 : m 369 o = n 434 l
        · rw [if_pos q3]
          have e53 : n 453 o = n 434 l := by
            rw [a9] at q3
            split at q3 <;> omega
          have e56 : n 456 o = 1 := Classical.byContradiction (fun z => nok ⟨a1.2, e51, z, e53⟩)
          refine sp_waits (d := c + 58) (by omega) (fun i q1 q2 q3 => ?_) (fun z => ?_)
          · rw [if_neg (by decide)]
            exact hR
          · obtain ⟨i, q1, q2, q3⟩ := i13.2.2.2 o (by omega) u5b e56
            exact absurd q3 (z i q1 q2)
        · rw [if_neg q3]
          exact hR
      · rw [if_neg q2]
        exact hR
    · refine sp_howOf_n (d := c + 57) us ?_
      rw [if_neg (by decide)]
      exact hR
  · obtain ⟨u1, u2, u3, u4, ⟨u5, u5b⟩, u6⟩ := i1.two8 no h8
    refine opn R ?_
    rw [if_pos h8]
    refine sp_st_oneOf (d := c + 58) ?_
    rw [u1]
    obtain ⟨o, ho⟩ : ∃ o, o = n 433 l := ⟨_, rfl⟩
    rw [← ho] at ok z0 u5 u5b hR ⊢
    obtain ⟨v1, v2, v3, v4⟩ := ok
    obtain ⟨us, _, _⟩ := l_obj hI ⟨u5, v1⟩ (by omega)
    obtain ⟨a1, a2, a3, a4, a5, a6, a7, a8, a9, b1, b2, b3⟩ := (i12 o (by omega) u5b).resolve_left (fun z => by have := z.2.1 u5; omega)
    rw [if_neg (by omega), if_neg (by omega)] at a9
    refine sp_howOf_y (d := c + 57) us hs ?_
    rw [if_pos (by omega)]
    refine sp_generationOf_y (d := c + 57) us hs ?_
    refine sp_st_twoOf (d := c + 58) ?_
    rw [u2, if_pos (by omega)]
    refine sp_waits (d := c + 58) (by omega) (fun i q1 q2 q3 => ?_) (fun z => ?_)
    · have := (i13.2.2.1 i q1 q2).2.2.1
      rw [q3] at this
      omega
    · rw [if_pos rfl]
      refine sp_rootOf_y (d := c + 58) us hs ?_
      rw [(b2 (by omega)).1, if_pos (by decide)]
      exact hR
  · obtain ⟨u1, u2, u3, u4, ⟨u5, u5b⟩, u6⟩ := i1.two8 no h8
    refine opn R ?_
    rw [if_pos h8]
    refine sp_st_oneOf (d := c + 58) ?_
    rw [u1]
    obtain ⟨o, ho⟩ : ∃ o, o = n 433 l := ⟨_, rfl⟩
    rw [← ho] at ok z2 u5 u5b hR ⊢
    obtain ⟨v1, v2, v3, v4⟩ := ok
    obtain ⟨us, _, _⟩ := l_obj hI ⟨u5, v1⟩ (by omega)
    obtain ⟨a1, a2, a3, a4, a5, a6, a7, a8, a9, b1, b2, b3⟩ := (i12 o (by omega) u5b).resolve_left (fun z => by have := z.2.1 u5; omega)
    rw [if_neg (by omega), if_neg (by omega)] at a9
    have tro := b1 (by omega)
    have g41 : 41 ≤ g.1 (n 455 o) := (i1.2.1 (n 455 o) tro.1 (by have := tro.2.1; have := tro.2.2.1; omega)).1
    refine sp_howOf_y (d := c + 57) us hs ?_
    rw [if_pos (by omega)]
    refine sp_generationOf_y (d := c + 57) us hs ?_
    refine sp_st_twoOf (d := c + 58) ?_
    rw [u2, if_pos (by omega)]
    refine sp_waits (d := c + 58) (by omega) (fun i q1 q2 q3 => ?_) (fun z => ?_)
    · have := (i13.2.2.1 i q1 q2).2.2.1
      rw [q3] at this
      omega
    · rw [if_pos rfl]
      refine sp_rootOf_y (d := c + 58) us hs ?_
      rw [(b3 z2).1, if_neg (by omega)]
      refine sp_rootOf_y (d := c + 58) us hs ?_
      rw [(b3 z2).1]
      exact hR
/-- what reading number k comes to -/
def l_post (c : Nat) (l2 : Int) (W : Int → Int) (L C k i : Int) (g : s_g) (m n : w_M) (CR : (Int → w_M → Prop) → Prop) (n' : w_M) : Prop := (∃ m', l_FF c l2 m n n' m' CR) ∨ ∃ g' m', l_GG c l2 W L C k (m 394 9) i g g' m n n' m' CR
def l_IH (D c K : Nat) (l2 : Int) (W : Int → Int) (L C : Int) : Prop := ∀ (g : s_g) (m n : w_M) (k i l5 : Int), l_I g m n W L C → w_nm (w_G0 sC) m → (1 ≤ k ∧ k < n 428 60) → n 451 k = 1 → n 456 k = 0 → l_un n ≤ K → l_un n + m 394 9 ≤ 199 → 0 ≤ i → i + 2 * l_un n + m 394 9 ≤ 600 →
  xc_m_readAt D k n (fun _ n' => l_post c l2 W L C k i g m n (fun X => xc_lo_readObject (c + 60) k m (fun _ m1 => xp_x_load_197 (c + 60) l2 i l5 k m1 X)) n')
theorem l_nfr (hn : ∀ i j : Int, ¬ (i = 428 ∧ ((18 ≤ j ∧ j ≤ 26) ∨ (77 ≤ j ∧ j ≤ 79))) → n' i j = n i j) : l_n n n' := fun i j q1 q2 q3 => hn i j (by omega)
theorem s_strm (IH : l_IH (d + 12) c K l2 W L C) (hI : l_I g m n W L C) (hm : w_nm (w_G0 sC) m) (ht : l_top g m n L w k b r) (hv : v_m n W L) (h18 : n 428 18 = 430 ∨ 440 < n 428 18) (hi : 0 ≤ i) (hU : l_un n ≤ K) (hU2 : l_un n + (w + 1) ≤ 199) (hU3 : i + 2 * l_un n + (w + 1) ≤ 600) (hl : l = s_fd n (s_wd 20) (g.2.1 r))
    (hv2 : v = if s_kd n l = 2 then n 433 l else -1)
    (HF : ∀ n' m', l_FF c l2 m n n' m' (fun X => xp_x_load_138 (c + 60) l2 1 i m X) → Q 0 n') (HG : ∀ g' n' m', l_GG c l2 W L C k w (i + 1) g g' m n n' m' (fun X => xp_x_load_138 (c + 60) l2 1 i m X) → Q 0 n') :
    xp_m_rawStream_102 (d + 12) P b l v n (l_raw (d + 13) k P r Q) := by
  obtain ⟨⟨t1, t2, t3⟩, ⟨t4, t4b, t4c⟩, t5, t6, t7, t8, t9, t10⟩ := id ht
  obtain ⟨i1, i2, i3, i4, i5, i6, i7, i8, i9, i10, i11, i12, i13, i14, i15⟩ := id hI
  have ge := l_uc_ge n 199
  have geU : 0 ≤ l_un n := ge
  have tr := (i12 k (by omega) (by omega)).root (by omega)
  rw [t5] at tr
  have r0 : 0 ≤ r ∧ r < n 428 15 := by have := tr.1; have := tr.2.1; have := tr.2.2.1; omega
  have no : s_no n l := by rw [hl]; exact i1.fd r0 t9
  obtain ⟨cb1, cb2, cb3, cb4⟩ := c_rb (c := c) hI ht hl
  have rng : 0 ≤ l → -2147483648 ≤ n 433 l ∧ n 433 l < 2147483648 ∨ True := fun _ => Or.inr trivial
  refine w_W.nm (fun hn => ?_)
  have nn : ∀ (n1 : w_M), w_nm (w_G0 sM) n1 → ∀ j, -2147483648 ≤ n1 433 j ∧ n1 433 j < 2147483648 := fun n1 h j => w_ar_r h (a := 433) (by decide) s_433 j
  have bd := i1.1
  unfold s_bd at bd
  -- the whole of the length, or none
  have fin : ∀ x' lv, ((f_st_kindOf m x' = 2 ∧ f_st_oneOf m x' = lv) ∨ (f_st_kindOf m x' ≠ 2 ∧ lv = -1)) → (-2147483648 ≤ lv ∧ lv < 2147483648) → (∀ R : Int → w_M → Prop, xp_lo_readBody_141 (c + 59) w k x' m R → xc_lo_readBody (c + 60) m R) → xp_m_rawStream_269 (d + 12) P b lv n (l_raw (d + 13) k P r Q) :=
    fun x' lv hx hr hop => s_str2 (c := c) hI hm ht hv h18 ⟨hi, by omega⟩ hx hr hop HF (fun n' m' h => HG g n' m' h)
  -- the class fails
  have cfail : (∀ R : Int → w_M → Prop, xc_lo_failObject (c + 59) k m (fun r m' => R r m') → xc_lo_readBody (c + 60) m R) → ∀ n', l_n n n' → n' 428 27 ≠ 0 → Q 0 n' := by
    intro hop n' fn z'
    obtain ⟨mz, v1, v2, v3, v4⟩ := c_fo (c := c + 56) (k := k) (m1 := m) (by omega) hm (by omega)
    refine HF n' mz ⟨fn, z', v1.qc, v2, v3, fun X hX => ?_⟩
    refine c_138_w (d := c + 59) ⟨hi, by omega⟩ (by omega) ?_
    refine hop _ ?_
    refine v4 _ ?_
    rw [if_neg (by decide)]
    exact c_197_bad v3 hX
  have badR : ∀ n1 : w_M, n1 428 27 ≠ 0 → l_n n n1 → (∀ n', l_n n n' → n' 428 27 ≠ 0 → Q 0 n') → ∀ s, l_raw (d + 13) k P r Q s n1 := fun n1 z f h s => r_raw_bad (d := d + 12) z (by omega) (fun n' f' z' => h n' (f.tr f'.q1.qn) z')
  -- the window, laid anew
  have frm : ∀ n1 : w_M, e_F n1 W L → ∀ n2, n2 = w_up (w_up (w_up (w_up n1 428 18 430) 428 19 0) 428 20 (n1 428 3)) 428 21 0 → (∀ i j : Int, ¬ (i = 428 ∧ 18 ≤ j ∧ j ≤ 21) → n2 i j = n1 i j) ∧ v_m n2 W L ∧ n2 428 18 = 430 := by
    intro n1 hF n2 h2
    have f : ∀ i j : Int, ¬ (i = 428 ∧ 18 ≤ j ∧ j ≤ 21) → n2 i j = n1 i j := fun i j q => by
      rw [h2, l_up (by omega), l_up (by omega), l_up (by omega), l_up (by omega)]
    have e18 : n2 428 18 = 430 := by rw [h2, w_up_nb (by decide), w_up_nb (by decide), w_up_nb (by decide), w_up_eq]
    have e19 : n2 428 19 = 0 := by rw [h2, w_up_nb (by decide), w_up_nb (by decide), w_up_eq]
    have e20 : n2 428 20 = L := by rw [h2, w_up_nb (by decide), w_up_eq]; exact hF.2.2.1
    have l430 : w_ln 430 = 8000 := w_ln_eq s0_430
    have := hF.2.1
    refine ⟨f, ⟨hF.1, by rw [e18]; decide, by rw [e18]; exact ⟨8000, s0_430⟩, by rw [e19]; decide, e20, by rw [e18, e19, l430]; omega, by rw [e18, l430]; decide, fun i i0 i1 => ?_⟩, e18⟩
    rw [e18, e19, Int.zero_add, f _ _ (by omega)]
    exact hF.2.2.2 i i0 i1
  apply xr_m_rawStream_102
  by_cases q0 : l < 0
  · rw [if_pos q0]
    have k1 : s_kd n l = -1 := if_pos q0
    rw [hv2, if_neg (by omega)]
    refine fin (s_up g.1 l) (-1) (Or.inr ⟨?_, rfl⟩) (by decide) (cb1 (by omega))
    rw [i1.kd no]; omega
  · rw [if_neg q0]
    have kdl : s_kd n l = n 432 l := if_neg q0
    have l15 : l < n 428 15 := by
      unfold s_no at no
      omega
    refine ⟨by omega, ?_⟩
    by_cases q8 : n 432 l = 8
    · rw [if_pos q8]
      have h8 : s_kd n l = 8 := by rw [kdl]; exact q8
      obtain ⟨u1, u2, u3, u4, ⟨u5, u5b⟩, u6⟩ := i1.two8 no h8
      have CB2 := cb2 h8
      have CB3 := cb3 h8
      have CB4 := cb4 h8
      obtain ⟨o, ho⟩ : ∃ o, o = n 433 l := ⟨_, rfl⟩
      rw [← ho] at CB2 CB3 CB4 u5 u5b
      rw [← ho]
      -- it can't be asked
      have no217 : ¬ l_okr n l o → xp_m_rawStream_217 (d + 12) P b o 0 n (l_raw (d + 13) k P r Q) := by
        intro nok
        apply xr_m_rawStream_217
        rw [if_pos rfl]
        apply xr_m_from
        obtain ⟨f, _, _⟩ := frm n i5 _ rfl
        apply xr_m_rawStream_269
        rw [if_pos (by decide)]
        refine sp_m_fail ?_
        have z27 : (w_up (w_up (w_up (w_up n 428 18 430) 428 19 0) 428 20 (n 428 3)) 428 21 0) 428 27 = 0 := by rw [f _ _ (by omega)]; exact i6
        exact badR _ (by rw [w_up_nb (by decide)]; exact m_fl_ne z27 (by decide)) (fun i j q1 q2 q3 => by rw [l_up (by omega), m_fl_o (by omega)]; exact f i j (by omega)) (cfail (CB2 nok)) _
      refine ⟨by omega, ?_⟩
      by_cases q1 : o < n 428 60
      · rw [if_pos q1]
        refine ⟨by omega, ?_⟩
        by_cases q2 : n 451 o = 1
        · rw [if_pos q2]
          refine ⟨by omega, ?_⟩
          by_cases q3 : n 456 o = 1
          · rw [if_pos q3]
            exact no217 (fun z => z.2.2.1 q3)
          · rw [if_neg q3]
            refine ⟨by omega, by omega, ?_⟩
            by_cases q4 : n 453 o = n 434 l
            · rw [if_pos q4]
              have ok : l_okr n l o := ⟨q1, q2, q3, q4⟩
              refine ⟨by omega, ?_⟩
              by_cases q5 : n 456 o = 0
              · -- it must be read first
                rw [if_pos q5]
                refine w_C.more (IH g m n o i 1 hI hm ⟨u5, q1⟩ q2 q5 hU (by omega) hi (by omega)) (fun _ n1 hp => ?_)
                have pre : ∀ X, xc_lo_readObject (c + 60) o m (fun _ m1 => xp_x_load_197 (c + 60) l2 i 1 o m1 X) → xp_x_load_138 (c + 60) l2 1 i m X := fun X hX => by
                  refine c_138_w (d := c + 59) ⟨hi, by omega⟩ (by omega) ?_
                  refine CB3 ok q5 _ ?_
                  rw [if_pos (by omega)]
                  exact hX
                rcases hp with ⟨mz, p1, p2, p3, p4, p5, p6⟩ | ⟨g1, m1, p1, p2, p3, p4, I1, p6, p7, p8, p9, p10, p11, p12, p13, p14, p16, i', j0, j1, p15⟩
                · refine r_gd ?_
                  rw [if_neg p2, if_pos rfl]
                  exact badR n1 p2 p1 (fun n' f' z' => HF n' mz ⟨f', z', p3, p4, p5, fun X hX => pre X (p6 X hX)⟩) _
                · refine r_gd ?_
                  rw [if_pos p2, if_neg (by decide)]
                  rw [t3] at p9 p10
                  have ok' : o ≠ k := fun z => by rw [z] at q3; exact q3 t8
                  obtain ⟨pk1, pk2⟩ := p12 k (by omega) (by omega) (fun z => ok' z.symm) (by omega)
                  have e60 : n1 428 60 = n 428 60 := p1 _ _ (by omega) (by omega) (by omega)
                  have e32 : ∀ a b, 432 ≤ a → a ≤ 439 → 0 ≤ b → b < n 428 15 → n1 a b = n a b := p7.2.2.1
                  have fd1 : s_fd n1 (s_wd 20) (g1.2.1 r) = l := by rw [l_fd.fr i1 p8 p7 r0 t9]; exact hl.symm
                  obtain ⟨n3, hn3⟩ : ∃ n3, n3 = w_up (w_up (w_up (w_up n1 428 18 430) 428 19 0) 428 20 (n1 428 3)) 428 21 0 := ⟨_, rfl⟩
                  have I1' := I1
                  obtain ⟨k1, k2, k3, k4, k5, k6, k7, k8, k9, k10, k11, k12, k13, k14, k15⟩ := I1'
                  obtain ⟨f3, v3, e318⟩ := frm n1 k5 n3 hn3
                  have I3 : l_I g1 m1 n3 W L C := I1.mv l_op.rf k4.2 k15 (fun i j q1 q2 => f3 i j (by omega))
                  have un3 : l_un n3 = l_un n1 := l_uc_eq (fun y => by rw [f3 _ _ (by omega)]) 199
                  have f32 : ∀ i j, i ≠ 428 → n3 i j = n1 i j := fun i j q => f3 i j (by omega)
                  have top3 : l_top g1 m1 n3 L w k b r := by
                    refine ⟨⟨t1, t2, p9⟩, ⟨by rw [p10 _ _ (by decide) (by decide) t1 (by omega)]; exact t4, by rw [p10 _ _ (by decide) (by decide) t1 (by omega)]; exact t4b, by rw [p10 _ _ (by decide) (by decide) t1 (by omega), (p8 r r0.1 r0.2).1]; exact t4c⟩, ?_, ?_, ?_, ?_, ?_, t10⟩
                    · rw [f32 _ _ (by decide), pk2]; exact t5
                    · rw [f3 _ _ (by omega), e60]; exact t6
                    · rw [f32 _ _ (by decide), p1 _ _ (by omega) (by omega) (by omega)]; exact t7
                    · rw [f32 _ _ (by decide), pk1]; exact t8
                    · rw [f32 _ _ (by decide), e32 _ _ (by decide) (by decide) r0.1 r0.2]; exact t9
                  have fd3 : l = s_fd n3 (s_wd 20) (g1.2.1 r) := by
                    rw [l_fd.fr (n := n1) (n' := n3) k1 s_ex.rf ⟨by rw [f3 428 15 (by omega)]; exact Int.le_refl _, by rw [f3 428 17 (by omega)]; exact Int.le_refl _, fun a b q1 q2 _ _ => f32 a b (by omega), fun b _ => f32 440 b (by decide)⟩ ⟨r0.1, by have := p7.1; omega⟩ (by rw [e32 _ _ (by decide) (by decide) r0.1 r0.2]; exact t9)]
                    exact fd1.symm
                  have el : ∀ a, 432 ≤ a → a ≤ 439 → n3 a l = n a l := fun a q1 q2 => by rw [f32 a _ (by omega)]; exact e32 a l q1 q2 (by omega) l15
                  have kd3 : s_kd n3 l = 8 := by
                    rw [show s_kd n3 l = n3 432 l from if_neg q0, el 432 (by decide) (by decide)]
                    exact q8
                  obtain ⟨_, _, _, d4⟩ := c_rb (c := c) I3 top3 fd3
                  have D4 := d4 kd3
                  rw [el 433 (by decide) (by decide), ← ho] at D4
                  have ok3 : l_okr n3 l o := by
                    refine ⟨?_, ?_, ?_, ?_⟩
                    · rw [f3 _ _ (by omega), e60]; exact q1
                    · rw [f32 _ _ (by decide), p1 _ _ (by omega) (by omega) (by omega)]; exact q2
                    · rw [f32 _ _ (by decide), p11]; decide
                    · rw [f32 _ _ (by decide), p1 _ _ (by omega) (by omega) (by omega), el 434 (by decide) (by decide)]; exact q4
                  have D5 := D4 ok3 (by rw [f32 _ _ (by decide)]; exact p11)
                  have tro := (k12 o (by omega) u5b).root (by rw [p11]; decide)
                  obtain ⟨ro, hro⟩ : ∃ ro, ro = n1 455 o := ⟨_, rfl⟩
                  rw [f32 _ _ (by decide), ← hro] at D5
                  rw [← hro] at tro
                  have ro0 : 0 ≤ ro ∧ ro < n1 428 15 := by have := tro.1; have := tro.2.1; have := tro.2.2.1; omega
                  have no3 : s_no n1 ro := Or.inr ro0
                  have up3 : s_up g1.1 ro = g1.1 ro := s_up_y ro0.1
                  have kdo := k1.kd no3
                  rw [up3] at kdo
                  have kdo2 : s_kd n1 ro = n1 432 ro := if_neg (by omega)
                  have bd1 := k1.1
                  unfold s_bd at bd1
                  refine w_W.nm (fun hn1 => ?_)
                  have fin3 : ∀ lv, ((n1 432 ro = 2 ∧ n1 433 ro = lv) ∨ (n1 432 ro ≠ 2 ∧ lv = -1)) → xp_m_rawStream_269 (d + 12) P b lv n3 (l_raw (d + 13) k P r Q) := by
                    intro lv hlv
                    have rlv : -2147483648 ≤ lv ∧ lv < 2147483648 := by
                      rcases hlv with ⟨_, z⟩ | ⟨_, z⟩
                      · rw [← z]; exact nn n1 hn1 ro
                      · omega
                    have hx3 : (f_st_kindOf m1 (g1.1 ro) = 2 ∧ f_st_oneOf m1 (g1.1 ro) = lv) ∨ (f_st_kindOf m1 (g1.1 ro) ≠ 2 ∧ lv = -1) := by
                      rcases hlv with ⟨z1, z2⟩ | ⟨z1, z2⟩
                      · refine Or.inl ⟨by rw [kdo, kdo2]; exact z1, ?_⟩
                        have := k1.one no3 (Or.inr (Or.inl (by rw [kdo2]; exact z1)))
                        rw [up3] at this
                        rw [this]
                        exact z2
                      · exact Or.inr ⟨by rw [kdo, kdo2]; exact z1, z2⟩
                    have tot : l_n n n3 := p1.tr (l_nfr (fun i j q => f3 i j (by omega)))
                    refine s_str2 (c := c) (i := i') I3 p4 top3 v3 (Or.inl e318) ⟨j0, by have g0 : 0 ≤ l_un n1 := l_uc_ge n1 199; omega⟩ hx3 rlv D5 (fun n' m' ⟨h1, h2, h3, h4, h5, h6⟩ => HF n' m' ⟨tot.tr h1, h2, p3.tr h3, h4, h5, fun X hX => pre X (p15 X (h6 X hX))⟩) (fun n' m' ⟨h1, h2, h3, h4, h5, h6, h7, h8, h9, h10, h11, h12, h13, h14, h16, i2, j2, j3, h15⟩ => ?_)
                    refine HG g1 n' m' ⟨tot.tr h1, h2, p3.tr h3, h4, h5, p6.tr h6, p7.tr ?_, p8, h9, fun i j q1 q2 q3 q4 => by rw [h10 i j q1 q2 q3 q4]; exact p10 i j q1 q2 q3 (by omega), h11, fun y y0 y1 yk y2 => ?_, fun _ => ?_, by rw [un3] at h14; omega, fun y y1 => by rw [h16 y (by rw [f32 _ _ (by decide), p1 _ _ (by omega) (by omega) (by omega)]; exact y1), f32 _ _ (by decide)]; exact p16 y y1, i2, j2, by rw [un3] at j3; omega, fun X hX => pre X (p15 X (h15 X hX))⟩
                    · refine s_mf.tr ⟨?_, ?_, fun a b q1 q2 _ _ => f32 a b (by omega), fun b _ => f32 440 b (by decide)⟩ h7
                      · rw [f3 428 15 (by omega)]; exact Int.le_refl _
                      · rw [f3 428 17 (by omega)]; exact Int.le_refl _
                    · by_cases yo : y = o
                      · rw [yo] at y2; exact absurd q5 y2
                      · obtain ⟨z1, z2⟩ := p12 y y0 y1 yo y2
                        have := h12 y y0 y1 yk (by rw [f32 _ _ (by decide), z1]; exact y2)
                        rw [f32 _ _ (by decide), f32 _ _ (by decide), z1, z2] at this
                        exact this
                    · have := h13 (by rw [f32 _ _ (by decide), pk1]; omega)
                      rw [this, f32 _ _ (by decide)]
                      exact pk2
                  apply xr_m_rawStream_217
                  rw [if_neg (by decide)]
                  refine ⟨by omega, ?_⟩
                  rw [← hro]
                  refine ⟨by omega, ?_⟩
                  by_cases qw : n1 432 ro = 2
                  · rw [if_pos qw]
                    refine ⟨by omega, by omega, ?_⟩
                    apply xr_m_from
                    rw [← hn3]
                    exact fin3 _ (Or.inl ⟨qw, rfl⟩)
                  · rw [if_neg qw]
                    apply xr_m_from
                    rw [← hn3]
                    exact fin3 _ (Or.inr ⟨qw, rfl⟩)
              · -- it was read before
                rw [if_neg q5]
                have e2 : n 456 o = 2 := by
                  obtain ⟨a1, a2, a3, a4, a5, a6, a7, a8, a9, b1, b2, b3⟩ := (i12 o (by omega) u5b).resolve_left (fun z => by omega)
                  omega
                have D5 := CB4 ok e2
                have tro := (i12 o (by omega) u5b).root (by omega)
                obtain ⟨ro, hro⟩ : ∃ ro, ro = n 455 o := ⟨_, rfl⟩
                rw [← hro] at tro D5
                have ro0 : 0 ≤ ro ∧ ro < n 428 15 := by have := tro.1; have := tro.2.1; have := tro.2.2.1; omega
                have no3 : s_no n ro := Or.inr ro0
                have up3 : s_up g.1 ro = g.1 ro := s_up_y ro0.1
                have kdo := i1.kd no3
                rw [up3] at kdo
                have kdo2 : s_kd n ro = n 432 ro := if_neg (by omega)
                obtain ⟨n3, hn3⟩ : ∃ n3, n3 = w_up (w_up (w_up (w_up n 428 18 430) 428 19 0) 428 20 (n 428 3)) 428 21 0 := ⟨_, rfl⟩
                obtain ⟨f3, v3, e318⟩ := frm n i5 n3 hn3
                have f32 : ∀ i j, i ≠ 428 → n3 i j = n i j := fun i j q => f3 i j (by omega)
                have I3 : l_I g m n3 W L C := hI.mv l_op.rf i4.2 i15 (fun i j q1 q2 => f3 i j (by omega))
                have un3 : l_un n3 = l_un n := l_uc_eq (fun y => by rw [f32 _ _ (by decide)]) 199
                have top3 : l_top g m n3 L w k b r := by
                  refine ⟨⟨t1, t2, t3⟩, ⟨t4, t4b, t4c⟩, ?_, ?_, ?_, ?_, ?_, t10⟩
                  · rw [f32 _ _ (by decide)]; exact t5
                  · rw [f3 _ _ (by omega)]; exact t6
                  · rw [f32 _ _ (by decide)]; exact t7
                  · rw [f32 _ _ (by decide)]; exact t8
                  · rw [f32 _ _ (by decide)]; exact t9
                have tot : l_n n n3 := l_nfr (fun i j q => f3 i j (by omega))
                have fin3 : ∀ lv, ((n 432 ro = 2 ∧ n 433 ro = lv) ∨ (n 432 ro ≠ 2 ∧ lv = -1)) → xp_m_rawStream_269 (d + 12) P b lv n3 (l_raw (d + 13) k P r Q) := by
                  intro lv hlv
                  have rlv : -2147483648 ≤ lv ∧ lv < 2147483648 := by
                    rcases hlv with ⟨_, z⟩ | ⟨_, z⟩
                    · rw [← z]; exact nn n hn ro
                    · omega
                  have hx3 : (f_st_kindOf m (g.1 ro) = 2 ∧ f_st_oneOf m (g.1 ro) = lv) ∨ (f_st_kindOf m (g.1 ro) ≠ 2 ∧ lv = -1) := by
                    rcases hlv with ⟨z1, z2⟩ | ⟨z1, z2⟩
                    · refine Or.inl ⟨by rw [kdo, kdo2]; exact z1, ?_⟩
                      have := i1.one no3 (Or.inr (Or.inl (by rw [kdo2]; exact z1)))
                      rw [up3] at this
                      rw [this]
                      exact z2
                    · exact Or.inr ⟨by rw [kdo, kdo2]; exact z1, z2⟩
                  refine s_str2 (c := c) (i := i) I3 hm top3 v3 (Or.inl e318) ⟨hi, by omega⟩ hx3 rlv D5 (fun n' m' ⟨h1, h2, h3, h4, h5, h6⟩ => HF n' m' ⟨tot.tr h1, h2, h3, h4, h5, h6⟩) (fun n' m' ⟨h1, h2, h3, h4, h5, h6, h7, h8, h9, h10, h11, h12, h13, h14, h16, i2, j2, j3, h15⟩ => ?_)
                  refine HG g n' m' ⟨tot.tr h1, h2, h3, h4, h5, h6, ?_, s_ex.rf, h9, h10, h11, fun y y0 y1 yk y2 => ?_, fun _ => ?_, by rw [un3] at h14; exact h14, fun y y1 => by rw [h16 y (by rw [f32 _ _ (by decide)]; exact y1), f32 _ _ (by decide)], i2, j2, by rw [un3] at j3; exact j3, h15⟩
                  · refine s_mf.tr ⟨?_, ?_, fun a b q1 q2 _ _ => f32 a b (by omega), fun b _ => f32 440 b (by decide)⟩ h7
                    · rw [f3 428 15 (by omega)]; exact Int.le_refl _
                    · rw [f3 428 17 (by omega)]; exact Int.le_refl _
                  · have := h12 y y0 y1 yk (by rw [f32 _ _ (by decide)]; exact y2)
                    rw [f32 _ _ (by decide), f32 _ _ (by decide)] at this
                    exact this
                  · have := h13 (by rw [f32 _ _ (by decide)]; omega)
                    rw [this, f32 _ _ (by decide)]
                apply xr_m_rawStream_217
                rw [if_neg (by decide)]
                refine ⟨by omega, ?_⟩
                rw [← hro]
                refine ⟨by omega, ?_⟩
                by_cases qw : n 432 ro = 2
                · rw [if_pos qw]
                  refine ⟨by omega, by omega, ?_⟩
                  apply xr_m_from
                  rw [← hn3]
                  exact fin3 _ (Or.inl ⟨qw, rfl⟩)
                · rw [if_neg qw]
                  apply xr_m_from
                  rw [← hn3]
                  exact fin3 _ (Or.inr ⟨qw, rfl⟩)
            · rw [if_neg q4]
              exact no217 (fun z => q4 z.2.2.2)
        · rw [if_neg q2]
          exact no217 (fun z => q2 z.2.1)
      · rw [if_neg q1]
        exact no217 (fun z => q1 z.1)
    · rw [if_neg q8]
      have CB1 := cb1 (by rw [kdl]; exact q8)
      by_cases qw : n 432 l = 2
      · rw [hv2, if_pos (by rw [kdl]; exact qw)]
        refine fin (s_up g.1 l) _ (Or.inl ⟨by rw [i1.kd no, kdl]; exact qw, i1.one no (Or.inr (Or.inl (by rw [kdl]; exact qw)))⟩) (nn n hn l) CB1
      · rw [hv2, if_neg (by rw [kdl]; exact qw)]
        refine fin (s_up g.1 l) _ (Or.inr ⟨by rw [i1.kd no, kdl]; exact qw, rfl⟩) (by decide) CB1
end SG2
