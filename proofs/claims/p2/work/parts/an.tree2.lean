/-! ===== the tree of pages, whole, both sides ===== -/
def t_c2 (m m' : w_M) : Prop := ∀ i j : Int, ¬ (i = 376 ∧ (j = 6 ∨ j = 7)) → ¬ (i = 399 ∧ (j = 7 ∨ j = 8)) → ¬ (400 ≤ i ∧ i ≤ 402) → ¬ (i = 366 ∧ (j = 13 ∨ j = 14)) → m' i j = m i j
def t_m2 (n n' : w_M) : Prop := ∀ i j : Int, ¬ (i = 428 ∧ (j = 27 ∨ j = 28 ∨ j = 65 ∨ j = 66 ∨ (80 ≤ j ∧ j ≤ 84))) → ¬ (468 ≤ i ∧ i ≤ 470) → n' i j = n i j
/-- the tree is right -/
def t_TF (g : s_g) (n : w_M) : Prop := (t_isN g n (n 428 83) ∧ n 469 (n 428 83) = 0) ∧ (∀ k, 0 ≤ k → k < n 428 84 → t_pg g n (n 468 k) ∧ tr_in g n (n 468 k)) ∧ (∀ i j, 0 ≤ i → i < j → j < n 428 84 → n 468 i ≠ n 468 j) ∧ ∀ y, 0 ≤ y → y < 200 → t_isN g n y → t_nd g n y
def t_RT (g : s_g) (m n : w_M) : Prop := tr_T g m n ∧ m 366 13 = n 428 81 ∧ m 366 14 = n 428 82 ∧ m 399 8 = n 428 83 ∧ t_dd n (n 428 81) ∧ (n 428 82 = 0 ∨ t_dd n (n 428 82)) ∧ t_TF g n
section OF
variable {d c : Nat} {g g' : s_g} {m m' m0 m1 m2 n n' n0 n1 n2 : w_M} {Q R : Int → w_M → Prop} {p k v x y z r b i l t s a u : Int} {w : List Int}
theorem t_m2.mf' (h : t_m2 n n1) (h6 : ∀ j : Int, (j = 65 ∨ j = 66 ∨ (81 ≤ j ∧ j ≤ 83)) → n1 428 j = n 428 j) : t_mf n n1 := fun i j q1 q2 => by
  by_cases z : i = 428 ∧ (j = 65 ∨ j = 66 ∨ (81 ≤ j ∧ j ≤ 83))
  · rw [z.1]; exact h6 j z.2
  · exact h i j (by omega) q2
theorem t_m2.I (h : o_I g m n) (hc : t_c2 m m1) (hm : t_m2 n n1) : o_I g m1 n1 := h.fr (fun i j q1 q2 q3 => hc i j (by omega) (by omega) (by omega) (by omega)) (hc _ _ (by omega) (by omega) (by omega) (by omega)) (hc _ _ (by omega) (by omega) (by omega) (by omega)) (fun i j q1 q2 => hm i j (by omega) (by omega)) (fun j q => hm _ _ (by omega) (by omega))
theorem t_c2.rf : t_c2 m m := fun _ _ _ _ _ _ => rfl
theorem t_c2.tr (h : t_c2 m m1) (h2 : t_c2 m1 m2) : t_c2 m m2 := fun i j q1 q2 q3 q4 => (h2 i j q1 q2 q3 q4).trans (h i j q1 q2 q3 q4)
theorem t_m2.tr (h : t_m2 n n1) (h2 : t_m2 n1 n2) : t_m2 n n2 := fun i j q1 q2 => (h2 i j q1 q2).trans (h i j q1 q2)
theorem t_cf.c2 (h : t_cf m m1) : t_c2 m m1 := fun i j q1 q2 q3 q4 => h i j q1 (by omega) q3
theorem t_mf.mm (h : t_mf n n1) : t_m2 n n1 := fun i j q1 q2 => h i j (by omega) q2
/-- the reference's functions do not look at the tree's own fields -/
theorem t_m2.re (h : t_m2 n n1) : o_re n1 y = o_re n y := o_re_fr (fun i j q1 q2 => h i j (by omega) (by omega)) (h _ _ (by omega) (by omega))
theorem t_m2.ln (h : t_m2 n n1) : o_ln n1 y = o_ln n y := o_ln_fr (fun i j q1 q2 => h i j (by omega) (by omega)) (h _ _ (by omega) (by omega))
theorem t_m2.cl (h : t_m2 n n1) (hi : 429 ≤ i ∧ i ≤ 467) : n1 i y = n i y := h i y (by omega) (by omega)
theorem t_m2.en (h : t_m2 n n1) : o_en g n1 b k = o_en g n b k := by
  unfold o_en
  rw [h.re, s_fd_fr (fun i j q1 q2 => h i j (by omega) (by omega))]
theorem t_m2.isd (h : t_m2 n n1) : o_isd n1 y ↔ o_isd n y := by
  unfold o_isd
  rw [h.re, h.ln, h.cl (i := 432) (by decide), h.cl (i := 457) (by decide)]
theorem t_m2.dn (h : t_m2 n n1) : o_dn n1 y = o_dn n y := by
  unfold o_dn
  have e := h.isd (y := y)
  by_cases q : 0 ≤ y ∧ n 432 y = 8 ∧ o_isd n y
  · rw [if_pos q, if_pos ⟨q.1, by rw [h.cl (by decide)]; exact q.2.1, e.mpr q.2.2⟩, h.ln]
  · rw [if_neg q, if_neg (fun w => q ⟨w.1, by rw [← h.cl (i := 432) (by decide)]; exact w.2.1, e.mp w.2.2⟩)]
theorem t_m2.dd (h : t_m2 n n1) : t_dd n1 x ↔ t_dd n x := by
  unfold t_dd o_u
  rw [h 428 60 (by omega) (by omega), h.cl (i := 451) (by decide), h.cl (i := 455) (by decide), h.cl (i := 432) (by decide), h.cl (i := 457) (by decide)]
theorem t_m2.nk (h : t_m2 n n1) : s_nk n1 z w ↔ s_nk n z w := s_nk_fr (fun i j q1 q2 => h i j (by omega) (by omega)) w
/-- a dict told by a reference: the class -/
theorem c_dn (h : o_I g m n) (hy : s_no n y) : (o_dn n y ≠ 0 → o_ln n y = o_dn n y ∧ o_isd n y ∧ o_re n y = n 455 (o_dn n y)) ∧ (o_dn n y = 0 → o_ln n y = 0 ∨ ¬ o_isd n y) := by
  refine ⟨fun q => ?_, fun q => (o_dn_0 h hy).mp q⟩
  obtain ⟨d1, d2, d3⟩ := o_dn_r h hy
  obtain ⟨u1, u2, u3, u4, u5⟩ := d3 q
  refine ⟨u4.symm, u5, ?_⟩
  rcases o_cs h hy with w | w | w
  · omega
  · omega
  · rw [u4]; exact w.2.2.2.2.2
theorem c_clear (hm : m 399 7 = 0) (H : ∀ m', (∀ i j : Int, ¬ (401 ≤ i ∧ i ≤ 402) → m' i j = m i j) → (∀ x, 0 ≤ x → x < 200 → m' 401 x = 0 ∧ m' 402 x = 0) → xp_tr_read_7 d l 200 m' Q) : xp_tr_read_7 d l 0 m Q := by
  have key : ∀ (k : Nat) (i : Int) (m1 : w_M), i + k = 200 → 0 ≤ i → (∀ a b : Int, ¬ (401 ≤ a ∧ a ≤ 402) → m1 a b = m a b) → (∀ x, 0 ≤ x → x < i → m1 401 x = 0 ∧ m1 402 x = 0) → xp_tr_read_7 d l i m1 Q := by
    intro k
    induction k with
    | zero =>
      intro i m1 hi i0 hf hx
      have : i = 200 := by omega
      subst this
      exact H m1 hf hx
    | succ k ih =>
      intro i m1 hi i0 hf hx
      apply xr_tr_read_7
      rw [if_pos (by omega), w_32_id (x := i + 1) (by omega) (by omega)]
      refine ⟨by omega, by omega, ?_⟩
      refine ih (i + 1) _ (by omega) (by omega) (fun a b q => by rw [l_up (by omega), l_up (by omega)]; exact hf a b q) (fun x x0 x1 => ?_)
      by_cases z : x = i
      · rw [z, w_up_ne (by decide), w_up_eq, w_up_eq]
        exact ⟨rfl, rfl⟩
      · rw [l_up (by omega), l_up (by omega), l_up (by omega), l_up (by omega)]
        exact hx x x0 (by omega)
  exact key 200 0 m (by decide) (by decide) (fun _ _ _ => rfl) (fun x x0 x1 => by omega)
theorem r_clear (H : ∀ n', (∀ i j : Int, ¬ (469 ≤ i ∧ i ≤ 470) → n' i j = n i j) → (∀ x, 0 ≤ x → x < 200 → n' 469 x = 0 ∧ n' 470 x = 0) → xp_m_tree_132 d 200 n' Q) : xp_m_tree_132 d 0 n Q := by
  have key : ∀ (k : Nat) (i : Int) (n1 : w_M), i + k = 200 → 0 ≤ i → (∀ a b : Int, ¬ (469 ≤ a ∧ a ≤ 470) → n1 a b = n a b) → (∀ x, 0 ≤ x → x < i → n1 469 x = 0 ∧ n1 470 x = 0) → xp_m_tree_132 d i n1 Q := by
    intro k
    induction k with
    | zero =>
      intro i n1 hi i0 hf hx
      have : i = 200 := by omega
      subst this
      exact H n1 hf hx
    | succ k ih =>
      intro i n1 hi i0 hf hx
      apply xr_m_tree_132
      rw [if_pos (by omega), w_32_id (x := i + 1) (by omega) (by omega)]
      refine ⟨by omega, by omega, ?_⟩
      refine ih (i + 1) _ (by omega) (by omega) (fun a b q => by rw [l_up (by omega), l_up (by omega)]; exact hf a b q) (fun x x0 x1 => ?_)
      by_cases z : x = i
      · rw [z, w_up_eq, w_up_ne (by decide), w_up_eq]
        exact ⟨rfl, rfl⟩
      · rw [l_up (by omega), l_up (by omega), l_up (by omega), l_up (by omega)]
        exact hx x x0 (by omega)
  exact key 200 0 n (by decide) (by decide) (fun _ _ _ => rfl) (fun x x0 x1 => by omega)
theorem s_tree (h : o_I g m n) (ht : (0 ≤ n 428 64 ∧ n 428 64 < n 428 15) ∧ n 432 (n 428 64) = 7) (h6 : m 376 6 = 0) (h27 : n 428 27 = 0) :
    xc_m_tree (d + 54) n (fun _ n1 => ∃ m1, (∀ X : Int → w_M → Prop, X 0 m1 → xc_tr_read (c + 28) (g.1 (n 428 64)) m X) ∧ t_c2 m m1 ∧ t_m2 n n1 ∧ ((m1 376 6 ≠ 0 ∧ n1 428 27 ≠ 0) ∨ t_RT g m1 n1)) := by
  obtain ⟨tl, htl⟩ : ∃ tl, tl = n 428 64 := ⟨_, rfl⟩
  rw [← htl] at ht ⊢
  obtain ⟨tr, t7⟩ := ht
  have bd := h.bd
  have noR := h.fdn (w := s_wd 36) tr t7
  have noI := h.fdn (w := s_wd 37) tr t7
  obtain ⟨yR, hyR⟩ : ∃ y, y = s_fd n (s_wd 36) (g.2.1 tl) := ⟨_, rfl⟩
  obtain ⟨yI, hyI⟩ : ∃ y, y = s_fd n (s_wd 37) (g.2.1 tl) := ⟨_, rfl⟩
  rw [← hyR] at noR
  rw [← hyI] at noI
  -- the class, cleared
  obtain ⟨mc, hmc1, hmc2, hmc3, hmc4⟩ : ∃ mc, (∀ X : Int → w_M → Prop, xp_tr_read_7 (c + 27) (g.1 tl) 200 mc X → xc_tr_read (c + 28) (g.1 tl) m X) ∧ (∀ i j : Int, ¬ (401 ≤ i ∧ i ≤ 402) → ¬ (i = 399 ∧ j = 7) → mc i j = m i j) ∧ (∀ x, 0 ≤ x → x < 200 → mc 401 x = 0 ∧ mc 402 x = 0) ∧ mc 399 7 = 0 := by
    obtain ⟨m0, hm0⟩ : ∃ m0, m0 = w_up m 399 7 0 := ⟨_, rfl⟩
    obtain ⟨mc, hmc⟩ : ∃ mc : w_M, mc = fun i j => if (401 ≤ i ∧ i ≤ 402) ∧ 0 ≤ j ∧ j < 200 then 0 else m0 i j := ⟨_, rfl⟩
    refine ⟨mc, fun X hX => ?_, fun i j q1 q2 => ?_, fun x x0 x1 => ?_, ?_⟩
    · apply xr_tr_read
      rw [← hm0]
      have key : ∀ (k : Nat) (i : Int) (m1 : w_M), i + k = 200 → 0 ≤ i → (∀ a b : Int, m1 a b = if (401 ≤ a ∧ a ≤ 402) ∧ 0 ≤ b ∧ b < i then 0 else m0 a b) → xp_tr_read_7 (c + 27) (g.1 tl) i m1 X := by
        intro k
        induction k with
        | zero =>
          intro i m1 hi i0 hf
          have e : i = 200 := by omega
          subst e
          have : m1 = mc := funext (fun a => funext (fun b => by rw [hf, hmc]))
          rw [this]
          exact hX
        | succ k ih =>
          intro i m1 hi i0 hf
          apply xr_tr_read_7
          rw [if_pos (by omega), w_32_id (x := i + 1) (by omega) (by omega)]
          refine ⟨by omega, by omega, ?_⟩
          refine ih (i + 1) _ (by omega) (by omega) (fun a b => ?_)
          by_cases z : (a = 401 ∨ a = 402) ∧ b = i
          · rw [if_pos (show (401 ≤ a ∧ a ≤ 402) ∧ 0 ≤ b ∧ b < i + 1 by omega)]
            rcases z.1 with e | e
            · rw [e, z.2, w_up_ne (by decide), w_up_eq]
            · rw [e, z.2, w_up_eq]
          · rw [l_up (by omega), l_up (by omega), hf]
            by_cases z2 : (401 ≤ a ∧ a ≤ 402) ∧ 0 ≤ b ∧ b < i
            · rw [if_pos z2, if_pos (by omega)]
            · rw [if_neg z2, if_neg (by omega)]
      exact key 200 0 m0 (by decide) (by decide) (fun a b => by rw [if_neg (by omega)])
    · rw [hmc]
      show (if (401 ≤ i ∧ i ≤ 402) ∧ 0 ≤ j ∧ j < 200 then 0 else m0 i j) = m i j
      rw [if_neg (by omega), hm0, l_up (by omega)]
    · rw [hmc]
      show (if (401 ≤ (401 : Int) ∧ (401 : Int) ≤ 402) ∧ 0 ≤ x ∧ x < 200 then 0 else m0 401 x) = 0 ∧ (if (401 ≤ (402 : Int) ∧ (402 : Int) ≤ 402) ∧ 0 ≤ x ∧ x < 200 then 0 else m0 402 x) = 0
      rw [if_pos (by omega), if_pos (by omega)]
      exact ⟨rfl, rfl⟩
    · rw [hmc]
      show (if (401 ≤ (399 : Int) ∧ (399 : Int) ≤ 402) ∧ (0 : Int) ≤ 7 ∧ (7 : Int) < 200 then 0 else m0 399 7) = 0
      rw [if_neg (by omega), hm0, w_up_eq]
  have c2c : t_c2 m mc := fun i j q1 q2 q3 q4 => hmc2 i j (by omega) (by omega)
  have Ic : o_I g mc n := t_m2.I h c2c (fun _ _ _ _ => rfl)
  have mc6 : mc 376 6 = 0 := by rw [hmc2 _ _ (by omega) (by omega)]; exact h6
  have lR := o_dn_r Ic noR
  have cdR := c_dn Ic noR
  -- the class behind its root
  obtain ⟨md, hmd⟩ : ∃ md, md = w_up mc 366 13 (o_ln n yR) := ⟨_, rfl⟩
  have c2d : t_c2 m md := c2c.tr (fun i j q1 q2 q3 q4 => by rw [hmd]; exact l_up (by omega))
  have Id : o_I g md n := t_m2.I h c2d (fun _ _ _ _ => rfl)
  have md6 : md 376 6 = 0 := by rw [hmd, w_up_ne (by decide)]; exact mc6
  have croot : ∀ X : Int → w_M → Prop, (xc_ta_dict (c + 27) (s_up g.1 yR) mc (fun r2 m2 => xc_ta_target (c + 27) (s_up g.1 yR) m2 (fun r3 m3 => if r2 < 0 then (xc_ps_fail (c + 27) 376 10 0 (w_up m3 366 13 r3) (fun r4 m4 => X 0 m4)) else (if r3 = 0 then (xc_ps_fail (c + 27) 376 10 0 (w_up m3 366 13 r3) (fun r5 m5 => X 0 m5)) else (xc_st_entry (c + 27) r2 3 (w_up m3 366 13 r3) (fun r6 m6 => xc_ta_target (c + 27) r6 m6 (fun r7 m7 => xc_ta_entry (c + 27) r2 1 (w_up m7 399 8 r7) (fun r8 m8 => xc_st_isName (c + 27) r8 2 m8 (fun r9 m9 => if r9 = 0 then (xc_ps_fail (c + 27) 376 10 (m9 366 13) m9 (fun r10 m10 => X 0 m10)) else (if (m9 399 8) = 0 then (xc_ps_fail (c + 27) 376 10 (m9 366 13) m9 (fun r11 m11 => X 0 m11)) else (xc_ta_dict (c + 27) r6 m9 (fun r12 m12 => if r12 < 0 then (xc_ps_fail (c + 27) 376 10 (m12 366 13) m12 (fun r13 m13 => X 0 m13)) else (xc_tr_visit (c + 27) (m12 399 8) 0 1 m12 (fun r14 m14 => xc_st_entry (c + 27) (g.1 tl) 37 m14 (fun r15 m15 => xc_ta_target (c + 27) r15 m15 (fun r16 m16 => if r15 < 0 then (X 0 (w_up m16 366 14 r16)) else (if r16 = 0 then (xc_ps_fail (c + 27) 376 10 0 (w_up m16 366 14 r16) (fun r17 m17 => X 0 m17)) else (xc_ta_dict (c + 27) r15 (w_up m16 366 14 r16) (fun r18 m18 => if r18 < 0 then (xc_ps_fail (c + 27) 376 10 0 m18 (fun r19 m19 => X 0 m19)) else (X 0 m18)))))))))))))))))))) → xc_tr_read (c + 28) (g.1 tl) m X := fun X hX => hmc1 X (by
    apply xr_tr_read_7
    rw [if_neg (by decide)]
    refine sp_st_entry (d := c + 24) Ic.1 Ic.2.1 (by decide) tr t7 ?_
    rw [← hyR]
    exact hX)
  apply xr_m_tree
  rw [← htl]
  refine r_raw2 (d := d + 47) h e80.rf t_mRoot tr t7 ?_
  rw [← hyR]
  obtain ⟨n1, hn1⟩ : ∃ n1, n1 = w_up n 428 65 yR := ⟨_, rfl⟩
  rw [← hn1, ← htl]
  have m21 : t_m2 n n1 := fun i j q1 q2 => by rw [hn1, l_up (by omega)]
  have I1 : o_I g mc n1 := t_m2.I h c2c m21
  refine r_raw2 (d := d + 47) I1 e80.rf t_mInfo (by rw [m21 _ _ (by omega) (by omega)]; exact tr) (by rw [m21.cl (by decide)]; exact t7) ?_
  rw [s_fd_fr (fun i j q1 q2 => m21 i j (by omega) (by omega)), ← hyI]
  obtain ⟨n2, hn2⟩ : ∃ n2, n2 = w_up n1 428 66 yI := ⟨_, rfl⟩
  have e165 : n1 428 65 = yR := by rw [hn1, w_up_eq]
  rw [← hn2, e165]
  have m22 : t_m2 n n2 := m21.tr (fun i j q1 q2 => by rw [hn2, l_up (by omega)])
  have e266 : n2 428 66 = yI := by rw [hn2, w_up_eq]
  have z272 : n2 428 27 = 0 := by rw [hn2, w_up_nb (by decide), hn1, w_up_nb (by decide)]; exact h27
  have I2 : o_I g mc n2 := t_m2.I h c2c m22
  have noR2 : s_no n2 yR := by unfold s_no at noR ⊢; rw [m22 _ _ (by omega) (by omega)]; exact noR
  refine r_dictNumber (d := d + 49) I2 e80.rf noR2 (fun n3 e3 => ?_)
  rw [m22.dn]
  have m23 : t_m2 n n3 := m22.tr e3.tm.mm
  have z273 : n3 428 27 = 0 := by rw [e3 _ _ (by omega)]; exact z272
  have e366 : n3 428 66 = yI := by rw [e3 _ _ (by omega)]; exact e266
  -- a fault of both
  have fail : ∀ (m5 n5 : w_M), t_c2 m m5 → t_m2 n n5 → n5 428 27 = 0 → ∀ c1 v1 c2 v2 : Int, c1 ≠ 0 → c2 ≠ 0 → (∀ X : Int → w_M → Prop, X 0 (t_fl m5 c2 v2) → xc_tr_read (c + 28) (g.1 tl) m X) → ∃ m1, (∀ X : Int → w_M → Prop, X 0 m1 → xc_tr_read (c + 28) (g.1 tl) m X) ∧ t_c2 m m1 ∧ t_m2 n (m_fl n5 c1 v1) ∧ ((m1 376 6 ≠ 0 ∧ (m_fl n5 c1 v1) 428 27 ≠ 0) ∨ t_RT g m1 (m_fl n5 c1 v1)) := fun m5 n5 f1 f2 f3 c1 v1 c2 v2 h1 h2 hX =>
    ⟨_, hX, f1.tr t_fl_cf.c2, f2.tr t_mfl.mm, Or.inl ⟨t_fl_ne h2, m_fl_ne f3 h1⟩⟩
  have cdict : ∀ Z : Int → w_M → Prop, (o_isd n yR → Z (g.1 (o_re n yR)) mc) → (¬ o_isd n yR → Z (-1) mc) → xc_ta_dict (c + 27) (s_up g.1 yR) mc Z := fun Z h1 h0 => c_dict (d := c + 23) (Q := Z) Ic noR h1 h0
  have ctarget : ∀ Z : Int → w_M → Prop, Z (o_ln n yR) mc → xc_ta_target (c + 27) (s_up g.1 yR) mc Z := fun Z hZ => c_target (d := c + 26) (Q := Z) Ic noR hZ
  by_cases q0 : o_dn n yR = 0
  · rw [if_pos q0]
    refine sp_m_fail ?_
    refine fail md _ c2d (m23.tr (fun i j q1 q2 => l_up (by omega))) (by rw [w_up_nb (by decide)]; exact z273) 10 _ 10 0 (by decide) (by decide) (fun X hX => croot X ?_)
    rcases cdR.2 q0 with w | w
    · refine cdict _ (fun w2 => ?_) (fun w2 => ?_)
      · have g41 : ¬ g.1 (o_re n yR) < 0 := by
          have no := o_re_no Ic noR
          have := w2.1
          have := (Ic.1.2.1 _ this (by unfold s_no at no; omega)).1
          omega
        refine ctarget _ ?_
        rw [if_neg g41, if_pos w, ← hmd]
        exact sp_tfl hX
      · refine ctarget _ ?_
        rw [if_pos (by decide), ← hmd]
        exact sp_tfl hX
    · refine cdict _ (fun w2 => absurd w2 w) (fun _ => ?_)
      refine ctarget _ ?_
      rw [if_pos (by decide), ← hmd]
      exact sp_tfl hX
  · rw [if_neg q0]
    obtain ⟨l1, l2, l3⟩ := lR
    obtain ⟨u1, u2, u3, u4, u5⟩ := l3 q0
    obtain ⟨v1, v2, v3⟩ := cdR.1 q0
    obtain ⟨ct, hct⟩ : ∃ ct, ct = o_dn n yR := ⟨_, rfl⟩
    rw [← hct] at u1 u2 u3 q0 l1 l2 v1 v3
    rw [← hct]
    have k6 := (Ic.num u1).2.2.2.2.2.1
    obtain ⟨b, hb⟩ : ∃ b, b = n 455 ct := ⟨_, rfl⟩
    rw [← hb] at u2 v3 k6
    have rb : 0 ≤ b ∧ b < n 428 15 := ⟨k6.1, k6.2.1⟩
    have nob := h.fdn (w := s_wd 3) rb u2
    obtain ⟨yP, hyP⟩ : ∃ y, y = s_fd n (s_wd 3) (g.2.1 b) := ⟨_, rfl⟩
    rw [← hyP] at nob
    have g41 : 41 ≤ g.1 b := (Ic.1.2.1 _ rb.1 rb.2).1
    refine ⟨by omega, ?_⟩
    obtain ⟨n4, hn4⟩ : ∃ n4, n4 = w_up n3 428 81 ct := ⟨_, rfl⟩
    rw [← hn4]
    have m24 : t_m2 n n4 := m23.tr (fun i j q1 q2 => by rw [hn4, l_up (by omega)])
    have e481 : n4 428 81 = ct := by rw [hn4, w_up_eq]
    have z274 : n4 428 27 = 0 := by rw [hn4, w_up_nb (by decide)]; exact z273
    have e466 : n4 428 66 = yI := by rw [hn4, w_up_nb (by decide)]; exact e366
    rw [m24.cl (i := 455) (by decide), ← hb]
    have I4 : o_I g md n4 := t_m2.I h c2d m24
    have rb4 : 0 ≤ b ∧ b < n4 428 15 := by rw [m24 _ _ (by omega) (by omega)]; exact rb
    have b74 : n4 432 b = 7 := by rw [m24.cl (by decide)]; exact u2
    -- the class behind its pages
    obtain ⟨me, hme⟩ : ∃ me, me = w_up md 399 8 (o_ln n yP) := ⟨_, rfl⟩
    have c2e : t_c2 m me := c2d.tr (fun i j q1 q2 q3 q4 => by rw [hme]; exact l_up (by omega))
    have Ie : o_I g me n := t_m2.I h c2e (fun _ _ _ _ => rfl)
    have e366m : me 366 13 = ct := by rw [hme, w_up_ne (by decide), hmd, w_up_eq]; exact v1
    have cpages : ∀ X : Int → w_M → Prop, (xc_ta_entry (c + 27) (g.1 b) 1 me (fun r8 m8 => xc_st_isName (c + 27) r8 2 m8 (fun r9 m9 => if r9 = 0 then (xc_ps_fail (c + 27) 376 10 (m9 366 13) m9 (fun r10 m10 => X 0 m10)) else (if (m9 399 8) = 0 then (xc_ps_fail (c + 27) 376 10 (m9 366 13) m9 (fun r11 m11 => X 0 m11)) else (xc_ta_dict (c + 27) (s_up g.1 yP) m9 (fun r12 m12 => if r12 < 0 then (xc_ps_fail (c + 27) 376 10 (m12 366 13) m12 (fun r13 m13 => X 0 m13)) else (xc_tr_visit (c + 27) (m12 399 8) 0 1 m12 (fun r14 m14 => xc_st_entry (c + 27) (g.1 tl) 37 m14 (fun r15 m15 => xc_ta_target (c + 27) r15 m15 (fun r16 m16 => if r15 < 0 then (X 0 (w_up m16 366 14 r16)) else (if r16 = 0 then (xc_ps_fail (c + 27) 376 10 0 (w_up m16 366 14 r16) (fun r17 m17 => X 0 m17)) else (xc_ta_dict (c + 27) r15 (w_up m16 366 14 r16) (fun r18 m18 => if r18 < 0 then (xc_ps_fail (c + 27) 376 10 0 m18 (fun r19 m19 => X 0 m19)) else (X 0 m18)))))))))))))) → xc_tr_read (c + 28) (g.1 tl) m X := fun X hX => croot X (by
      refine cdict _ (fun _ => ?_) (fun w => absurd v2 w)
      refine ctarget _ ?_
      rw [v3, if_neg (by omega), if_neg (by rw [v1]; exact q0), ← hmd]
      refine sp_st_entry (d := c + 24) Id.1 Id.2.1 (by decide) rb u2 ?_
      rw [← hyP]
      refine c_target (d := c + 26) Id nob ?_
      rw [← hme]
      exact hX)
    refine r_tent (d := d + 46) I4 e80.rf t_mtype rb4 b74 (fun n5 e5 _ => ?_)
    have m25 : t_m2 n n5 := m24.tr e5.tm.mm
    have z275 : n5 428 27 = 0 := by rw [e5 _ _ (by omega)]; exact z274
    have e581 : n5 428 81 = ct := by rw [e5 _ _ (by omega)]; exact e481
    have e566 : n5 428 66 = yI := by rw [e5 _ _ (by omega)]; exact e466
    have eT : o_re n4 (s_fd n4 (s_wd 1) (g.2.1 b)) = o_en g n b 1 := m24.en (g := g)
    rw [eT]
    have noT : s_no n (o_en g n b 1) := h.enn rb u2
    have noT4 : s_no n4 (o_en g n b 1) := by unfold s_no at noT ⊢; rw [m24 _ _ (by omega) (by omega)]; exact noT
    have ctype : ∀ X : Int → w_M → Prop, (s_nk n (o_en g n b 1) (s_wd 2) → (if (me 399 8) = 0 then (xc_ps_fail (c + 27) 376 10 (me 366 13) me (fun r11 m11 => X 0 m11)) else (xc_ta_dict (c + 27) (s_up g.1 yP) me (fun r12 m12 => if r12 < 0 then (xc_ps_fail (c + 27) 376 10 (m12 366 13) m12 (fun r13 m13 => X 0 m13)) else (xc_tr_visit (c + 27) (m12 399 8) 0 1 m12 (fun r14 m14 => xc_st_entry (c + 27) (g.1 tl) 37 m14 (fun r15 m15 => xc_ta_target (c + 27) r15 m15 (fun r16 m16 => if r15 < 0 then (X 0 (w_up m16 366 14 r16)) else (if r16 = 0 then (xc_ps_fail (c + 27) 376 10 0 (w_up m16 366 14 r16) (fun r17 m17 => X 0 m17)) else (xc_ta_dict (c + 27) r15 (w_up m16 366 14 r16) (fun r18 m18 => if r18 < 0 then (xc_ps_fail (c + 27) 376 10 0 m18 (fun r19 m19 => X 0 m19)) else (X 0 m18)))))))))))) → (¬ s_nk n (o_en g n b 1) (s_wd 2) → X 0 (t_fl me 10 (me 366 13))) → xc_tr_read (c + 28) (g.1 tl) m X := fun X h1 h0 => cpages X (by
      refine c_tent (d := c + 23) Ie (by decide) rb u2 ?_
      refine c_isName2 (d := c + 24) Ie (by decide) noT (fun w => ?_) (fun w => ?_)
      · rw [if_neg (by decide)]; exact h1 w
      · rw [if_pos rfl]; exact sp_tfl (h0 w))
    refine r_isName2 (d := d + 47) I4 e5 t_mCatalog noT4 (fun wt => ?_) (fun wt => ?_)
    · have wt : s_nk n (o_en g n b 1) (s_wd 2) := m24.nk.mp wt
      rw [if_neg (by decide)]
      refine r_raw2 (d := d + 47) I4 e5 t_mPages rb4 b74 ?_
      rw [s_fd_fr (fun i j q1 q2 => m24 i j (by omega) (by omega)), ← hyP]
      have nob4 : s_no n4 yP := by unfold s_no at nob ⊢; rw [m24 _ _ (by omega) (by omega)]; exact nob
      refine r_dictNumber (d := d + 49) I4 e5 nob4 (fun n6 e6 => ?_)
      rw [m24.dn]
      have m26 : t_m2 n n6 := m24.tr e6.tm.mm
      have z276 : n6 428 27 = 0 := by rw [e6 _ _ (by omega)]; exact z274
      have e681 : n6 428 81 = ct := by rw [e6 _ _ (by omega)]; exact e481
      have e666 : n6 428 66 = yI := by rw [e6 _ _ (by omega)]; exact e466
      have cdP := c_dn Ie nob
      have lP := o_dn_r Ie nob
      have e8 : me 399 8 = o_ln n yP := by rw [hme, w_up_eq]
      have cdictP : ∀ Z : Int → w_M → Prop, (o_isd n yP → Z (g.1 (o_re n yP)) me) → (¬ o_isd n yP → Z (-1) me) → xc_ta_dict (c + 27) (s_up g.1 yP) me Z := fun Z h1 h0 => c_dict (d := c + 23) (Q := Z) Ie nob h1 h0
      by_cases qp : o_dn n yP = 0
      · rw [if_pos qp]
        refine sp_m_fail ?_
        refine fail me _ c2e (m26.tr (fun i j q1 q2 => l_up (by omega))) (by rw [w_up_nb (by decide)]; exact z276) 10 _ 10 (me 366 13) (by decide) (by decide) (fun X hX => ctype X (fun _ => ?_) (fun w => absurd wt w))
        rw [e8]
        refine z_ite (fun _ => sp_tfl hX) (fun wl => ?_)
        refine cdictP _ (fun w2 => ?_) (fun _ => ?_)
        · exact absurd w2 ((cdP.2 qp).resolve_left wl)
        · rw [if_pos (by decide)]
          exact sp_tfl hX
      · rw [if_neg qp]
        obtain ⟨p1, p2, p3⟩ := lP
        obtain ⟨w1, w2, w3, w4, w5⟩ := p3 qp
        obtain ⟨x1, x2, x3⟩ := cdP.1 qp
        obtain ⟨F, hF⟩ : ∃ F, F = o_dn n yP := ⟨_, rfl⟩
        rw [← hF] at w1 w2 w3 qp p1 p2 x1 x3
        rw [← hF]
        have ddF : t_dd n F := ⟨w1, w2, w3⟩
        obtain ⟨n7, hn7⟩ : ∃ n7, n7 = w_up n6 428 83 F := ⟨_, rfl⟩
        rw [← hn7]
        have m27 : t_m2 n n7 := m26.tr (fun i j q1 q2 => by rw [hn7, l_up (by omega)])
        have g41P : ¬ g.1 (o_re n yP) < 0 := by
          have no := o_re_no Ie nob
          have := x2.1
          have := (Ie.1.2.1 _ this (by unfold s_no at no; omega)).1
          omega
        have cvis : ∀ X : Int → w_M → Prop, (xc_tr_visit (c + 27) F 0 1 me (fun r14 m14 => xc_st_entry (c + 27) (g.1 tl) 37 m14 (fun r15 m15 => xc_ta_target (c + 27) r15 m15 (fun r16 m16 => if r15 < 0 then (X 0 (w_up m16 366 14 r16)) else (if r16 = 0 then (xc_ps_fail (c + 27) 376 10 0 (w_up m16 366 14 r16) (fun r17 m17 => X 0 m17)) else (xc_ta_dict (c + 27) r15 (w_up m16 366 14 r16) (fun r18 m18 => if r18 < 0 then (xc_ps_fail (c + 27) 376 10 0 m18 (fun r19 m19 => X 0 m19)) else (X 0 m18)))))))) → xc_tr_read (c + 28) (g.1 tl) m X := fun X hX => ctype X (fun _ => by
          rw [e8, x1, if_neg qp]
          refine cdictP _ (fun _ => ?_) (fun w => absurd x2 w)
          rw [if_neg g41P, e8, x1]
          exact hX) (fun w => absurd wt w)
        refine r_clear (fun n8 f8 z8 => ?_)
        have m28 : t_m2 n n8 := m27.tr (fun i j q1 q2 => f8 i j (by omega))
        apply xr_m_tree_132
        rw [if_neg (by decide)]
        have e883 : n8 428 83 = F := by rw [f8 _ _ (by omega), hn7, w_up_eq]
        obtain ⟨n9, hn9⟩ : ∃ n9, n9 = w_up n8 428 84 0 := ⟨_, rfl⟩
        rw [e883, ← hn9]
        have m29 : t_m2 n n9 := m28.tr (fun i j q1 q2 => by rw [hn9, l_up (by omega)])
        have n9o : ∀ j : Int, j ≠ 84 → j ≠ 83 → n9 428 j = n6 428 j := fun j q1 q2 => by rw [hn9, w_up_nb q1, f8 _ _ (by omega), hn7, w_up_nb q2]
        have z279 : n9 428 27 = 0 := by rw [n9o _ (by decide) (by decide)]; exact z276
        have e984 : n9 428 84 = 0 := by rw [hn9, w_up_eq]
        have e983 : n9 428 83 = F := by rw [hn9, w_up_nb (by decide)]; exact e883
        have z9 : ∀ y, 0 ≤ y → y < 200 → n9 469 y = 0 ∧ n9 470 y = 0 := fun y y0 y1 => by
          rw [hn9, w_up_ne (by decide), w_up_ne (by decide)]
          exact z8 y y0 y1
        have me40 : ∀ i j : Int, 400 ≤ i → me i j = mc i j := fun i j q => by rw [hme, l_up (by omega), hmd, l_up (by omega)]
        have T9 : tr_T g me n9 := by
          refine ⟨t_m2.I h c2e m29, fun x x0 x1 => ?_, ?_, by rw [e984]; decide, fun k k0 k1 => by rw [e984] at k1; omega, z279, ?_⟩
          · rw [me40 _ _ (by decide), me40 _ _ (by decide), (hmc3 x x0 x1).1, (hmc3 x x0 x1).2, (z9 x x0 x1).1, (z9 x x0 x1).2]
            exact ⟨rfl, rfl⟩
          · rw [e984, hme, w_up_nb (by decide), hmd, w_up_ne (by decide)]
            exact hmc4
          · rw [hme, w_up_ne (by decide)]
            exact md6
        have run := s_visit (d := d) (c := c) (g := g) 20 F 0 1 me n9 (by decide) (by decide) T9 (m29.dd.mpr ddF) (Or.inl rfl) (by show t_cm n9 0 0; rfl)
        refine w_C.more (run.deep (by omega)) (fun _ na hV => ?_)
        obtain ⟨rv, ma, va1, va2, va3, va4⟩ := hV
        have mfa : t_m2 n na := m29.tr va3.mm
        have cfa : t_c2 m ma := c2e.tr va2.c2
        have Ia : o_I g ma na := t_m2.I h cfa mfa
        have Ian : o_I g ma n := t_m2.I h cfa (fun _ _ _ _ => rfl)
        have cinfo : ∀ X : Int → w_M → Prop, (if yI < 0 then (X 0 (w_up ma 366 14 (o_ln n yI))) else (if o_ln n yI = 0 then (X 0 (t_fl (w_up ma 366 14 (o_ln n yI)) 10 0)) else (if o_dn n yI = 0 then (X 0 (t_fl (w_up ma 366 14 (o_ln n yI)) 10 0)) else X 0 (w_up ma 366 14 (o_ln n yI))))) → xc_tr_read (c + 28) (g.1 tl) m X := fun X hX => cvis X (by
          refine va1 _ ?_
          refine sp_st_entry (d := c + 24) Ian.1 Ian.2.1 (by decide) tr t7 ?_
          rw [← hyI]
          refine c_target (d := c + 26) Ian noI ?_
          rcases noI with noI | noI
          · rw [if_pos (by omega)] at hX
            rw [s_up_n (by omega), if_pos (by decide)]
            exact hX
          · have g41I := (Ian.1.2.1 _ noI.1 noI.2).1
            rw [if_neg (by omega)] at hX
            rw [s_up_y noI.1, if_neg (by omega)]
            by_cases q1 : o_ln n yI = 0
            · rw [if_pos q1] at hX ⊢
              exact sp_tfl hX
            · rw [if_neg q1] at hX ⊢
              have Ian2 : o_I g (w_up ma 366 14 (o_ln n yI)) n := t_m2.I Ian (fun i j q1 q2 q3 q4 => l_up (by omega)) (fun _ _ _ _ => rfl)
              have cd := c_dict (d := c + 23) (Q := fun r18 m18 => if r18 < 0 then (xc_ps_fail (c + 27) 376 10 0 m18 (fun r19 m19 => X 0 m19)) else (X 0 m18)) Ian2 (Or.inr noI) (fun w => by
                have no := o_re_no Ian (Or.inr noI)
                have := w.1
                have := (Ian.1.2.1 _ this (by unfold s_no at no; omega)).1
                rw [if_neg (by omega)]
                rw [if_neg (fun z => ((o_dn_0 Ian (Or.inr noI)).mp z).elim q1 (fun z2 => z2 w))] at hX
                exact hX) (fun w => by
                rw [if_pos (by decide)]
                rw [if_pos ((o_dn_0 Ian (Or.inr noI)).mpr (Or.inr w))] at hX
                exact sp_tfl hX)
              rw [s_up_y noI.1] at cd
              exact cd)
        obtain ⟨nb, hnb⟩ : ∃ nb, nb = w_up na 428 82 0 := ⟨_, rfl⟩
        rw [← hnb]
        have m2b : t_m2 n nb := mfa.tr (fun i j q1 q2 => by rw [hnb, l_up (by omega)])
        refine r_gd ?_
        have eb27 : nb 428 27 = na 428 27 := by rw [hnb, w_up_nb (by decide)]
        rw [eb27]
        have c2z : t_c2 m (w_up ma 366 14 (o_ln n yI)) := cfa.tr (fun i j q1 q2 q3 q4 => l_up (by omega))
        rcases va4 with ⟨f1, f2, f3⟩ | ⟨Ta, f1, Fa, f2, f3, f4, f5⟩
        · -- the tree is wrong
          rw [if_neg f3, if_pos rfl]
          by_cases q1 : yI < 0
          · exact ⟨_, fun X hX => cinfo X (by rw [if_pos q1]; exact hX), cfa.tr (fun i j q1 q2 q3 q4 => l_up (by omega)), m2b, Or.inl ⟨by rw [w_up_ne (by decide)]; exact f2, f3⟩⟩
          · by_cases q2 : o_ln n yI = 0
            · exact ⟨_, fun X hX => cinfo X (by rw [if_neg q1, if_pos q2]; exact hX), c2z.tr t_fl_cf.c2, m2b, Or.inl ⟨t_fl_ne (by decide), f3⟩⟩
            · by_cases q3 : o_dn n yI = 0
              · exact ⟨_, fun X hX => cinfo X (by rw [if_neg q1, if_neg q2, if_pos q3]; exact hX), c2z.tr t_fl_cf.c2, m2b, Or.inl ⟨t_fl_ne (by decide), f3⟩⟩
              · exact ⟨_, fun X hX => cinfo X (by rw [if_neg q1, if_neg q2, if_neg q3]; exact hX), cfa.tr (fun i j q1 q2 q3 q4 => l_up (by omega)), m2b, Or.inl ⟨by rw [w_up_ne (by decide)]; exact f2, f3⟩⟩
        · -- right
          have a27 : na 428 27 = 0 := Ta.2.2.2.2.2.1
          rw [if_pos a27, if_neg (by decide)]
          have na428 : ∀ j : Int, j ≠ 27 → j ≠ 28 → j ≠ 80 → j ≠ 82 → j ≠ 84 → na 428 j = n9 428 j := fun j q1 q2 q3 q4 q5 => va3 _ _ (by omega) (by omega)
          have ea66 : nb 428 66 = yI := by rw [hnb, w_up_nb (by decide), na428 _ (by decide) (by decide) (by decide) (by decide) (by decide), n9o _ (by decide) (by decide)]; exact e666
          rw [ea66]
          obtain ⟨ta1, ta2, ta3, ta4, ta5, ta6, ta7⟩ := id Ta
          -- the end of it
          have fin : ∀ (nz : w_M) (I : Int), (∀ i j : Int, ¬ (i = 428 ∧ (j = 80 ∨ j = 82)) → nz i j = na i j) → nz 428 82 = I → o_ln n yI = I → (I = 0 ∨ t_dd n I) → t_RT g (w_up ma 366 14 (o_ln n yI)) nz := by
            intro nz I fz v82 hI hd
            have m2z : t_m2 n nz := mfa.tr (fun i j q1 q2 => fz i j (by omega))
            have tmz : t_mf na nz := fun i j q1 q2 => fz i j (by omega)
            have moz : t_mo na nz := fun y _ _ w => ⟨by rw [fz _ _ (by omega)]; exact w, fz _ _ (by omega)⟩
            have hla : na 428 60 ≤ 200 := ta1.2.2.1.1.2
            have c2z : t_c2 m (w_up ma 366 14 (o_ln n yI)) := cfa.tr (fun i j q1 q2 q3 q4 => l_up (by omega))
            have Iz := t_m2.I h c2z m2z
            have z83 : nz 428 83 = F := by rw [fz _ _ (by omega), na428 _ (by decide) (by decide) (by decide) (by decide) (by decide)]; exact e983
            have z81 : nz 428 81 = ct := by rw [fz _ _ (by omega), na428 _ (by decide) (by decide) (by decide) (by decide) (by decide), n9o _ (by decide) (by decide)]; exact e681
            have z84 : nz 428 84 = na 428 84 := fz _ _ (by omega)
            obtain ⟨F1, F2, F3, F4, F5, F6⟩ := Fa
            have dd0 : ∀ q : w_M, ¬ t_dd q 0 := fun q w => by have := w.1.1; omega
            refine ⟨⟨Iz, fun x x0 x1 => ?_, ?_, by rw [z84]; exact ta4, fun k k0 k1 => ?_, by rw [fz _ _ (by omega)]; exact ta6, by rw [w_up_ne (by decide)]; exact ta7⟩, ?_, ?_, ?_, ?_, ?_, ⟨?_, ?_⟩, fun k k0 k1 => ?_, fun i j q1 q2 q3 => ?_, fun y y0 y1 w => ?_⟩
            · rw [w_up_ne (by decide), w_up_ne (by decide), fz _ _ (by omega), fz _ _ (by omega)]; exact ta2 x x0 x1
            · rw [z84, w_up_ne (by decide)]; exact ta3
            · rw [z84] at k1
              rw [w_up_ne (by decide), fz _ _ (by omega)]
              exact ta5 k k0 k1
            · rw [z81, w_up_nb (by decide), va2 _ _ (by omega) (by omega) (by omega)]
              exact e366m
            · rw [w_up_eq, v82]; exact hI
            · rw [z83, w_up_ne (by decide), va2 _ _ (by omega) (by omega) (by omega), e8]; exact x1
            · rw [z81]
              exact m2z.dd.mpr ⟨u1, by rw [← hb]; exact u2, u3⟩
            · rw [v82]
              exact hd.imp id (fun w => m2z.dd.mpr w)
            · rw [z83]
              exact (f5 rfl).fr tmz moz hla
            · rw [z83, fz _ _ (by omega)]
              exact f4
            · rw [z84] at k1
              rw [fz 468 _ (by omega)]
              obtain ⟨a1, a2, a3⟩ := F4 k (by rw [e984]; exact k0) k1
              refine ⟨a2.fr tmz moz hla, ?_⟩
              have ne : na 468 k ≠ F := fun e => by
                have := a2.2.2.2.2.1
                rw [e, f4] at this
                exact dd0 _ this.2.1
              exact (a3 ne).fr tmz (fz _ _ (by omega))
            · rw [z84] at q3
              rw [fz 468 _ (by omega), fz 468 _ (by omega)]
              exact F5 i j (by rw [e984]; exact q1) q2 q3
            · have Na : t_isN g na y := ⟨by rw [← fz 470 y (by omega)]; exact w.1, tmz.dd.mp w.2.1, tmz.ty.mp w.2.2⟩
              exact (F6 y y0 y1 (by rw [(z9 y y0 y1).2]; decide) Na).fr tmz moz hla Na
          by_cases q1 : yI < 0
          · rw [if_pos q1]
            have l0 : o_ln n yI = 0 := by unfold o_ln; rw [o_rs_n q1]
            exact ⟨_, fun X hX => cinfo X (by rw [if_pos q1]; exact hX), c2z, m2b, Or.inr (fin nb 0 (fun i j q => by rw [hnb, l_up (by omega)]) (by rw [hnb, w_up_eq]) l0 (Or.inl rfl))⟩
          · rw [if_neg q1]
            have Ib : o_I g ma nb := t_m2.I h cfa m2b
            have noIb : s_no nb yI := by unfold s_no at noI ⊢; rw [m2b _ _ (by omega) (by omega)]; exact noI
            refine r_dictNumber (d := d + 49) Ib e80.rf noIb (fun nc ec => ?_)
            rw [m2b.dn]
            have m2c : t_m2 n nc := m2b.tr ec.tm.mm
            have c27 : nc 428 27 = 0 := by rw [ec _ _ (by omega), eb27]; exact a27
            by_cases q3 : o_dn n yI = 0
            · rw [if_pos q3]
              refine sp_m_fail ?_
              have m2d : t_m2 n (m_fl (w_up nc 428 82 (o_dn n yI)) 10 0) := have t0 : t_m2 nc (w_up nc 428 82 (o_dn n yI)) := fun i j q1 q2 => l_up (by omega); (m2c.tr t0).tr t_mfl.mm
              have nz27 : (m_fl (w_up nc 428 82 (o_dn n yI)) 10 0) 428 27 ≠ 0 := m_fl_ne (by rw [w_up_nb (by decide)]; exact c27) (by decide)
              refine ⟨_, fun X hX => cinfo X ?_, (c2z.tr t_fl_cf.c2 : t_c2 m (t_fl (w_up ma 366 14 (o_ln n yI)) 10 0)), m2d, Or.inl ⟨t_fl_ne (by decide), nz27⟩⟩
              rw [if_neg q1, if_pos q3]
              exact z_ite (fun _ => hX) (fun _ => hX)
            · rw [if_neg q3]
              obtain ⟨g1, g2, g3⟩ := (c_dn Ian noI).1 q3
              obtain ⟨h1, h2, h3, h4, h5⟩ := (o_dn_r Ian noI).2.2 q3
              refine ⟨_, fun X hX => cinfo X ?_, c2z, m2c.tr (fun i j q1 q2 => l_up (by omega)), Or.inr (fin _ (o_dn n yI) (fun i j q => ?_) w_up_eq g1 (Or.inr ⟨h1, h2, h3⟩))⟩
              · rw [if_neg q1, if_neg (by rw [g1]; exact q3), if_neg q3]
                exact hX
              · rw [l_up (by omega), ec i j (by omega), hnb, l_up (by omega)]
    · have wt : ¬ s_nk n (o_en g n b 1) (s_wd 2) := fun w => wt (m24.nk.mpr w)
      rw [if_pos rfl]
      refine sp_m_fail ?_
      exact fail me n5 c2e m25 z275 10 _ 10 (me 366 13) (by decide) (by decide) (fun X hX => ctype X (fun w => absurd w wt) (fun _ => hX))
end OF
