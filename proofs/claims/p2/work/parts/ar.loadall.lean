/-! ===== LOAD, both sides ===== -/
/-- what a load leaves: a document, or none -/
def d_post (m m1 n n1 : w_M) (r r' : Int) (W : Int → Int) (L : Int) : Prop :=
  d_xf m m1 ∧ d_nf n n1 ∧ e_xv m1 ∧ d_rv n1 ∧
  ((m1 357 14 = 0 ∧ n1 428 6 = 0 ∧ m1 357 15 ≠ 0 ∧ n1 428 68 ≠ 0 ∧ r = w_32 (-100 - m1 357 15) ∧ r' = w_32 (-100 - n1 428 68) ∧ n1 428 84 = 0) ∨
   (m1 357 14 = 1 ∧ n1 428 6 = 1 ∧ m1 357 15 = 0 ∧ n1 428 68 = 0 ∧ m1 357 16 = -1 ∧ n1 428 69 = -1 ∧ r = r' ∧ ∃ g, d_ld g m1 n1 W L))
section LF
variable {d c e : Nat} {g g' : s_g} {m m' m0 m1 m2 n n' n0 n1 n2 : w_M} {Q R : Int → w_M → Prop} {W : Int → Int} {L C k x y z i j a b f p v r : Int}
/-- less stands still than t_RT wants: its cells alone -/
theorem t_RT.fw (h : t_RT g m n) (hl : n 428 60 ≤ 200) (hw : t_mw n n1) (hk : ∀ i j : Int, 468 ≤ i → i ≤ 470 → n1 i j = n i j) (h27 : n1 428 27 = n 428 27) (h8 : ∀ j : Int, 81 ≤ j → j ≤ 84 → n1 428 j = n 428 j)
    (hm : ∀ i j : Int, ¬ (i = 357) → m1 i j = m i j) : t_RT g m1 n1 := by
  obtain ⟨⟨a1, a2, a3, a4, a5, a6, a7⟩, b1, b2, b3, b4, b5, ⟨c1, c2⟩, c3, c4, c5⟩ := h
  have mo : t_mo n n1 := fun y _ _ w => ⟨by rw [hk 470 y (by decide) (by decide)]; exact w, hk 469 y (by decide) (by decide)⟩
  have ks : ∀ j, n1 468 j = n 468 j := fun j => hk 468 j (by decide) (by decide)
  have mo' : t_mo n1 n := fun y _ _ w => ⟨by rw [hk 470 y (by decide) (by decide)] at w; exact w, (hk 469 y (by decide) (by decide)).symm⟩
  have hw' : t_mw n1 n := fun i j q1 q2 => (hw i j q1 q2).symm
  have h60 : n1 428 60 = n 428 60 := hw 428 60 (by omega) (by omega)
  refine ⟨⟨a1.fr (fun i j q1 q2 q3 => hm i j (by omega)) (hm _ _ (by decide)) (hm _ _ (by decide)) (fun i j q1 q2 => hw i j (by omega) (by omega)) (fun j q => hw 428 j (by omega) (by omega)), fun x q1 q2 => ?_, by rw [hm _ _ (by decide), h8 84 (by decide) (by decide)]; exact a3, by rw [h8 84 (by decide) (by decide)]; exact a4, fun k q1 q2 => ?_, by rw [h27]; exact a6, by rw [hm _ _ (by decide)]; exact a7⟩,
    by rw [hm _ _ (by decide), h8 81 (by decide) (by decide)]; exact b1, by rw [hm _ _ (by decide), h8 82 (by decide) (by decide)]; exact b2, by rw [hm _ _ (by decide), h8 83 (by decide) (by decide)]; exact b3, by rw [h8 81 (by decide) (by decide), hw.dd]; exact b4, ?_, ⟨?_, ?_⟩, fun k q1 q2 => ?_, fun i j q1 q2 q3 => ?_, fun y q1 q2 w => ?_⟩
  · rw [hm _ _ (by decide), hm _ _ (by decide), hk 469 x (by decide) (by decide), hk 470 x (by decide) (by decide)]
    exact a2 x q1 q2
  · rw [hm _ _ (by decide), ks]
    rw [h8 84 (by decide) (by decide)] at q2
    exact a5 k q1 q2
  · rw [h8 82 (by decide) (by decide), hw.dd]
    exact b5
  · rw [h8 83 (by decide) (by decide)]
    exact c1.fw hw mo hl
  · rw [h8 83 (by decide) (by decide), hk 469 _ (by decide) (by decide)]
    exact c2
  · rw [h8 84 (by decide) (by decide)] at q2
    rw [ks]
    obtain ⟨e1, e2⟩ := c3 k q1 q2
    exact ⟨e1.fw hw mo hl, e2.fw hw (hk 469 _ (by decide) (by decide))⟩
  · rw [h8 84 (by decide) (by decide)] at q3
    rw [ks, ks]
    exact c4 i j q1 q2 q3
  · have w' : t_isN g n y := w.fw hw' mo' (by omega)
    exact t_nd.fw hw mo hl w' (c5 y q1 q2 w')
/-- the table closed: a run of its own -/
theorem s_closed (h : e_Y g m n W L) (hj : 1 ≤ n 428 61) : xc_ta_close (d + 5) (n 428 60) m (fun r m' => r = 0 ∧ e_cl m m' ∧ e_ln g m' n W L) := by
  obtain ⟨X, y0, y1, y2, y3, y4, y5, yz⟩ := id h
  obtain ⟨⟨s0, s1⟩, nu, tl⟩ := y5 (by omega)
  obtain ⟨t1, t2, t3, t4, t5, t6⟩ := id tl
  refine sp_ta_close (d := d + 4) ⟨s0, s1⟩ (fun m' f e1 e2 ek => ?_)
  have fb : ∀ i j : Int, ¬ (366 ≤ i ∧ i ≤ 367) → m' i j = m i j := fun i j q => f i j (by omega) (by omega)
  refine ⟨rfl, f, ?_, y0, ⟨s0, s1⟩, e1, e2, fun k k0 k1 => ?_, fun k k0 k1 => ?_, yz, ?_⟩
  · obtain ⟨x1, x2, ⟨p, x3⟩, x4, x5, x6, x7, x8, x9, x10⟩ := X
    refine ⟨x1.sm2 (fun i j q => fb i j (by omega)), x2.sm2 (fun i j q => fb i j (by omega)), ⟨p, e_J_same x3 (fun j => fb _ _ (by omega)) (fun j => fb _ _ (by omega))⟩, by rw [fb _ _ (by omega)]; exact x4, by rw [fb _ _ (by omega)]; exact x5, by rw [fb _ _ (by omega)]; exact x6, x7, x8, ?_, ?_⟩
    · unfold s_ct at x9 ⊢
      rw [fb _ _ (by omega), fb _ _ (by omega)]
      exact x9
    · rw [fb _ _ (by omega), fb _ _ (by omega)]
      exact x10
  · have e68 := f 368 k (by decide) (by omega)
    have e69 := f 369 k (by decide) (by omega)
    have e67 := ek k (by omega) (by omega)
    unfold e_kn
    rw [e68, e69, e67]
    rcases nu k k0 k1 with ⟨a1, a2, a3⟩ | ⟨a1, a2⟩
    · refine Or.inl ⟨a2, ?_⟩
      rw [if_neg (fun z => z.2 a3)]
    · obtain ⟨b1, b2, b3, b4⟩ := id a2
      rw [if_pos ⟨k1, by omega⟩]
      by_cases z : n 451 k = 0
      · exact Or.inl ⟨z, by omega⟩
      · exact Or.inr ⟨by omega, a2⟩
  · rw [ek k (by omega) k1, if_neg (by omega)]
  · obtain ⟨a1, a2, a3, a4, a5, a6, a7, a8, a9, b1, b2, b3⟩ := tl
    refine ⟨a1, a2, a3, by rw [fb _ _ (by omega)]; exact a4, a5, a6, a7, by rw [fb _ _ (by omega)]; exact a8, a9, by rw [fb _ _ (by omega), fb _ _ (by omega)]; exact b1, by rw [fb _ _ (by omega)]; exact b2, ?_⟩
    rw [fb _ _ (by omega), fb _ _ (by omega)]
    obtain ⟨⟨r1, r2⟩, r3⟩ := b3
    exact ⟨⟨r1, fun c q1 q2 => by rw [fb _ _ (by omega)]; exact r2 c q1 q2⟩, r3⟩
theorem s_close84 (h : e_Y g m n W L) (hj : 1 ≤ n 428 61) (H : xc_ta_close (d + 5) (n 428 60) m (fun _ m2 => xp_x_load_138 (d + 5) (m 359 6) 1 0 m2 Q)) : xp_x_load_84 (d + 5) m Q := by
  obtain ⟨X, y0, y1, y2, y3, y4, y5, yz⟩ := id h
  obtain ⟨⟨s0, s1⟩, nu, tl⟩ := y5 (by omega)
  obtain ⟨t1, t2, t3, t4, t5, t6⟩ := id tl
  apply xr_x_load_84
  rw [if_pos X.2.2.2.2.2.1, t4]
  refine sp_wholeEntry (d := d + 1) X.1 X.2.1 (by decide) ⟨t1, t2⟩ t3 ?_
  rw [t5, show max (-1) (n 428 60) = n 428 60 by omega]
  exact H
/-- objects, where less stands still of the class -/
theorem o_I.fw (h : o_I g m n) (hm : ∀ i j : Int, ¬ (i = 359 ∧ (j = 6 ∨ j = 7)) → (359 ≤ i ∧ i ≤ 375) → ¬ (i = 373 ∨ i = 374) → ¬ (i = 366 ∧ j ≠ 10 ∧ j ≠ 11) → m' i j = m i j) (h6 : m' 359 6 = m 359 6) (h7 : m' 359 7 = m 359 7)
    (hn : ∀ i j : Int, 432 ≤ i → i ≤ 459 → n' i j = n i j) (h428 : ∀ j : Int, j = 15 ∨ j = 17 ∨ j = 34 ∨ j = 60 ∨ j = 67 → n' 428 j = n 428 j) : o_I g m' n' := by
  obtain ⟨i1, i2, i3, i4, i5⟩ := h
  have cf : s_cf m m' := ⟨by omega, by omega, fun a b q1 q2 _ _ => hm a b (by omega) (by omega) (by omega) (by omega), fun b _ => hm 365 b (by omega) (by omega) (by omega) (by omega)⟩
  have mf : s_mf n n' := ⟨by rw [h428 15 (by omega)]; exact Int.le_refl _, by rw [h428 17 (by omega)]; exact Int.le_refl _, fun a b q1 q2 _ _ => hn a b (by omega) (by omega), fun b _ => hn 440 b (by decide) (by decide)⟩
  refine ⟨i1.go cf mf h6 h7 (h428 _ (by omega)) (h428 _ (by omega)), i2.fr cf i1.1, ?_, ?_, fun k q1 q2 => ?_⟩
  · rw [h428 60 (by omega), hm 366 11 (by omega) (by omega) (by omega) (by omega)]
    exact i3
  · unfold l_dt at i4 ⊢
    rw [h428 67 (by omega), h428 34 (by omega), hm 366 10 (by omega) (by omega) (by omega) (by omega)]
    exact ⟨i4.1, i4.2.1, i4.2.2.1, fun i z1 z2 => by rw [hm 375 i (by omega) (by omega) (by omega) (by omega), hn 441 i (by decide) (by decide)]; exact i4.2.2.2 i z1 z2⟩
  · have := i5 k q1 q2
    unfold o_k o_gn l_sm at this ⊢
    rw [h428 60 (by omega), h428 15 (by omega), h428 34 (by omega), hm 367 k (by omega) (by omega) (by omega) (by omega), hm 369 k (by omega) (by omega) (by omega) (by omega), hm 370 k (by omega) (by omega) (by omega) (by omega), hm 371 k (by omega) (by omega) (by omega) (by omega), hm 372 k (by omega) (by omega) (by omega) (by omega), hn 432 _ (by decide) (by decide), hn 451 k (by decide) (by decide), hn 453 k (by decide) (by decide), hn 455 k (by decide) (by decide), hn 457 k (by decide) (by decide), hn 458 k (by decide) (by decide), hn 459 k (by decide) (by decide)]
    exact this
theorem s_load (hm : w_nm (w_G0 sC) m) (hn : w_nm (w_G0 sM) n) (hok : v_ok W L) (hL : L ≤ 8000) (hT : m 357 1 = L) (hTn : n 428 1 = L) (hWc : ∀ i, 0 ≤ i → i < L → m 358 i % 256 = W i) (hWn : ∀ i, 0 ≤ i → i < L → n 429 i % 256 = W i)
    (h8 : m 359 8 = 41) (hkw : s_kw m) : xc_m_load (e + 465) n (fun r' n1 => ∃ r m1, (∀ X : Int → w_M → Prop, X r m1 → xc_x_load (e + 463) m X) ∧ d_post m m1 n n1 r r' W L) := by
  refine s_load1 (d := e + 402) hm hn hok hL hT hTn hWc hWn h8 hkw (fun n0 n1 m1 o1 o2 nm1 xf xv hz hr key => ?_)
  obtain ⟨nz, z1, z2, z3⟩ := hz
  obtain ⟨v1, v6, v88, v104, v15, v17, v34, v67, v29, v30, v31, v32, v27, v28, v84⟩ := o2
  -- the reference's values up to here
  have val : ∀ j : Int, j = 1 ∨ j = 6 ∨ j = 34 ∨ j = 67 ∨ j = 84 ∨ j = 88 ∨ j = 104 → n1 428 j = n0 428 j := fun j q => by
    rw [z3 428 j (by omega) (by omega) (by omega), z1 428 j (by omega) (by omega)]
  have nf1 : d_nf n n1 := fun i j q1 q2 q3 => by
    rw [z3 i j (by omega) (by omega) (by omega), z1 i j (by omega) (by omega), o1 i j q2 (by omega)]
  rcases hr with ⟨f1, f2⟩ | ⟨⟨ga, hY, hj⟩, xb⟩
  · -- the sections fail
    refine r_lfail (d := e + 463) f2 (fun n2 p1 p2 p3 p4 p5 p6 => ?_)
    obtain ⟨m2, hm2⟩ : ∃ m2, m2 = w_up (w_up (w_up m1 357 15 (m1 376 6)) 357 14 0) 357 16 (m1 376 7) := ⟨_, rfl⟩
    have fm : ∀ i j : Int, ¬ (i = 357 ∧ 14 ≤ j ∧ j ≤ 16) → m2 i j = m1 i j := fun i j q => by
      rw [hm2]
      unfold w_up
      rw [if_neg (by omega), if_neg (by omega), if_neg (by omega)]
    have e15 : m2 357 15 = m1 376 6 := by rw [hm2, w_up_nb (by decide), w_up_nb (by decide), w_up_eq]
    have e14 : m2 357 14 = 0 := by rw [hm2, w_up_nb (by decide), w_up_eq]
    refine ⟨w_32 (-100 - m1 376 6), m2, fun X hX => key X ?_, fun i j q1 q2 q3 q4 q5 q6 q7 q8 q9 q10 => ?_, fun i j q1 q2 q3 => ?_, ?_, ⟨?_, ?_, ?_, p4, p5⟩, Or.inl ⟨e14, ?_, ?_, ?_, ?_, ?_, p6⟩⟩
    · apply xr_x_load_84
      rw [if_neg f1]
      apply xr_x_load_138
      rw [if_pos (by decide), if_pos rfl]
      refine c_229f f1 ?_
      rw [← hm2]
      exact hX
    · rw [fm i j (by omega)]
      exact xf i j (by omega) q2 q3 q4 q5 (by omega) (by omega) q7 (by omega)
    · rw [p1 i j (by omega)]
      exact nf1 i j q1 q2 q3
    · obtain ⟨u1, u2, u3, u4, u5⟩ := xv
      exact ⟨by rw [fm _ _ (by decide)]; exact u1, by rw [fm _ _ (by decide)]; exact u2, by rw [fm _ _ (by decide)]; exact u3, by rw [fm _ _ (by decide)]; exact u4, by rw [fm _ _ (by decide)]; exact u5⟩
    · rw [p1 _ _ (by decide), val 1 (by decide)]; exact v1
    · rw [p1 _ _ (by decide), val 88 (by decide)]; exact v88
    · rw [p1 _ _ (by decide), val 104 (by decide)]; exact v104
    · rw [p1 _ _ (by decide), val 6 (by decide)]; exact v6
    · rw [e15]; exact f1
    · rw [p2]; exact f2
    · rw [e15]
    · rw [p2]
  · -- the sections stand
    obtain ⟨X0, y0, y1, y2, y3, y4, y5, yz⟩ := id hY
    have rc := s_closed (d := e + 457) hY hj
    obtain ⟨r0, mc, k1, nmc, rfl, ec, hln⟩ := r_get rc nm1 (l_nsr (by decide) (l_nsi (by have := (y5 (by omega)).1; omega) l_ns0))
    have xbc : e_xb mc L := by
      obtain ⟨b1, b2, b3, b4⟩ := xb
      refine ⟨by rw [ec _ _ (by decide) (by decide)]; exact b1, by rw [ec _ _ (by decide) (by decide)]; exact b2, by rw [ec _ _ (by decide) (by decide)]; exact b3, fun k q1 q2 => ?_⟩
      rw [ec 370 k (by decide) (by omega), ec 371 k (by decide) (by omega), ec 372 k (by decide) (by omega), ec 373 k (by decide) (by omega), ec 374 k (by decide) (by omega)]
      exact b4 k q1 q2
    obtain ⟨I0, zz, mins⟩ := l_I.of hln xbc (fun k q1 q2 => by
      have := z2.2.2 k q1 q2
      rw [z3 455 k (by omega) (by omega) (by omega), z3 456 k (by omega) (by omega) (by omega), z3 457 k (by omega) (by omega) (by omega)]
      exact ⟨this.2.2.1, this.2.2.2.1, this.2.2.2.2.1⟩) ⟨by rw [val 34 (by decide)]; exact v34, by rw [val 67 (by decide)]; exact v67⟩
    have key2 : ∀ X, xp_x_load_138 (e + 462) (mc 359 6) 1 0 mc X → xc_x_load (e + 463) m X := fun X hX => key X (s_close84 (d := e + 457) hY hj (w_C.to k1 (by
      have e6 : mc 359 6 = m1 359 6 := ec _ _ (by decide) (by decide)
      have := hX
      rw [e6] at this
      exact this)))
    have n60 := I0.2.2.2.2.2.2.2.2.1.1
    -- a load that fails behind the sections
    have bad : ∀ mz nz : w_M, d_xf m mz → d_nf n nz → e_xv mz → (nz 428 1 = 0 ∧ nz 428 88 = -1 ∧ nz 428 104 = 0 ∧ nz 428 6 = 0) → mz 376 6 ≠ 0 → nz 428 27 ≠ 0 → (∀ X : Int → w_M → Prop, X (w_32 (-100 - mz 376 6)) (w_up (w_up (w_up mz 357 15 (mz 376 6)) 357 14 0) 357 16 (mz 376 7)) → xc_x_load (e + 463) m X) →
        xp_m_load_173 (e + 464) nz (fun r' n1 => ∃ r m1, (∀ X : Int → w_M → Prop, X r m1 → xc_x_load (e + 463) m X) ∧ d_post m m1 n n1 r r' W L) := fun mz nz dx dn ev ⟨w1, w2, w3, w4⟩ f1 f2 run => by
      refine r_173f (d := e + 463) f2 (fun n2 p1 p2 p3 p4 p5 p6 => ?_)
      obtain ⟨m2, hm2⟩ : ∃ m2, m2 = w_up (w_up (w_up mz 357 15 (mz 376 6)) 357 14 0) 357 16 (mz 376 7) := ⟨_, rfl⟩
      have fm : ∀ i j : Int, ¬ (i = 357 ∧ 14 ≤ j ∧ j ≤ 16) → m2 i j = mz i j := fun i j q => by
        rw [hm2]
        unfold w_up
        rw [if_neg (by omega), if_neg (by omega), if_neg (by omega)]
      have e15 : m2 357 15 = mz 376 6 := by rw [hm2, w_up_nb (by decide), w_up_nb (by decide), w_up_eq]
      have e14 : m2 357 14 = 0 := by rw [hm2, w_up_nb (by decide), w_up_eq]
      refine ⟨w_32 (-100 - mz 376 6), m2, fun X hX => run X (by rw [← hm2]; exact hX), fun i j q1 q2 q3 q4 q5 q6 q7 q8 q9 q10 => ?_, fun i j q1 q2 q3 => ?_, ?_, ⟨?_, ?_, ?_, p4, p5⟩, Or.inl ⟨e14, ?_, ?_, ?_, ?_, ?_, p6⟩⟩
      · rw [fm i j (by omega)]
        exact dx i j q1 q2 q3 q4 q5 q6 q7 q8 q9 q10
      · rw [p1 i j (by omega)]
        exact dn i j q1 q2 q3
      · obtain ⟨u1, u2, u3, u4, u5⟩ := ev
        exact ⟨by rw [fm _ _ (by decide)]; exact u1, by rw [fm _ _ (by decide)]; exact u2, by rw [fm _ _ (by decide)]; exact u3, by rw [fm _ _ (by decide)]; exact u4, by rw [fm _ _ (by decide)]; exact u5⟩
      · rw [p1 _ _ (by decide)]; exact w1
      · rw [p1 _ _ (by decide)]; exact w2
      · rw [p1 _ _ (by decide)]; exact w3
      · rw [p1 _ _ (by decide)]; exact w4
      · rw [e15]; exact f1
      · rw [p2]; exact f2
      · rw [e15]
      · rw [p2]
    -- frames from the loader's end back to the beginning
    have dxl : ∀ m', l_c mc m' → d_xf m m' := fun m' f i j q1 q2 q3 q4 q5 q6 q7 q8 q9 q10 => by
      rw [f i j q3 q4 q5 (by omega) (by omega) (by omega) (by omega) (by omega), ec i j (by omega) (by omega)]
      exact xf i j (by omega) q2 q3 q4 q5 (by omega) (by omega) q7 (by omega)
    have dnl : ∀ n', l_n n1 n' → d_nf n n' := fun n' f i j q1 q2 q3 => by
      rw [f i j (by omega) (by omega) (by omega)]
      exact nf1 i j q1 q2 q3
    have xvl : ∀ m', l_c mc m' → e_xv m' := fun m' f => by
      have e : ∀ i j : Int, i = 357 ∨ i = 404 → m' i j = m1 i j := fun i j q => by
        rw [f i j (by omega) (by omega) (by omega) (by omega) (by omega) (by omega) (by omega) (by omega), ec i j (by omega) (by omega)]
      obtain ⟨u1, u2, u3, u4, u5⟩ := xv
      exact ⟨by rw [e _ _ (by decide)]; exact u1, by rw [e _ _ (by decide)]; exact u2, by rw [e _ _ (by decide)]; exact u3, by rw [e _ _ (by decide)]; exact u4, by rw [e _ _ (by decide)]; exact u5⟩
    have vl : ∀ n', l_n n1 n' → n' 428 1 = 0 ∧ n' 428 88 = -1 ∧ n' 428 104 = 0 ∧ n' 428 6 = 0 := fun n' f => by
      rw [f 428 1 (by omega) (by omega) (by omega), f 428 88 (by omega) (by omega) (by omega), f 428 104 (by omega) (by omega) (by omega), f 428 6 (by omega) (by omega) (by omega), val 1 (by decide), val 88 (by decide), val 104 (by decide), val 6 (by decide)]
      exact ⟨v1, v88, v104, v6⟩
    refine s_all (c := e + 402) (e := e) (l2 := mc 359 6) (W := W) (L := L) (C := mc 359 6) (n1 428 60).toNat 0 ga mc n1 0 (by omega) (Int.le_refl _) I0 nmc zz mins (Int.le_refl _) (by have := l_uc_le n1 199; unfold l_un; omega) ?_ ?_
    · intro n' m' f1 f2 f3 f4 f5 f6
      refine bad m' n' (dxl m' f3) (dnl n' f1) (xvl m' f3) (vl n' f1) f5 f2 (fun X hX => key2 X (f6 X ?_))
      exact c_229f f5 hX
    · intro g n' m' f1 f3 f4 I z9 hall f8
      have oI := o_I.of I hall
      have bd := oI.1.1
      unfold s_bd at bd
      obtain ⟨i1, i2, i3, i4, i5, i6, i7, i8, i9, i10, i11, i12, i13, i14, i15⟩ := id I
      obtain ⟨t1, t2, t3, t4, t5, t6, t7, t8, t9, t10, t11, t12, t13, t14⟩ := id i11
      obtain ⟨mn, hmn⟩ : ∃ mn, mn = l_nam (l_nam m' (m' 391 8) (m' 391 9)) (mc 359 6) (m' 359 6) := ⟨_, rfl⟩
      have fmn : ∀ i j : Int, i ≠ 374 → mn i j = m' i j := fun i j q => by rw [hmn, l_nam_o q, l_nam_o q]
      have oN : o_I g mn n' := oI.fw (fun i j q1 q2 q3 q4 => fmn i j (by omega)) (fmn _ _ (by decide)) (fmn _ _ (by decide)) (fun _ _ _ _ => rfl) (fun _ _ => rfl)
      have s := s_tree (d := e + 410) (c := e + 434) oN ⟨⟨t1, t2⟩, t3⟩ (by rw [fmn _ _ (by decide)]; exact i4.2) i6
      refine w_C.more s (fun _ n3 hn3 => ?_)
      obtain ⟨m3, run, c3, x3, fin⟩ := hn3
      -- the class: names, then the tree
      have run2 : ∀ X : Int → w_M → Prop, (if m3 376 6 = 0 then xp_x_load_313 (e + 462) 1 (w_up m3 357 15 (m3 376 6)) X else xp_x_load_313 (e + 462) 0 (w_up m3 357 15 (m3 376 6)) X) → xc_x_load (e + 463) m X := fun X hX => key2 X (f8 X (by
        refine c_229 (d := e + 460) i4.2 t11 ?_ t10 bd.2.2.2.1 ⟨by have := i14.1; omega, i14.2.1⟩ ?_
        · have w1 := (t12.1 (n' 428 64) (Int.le_refl _) t13).1
          have w2 := (t14 (n' 428 64) (Int.le_refl _) t13).1
          omega
        · rw [← hmn, t4]
          exact run _ hX))
      have fin3 : ∀ i j : Int, ¬ (i = 428 ∧ (j = 27 ∨ j = 28 ∨ j = 65 ∨ j = 66 ∨ (80 ≤ j ∧ j ≤ 84))) → ¬ (468 ≤ i ∧ i ≤ 470) → n3 i j = n' i j := x3
      have fim3 : ∀ i j : Int, i ≠ 374 → ¬ (i = 376 ∧ (j = 6 ∨ j = 7)) → ¬ (i = 399 ∧ (j = 7 ∨ j = 8)) → ¬ (400 ≤ i ∧ i ≤ 402) → ¬ (i = 366 ∧ (j = 13 ∨ j = 14)) → m3 i j = m' i j := fun i j q0 q1 q2 q3 q4 => by rw [c3 i j q1 q2 q3 q4, fmn i j q0]
      have dx3 : d_xf m m3 := fun i j q1 q2 q3 q4 q5 q6 q7 q8 q9 q10 => by
        rw [fim3 i j (by omega) (by omega) q9 q10 (by omega)]
        exact dxl m' f3 i j q1 q2 q3 q4 q5 q6 q7 q8 q9 q10
      have xv3 : e_xv m3 := by
        obtain ⟨u1, u2, u3, u4, u5⟩ := xvl m' f3
        have e : ∀ i j : Int, i = 357 ∨ i = 404 → m3 i j = m' i j := fun i j q => fim3 i j (by omega) (by omega) (by omega) (by omega) (by omega)
        exact ⟨by rw [e _ _ (by decide)]; exact u1, by rw [e _ _ (by decide)]; exact u2, by rw [e _ _ (by decide)]; exact u3, by rw [e _ _ (by decide)]; exact u4, by rw [e _ _ (by decide)]; exact u5⟩
      have dn3 : d_nf n n3 := fun i j q1 q2 q3 => by
        rw [fin3 i j (by omega) (by omega)]
        exact dnl n' f1 i j q1 q2 q3
      have vl3 : n3 428 1 = 0 ∧ n3 428 88 = -1 ∧ n3 428 104 = 0 ∧ n3 428 6 = 0 := by
        rw [fin3 428 1 (by omega) (by omega), fin3 428 88 (by omega) (by omega), fin3 428 104 (by omega) (by omega), fin3 428 6 (by omega) (by omega)]
        exact vl n' f1
      rcases fin with ⟨u1, u2⟩ | RT
      · refine bad m3 n3 dx3 dn3 xv3 vl3 u1 u2 (fun X hX => run2 X ?_)
        rw [if_neg u1]
        refine c_313f ?_
        rw [w_up_eq, w_up_ne (by decide)]
        exact hX
      · have h60 : n3 428 60 = n' 428 60 := fin3 428 60 (by omega) (by omega)
        have u27 : n3 428 27 = 0 := RT.1.2.2.2.2.2.1
        have u6 : m3 376 6 = 0 := RT.1.2.2.2.2.2.2
        refine r_173 (d := e + 463) u27 (fun n4 p1 p2 p3 p4 p5 => ?_)
        have RT4 : t_RT g m3 n4 := RT.fw (by omega) (fun i j q1 q2 => p1 i j (by omega)) (fun i j q1 q2 => p1 i j (by omega)) (p1 _ _ (by decide)) (fun j q1 q2 => p1 428 j (by omega)) (fun _ _ _ => rfl)
        have f4n : ∀ i j : Int, ¬ (i = 428 ∧ (j = 27 ∨ j = 28 ∨ j = 65 ∨ j = 66 ∨ (68 ≤ j ∧ j ≤ 71) ∨ (80 ≤ j ∧ j ≤ 84))) → ¬ (468 ≤ i ∧ i ≤ 470) → n4 i j = n' i j := fun i j q1 q2 => by rw [p1 i j (by omega), fin3 i j (by omega) q2]
        have nt4 : l_nt g n4 := (l_nt.of I hall).fr (f4n _ _ (by decide) (by decide)) (f4n _ _ (by decide) (by decide)) (f4n _ _ (by decide) (by decide)) (fun b => f4n _ _ (by omega) (by omega)) (fun b => f4n _ _ (by omega) (by omega)) (fun b => f4n _ _ (by omega) (by omega))
        refine r_names (d := e + 442) RT4.1.1.1 nt4 (by rw [p1 428 60 (by decide)]; omega) (fun n5 s1 s2 s3 => ?_)
        obtain ⟨mF, hmF⟩ : ∃ mF, mF = w_up (w_up (w_up m3 357 15 (m3 376 6)) 357 14 1) 357 16 (-1) := ⟨_, rfl⟩
        have fF : ∀ i j : Int, ¬ (i = 357 ∧ 14 ≤ j ∧ j ≤ 16) → mF i j = m3 i j := fun i j q => by
          rw [hmF]
          unfold w_up
          rw [if_neg (by omega), if_neg (by omega), if_neg (by omega)]
        have gF : ∀ i j : Int, ¬ (i = 357 ∧ 14 ≤ j ∧ j ≤ 16) → i ≠ 374 → ¬ (i = 376 ∧ (j = 6 ∨ j = 7)) → ¬ (i = 399 ∧ (j = 7 ∨ j = 8)) → ¬ (400 ≤ i ∧ i ≤ 402) → ¬ (i = 366 ∧ (j = 13 ∨ j = 14)) → mF i j = m' i j := fun i j q1 q2 q3 q4 q5 q6 => by rw [fF i j q1, fim3 i j q2 q3 q4 q5 q6]
        have gN : ∀ i j : Int, ¬ (i = 428 ∧ (j = 6 ∨ j = 27 ∨ j = 28 ∨ j = 65 ∨ j = 66 ∨ (68 ≤ j ∧ j ≤ 71) ∨ (80 ≤ j ∧ j ≤ 84))) → ¬ (468 ≤ i ∧ i ≤ 470) → ¬ (i = 461 ∨ i = 462) → n5 i j = n' i j := fun i j q1 q2 q3 => by rw [s1 i j (by omega) (by omega) (by omega), f4n i j (by omega) q2]
        have e15 : mF 357 15 = 0 := by rw [hmF, w_up_nb (by decide), w_up_nb (by decide), w_up_eq]; exact u6
        have e14 : mF 357 14 = 1 := by rw [hmF, w_up_nb (by decide), w_up_eq]
        have e16 : mF 357 16 = -1 := by rw [hmF, w_up_eq]
        have RT5 : t_RT g mF n5 := RT.fw (by omega) (fun i j q1 q2 => by rw [s1 i j (by omega) (by omega) (by omega), p1 i j (by omega)]) (fun i j q1 q2 => by rw [s1 i j (by omega) (by omega) (by omega), p1 i j (by omega)]) (by rw [s1 _ _ (by decide) (by decide) (by decide), p1 _ _ (by decide)]) (fun j q1 q2 => by rw [s1 428 j (by omega) (by omega) (by omega), p1 428 j (by omega)]) (fun i j q => fF i j (by omega))
        have cN : ∀ i j : Int, ¬ (i = 428 ∧ (j = 6 ∨ (15 ≤ j ∧ j ≤ 29) ∨ j = 31 ∨ j = 34 ∨ (37 ≤ j ∧ j ≤ 40) ∨ (65 ≤ j ∧ j ≤ 71) ∨ (77 ≤ j ∧ j ≤ 84))) → ¬ (432 ≤ i ∧ i ≤ 450) → ¬ (455 ≤ i ∧ i ≤ 459) → ¬ (468 ≤ i ∧ i ≤ 470) → ¬ (i = 461 ∨ i = 462) → n5 i j = n1 i j := fun i j q1 q2 q3 q4 q5 => by rw [gN i j (by omega) q4 q5, f1 i j (by omega) q2 q3]
        have cF : ∀ i j : Int, i = 373 ∨ i = 391 ∨ i = 392 → mF i j = m1 i j := fun i j q => by
          rw [gF i j (by omega) (by omega) (by omega) (by omega) (by omega) (by omega), f3 i j (by omega) (by omega) (by omega) (by omega) (by omega) (by omega) (by omega) (by omega), ec i j (by omega) (by omega)]
        refine ⟨m3 399 7, mF, fun X hX => run2 X ?_, fun i j q1 q2 q3 q4 q5 q6 q7 q8 q9 q10 => ?_, fun i j q1 q2 q3 => ?_, ?_, ⟨?_, ?_, ?_, ?_, ?_⟩, Or.inr ⟨e14, s2, e15, ?_, e16, ?_, ?_, g, RT5, ?_, ?_, ?_, ⟨?_, ?_, fun i q1 q2 => ?_⟩, fun j j0 j1 => ?_, ?_, ?_, ?_, ?_⟩⟩
        · rw [if_pos u6]
          refine c_313 ?_
          rw [w_up_ne (by decide), ← hmF]
          exact hX
        · rw [fF i j (by omega)]
          exact dx3 i j q1 q2 q3 q4 q5 q6 q7 q8 q9 q10
        · rw [s1 i j (by omega) (by omega) (by omega), p1 i j (by omega)]
          exact dn3 i j q1 q2 q3
        · obtain ⟨u1, u2, u3, u4, u5⟩ := xv3
          exact ⟨by rw [fF _ _ (by decide)]; exact u1, by rw [fF _ _ (by decide)]; exact u2, by rw [fF _ _ (by decide)]; exact u3, by rw [fF _ _ (by decide)]; exact u4, by rw [fF _ _ (by decide)]; exact u5⟩
        · rw [s1 _ _ (by decide) (by decide) (by decide), p1 _ _ (by decide)]; exact vl3.1
        · rw [s1 _ _ (by decide) (by decide) (by decide), p1 _ _ (by decide)]; exact vl3.2.1
        · rw [s1 _ _ (by decide) (by decide) (by decide), p1 _ _ (by decide)]; exact vl3.2.2.1
        · rw [s1 _ _ (by decide) (by decide) (by decide)]; exact p4
        · rw [s1 _ _ (by decide) (by decide) (by decide)]; exact p5
        · rw [s1 _ _ (by decide) (by decide) (by decide)]; exact p2
        · rw [s1 _ _ (by decide) (by decide) (by decide)]; exact p3
        · rw [p1 _ _ (by decide)]; exact RT.1.2.2.1
        · -- the trailer
          refine l_tl.fr i11 i1 s_ex.rf ⟨by rw [gF _ _ (by decide) (by decide) (by decide) (by decide) (by decide) (by decide)]; exact Int.le_refl _, by rw [gF _ _ (by decide) (by decide) (by decide) (by decide) (by decide) (by decide)]; exact Int.le_refl _, fun a b q1 q2 _ _ => gF a b (by omega) (by omega) (by omega) (by omega) (by omega) (by omega), fun b _ => gF 365 b (by omega) (by omega) (by omega) (by omega) (by omega) (by omega)⟩
            ⟨by rw [gN _ _ (by decide) (by decide) (by decide)]; exact Int.le_refl _, by rw [gN _ _ (by decide) (by decide) (by decide)]; exact Int.le_refl _, fun a b q1 q2 _ _ => gN a b (by omega) (by omega) (by omega), fun b _ => gN 440 b (by omega) (by omega) (by omega)⟩ (fun j => gF 391 j (by omega) (by omega) (by omega) (by omega) (by omega) (by omega)) (fun j q => gN 428 j (by omega) (by omega) (by omega))
        · exact l_fb.fr i3 (gF _ _ (by decide) (by decide) (by decide) (by decide) (by decide) (by decide)) (fun j => gF 395 j (by omega) (by omega) (by omega) (by omega) (by omega) (by omega))
        · exact l_F.fr i5 (gN _ _ (by decide) (by decide) (by decide)) (fun j => gN 430 j (by omega) (by omega) (by omega))
        · rw [cF 391 6 (by decide), cN 428 61 (by decide) (by decide) (by decide) (by decide) (by decide)]; exact y1
        · rw [cN 428 61 (by decide) (by decide) (by decide) (by decide) (by decide)]; omega
        · rw [cN 428 61 (by decide) (by decide) (by decide) (by decide) (by decide)] at q2
          rw [cF 392 i (by decide), cN 463 i (by omega) (by omega) (by omega) (by omega) (by omega)]; exact y3 i q1 q2
        · -- the names
          have lr4 : l_ref g n4 j ↔ l_ref g n' j := l_ref_fr (f4n _ _ (by decide) (by decide)) (f4n _ _ (by decide) (by decide)) (fun b => f4n _ _ (by omega) (by omega)) (fun b => f4n _ _ (by omega) (by omega)) (fun b => f4n _ _ (by omega) (by omega)) (fun b => f4n _ _ (by omega) (by omega))
          have lr5 : l_ref g n5 j ↔ l_ref g n' j := l_ref_fr (gN _ _ (by decide) (by decide) (by decide)) (gN _ _ (by decide) (by decide) (by decide)) (fun b => gN _ _ (by omega) (by omega) (by omega)) (fun b => gN _ _ (by omega) (by omega) (by omega)) (fun b => gN _ _ (by omega) (by omega) (by omega)) (fun b => gN _ _ (by omega) (by omega) (by omega))
          obtain ⟨s4, s5, s6⟩ := s3 j j0 j1
          have b4 := xb.2.2.2 j j0 j1
          have eF : mF 374 j = mn 374 j := by rw [fF 374 j (by omega), c3 374 j (by omega) (by omega) (by omega) (by omega)]
          have ln := l_names (j := j) I hall
          refine ⟨⟨?_, s4, ?_, ?_⟩, fun w => s5 (lr4.mpr (lr5.mp w)), fun w => s6 (fun u => w (lr5.mpr (lr4.mp u)))⟩
          · by_cases q : l_ref g n' j
            · rw [eF, s5 (lr4.mpr q), hmn]
              exact l_nam2 ⟨j0, j1⟩ (ln.mp q)
            · rw [eF, s6 (fun u => q (lr4.mp u)), hmn, l_nam2n (fun u => q (ln.mpr u)), f3 374 j (by omega) (by omega) (by omega) (by omega) (by omega) (by omega) (by omega) (by omega), ec 374 j (by omega) (by omega)]
              exact b4.2.2.2.2
          · rw [cF 373 j (by omega)]; exact b4.2.2.2.1
          · rw [cN 460 j (by omega) (by omega) (by omega) (by omega) (by omega), z3 460 j (by omega) (by omega) (by omega)]
            exact (z2.2.2 j j0 j1).2.2.2.2.2
        · rw [gF 366 12 (by decide) (by decide) (by decide) (by decide) (by decide) (by decide), gN 428 60 (by decide) (by decide) (by decide)]; exact i9.2.2
        · exact (l_nt.of I hall).fr (gN _ _ (by decide) (by decide) (by decide)) (gN _ _ (by decide) (by decide) (by decide)) (gN _ _ (by decide) (by decide) (by decide)) (fun b => gN _ _ (by omega) (by omega) (by omega)) (fun b => gN _ _ (by omega) (by omega) (by omega)) (fun b => gN _ _ (by omega) (by omega) (by omega))
        · unfold s_ct at i7 ⊢
          rw [gF 359 6 (by decide) (by decide) (by decide) (by decide) (by decide) (by decide), gF 376 8 (by decide) (by decide) (by decide) (by decide) (by decide) (by decide), gN 428 29 (by decide) (by decide) (by decide), gN 428 30 (by decide) (by decide) (by decide), gN 428 15 (by decide) (by decide) (by decide)]
          exact i7
        · unfold l_mx at i8 ⊢
          rw [gF 359 7 (by decide) (by decide) (by decide) (by decide) (by decide) (by decide), gF 376 9 (by decide) (by decide) (by decide) (by decide) (by decide) (by decide), gN 428 31 (by decide) (by decide) (by decide), gN 428 32 (by decide) (by decide) (by decide), gN 428 17 (by decide) (by decide) (by decide)]
          exact i8
end LF
