/-! ===== the loader: objects at their places, both sides ===== -/
section SH2
variable {d c e K : Nat} {g g' : s_g} {m m' m1 m2 n n' n1 n2 : w_M} {Q : Int → w_M → Prop} {W : Int → Int} {L p k v x y P r b w C i l2 l5 : Int}
theorem l_come (hI : l_I g m n W L C) (hk : 1 ≤ k ∧ k < n 428 60) (h0 : n 456 k = 0) (fc : l_c1 m m') (fn : l_n1 n n' k) (hcf : s_cf m m') (hmf : s_mf n n') (hx : s_ex g g' (n 428 15)) (st : s_st g' m' n') (ct : s_ct m' n' 376) (md : s_md m' n' 376 x) (tp : s_tp g' m n m' n' 21)
    (f2 : ∀ i j : Int, ¬ (i = 376 ∧ j ≠ 8 ∧ j ≠ 9 ∧ j ≠ 10) → ¬ (369 ≤ i ∧ i ≤ 370 ∧ j = k) → ¬ (i = 394 ∧ j = 9) → ¬ (396 ≤ i ∧ i ≤ 398) → m2 i j = m' i j) (r2 : l_rb n' n2 k) (h6 : m2 376 6 = 0) (h27 : n2 428 27 = 0) (e55 : n2 455 k = n 428 15) (e56 : n2 456 k ≠ 0)
    (hko : l_o g' m2 n2 C k) (hwt : l_wt g' m2 n2) (hJ : 0 < m2 394 9 → (∃ p, e_J m2 W L p) ∧ m2 376 3 = 0) : l_I g' m2 n2 W L C ∧ s_cf m m2 ∧ s_mf n n2 := by
  obtain ⟨i1, i2, i3, i4, i5, i6, i7, i8, i9, i10, i11, i12, i13, i14, i15⟩ := id hI
  have cf2 : s_cf m' m2 := by
    have e1 := f2 359 6 (by omega) (by omega) (by omega) (by omega)
    have e2 := f2 359 7 (by omega) (by omega) (by omega) (by omega)
    exact ⟨by omega, by omega, fun a b q1 q2 _ _ => f2 a b (by omega) (by omega) (by omega) (by omega), fun b _ => f2 365 b (by omega) (by omega) (by omega) (by omega)⟩
  have st2 : s_st g' m2 n2 := st.go cf2 r2.mf (f2 _ _ (by omega) (by omega) (by omega) (by omega)) (f2 _ _ (by omega) (by omega) (by omega) (by omega)) (r2 _ _ (by omega) (by omega) (by omega)) (r2 _ _ (by omega) (by omega) (by omega))
  have q32 : n' 428 32 = n 428 32 := fn _ _ (by omega) (by omega) (by omega)
  obtain ⟨p1, p2, p3, p4, p5, p6, p7, p8, p9, p10⟩ := id tp
  refine ⟨hI.put hk h0 (fun i j q1 q2 q3 q4 q5 q6 q7 => ?_) (fn.tr r2.q1) (hcf.tr cf2) (hmf.tr r2.mf) hx st2 h6 h27 ?_ ?_ e55 e56 (fun c q1 q2 => ?_) hko hwt hJ, hcf.tr cf2, hmf.tr r2.mf⟩
  · rw [f2 i j q4 q5 q6 q7]
    exact fc i j q1 q2 q3 q4
  · unfold s_ct at ct ⊢
    rw [f2 359 6 (by omega) (by omega) (by omega) (by omega), f2 376 8 (by omega) (by omega) (by omega) (by omega), r2 428 29 (by omega) (by omega) (by omega), r2 428 30 (by omega) (by omega) (by omega), r2 428 15 (by omega) (by omega) (by omega)]
    exact ct
  · unfold l_mx
    rw [f2 359 7 (by omega) (by omega) (by omega) (by omega), f2 376 9 (by omega) (by omega) (by omega) (by omega), r2 428 32 (by omega) (by omega) (by omega), r2 428 31 (by omega) (by omega) (by omega), r2 428 17 (by omega) (by omega) (by omega)]
    rcases md with z | z
    · exact z
    · exact absurd (q32.symm.trans z.1) i8.1
  · rw [f2 359 6 (by omega) (by omega) (by omega) (by omega)] at q2
    rw [f2 360 c (by omega) (by omega) (by omega) (by omega), p6]
    exact p10 c q1 q2
/-- what l_come wants of the number, where it is read whole -/
theorem l_o.don (ho : l_o g m n C k) (hI : l_I g m n W L C) (hk : 1 ≤ k ∧ k < n 428 60) (h1 : n 451 k = 1 ∨ n 451 k = 2) (h53 : n 451 k = 1 → n 453 k ≤ 2147483647) (h0 : n 456 k = 0) (fc : l_c1 m m') (fn : l_n1 n n' k) (tr : l_tr g' n' C (n 428 15)) (hst : s_st g' m' n')
    (f2 : ∀ i j : Int, ¬ (i = 376 ∧ j ≠ 8 ∧ j ≠ 9 ∧ j ≠ 10) → ¬ (369 ≤ i ∧ i ≤ 370 ∧ j = k) → ¬ (i = 394 ∧ j = 9) → ¬ (396 ≤ i ∧ i ≤ 398) → m2 i j = m' i j) (r2 : l_rb n' n2 k) (e55 : n2 455 k = n 428 15) (e56 : n2 456 k = 2)
    (e369 : m2 369 k = if n 451 k = 2 then 0 else m' 369 k) (e370 : m2 370 k = g'.1 (n 428 15)) : l_o g' m2 n2 C k := by
  obtain ⟨a1, a2, a3, a4, a5, a6, a7, a8, a9, b1, b2, b3⟩ := ho.resolve_left (fun z => by omega)
  have e : ∀ i j : Int, (367 ≤ i ∧ i ≤ 372) → i ≠ 369 → i ≠ 370 → m2 i j = m i j := fun i j q z1 z2 => by rw [f2 i j (by omega) (by omega) (by omega) (by omega)]; exact fc i j (by omega) (by omega) (by omega) (by omega)
  have en : ∀ i j : Int, 441 ≤ i → i ≠ 455 → i ≠ 456 → n2 i j = n i j := fun i j q z1 z2 => by rw [r2 i j (by omega) (by omega) (by omega)]; exact fn i j (by omega) (by omega) (by omega)
  have e60 : n2 428 60 = n 428 60 := by rw [r2 _ _ (by omega) (by omega) (by omega)]; exact fn _ _ (by omega) (by omega) (by omega)
  refine Or.inr ?_
  unfold l_sm
  rw [e 367 k (by omega) (by omega) (by omega), e 368 k (by omega) (by omega) (by omega), e 371 k (by omega) (by omega) (by omega), en 451 k (by omega) (by omega) (by omega), en 452 k (by omega) (by omega) (by omega), en 453 k (by omega) (by omega) (by omega), en 457 k (by omega) (by omega) (by omega), e60, e56, e55, e369, e370]
  refine ⟨a1, a2, a3, a4, a5, ⟨a6.1, fun z _ => h53 z⟩, Or.inr (Or.inr rfl), fun _ => by decide, ?_, fun _ => tr.fr hst s_ex.rf r2.mf, fun z => absurd rfl z, fun _ => ⟨rfl, Or.inl ⟨(b2 (by omega)).2.2, (b2 (by omega)).2.1⟩⟩⟩
  rw [fc 369 k (by omega) (by omega) (by omega) (by omega), a9, if_neg (show ¬ (n 451 k = 2 ∧ n 456 k = 2) by omega)]
  by_cases q : n 451 k = 2
  · rw [if_pos q, if_pos ⟨q, rfl⟩]
  · rw [if_neg q, if_neg (show ¬ (n 451 k = 2 ∧ (2 : Int) = 2) from fun z => q z.1)]
theorem s_rest (IH : l_IH (d + 59) c K l2 W L C) (hI : l_I g m n W L C) (hk : 1 ≤ k ∧ k < n 428 60) (h1 : n 451 k = 1) (h0 : n 456 k = 0) (hU : l_un n ≤ (K : Int) + 1) (hU2 : l_un n + m 394 9 ≤ 199) (hi : 0 ≤ i) (hU3 : i + 2 * l_un n + m 394 9 ≤ 600)
    (fc : l_c1 m m') (fn : l_n1 n n' k) (hcf : s_cf m m') (hmf : s_mf n n') (hx : s_ex g g' (n 428 15)) (J' : s_J g' m' n' 376 W L p) (EJ : e_J m' W L p) (h53 : n 453 k ≤ 2147483647) (e21 : n' 428 21 = p) (z3 : m' 376 3 = 0) (e56 : n' 456 k = 1) (tp : s_tp g' m n m' n' 21) (nm : w_nm (w_G0 sC) m')
    (hop : ∀ X, xp_lo_readObject_52 (c + 59) k 0 (m 359 6) m' X → xc_lo_readObject (c + 60) k m X) :
    l_rest (d + 60) k P (fun _ n' => l_post c l2 W L C k i g m n (fun X => xc_lo_readObject (c + 60) k m (fun _ m1 => xp_x_load_197 (c + 60) l2 i l5 k m1 X)) n') (n 428 15) n' := by
  obtain ⟨i1, i2, i3, i4, i5, i6, i7, i8, i9, i10, i11, i12, i13, i14, i15⟩ := id hI
  have un0 := l_un_0 (k := k) (n := n) ⟨hk.1, by omega⟩ h0
  have h51 : n 451 k = 1 := h1
  have tr' : l_tr g' n' C (n 428 15) := l_tr.of tp J'.1 i14.2.1 (by have := i1.1; unfold s_bd at this; omega)
  obtain ⟨p1, p2, p3, p4, p5, p6, p7, p8, p9⟩ := id tp
  have bd := i1.1
  unfold s_bd at bd
  have bd' := J'.1.1
  unfold s_bd at bd'
  obtain ⟨y, hy⟩ : ∃ y, y = m 359 6 := ⟨_, rfl⟩
  obtain ⟨r, hr⟩ : ∃ r, r = n 428 15 := ⟨_, rfl⟩
  have gr : g'.1 r = y := by rw [hr, hy]; exact p1
  have r0 : 0 ≤ r ∧ r < n' 428 15 := by rw [hr]; exact ⟨bd.1, p7⟩
  have kd := J'.1.kd (y := r) (Or.inr r0)
  rw [s_up_y r0.1, show s_kd n' r = n' 432 r from if_neg (by omega), gr] at kd
  obtain ⟨us, hs, k2⟩ := l_obj hI hk (by omega)
  have us' : l_us m' k := us.fr (fc _ _ (by omega) (by omega) (by omega) (by omega)) (fc _ _ (by omega) (by omega) (by omega) (by omega))
  have hs' : m' 366 11 ≤ 200 := by rw [fc _ _ (by omega) (by omega) (by omega) (by omega)]; exact hs
  have e9 : m' 394 9 = m 394 9 := fc _ _ (by omega) (by omega) (by omega) (by omega)
  obtain ⟨w, hw⟩ : ∃ w, w = m 394 9 := ⟨_, rfl⟩
  have w0 : 0 ≤ w ∧ w < 199 := by rw [hw]; exact ⟨i13.1, by omega⟩
  have nsb : w_ns [(2, 394), (0, k), (0, y)] := l_nsr (by decide) (l_nsi (by omega) (l_nsi (by rw [hy]; omega) l_ns0))
  rw [← hy] at hop
  rw [← hr] at hx tr' ⊢
  have go52 : ∀ X, xc_lo_readBehind (c + 59) k y m' (fun _ m1 => X 0 m1) → xc_lo_readObject (c + 60) k m X := fun X hX => hop X (by
    apply xr_lo_readObject_52
    rw [if_neg (by omega), if_pos rfl, if_neg (by omega)]
    exact hX)
  have G' : e_G n' W L p := by
    obtain ⟨j1, j2, j3, j4, j5, j6, j7, j8, j9, j10⟩ := J'
    have := j2.bd
    have := i5.2.1
    exact ⟨⟨j4, by omega, e21, by omega, by omega⟩, j5, by omega, j10⟩
  have cfail : ((f_st_kindOf m' y = 7 ∧ t_is W L (e_kw W L p) e_stream ∧ e_ss W L p < 0) ∨ (¬ (f_st_kindOf m' y = 7 ∧ t_is W L (e_kw W L p) e_stream) ∧ ¬ t_is W L (e_kw W L p) e_endobj)) → ∀ n2, l_n n n2 → n2 428 27 ≠ 0 →
      l_post c l2 W L C k i g m n (fun X => xc_lo_readObject (c + 60) k m (fun _ m1 => xp_x_load_197 (c + 60) l2 i l5 k m1 X)) n2 := by
    intro z n2 f2 z2
    have run : xc_lo_readBehind (c + 59) k y m' (fun _ m1 => l_op m' m1 ∧ m1 376 6 ≠ 0) := sp_readBehind (d := c + 51) EJ z3 us' hs' (by omega) (fun z1 z2 => by
      rcases z with z | z
      · omega
      · exact absurd ⟨z1, by
          by_cases q : t_is W L (e_kw W L p) e_stream
          · exact q
          · have : e_ss W L p = -1 := if_neg q
            omega⟩ z.1) (fun z1 z2 => by
      rcases z with z | z
      · exact absurd ⟨z.1, z.2.1⟩ z1
      · exact absurd z2 z.2) (fun _ m1 f z => ⟨f, z⟩)
    obtain ⟨rr, m1, y1, y2, y3, y4⟩ := r_get run nm nsb
    exact Or.inl ⟨m1, f2, z2, fc.qc.tr y3.qc, y2, y4, fun X hX => go52 _ (y1.to (c_197_bad y4 hX))⟩
  refine r_rest (d := d + 54) G' J'.2.2.2.2.2.2.1 ⟨by omega, k2⟩ ⟨r0.1, by omega⟩ (fun q7 qs n2 f2 z27 e55 e562 v2 z21 => ?_) (fun nq qe n2 f2 z27 e55 e562 => ?_) (fun nq ne n2 f2 z27 => ?_)
  · -- a stream
    obtain ⟨b, hb⟩ : ∃ b, b = e_ss W L p := ⟨_, rfl⟩
    have eb : b = u_b W (e_kw W L p + 6) := by rw [hb]; exact if_pos qs
    have kw := e_kw_r (W := W) (L := L) (p := p) G'.1.2.2.2.1 G'.1.2.2.2.2
    have L8 := i5.2.1
    have p0 := G'.1.2.2.2.1
    have r1 : ∀ z, l_raw (d + 60) k P r (fun _ n' => l_post c l2 W L C k i g m n (fun X => xc_lo_readObject (c + 60) k m (fun _ m1 => xp_x_load_197 (c + 60) l2 i l5 k m1 X)) n') z (m_fl n2 6 P) ∨ True := fun _ => Or.inr trivial
    have bad : b < 0 → xp_m_rawStream_39 (d + 59) r P 0 n2 (l_raw (d + 60) k P r (fun _ n' => l_post c l2 W L C k i g m n (fun X => xc_lo_readObject (c + 60) k m (fun _ m1 => xp_x_load_197 (c + 60) l2 i l5 k m1 X)) n')) := by
      intro z
      apply xr_m_rawStream_39
      rw [if_pos rfl]
      refine sp_m_fail ?_
      refine r_raw_bad (d := d + 59) (m_fl_ne z27 (by decide)) ⟨by omega, k2⟩ (fun n3 f3 z3 => ?_)
      refine cfail (Or.inl ⟨by rw [kd]; exact q7, qs, by rw [← hb]; exact z⟩) n3 ?_ z3
      have fl : l_n n2 (m_fl n2 6 P) := fun i j q1 q2 q3 => m_fl_o (by omega)
      exact fn.qn.tr (f2.q1.qn.tr (fl.tr f3.q1.qn))
    have good : ∀ s0, (s0 = 1 ∨ s0 = 2) → b = e_kw W L p + 6 + s0 → xp_m_rawStream_39 (d + 59) r P s0 n2 (l_raw (d + 60) k P r (fun _ n' => l_post c l2 W L C k i g m n (fun X => xc_lo_readObject (c + 60) k m (fun _ m1 => xp_x_load_197 (c + 60) l2 i l5 k m1 X)) n')) := by
      intro s0 hs0 hbs
      have bL : b ≤ L := by
        have hok := i5.1
        have h10 : W (b - 1) = 10 := by
          rw [eb]
          rw [eb] at hbs
          unfold u_b at hbs ⊢
          by_cases z1 : W (e_kw W L p + 6) = 13 ∧ W (e_kw W L p + 6 + 1) = 10
          · rw [if_pos z1]; rw [show e_kw W L p + 6 + 2 - 1 = e_kw W L p + 6 + 1 by omega]; exact z1.2
          · rw [if_neg z1] at hbs ⊢
            by_cases z2 : W (e_kw W L p + 6) = 10
            · rw [if_pos z2]; rw [show e_kw W L p + 6 + 1 - 1 = e_kw W L p + 6 by omega]; exact z2
            · rw [if_neg z2] at hbs; omega
        by_cases z : b ≤ L
        · exact z
        · have := hok.2.2 (b - 1) (Or.inr (by omega))
          omega
      -- the class puts it on the stack
      have run : xc_lo_readBehind (c + 59) k y m' (fun _ m1 => ∃ m3, l_op m' m3 ∧ m3 376 6 = m' 376 6 ∧ (∃ q, e_J m3 W L q) ∧ m3 376 3 = 0 ∧ m1 = l_push m3 w k b y) := sp_readBehind (d := c + 51) EJ z3 us' hs' (by omega) (fun z1 z2 m3 f3 g3 j3 h3 => ⟨m3, f3, g3, j3, h3, by rw [e9, ← hw, ← hb]⟩) (fun z1 _ => absurd ⟨by rw [kd]; exact q7, qs⟩ z1) (fun z => by
        rcases z with z | z
        · rw [← hb] at z; omega
        · exact absurd ⟨by rw [kd]; exact q7, qs⟩ z.1)
      obtain ⟨rr, m1, y1, nm1, m3, f3, g3, ⟨q3, j3⟩, h3, e1⟩ := r_get run nm nsb
      have p1f : ∀ i j : Int, ¬ (396 ≤ i ∧ i ≤ 398 ∧ j = w) → ¬ (i = 394 ∧ j = 9) → m1 i j = m3 i j := fun i j z1 z2 => by
        rw [e1]
        unfold l_push
        rw [l_up (by omega), l_up (by omega), l_up (by omega), l_up (by omega)]
      have v396 : m1 396 w = k := by
        rw [e1]; unfold l_push
        rw [w_up_ne (by decide), w_up_ne (by decide), w_up_ne (by decide), w_up_eq]
      have v397 : m1 397 w = b := by
        rw [e1]; unfold l_push
        rw [w_up_ne (by decide), w_up_ne (by decide), w_up_eq]
      have v398 : m1 398 w = y := by
        rw [e1]; unfold l_push
        rw [w_up_ne (by decide), w_up_eq]
      have v394 : m1 394 9 = w + 1 := by
        rw [e1]; unfold l_push
        rw [w_up_eq]
      have f21 : ∀ i j : Int, ¬ (i = 376 ∧ j ≠ 8 ∧ j ≠ 9 ∧ j ≠ 10) → ¬ (369 ≤ i ∧ i ≤ 370 ∧ j = k) → ¬ (i = 394 ∧ j = 9) → ¬ (396 ≤ i ∧ i ≤ 398) → m1 i j = m' i j := fun i j z1 z2 z3 z4 => by
        rw [p1f i j (by omega) z3]
        exact f3 i j (by omega)
      have fm : ∀ i j : Int, 396 ≤ i → i ≤ 398 → 0 ≤ j → j < w → m1 i j = m i j := fun i j z1 z2 z3 z4 => by
        rw [p1f i j (by omega) (by omega), f3 i j (by omega)]
        exact fc i j (by omega) (by omega) (by omega) (by omega)
      have fm2 : ∀ i j : Int, 367 ≤ i → i ≤ 372 → m1 i j = m i j := fun i j z1 z2 => by
        rw [p1f i j (by omega) (by omega), f3 i j (by omega)]
        exact fc i j (by omega) (by omega) (by omega) (by omega)
      have e562' : n2 456 k = 1 := by rw [e562]; exact e56
      have en : ∀ i j : Int, 441 ≤ i → ¬ ((i = 455 ∨ i = 456) ∧ j = k) → n2 i j = n i j := fun i j q z => by rw [f2 i j (by omega) (by omega) z]; exact fn i j (by omega) (by omega) z
      have e60 : n2 428 60 = n 428 60 := by rw [f2 _ _ (by omega) (by omega) (by omega)]; exact fn _ _ (by omega) (by omega) (by omega)
      have mf2 : s_mf n n2 := hmf.tr f2.mf
      have J1 : (∃ q, e_J m1 W L q) ∧ m1 376 3 = 0 := by
        refine ⟨⟨q3, ?_⟩, by rw [p1f _ _ (by omega) (by omega)]; exact h3⟩
        exact ⟨j3.1.far (fun b => p1f _ _ (by omega) (by omega)) (fun b => by rw [j3.2]; exact p1f _ _ (by omega) (by omega)), by rw [p1f _ _ (by omega) (by omega)]; exact j3.2⟩
      have ro : ∀ x, 0 ≤ x → x < 200 → n 456 x ≠ 0 → 0 ≤ n 455 x ∧ n 455 x < n 428 15 := fun x x0 x1 x2 => by
        have t := (i12 x x0 x1).root x2
        have := t.1; have := t.2.1; have := t.2.2.1
        omega
      have hwt : l_wt g' m1 n2 := by
        obtain ⟨w1, w2, w3, w4⟩ := i13
        unfold l_wt
        rw [v394, e60]
        have nk : ∀ i, 0 ≤ i → i < w → m 396 i ≠ k := fun i z1 z2 z => by
          have := (w3 i z1 (by omega)).2.2.1
          rw [z, h0] at this
          omega
        refine ⟨by omega, fun i j q1 q2 q3 => ?_, fun i q1 q2 => ?_, fun x x0 x1 x2 => ?_⟩
        · rw [fm 396 i (by decide) (by decide) q1 (by omega)]
          by_cases z : j = w
          · rw [z, v396]; exact nk i q1 (by omega)
          · rw [fm 396 j (by decide) (by decide) (by omega) (by omega)]
            exact w2 i j q1 q2 (by omega)
        · by_cases z : i = w
          · rw [z, v396, v398, e55, en 451 k (by decide) (by omega)]
            exact ⟨hk, h1, e562', gr.symm, by rw [f2 _ _ (by omega) (by omega) (by omega)]; exact q7⟩
          · obtain ⟨t1, t2, t3, t4, t5⟩ := w3 i q1 (by omega)
            have nki := nk i q1 (by omega)
            obtain ⟨ra, rb⟩ := ro (m 396 i) (by omega) (by omega) (by omega)
            rw [fm 396 i (by decide) (by decide) q1 (by omega), fm 398 i (by decide) (by decide) q1 (by omega), en 451 _ (by decide) (by omega), en 456 _ (by decide) (by omega), en 455 _ (by decide) (by omega), (hx _ ra (by rw [hr]; exact rb)).1, mf2.2.2.1 432 _ (by decide) (by decide) ra rb]
            exact ⟨t1, t2, t3, t4, t5⟩
        · by_cases xk : x = k
          · exact ⟨w, by omega, by omega, by rw [v396]; exact xk.symm⟩
          · rw [en 456 x (by decide) (by omega)] at x2
            obtain ⟨i, q1, q2, q3⟩ := w4 x x0 x1 x2
            exact ⟨i, q1, by omega, by rw [fm 396 i (by decide) (by decide) q1 (by omega)]; exact q3⟩
      have hko : l_o g' m1 n2 C k := by
        obtain ⟨a1, a2, a3, a4, a5, a6, a7, a8, a9, b1, b2, b3⟩ := (i12 k (by omega) k2).resolve_left (fun z => by omega)
        refine Or.inr ?_
        rw [fm2 367 k (by decide) (by decide), fm2 368 k (by decide) (by decide), fm2 369 k (by decide) (by decide), fm2 370 k (by decide) (by decide), fm2 371 k (by decide) (by decide), en 451 k (by decide) (by omega), en 452 k (by decide) (by omega), en 453 k (by decide) (by omega), en 457 k (by decide) (by omega), e60, e562', e55]
        refine ⟨a1, a2, a3, a4, a5, ⟨a6.1, fun _ _ => h53⟩, Or.inr (Or.inl rfl), fun z => by omega, ?_, fun _ => ?_, fun _ => b2 (by omega), fun z => absurd z (by decide)⟩
        · rw [a9, if_neg (show ¬ (n 451 k = 2 ∧ n 456 k = 2) by omega), if_neg (show ¬ (n 451 k = 2 ∧ (1 : Int) = 2) by omega)]
        · exact tr'.fr J'.1 s_ex.rf f2.mf
      obtain ⟨I1, cf1, mf1⟩ := l_come hI hk h0 fc fn hcf hmf (by rw [← hr]; exact hx) J'.1 J'.2.2.2.2.2.2.2.1 J'.2.2.2.2.2.2.2.2.1 tp f21 f2 (by rw [p1f _ _ (by omega) (by omega), g3]; exact J'.2.2.2.2.2.1) z27 (by rw [← hr]; exact e55) (by rw [e562']; decide) hko hwt (fun _ => J1)
      have unn : l_un n2 = l_un n - 1 := l_un_up ⟨hk.1, k2⟩ (fun x hxk => en 456 x (by decide) (by omega)) h0 (by rw [e562']; decide)
      have top1 : l_top g' m1 n2 L w k b r := ⟨⟨w0.1, by omega, v394⟩, ⟨v396, v397, by rw [gr]; exact v398⟩, e55, by rw [e60]; exact hk, by rw [en 451 k (by decide) (by omega)]; exact h1, e562', by rw [f2 _ _ (by omega) (by omega) (by omega)]; exact q7, ⟨by omega, bL⟩⟩
      have c1 : l_c m m1 := fc.qc.tr (f3.qc.tr (fun i j q1 q2 q3 q4 q5 q6 q7 q8 => p1f i j (by omega) (by omega)))
      have nn2 : l_n n n2 := fn.qn.tr f2.q1.qn
      have pre : ∀ X, xp_x_load_138 (c + 60) l2 1 (i + 1) m1 X → xc_lo_readObject (c + 60) k m (fun _ m1 => xp_x_load_197 (c + 60) l2 i l5 k m1 X) := fun X hX => by
        refine go52 _ ?_
        refine y1.to ?_
        exact c_197_ok I1.2.2.2.1.2 (Or.inl (by omega)) ⟨hi, by omega⟩ hX
      apply xr_m_rawStream_39
      rw [if_neg (by omega), z21, w_32_id (x := e_kw W L p + 6 + s0) (by omega) (by omega), ← hbs]
      have rn2 : 0 ≤ r ∧ r < n2 428 15 := by rw [f2 428 15 (by omega) (by omega) (by omega)]; exact r0
      have q72 : n2 432 r = 7 := by rw [f2 _ _ (by omega) (by omega) (by omega)]; exact q7
      obtain ⟨l, hl⟩ : ∃ l, l = s_fd n2 (s_wd 20) (g'.2.1 r) := ⟨_, rfl⟩
      have nol : s_no n2 l := by rw [hl]; exact I1.1.fd rn2 q72
      have bd2 := I1.1.1
      unfold s_bd at bd2
      refine r_rawEntry (d := d + 53) I1.1 t_mlength rn2 q72 ?_
      rw [← hl]
      have fin : ∀ v, v = (if s_kd n2 l = 2 then n2 433 l else -1) → xp_m_rawStream_102 (d + 59) P b l v n2 (l_raw (d + 60) k P r (fun _ n' => l_post c l2 W L C k i g m n (fun X => xc_lo_readObject (c + 60) k m (fun _ m1 => xp_x_load_197 (c + 60) l2 i l5 k m1 X)) n')) := by
        intro v hv
        refine s_strm (d := d + 47) (K := K) (c := c) (i := i + 1) IH I1 nm1 top1 v2 (by rw [f2 _ _ (by omega) (by omega) (by omega)]; exact G'.2.1) (by omega) (by omega) (by omega) (by omega) hl hv
          (fun n9 m9 ⟨h1, h2, h3, h4, h5, h6⟩ => Or.inl ⟨m9, nn2.tr h1, h2, c1.tr h3, h4, h5, fun X hX => pre X (h6 X hX)⟩)
          (fun g9 n9 m9 ⟨h1, h2, h3, h4, h5, h6, h7, h8, h9, h10, h11, h12, h13, h14, h16, i2, j2, j3, h15⟩ => Or.inr ⟨g9, m9, nn2.tr h1, h2, c1.tr h3, h4, h5, cf1.tr h6, mf1.tr h7, ?_, by rw [h9, hw], fun i j z1 z2 z3 z4 => by rw [h10 i j z1 z2 z3 (by omega)]; exact fm i j z1 z2 z3 (by omega), h11, fun x x0 x1 xk x2 => ?_, fun z => absurd h0 z, by omega, fun x x1 => by rw [h16 x (by rw [en 451 x (by decide) (by omega)]; exact x1)]; exact en 456 x (by decide) (fun z => x1 (by rw [z.2]; exact h51)), i2, j2, by omega, fun X hX => pre X (h15 X hX)⟩)
        · rw [hr] at hx
          exact hx.tr h8 mf1.1
        · have := h12 x x0 x1 xk (by rw [en 456 x (by decide) (by omega)]; exact x2)
          rw [en 456 x (by decide) (by omega), en 455 x (by decide) (by omega)] at this
          exact this
      by_cases ql : l < 0
      · rw [if_pos ql]
        exact fin (-1) (by rw [show s_kd n2 l = -1 from if_pos ql]; rfl)
      · rw [if_neg ql]
        have kdl : s_kd n2 l = n2 432 l := if_neg ql
        have lr : 0 ≤ l ∧ l < 40000 := by
          unfold s_no at nol
          omega
        refine ⟨lr, ?_⟩
        by_cases q2 : n2 432 l = 2
        · rw [if_pos q2]
          exact ⟨lr, fin _ (by rw [kdl, if_pos q2])⟩
        · rw [if_neg q2]
          exact fin _ (by rw [kdl, if_neg q2])
    apply xr_m_rawStream
    refine sp_r_peek (d := d + 58) v2 z21 (by omega) (by omega) (by decide) (by decide) ?_
    rw [Int.add_zero]
    have pk0 : ∀ R : Int → w_M → Prop, R (W (e_kw W L p + 6)) n2 → xc_m_peek (d + 59) 0 n2 R := fun R hR => sp_r_peek (d := d + 58) v2 z21 (by omega) (by omega) (by decide) (by decide) (by rw [Int.add_zero]; exact hR)
    unfold u_b at eb
    by_cases q13 : W (e_kw W L p + 6) = 13
    · rw [if_pos q13]
      refine sp_r_peek (d := d + 58) v2 z21 (by omega) (by omega) (by decide) (by decide) ?_
      by_cases q10 : W (e_kw W L p + 6 + 1) = 10
      · rw [if_pos ⟨q13, q10⟩] at eb
        rw [if_pos q10]
        exact good 2 (Or.inr rfl) eb
      · rw [if_neg (fun z => q10 z.2), if_neg (by omega)] at eb
        rw [if_neg q10]
        refine pk0 _ ?_
        rw [if_neg (by omega)]
        exact bad (by omega)
    · rw [if_neg q13]
      refine pk0 _ ?_
      rw [if_neg (fun z => q13 z.1)] at eb
      by_cases q10 : W (e_kw W L p + 6) = 10
      · rw [if_pos q10] at eb
        rw [if_pos q10]
        exact good 1 (Or.inl rfl) eb
      · rw [if_neg q10] at eb
        rw [if_neg q10]
        exact bad (by omega)
  · -- another object
    have run : xc_lo_readBehind (c + 59) k y m' (fun _ m1 => ∃ m3, l_op m' m3 ∧ m3 376 6 = m' 376 6 ∧ (∃ q, e_J m3 W L q) ∧ m3 376 3 = 0 ∧ m1 = w_up m3 370 k y) := sp_readBehind (d := c + 51) EJ z3 us' hs' (by omega) (fun z1 z2 => by
        have : t_is W L (e_kw W L p) e_stream := by
          by_cases q : t_is W L (e_kw W L p) e_stream
          · exact q
          · have : e_ss W L p = -1 := if_neg q
            omega
        exact absurd ⟨by rw [kd] at z1; exact z1, this⟩ nq) (fun _ _ m3 f3 g3 j3 h3 => ⟨m3, f3, g3, j3, h3, rfl⟩) (fun z => by
        rcases z with z | z
        · exact absurd ⟨by have := z.1; rw [kd] at this; exact this, z.2.1⟩ nq
        · exact absurd qe z.2)
    obtain ⟨rr, m1, y1, nm1, m3, f3, g3, ⟨q3, j3⟩, h3, e1⟩ := r_get run nm nsb
    have p1f : ∀ i j : Int, ¬ (i = 370 ∧ j = k) → m1 i j = m3 i j := fun i j z => by rw [e1, l_up z]
    have f21 : ∀ i j : Int, ¬ (i = 376 ∧ j ≠ 8 ∧ j ≠ 9 ∧ j ≠ 10) → ¬ (369 ≤ i ∧ i ≤ 370 ∧ j = k) → ¬ (i = 394 ∧ j = 9) → ¬ (396 ≤ i ∧ i ≤ 398) → m1 i j = m' i j := fun i j z1 z2 z3 z4 => by
      rw [p1f i j (by omega)]
      exact f3 i j (by omega)
    have fm : ∀ i j : Int, 394 ≤ i → i ≤ 398 → m1 i j = m i j := fun i j z1 z2 => by
      rw [p1f i j (by omega), f3 i j (by omega)]
      exact fc i j (by omega) (by omega) (by omega) (by omega)
    have en : ∀ i j : Int, 441 ≤ i → ¬ ((i = 455 ∨ i = 456) ∧ j = k) → n2 i j = n i j := fun i j q z => by rw [f2 i j (by omega) (by omega) z]; exact fn i j (by omega) (by omega) z
    have e60 : n2 428 60 = n 428 60 := by rw [f2 _ _ (by omega) (by omega) (by omega)]; exact fn _ _ (by omega) (by omega) (by omega)
    have mf2 : s_mf n n2 := hmf.tr f2.mf
    have J1 : (∃ q, e_J m1 W L q) ∧ m1 376 3 = 0 := by
      refine ⟨⟨q3, ?_⟩, by rw [p1f _ _ (by omega)]; exact h3⟩
      exact ⟨j3.1.far (fun b => p1f _ _ (by omega)) (fun b => by rw [j3.2]; exact p1f _ _ (by omega)), by rw [p1f _ _ (by omega)]; exact j3.2⟩
    rw [hr] at hx
    have hwt : l_wt g' m1 n2 := i13.fr i12 i9.1.2 (fm _ _ (by omega) (by omega)) (fun i j z1 z2 _ _ => fm i j (by omega) z2) e60 (fun j => en 451 j (by decide) (by omega)) (fun j j0 j1 => by
      by_cases z : j = k
      · rw [z, h0, e562]
        exact ⟨⟨fun z => absurd z (by decide), fun z => absurd z (by decide)⟩, fun z => absurd z (by decide)⟩
      · rw [en 456 j (by decide) (by omega), en 455 j (by decide) (by omega)]
        exact ⟨Iff.rfl, fun _ => rfl⟩) hx mf2
    have hko : l_o g' m1 n2 C k := l_o.don (i12 k (by omega) k2) hI hk (Or.inl h1) (fun _ => h53) h0 fc fn (by rw [← hr]; exact tr') J'.1 f21 f2 (by rw [← hr]; exact e55) e562 (by
      rw [if_neg (by omega), p1f _ _ (by omega)]; exact f3 _ _ (by omega)) (by rw [e1, w_up_eq, ← hr]; exact gr.symm)
    obtain ⟨I1, cf1, mf1⟩ := l_come hI hk h0 fc fn hcf hmf hx J'.1 J'.2.2.2.2.2.2.2.1 J'.2.2.2.2.2.2.2.2.1 tp f21 f2 (by rw [p1f _ _ (by omega), g3]; exact J'.2.2.2.2.2.1) z27 (by rw [← hr]; exact e55) (by rw [e562]; decide) hko hwt (fun _ => J1)
    have unn : l_un n2 = l_un n - 1 := l_un_up ⟨hk.1, k2⟩ (fun x hxk => en 456 x (by decide) (by omega)) h0 (by rw [e562]; decide)
    have c1 : l_c m m1 := fc.qc.tr (f3.qc.tr (fun i j q1 q2 q3 q4 q5 q6 q7 q8 => p1f i j (by omega)))
    refine Or.inr ⟨g', m1, fn.qn.tr f2.q1.qn, z27, c1, nm1, I1, cf1, mf1, hx, fm _ _ (by omega) (by omega), fun i j z1 z2 _ _ => fm i j (by omega) z2, e562, fun x x0 x1 xk _ => ⟨en 456 x (by decide) (by omega), en 455 x (by decide) (by omega)⟩, fun z => absurd h0 z, by omega, fun x x1 => en 456 x (by decide) (fun z => x1 (by rw [z.2]; exact h1)), i + 1, by omega, by omega, fun X hX => ?_⟩
    refine go52 _ ?_
    refine y1.to ?_
    exact c_197_ok I1.2.2.2.1.2 (Or.inl (by omega)) ⟨hi, by omega⟩ hX
  · -- a fault
    exact cfail (Or.inr ⟨fun z => nq ⟨by have := z.1; rw [kd] at this; exact this, z.2⟩, ne⟩) n2 (fn.qn.tr f2.q1.qn) z27
theorem s_readAt : ∀ K : Nat, l_IH (e + 2 * K + 61) c K l2 W L C := by
  intro K
  induction K with
  | zero =>
    intro g m n k i l5 hI hm hk h1 h0 hU
    have := l_un_0 (k := k) (n := n) ⟨hk.1, by have := hI.2.2.2.2.2.2.2.2.1.1.2; omega⟩ h0
    omega
  | succ K ih =>
    intro g m n k i l5 hI hm hk h1 h0 hU hU2 hi hU3
    refine s_placed (c := c) (d := e + 2 * K + 2) hI hm hk h1 h0 (fun n' m' f z fc nm z6 hop => Or.inl ⟨m', f, z, fc, nm, z6, fun X hX => ?_⟩) (fun g' n' m' e' fc fn hcf hmf hx J' EJ h53 e21 z3 e56 tp nm hop => ?_)
    · refine hop _ ?_
      apply xr_lo_readObject_52
      rw [if_pos (by decide), if_pos (by decide)]
      exact c_197_bad z6 hX
    · exact s_rest (d := e + 2 * K + 2) ih hI hk h1 h0 (by omega) hU2 hi hU3 fc fn hcf hmf hx J' EJ h53 e21 z3 e56 tp nm hop
end SH2
