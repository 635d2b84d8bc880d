/-! ===== the loader: a stream's bytes, both sides ===== -/
section SD2
variable {d c : Nat} {g g' : s_g} {m m' m1 m6 n n' n1 n2 : w_M} {Q : Int → w_M → Prop} {W : Int → Int} {L p k v x y P r b len w C : Int}
/-- the class fails -/
theorem c_fo (hs : m1 366 11 ≤ 200) (nm : w_nm (w_G0 sC) m1) (hk : 0 ≤ k ∧ k < 200) : ∃ m', l_op m1 m' ∧ w_nm (w_G0 sC) m' ∧ m' 376 6 ≠ 0 ∧ ∀ R : Int → w_M → Prop, R (-1) m' → xc_lo_failObject (c + 3) k m1 (fun r m' => R r m') := by
  have run : xc_lo_failObject (c + 3) k m1 (fun r m' => r = -1 ∧ l_op m1 m' ∧ m' 376 6 ≠ 0) := sp_failObject (d := c) hs (fun m' f' y => ⟨rfl, f', y⟩)
  obtain ⟨r, m', y1, y2, y3, y4, y5⟩ := r_get run nm (l_nsr (by decide) (l_nsi (by omega) l_ns0))
  exact ⟨m', y4, y2, y5, fun R hR => y1.to (by rw [y3]; exact hR)⟩
theorem c_pf (nm : w_nm (w_G0 sC) m1) (h0 : x ≠ 0) (hx : -2147483648 ≤ x ∧ x < 2147483648) (hy : -2147483648 ≤ y ∧ y < 2147483648) : ∃ m', l_op m1 m' ∧ w_nm (w_G0 sC) m' ∧ m' 376 6 ≠ 0 ∧ ∀ R : Int → w_M → Prop, R (-1) m' → xc_ps_fail (c + 1) 376 x y m1 (fun r m' => R r m') := by
  have run : xc_ps_fail (c + 1) 376 x y m1 (fun r m' => r = -1 ∧ l_op m1 m' ∧ m' 376 6 ≠ 0) := sp_fail1 (Or.inl rfl) (fun m' f h => ⟨rfl, fun i j q => f i j (by omega), h h0⟩)
  obtain ⟨r, m', y1, y2, y3, y4, y5⟩ := r_get run nm (l_nsr (by decide) (l_nsi hx (l_nsi hy l_ns0)))
  exact ⟨m', y4, y2, y5, fun R hR => y1.to (by rw [y3]; exact hR)⟩
theorem l_op.qc (h : l_op m m') : l_c m m' := h.q0.qc
theorem c_ch.qc (h : c_ch m m' 376) : l_c m m' := h.lop.qc
theorem z_cf.qc (h : z_cf m m') : l_c m m' := fun i j q1 q2 q3 q4 q5 q6 q7 q8 => h i j (by omega) (by omega) (by omega) (by omega)
theorem l_us.fr (h : l_us m k) (h1 : m' 366 11 = m 366 11) (h2 : m' 367 k = m 367 k) : l_us m' k := ⟨h.1, by rw [h1]; exact h.2.1, by rw [h2]; exact h.2.2⟩
theorem s_body (hI : l_I g m n W L C) (hm : w_nm (w_G0 sC) m) (hw : 0 ≤ w ∧ m 394 9 = w + 1) (w199 : w < 200) (hwk : m 396 w = k ∧ m 397 w = b ∧ m 398 w = g.1 r) (hr : n 455 k = r) (hk : 1 ≤ k ∧ k < n 428 60) (h1 : n 451 k = 1) (e56 : n 456 k = 1) (r7 : n 432 r = 7) (hb : 0 ≤ b ∧ b ≤ L)
    (hv : v_m n W L) (h18 : n 428 18 = 430 ∨ 440 < n 428 18) (hx : (f_st_kindOf m x = 2 ∧ f_st_oneOf m x = len) ∨ (f_st_kindOf m x ≠ 2 ∧ len = -1)) (hlen : -2147483648 ≤ len ∧ len < 2147483648)
    (HF : ∀ n' m', l_n n n' → n' 428 27 ≠ 0 → l_c m m' → w_nm (w_G0 sC) m' → m' 376 6 ≠ 0 → (∀ R, R (-1) m' → xp_lo_readBody_141 (c + 59) w k x m R) → Q 0 n')
    (HG : ∀ n' m', l_I g m' n' W L C → w_nm (w_G0 sC) m' → l_n n n' → l_c m m' → s_cf m m' → s_mf n n' → m' 394 9 = w → (∀ i j, 396 ≤ i → i ≤ 398 → m' i j = m i j) → n' 456 k = 2 → (∀ j, j ≠ k → n' 456 j = n 456 j) → (∀ j, n' 455 j = n 455 j) → (∀ R, R 0 m' → xp_lo_readBody_141 (c + 59) w k x m R) → Q 0 n') :
    xp_m_rawStream_269 (d + 12) P b len n (l_raw (d + 13) k P r Q) := by
  obtain ⟨i1, i2, i3, i4, i5, i6, i7, i8, i9, i10, i11, i12, i13, i14, i15⟩ := id hI
  obtain ⟨us, hs, k2⟩ := l_obj hI hk (by omega)
  have u17 := l_u17 hI
  have L8 := i5.2.1
  have ho := i12 k (by omega) k2
  obtain ⟨a1, a2, a3, a4, a5, a6, a7, a8, a9, b1, b2, b3⟩ := ho.resolve_left (fun z => by omega)
  have tr := b1 (by omega)
  rw [hr] at tr
  have r0 := tr.1
  have r1 : r < n 428 15 := by have := tr.2.1; have := tr.2.2.1; omega
  obtain ⟨⟨pp, J⟩, m3⟩ := i15 (by omega)
  have bd := i1.1
  unfold s_bd at bd
  have ndr := i1.2.1 r r0 r1
  -- the class where it fails
  have fo : ∀ m1, l_op m m1 → w_nm (w_G0 sC) m1 → ∃ m', l_op m1 m' ∧ w_nm (w_G0 sC) m' ∧ m' 376 6 ≠ 0 ∧ ∀ R : Int → w_M → Prop, R (-1) m' → xc_lo_failObject (c + 59) k m1 (fun r m' => R r m') := fun m1 f nm => c_fo (c := c + 56) (by rw [f _ _ (by omega)]; exact hs) nm (by omega)
  rcases hx with ⟨x1, x2⟩ | ⟨x1, x2⟩
  · -- a whole
    have open141 : ∀ R : Int → w_M → Prop, (xc_ps_closes (c + 59) 376 b len m (fun r3 m3 => if r3 = 0 then (xc_lo_failObject (c + 59) k m3 (fun r4 m4 => R r4 m4)) else (((0 : Int) ≤ w ∧ w < 200) ∧ (((0 : Int) ≤ w ∧ w < 200) ∧ (xc_st_oneOf (c + 59) x m3 (fun r5 m5 => xc_fi_decode (c + 59) (m3 398 w) 395 (m3 397 w) r5 m5 (fun r6 m6 => ((0 : Int) ≤ w ∧ w < 200) ∧ (xc_ta_setRoot (c + 59) k (m6 398 w) m6 (fun r7 m7 => if r6 = 0 then ((0 : Int) ≤ (m7 378 7) ∧ (xc_ta_setStream (c + 59) k (m7 378 7) (m7 378 8) m7 (fun r8 m8 => if r8 = 0 then (xc_ta_placeOf (c + 59) k m8 (fun r9 m9 => xc_ps_fail (c + 59) 376 8 r9 m9 (fun r10 m10 => R r10 m10))) else (if r6 = 0 then (R 0 (w_up m8 394 9 (w_32 ((m8 394 9) - 1)))) else (xc_ta_placeOf (c + 59) k m8 (fun r11 m11 => xc_ps_fail (c + 59) 376 r6 r11 m11 (fun r12 m12 => R r12 m12))))))) else (if r6 = 0 then (R 0 (w_up m7 394 9 (w_32 ((m7 394 9) - 1)))) else (xc_ta_placeOf (c + 59) k m7 (fun r13 m13 => xc_ps_fail (c + 59) 376 r6 r13 m13 (fun r14 m14 => R r14 m14))))))))))))) → xp_lo_readBody_141 (c + 59) w k x m R := fun R hR => by
      apply xr_lo_readBody_141
      refine sp_st_kindOf (d := c + 58) ?_
      rw [if_pos x1]
      refine ⟨⟨hw.1, w199⟩, ?_⟩
      refine sp_st_oneOf (d := c + 58) ?_
      rw [x2, hwk.2.1]
      exact hR
    have eb : (if b < 0 then -1 else m 376 3 + b) = b := by rw [if_neg (by omega), m3, Int.zero_add]
    refine r_269 (d := d + 6) (r := r) hv h18 i5.2.2.1 L8 ⟨u17.1, by omega⟩ i6 ⟨by omega, k2⟩ hb hlen.2 (fun z1 z2 z3 n' f' => ?_) (fun z n' f' z' => ?_)
    · -- the ends are right
      have cl : xc_ps_closes (c + 59) 376 (if b < 0 then -1 else m 376 3 + b) len m (fun r m1 => r = 1 ∧ c_ch m m1 376 ∧ c_st m1 376 W L (u_ce W L (b + len))) :=
        sp_closes (d := c + 52) J.1 hb.2 (fun _ _ _ _ m1 c1 s1 => ⟨rfl, c1, s1⟩) (fun z => absurd ⟨hb.1, z1, z2, z3⟩ z) (Or.inr hb.1)
      rw [eb] at cl
      obtain ⟨rc, mc, clr, nmc, ec, chc, stc⟩ := r_get cl hm (l_nsr (by decide) (l_nsi (by omega) (l_nsi hlen l_ns0)))
      have e15 : n' 428 15 = n 428 15 := f' _ _ (by omega) (by omega)
      have st' : s_st g mc n' := i1.go chc.lop.cf f'.mf (chc _ _ (by omega)) (chc _ _ (by omega)) e15 (f' _ _ (by omega) (by omega))
      have kw' : s_kw mc := i2.fr chc.lop.cf i1.1
      have Jc : e_J mc W L (u_ce W L (b + len)) := J.ch chc stc
      have mc3 : mc 376 3 = 0 := by rw [chc _ _ (by omega)]; exact m3
      have l395 : w_ln 395 = 8000 := w_ln_eq s0_395
      have hin : z_in mc 395 b len (fun i => W (b + i)) := by
        refine ⟨by decide, ⟨8000, s0_395⟩, ⟨1, 8000, s0_395, by decide, by decide⟩, hb.1, z1, by omega, by omega, by omega, fun i i0 i1 => ?_⟩
        have v := Jc.1.1.2.2.2.2.2.2.2.2.2 (b + i) (by omega) (by omega)
        rw [Jc.2, mc3, Int.zero_add] at v
        exact v
      have rn : 0 ≤ r ∧ r < n' 428 15 := ⟨r0, by rw [e15]; exact r1⟩
      have r7' : n' 432 r = 7 := by rw [f' _ _ (by omega) (by omega)]; exact r7
      obtain ⟨f, hf⟩ : ∃ f, f = s_fd n' (s_wd 21) (g.2.1 r) := ⟨_, rfl⟩
      obtain ⟨q, hq⟩ : ∃ q, q = s_fd n' (s_wd 22) (g.2.1 r) := ⟨_, rfl⟩
      have z27 : n' 428 27 = 0 := by rw [f' _ _ (by omega) (by omega)]; exact i6
      have e34 : n' 428 34 = n 428 34 := f' _ _ (by omega) (by omega)
      have e67 : n' 428 67 = n 428 67 := f' _ _ (by omega) (by omega)
      obtain ⟨d1, d2, d3, d4⟩ := i10
      have nsd : w_ns [(2, 378), (0, g.1 r), (2, 395), (0, b), (0, len)] := l_nsr (by decide) (l_nsi (by have := ndr.1; have := ndr.2.1; omega) (l_nsr (by decide) (l_nsi (by omega) (l_nsi hlen l_ns0))))
      -- the class behind decode, where it failed
      have goon : ∀ R : Int → w_M → Prop, (xc_fi_decode (c + 59) (g.1 r) 395 b len mc (fun r6 m6 => ((0 : Int) ≤ w ∧ w < 200) ∧ (xc_ta_setRoot (c + 59) k (m6 398 w) m6 (fun r7 m7 => if r6 = 0 then ((0 : Int) ≤ (m7 378 7) ∧ (xc_ta_setStream (c + 59) k (m7 378 7) (m7 378 8) m7 (fun r8 m8 => if r8 = 0 then (xc_ta_placeOf (c + 59) k m8 (fun r9 m9 => xc_ps_fail (c + 59) 376 8 r9 m9 (fun r10 m10 => R r10 m10))) else (if r6 = 0 then (R 0 (w_up m8 394 9 (w_32 ((m8 394 9) - 1)))) else (xc_ta_placeOf (c + 59) k m8 (fun r11 m11 => xc_ps_fail (c + 59) 376 r6 r11 m11 (fun r12 m12 => R r12 m12))))))) else (if r6 = 0 then (R 0 (w_up m7 394 9 (w_32 ((m7 394 9) - 1)))) else (xc_ta_placeOf (c + 59) k m7 (fun r13 m13 => xc_ps_fail (c + 59) 376 r6 r13 m13 (fun r14 m14 => R r14 m14)))))))) → xp_lo_readBody_141 (c + 59) w k x m R := fun R hR => by
        refine open141 R ?_
        refine clr.to ?_
        rw [ec, if_neg (by decide)]
        refine ⟨⟨hw.1, w199⟩, ⟨hw.1, w199⟩, ?_⟩
        refine sp_st_oneOf (d := c + 58) ?_
        have eo : f_st_oneOf mc x = len := by
          have : f_st_oneOf mc x = f_st_oneOf m x := by
            unfold f_st_oneOf
            rw [chc 359 6 (by omega), chc 361 x (by omega)]
          rw [this]; exact x2
        rw [eo, chc 398 w (by omega), chc 397 w (by omega), hwk.2.1, hwk.2.2]
        exact hR
      have plr : -2147483648 ≤ m 368 k ∧ m 368 k < 2147483648 := by omega
      -- behind decode the dict is the root
      have rootrun : ∀ m6, z_cf mc m6 → w_nm (w_G0 sC) m6 → w_nm (w_G0 sC) (w_up m6 370 k (g.1 r)) ∧ ∀ R : Int → w_M → Prop, R 0 (w_up m6 370 k (g.1 r)) → xc_ta_setRoot (c + 59) k (m6 398 w) m6 R := by
        intro m6 f6 nm6
        have g6 : ∀ i j, ¬ (376 ≤ i ∧ i ≤ 390) → m6 i j = m i j := fun i j z => by rw [f6 i j (by omega) (by omega) (by omega) (by omega)]; exact chc i j (by omega)
        have e398 : m6 398 w = g.1 r := by rw [g6 _ _ (by omega)]; exact hwk.2.2
        have run : xc_ta_setRoot (c + 59) k (g.1 r) m6 (w_q 0 (w_up m6 370 k (g.1 r))) := sp_setRoot_y (d := c + 57) (us.fr (g6 _ _ (by omega)) (g6 _ _ (by omega))) (by rw [g6 _ _ (by omega)]; exact hs) ⟨rfl, rfl⟩
        refine ⟨(w_C.ke run nm6 (l_nsr (by decide) (l_nsi (by omega) (l_nsi (by have := ndr.1; have := ndr.2.1; omega) l_ns0)))).1, fun R hR => ?_⟩
        rw [e398]
        exact run.to hR
      have c7 : ∀ {m6 : w_M}, z_cf mc m6 → l_c m (w_up m6 370 k (g.1 r)) := fun f6 => chc.qc.tr (f6.qc.tr (fun i j q1 q2 q3 q4 q5 q6 q7 q8 => l_up (by omega)))
      -- a filter was wrong
      have cbad : ∀ cc : Int, cc ≠ 0 → (-2147483648 ≤ cc ∧ cc < 2147483648) → xc_fi_decode (c + 59) (g.1 r) 395 b len mc (fun r6 m6 => r6 = cc ∧ z_cf mc m6) → ∀ n'', l_n n n'' → n'' 428 27 ≠ 0 → Q 0 n'' := by
        intro cc hc hcr run n'' fn z''
        obtain ⟨r6, m6, y1, nm6, y3, f6⟩ := r_get run nmc nsd
        obtain ⟨nm7, rt⟩ := rootrun m6 f6 nm6
        obtain ⟨mz, v1, v2, v3, v4⟩ := c_pf (c := c + 58) (x := cc) (y := m 368 k) nm7 hc hcr plr
        refine HF n'' mz fn z'' ((c7 f6).tr v1.qc) v2 v3 (fun R hR => ?_)
        refine goon R ?_
        refine y1.to ?_
        refine ⟨⟨hw.1, w199⟩, ?_⟩
        refine rt _ ?_
        rw [y3, if_neg hc, if_neg hc]
        have g7 : ∀ i j, ¬ (376 ≤ i ∧ i ≤ 390) → i ≠ 370 → (w_up m6 370 k (g.1 r)) i j = m i j := fun i j z zz => by rw [l_up (by omega), f6 i j (by omega) (by omega) (by omega) (by omega)]; exact chc i j (by omega)
        refine sp_placeOf_y (d := c + 57) (us.fr (g7 _ _ (by omega) (by omega)) (g7 _ _ (by omega) (by omega))) (by rw [g7 _ _ (by omega) (by omega)]; exact hs) ?_
        rw [g7 _ _ (by omega) (by omega)]
        exact v4 R hR
      refine r_keepStream (d := d) (I := fun i => W (b + i)) st' rn r7' hf hq ⟨hb.1, z1, by omega⟩ (fun i i0 i1 => by rw [f' _ _ (by omega) (by omega)]; exact i5.2.2.2 (b + i) (by omega) (by omega)) ⟨by rw [e67, e34]; exact d1, by omega, by omega⟩ z27 ⟨by omega, k2⟩ (fun z n2 f2 z2 => ⟨⟨by omega, k2⟩, ?_⟩) (fun o zo z hfit n2 g2 at2 by2 ol => ⟨⟨by omega, k2⟩, ?_⟩)
      · -- the bytes are wrong, or too many
        have fn : l_n n (w_up n2 456 k (w_8 2)) := f'.q1 (k := k) |>.qn.tr (fun i j q1 q2 q3 => by rw [l_up (by omega)]; exact f2 i j (by omega) (by omega) (by omega))
        have zz : (w_up n2 456 k (w_8 2)) 428 27 ≠ 0 := by rw [w_up_ne (by decide)]; exact z2
        by_cases zo : z_ok g n' f q
        · rcases hzr : z_run (z_do g n' q 0 (z_ns g n' f)) (fun i => W (b + i)) len with _ | o
          · exact cbad 8 (by decide) (by decide) (sp_fi_decode (d := c + 52) st' kw' rn r7' hf hq (by decide) hin (fun y => absurd zo y) (fun _ _ m6 f6 => ⟨rfl, f6⟩) (fun o _ y => by rw [hzr] at y; cases y)) _ fn zz
          · have over : 40000 < n' 428 34 + o.length := by
              rcases z with z | z | ⟨o', y1, y2⟩
              · exact absurd zo z
              · rw [hzr] at z; cases z
              · rw [hzr] at y1
                rw [Option.some.inj y1]
                exact y2
            have run : xc_fi_decode (c + 59) (g.1 r) 395 b len mc (fun r6 m6 => r6 = 0 ∧ z_cf mc m6 ∧ m6 378 8 = o.length ∧ (m6 378 7 = 387 ∨ m6 378 7 = 388) ∧ (o.length : Int) ≤ 8000) :=
              sp_fi_decode (d := c + 52) st' kw' rn r7' hf hq (by decide) hin (fun y => absurd zo y) (fun _ y => by rw [hzr] at y; cases y) (fun o' _ y R m6 hR f6 e8 e7 _ _ ol => by
                rw [hzr] at y
                have e := Option.some.inj y
                subst e
                exact ⟨rfl, f6, e8, by rw [e7]; exact hR, ol⟩)
            obtain ⟨r6, m6, y1, nm6, y3, f6, e8, e7, ol⟩ := r_get run nmc nsd
            obtain ⟨nm7, rt⟩ := rootrun m6 f6 nm6
            obtain ⟨mz, v1, v2, v3, v4⟩ := c_pf (c := c + 58) (x := 8) (y := m 368 k) nm7 (by decide) (by decide) plr
            refine HF _ mz fn zz ((c7 f6).tr v1.qc) v2 v3 (fun R hR => ?_)
            refine goon R ?_
            refine y1.to ?_
            refine ⟨⟨hw.1, w199⟩, ?_⟩
            refine rt _ ?_
            have g7 : ∀ i j, ¬ (376 ≤ i ∧ i ≤ 390) → i ≠ 370 → (w_up m6 370 k (g.1 r)) i j = m i j := fun i j z zz => by rw [l_up (by omega), f6 i j (by omega) (by omega) (by omega) (by omega)]; exact chc i j (by omega)
            have u7 := us.fr (g7 366 11 (by omega) (by omega)) (g7 367 k (by omega) (by omega))
            have hs7 : (w_up m6 370 k (g.1 r)) 366 11 ≤ 200 := by rw [g7 _ _ (by omega) (by omega)]; exact hs
            have e10 : (w_up m6 370 k (g.1 r)) 366 10 = n 428 34 := by rw [g7 _ _ (by omega) (by omega)]; exact d2
            have e78 : (w_up m6 370 k (g.1 r)) 378 8 = o.length := by rw [w_up_ne (by decide)]; exact e8
            have e77 : (w_up m6 370 k (g.1 r)) 378 7 = 387 ∨ (w_up m6 370 k (g.1 r)) 378 7 = 388 := by rw [w_up_ne (by decide)]; exact e7
            rw [y3, if_pos rfl]
            refine ⟨by omega, ?_⟩
            rw [e78]
            refine sp_setStream (d := c + 57) u7 hs7 e77 (by rw [e10]; exact d3) ⟨by omega, ol⟩ (fun _ => ?_) (fun zy => by rw [e10] at zy; omega)
            rw [if_pos rfl]
            refine sp_placeOf_y (d := c + 57) u7 hs7 ?_
            rw [g7 _ _ (by omega) (by omega)]
            exact v4 R hR
        · exact cbad 7 (by decide) (by decide) (sp_fi_decode (d := c + 52) st' kw' rn r7' hf hq (by decide) hin (fun _ m6 f6 => ⟨rfl, f6⟩) (fun y => absurd y zo) (fun o y => absurd y zo)) _ fn zz
      · -- all is well
        have run : xc_fi_decode (c + 59) (g.1 r) 395 b len mc (fun r6 m6 => r6 = 0 ∧ z_cf mc m6 ∧ m6 378 8 = o.length ∧ (m6 378 7 = 387 ∨ m6 378 7 = 388) ∧ z_at m6 (m6 378 7) o) :=
          sp_fi_decode (d := c + 52) st' kw' rn r7' hf hq (by decide) hin (fun y => absurd zo y) (fun _ y => by rw [z] at y; cases y) (fun o' _ y R m6 hR f6 e8 e7 a6 _ _ => by
            rw [z] at y
            have e := Option.some.inj y
            subst e
            exact ⟨rfl, f6, e8, by rw [e7]; exact hR, by rw [e7]; exact a6⟩)
        obtain ⟨r6, m6, y1, nm6, y3, f6, e8, e7, at6⟩ := r_get run nmc nsd
        obtain ⟨nm7, rt⟩ := rootrun m6 f6 nm6
        obtain ⟨m7, hm7⟩ : ∃ m7, m7 = w_up m6 370 k (g.1 r) := ⟨_, rfl⟩
        rw [← hm7] at nm7 rt
        obtain ⟨S, hS⟩ : ∃ S : Int, S = o.length := ⟨_, rfl⟩
        rw [← hS] at hfit ol e8 ⊢
        have S0 : 0 ≤ S := by omega
        have g7 : ∀ i j, ¬ (376 ≤ i ∧ i ≤ 390) → ¬ (i = 370 ∧ j = k) → m7 i j = m i j := fun i j z zz => by rw [hm7, l_up zz, f6 i j (by omega) (by omega) (by omega) (by omega)]; exact chc i j (by omega)
        have g76 : ∀ i j, i ≠ 370 → m7 i j = m6 i j := fun i j z => by rw [hm7, l_up (by omega)]
        have u7 := us.fr (g7 366 11 (by omega) (by omega)) (g7 367 k (by omega) (by omega))
        have hs7 : m7 366 11 ≤ 200 := by rw [g7 _ _ (by omega) (by omega)]; exact hs
        have e10 : m7 366 10 = n 428 34 := by rw [g7 _ _ (by omega) (by omega)]; exact d2
        have e78 : m7 378 8 = S := by rw [g76 _ _ (by decide)]; exact e8
        have e77 : m7 378 7 = 387 ∨ m7 378 7 = 388 := by rw [g76 _ _ (by decide)]; exact e7
        obtain ⟨R0, hR0⟩ : ∃ R0, R0 = m7 378 7 := ⟨_, rfl⟩
        have e670 : m6 378 7 = R0 := by rw [hR0]; exact (g76 _ _ (by decide)).symm
        rw [← hR0] at e77
        rw [e670] at at6
        have set1 : xc_ta_setStream (c + 59) k R0 S m7 (w_q 1 (l_ks m7 k R0 S)) := sp_setStream (d := c + 57) u7 hs7 e77 (by rw [e10]; exact d3) ⟨S0, ol⟩ (fun zy => by rw [e10] at zy; omega) (fun _ => ⟨rfl, rfl⟩)
        have nm8 := (w_C.ke set1 nm7 (l_nsr (by decide) (l_nsi (by omega) (l_nsr (by omega) (l_nsi (by omega) l_ns0))))).1
        obtain ⟨m8, hm8⟩ : ∃ m8, m8 = l_ks m7 k R0 S := ⟨_, rfl⟩
        rw [← hm8] at nm8 set1
        have g8 : ∀ i j, ¬ (i = 375 ∧ n 428 34 ≤ j ∧ j < n 428 34 + S) → ¬ (371 ≤ i ∧ i ≤ 372 ∧ j = k) → ¬ (i = 366 ∧ j = 10) → m8 i j = m7 i j := fun i j q1 q2 q3 => by
          rw [hm8]
          unfold l_ks
          rw [l_up (by omega), l_up (by omega), l_up (by omega)]
          unfold w_cpy
          rw [if_neg (by omega)]
        have e9 : m8 394 9 = w + 1 := by rw [g8 _ _ (by omega) (by omega) (by omega), g7 _ _ (by omega) (by omega)]; exact hw.2
        obtain ⟨m9, hm9⟩ : ∃ m9, m9 = w_up m8 394 9 w := ⟨_, rfl⟩
        have nm9 : w_nm (w_G0 sC) m9 := by
          rw [hm9]
          exact w_pf_nm (k := 9) (s := 0) nm8 (by decide) (w_sh0_eq.trans s0_394) (w_EC (by decide)) rfl (by show (-2147483648 : Int) ≤ w ∧ w < 2147483648; omega)
        have g9 : ∀ i j, ¬ (i = 394 ∧ j = 9) → m9 i j = m8 i j := fun i j z => by rw [hm9, l_up z]
        have ga : ∀ i j, ¬ (376 ≤ i ∧ i ≤ 390) → ¬ (370 ≤ i ∧ i ≤ 372 ∧ j = k) → ¬ (i = 375 ∧ n 428 34 ≤ j ∧ j < n 428 34 + S) → ¬ (i = 366 ∧ j = 10) → ¬ (i = 394 ∧ j = 9) → m9 i j = m i j := fun i j q1 q2 q3 q4 q5 => by
          rw [g9 i j q5, g8 i j q3 (by omega) q4, g7 i j q1 (by omega)]
        have go6 : ∀ j, m9 376 j = mc 376 j := fun j => by
          rw [g9 _ _ (by omega), g8 _ _ (by omega) (by omega) (by omega), g76 _ _ (by decide), f6 _ _ (by omega) (by omega) (by omega) (by omega)]
        have g378 : ∀ j, 8 ≤ j → j ≤ 10 → m9 376 j = m 376 j := fun j q1 q2 => by rw [go6, chc _ _ (by omega)]
        -- the reference
        obtain ⟨n9, hn9⟩ : ∃ n9, n9 = w_up (l_kp n2 k S) 456 k (w_8 2) := ⟨_, rfl⟩
        rw [← hn9]
        have h9 : ∀ i j, ¬ (i = 428 ∧ (j = 34 ∨ j = 67)) → ¬ ((456 ≤ i ∧ i ≤ 459) ∧ j = k) → n9 i j = n2 i j := fun i j q1 q2 => by
          rw [hn9]
          unfold l_kp
          rw [l_up (by omega), l_up (by omega), l_up (by omega), l_up (by omega), l_up (by omega), l_up (by omega)]
        have h2 : ∀ i j, ¬ (i = 428 ∧ ((21 ≤ j ∧ j ≤ 26) ∨ (37 ≤ j ∧ j ≤ 40) ∨ j = 79)) → ¬ (442 ≤ i ∧ i ≤ 450) → ¬ (i = 441 ∧ n 428 34 ≤ j) → ¬ (i = 440 ∧ n 428 17 ≤ j ∧ j < 140000) → n2 i j = n i j := fun i j q1 q2 q3 q4 => by
          rw [g2 i j (by omega) q2 (by rw [e34]; exact q3)]
          exact f' i j (by omega) q4
        have n34 : n2 428 34 = n 428 34 := h2 _ _ (by omega) (by omega) (by omega) (by omega)
        have n67 : n2 428 67 = n 428 67 := h2 _ _ (by omega) (by omega) (by omega) (by omega)
        have v34 : n9 428 34 = n 428 34 + S := by
          rw [hn9, w_up_ne (by decide)]
          unfold l_kp
          rw [w_up_nb (by decide), w_up_eq, n34]
        have v67 : n9 428 67 = n 428 67 + S := by
          rw [hn9, w_up_ne (by decide)]
          unfold l_kp
          rw [w_up_eq, n67]
        have v56 : n9 456 k = 2 := by rw [hn9, w_up_eq]; exact w_8_id (by decide) (by decide)
        have v57 : n9 457 k = 1 := by
          rw [hn9, w_up_ne (by decide)]
          unfold l_kp
          rw [w_up_ne (by decide), w_up_ne (by decide), w_up_ne (by decide), w_up_ne (by decide), w_up_eq]
        have v58 : n9 458 k = n 428 34 := by
          rw [hn9, w_up_ne (by decide)]
          unfold l_kp
          rw [w_up_ne (by decide), w_up_ne (by decide), w_up_ne (by decide), w_up_eq, n34]
        have v59 : n9 459 k = S := by
          rw [hn9, w_up_ne (by decide)]
          unfold l_kp
          rw [w_up_ne (by decide), w_up_ne (by decide), w_up_eq]
        have mf9 : s_mf n n9 := by
          have e1 := h9 428 15 (by omega) (by omega)
          have e2 := h9 428 17 (by omega) (by omega)
          have e3 := h2 428 15 (by omega) (by omega) (by omega) (by omega)
          have e4 := h2 428 17 (by omega) (by omega) (by omega) (by omega)
          exact ⟨by omega, by omega, fun i j q1 q2 _ _ => by rw [h9 i j (by omega) (by omega)]; exact h2 i j (by omega) (by omega) (by omega) (by omega), fun j q => by rw [h9 440 j (by omega) (by omega)]; exact h2 440 j (by omega) (by omega) (by omega) (by omega)⟩
        have n9o : ∀ i j, ¬ (i = 428 ∧ (j = 34 ∨ j = 67 ∨ (21 ≤ j ∧ j ≤ 26) ∨ (37 ≤ j ∧ j ≤ 40) ∨ j = 79)) → ¬ ((456 ≤ i ∧ i ≤ 459) ∧ j = k) → ¬ (440 ≤ i ∧ i ≤ 450) → n9 i j = n i j := fun i j q1 q2 q3 => by
          rw [h9 i j (by omega) q2]
          exact h2 i j (by omega) (by omega) (by omega) (by omega)
        have cf9 : s_cf m m9 := by
          have e1 := ga 359 6 (by omega) (by omega) (by omega) (by omega) (by omega)
          have e2 := ga 359 7 (by omega) (by omega) (by omega) (by omega) (by omega)
          exact ⟨by omega, by omega, fun i j q1 q2 _ _ => ga i j (by omega) (by omega) (by omega) (by omega) (by omega), fun j _ => ga 365 j (by omega) (by omega) (by omega) (by omega) (by omega)⟩
        have c9 : l_c m m9 := fun i j q1 q2 q3 q4 q5 q6 q7 q8 => ga i j (by omega) (by omega) (by omega) (by omega) (by omega)
        have l9 : l_n n n9 := fun i j q1 q2 q3 => n9o i j (by omega) (by omega) (by omega)
        have e155 : n9 455 k = r := by rw [n9o _ _ (by omega) (by omega) (by omega)]; exact hr
        have J9 : e_J m9 W L (u_ce W L (b + len)) := by
          refine ⟨stc.far go6 (fun j => ?_), by rw [go6]; exact Jc.2⟩
          rw [Jc.2, ga _ _ (by omega) (by omega) (by omega) (by omega) (by omega), chc _ _ (by omega)]
        have I9 : l_I g m9 n9 W L C := by
          refine ⟨i1.go cf9 mf9 (ga _ _ (by omega) (by omega) (by omega) (by omega) (by omega)) (ga _ _ (by omega) (by omega) (by omega) (by omega) (by omega)) (n9o _ _ (by omega) (by omega) (by omega)) (n9o _ _ (by omega) (by omega) (by omega)), i2.fr cf9 i1.1,
            i3.fr (ga _ _ (by omega) (by omega) (by omega) (by omega) (by omega)) (fun j => ga _ _ (by omega) (by omega) (by omega) (by omega) (by omega)), ⟨by rw [g378 _ (by decide) (by decide)]; exact i4.1, by rw [go6, chc _ _ (by omega)]; exact i4.2⟩,
            l_F.fr i5 (n9o _ _ (by omega) (by omega) (by omega)) (fun j => n9o _ _ (by omega) (by omega) (by omega)), by rw [n9o _ _ (by omega) (by omega) (by omega)]; exact i6, ?_, ?_, ?_, ?_, ?_, ?_, ?_, ?_, ?_⟩
          · unfold s_ct at i7 ⊢
            rw [ga _ _ (by omega) (by omega) (by omega) (by omega) (by omega), g378 8 (by decide) (by decide), n9o 428 29 (by omega) (by omega) (by omega), n9o 428 30 (by omega) (by omega) (by omega), n9o 428 15 (by omega) (by omega) (by omega)]
            exact i7
          · unfold l_mx at i8 ⊢
            rw [g378 9 (by decide) (by decide), ga 359 7 (by omega) (by omega) (by omega) (by omega) (by omega), n9o 428 31 (by omega) (by omega) (by omega), n9o 428 32 (by omega) (by omega) (by omega), n9o 428 17 (by omega) (by omega) (by omega)]
            exact i8
          · rw [ga 366 11 (by omega) (by omega) (by omega) (by omega) (by omega), ga 366 12 (by omega) (by omega) (by omega) (by omega) (by omega), n9o 428 60 (by omega) (by omega) (by omega)]
            exact i9
          · refine ⟨by rw [v67, v34, d1], ?_, by rw [v34]; omega, fun i q1 q2 => ?_⟩
            · rw [g9 _ _ (by omega), hm8, v34]
              unfold l_ks
              rw [w_up_eq, e10]
            · rw [v34] at q2
              rw [g9 _ _ (by omega), h9 _ _ (by omega) (by omega)]
              by_cases qq : i < n 428 34
              · rw [g8 _ _ (by omega) (by omega) (by omega), g7 _ _ (by omega) (by omega), h2 _ _ (by omega) (by omega) (by omega) (by omega)]
                exact d4 i q1 qq
              · have ej : ∃ j : Nat, i = n 428 34 + j ∧ j < o.length := ⟨(i - n 428 34).toNat, by omega, by omega⟩
                obtain ⟨j, ej1, ej2⟩ := ej
                have t2 := at2 j ej2
                rw [e34, ← ej1] at t2
                rw [t2, hm8]
                unfold l_ks
                rw [l_up (by omega), l_up (by omega), l_up (by omega), e10]
                unfold w_cpy
                rw [if_pos (show (375 : Int) = 375 ∧ n 428 34 ≤ i ∧ i < n 428 34 + S by omega), show i - n 428 34 + 0 = (j : Int) by omega]
                have := at6 j ej2
                rw [← g76 _ _ (by omega)] at this
                exact this
          · exact l_tl.fr i11 i1 s_ex.rf cf9 mf9 (fun j => ga _ _ (by omega) (by omega) (by omega) (by omega) (by omega)) (fun j hj => n9o _ _ (by omega) (by omega) (by omega))
          · intro x x0 x1
            by_cases xk : x = k
            · subst xk
              refine Or.inr ?_
              rw [n9o 451 x (by omega) (by omega) (by omega), n9o 452 x (by omega) (by omega) (by omega), n9o 453 x (by omega) (by omega) (by omega), n9o 428 60 (by omega) (by omega) (by omega), ga 367 x (by omega) (by omega) (by omega) (by omega) (by omega), ga 368 x (by omega) (by omega) (by omega) (by omega) (by omega), ga 369 x (by omega) (by omega) (by omega) (by omega) (by omega), v56, e155]
              refine ⟨a1, a2, a3, a4, a5, ⟨a6.1, fun z _ => a6.2 z (by omega)⟩, Or.inr (Or.inr rfl), fun _ => by decide, ?_, fun _ => tr.fr i1 s_ex.rf mf9, fun z => absurd rfl z, fun _ => ⟨?_, Or.inr ⟨v57, ?_, ?_, ?_, ?_, ?_, ?_, ?_⟩⟩⟩
              · rw [a9, if_neg (show ¬ (n 451 x = 2 ∧ n 456 x = 2) by omega), if_neg (show ¬ (n 451 x = 2 ∧ (2 : Int) = 2) by omega)]
              · rw [g9 _ _ (by omega), g8 _ _ (by omega) (by omega) (by omega), hm7, w_up_eq]
              · rw [e155, n9o _ _ (by omega) (by omega) (by omega)]; exact r7
              · rw [g9 _ _ (by omega), hm8, v58]
                unfold l_ks
                rw [w_up_ne (by decide), w_up_ne (by decide), w_up_eq, e10]
              · rw [g9 _ _ (by omega), hm8, v59]
                unfold l_ks
                rw [w_up_ne (by decide), w_up_eq]
              · rw [v58]; omega
              · rw [v59]; omega
              · rw [v59]; exact ol
              · rw [v58, v59, v34]; omega
            · exact (i12 x x0 x1).fr (fun i q1 q2 => ga _ _ (by omega) (by omega) (by omega) (by omega) (by omega)) (fun i q1 q2 => n9o _ _ (by omega) (by omega) (by omega)) (n9o _ _ (by omega) (by omega) (by omega)) (by rw [v34]; omega) i1 s_ex.rf mf9
          · have e99 : m9 394 9 = w := by rw [hm9, w_up_eq]
            obtain ⟨w1, w2, w3, w4⟩ := i13
            unfold l_wt
            rw [e99]
            refine ⟨hw.1, fun i j q1 q2 q3 => ?_, fun i q1 q2 => ?_, fun x x0 x1 x2 => ?_⟩
            · rw [ga 396 i (by omega) (by omega) (by omega) (by omega) (by omega), ga 396 j (by omega) (by omega) (by omega) (by omega) (by omega)]
              exact w2 i j q1 q2 (by omega)
            · obtain ⟨t1, t2, t3, t4, t5⟩ := w3 i q1 (by omega)
              have ne : m 396 i ≠ k := by
                have := w2 i w q1 q2 (by omega)
                rw [hwk.1] at this
                exact this
              have lt : n 455 (m 396 i) < n 428 15 ∧ 0 ≤ n 455 (m 396 i) := by
                have o := (i12 (m 396 i) (by omega) (by omega)).resolve_left (fun z => by omega)
                have t := o.2.2.2.2.2.2.2.2.2.1 (by omega)
                have := t.1; have := t.2.1; have := t.2.2.1
                omega
              rw [ga 396 i (by omega) (by omega) (by omega) (by omega) (by omega), ga 398 i (by omega) (by omega) (by omega) (by omega) (by omega), n9o 428 60 (by omega) (by omega) (by omega), n9o 451 _ (by omega) (by omega) (by omega), n9o 456 _ (by omega) (by omega) (by omega), n9o 455 _ (by omega) (by omega) (by omega), n9o 432 _ (by omega) (by omega) (by omega)]
              exact ⟨t1, t2, t3, t4, t5⟩
            · have xk : x ≠ k := fun z => by rw [z, v56] at x2; omega
              rw [n9o 456 x (by omega) (by omega) (by omega)] at x2
              obtain ⟨i, q1, q2, q3⟩ := w4 x x0 x1 x2
              have iw : i ≠ w := fun z => by rw [z, hwk.1] at q3; exact xk q3.symm
              refine ⟨i, q1, by omega, ?_⟩
              rw [ga 396 i (by omega) (by omega) (by omega) (by omega) (by omega)]
              exact q3
          · refine i14.put i1 i12 s_ex.rf cf9 (fun x x0 x1 x2 => ⟨?_, n9o _ _ (by omega) (by omega) (by omega)⟩) (fun c' q1 q2 => ?_)
            · by_cases xk : x = k
              · rw [xk, v56]; decide
              · rw [n9o _ _ (by omega) (by omega) (by omega)]; exact x2
            · have := ga 359 6 (by omega) (by omega) (by omega) (by omega) (by omega)
              omega
          · intro _
            exact ⟨⟨_, J9⟩, by rw [go6]; exact mc3⟩
        refine HG n9 m9 I9 nm9 l9 c9 cf9 mf9 (by rw [hm9, w_up_eq]) (fun i j q1 q2 => ga _ _ (by omega) (by omega) (by omega) (by omega) (by omega)) v56 (fun j q => n9o _ _ (by omega) (by omega) (by omega)) (fun j => n9o _ _ (by omega) (by omega) (by omega)) (fun R hR => ?_)
        refine goon R ?_
        refine y1.to ?_
        refine ⟨⟨hw.1, w199⟩, ?_⟩
        refine rt _ ?_
        rw [y3, if_pos rfl, e78, ← hR0]
        refine ⟨by omega, ?_⟩
        refine set1.to ?_
        rw [if_neg (by decide), if_pos rfl, e9, w_32_id (x := w + 1 - 1) (by omega) (by omega), show w + 1 - 1 = w by omega, ← hm9]
        exact hR
    · -- the ends are wrong
      have cl : xc_ps_closes (c + 59) 376 (if b < 0 then -1 else m 376 3 + b) len m (fun r m1 => r = 0 ∧ c_ch m m1 376) :=
        sp_closes (d := c + 52) J.1 hb.2 (fun y0 y1 y2 y3 => absurd ⟨y1, y2, y3⟩ z) (fun _ m1 c1 _ => ⟨rfl, c1⟩) (Or.inr hb.1)
      rw [eb] at cl
      obtain ⟨rc, mc, clr, nmc, ec, chc⟩ := r_get cl hm (l_nsr (by decide) (l_nsi (by omega) (l_nsi hlen l_ns0)))
      obtain ⟨mz, v1, v2, v3, v4⟩ := fo mc chc.lop nmc
      refine HF n' mz (f'.q1).qn z' (chc.qc.tr v1.qc) v2 v3 (fun R hR => ?_)
      refine open141 R ?_
      refine clr.to ?_
      rw [ec, if_pos rfl]
      exact v4 R hR
  · refine r_269 (d := d + 6) (r := r) hv h18 i5.2.2.1 L8 ⟨u17.1, by omega⟩ i6 ⟨by omega, k2⟩ hb hlen.2 (fun z1 => by omega) (fun z n' f' z' => ?_)
    obtain ⟨mz, v1, v2, v3, v4⟩ := fo m l_op.rf hm
    refine HF n' mz (f'.q1).qn z' v1.qc v2 v3 (fun R hR => ?_)
    apply xr_lo_readBody_141
    refine sp_st_kindOf (d := c + 58) ?_
    rw [if_neg x1]
    exact v4 R hR
end SD2
