/-! ===== a section that is a row stream, both sides ===== -/
theorem e_ro.l {m m' : w_M} (h : e_ro m m') : l_cf m m' := fun i j q1 q2 q3 q4 q5 => h i j (by omega) (by omega) (by omega) (by omega) (by omega) (by omega) (by omega) (by omega)
theorem e_ro.s {m m' : w_M} (h : e_ro m m') : s_cf m m' := by
  have e6 := h.big 359 6 (by decide)
  have e7 := h.big 359 7 (by decide)
  exact ⟨by omega, by omega, fun a b q1 q2 _ _ => h.big a b (by omega), fun b _ => h.big 365 b (by decide)⟩
theorem e_ma.s {n n' : w_M} (h : e_ma n n') : s_mf n n' := by
  have e1 := h 428 15 (by omega) (by omega)
  have e2 := h 428 17 (by omega) (by omega)
  exact ⟨by omega, by omega, fun a b q1 q2 _ _ => h a b (by omega) (by omega), fun b q => h 440 b (by omega) (by omega)⟩
theorem e_r2_one {g : s_g} {n : w_M} {W : Int → Int} {L b q : Int} {es es' : List e_E} (h : e_r2 g n W L b q es) (h' : e_r2 g n W L b q es') : es = es' := by
  obtain ⟨_, _, o, y1, _, _, y2⟩ := h
  obtain ⟨_, _, o', z1, _, _, z2⟩ := h'
  rw [y1] at z1
  rw [← Option.some.inj z1, y2] at z2
  exact (Prod.mk.inj (Option.some.inj z2)).1
theorem r_ns4 {x B : Int} (hx : -2147483648 ≤ x ∧ x < 2147483648) (hB : 0 ≤ B ∧ B ≤ 2147483647) : w_ns [(2, 391), (0, x), (0, B), (2, 395)] := by
  intro v hv
  rcases List.mem_cons.mp hv with e | hv
  · subst e; show (0 : Int) ≤ 391; decide
  · rcases List.mem_cons.mp hv with e | hv
    · subst e; exact hx
    · rcases List.mem_cons.mp hv with e | hv
      · subst e; show -2147483648 ≤ B ∧ B < 2147483648; omega
      · rcases List.mem_cons.mp hv with e | hv
        · subst e; show (0 : Int) ≤ 395; decide
        · cases hv
section SU
variable {d : Nat} {g g' : s_g} {m m' m0 m1 m2 m3 m5 n n' n1 n2 n3 n4 n5 : w_M} {Q : Int → w_M → Prop} {W : Int → Int} {L p a b B v e F j l3 l4 C : Int} {es : List e_E}
theorem e_rows (h : e_Y g m n W L) (hm : w_nm (w_G0 sC) m) (hb : ¬ e_bad n B L) (hB : 0 ≤ B ∧ B ≤ 2147483647) (hx : ¬ t_is W L B e_xref) (hP : e_P n n2 (n 428 61) B L) (h21 : n2 428 21 = B) :
    xc_m_rowStream (d + 60) B n2 (fun r6 m6 => xp_m_section_218 (d + 60) B 0 r6 m6 (fun r' n1 => xc_se_read (d + 60) B 395 m (fun r m1 => e_post m n W L r m1 r' n1))) := by
  obtain ⟨X, y0, y1, y2, y3, y4, y5, yz⟩ := id h
  have hBL : B < L := Int.not_le.mp (fun z => hb (Or.inr (Or.inr z)))
  obtain ⟨C0J, C0l, C0T, C0f⟩ := e_C0.J h ⟨hB.1, by omega⟩
  have st := X.1
  have bd := st.1
  have F0 := X.2.2.2.2.2.2.1
  have L8 := F0.2.1
  obtain ⟨v2, F2⟩ := hP.vm F0
  obtain ⟨m0, hm0⟩ : ∃ m0, m0 = e_C0 m (n 428 61) B := ⟨_, rfl⟩
  rw [← hm0] at C0J C0l C0T C0f
  have j9 : n 428 61 ≠ 10 := fun z => hb (Or.inr (Or.inl z))
  have nm0 : w_nm (w_G0 sC) m0 := by rw [hm0]; exact e_C0_nm hm (by omega) ⟨hB.1, by omega⟩
  have wh : xc_ps_wordHere (d + 59) 376 26 m0 (fun r1 m1 => r1 = 0 ∧ c_ch m0 m1 376 ∧ e_J m1 W L B) :=
    sp_wordHere (d := d + 53) t_cxref C0J.1 (fun z => absurd z hx) (fun _ m1 c s => ⟨rfl, c, C0J.ch c s⟩)
  obtain ⟨r1, m1, wrun, nm1, wr, wc, wJ⟩ := r_get wh nm0 r_ns376
  have start : ∀ Q, xp_se_read_152 (d + 59) B 395 1 m1 Q → xc_se_read (d + 60) B 395 m Q := by
    intro Q hQ
    refine c_sec (d := d + 58) h hB hb ?_
    rw [← hm0]
    refine wrun.to ?_
    rw [wr, if_pos rfl]
    exact hQ
  have T1 : e_cT m1 = (m 367, m 368, m 369, -1) := by
    rw [← C0T]
    unfold e_cT
    rw [wc 391 11 (by omega), funext (fun x => wc 367 x (by omega)), funext (fun x => wc 368 x (by omega)), funext (fun x => wc 369 x (by omega))]
  have l1 : l_cf m m1 := C0l.tr wc.l
  have m13 : m1 376 3 = 0 := by rw [wc _ _ (by omega), C0f _ _ (by omega) (by omega) (by omega)]; exact X.2.2.2.1
  -- a head that is none
  have early : ¬ (e_hd W L B ∧ 1 ≤ e_un W L (e_p1 W L B) ∧ e_un W L (e_p1 W L B) < 200 ∧ e_un W L (e_p2 W L B) = 0) → ∀ n', l_mf n n' → n' 428 27 ≠ 0 → ∀ r6, xp_m_section_218 (d + 60) B 0 r6 n' (fun r' n1 => xc_se_read (d + 60) B 395 m (fun r m1 => e_post m n W L r m1 r' n1)) := by
    intro z n' fn h27 r6
    refine r_218_bad (d := d + 59) h27 ?_
    refine start _ ?_
    apply xr_se_read_152
    rw [if_neg (by decide)]
    refine sp_headsRows (d := d + 51) wJ ⟨hB.1, by omega⟩ m13 (fun z1 z2 z3 z4 => absurd ⟨z1, z2, z3, z4⟩ z) (fun _ m2 c2 => ?_)
    rw [if_pos rfl]
    exact c_198_bad (d := d + 58) (fun m' f6 h6 => ⟨l1.tr (c2.l.tr (fun i j q1 q2 q3 q4 q5 => f6 i j (by omega))), fn, Or.inl ⟨rfl, h6, h27⟩⟩)
  have p17 : n2 428 17 = n 428 17 := hP.1 _ _ (by omega) (by omega) (by omega)
  have u17 : 0 ≤ n 428 17 ∧ n 428 17 ≤ 60000 := by
    obtain ⟨_, _, _, _, _, _, _, _, _, _, _, _, u1, u2, u3⟩ := X
    omega
  have G2 : e_G n2 W L B := ⟨⟨v2, by omega, h21, hB.1, by omega⟩, Or.inl hP.2.2.2.2.1, by rw [p17]; omega, by rw [p17]; omega⟩
  have z27 : n2 428 27 = 0 := by rw [hP.1 _ _ (by omega) (by omega) (by omega)]; exact X.2.2.2.2.2.2.2.1
  apply xr_m_rowStream
  refine r_header (d := d + 53) G2 (fun hd n3 c3 G3 e77 e78 => ?_) (fun hd n3 c3 => ?_)
  · rw [if_neg (by decide), e77, e78]
    have z273 : n3 428 27 = 0 := by rw [c3 _ _ (by omega) (by omega)]; exact z27
    have lm3 : l_mf n n3 := hP.l.tr c3.l
    have failh : ¬ (e_hd W L B ∧ 1 ≤ e_un W L (e_p1 W L B) ∧ e_un W L (e_p1 W L B) < 200 ∧ e_un W L (e_p2 W L B) = 0) → xc_m_fail (d + 59) 3 B n3 (fun r2 m2 => xp_m_section_218 (d + 60) B 0 (-1) m2 (fun r' n1 => xc_se_read (d + 60) B 395 m (fun r m1 => e_post m n W L r m1 r' n1))) := by
      intro z
      refine sp_m_fail ?_
      exact early z _ (lm3.tr m_fl_l) (m_fl_ne z273 (by decide)) _
    by_cases q1 : e_un W L (e_p1 W L B) < 1
    · rw [if_pos q1]; exact failh (fun z => by omega)
    · rw [if_neg q1]
      by_cases q2 : e_un W L (e_p1 W L B) < 200
      · rw [if_pos q2]
        by_cases q3 : e_un W L (e_p2 W L B) = 0
        · rw [if_pos q3]
          obtain ⟨ph, hph⟩ : ∃ ph, ph = e_p3 W L B + 3 := ⟨_, rfl⟩
          rw [← hph] at G3
          -- the class, up to its dict
          have rt : xc_se_headsRows (d + 59) B m1 (fun r2 m2 => r2 = 1 ∧ c_ch m1 m2 376 ∧ e_J m2 W L ph) :=
            sp_headsRows (d := d + 51) wJ ⟨hB.1, by omega⟩ m13 (fun _ _ _ _ m2 c2 J2 => ⟨rfl, c2, by rw [hph]; exact J2⟩) (fun z => absurd ⟨hd, by omega, q2, q3⟩ z)
          obtain ⟨r2, m2, trun, nm2, tr, tc, tJ⟩ := r_get rt nm1 (r_ns391 hB)
          refine r_tok (d := d + 54) G3 (fun n5 t5 k5 => ?_)
          have c02 : c_ch m0 m2 376 := wc.tr tc
          have sc2 : s_cf m m2 := by
            have b1 := C0f 359 6 (by omega) (by omega) (by omega)
            have b2 := C0f 359 7 (by omega) (by omega) (by omega)
            have a1 := c02 359 6 (by omega)
            have a2 := c02 359 7 (by omega)
            exact ⟨by omega, by omega, fun i k q1 q2 _ _ => by rw [c02 i k (by omega)]; exact C0f i k (by omega) (by omega) (by omega), fun k _ => by rw [c02 365 k (by omega)]; exact C0f _ _ (by omega) (by omega) (by omega)⟩
          have q6 : m2 359 6 = m 359 6 := by rw [c02 _ _ (by omega)]; exact C0f _ _ (by omega) (by omega) (by omega)
          have q7 : m2 359 7 = m 359 7 := by rw [c02 _ _ (by omega)]; exact C0f _ _ (by omega) (by omega) (by omega)
          have sm5 : s_mf n n5 := (hP.s.tr c3.s).tr t5.fr.mf
          have n5o : ∀ k : Int, ¬ ((18 ≤ k ∧ k ≤ 26) ∨ k = 75 ∨ k = 77 ∨ k = 78) → n5 428 k = n 428 k := fun k z => by
            rw [t5 _ _ (by omega) (by omega), c3 _ _ (by omega) (by omega), hP.1 _ _ (by omega) (by omega) (by omega)]
          have st5 : s_st g m2 n5 := st.go sc2 sm5 q6 q7 (n5o _ (by omega)) (n5o _ (by omega))
          have m2o : ∀ k : Int, ¬ (k = 4 ∨ (11 ≤ k ∧ k ≤ 16)) → m2 376 k = m 376 k := fun k z => by
            rw [c02 _ _ (by omega)]
            exact C0f _ _ (by omega) (by omega) (by omega)
          have h527 : n5 428 27 = 0 := by rw [n5o 27 (by omega)]; exact X.2.2.2.2.2.2.2.1
          have h518 : n5 428 18 = 430 := by
            rw [t5 _ _ (by omega) (by omega), c3 _ _ (by omega) (by omega)]
            exact hP.2.2.2.2.1
          have v5 : v_m n5 W L := G3.1.1.fr G3.2.1 t5.fr
          have J5 : s_J g m2 n5 376 W L ph := X.J tJ st5 (by rw [m2o 6 (by omega)]; exact X.2.2.2.2.2.1) h527 v5 h518 (fun k z => m2o k (by omega)) q6 q7 (fun k z => n5o k (by omega))
          have kw2 : s_kw m2 := X.2.1.fr sc2 bd
          refine w_C.nm (fun nm5 => ?_)
          obtain ⟨r, m6, r', n6, crun, nm6, mrun, nm6', sR⟩ := s_objE (d := d + 5) J5 nm2 nm5 (by rw [m2o 10 (by omega)]; exact X.2.2.2.2.1) k5
          refine mrun.to ?_
          have upto : ∀ Q, xp_se_read_198 (d + 59) B 395 1 (m2 359 6) r m6 Q → xc_se_read (d + 60) B 395 m Q := by
            intro Q hQ
            refine start _ ?_
            apply xr_se_read_152
            rw [if_neg (by decide)]
            refine trun.to ?_
            rw [tr, if_neg (by decide)]
            exact crun.to hQ
          have l2 : l_cf m m2 := l1.tr tc.l
          have l5 : l_mf n n5 := lm3.tr t5.l
          rcases sR with sB | sO
          · obtain ⟨u1, u2, u3, u4, u5, u6⟩ := sB
            have f27 : n6 428 27 ≠ 0 := by rw [← u3]; exact u2
            have l6 : l_cf m m6 := l2.tr (u5.l st5.1)
            have l6' : l_mf n n6 := l5.tr u6.l
            refine r_gd ?_
            rw [if_neg f27, if_pos rfl]
            refine r_218_bad (d := d + 59) f27 ?_
            refine upto _ ?_
            rw [u1]
            exact c_198_bad (d := d + 58) (fun m' f6 h6 => ⟨l6.tr (fun i j q1 q2 q3 q4 q5 => f6 i j (by omega)), l6', Or.inl ⟨rfl, h6, f27⟩⟩)
          · obtain ⟨g', e', o1, o2, o3, o4, o5, o6, o7, o8, o9⟩ := sO
            obtain ⟨p1, p2, p3, p4, p5, p6, p7, p8, p9⟩ := o9
            have l6 : l_cf m m6 := l2.tr (o7.l st5.1)
            have l6' : l_mf n n6 := l5.tr o8.l
            have f27 : n6 428 27 = 0 := o5.2.2.2.2.2.2.1
            have b15 := st5.1
            unfold s_bd at b15
            have b16 := o5.1.1
            unfold s_bd at b16
            have nd := o5.1.2.1 (n5 428 15) (by omega) p7
            have F6 := F0.fr l6'
            have J6 := o5
            obtain ⟨j1, j2, j3, j4, j5, j6, j7, j8, j9', j10⟩ := o5
            have jb := j2.bd
            have G6 : e_G n6 W L e' := ⟨⟨j4, by omega, o4, jb.2.2.2.2.2.2.1, jb.2.2.2.2.2.2.2⟩, j5, by omega, j10⟩
            refine r_gd ?_
            rw [if_pos f27, if_neg (by decide), o2]
            refine ⟨by omega, ?_⟩
            have kc : f_st_kindOf m6 (m2 359 6) = n6 432 (n5 428 15) := by
              rw [← p1, f_kind_v ⟨by have := nd.1; omega, nd.2.1⟩ (by omega)]
              exact nd.2.2.1
            by_cases k7 : n6 432 (n5 428 15) = 7
            · rw [if_pos k7]
              have cm2 : ∀ i k : Int, ¬ (i = 376) → ¬ (359 ≤ i ∧ i ≤ 365) → m6 i k = m2 i k := fun i k q1 q2 => o7.2.2 i k (by omega) (by omega) (by omega) (by omega)
              have cn5 : ∀ i k : Int, ¬ (i = 428) → ¬ (432 ≤ i ∧ i ≤ 440) → n6 i k = n5 i k := fun i k q1 q2 => o8.2.2 i k (by omega) (by omega) (by omega)
              have cn2 : ∀ k : Int, ¬ ((15 ≤ k ∧ k ≤ 31) ∨ k = 75 ∨ k = 77 ∨ k = 78) → n6 428 k = n 428 k := fun k z => by
                rw [o8.2.2 _ _ (by omega) (by omega) (by omega)]
                exact n5o k (by omega)
              have cP : ∀ k : Int, k = 2 ∨ k = 3 ∨ k = 10 → m6 376 k = m 376 k := fun k z => by
                rw [o7.2.2 _ _ (by omega) (by omega) (by omega) (by omega)]
                exact m2o k (by omega)
              have J6c : e_J m6 W L e' := ⟨j2, by rw [o7.2.2 _ _ (by omega) (by omega) (by omega) (by omega)]; exact tJ.2⟩
              have kw6 : s_kw m6 := kw2.fr (o7.cf (Or.inl rfl)) st5.1
              have m63 : m6 376 3 = 0 := by rw [cP 3 (by omega)]; exact X.2.2.2.1
              have X6 : e_X g' m6 n6 W L := X.of J6 kw6 J6c.2 m63 (by rw [cP 10 (by omega)]; exact X.2.2.2.2.1) F6 (by rw [cn2 32 (by omega)])
              have e34 : n6 428 34 = n 428 34 := cn2 _ (by omega)
              have T6 : e_cT m6 = (m 367, m 368, m 369, -1) := by
                rw [← T1]
                unfold e_cT
                have cc : ∀ i x : Int, 367 ≤ i → i ≤ 369 → m6 i x = m1 i x := fun i x w1 w2 => by rw [cm2 i x (by omega) (by omega), tc i x (by omega)]
                rw [cm2 391 11 (by omega) (by omega), tc 391 11 (by omega), funext (fun x => cc 367 x (by omega) (by omega)), funext (fun x => cc 368 x (by omega) (by omega)), funext (fun x => cc 369 x (by omega) (by omega))]
              -- the class behind its dict
              have behind : ∀ Q, xc_se_readRows (d + 59) (m2 359 6) B 395 m6 (fun r4 m4 => if r4 = 0 then (xc_ps_fail (d + 59) 376 3 B m4 (fun r5 m5 => Q r5 m5)) else (xp_se_read_247 (d + 59) B 1 (m2 359 6) (m2 359 6) m4 Q)) → xc_se_read (d + 60) B 395 m Q := by
                intro Q hQ
                refine upto _ ?_
                apply xr_se_read_198
                rw [o1, if_neg (by omega), if_neg (by decide)]
                exact hQ
              have go : ∀ n8 : w_M, e_rm n6 n8 → s_st g' m6 n8 ∧ (0 ≤ n5 428 15 ∧ n5 428 15 < n8 428 15) ∧ n8 432 (n5 428 15) = 7 := by
                intro n8 r8
                have w15 : n8 428 15 = n6 428 15 := r8 _ _ (by omega) (by omega) (by omega) (by omega)
                exact ⟨j1.go s_cf.rf r8.s rfl rfl w15 (r8.k17), ⟨by omega, by rw [w15]; exact p7⟩, by rw [r8 _ _ (by omega) (by omega) (by omega) (by omega)]; exact k7⟩
              refine r_rowRest (d := d + 45) (g := g') (m := m6) j1 G6 F6 f27 (by rw [e34]; exact y0) ⟨by omega, p7⟩ k7 (fun n8 es r8 w8 w27 T8 => ?_) (fun n8 n9 r8 w8 r9 w27 r6 => ?_)
              · -- all is well
                obtain ⟨st8, d8, k78⟩ := go n8 r8
                have r28 : e_r2 g' n8 W L (n5 428 15) e' es := by
                  obtain ⟨w1, w2, o, w3, w4, w5, w6⟩ := w8
                  exact ⟨w1, w2, o, w3, w4, w5.1, w6⟩
                have rr : xc_se_readRows (d + 59) (g'.1 (n5 428 15)) B 395 m6 (fun r4 m8 => r4 = 1 ∧ e_ro m6 m8 ∧ m8 376 6 = m6 376 6 ∧ (∃ p', e_J m8 W L p') ∧ e_cT m8 = es.foldl e_ct (e_cT m6)) :=
                  sp_readRows (d := d + 51) st8 kw6 J6c m63 L8 d8 k78 (fun es' w m8 p' c8 g8 J8 t8 => ⟨rfl, c8, g8, ⟨p', J8⟩, by rw [e_r2_one r28 w]; exact t8⟩) (fun z => absurd ⟨es, r28⟩ z)
                obtain ⟨r4, m8, rrun, nm8, re1, re2, re3, re4, re5⟩ := r_get rr nm6 (by
                  rw [p1]
                  exact r_ns4 (by omega) hB)
                rw [p1] at rrun
                obtain ⟨p8', J8⟩ := re4
                have st88 : s_st g' m8 n8 := st8.go re2.s s_mf.rf (re2.big _ _ (by decide)) (re2.big _ _ (by decide)) rfl rfl
                have kw8 : s_kw m8 := kw6.sm2 re2.big
                have ro8 : ∀ k : Int, ¬ (k = 4 ∨ k = 6 ∨ k = 7 ∨ (11 ≤ k ∧ k ≤ 16)) → m8 376 k = m6 376 k := fun k z => re2 _ _ (by omega) (by omega) (by omega) (by omega) (by omega) (by omega) (by omega) (by omega)
                have rn8 : ∀ k : Int, ¬ ((21 ≤ k ∧ k ≤ 28) ∨ (37 ≤ k ∧ k ≤ 40) ∨ k = 75) → n8 428 k = n6 428 k := fun k z => r8 _ _ (by omega) (by omega) (by omega) (by omega)
                have X8 : e_X g' m8 n8 W L := by
                  obtain ⟨x1, x2, x3, x4, x5, x6, x7, x8, x9, x10⟩ := X6
                  refine ⟨st88, kw8, ⟨p8', J8⟩, by rw [ro8 3 (by omega)]; exact x4, by rw [ro8 10 (by omega)]; exact x5, by rw [re3]; exact x6, F6.fr r8.l, w27, ?_, ?_⟩
                  · unfold s_ct at x9 ⊢
                    rw [re2.big 359 6 (by decide), ro8 8 (by omega), rn8 29 (by omega), rn8 30 (by omega), rn8 15 (by omega)]
                    exact x9
                  · rw [ro8 9 (by omega), re2.big 359 7 (by decide), rn8 32 (by omega), rn8 31 (by omega), rn8 17 (by omega)]
                    exact x10
                have cN : ∀ i k : Int, ¬ (i = 428) → ¬ (432 ≤ i ∧ i ≤ 450) → ¬ (464 ≤ i ∧ i ≤ 467) → ¬ (i = 463 ∧ k = n 428 61) → n8 i k = n i k := fun i k q1 q2 q3 q4 => by
                  rw [r8 i k (by omega) (by omega) (by omega) (by omega), cn5 i k q1 (by omega), t5 _ _ (by omega) (by omega), c3 _ _ (by omega) (by omega), hP.1 _ _ q4 (by omega) (by omega)]
                have cM : ∀ i k : Int, ¬ (i = 376) → ¬ (359 ≤ i ∧ i ≤ 369) → ¬ (378 ≤ i ∧ i ≤ 390) → ¬ (i = 391 ∧ (k = 6 ∨ k = 11 ∨ k = 12)) → ¬ (i = 392 ∧ k = n 428 61) → i ≠ 393 → m8 i k = m i k := fun i k q1 q2 q3 q4 q5 q6 => by
                  rw [re2 i k (by omega) (by omega) (by omega) (by omega) (by omega) (by omega) (by omega) q6, cm2 i k q1 (by omega), c02 _ _ (by omega), C0f _ _ q5 (by omega) (by omega)]
                have hrg : s_rg g' m8 n8 (m2 359 6) (n5 428 15) (m8 359 6) (g'.2.2.2.2.2 (n5 428 15)) := by
                  rw [p6, re2.big 359 6 (by decide)]
                  obtain ⟨a1, a2⟩ := p9
                  refine ⟨fun u w1 w2 => ?_, fun c w1 w2 => ?_⟩
                  · rw [r8 432 u (by omega) (by omega) (by omega) (by omega)]; exact a1 u w1 w2
                  · rw [re2.big 360 c (by decide)]; exact a2 c w1 w2
                have hok : ∀ e ∈ es, e_ok e := by
                  obtain ⟨_, _, o, _, _, w5, w6⟩ := w8
                  exact e_pairs_ok _ _ es _ (e_pp_ok w5.1) w6
                have T8' : e_rT n8 = es.foldl e_rt (e_rT n2) := by
                  rw [T8]
                  have : e_rT n6 = e_rT n2 := by
                    unfold e_rT
                    have cc : ∀ i x : Int, 464 ≤ i → i ≤ 466 → n6 i x = n2 i x := fun i x w1 w2 => by rw [cn5 i x (by omega) (by omega), t5 _ _ (by omega) (by omega), c3 _ _ (by omega) (by omega)]
                    rw [o8.2.2 428 75 (by omega) (by omega) (by omega), t5 428 75 (by omega) (by omega), c3 428 75 (by omega) (by omega), funext (fun x => cc 464 x (by omega) (by omega)), funext (fun x => cc 465 x (by omega) (by omega)), funext (fun x => cc 466 x (by omega) (by omega))]
                  rw [this]
                have tail := e_tail (d := d + 52) (es := es) (C := m2 359 6) (l3 := 1) (l4 := 0) h hb hB (Or.inl ⟨rfl, rfl⟩) X8 (by
                  have : n5 428 15 = n 428 15 := n5o _ (by omega)
                  rw [← this]; exact o6) ((sc2.tr (o7.cf (Or.inl rfl))).tr re2.s) ((sm5.tr o8.mf).tr r8.s) (l6.tr re2.l) (l6'.tr r8.l) d8 k78 p2 p3 (by rw [p6, rn8 15 (by omega)]) hrg (by omega) hok (by rw [re5, T6]) ⟨e_rT n2, fun k k0 k1 => hP.2.2.1 k k0 k1, hP.2.2.2.1, T8'⟩ (by
                    rw [re2 _ _ (by omega) (by omega) (by omega) (by omega) (by omega) (by omega) (by omega) (by omega), cm2 391 6 (by omega) (by omega), c02 _ _ (by omega), hm0]
                    unfold e_C0
                    rw [w_up_ne (by decide), w_up_nb (by decide), w_up_eq]) (fun i i0 i1 => cM 392 i (by omega) (by omega) (by omega) (by omega) (by omega) (by omega)) (by
                    rw [re2 _ _ (by omega) (by omega) (by omega) (by omega) (by omega) (by omega) (by omega) (by omega), cm2 392 _ (by omega) (by omega), c02 _ _ (by omega), hm0]
                    unfold e_C0
                    rw [w_up_ne (by decide), w_up_ne (by decide), w_up_ne (by decide), w_up_eq]) (fun i i0 i1 => cM 391 i (by omega) (by omega) (by omega) (by omega) (by omega) (by omega)) (fun i i0 i1 => cN 463 i (by omega) (by omega) (by omega) (by omega)) (by
                    rw [r8 463 _ (by omega) (by omega) (by omega) (by omega), cn5 463 _ (by omega) (by omega), t5 _ _ (by omega) (by omega), c3 _ _ (by omega) (by omega)]
                    exact hP.2.1) (fun i z => by rw [rn8 i (by omega)]; exact cn2 i (by omega)) (fun i k q1 q2 => cN i k (by omega) (by omega) (by omega) (by omega))
                refine tail.more (fun r' n1 hr => ?_)
                refine behind _ ?_
                refine rrun.to ?_
                rw [re1, if_neg (by decide)]
                rw [p1] at hr
                exact hr
              · -- both fail
                obtain ⟨st8, d8, k78⟩ := go n8 r8
                have l9 : l_mf n n9 := (l6'.tr r8.l).tr r9.l
                refine r_218_bad (d := d + 59) w27 ?_
                refine behind _ ?_
                rw [← p1]
                refine sp_readRows (d := d + 51) st8 kw6 J6c m63 L8 d8 k78 (fun es w m8 p' c8 g8 J8 t8 => ?_) (fun z m8 c8 => ?_)
                · -- without Index, Size 0: the trailer is wrong
                  rw [if_neg (by decide)]
                  have S0 : z_wh g' n8 (n5 428 15) 32 (-1) < 1 := by
                    refine Int.not_le.mp (fun z => w8 ⟨es, ?_⟩)
                    obtain ⟨w1, w2, o, w3, w4, w5, w6⟩ := w
                    exact ⟨w1, w2, o, w3, w4, ⟨w5, fun _ => z⟩, w6⟩
                  have et : ∀ hi, e_tr g' n8 (n5 428 15) hi = none := by
                    intro hi
                    unfold e_tr
                    by_cases z1 : 0 ≤ s_fd n8 (s_wd 34) (g'.2.1 (n5 428 15)) ∨ 0 ≤ s_fd n8 (s_wd 35) (g'.2.1 (n5 428 15))
                    · rw [if_pos z1]
                    · rw [if_neg z1, if_pos (Or.inr (Or.inl S0))]
                  have fin : ∀ m9 : w_M, (∀ i k : Int, ¬ (i = 391 ∧ 7 ≤ k ∧ k ≤ 10) → m9 i k = m8 i k) → xc_se_readTrailer (d + 59) (g'.1 (n5 428 15)) B m9 (fun r m1 => e_post m n W L r m1 (-1) n9) := by
                    intro m9 f9
                    have st9 : s_st g' m9 n8 := st8.sm2 (fun i k q => by rw [f9 i k (by omega)]; exact c8.big i k q)
                    have kw9 : s_kw m9 := kw6.sm2 (fun i k q => by rw [f9 i k (by omega)]; exact c8.big i k q)
                    refine sp_readTrailer (d := d + 54) st9 kw9 d8 k78 (fun v hv => ?_) (fun _ m10 f10 h6 => ⟨l6.tr (c8.l.tr (fun i j q1 q2 q3 q4 q5 => by rw [f10 i j (by omega)]; exact f9 i j (by omega))), l9, Or.inl ⟨rfl, h6, w27⟩⟩)
                    rw [et] at hv
                    cases hv
                  apply xr_se_read_247
                  refine z_ite (fun _ => ⟨Or.inr rfl, ?_⟩) (fun _ => fin m8 (fun _ _ _ => rfl))
                  exact fin _ (fun i k w => by unfold w_up; rw [if_neg (by omega), if_neg (by omega), if_neg (by omega), if_neg (by omega)])
                · rw [if_pos rfl]
                  exact sp_fail1 (Or.inl rfl) (fun m' f6 h6 => ⟨l6.tr (c8.l.tr (fun i j q1 q2 q3 q4 q5 => f6 i j (by omega))), l9, Or.inl ⟨rfl, h6 (by decide), w27⟩⟩)
            · rw [if_neg k7]
              refine sp_m_fail ?_
              have f27' := m_fl_ne (c := 3) (v := B) f27 (by decide)
              refine r_218_bad (d := d + 59) f27' ?_
              refine upto _ ?_
              apply xr_se_read_198
              rw [o1, if_neg (by omega), if_neg (by decide)]
              apply xr_se_readRows
              refine sp_st_kindOf ?_
              rw [kc, if_neg k7, if_pos rfl]
              exact sp_fail1 (Or.inl rfl) (fun m' f6 h6 => ⟨l6.tr (fun i j q1 q2 q3 q4 q5 => f6 i j (by omega)), l6'.tr m_fl_l, Or.inl ⟨rfl, h6 (by decide), f27'⟩⟩)
        · rw [if_neg q3]; exact failh (fun z => q3 z.2.2.2)
      · rw [if_neg q2]; exact failh (fun z => q2 z.2.2.1)
  · rw [if_pos rfl]
    refine sp_m_fail ?_
    have z273 : n3 428 27 = 0 := by rw [c3 _ _ (by omega) (by omega)]; exact z27
    exact early (fun z => hd z.1) _ ((hP.l.tr c3.l).tr m_fl_l) (m_fl_ne z273 (by decide)) _
/-- a section, both sides -/
theorem s_section (h : e_Y g m n W L) (hm : w_nm (w_G0 sC) m) (hB : 0 ≤ B ∧ B ≤ 2147483647) : xc_m_section (d + 61) B n (fun r' n1 => xc_se_read (d + 60) B 395 m (fun r m1 => e_post m n W L r m1 r' n1)) := by
  by_cases hb : e_bad n B L
  · have h27 := h.1.2.2.2.2.2.2.2.1
    refine r_bad (d := d + 59) h hB hb (fun c v hc => ?_)
    exact c_bad (d := d + 58) h hB hb (fun m' f6 h6 => ⟨fun i j q1 q2 q3 q4 q5 => f6 i j (by omega), m_fl_l, Or.inl ⟨rfl, h6, m_fl_ne h27 hc⟩⟩)
  · exact r_sec (d := d + 54) h hB hb (fun z n2 P e => e_table (d := d) h hm hb hB z P e) (fun z n2 P e => e_rows (d := d) h hm hb hB z P e)
end SU
