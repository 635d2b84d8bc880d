/-! ===== a section: its end, both sides ===== -/
/-- what is so behind a section -/
def e_post (m n : w_M) (W : Int → Int) (L : Int) (r : Int) (m1 : w_M) (r' : Int) (n1 : w_M) : Prop := l_cf m m1 ∧ l_mf n n1 ∧ ((r = -1 ∧ m1 376 6 ≠ 0 ∧ n1 428 27 ≠ 0) ∨ (r = r' ∧ -1 ≤ r ∧ r ≤ 2147483647 ∧ n1 428 61 = n 428 61 + 1 ∧ ∃ g', e_Y g' m1 n1 W L))
section SQ
variable {d : Nat} {g g' : s_g} {m m' m1 m2 m3 n n' n1 n2 n3 : w_M} {Q : Int → w_M → Prop} {W : Int → Int} {L p a b B v e F j l3 l4 C : Int} {es : List e_E}
theorem e_nu_st (h0 : n 454 a = n3 454 a ∧ n 451 a = n3 451 a ∧ n 452 a = n3 452 a ∧ n 453 a = n3 453 a) (hS : e_SS (m 367, m 368, m 369, v) (e_cT m3) (e_rT n3)) (ha : 1 ≤ a ∧ a < 200) {al : Int} (hal : a < al) (hm : e_mt n3 n' al a) (he : ∀ i, 367 ≤ i → i ≤ 369 → m1 i a = m3 i a) (hnu : e_nu m n a) : e_nu m1 n' a := by
  obtain ⟨k1, k2⟩ := hS.2 a ha.1 ha.2
  have k1 : m 367 a ≠ 0 → m3 367 a = m 367 a ∧ m3 368 a = m 368 a ∧ m3 369 a = m 369 a := k1
  have k2 : m 367 a = 0 → (n3 464 a < 0 ∧ m3 367 a = 0) ∨ e_al (m3 367 a) (m3 368 a) (m3 369 a) (n3 464 a) (n3 465 a) (n3 466 a) := k2
  unfold e_mt at hm
  unfold e_nu
  rw [he 367 (by decide) (by decide), he 368 (by decide) (by decide), he 369 (by decide) (by decide)]
  obtain ⟨q1, q2, q3, q4⟩ := h0
  rcases hnu with ⟨z1, z2, z3⟩ | ⟨z1, z2⟩
  · rcases k2 z3 with ⟨y1, y2⟩ | y
    · rw [if_neg (by omega)] at hm
      left
      omega
    · have y0 := y.1
      rw [if_pos (by omega)] at hm
      obtain ⟨u1, u2, u3, u4⟩ := hm
      right
      rw [u2, u3, u4]
      exact ⟨u1, y⟩
  · have y0 := z2.1
    have y1 := z2.2.2.1
    obtain ⟨c1, c2, c3⟩ := k1 (by omega)
    rw [if_neg (by omega)] at hm
    obtain ⟨u1, u2, u3, u4⟩ := hm
    right
    rw [c1, c2, c3, u1, u2, u3, u4, ← q1, ← q2, ← q3, ← q4]
    exact ⟨z1, z2⟩
theorem e_tail (h : e_Y g m n W L) (hb : ¬ e_bad n B L) (hB : 0 ≤ B ∧ B ≤ 2147483647) (hl : l4 = 0 ∧ l3 = 1 ∨ l4 = 1 ∧ l3 = 0)
    (X3 : e_X g' m3 n3 W L) (hex : s_ex g g' (n 428 15)) (hcf : s_cf m m3) (hmf : s_mf n n3) (lc : l_cf m m3) (lm : l_mf n n3)
    (hd : 0 ≤ b ∧ b < n3 428 15) (h7 : n3 432 b = 7) (hR : g'.2.2.2.2.1 b = 21) (hO : g'.2.2.1 b = -1) (hsp : g'.2.2.2.2.2 b = n3 428 15) (hrg : s_rg g' m3 n3 C b (m3 359 6) (g'.2.2.2.2.2 b)) (hC0 : 0 ≤ C)
    (hok : ∀ e ∈ es, e_ok e) (hTc : e_cT m3 = es.foldl e_ct (m 367, m 368, m 369, -1)) (hTr : ∃ T, (∀ k, 0 ≤ k → k < 200 → T.1 k = -1) ∧ T.2.2.2 = -1 ∧ e_rT n3 = es.foldl e_rt T)
    (m6 : m3 391 6 = n 428 61 + 1) (m92 : ∀ i, 0 ≤ i → i < n 428 61 → m3 392 i = m 392 i) (m92j : m3 392 (n 428 61) = B) (m91 : ∀ i, 7 ≤ i → i ≤ 10 → m3 391 i = m 391 i)
    (n63 : ∀ i, 0 ≤ i → i < n 428 61 → n3 463 i = n 463 i) (n63j : n3 463 (n 428 61) = B) (n60 : ∀ i, i = 60 ∨ i = 61 ∨ i = 63 ∨ i = 64 → n3 428 i = n 428 i) (n45 : ∀ i k : Int, 451 ≤ i → i ≤ 454 → n3 i k = n i k) :
    xp_m_section_218 (d + 8) B l4 b n3 (fun r' n1 => xp_se_read_247 (d + 7) B l3 C (g'.1 b) m3 (fun r m1 => e_post m n W L r m1 r' n1)) := by
  refine w_W.nm (fun hn3 => ?_)
  have nn : ∀ j, -2147483648 ≤ n3 433 j ∧ n3 433 j < 2147483648 := fun j => w_ar_r hn3 (a := 433) (by decide) s_433 j
  obtain ⟨X, y0, y1, y2, y3, y4, y5, yz⟩ := id h
  have j9 : n 428 61 ≤ 9 := by
    have : n 428 61 ≠ 10 := fun z => hb (Or.inr (Or.inl z))
    omega
  have st3 := X3.1
  have kw3 := X3.2.1
  have bd := st3.1
  have bd' := bd
  unfold s_bd at bd'
  have e61 := n60 61 (by decide)
  have e60 := n60 60 (by decide)
  have e34 : n3 428 34 = n 428 34 := lm _ _ (by omega) (by omega) (by omega)
  -- what was told, side by side
  obtain ⟨T, t1, t2, t3⟩ := hTr
  have SS : e_SS (m 367, m 368, m 369, -1) (e_cT m3) (e_rT n3) := by
    rw [hTc, t3]
    refine e_SS.fold es _ _ ⟨t2.symm, fun k k0 k1 => ⟨fun _ => ⟨rfl, rfl, rfl⟩, fun z => Or.inl ⟨by rw [t1 k (by omega) k1]; decide, z⟩⟩⟩ hok
  have hi : m3 391 11 = n3 428 75 := SS.1
  have SS' : e_SS (m 367, m 368, m 369, -1) (e_cT m3) (e_rT n3) := SS
  have hall : n3 428 60 ≤ 200 := by
    rw [e60]
    by_cases z : n 428 61 = 0
    · have := (y4 z).1
      omega
    · exact (y5 z).1.2
  refine r_218 (g := g') (m := m3) st3 hd h7 X3.2.2.2.2.2.2.2.1 (by rw [e61]; omega) hall (fun v hv n' tf e1 e2 e3 e4 mt => ?_) (fun hv n' fr h27 => ?_)
  · -- all is well: the class
    rw [e61] at e1 e2 e3 e4 mt
    have rv : -1 ≤ v ∧ v ≤ 2147483647 := by
      have x361 := X3.1
      unfold e_tr at hv
      by_cases q1 : 0 ≤ s_fd n3 (s_wd 34) (g'.2.1 b) ∨ 0 ≤ s_fd n3 (s_wd 35) (g'.2.1 b)
      · rw [if_pos q1] at hv; cases hv
      · rw [if_neg q1] at hv
        by_cases q2 : 200 < z_wh g' n3 b 32 (-1) ∨ z_wh g' n3 b 32 (-1) < 1 ∨ z_wh g' n3 b 32 (-1) ≤ n3 428 75
        · rw [if_pos q2] at hv; cases hv
        · rw [if_neg q2] at hv
          by_cases q3 : s_fd n3 (s_wd 33) (g'.2.1 b) < 0
          · rw [if_pos q3] at hv
            have := Option.some.inj hv
            omega
          · rw [if_neg q3] at hv
            by_cases q4 : n3 432 (s_fd n3 (s_wd 33) (g'.2.1 b)) = 2 ∧ 0 ≤ n3 433 (s_fd n3 (s_wd 33) (g'.2.1 b))
            · rw [if_pos q4] at hv
              have := Option.some.inj hv
              have := nn (s_fd n3 (s_wd 33) (g'.2.1 b))
              omega
            · rw [if_neg q4] at hv; cases hv
    have S1 : 1 ≤ z_wh g' n3 b 32 (-1) ∧ z_wh g' n3 b 32 (-1) ≤ 200 := by
      unfold e_tr at hv
      by_cases q1 : 0 ≤ s_fd n3 (s_wd 34) (g'.2.1 b) ∨ 0 ≤ s_fd n3 (s_wd 35) (g'.2.1 b)
      · rw [if_pos q1] at hv; cases hv
      · rw [if_neg q1] at hv
        by_cases q2 : 200 < z_wh g' n3 b 32 (-1) ∨ z_wh g' n3 b 32 (-1) < 1 ∨ z_wh g' n3 b 32 (-1) ≤ n3 428 75
        · rw [if_pos q2] at hv; cases hv
        · omega
    obtain ⟨S, hS⟩ : ∃ S, S = z_wh g' n3 b 32 (-1) := ⟨_, rfl⟩
    rw [← hS] at e2 mt S1
    -- frames behind the reference's end
    have tfs : ∀ i k : Int, ¬ (i = 428 ∧ (k = 60 ∨ k = 61 ∨ k = 63 ∨ k = 64)) → ¬ (451 ≤ i ∧ i ≤ 454) → n' i k = n3 i k := tf
    have hmf3 : s_mf n3 n' := by
      have u1 := tf 428 15 (by omega) (by omega)
      have u2 := tf 428 17 (by omega) (by omega)
      exact ⟨by omega, by omega, fun i k w1 w2 _ _ => tf i k (by omega) (by omega), fun k _ => tf 440 k (by omega) (by omega)⟩
    -- the class's memory at the end: m4
    have key : ∀ m4 : w_M, (∀ i k : Int, ¬ (i = 391 ∧ 7 ≤ k ∧ k ≤ 10) → m4 i k = m3 i k) → (n 428 61 = 0 → m4 391 7 = g'.1 b ∧ m4 391 8 = C ∧ m4 391 9 = m3 359 6 ∧ m4 391 10 = l3) → (n 428 61 ≠ 0 → ∀ k, m4 391 k = m3 391 k) → e_post m n W L v m4 v n' := by
      intro m4 f4 h40 h41
      have f4l : l_cf m3 m4 := fun i k q1 q2 q3 q4 q5 => f4 i k (by omega)
      refine ⟨lc.tr f4l, lm.tr tf.l, Or.inr ⟨rfl, rv.1, rv.2, e1, g', ?_⟩⟩
      have st4 : s_st g' m4 n' := by
        refine st3.fr ⟨by rw [f4 _ _ (by omega)]; exact Int.le_refl _, by rw [f4 _ _ (by omega)]; exact Int.le_refl _, fun i k w1 w2 _ _ => f4 i k (by omega), fun k _ => f4 365 k (by omega)⟩ hmf3 (tf _ _ (by omega) (by omega)) ?_
        unfold s_bd at bd ⊢
        rw [f4 _ _ (by omega), f4 _ _ (by omega), tf 428 15 (by omega) (by omega), tf 428 17 (by omega) (by omega)]
        exact bd
      have X4 : e_X g' m4 n' W L := by
        obtain ⟨x1, x2, ⟨px, x3⟩, x4, x5, x6, x7, x8, x9, x10⟩ := X3
        refine ⟨st4, x2.sm2 (fun i k q => f4 i k (by omega)), ⟨px, x3.1.far (fun k => f4 _ _ (by omega)) (fun k => by rw [x3.2]; exact f4 _ _ (by omega)), by rw [f4 _ _ (by omega)]; exact x3.2⟩, by rw [f4 _ _ (by omega)]; exact x4, by rw [f4 _ _ (by omega)]; exact x5, by rw [f4 _ _ (by omega)]; exact x6, ⟨x7.1, x7.2.1, by rw [tf _ _ (by omega) (by omega)]; exact x7.2.2.1, fun i i0 i1 => by rw [tf _ _ (by omega) (by omega)]; exact x7.2.2.2 i i0 i1⟩, by rw [tf _ _ (by omega) (by omega)]; exact x8, ?_, ?_⟩
        · unfold s_ct at x9 ⊢
          rw [f4 _ _ (by omega), f4 _ _ (by omega), tf 428 29 (by omega) (by omega), tf 428 30 (by omega) (by omega), tf 428 15 (by omega) (by omega)]
          exact x9
        · rw [f4 _ _ (by omega), f4 _ _ (by omega), tf 428 32 (by omega) (by omega), tf 428 31 (by omega) (by omega), tf 428 17 (by omega) (by omega)]
          exact x10
      refine ⟨X4, by rw [tf _ _ (by omega) (by omega), e34]; exact y0, by rw [f4 _ _ (by omega), m6, e1], by rw [e1]; omega, fun i i0 i1 => ?_, fun z => by omega, fun _ => ⟨?_, fun k k0 k1 => ?_, ?_⟩, fun k k0 k1 kk => ?_⟩
      · rw [f4 _ _ (by omega), tf _ _ (by omega) (by omega)]
        rw [e1] at i1
        by_cases z : i = n 428 61
        · rw [z, m92j, n63j]
        · rw [m92 i i0 (by omega), n63 i i0 (by omega)]
          exact y3 i i0 (by omega)
      · rw [e2]
        by_cases z : n 428 61 = 0
        · rw [if_pos z]; exact S1
        · rw [if_neg z, e60]; exact (y5 z).1
      · -- numbers
        have e3' : n' 428 60 ≤ 200 := by
          rw [e2]
          by_cases z : n 428 61 = 0
          · rw [if_pos z]; exact S1.2
          · rw [if_neg z, e60]; exact (y5 z).1.2
        refine e_nu_st (n := n) (n3 := n3) (m3 := m3) (v := -1) (al := n' 428 60) ⟨(n45 _ _ (by decide) (by decide)).symm, (n45 _ _ (by decide) (by decide)).symm, (n45 _ _ (by decide) (by decide)).symm, (n45 _ _ (by decide) (by decide)).symm⟩ SS ⟨k0, by omega⟩ k1 (by rw [e2]; exact mt k) (fun i w1 w2 => f4 i k (by omega)) ?_
        by_cases z : n 428 61 = 0
        · have := (y4 z).2 k k0 (by omega)
          exact Or.inl this
        · rw [e2, if_neg z, e60] at k1
          exact (y5 z).2.1 k k0 k1
      · -- the trailer
        by_cases z : n 428 61 = 0
        · obtain ⟨w1, w2⟩ := e3 z
          obtain ⟨v1, v2, v3, v4⟩ := h40 z
          unfold e_tl
          have fwh : z_wh g' n' b 32 (-1) = z_wh g' n3 b 32 (-1) := z_wh.fr st3 s_ex.rf hmf3 hd h7
          rw [w2, v1, v2, v3, v4, w1, e2, if_pos z, tf 428 15 (by omega) (by omega), tf 432 b (by omega) (by omega), f4 359 6 (by omega), fwh]
          refine ⟨hd.1, hd.2, h7, rfl, hS.symm, hR, hO, ?_, Int.le_of_eq hsp, Int.le_refl _, hC0, ?_⟩
          · rcases hl with ⟨a1, a2⟩ | ⟨a1, a2⟩
            · rw [a1, a2, if_pos rfl]
            · rw [a1, a2, if_neg (by decide)]
          · -- the range
            obtain ⟨r1, r2⟩ := hrg
            refine ⟨⟨fun u q1 q2 => ?_, fun c q1 q2 => ?_⟩, by omega, fun u q1 q2 => ⟨(st3.2.1 u (by omega) (by omega)).2.1, fun w t ht => by
              rw [tf 432 u (by omega) (by omega)] at w
              have := ((st3.2.2.2.2 u (by omega) (by omega) w).1.1.mem t ht).2
              omega⟩⟩
            · rw [tf 432 u (by omega) (by omega)]; exact r1 u q1 q2
            · rw [f4 360 c (by omega)]; exact r2 c q1 q2
        · obtain ⟨w1, w2⟩ := e4 z
          obtain ⟨_, _, t1, t2, t3, t4, t5, t6, t7, t8, t9, t10, t12, t11⟩ := y5 z
          have e64 := n60 64 (by decide)
          have e63 := n60 63 (by decide)
          obtain ⟨g1, g2, g3, g4, g5, g6⟩ := hex (n 428 64) t1 t2
          unfold e_tl
          have cc := h41 z
          have fwh : z_wh g' n' (n 428 64) 32 (-1) = z_wh g n (n 428 64) 32 (-1) := by
            have u1 := z_wh.fr (k := 32) (w := -1) X.1 hex hmf ⟨t1, t2⟩ t3
            have u2 := z_wh.fr (k := 32) (w := -1) st3 s_ex.rf hmf3 ⟨t1, by have := hmf.1; omega⟩ (by rw [hmf.2.2.1 432 _ (by decide) (by decide) t1 t2]; exact t3)
            rw [u2, u1]
          rw [w2, w1, cc, cc, cc, cc, m91 7 (by decide) (by decide), m91 8 (by decide) (by decide), m91 9 (by decide) (by decide), m91 10 (by decide) (by decide), e64, e63, e2, if_neg z, e60, tf 428 15 (by omega) (by omega), tf 432 _ (by omega) (by omega), f4 359 6 (by omega), fwh, g1, g3, g5, g6, hmf.2.2.1 432 _ (by decide) (by decide) t1 t2]
          have rr := s_rg.frx t11.1 X.1 hex hcf hmf t1 t9 t10 t12
          refine ⟨t1, by have := hmf.1; omega, t3, t4, t5, t6, t7, t8, by have := hmf.1; omega, by have := hcf.1; omega, t12, ?_⟩
          obtain ⟨r1, r2⟩ := rr
          refine ⟨⟨fun u q1 q2 => ?_, fun c q1 q2 => ?_⟩, t11.2.1, fun u q1 q2 => ⟨by rw [(hex u (by omega) (by omega)).1]; exact (t11.2.2 u q1 q2).1, fun w => by
            rw [tf 432 u (by omega) (by omega), hmf.2.2.1 432 u (by decide) (by decide) (by omega) (by omega)] at w
            rw [(hex u (by omega) (by omega)).2.1]
            exact (t11.2.2 u q1 q2).2 w⟩⟩
          · rw [tf 432 u (by omega) (by omega)]; exact r1 u q1 q2
          · rw [f4 360 c (by omega)]; exact r2 c q1 q2
      · -- the numbers that nobody may tell of
        have mk := mt k
        rw [← e2] at mk
        unfold e_mt at mk
        rw [if_neg (by omega)] at mk
        rw [mk.2.1, n45 _ _ (by decide) (by decide)]
        by_cases z : n 428 61 = 0
        · by_cases z1 : k < 1
          · exact yz k k0 k1 (Or.inl z1)
          · exact ((y4 z).2 k (by omega) k1).2.1
        · rw [e2, if_neg z, e60] at kk
          exact yz k k0 k1 kk
    have e_trm : e_tr g' n3 b (m3 391 11) = some v := by rw [hi]; exact hv
    apply xr_se_read_247
    rw [m6]
    by_cases z : n 428 61 = 0
    · rw [if_pos (by omega)]
      refine ⟨by rcases hl with a | a <;> omega, ?_⟩
      obtain ⟨m4, hm4⟩ : ∃ m4, m4 = w_up (w_up (w_up (w_up m3 391 7 (g'.1 b)) 391 8 C) 391 9 (m3 359 6)) 391 10 l3 := ⟨_, rfl⟩
      rw [← hm4]
      have f4 : ∀ i k : Int, ¬ (i = 391 ∧ 7 ≤ k ∧ k ≤ 10) → m4 i k = m3 i k := fun i k w => by
        rw [hm4]
        unfold w_up
        rw [if_neg (by omega), if_neg (by omega), if_neg (by omega), if_neg (by omega)]
      refine sp_readTrailer (d := d + 2) (st3.sm2 (fun i k q => f4 i k (by omega))) (kw3.sm2 (fun i k q => f4 i k (by omega))) hd h7 (fun v2 hv2 => ?_) (fun hv2 => ?_)
      · rw [f4 _ _ (by omega), e_trm] at hv2
        rw [← Option.some.inj hv2]
        exact key m4 f4 (fun _ => ⟨by rw [hm4, w_up_nb (by decide), w_up_nb (by decide), w_up_nb (by decide), w_up_eq], by rw [hm4, w_up_nb (by decide), w_up_nb (by decide), w_up_eq], by rw [hm4, w_up_nb (by decide), w_up_eq], by rw [hm4, w_up_eq]⟩) (fun w => absurd z w)
      · rw [f4 _ _ (by omega), e_trm] at hv2
        cases hv2
    · rw [if_neg (by omega)]
      refine sp_readTrailer (d := d + 2) st3 kw3 hd h7 (fun v2 hv2 => ?_) (fun hv2 => ?_)
      · rw [e_trm] at hv2
        rw [← Option.some.inj hv2]
        exact key m3 (fun _ _ _ => rfl) (fun w => absurd w z) (fun _ _ => rfl)
      · rw [e_trm] at hv2
        cases hv2
  · -- both fail
    have e_trm : e_tr g' n3 b (m3 391 11) = none := by rw [hi]; exact hv
    have key : ∀ m4 : w_M, l_cf m3 m4 → m4 376 6 ≠ 0 → e_post m n W L (-1) m4 (-1) n' := fun m4 f4 h6 => ⟨lc.tr f4, lm.tr (fun i k q1 q2 q3 => fr i k (by omega)), Or.inl ⟨rfl, h6, h27⟩⟩
    apply xr_se_read_247
    rw [m6]
    by_cases z : n 428 61 = 0
    · rw [if_pos (by omega)]
      refine ⟨by rcases hl with a | a <;> omega, ?_⟩
      obtain ⟨m4, hm4⟩ : ∃ m4, m4 = w_up (w_up (w_up (w_up m3 391 7 (g'.1 b)) 391 8 C) 391 9 (m3 359 6)) 391 10 l3 := ⟨_, rfl⟩
      rw [← hm4]
      have f4 : ∀ i k : Int, ¬ (i = 391 ∧ 7 ≤ k ∧ k ≤ 10) → m4 i k = m3 i k := fun i k w => by
        rw [hm4]
        unfold w_up
        rw [if_neg (by omega), if_neg (by omega), if_neg (by omega), if_neg (by omega)]
      refine sp_readTrailer (d := d + 2) (st3.sm2 (fun i k q => f4 i k (by omega))) (kw3.sm2 (fun i k q => f4 i k (by omega))) hd h7 (fun v2 hv2 => ?_) (fun hv2 m5 f5 h6 => ?_)
      · rw [f4 _ _ (by omega), e_trm] at hv2
        cases hv2
      · exact key m5 (fun i k q1 q2 q3 q4 q5 => by rw [f5 i k (by omega)]; exact f4 i k (by omega)) h6
    · rw [if_neg (by omega)]
      refine sp_readTrailer (d := d + 2) st3 kw3 hd h7 (fun v2 hv2 => ?_) (fun hv2 m5 f5 h6 => ?_)
      · rw [e_trm] at hv2
        cases hv2
      · exact key m5 (fun i k q1 q2 q3 q4 q5 => f5 i k (by omega)) h6
end SQ
