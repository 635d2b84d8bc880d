/-! ===== objects: both sides read alike ===== -/
section OB
variable {g g0 g1 g' : s_g} {m m0 m' m1 m2 n n0 n' n1 n2 : w_M} {P L p p0 q e a b s c D refs R : Int} {W : Int → Int} {l l' : List Int} {Q : Int → w_M → Prop} {d d' : Nat}
/-- both begin an array or a dict -/
theorem s_open {k : Int} (h : s_J g m n P W L p) (hk : k = 6 ∨ k = 7) (hf : ¬ c_full m P 0) (hin : p < e) (heL : e ≤ L) (h21 : n 428 21 = e) :
    s_LI g (s_gn g (n 428 15) (m 359 6) R) m n (w_up (c_new m k (-1) 0 0) P 4 (m P 3 + e)) (m_new (m_ct n 0) k 0) P W L e R k [] := by
  have hbits := h.bits
  obtain ⟨hP, hL, b3, b3', p0, p1, f2, f7, h15, h29, hro, h31, h31'⟩ := hbits
  have hP' := w_isP_o hP
  have h' := h
  obtain ⟨i1, i2, i3, i4, i5, i6, i7, i8, i9, i10⟩ := h
  have hbd := i1.1
  unfold s_bd at hbd
  obtain ⟨u1, u2, u3, u4, u5, u6, u7⟩ := c_new_c (m := m) (k := k) (a := -1) (b := 0) (s := 0)
  have co : ∀ i j : Int, ¬ (i = P ∧ j = 4) → w_up (c_new m k (-1) 0 0) P 4 (m P 3 + e) i j = c_new m k (-1) 0 0 i j := by
    intro i j z
    unfold w_up
    rw [if_neg z]
  have cP : ∀ j : Int, c_new m k (-1) 0 0 P j = m P j := fun j => c_new_o (by omega) (by omega)
  have c15 : m_ct n 0 428 15 = n 428 15 := m_ct_o (by decide) (by decide)
  obtain ⟨v1, v2, v3, v4, v5, v6, v7, v8, v9⟩ := m_new_c (n := m_ct n 0) (k := k) (a := 0)
  rw [c15] at v1 v2 v3 v4 v5 v6 v7 v8 v9
  have ek : w_8 k = k := w_8_id (by omega) (by omega)
  have n428 : ∀ j : Int, j ≠ 15 → m_new (m_ct n 0) k 0 428 j = m_ct n 0 428 j := fun j z => m_new_o (by omega) (by omega)
  have cw := c_win i2 i3
  have s0 : c_st (c_new m k (-1) 0 0) P W L p := i2.far cP (fun j => c_new_o (by omega) (by omega))
  have st : c_st (w_up (c_new m k (-1) 0 0) P 4 (m P 3 + e)) P W L e := by
    have := s0.mv (p' := e) (by omega) heL
    rw [cP] at this
    exact this
  have fp1 : s_fp m (w_up (c_new m k (-1) 0 0) P 4 (m P 3 + e)) P := by
    have x := c_new_fp (m := m) (k := k) (a := -1) (b := 0) (s := 0) hP (by decide)
    exact ⟨by rw [co _ _ (by omega)]; exact x.1, by rw [co _ _ (by omega)]; exact x.2.1, fun i j q1 q2 q3 q4 => (co i j (by omega)).trans (x.2.2 i j q1 q2 q3 q4)⟩
  have fr1 : s_fr n (m_new (m_ct n 0) k 0) := by
    refine (m_ct_fr (s := 0)).tr ⟨by rw [v9, c15]; omega, ?_, fun i j q1 q2 q3 => m_new_o (by omega) (by omega)⟩
    rw [n428 _ (by decide)]; exact Int.le_refl _
  have ct29 : m_ct n 0 428 29 = n 428 29 + 1 := by unfold m_ct; rw [w_up_nb (by decide), w_up_eq]
  have ct31 : m_ct n 0 428 31 = n 428 31 + 0 := by unfold m_ct; rw [w_up_eq]
  have lf := s_leaf (R := R) (m1 := w_up (c_new m k (-1) 0 0) P 4 (m P 3 + e)) (n1 := m_new (m_ct n 0) k 0) h' fp1 fr1 (s := 0) (by decide) (by omega) hin st hf (by rw [co _ _ (by omega)]; exact u6) (by rw [co _ _ (by omega), u7]) (by rw [co _ _ (by omega), cP]; exact i6) v9 (by rw [n428 _ (by decide), m_ct_o (by decide) (by decide)]; omega) (by rw [n428 _ (by decide), m_ct_o (by decide) (by decide)]; exact h21) (by rw [n428 _ (by decide)]; exact m_ct_27.trans i7) (by rw [n428 _ (by decide)]; exact ct29) (by rw [n428 _ (by decide)]; exact ct31) (by rw [co _ _ (by omega)]; exact u5) v6 (fun _ => ⟨v5, v4⟩) (by
    have g0 : (s_gn g (n 428 15) (m 359 6) R).1 (n 428 15) = m 359 6 := if_pos rfl
    unfold s_nd
    rw [g0, co 360 _ (by omega), co 361 _ (by omega), co 362 _ (by omega), co 363 _ (by omega), co 364 _ (by omega), co 359 _ (by omega), u1, u2, u3, u4, u5, u6, v1, v2, v3, v4, v5, v6, v7, v8, ek]
    exact ⟨by omega, by omega, rfl, by omega, by omega, fun z => by omega, fun z => by omega, fun z => by omega, fun z => ⟨rfl, Or.inl ⟨rfl, rfl⟩⟩, Or.inl rfl, Or.inl ⟨rfl, rfl⟩⟩)
  -- it is the ghost that s_leaf took
  have gN : (s_gn g (n 428 15) (m 359 6) R).2.2.2.2.2 (n 428 15) = n 428 15 + 1 := if_pos rfl
  have eP : ∀ j : Int, ¬ (j = 4 ∨ j = 6 ∨ j = 7 ∨ (11 ≤ j ∧ j ≤ 17)) → w_up (c_new m k (-1) 0 0) P 4 (m P 3 + e) P j = m P j := fun j z => fp1.2.2 _ _ (by omega) (by omega) (by omega) (by omega)
  have eN : ∀ j : Int, ¬ (j = 15 ∨ j = 17 ∨ (21 ≤ j ∧ j ≤ 29) ∨ j = 31) → m_new (m_ct n 0) k 0 428 j = n 428 j := fun j z => fr1.2.2 _ _ (by omega) (by omega) (by omega)
  obtain ⟨hst, hex⟩ : s_J (s_gn g (n 428 15) (m 359 6) R) (w_up (c_new m k (-1) 0 0) P 4 (m P 3 + e)) (m_new (m_ct n 0) k 0) P W L e ∧ True := by
    refine ⟨?_, trivial⟩
    obtain ⟨g', e', x1, x2, x3, x4, x5, x6, x7, x8, x9⟩ := lf
    have hee : e' = e := by
      rw [n428 _ (by decide), m_ct_o (by decide) (by decide)] at x4
      omega
    subst hee
    obtain ⟨j1, j2, j3, j4, j5, j6, j7, j8, j9, j10⟩ := x5
    refine ⟨?_, j2, j3, j4, j5, j6, j7, j8, j9, j10⟩
    refine s_new i1 rfl rfl (fp1.cf hP) fr1.mf (by rw [co _ _ (by omega)]; exact u6) v9 j1.1 (by rw [co _ _ (by omega)]; exact u5) (fun _ => ⟨v5, v4⟩) ?_
    have g0 : (s_gn g (n 428 15) (m 359 6) R).1 (n 428 15) = m 359 6 := if_pos rfl
    unfold s_nd
    rw [g0, co 360 _ (by omega), co 361 _ (by omega), co 362 _ (by omega), co 363 _ (by omega), co 364 _ (by omega), co 359 _ (by omega), u1, u2, u3, u4, u5, u6, v1, v2, v3, v4, v5, v6, v7, v8, ek]
    exact ⟨by omega, by omega, rfl, by omega, by omega, fun z => by omega, fun z => by omega, fun z => by omega, fun z => ⟨rfl, Or.inl ⟨rfl, rfl⟩⟩, Or.inl rfl, Or.inl ⟨rfl, rfl⟩⟩
  refine ⟨hst, s_gn_ex, fp1, fr1, by rw [v9]; omega, by rw [co _ _ (by omega), u6]; omega, by rw [v1, ek], hk, if_pos rfl, if_pos rfl, if_pos rfl, if_pos rfl, if_pos rfl, v6, by rw [co _ _ (by omega)]; exact u5, ?_, by rw [v9]; rfl, fun y hy => (by cases hy), h15.1, ?_⟩
  · rw [co _ _ (by omega), u6, v9]
    exact ⟨fun b q1 q2 => by omega, fun c q1 q2 => by omega⟩
  · intro b q1 q2 q3
    exact (i1.2.2.2.2 b q1 q2 q3).2.2
theorem c_full.iff_new {s : Int} : c_full m P s ↔ (6000 ≤ m 359 6 - m P 8 ∨ 60000 < m 359 7 - m P 9 + s) := Iff.rfl
theorem m_tk.k93 {n : w_M} {W : Int → Int} {L p : Int} (h : m_tk n W L p) : n 428 23 = p := h.1
/-- objects, up to any length -/
theorem s_object (hr01 : 0 ≤ refs ∧ refs ≤ 1) : ∀ (K : Nat) (k : Nat), k ≤ 20 → s_ob d P W L refs K k := by
  intro K
  induction K with
  | zero =>
    intro k hk D p g m n Q hK hD hJ
    have := hJ.2.1.2.2.2.1
    omega
  | succ K ih =>
    intro k hk D p g m n Q hK hD hJ hn hrf htk hQ
    have hbits := hJ.bits
    obtain ⟨hP, hL, b3, b3', p0, p1, f2, f7, h15, h29, hro, h31, h31'⟩ := hbits
    have hP' := w_isP_o hP
    have hDr : 0 ≤ D ∧ D ≤ 100 := by omega
    have hns := r_ns2 hDr hr01
    obtain ⟨q, hq⟩ : ∃ q, q = k_w W (L - p).toNat false p := ⟨_, rfl⟩
    have kr := k_w_r W (L - p).toNat false p
    rw [← hq] at htk kr
    apply xr_ps_object hP
    refine sp_white_c hJ.2.1 (fun s1 => ?_)
    rw [← hq] at s1 ⊢
    have c1 : c_ch m (w_up m P 4 (m P 3 + q)) P := c_ch.rf.up
    obtain ⟨mw, hmw⟩ : ∃ mw, mw = w_up m P 4 (m P 3 + q) := ⟨_, rfl⟩
    rw [← hmw] at s1 c1 ⊢
    have J := hJ.ch c1 s1 (by omega)
    have w3 : mw P 3 = m P 3 := c1 _ _ (by omega)
    have w4 : mw P 4 = mw P 3 + q := s1.2.1
    have w6 : mw 359 6 = m 359 6 := c1 _ _ (by omega)
    have w10 : mw P 10 = refs := (c1 _ _ (by omega)).trans hrf
    have h23 := htk.1
    have good := hJ.2.2.2.2.2.2.1
    -- from q on is from p on
    have hQ' : ∀ r m1 r' n1, xc_m_object (d + 2 * k + 14) D refs n (w_q r' n1) → s_R g mw n m1 n1 P W L q r r' (21 - D) → Q r m1 := by
      intro r m1 r' n1 run post
      refine hQ r m1 r' n1 run ⟨post.1, ?_⟩
      rcases post.2 with ⟨o1, o2, o3, o4, o5, o6⟩ | ⟨g', e, o1, o2, o3, o4, o5, o6, o7, o8, o9⟩
      · exact Or.inl ⟨o1, o2, o3, o4, (c1.fp hP).tr o5, o6⟩
      · refine Or.inr ⟨g', e, by rw [o1, w6], o2, by omega, o4, o5, o6, (c1.fp hP).tr o7, o8, ?_⟩
        unfold s_tp at o9 ⊢
        rw [w6] at o9
        exact o9
    have bad4 : (n 428 22 = 0 ∨ n 428 22 = 10 ∨ n 428 22 = 7 ∨ n 428 22 = 9) → Q (-1) (c_fl mw P 4 (mw P 3 + q)) := by
      intro z
      have run : xc_m_object (d + 2 * k + 14) D refs n (w_q (-1) (m_fl n 4 q)) := sp_m_bad (d := d + 2 * k + 12) z (by rw [h23]; exact ⟨rfl, rfl⟩)
      exact s_bad1 J hn hns (by decide) s_fp.rf rfl J.2.2.2.2.2.1 s_fr.rf good run hQ'
    -- what stands there
    have fin4 : ∀ {c : Int}, W q = c → c ≠ 40 → c ≠ 47 → c ≠ 60 → c ≠ 91 → -1 ≤ c → ¬ b_reg c → Q (-1) (c_fl mw P 4 (mw P 3 + q)) → (if c = 40 then xc_ps_string (d + 2 * k + 13) P mw (fun r3 m3 => Q r3 m3) else (if c = 47 then xc_ps_name (d + 2 * k + 13) P mw (fun r4 m4 => Q r4 m4) else (if c = 60 then xc_ps_at (d + 2 * k + 13) P (w_32 (mw P 4 + 1)) mw (fun r5 m5 => if r5 = 60 then (xc_ps_compound (d + 2 * k + 13) P D 1 m5 (fun r6 m6 => Q r6 m6)) else (xc_ps_string (d + 2 * k + 13) P m5 (fun r7 m7 => Q r7 m7))) else (if c = 91 then xc_ps_compound (d + 2 * k + 13) P D 0 mw (fun r8 m8 => Q r8 m8) else (xc_ps_at (d + 2 * k + 13) P (mw P 4) mw (fun r9 m9 => xc_ps_isRegular (d + 2 * k + 13) r9 m9 (fun r10 m10 => if r10 = 0 then (xc_ps_failAt (d + 2 * k + 13) P 4 (mw P 4) m10 (fun r11 m11 => Q r11 m11)) else (xc_ps_plain (d + 2 * k + 13) P (mw P 4) m10 (fun r12 m12 => Q r12 m12))))))))) := by
      intro c hc z1 z2 z3 z4 z5 z6 y
      rw [if_neg z1, if_neg z2, if_neg z3, if_neg z4]
      refine sp_ps_at s1.1 w4 ?_
      refine sp_c_isRegular (by rw [hc]; exact z5) ?_
      rw [hc, if_neg z6, if_pos rfl, w4]
      exact sp_failAt (d := d + 2 * k + 12) (Q := fun r m1 => Q r m1) hP (by omega) (by omega) y
    -- arrays and dicts
    have comp : ∀ (kk e : Int) (ofE : Int), (kk = 6 ∧ ofE = 0 ∧ e = q + 1 ∨ kk = 7 ∧ ofE = 1 ∧ e = q + 2) → n 428 22 = (if kk = 6 then 6 else 8) → n 428 21 = e → e ≤ L → xc_ps_compound (d + 2 * k + 13) P D ofE mw (fun r m1 => Q r m1) := by
      intro kk e ofE hk3 h22 h21 heL
      have hcs : m_cs n = 0 := by
        unfold m_cs
        rw [if_neg (by split at h22 <;> omega)]
      have ecf := J.cfs hcs (by decide) (by omega)
      have obj113 : ∀ {Q' : Int → w_M → Prop}, xp_m_object_113 (d + 2 * k + 13) D refs n Q' → xc_m_object (d + 2 * k + 14) D refs n Q' := by
        intro Q' y
        apply xr_m_object
        rw [if_neg (by split at h22 <;> omega), if_neg (by split at h22 <;> omega), if_neg (by split at h22 <;> omega), if_neg (by split at h22 <;> omega), if_neg (by split at h22 <;> omega)]
        apply xr_m_object_59
        rw [if_neg (by decide), if_neg (by split at h22 <;> omega)]
        exact y
      have obj148 : D ≠ 20 → ∀ {Q' : Int → w_M → Prop}, (m_cf n → Q' (-1) (m_fl (m_ct n 0) 5 q)) → (¬ m_cf n → (if kk = 6 then xc_m_array (d + 2 * k + 13) (w_32 (D + 1)) refs (m_ct n 0) (fun r m1 => Q' r m1) else xc_m_dict (d + 2 * k + 13) (w_32 (D + 1)) refs (m_ct n 0) (fun r m1 => Q' r m1))) → xc_m_object (d + 2 * k + 14) D refs n Q' := by
        intro hD20 Q' y1 y2
        refine obj113 ?_
        apply xr_m_object_113
        have go : xp_m_object_148 (d + 2 * k + 13) D refs n Q' := by
          apply xr_m_object_148
          refine sp_counted (d := d + 2 * k + 11) (by omega) ⟨h31, by omega⟩ (by rw [hcs]; decide) (fun z => ?_) (fun z => ?_)
          · rw [hcs, h23]
            refine r_good0 (by rw [(m_fl_v (m_ct_27.trans good)).1]; decide) ?_
            rw [if_pos rfl]
            exact y1 z
          · rw [hcs]
            refine r_good (m_ct_27.trans good) ?_
            have c22 : m_ct n 0 428 22 = n 428 22 := m_ct_o (by decide) (by decide)
            have y2' := y2 z
            rw [if_neg (by decide), c22, if_neg (by split at h22 <;> omega), if_neg (by split at h22 <;> omega), if_neg (by split at h22 <;> omega), if_neg (by split at h22 <;> omega), if_neg (by split at h22 <;> omega)]
            by_cases q6 : kk = 6
            · rw [if_pos q6] at h22 y2'
              rw [if_pos h22]
              exact y2'
            · rw [if_neg q6] at h22 y2'
              rw [if_neg (by omega)]
              exact y2'
        by_cases q6 : n 428 22 = 6
        · rw [if_pos q6, if_neg hD20]
          exact go
        · rw [if_neg q6, if_pos (by split at h22 <;> omega), if_neg hD20]
          exact go
      apply xr_ps_compound hP
      have at33 : (D < 20 → c_full mw P 0) → xp_ps_compound_33 (d + 2 * k + 12) P D ofE (mw P 4) (-1) (if D < 20 then c_fl mw P 5 (mw P 3 + q) else mw) Q := by
        intro z
        apply xr_ps_compound_33 hP
        rw [if_pos (by decide), w4]
        by_cases q20 : D < 20
        · rw [if_pos q20]
          have run : xc_m_object (d + 2 * k + 14) D refs n (w_q (-1) (m_fl (m_ct n 0) 5 q)) := obj148 (by omega) (fun _ => ⟨rfl, rfl⟩) (fun y => absurd (ecf.1 (z q20)) y)
          have e1 : c_fl mw P 5 (mw P 3 + q) P 3 = mw P 3 := c_fl_o (by omega)
          have e2 : c_fl (c_fl mw P 5 (mw P 3 + q)) P 5 (mw P 3 + q) = c_fl mw P 5 (mw P 3 + q) := by
            have : c_fl mw P 5 (mw P 3 + q) P 6 = 5 := (c_fl_v J.2.2.2.2.2.1).1
            show (if c_fl mw P 5 (mw P 3 + q) P 6 = 0 then _ else c_fl mw P 5 (mw P 3 + q)) = _
            rw [if_neg (by rw [this]; decide)]
          refine sp_failAt (d := d + 2 * k + 11) (Q := fun r m1 => Q r m1) hP (by rw [e1]; omega) (by omega) ?_
          rw [e2]
          exact s_bad1 J hn hns (by decide) s_fp.rf rfl J.2.2.2.2.2.1 m_ct_fr (m_ct_27.trans good) run hQ'
        · rw [if_neg q20]
          have run : xc_m_object (d + 2 * k + 14) D refs n (w_q (-1) (m_fl n 5 q)) := by
            refine obj113 ?_
            apply xr_m_object_113
            have fl : xc_m_fail (d + 2 * k + 13) 5 (n 428 23) n (fun r1 m1 => w_q (-1) (m_fl n 5 q) (-1) m1) := by
              rw [h23]
              exact sp_m_fail (d := d + 2 * k + 12) (Q := fun _ m1 => w_q (-1) (m_fl n 5 q) (-1) m1) ⟨rfl, rfl⟩
            by_cases q6 : n 428 22 = 6
            · rw [if_pos q6, if_pos (by omega)]
              exact fl
            · rw [if_neg q6, if_pos (by split at h22 <;> omega), if_pos (by omega)]
              exact fl
          refine sp_failAt (d := d + 2 * k + 11) (Q := fun r m1 => Q r m1) hP (by omega) (by omega) ?_
          exact s_bad1 J hn hns (by decide) s_fp.rf rfl J.2.2.2.2.2.1 s_fr.rf good run hQ'
      by_cases q20 : D < 20
      · rw [if_pos q20]
        rw [if_pos q20] at at33
        obtain ⟨k', hk'⟩ : ∃ k', k = k' + 1 := ⟨k - 1, by omega⟩
        have mk : (c_full mw P 0 → xp_ps_compound_33 (d + 2 * k + 12) P D ofE (mw P 4) (-1) (c_fl mw P 5 (mw P 4)) Q) → (¬ c_full mw P 0 → xp_ps_compound_33 (d + 2 * k + 12) P D ofE (mw P 4) (mw 359 6) (c_new mw kk (-1) 0 0) Q) → (if ofE = 0 then xc_ps_make (d + 2 * k + 12) P 6 (-1) 0 (mw P 4) mw (fun r1 m1 => xp_ps_compound_33 (d + 2 * k + 12) P D ofE (mw P 4) r1 m1 Q) else xc_ps_make (d + 2 * k + 12) P 7 (-1) 0 (mw P 4) mw (fun r1 m1 => xp_ps_compound_33 (d + 2 * k + 12) P D ofE (mw P 4) r1 m1 Q)) := by
          intro y1 y2
          have bm : mw 359 7 ≤ 108612 := J.bits.2.2.2.2.2.2.2.2.2.2.1
          rcases hk3 with ⟨k1, k2, k3⟩ | ⟨k1, k2, k3⟩
          · rw [if_pos k2]
            rw [k1] at y2
            exact sp_make (d := d + 2 * k + 10) (by decide) hP J.rm bm (by omega) (by omega) y1 y2
          · rw [if_neg (by omega)]
            rw [k1] at y2
            exact sp_make (d := d + 2 * k + 10) (by decide) hP J.rm bm (by omega) (by omega) y1 y2
        refine mk (fun z => ?_) (fun z => ?_)
        · have := at33 (fun _ => z)
          rw [w4] at this ⊢
          exact this
        · -- it begins
          have op := s_open (R := 21 - D) J (k := kk) (by omega) z (by omega) heL h21
          have ncf := fun y => z (ecf.2 y)
          obtain ⟨mo, hmo⟩ : ∃ mo, mo = w_up (c_new mw kk (-1) 0 0) P 4 (mw P 3 + e) := ⟨_, rfl⟩
          obtain ⟨no, hno⟩ : ∃ no, no = m_new (m_ct n 0) kk 0 := ⟨_, rfl⟩
          rw [← hmo, ← hno] at op
          have cP4 : c_new mw kk (-1) 0 0 P 4 = mw P 4 := c_new_o (by omega) (by omega)
          have opb := op.1.bits
          obtain ⟨_, _, _, _, oe0, oeL, of2, of7, _⟩ := opb
          have nmo : w_nm (w_G0 sM) (m_ct n 0) ∧ True := by
            refine ⟨?_, trivial⟩
            unfold m_ct
            exact r_nm_428 (r_nm_428 hn (by show 428 ≤ 428; decide) (Or.inr (Or.inl rfl)) (by omega)) (by show 428 ≤ 428; decide) (Or.inr (Or.inr rfl)) (by omega)
          have ns3 : w_ns [(2, 428), (0, kk), (0, 0)] := by
            intro v hv
            rcases List.mem_cons.mp hv with e | hv
            · subst e; show (0 : Int) ≤ 428; decide
            · rcases List.mem_cons.mp hv with e | hv
              · subst e; show -2147483648 ≤ kk ∧ kk < 2147483648; omega
              · rcases List.mem_cons.mp hv with e | hv
                · subst e; show -2147483648 ≤ (0 : Int) ∧ (0 : Int) < 2147483648; decide
                · cases hv
          have c15 : m_ct n 0 428 15 = n 428 15 := m_ct_o (by decide) (by decide)
          have runN : xc_m_newNode (d + 2 * k + 12) kk 0 (m_ct n 0) (w_q (n 428 15) no) := sp_newNode (d := d + 2 * k + 11) (by rw [c15]; exact h15) ⟨c15, hno.symm⟩
          have nmno := (w_C.ke runN nmo.1 ns3).1
          obtain ⟨rt, n3, run3, nm3, ag3, tk3⟩ := r_get (sp_tok (d := d + 2 * k + 7) (Q := fun _ n' => m_ag no n' ∧ m_tk n' W L (k_w W (L - e).toNat false e)) ⟨op.1.2.2.2.1, hL, by rw [hno, m_new_428 (by decide), m_ct_o (by decide) (by decide)]; exact h21, oe0, oeL⟩ of2 of7 rfl (fun n' y1 y2 => ⟨y1, y2⟩)) nmno r_ns1
          have op3 := op.ag ag3
          have mo10 : mo P 10 = refs := by
            rw [hmo, w_up_nb (by decide), c_new_o (by omega) (by omega)]
            exact w10
          have p8 : mw P 8 ≤ mw 359 6 := J.rm.2.2.1
          have lenc : (([] : List Int).length : Int) + 1 ≤ mo 359 6 - mw 359 6 := by
            have : mo 359 6 = mw 359 6 + 1 := by
              rw [hmo, w_up_ne (by omega)]
              exact c_new_c.2.2.2.2.2.1
            show (0 : Int) + 1 ≤ _
            omega
          apply xr_ps_compound_33 hP
          have hbw := J.1.1
          unfold s_bd at hbw
          rw [if_neg (by omega), cP4, w4]
          subst hk'
          have asm : ∀ {Q' : Int → w_M → Prop}, (if kk = 6 then xp_m_array_15 (d + 2 * k' + 14) (D + 1) refs (n 428 15) (-1) n3 Q' else xp_m_dict_15 (d + 2 * k' + 14) (D + 1) refs (n 428 15) (-1) n3 Q') → xc_m_object (d + 2 * (k' + 1) + 14) D refs n Q' := by
            intro Q' y
            refine obj148 (by omega) (fun z => absurd z ncf) (fun _ => ?_)
            rw [w_32_id (x := D + 1) (by omega) (by omega)]
            by_cases q6 : kk = 6
            · rw [if_pos q6] at y ⊢
              apply xr_m_array
              rw [q6] at runN
              refine w_C.to runN ?_
              exact w_C.to run3 y
            · rw [if_neg q6] at y ⊢
              apply xr_m_dict
              have q7 : kk = 7 := by omega
              rw [q7] at runN
              refine w_C.to runN ?_
              exact w_C.to run3 y
          have nmend : ∀ {r' : Int} {n1 : w_M}, xc_m_object (d + 2 * (k' + 1) + 14) D refs n (w_q r' n1) → w_nm (w_G0 sM) n1 := fun run => (w_C.ke run hn hns).1
          rcases hk3 with ⟨k1, k2, k3⟩ | ⟨k1, k2, k3⟩
          · rw [if_pos k2, w_32_id (by omega) (by omega), show mw P 3 + q + 1 = mw P 3 + e by omega, ← hmo, k2]
            rw [k1] at op3
            refine s_arr (ih k' (by omega)) (by omega) (by omega) rfl J.1 hr01 p8 (L - e + 1).toNat e _ mo n3 [] (-1) (-1) Q (by omega) (by omega) (by omega : q < e) op3 nm3 mo10 tk3 (Or.inl ⟨rfl, rfl, rfl⟩) lenc (fun r m1 r' n1 run post => ?_)
            have run' := asm (by rw [if_pos k1]; exact run)
            exact hQ' r m1 r' n1 run' ⟨nmend run', post⟩
          · rw [if_neg (by omega), w_32_id (by omega) (by omega), show mw P 3 + q + 2 = mw P 3 + e by omega, ← hmo, k2]
            rw [k1] at op3
            refine s_dic (ih k' (by omega)) (by omega) (by omega) rfl J.1 hr01 p8 (L - e + 1).toNat e _ mo n3 [] (-1) (-1) Q (by omega) (by omega) (by omega : q < e) op3 (fun y hy => by cases hy) nm3 mo10 tk3 (Or.inl ⟨rfl, rfl, rfl⟩) lenc (fun r m1 r' n1 run post => ?_)
            have run' := asm (by rw [if_neg (by omega)]; exact run)
            exact hQ' r m1 r' n1 run' ⟨nmend run', post⟩
      · rw [if_neg q20]
        rw [if_neg q20] at at33
        exact at33 (fun z => absurd z q20)
    refine sp_ps_at s1.1 w4 ?_
    obtain ⟨_, hh⟩ := htk
    have hge := t_by_r s1.1.1 q
    rcases hh with ⟨z1, z2⟩ | ⟨z1, z2, z3⟩ | ⟨z1, z2⟩ | ⟨z1, z2⟩ | ⟨z1, z2, z3, z4⟩ | ⟨z1, z2, z3, z4⟩ | ⟨z1, z2, z3⟩ | ⟨z1, z2, z3⟩ | ⟨z0, z1, z2, z3, z4, z5, z6, z7, z8⟩
    · refine fin4 rfl (by omega) (by omega) (by omega) (by omega) hge.1 (by omega) (bad4 (Or.inl z2))
    · -- a row
      have ne : W q ≠ 40 ∧ W q ≠ 47 ∧ W q ≠ 60 ∧ W q ≠ 91 := by
        have := z1.2.2
        omega
      rw [if_neg ne.1, if_neg ne.2.1, if_neg ne.2.2.1, if_neg ne.2.2.2]
      refine sp_ps_at s1.1 w4 ?_
      refine sp_c_isRegular hge.1 ?_
      rw [if_pos z1, if_neg (by decide), w4]
      have hck : n 428 22 ≠ 4 ∧ n 428 22 ≠ 5 := by
        obtain ⟨r1, r2, r3⟩ := z2
        by_cases y : g_kd (g_s W q (g_len W (L - q).toNat q)) = -1
        · have := (r2 y).1; omega
        · rcases r3 y with w | w
          · omega
          · have := w.2.2
            split at this <;> omega
      exact s_plain (d := d + 2 * k + 5) (d' := d + 2 * k + 5) J hn hDr hr01 w10 z1 h23 z3 z2 hck hQ'
    · rw [if_neg (by omega), if_pos z1]
      exact s_name (d := d + 2 * k + 9) (d' := d + 2 * k + 10) J hn hDr hr01 z1 h23 z2 hQ'
    · by_cases y : W q = 40
      · rw [if_pos y]
        exact s_string (d := d + 2 * k + 9) (d' := d + 2 * k + 10) J hn hDr hr01 z1 h23 z2 hQ'
      · have y2 := z1.resolve_left y
        have y3 : w_32 (mw P 3 + q + 1) = mw P 3 + (q + 1) := by clear z2 hQ hQ' fin4 comp; rw [w_32_id (by omega) (by omega)]; omega
        rw [if_neg y, if_neg (by rw [y2.1]; decide), if_pos y2.1, w4, y3]
        refine sp_ps_at s1.1 (i := q + 1) rfl ?_
        rw [if_neg y2.2]
        exact s_string (d := d + 2 * k + 9) (d' := d + 2 * k + 10) J hn hDr hr01 z1 h23 z2 hQ'
    · have hin := t_in s1.1.1 (x := q + 1) (by omega)
      rw [if_neg (by omega), if_neg (by omega), if_pos z1, w4, w_32_id (by omega) (by omega)]
      refine sp_ps_at s1.1 (i := q + 1) (by omega) ?_
      rw [if_pos z2]
      exact comp 7 (q + 2) 1 (Or.inr ⟨rfl, rfl, rfl⟩) (by rw [if_neg (by decide)]; exact z3) z4 (by omega)
    · exact fin4 rfl (by omega) (by omega) (by omega) (by omega) hge.1 (by omega) (bad4 (Or.inr (Or.inr (Or.inr z3))))
    · have hin := t_in s1.1.1 (x := q) (by omega)
      rw [if_neg (by omega), if_neg (by omega), if_neg (by omega), if_pos z1]
      exact comp 6 (q + 1) 0 (Or.inl ⟨rfl, rfl, rfl⟩) (by rw [if_pos rfl]; exact z2) z3 (by omega)
    · exact fin4 rfl (by omega) (by omega) (by omega) (by omega) hge.1 (by omega) (bad4 (Or.inr (Or.inr (Or.inl z2))))
    · exact fin4 rfl z4 z3 z5 z7 hge.1 z2 (bad4 (Or.inr (Or.inl z0)))
end OB
