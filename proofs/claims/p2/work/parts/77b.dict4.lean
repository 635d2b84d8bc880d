/-! ===== dicts: the loop, all cases ===== -/
section DM
variable {g g0 g1 g' : s_g} {m m0 m' m1 m2 n n0 n' n1 n2 : w_M} {P L p p0 q e a b s c D refs R : Int} {W : Int → Int} {l l' : List Int} {Q : Int → w_M → Prop} {d d' : Nat}
set_option maxHeartbeats 6000000 in
theorem s_dic {k : Nat} {K : Int} (hob : s_ob d P W L refs K k) (hD : D + 1 = 20 - (k : Int)) (hD0 : 0 ≤ D) (hR : R = 21 - D) (h0 : s_st g0 m0 n0) (hr01 : 0 ≤ refs ∧ refs ≤ 1) (hp8 : m0 P 8 ≤ m0 359 6) :
    ∀ (X : Nat) (q : Int) (g : s_g) (m n : w_M) (l : List Int) (zc zr : Int) (Q : Int → w_M → Prop), L - q < X → L - q < K → p0 < q → s_LI g0 g m0 n0 m n P W L q R 7 l → s_nb g m l → w_nm (w_G0 sM) n → m P 10 = refs → m_tk n W L (k_w W (L - q).toNat false q) →
    ((l = [] ∧ zr = -1 ∧ zc = -1) ∨ (zr ∈ l ∧ n 437 zr = -1 ∧ zc = g.1 zr)) → (l.length : Int) + 1 ≤ m 359 6 - m0 359 6 →
    (∀ r m1 r' n1, xp_m_dict_15 (d + 2 * k + 14) (D + 1) refs (n0 428 15) zr n (w_q r' n1) → (s_B m0 n0 m1 n1 P r ∨ s_O g0 m0 n0 m1 n1 P W L p0 r r' R) → Q r m1) → xp_ps_compound_71 (d + 2 * k + 14) P D 1 (m0 359 6) zc l.length m Q := by
  intro X
  induction X with
  | zero =>
    intro q g m n l zc zr Q hX
    intro _ _ h
    have := h.1.2.1.2.2.2.1
    omega
  | succ X ih =>
    intro q g m n l zc zr Q hX hK hpq h hnb hn hrf htk hlast hlen hQ
    have hJ := h.1
    have hbits := hJ.bits
    obtain ⟨hP, hL, b3, b3', q0, q1, f2, f7, h15, h29, hro, h31, h31'⟩ := hbits
    have hP' := w_isP_o hP
    have hst := hJ.2.1
    have hct := hJ.2.2.2.2.2.2.2.1
    have hbd := hJ.1.1
    have hrm := hJ.rm
    have e8 : m P 8 = m0 P 8 := h.2.2.1.2.2 _ _ (by omega) (by omega) (by omega) (by omega)
    unfold c_rm at hrm
    unfold s_bd at hbd
    obtain ⟨q', hq'⟩ : ∃ q', q' = k_w W (L - q).toNat false q := ⟨_, rfl⟩
    have kr := k_w_r W (L - q).toNat false q
    rw [← hq'] at htk kr
    have kid := k_w_id ⟨q0, q1⟩ hq'
    have len0 : 0 ≤ (l.length : Int) := by omega
    have h23 : n 428 23 = q' := htk.1
    apply xr_ps_compound_71 hP
    rw [if_neg (by omega)]
    refine sp_white_c hst (fun s1 => ?_)
    rw [← hq'] at s1 ⊢
    have c1 : c_ch m (w_up m P 4 (m P 3 + q')) P := c_ch.rf.up
    obtain ⟨mw, hmw⟩ : ∃ mw, mw = w_up m P 4 (m P 3 + q') := ⟨_, rfl⟩
    rw [← hmw] at s1 c1 ⊢
    have h1 := h.ch c1 s1 (by omega)
    have w3 : mw P 3 = m P 3 := c1 _ _ (by omega)
    have w4 : mw P 4 = mw P 3 + q' := s1.2.1
    have w6 : mw 359 6 = m 359 6 := c1 _ _ (by omega)
    have w7 : mw 359 7 = m 359 7 := c1 _ _ (by omega)
    have w2 : mw P 2 = m P 2 := c1 _ _ (by omega)
    have w8 : mw P 8 = m P 8 := c1 _ _ (by omega)
    have w9 : mw P 9 = m P 9 := c1 _ _ (by omega)
    have wP6 : mw P 6 = 0 := (c1 _ _ (by omega)).trans hJ.2.2.2.2.2.1
    have w10 : mw P 10 = refs := (c1 _ _ (by omega)).trans hrf
    rw [if_neg (by decide)]
    refine sp_ps_at s1.1 w4 ?_
    have good : n 428 27 = 0 := hJ.2.2.2.2.2.2.1
    obtain ⟨t9a, t9b⟩ := htk.k9
    have hN0 : 0 ≤ n0 428 15 ∧ n0 428 15 < 40000 := by
      have := h.2.2.2.2.1
      have := h0.1
      unfold s_bd at this
      omega
    have jw := h1.1
    -- a fault: the class's r, the reference's end
    have bad : ∀ {m' n' : w_M} {c : Int}, c ≠ 0 → s_fp mw m' P → m' P 3 = mw P 3 → m' P 6 = 0 → s_fr n n' → n' 428 27 = c → n' 428 28 = q' → xp_m_dict_15 (d + 2 * k + 14) (D + 1) refs (n0 428 15) zr n (w_q (-1) n') → Q (-1) (c_fl m' P c (mw P 3 + q')) := by
      intro m' n' c hc y1 y2 y3 y4 y5 y6 y7
      obtain ⟨x1, x2⟩ := c_fl_v (c := c) (a := mw P 3 + q') y3
      refine hQ _ _ _ _ y7 (Or.inl ⟨rfl, by rw [x1]; exact hc, by rw [x1, y5], by rw [x2, y6, y2]; omega, (h1.2.2.1.tr y1).tr (c_fl_fp hP), h1.2.2.2.1.tr y4⟩)
    -- no key
    have nokey : W q' ≠ 47 → ¬ (W q' = 62 ∧ W (q' + 1) = 62) → xc_ps_noKey (d + 2 * k + 14) P (mw P 3 + q') mw (fun r5 m5 => xp_ps_compound_184 (d + 2 * k + 14) P D 1 (m0 359 6) zc l.length (mw P 3 + q') r5 m5 Q) := by
      intro z1 z2
      refine sp_noKey (d := d + 2 * k + 10) s1 (by rw [w2]; have := hJ.2.2.1; omega) (by rw [w7]; omega) (fun c hc m' t => ?_)
      refine sp_comp_nokey hP ?_
      obtain ⟨y1, y2, y3⟩ := htk.nokey z1 z2 hc
      have tfp := t.fp hP
      have run : ∀ c', n 428 22 ≠ 9 → n 428 22 ≠ 4 → ((n 428 22 = 11 ∧ c' = 5) ∨ (n 428 22 ≠ 11 ∧ c' = 4)) → xp_m_dict_15 (d + 2 * k + 14) (D + 1) refs (n0 428 15) zr n (w_q (-1) (m_fl n c' q')) := by
        intro c' v1 v2 v3
        apply xr_m_dict_15
        refine r_good good ?_
        rw [if_neg (by decide), if_neg v1, if_neg v2, h23]
        rcases v3 with ⟨v3, v4⟩ | ⟨v3, v4⟩
        · rw [if_pos v3, v4]
          exact sp_m_fail (Q := fun _ m1 => w_q (-1) (m_fl n 5 q') (-1) m1) ⟨rfl, rfl⟩
        · rw [if_neg v3, v4]
          exact sp_m_fail (Q := fun _ m1 => w_q (-1) (m_fl n 4 q') (-1) m1) ⟨rfl, rfl⟩
      have cne : c ≠ 0 := by rcases y3 with y | y <;> omega
      exact bad cne tfp (t _ _ (by omega) (by omega)) ((t _ _ (by omega) (by omega)).trans wP6) (m_fl_fr (c := c) (a := q')) (m_fl_v good).1 (m_fl_v good).2 (run c y1 y2 y3)
    -- its end
    have over : W q' = 62 → W (q' + 1) = 62 → Q (m0 359 6) (w_up mw P 4 (w_32 (mw P 4 + 2))) := by
      intro z1 z2
      obtain ⟨u1, u2⟩ := t9b ⟨z1, z2⟩
      have hin := t_in s1.1.1 (x := q' + 1) (by omega)
      refine hQ _ _ (n0 428 15) n ?_ (Or.inr ?_)
      · apply xr_m_dict_15
        refine r_good good ?_
        rw [if_neg (by decide), if_pos u1]
        exact ⟨rfl, rfl⟩
      · rw [w4, w_32_id (by omega) (by omega), show mw P 3 + q' + 2 = mw P 3 + (q' + 2) by omega]
        have s2 : c_st (w_up mw P 4 (mw P 3 + (q' + 2))) P W L (q' + 2) := s1.mv (by omega) (by omega)
        exact (h1.ch (c_ch.rf.up) s2 (by omega)).fin (by omega) u2
    by_cases z62 : W q' = 62
    · rw [if_pos z62, w4, w_32_id (x := mw P 3 + q' + 1) (by omega) (by omega)]
      refine sp_ps_at s1.1 (i := q' + 1) (by omega) ?_
      by_cases z63 : W (q' + 1) = 62
      · rw [if_pos z63, if_neg (by decide)]
        exact over z62 z63
      · rw [if_neg z63, if_neg (by decide)]
        refine sp_ps_at s1.1 (i := q') rfl ?_
        rw [if_neg (by omega)]
        exact nokey (by omega) (fun y => z63 y.2)
    · rw [if_neg z62, if_neg (by decide), w4]
      refine sp_ps_at s1.1 (i := q') rfl ?_
      by_cases z47 : W q' = 47
      · rw [if_pos z47]
        -- a name
        have ntk : (∃ e l, u_n W (L - (q' + 1)).toNat (q' + 1) [] = (1, e, l) ∧ n 428 22 = 10) ∨ (∃ e l, u_n W (L - (q' + 1)).toNat (q' + 1) [] = (0, e, l) ∧ q' + 1 ≤ e ∧ e ≤ L ∧ l.length + (q' + 1) ≤ e ∧ m_bt n l ∧ n 428 21 = e ∧ n 428 22 = if 60 < n 428 26 then 11 else 4) := by
          obtain ⟨_, hh⟩ := htk
          rcases hh with hh | ⟨hh, _⟩ | hh | ⟨hh, _⟩ | hh | hh | hh | hh | hh
          · omega
          · have := hh.2.2; omega
          · exact hh.2
          · omega
          · omega
          · omega
          · omega
          · omega
          · omega
        have hin := (t_in s1.1.1 (x := q') (by omega)).2
        have i9 := jw.2.2.2.2.2.2.2.2.1
        have ls := (jw.1.2.2.2.2 (n0 428 15) hN0.1 h.2.2.2.2.1 (by rw [h.2.2.2.2.2.2.1]; exact Or.inr rfl)).1
        obtain ⟨ls1, ls2, ls3, ls4⟩ := ls
        have hch : g.2.1 (n0 428 15) = l := h.2.2.2.2.2.2.2.2.1
        rw [hch] at ls1 ls2 ls3 ls4
        have mem := ls1.mem
        have dk := (ls4 h.2.2.2.2.2.2.1).1
        rcases ntk with ⟨e1, l1, y1, y2⟩ | ⟨e1, l1, y1, y2, y3, y4, y5, y6, y7⟩
        · -- it is none
          have run : xp_m_dict_15 (d + 2 * k + 14) (D + 1) refs (n0 428 15) zr n (w_q (-1) (m_fl n 4 q')) := by
            apply xr_m_dict_15
            refine r_good good ?_
            rw [if_neg (by decide), if_neg (by omega), if_neg (by omega), if_neg (by omega), h23]
            exact sp_m_fail (Q := fun _ m1 => w_q (-1) (m_fl n 4 q') (-1) m1) ⟨rfl, rfl⟩
          refine sp_name (d := d + 2 * k + 10) s1 (by rw [w2]; have := hJ.2.2.1; omega) jw.rm hin (fun e l' z => ?_) (fun e l' z m' t => ?_) (fun e l' z => ?_) (fun e l' z => ?_)
          · rw [y1] at z; cases z
          · obtain ⟨x3, x6, _⟩ := t.sm hP
            exact sp_comp_nokey hP (bad (by decide) (t.cx.fp hP) x3 (x6.trans wP6) (m_fl_fr (c := 4) (a := q')) (m_fl_v good).1 (m_fl_v good).2 run)
          · rw [y1] at z; cases z
          · rw [y1] at z; cases z
        · obtain ⟨S, hS⟩ : ∃ S : Int, S = (l1.length : Int) := ⟨_, rfl⟩
          have e26 : n 428 26 = S := y5.1.trans hS.symm
          have S0 : 0 ≤ S := by omega
          -- the reference: entries that have the name
          have pair : ∀ w ∈ l, s_ky mw n (mw 364 (g.1 w)) (n 438 w) (n 439 w) ∧ 0 ≤ mw 364 (g.1 w) := fun w hw => ⟨(jw.1.2.1 w (mem w hw).1 (mem w hw).2).2.2.2.2.2.2.2.2.2.2, dk w hw⟩
          have bnd : ∀ w ∈ l, 0 ≤ n 438 w ∧ n 438 w + n 439 w ≤ 150000 := by
            intro w hw
            obtain ⟨x1, x2⟩ := pair w hw
            rcases x1 with x1 | ⟨a1, a2, a3, a4, b1, b2, b3, b4, b5, b6⟩
            · omega
            · omega
          have dic71 : n 428 22 = 4 → ∀ {Q' : Int → w_M → Prop}, (∀ n', ((∃ y ∈ l, s_kt n y) ∧ n' = m_fl n 5 q') ∨ ((∀ y ∈ l, ¬ s_kt n y) ∧ n' = n) → xp_m_dict_71 (d + 2 * k + 14) (D + 1) refs (n0 428 15) zr (-1) n' Q') → xp_m_dict_15 (d + 2 * k + 14) (D + 1) refs (n0 428 15) zr n Q' := by
            intro t4 Q' hq
            apply xr_m_dict_15
            refine r_good good ?_
            rw [if_neg (by decide), if_neg (by omega), if_pos t4]
            refine ⟨hN0, ?_⟩
            exact r_twice (d := d + 2 * k + 13) (p := q') (by omega) l _ n ls1 bnd (by omega) (by omega) h23 hq
          have hsz : (l1.length : Int) ≤ L - q' := by omega
          -- counted: more than may be
          have flq : ∀ n', ((∃ y ∈ l, s_kt n y) ∧ n' = m_fl n 5 q') ∨ ((∀ y ∈ l, ¬ s_kt n y) ∧ n' = n) → (n' = n ∨ n' = m_fl n 5 q') := by
            intro n' w
            rcases w with w | w
            · exact Or.inr w.2
            · exact Or.inl w.2
          have cnt : ∀ n', (n' = n ∨ n' = m_fl n 5 q') → n 428 22 = 4 → ∀ {Q' : Int → w_M → Prop}, (m_cf n → Q' (-1) (m_fl (m_ct n' S) 5 q')) → (¬ m_cf n → n' = m_fl n 5 q' → Q' (-1) (m_ct n' S)) → (¬ m_cf n → n' = n → xc_m_token (d + 2 * k + 14) (w_up (m_ct n S) 428 17 (w_32 (m_ct n S 428 17 + m_ct n S 428 26))) (fun _ m3 => xc_m_object (d + 2 * k + 14) (D + 1) refs m3 (fun r4 m4 => xc_m_good (d + 2 * k + 14) m4 (fun r5 m5 => if r5 = 0 then (Q' (-1) m5) else (((0 : Int) ≤ r4 ∧ r4 < 40000) ∧ (((0 : Int) ≤ r4 ∧ r4 < 40000) ∧ (if zr < 0 then (((0 : Int) ≤ n0 428 15 ∧ n0 428 15 < 40000) ∧ (((0 : Int) ≤ n0 428 15 ∧ n0 428 15 < 40000) ∧ (((0 : Int) ≤ n0 428 15 ∧ n0 428 15 < 40000) ∧ (xc_m_token (d + 2 * k + 14) (w_up (w_up (w_up (w_up m5 438 r4 (m_ct n S 428 17)) 439 r4 (m_ct n S 428 26)) 436 (n0 428 15) r4) 435 (n0 428 15) (w_32 (((w_up (w_up (w_up m5 438 r4 (m_ct n S 428 17)) 439 r4 (m_ct n S 428 26)) 436 (n0 428 15) r4) 435 (n0 428 15)) + 1))) (fun _ m6 => xp_m_dict_15 (d + 2 * k + 14) (D + 1) refs (n0 428 15) r4 m6 Q'))))) else (((0 : Int) ≤ zr ∧ zr < 40000) ∧ (((0 : Int) ≤ n0 428 15 ∧ n0 428 15 < 40000) ∧ (((0 : Int) ≤ n0 428 15 ∧ n0 428 15 < 40000) ∧ (xc_m_token (d + 2 * k + 14) (w_up (w_up (w_up (w_up m5 438 r4 (m_ct n S 428 17)) 439 r4 (m_ct n S 428 26)) 437 zr r4) 435 (n0 428 15) (w_32 (((w_up (w_up (w_up m5 438 r4 (m_ct n S 428 17)) 439 r4 (m_ct n S 428 26)) 437 zr r4) 435 (n0 428 15)) + 1))) (fun _ m7 => xp_m_dict_15 (d + 2 * k + 14) (D + 1) refs (n0 428 15) r4 m7 Q')))))))))))) → xp_m_dict_71 (d + 2 * k + 14) (D + 1) refs (n0 428 15) zr (-1) n' Q' := by
            intro n' hn' t4 Q' c1 c2 c3
            have eo : ∀ i j : Int, ¬ (i = 428 ∧ (j = 27 ∨ j = 28)) → n' i j = n i j := by
              intro i j v
              rcases hn' with w | w
              · rw [w]
              · rw [w, m_fl_o v]
            have ecs : m_cs n' = S := by
              unfold m_cs
              rw [eo 428 22 (by omega), if_pos (Or.inl t4), eo 428 26 (by omega), e26]
            have ecf : m_cf n' ↔ m_cf n := by
              have e1 : m_cs n = S := by unfold m_cs; rw [if_pos (Or.inl t4), e26]
              unfold m_cf
              rw [ecs, e1, eo 428 29 (by omega), eo 428 30 (by omega), eo 428 31 (by omega), eo 428 32 (by omega)]
            apply xr_m_dict_71
            rw [if_pos (by decide)]
            refine sp_counted (d := d + 2 * k + 12) (by rw [eo 428 29 (by omega)]; omega) (by rw [eo 428 31 (by omega)]; omega) (by rw [ecs]; omega) (fun v => ?_) (fun v => ?_)
            · rw [ecs, eo 428 23 (by omega), h23]
              refine r_good0 ?_ ?_
              · rcases hn' with w | w
                · rw [w, (m_fl_v (by rw [m_ct_27]; exact good)).1]; decide
                · have : m_ct n' S 428 27 ≠ 0 := by rw [m_ct_27, w, (m_fl_v good).1]; decide
                  unfold m_fl
                  rw [if_neg this]
                  exact this
              · rw [if_pos rfl]
                exact c1 (ecf.1 v)
            · rw [ecs]
              rcases hn' with w | w
              · refine r_good (by rw [m_ct_27, w]; exact good) ?_
                rw [if_neg (by decide), w]
                exact c3 (fun y => v (ecf.2 y)) w
              · refine r_good0 (by rw [m_ct_27, w, (m_fl_v good).1]; decide) ?_
                rw [if_pos rfl]
                exact c2 (fun y => v (ecf.2 y)) w
          have hro2 : ∀ e l', u_n W (L - (q' + 1)).toNat (q' + 1) [] = (0, e, l') → ¬ c_full mw P l'.length → mw 359 7 + l'.length ≤ 108612 := by
            intro e l' z z2
            rw [y1] at z
            cases z
            unfold s_md at i9
            unfold c_full at z2
            omega
          refine sp_name (d := d + 2 * k + 10) s1 (by rw [w2]; have := hJ.2.2.1; omega) jw.rm hin hro2 (fun e l' z => ?_) (fun e l' z zz m' t => ?_) (fun e l' z z2 z3 z4 z5 m' t t4 => ?_)
          · rw [y1] at z; cases z
          · -- too long, or too many
            rw [y1] at z
            cases z
            obtain ⟨x3, x6, _⟩ := t.sm hP
            refine sp_comp_nokey hP ?_
            rw [e26] at y7
            rw [← hS] at zz
            by_cases q60 : 60 < S
            · rw [if_pos q60] at y7
              have run : xp_m_dict_15 (d + 2 * k + 14) (D + 1) refs (n0 428 15) zr n (w_q (-1) (m_fl n 5 q')) := by
                apply xr_m_dict_15
                refine r_good good ?_
                rw [if_neg (by decide), if_neg (by omega), if_neg (by omega), if_pos y7, h23]
                exact sp_m_fail (Q := fun _ m1 => w_q (-1) (m_fl n 5 q') (-1) m1) ⟨rfl, rfl⟩
              exact bad (by decide) (t.cx.fp hP) x3 (x6.trans wP6) (m_fl_fr (c := 5) (a := q')) (m_fl_v good).1 (m_fl_v good).2 run
            · rw [if_neg q60] at y7
              have cf := (jw.cfs (s := S) ((m_cs_v y5 (Or.inl y7)).trans hS.symm) S0 (by omega)).1 (zz.resolve_left q60)
              by_cases tw : ∃ y ∈ l, s_kt n y
              · have e27 : m_ct (m_fl n 5 q') S 428 27 = 5 := by rw [m_ct_27, (m_fl_v good).1]
                have e28 : m_ct (m_fl n 5 q') S 428 28 = q' := by
                  have : ∀ j : Int, j ≠ 29 → j ≠ 31 → m_ct (m_fl n 5 q') S 428 j = m_fl n 5 q' 428 j := by
                    intro j v1 v2
                    unfold m_ct
                    rw [w_up_nb v2, w_up_nb v1]
                  rw [this 28 (by decide) (by decide), (m_fl_v good).2]
                have eid : m_fl (m_ct (m_fl n 5 q') S) 5 q' = m_ct (m_fl n 5 q') S := by
                  show (if m_ct (m_fl n 5 q') S 428 27 = 0 then _ else m_ct (m_fl n 5 q') S) = _
                  rw [if_neg (by rw [e27]; decide)]
                refine bad (n' := m_ct (m_fl n 5 q') S) (by decide) (t.cx.fp hP) x3 (x6.trans wP6) ((m_fl_fr (c := 5) (a := q')).tr m_ct_fr) e27 e28 (dic71 y7 (fun n' hn' => cnt n' (flq n' hn') y7 (fun _ => ?_) (fun v => absurd cf v) (fun v => absurd cf v)))
                rcases hn' with ⟨_, w⟩ | ⟨w, _⟩
                · rw [w, eid]; exact ⟨rfl, rfl⟩
                · obtain ⟨u, hu, hu2⟩ := tw
                  exact absurd hu2 (w u hu)
              · refine bad (n' := m_fl (m_ct n S) 5 q') (by decide) (t.cx.fp hP) x3 (x6.trans wP6) ((m_ct_fr (s := S)).tr m_fl_fr) (m_fl_v (m_ct_27.trans good)).1 (m_fl_v (m_ct_27.trans good)).2 (dic71 y7 (fun n' hn' => cnt n' (flq n' hn') y7 (fun _ => ?_) (fun v => absurd cf v) (fun v => absurd cf v)))
                rcases hn' with ⟨w, _⟩ | ⟨_, w⟩
                · exact absurd w tw
                · rw [w]; exact ⟨rfl, rfl⟩
          · rw [y1] at z
            cases z
            rw [e26, if_neg (by omega)] at y7
            rw [← hS] at z5
            have cf : ¬ m_cf n := fun v => z5 ((jw.cfs (s := S) ((m_cs_v y5 (Or.inl y7)).trans hS.symm) S0 (by omega)).2 v)
            have z5' : ¬ c_full mw P l1.length := by rw [← hS]; exact z5
            have key := s_key (H := s_hs (c_new m' 4 (mw 359 7) S S) (mw 359 7) S.toNat) jw y5 (by omega) y4 y3 z5' t t4 y6
            rw [← hS] at key ⊢
            have hS1 : mw 359 7 + S ≤ 108612 := by rw [hS]; exact hro2 e1 l1 y1 z5'
            have hCC : mw 359 6 < 16564 := by
              unfold c_full at z5
              omega
            have nbw : s_nb g mw l := hnb.cf hJ.1 (fun y hy => mem y hy) ((c1.fp hP).cf hP)
            obtain ⟨kJ, k21, kfp, kfr, k6, k15, kky, k363, k360', k361, k362⟩ := key
            apply xr_ps_compound_184 hP
            rw [if_neg (by decide), if_neg (by omega)]
            refine s_dic_tw (d := d + 2 * k + 10) h1 nbw hP t y5 hS (by omega) hS1 hCC (by omega) (fun tw => ?_) (fun ntw => ?_)
            · -- it comes twice
              have kP3 : c_kn m' (mw 359 7) S (s_hs (c_new m' 4 (mw 359 7) S S) (mw 359 7) S.toNat) P 3 = mw P 3 := kfp.2.2 _ _ (by omega) (by omega) (by omega) (by omega)
              rw [if_neg (by decide)]
              refine sp_failAt (d := d + 2 * k + 13) (Q := fun r8 m8 => Q r8 m8) hP (by rw [kP3, w3]; omega) (by rw [w3]; omega) ?_
              refine bad (n' := m_ct (m_fl n 5 q') S) (by decide) kfp kP3 kJ.2.2.2.2.2.1 ((m_fl_fr (c := 5) (a := q')).tr m_ct_fr) (by rw [m_ct_27, (m_fl_v good).1]) ?_ (dic71 y7 (fun n' hn' => cnt n' (flq n' hn') y7 (fun v => absurd v cf) (fun _ w => by rw [w]; exact ⟨rfl, rfl⟩) (fun _ w => ?_)))
              · have : ∀ j : Int, j ≠ 29 → j ≠ 31 → m_ct (m_fl n 5 q') S 428 j = m_fl n 5 q' 428 j := by
                  intro j v1 v2
                  unfold m_ct
                  rw [w_up_nb v2, w_up_nb v1]
                rw [this 28 (by decide) (by decide), (m_fl_v good).2]
              · rcases hn' with ⟨_, v⟩ | ⟨v, _⟩
                · have := (m_fl_v (c := 5) (a := q') good).1
                  rw [← v, w, good] at this
                  exact absurd this (by decide)
                · obtain ⟨u, hu, hu2⟩ := tw
                  exact absurd hu2 (v u hu)
            · rw [if_pos rfl, if_neg (by decide), if_neg (by omega), w_32_id (x := D + 1) (by omega) (by omega)]
              have ct17 : m_ct n S 428 17 = n 428 17 := by unfold m_ct; rw [w_up_nb (by decide), w_up_nb (by decide)]
              have ct26 : m_ct n S 428 26 = S := by unfold m_ct; rw [w_up_nb (by decide), w_up_nb (by decide)]; exact e26
              have nk17 : m_kn n S 428 17 = n 428 17 + S := w_up_eq
              have nk440 : ∀ b : Int, m_kn n S 440 b = n 440 b := by
                intro b
                unfold m_kn m_ct
                rw [w_up_ne (by decide), w_up_ne (by decide), w_up_ne (by decide)]
              have nmk : w_nm (w_G0 sM) (m_kn n S) := by
                unfold m_kn m_ct
                exact r_nm_428 (r_nm_428 (r_nm_428 hn (by show 428 ≤ 428; decide) (Or.inr (Or.inl rfl)) (by omega)) (by show 428 ≤ 428; decide) (Or.inr (Or.inr rfl)) (by omega)) (by show 428 ≤ 428; decide) (Or.inl rfl) (by omega)
              have mk10 : c_kn m' (mw 359 7) S (s_hs (c_new m' 4 (mw 359 7) S S) (mw 359 7) S.toNat) P 10 = refs := (kfp.2.2 _ _ (by omega) (by omega) (by omega) (by omega)).trans w10
              have mk7 : c_kn m' (mw 359 7) S (s_hs (c_new m' 4 (mw 359 7) S S) (mw 359 7) S.toNat) 359 7 = mw 359 7 + S := by
                unfold c_kn
                rw [w_up_ne (by decide), c_new_c.2.2.2.2.2.2, (t.sm hP).2.2.2.2.2]
              have k363'' : c_kn m' (mw 359 7) S (s_hs (c_new m' 4 (mw 359 7) S S) (mw 359 7) S.toNat) 363 (mw 359 6) = s_hs (c_kn m' (mw 359 7) S (s_hs (c_new m' 4 (mw 359 7) S S) (mw 359 7) S.toNat)) (mw 359 7) S.toNat := by
                rw [k363]
                refine s_hs_eq _ (fun i q1 q2 => ?_)
                unfold c_kn
                rw [w_up_ne (by decide)]
              refine s_dic_more hob hD hR hP h1 nbw hlast (by rw [w6]; omega) hN0 (by omega) (by omega) kJ k21 kfp kfr k6 k15 kky k363'' k360' k361 k362 mk7 nk17 nk440 S0 hS1 nmk mk10 e26 ntw (fun {Q'} hx => ?_) (fun q2 g2 m2 n2 zc2 zr2 a1 a2 a3 a4 a5 a6 a7 a8 a9 b1 b2 => ?_) hQ
              · refine dic71 y7 (fun n' hn' => cnt n' (flq n' hn') y7 (fun v => absurd v cf) (fun _ w => ?_) (fun _ w => ?_))
                · rcases hn' with ⟨⟨u, hu, hu2⟩, _⟩ | ⟨_, v⟩
                  · exact absurd hu2 (ntw u hu)
                  · have := (m_fl_v (c := 5) (a := q') good).1
                    rw [← w, v, good] at this
                    exact absurd this (by decide)
                · rw [ct17, ct26, w_32_id (x := n 428 17 + S) (by omega) (by omega)]
                  exact hx
              · have len1 : (((l ++ [n 428 15]).length : Nat) : Int) = (l.length : Int) + 1 := by rw [List.length_append]; rfl
                rw [← len1]
                exact ih q2 g2 m2 n2 (l ++ [n 428 15]) zc2 zr2 Q (by omega) (by omega) (by omega) a2 a3 a4 a5 a6 (Or.inr ⟨a7, a8, a9⟩) (by rw [len1]; omega) b2
      · rw [if_neg z47]
        exact nokey z47 (fun y => z62 y.1)
end DM
