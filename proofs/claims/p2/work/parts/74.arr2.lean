/-! ===== arrays: the loop ===== -/
/-- objects shorter than K, with k more that may be opened in them: read alike -/
def s_ob (d : Nat) (P : Int) (W : Int → Int) (L refs K : Int) (k : Nat) : Prop :=
  ∀ (D p : Int) (g : s_g) (m n : w_M) (Q : Int → w_M → Prop), L - p < K → D = 20 - (k : Int) → s_J g m n P W L p → w_nm (w_G0 sM) n → m P 10 = refs → m_tk n W L (k_w W (L - p).toNat false p) →
    (∀ r m1 r' n1, xc_m_object (d + 2 * k + 14) D refs n (w_q r' n1) → s_R g m n m1 n1 P W L p r r' (21 - D) → Q r m1) → xc_ps_object (d + 2 * k + 14) P D m Q
section AL
variable {g g0 g1 g' : s_g} {m m0 m' m1 m2 n n0 n' n1 n2 : w_M} {P L p p0 q e a b s c D refs R : Int} {W : Int → Int} {l : List Int} {Q : Int → w_M → Prop} {d d' : Nat}
theorem r_good (h : n 428 27 = 0) (hQ : Q 1 n) : xc_m_good (d + 1) n Q := by
  apply xr_m_good
  rw [if_pos h]
  exact hQ
theorem r_good0 (h : n 428 27 ≠ 0) (hQ : Q 0 n) : xc_m_good (d + 1) n Q := by
  apply xr_m_good
  rw [if_neg h]
  exact hQ
theorem sp_comp_234 {K x C0 C1 zc ofE : Int} (hP : w_isP P) (hC : m1 359 6 ≤ 16564) (h1 : 0 ≤ C1 ∧ C1 < m1 359 6) (h0 : 0 ≤ C0 ∧ C0 < m1 359 6) (hz : zc < 0 ∨ (0 ≤ zc ∧ zc < m1 359 6)) (hx : 0 ≤ x ∧ x ≤ 20000)
    (hQ : ∀ m2, (∀ i j : Int, ¬ (i = 363 ∧ 0 ≤ zc ∧ j = zc) → ¬ ((i = 361 ∨ i = 362) ∧ j = C0) → ¬ (i = 364 ∧ j = C1) → m2 i j = m1 i j) → m2 364 C1 = K → m2 361 C0 = (if x = 0 then C1 else m1 361 C0) → m2 362 C0 = x + 1 → (0 ≤ zc → m2 363 zc = C1) → xp_ps_compound_71 (d + 2) P D ofE C0 C1 (x + 1) m2 Q) :
    xp_ps_compound_234 (d + 2) P D ofE C0 zc x K C1 m1 Q := by
  apply xr_ps_compound_234 hP
  rw [if_neg (by omega), w_32_id (x := x + 1) (by omega) (by omega)]
  refine sp_st_name1 h1 hC ?_
  -- behind the link
  have fin : ∀ mB : w_M, (∀ i j : Int, ¬ (i = 363 ∧ 0 ≤ zc ∧ j = zc) → ¬ (i = 364 ∧ j = C1) → mB i j = m1 i j) → mB 364 C1 = K → (0 ≤ zc → mB 363 zc = C1) → (if x = 0 then xc_st_setParts (d + 2) C0 C1 (x + 1) mB (fun r3 m3 => xp_ps_compound_71 (d + 2) P D ofE C0 C1 (x + 1) m3 Q) else xc_st_oneOf (d + 2) C0 mB (fun r4 m4 => xc_st_setParts (d + 2) C0 r4 (x + 1) m4 (fun r5 m5 => xp_ps_compound_71 (d + 2) P D ofE C0 C1 (x + 1) m5 Q))) := by
    intro mB y1 y2 y3
    have b6 : mB 359 6 = m1 359 6 := y1 _ _ (by omega) (by omega)
    have go : ∀ v, v = (if x = 0 then C1 else m1 361 C0) → xp_ps_compound_71 (d + 2) P D ofE C0 C1 (x + 1) (w_up (w_up mB 361 C0 v) 362 C0 (x + 1)) Q := by
      intro v hv
      refine hQ _ (fun i j w1 w2 w3 => ?_) ?_ ?_ w_up_eq (fun w => ?_)
      · rw [← y1 i j w1 w3]
        unfold w_up
        rw [if_neg (by omega), if_neg (by omega)]
      · rw [w_up_ne (by decide), w_up_ne (by decide)]; exact y2
      · rw [w_up_ne (by decide), w_up_eq]; exact hv
      · rw [w_up_ne (by decide), w_up_ne (by decide)]; exact y3 w
    by_cases q : x = 0
    · rw [if_pos q]
      refine sp_setParts (by rw [b6]; exact h0) (by rw [b6]; exact hC) ?_
      exact go C1 (by rw [if_pos q])
    · rw [if_neg q]
      refine sp_st_oneOf ?_
      rw [f_one_v (by rw [b6]; exact h0) (by rw [b6]; exact hC), y1 _ _ (by omega) (by omega)]
      refine sp_setParts (by rw [b6]; exact h0) (by rw [b6]; exact hC) ?_
      exact go _ (by rw [if_neg q])
  have c6 : w_up m1 364 C1 K 359 6 = m1 359 6 := w_up_ne (by decide)
  rcases hz with z | z
  · refine sp_link_n z ?_
    refine fin _ (fun i j w1 w2 => ?_) w_up_eq (fun w => by omega)
    unfold w_up
    rw [if_neg w2]
  · refine sp_link (by rw [c6]; exact z) (by rw [c6]; exact hC) ?_
    refine fin _ (fun i j w1 w2 => ?_) (by rw [w_up_ne (by decide), w_up_eq]) (fun w => w_up_eq)
    unfold w_up
    rw [if_neg (by omega), if_neg w2]
theorem s_arr {k : Nat} {K : Int} (hob : s_ob d P W L refs K k) (hD : D + 1 = 20 - (k : Int)) (hD0 : 0 ≤ D) (hR : R = 21 - D) (h0 : s_st g0 m0 n0) (hr01 : 0 ≤ refs ∧ refs ≤ 1) (hp8 : m0 P 8 ≤ m0 359 6) :
    ∀ (X : Nat) (q : Int) (g : s_g) (m n : w_M) (l : List Int) (zc zr : Int) (Q : Int → w_M → Prop), L - q < X → L - q < K → p0 < q → s_LI g0 g m0 n0 m n P W L q R 6 l → w_nm (w_G0 sM) n → m P 10 = refs → m_tk n W L (k_w W (L - q).toNat false q) →
    ((l = [] ∧ zr = -1 ∧ zc = -1) ∨ (zr ∈ l ∧ n 437 zr = -1 ∧ zc = g.1 zr)) → (l.length : Int) + 1 ≤ m 359 6 - m0 359 6 →
    (∀ r m1 r' n1, xp_m_array_15 (d + 2 * k + 14) (D + 1) refs (n0 428 15) zr n (w_q r' n1) → (s_B m0 n0 m1 n1 P r ∨ s_O g0 m0 n0 m1 n1 P W L p0 r r' R) → Q r m1) → xp_ps_compound_71 (d + 2 * k + 14) P D 0 (m0 359 6) zc l.length m Q := by
  intro X
  induction X with
  | zero =>
    intro q g m n l zc zr Q hX
    intro _ _ h
    have := h.1.2.1.2.2.2.1
    omega
  | succ X ih =>
    intro q g m n l zc zr Q hX hK hpq h hn hrf htk hlast hlen hQ
    have hJ := h.1
    have hbits := hJ.bits
    obtain ⟨hP, hL, b3, b3', q0, q1, f2, f7, h15, h29, hro, h31, h31'⟩ := hbits
    have hP' := w_isP_o hP
    have hst := hJ.2.1
    have hct := hJ.2.2.2.2.2.2.2.1
    have hbd := hJ.1.1
    have hrm := hJ.rm
    have e8 : m P 8 = m0 P 8 := h.2.2.1.2.2 _ _ (by omega) (by omega) (by omega) (by omega)
    unfold c_rm at hrm
    unfold s_bd at hbd
    obtain ⟨q', hq'⟩ : ∃ q', q' = k_w W (L - q).toNat false q := ⟨_, rfl⟩
    have kr := k_w_r W (L - q).toNat false q
    rw [← hq'] at htk kr
    have kid := k_w_id ⟨q0, q1⟩ hq'
    have len0 : 0 ≤ (l.length : Int) := by omega
    apply xr_ps_compound_71 hP
    rw [if_neg (by omega)]
    refine sp_white_c hst (fun s1 => ?_)
    rw [← hq'] at s1 ⊢
    have c1 : c_ch m (w_up m P 4 (m P 3 + q')) P := c_ch.rf.up
    obtain ⟨mw, hmw⟩ : ∃ mw, mw = w_up m P 4 (m P 3 + q') := ⟨_, rfl⟩
    rw [← hmw] at s1 c1 ⊢
    have h1 := h.ch c1 s1 (by omega)
    have w3 : mw P 3 = m P 3 := c1 _ _ (by omega)
    have w4 : mw P 4 = mw P 3 + q' := s1.2.1
    have w6 : mw 359 6 = m 359 6 := c1 _ _ (by omega)
    have w10 : mw P 10 = refs := (c1 _ _ (by omega)).trans hrf
    rw [if_pos rfl]
    refine sp_ps_at s1.1 w4 ?_
    have good : n 428 27 = 0 := hJ.2.2.2.2.2.2.1
    obtain ⟨t7a, t7b⟩ := htk.k7
    by_cases z : W q' = 93
    · rw [if_pos z, if_pos rfl]
      obtain ⟨u1, u2⟩ := t7b z
      have hin := t_in s1.1.1 (x := q') (by omega)
      refine hQ _ _ (n0 428 15) n ?_ (Or.inr ?_)
      · apply xr_m_array_15
        refine r_good good ?_
        rw [if_neg (by decide), if_pos u1]
        exact ⟨rfl, rfl⟩
      · rw [w4, w_32_id (by omega) (by omega), show mw P 3 + q' + 1 = mw P 3 + (q' + 1) by omega]
        have s2 : c_st (w_up mw P 4 (mw P 3 + (q' + 1))) P W L (q' + 1) := s1.mv (by omega) (by omega)
        have h2 := h1.ch (c_ch.rf.up) s2 (by omega)
        exact h2.fin (by omega) u2
    · rw [if_neg z, if_pos rfl]
      have ne7 : n 428 22 ≠ 7 := fun y => z (t7a y)
      apply xr_ps_compound_184 hP
      rw [if_pos rfl, if_pos rfl, w_32_id (x := D + 1) (by omega) (by omega)]
      refine hob (D + 1) q' g mw n _ (by omega) hD h1.1 hn w10 (by rw [kid]; exact htk) (fun r m1 r' n1 run post => ?_)
      obtain ⟨nm1, post⟩ := post
      have asm : ∀ {Q' : Int → w_M → Prop}, (if n1 428 27 = 0 then (0 ≤ r' ∧ r' < 40000 → 0 ≤ n0 428 15 ∧ n0 428 15 < 40000 → 0 ≤ r' ∧ r' < 40000 ∧ (if zr < 0 then xc_m_token (d + 2 * k + 14) (w_up (w_up n1 436 (n0 428 15) r') 435 (n0 428 15) (w_32 ((w_up n1 436 (n0 428 15) r') 435 (n0 428 15) + 1))) (fun _ m4 => xp_m_array_15 (d + 2 * k + 14) (D + 1) refs (n0 428 15) r' m4 Q') else (0 ≤ zr ∧ zr < 40000 ∧ xc_m_token (d + 2 * k + 14) (w_up (w_up n1 437 zr r') 435 (n0 428 15) (w_32 ((w_up n1 437 zr r') 435 (n0 428 15) + 1))) (fun _ m4 => xp_m_array_15 (d + 2 * k + 14) (D + 1) refs (n0 428 15) r' m4 Q')))) else Q' (-1) n1) → (n1 428 27 = 0 → (0 ≤ r' ∧ r' < 40000) ∧ (0 ≤ n0 428 15 ∧ n0 428 15 < 40000)) → xp_m_array_15 (d + 2 * k + 14) (D + 1) refs (n0 428 15) zr n Q' := by
        intro Q' y y'
        apply xr_m_array_15
        refine r_good good ?_
        rw [if_neg (by decide), if_neg ne7]
        refine w_C.to run ?_
        by_cases v : n1 428 27 = 0
        · rw [if_pos v] at y
          obtain ⟨v1, v2⟩ := y' v
          obtain ⟨_, _, y3⟩ := y v1 v2
          refine r_good v ?_
          rw [if_neg (by decide)]
          by_cases v3 : zr < 0
          · rw [if_pos v3] at y3 ⊢
            exact ⟨v2, v2, v2, y3⟩
          · rw [if_neg v3] at y3 ⊢
            exact ⟨⟨y3.1, y3.2.1⟩, v2, v2, y3.2.2⟩
        · rw [if_neg v] at y
          refine r_good0 v ?_
          rw [if_pos rfl]
          exact y
      rcases post with ⟨o1, o2, o3, o4, o5, o6⟩ | ⟨g1, e, o1, o2, o3, o4, o5, o6, o7, o8, o9⟩
      · -- a fault within
        subst o1
        apply xr_ps_compound_234 hP
        rw [if_pos (by decide)]
        refine hQ _ _ (-1) n1 (asm ?_ ?_) (Or.inl ⟨rfl, o2, o3, o4, ?_, ?_⟩)
        · rw [if_neg (by omega)]
          exact ⟨rfl, rfl⟩
        · exact fun v => absurd (o3.trans v) o2
        · exact (h1.2.2.1).tr o5
        · exact (h1.2.2.2.1).tr o6
      · -- a part more
        obtain ⟨t1, t2, t3, t4, t5, t6, t7, t8, t9⟩ := o9
        subst o1 o2
        have bits1 := o5.bits
        obtain ⟨_, _, _, _, e0, eL, f2', f7', h15', h29', _, h31a, h31b⟩ := bits1
        have good1 := o5.2.2.2.2.2.2.1
        have hbd1 := o5.1.1
        unfold s_bd at hbd1
        obtain ⟨i1, i2, i3, i4, i5, i6, i7, i8, i9, j1, j2, j3, j4, j5, j6, j7, j8, j9, j10, j11⟩ := h1
        have hN0 : 0 ≤ n0 428 15 ∧ n0 428 15 < 40000 := by omega
        have memz : zr ∈ l → 0 ≤ zr ∧ zr < n 428 15 := by
          intro v
          have ls := (i1.1.2.2.2.2 (n0 428 15) j10 i5 (by rw [i7]; exact Or.inl rfl)).1.1
          rw [i9] at ls
          exact ls.mem zr v
        have zcr : zc < 0 ∨ (0 ≤ zc ∧ zc < m1 359 6) := by
          rcases hlast with v | v
          · left; omega
          · right
            have mz := memz v.1
            have nz := i1.1.2.1 zr mz.1 mz.2
            have := nz.1
            have := nz.2.1
            rw [v.2.2]
            omega
        have zcl : (0 ≤ zc ↔ zr ∈ l) := by
          rcases hlast with v | v
          · rw [v.1, v.2.2]
            constructor
            · intro y; omega
            · intro y; cases y
          · have mz := memz v.1
            have nz := (i1.1.2.1 zr mz.1 mz.2).1
            rw [v.2.2]
            exact ⟨fun _ => v.1, fun _ => by omega⟩
        have zrl : zr < 0 ↔ l = [] := by
          rcases hlast with v | v
          · exact ⟨fun _ => v.1, fun _ => by omega⟩
          · have mz := memz v.1
            exact ⟨fun y => by omega, fun y => by rw [y] at v; cases v.1⟩
        have lnil : ((l.length : Int) = 0 ↔ l = []) := by
          rw [← List.length_eq_zero_iff]; omega
        refine sp_comp_234 (d := d + 2 * k + 12) hP (by omega) ⟨by omega, t8⟩ ⟨by have := (o5.1.2.1 (n0 428 15) (by omega) (by omega)).1; have := (o6 (n0 428 15) (by omega) (by omega)).1; omega, by omega⟩ zcr ⟨by omega, by omega⟩ (fun m2 x1 x2 x3 x4 x5 => ?_)
        -- the reference's writes
        obtain ⟨n2, hn2⟩ : ∃ n2, n2 = (if zr < 0 then w_up (w_up n1 436 (n0 428 15) (n 428 15)) 435 (n0 428 15) ((l.length : Int) + 1) else w_up (w_up n1 437 zr (n 428 15)) 435 (n0 428 15) ((l.length : Int) + 1)) := ⟨_, rfl⟩
        have n435 : n1 435 (n0 428 15) = l.length := by
          have ls := (i1.1.2.2.2.2 (n0 428 15) j10 i5 (by rw [i7]; exact Or.inl rfl)).1.2.1
          rw [i9] at ls
          rw [o8.mf.2.2.1 435 _ (by decide) (by decide) j10 i5]
          exact ls
        have n2o : ∀ i j : Int, ¬ (i = 437 ∧ zr ∈ l ∧ j = zr) → ¬ ((i = 435 ∨ i = 436) ∧ j = n0 428 15) → n2 i j = n1 i j := by
          intro i j y1 y2
          rw [hn2]
          split
          · unfold w_up
            rw [if_neg (by omega), if_neg (by omega)]
          · rename_i v
            have : zr ∈ l := by
              rcases hlast with w | w
              · omega
              · exact w.1
            unfold w_up
            rw [if_neg (by omega), if_neg (fun w => y1 ⟨w.1, this, w.2⟩)]
        have st := s_LI.step (g1 := g1) (m1 := m1) (n1 := n1) (m2 := m2) (n2 := n2) (e := e) (z := zr) (Ck := mw 359 6) ⟨i1, i2, i3, i4, i5, i6, i7, i8, i9, j1, j2, j3, j4, j5, j6, j7, j8, j9, j10, j11⟩
          (by rcases hlast with v | v
              · exact Or.inl ⟨v.1, v.2.1⟩
              · exact Or.inr ⟨v.1, v.2.1⟩) o5 (by omega) o6 o7 o8 t1 (by rw [t2]; omega) (by omega) t3 t4 t6 t7 ⟨by omega, t8⟩ t9 (fun v => absurd v (by decide))
          (fun i j y1 y2 => by
            by_cases v : i = 364 ∧ j = mw 359 6
            · rw [v.1, v.2, x2, t5]
            · exact x1 i j (fun w => y1 ⟨w.1, zcl.1 w.2.1, by
                rcases hlast with y | y
                · omega
                · rw [← y.2.2]; exact w.2.2⟩) y2 v)
          n2o (by rw [x3]; by_cases v : l = []
                  · rw [if_pos v, if_pos (lnil.2 v)]
                  · rw [if_neg v, if_neg (fun w => v (lnil.1 w))]) x4
          (fun v => by
            rcases hlast with y | y
            · rw [y.1] at v; cases v
            · rw [← y.2.2]; exact x5 (zcl.2 v))
          (by rw [hn2]
              by_cases v : l = []
              · rw [if_pos v, if_pos (zrl.2 v), w_up_ne (by decide), w_up_eq]
              · rw [if_neg v, if_neg (fun w => v (zrl.1 w)), w_up_ne (by decide), w_up_ne (by decide)])
          (by rw [hn2]; split <;> rw [w_up_eq])
          (fun v => by
            rw [hn2, if_neg (fun w => by have := memz v; omega), w_up_ne (by decide), w_up_eq])
        obtain ⟨st, st7⟩ := st
        have nm2 : w_nm (w_G0 sM) n2 := by
          rw [hn2]
          split
          · exact r_nm_int (r_nm_int nm1 (by decide) (by show 428 ≤ 436; decide) hN0 (by omega)) (by decide) (by show 428 ≤ 435; decide) hN0 (by omega)
          · have mz : 0 ≤ zr ∧ zr < 40000 := by
              rcases hlast with y | y
              · omega
              · have := memz y.1; omega
            exact r_nm_int (r_nm_int nm1 (by decide) (by show 428 ≤ 437; decide) mz (by omega)) (by decide) (by show 428 ≤ 435; decide) hN0 (by omega)
        have e428 : ∀ j : Int, n2 428 j = n1 428 j := fun j => n2o _ _ (by omega) (by omega)
        have mst : m_st n2 W L e := ⟨st.1.2.2.2.1, hL, by rw [e428]; exact o4, e0, eL⟩
        obtain ⟨rt, n3, run3, nm3, ag3, tk3⟩ := r_get (sp_tok (d := d + 2 * k + 9) (Q := fun _ n' => m_ag n2 n' ∧ m_tk n' W L (k_w W (L - e).toNat false e)) mst (by rw [e428]; exact f2') (by rw [e428]; exact f7') rfl (fun n' y1 y2 => ⟨y1, y2⟩)) nm2 r_ns1
        have st3 := st.ag ag3
        have o10 : m2 P 10 = refs := by
          rw [x1 _ _ (by omega) (by omega) (by omega), o7.2.2 _ _ (by omega) (by omega) (by omega) (by omega)]
          exact w10
        have len1 : (((l ++ [n 428 15]).length : Nat) : Int) = (l.length : Int) + 1 := by rw [List.length_append]; rfl
        have m26 : m2 359 6 = m1 359 6 := x1 _ _ (by omega) (by omega) (by omega)
        rw [← len1]
        refine ih e _ m2 n3 (l ++ [n 428 15]) (mw 359 6) (n 428 15) Q (by omega) (by omega) (by omega) st3 nm3 o10 tk3 (Or.inr ⟨List.mem_append_right _ (List.mem_singleton.mpr rfl), ?_, ?_⟩) (by rw [len1]; omega) (fun r m4 r4 n4 y1 y2 => ?_)
        · rw [ag3 _ _ (by omega) (by omega)]; exact st7
        · exact t1.symm
        · refine hQ r m4 r4 n4 (asm ?_ (fun _ => ⟨⟨by omega, by omega⟩, hN0⟩)) y2
          rw [if_pos good1]
          intro _ _
          refine ⟨by omega, by omega, ?_⟩
          by_cases v : zr < 0
          · rw [if_pos v] at hn2 ⊢
            rw [w_up_ne (by decide), n435, w_32_id (by omega) (by omega), ← hn2]
            exact w_C.to run3 y1
          · rw [if_neg v] at hn2 ⊢
            rw [w_up_ne (by decide), n435, w_32_id (by omega) (by omega), ← hn2]
            have mz : 0 ≤ zr ∧ zr < 40000 := by
              rcases hlast with y | y
              · omega
              · have := memz y.1; omega
            exact ⟨mz.1, mz.2, w_C.to run3 y1⟩
end AL
