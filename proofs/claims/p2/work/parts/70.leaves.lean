/-! ===== numbers, words, names, strings: both sides ===== -/
/-- an object, or the same fault -/
def s_R (g : s_g) (m n m1 n1 : w_M) (P : Int) (W : Int → Int) (L p r r' R : Int) : Prop := w_nm (w_G0 sM) n1 ∧ (s_B m n m1 n1 P r ∨ s_O g m n m1 n1 P W L p r r' R)
theorem r_get {S : Nat → Prop} {d k t : Nat} {as : List w_V} {n : w_M} {Q : Int → w_M → Prop} (h : x_C S d k t as n Q) (hn : w_nm (w_G0 S) n) (ha : w_ns as) : ∃ r n1, x_C S d k t as n (w_q r n1) ∧ w_nm (w_G0 S) n1 ∧ Q r n1 := by
  obtain ⟨r, n1, h1, h2, h3, h4, h5⟩ := w_C.get h hn ha
  exact ⟨r, n1, h1, h2, h5⟩
theorem r_ns2 {D refs : Int} (hD : 0 ≤ D ∧ D ≤ 100) (hr : 0 ≤ refs ∧ refs ≤ 1) : w_ns [(2, 428), (0, D), (0, refs)] := by
  intro v hv
  rcases List.mem_cons.mp hv with e | hv
  · subst e; show (0 : Int) ≤ 428; decide
  · rcases List.mem_cons.mp hv with e | hv
    · subst e; show -2147483648 ≤ D ∧ D < 2147483648; omega
    · rcases List.mem_cons.mp hv with e | hv
      · subst e; show -2147483648 ≤ refs ∧ refs < 2147483648; omega
      · cases hv
theorem r_ns1 : w_ns [(2, 428)] := by
  intro v hv
  rcases List.mem_cons.mp hv with e | hv
  · subst e; show (0 : Int) ≤ 428; decide
  · cases hv
theorem u_pl_ok {W : Int → Int} {L p refs e k a b : Int} (hok : v_ok W L) (hreg : b_reg (W p)) (h : u_pl W L p refs = (0, e, k, a, b)) :
    p < e ∧ (k = 0 ∨ k = 1 ∨ k = 2 ∨ k = 3 ∨ k = 8) ∧ (k = 8 → 1 ≤ a ∧ a < 200 ∧ 0 ≤ b ∧ b ≤ 65535) := by
  have hin := t_reg_in hok hreg
  have hg : 0 < g_len W (L - p).toNat p := by
    rw [show (L - p).toNat = (L - p).toNat - 1 + 1 by omega]
    unfold g_len
    rw [if_pos hreg]
    omega
  unfold u_pl at h
  split at h
  · split at h
    · cases h; exact ⟨by omega, by decide, fun z => absurd z (by decide)⟩
    · split at h
      · cases h; exact ⟨by omega, by decide, fun z => absurd z (by decide)⟩
      · split at h
        · cases h; exact ⟨by omega, by decide, fun z => absurd z (by decide)⟩
        · cases h
  · split at h
    · cases h
    · split at h
      · rename_i z
        obtain ⟨z1, z2, z3, z4⟩ := z
        split at h
        · rename_i y
          cases h
          have kr := k_w_r W (L - (p + g_len W (L - p).toNat p)).toNat false (p + g_len W (L - p).toNat p)
          have kr2 := k_w_r W (L - (k_w W (L - (p + g_len W (L - p).toNat p)).toNat false (p + g_len W (L - p).toNat p) + g_len W (L - k_w W (L - (p + g_len W (L - p).toNat p)).toNat false (p + g_len W (L - p).toNat p)).toNat (k_w W (L - (p + g_len W (L - p).toNat p)).toNat false (p + g_len W (L - p).toNat p)))).toNat false (k_w W (L - (p + g_len W (L - p).toNat p)).toNat false (p + g_len W (L - p).toNat p) + g_len W (L - k_w W (L - (p + g_len W (L - p).toNat p)).toNat false (p + g_len W (L - p).toNat p)).toNat (k_w W (L - (p + g_len W (L - p).toNat p)).toNat false (p + g_len W (L - p).toNat p)))
          refine ⟨by unfold u_re; omega, by decide, fun _ => ⟨y.1, y.2.1, ?_, y.2.2⟩⟩
          have un := z4.1
          exact g_va_0 un.1 (fun w => un.2.1 (Or.inr w))
        · cases h
      · rename_i z
        cases h
        have := g_kd_r (g_s W p (g_len W (L - p).toNat p))
        rename_i q1 q2
        exact ⟨by omega, by omega, fun w => by omega⟩
section LV
variable {g g' : s_g} {m m' m1 n n' n1 : w_M} {P L p e k a b s c D refs R : Int} {W : Int → Int} {l : List Int} {Q : Int → w_M → Prop} {d d' : Nat}
theorem s_J.bits (h : s_J g m n P W L p) : w_isP P ∧ L ≤ 200000 ∧ 0 ≤ m P 3 ∧ m P 3 ≤ 200000 ∧ 0 ≤ p ∧ p ≤ L ∧ n 428 18 ≠ 440 ∧ (0 ≤ n 428 17 ∧ n 428 17 + L ≤ 140000 + p) ∧ (0 ≤ n 428 15 ∧ n 428 15 < 40000) ∧ (0 ≤ n 428 29 ∧ n 428 29 ≤ 100000) ∧ m 359 7 ≤ 108612 ∧ 0 ≤ n 428 31 ∧ n 428 31 ≤ 1000000000 := by
  obtain ⟨h1, h2, h3, h4, h5, h6, h7, h8, h9, h10⟩ := h
  have bd := h2.bd
  have hb := h1.1
  unfold s_bd at hb
  unfold s_ct at h8
  unfold s_md at h9
  exact ⟨h2.1.2.1, by omega, by omega, by omega, by omega, by omega, by omega, by omega, by omega, by omega, by omega, by omega, by omega⟩
theorem s_J.cfs (h : s_J g m n P W L p) (hs : m_cs n = s) (h0 : 0 ≤ s) (h1 : s ≤ L - p) : c_full m P s ↔ m_cf n := by
  rw [h.full h0 h1]
  obtain ⟨_, _, _, _, _, _, _, h8, h9, _⟩ := h
  unfold s_ct at h8
  unfold m_cf
  rw [hs, h8.2.2.2.1]
/-- a number, a reference, a truth, null -/
theorem s_plain (h : s_J g m n P W L p) (hn : w_nm (w_G0 sM) n) (hD : 0 ≤ D ∧ D ≤ 100) (hr01 : 0 ≤ refs ∧ refs ≤ 1) (hrf : m P 10 = refs) (hreg : b_reg (W p)) (h23 : n 428 23 = p) (h21 : n 428 21 = p + g_len W (L - p).toNat p) (hrow : m_row n W L p) (hck : n 428 22 ≠ 4 ∧ n 428 22 ≠ 5)
    (hQ : ∀ r m1 r' n1, xc_m_object (d' + 9) D refs n (w_q r' n1) → s_R g m n m1 n1 P W L p r r' R → Q r m1) : xc_ps_plain (d + 8) P (m P 3 + p) m Q := by
  have hb := h.bits
  obtain ⟨hP, hL, b3, b3', p0, p1, f2, f7, h15, h29, hro, h31, h31'⟩ := hb
  have h' := h
  obtain ⟨i1, i2, i3, i4, i5, i6, i7, i8, i9, i10⟩ := h
  have hok := i2.1.1
  have hin := t_reg_in hok hreg
  have hcs : m_cs n = 0 := by unfold m_cs; rw [if_neg (by omega)]
  have hfull := h'.cfs hcs (by decide) (by omega)
  have hP' := w_isP_o hP
  have hns := r_ns2 hD hr01
  -- the reference's run
  have run : ∀ c e k a b, u_pl W L p refs = (c, e, k, a, b) → ∃ r' n1, xc_m_object (d' + 9) D refs n (w_q r' n1) ∧ w_nm (w_G0 sM) n1 ∧ ((c ≠ 0 ∧ ∃ n', (n' = n ∨ m_ag (m_ct n 0) n') ∧ n1 = m_fl n' c p) ∨ (c = 0 ∧ m_cf n ∧ n1 = m_fl (m_ct n 0) 5 p) ∨ (c = 0 ∧ ¬ m_cf n ∧ r' = n 428 15 ∧ ∃ n', m_ag (m_ct n 0) n' ∧ n' 428 21 = e ∧ n1 = w_up (m_new n' k a) 434 (n 428 15) b)) := by
    intro c e k a b hu
    refine r_get (sp_m_plain (d := d') (Q := fun r' n1 => (c ≠ 0 ∧ ∃ n', (n' = n ∨ m_ag (m_ct n 0) n') ∧ n1 = m_fl n' c p) ∨ (c = 0 ∧ m_cf n ∧ n1 = m_fl (m_ct n 0) 5 p) ∨ (c = 0 ∧ ¬ m_cf n ∧ r' = n 428 15 ∧ ∃ n', m_ag (m_ct n 0) n' ∧ n' 428 21 = e ∧ n1 = w_up (m_new n' k a) 434 (n 428 15) b)) i4 hL f2 f7 h23 h21 hreg hrow i7 h15 h29 ⟨h31, h31'⟩ (fun c' e' k' a' b' y1 y2 n' t => ?_) (fun e' k' a' b' y1 y2 => ?_) (fun e' k' a' b' y1 y2 n' t y3 => ?_)) hn hns
    · rw [hu] at y1
      cases y1
      exact Or.inl ⟨y2, n', t, rfl⟩
    · rw [hu] at y1
      cases y1
      exact Or.inr (Or.inl ⟨rfl, y2, rfl⟩)
    · rw [hu] at y1
      cases y1
      exact Or.inr (Or.inr ⟨rfl, y2, rfl, n', t, y3, rfl⟩)
  have ct27 : m_ct n 0 428 27 = 0 := (m_ct_o (by decide) (by decide)).trans i7
  have bad : ∀ {c : Int} {m' n' : w_M}, c ≠ 0 → c_ch m m' P → s_fr n n' → n' 428 27 = 0 → ∀ {r' : Int}, xc_m_object (d' + 9) D refs n (w_q r' (m_fl n' c p)) → w_nm (w_G0 sM) (m_fl n' c p) → Q (-1) (c_fl m' P c (m P 3 + p)) := by
    intro c m' n' hc t1 t2 t3 r' hrun hnm
    obtain ⟨e3, e6, e8, e9, g6, g7, e10⟩ := t1.sm hP
    exact hQ _ _ _ _ hrun ⟨hnm, Or.inl (s_B.mk hP (t1.fp hP) t2 (by rw [e6]; exact i6) t3 hc e3)⟩
  refine sp_plain (d := d) i2 h'.rm hro (fun c e k a b y1 y2 m' t => ?_) (fun e k a b y1 y2 m' t => ?_) (fun e k a b y1 y2 m' t t2 => ?_)
  · rw [hrf] at y1
    obtain ⟨r', n1, z1, z2, z3⟩ := run c e k a b y1
    rcases z3 with ⟨z4, n', z5, z6⟩ | z3 | z3
    · subst z6
      rcases z5 with z5 | z5
      · subst z5
        exact bad y2 t s_fr.rf i7 z1 z2
      · exact bad y2 t (m_ct_fr.tr z5.fr) (by rw [z5 _ _ (by omega) (by omega)]; exact ct27) z1 z2
    · exact absurd z3.1 y2
    · exact absurd z3.1 y2
  · rw [hrf] at y1
    obtain ⟨r', n1, z1, z2, z3⟩ := run 0 e k a b y1
    rcases z3 with z3 | ⟨_, z4, z5⟩ | z3
    · exact absurd rfl z3.1
    · subst z5
      exact bad (by decide) t m_ct_fr ct27 z1 z2
    · exact absurd (hfull.1 y2) z3.2.1
  · rw [hrf] at y1
    obtain ⟨r', n1, z1, z2, z3⟩ := run 0 e k a b y1
    rcases z3 with z3 | z3 | ⟨_, z4, z5, n', z6, z7, z8⟩
    · exact absurd rfl z3.1
    · exact absurd (hfull.2 z3.2.1) y2
    · subst z8
      obtain ⟨e3, e6, e8, e9, g6, g7, e10⟩ := t.sm hP
      obtain ⟨w1, w2, w3⟩ := u_pl_ok hok hreg y1
      have bd2 := t2.bd
      have n15 : n' 428 15 = n 428 15 := by rw [z6 _ _ (by omega) (by omega)]; exact m_ct_o (by decide) (by decide)
      obtain ⟨v1, v2, v3, v4, v5, v6, v7, v8, v9⟩ := m_new_c (n := n') (k := k) (a := a)
      obtain ⟨u1, u2, u3, u4, u5, u6, u7⟩ := c_new_c (m := m') (k := k) (a := a) (b := b) (s := 0)
      rw [n15] at v1 v2 v3 v4 v5 v6 v7 v8 v9
      rw [g6] at u1 u2 u3 u4 u5 u6
      have ek : w_8 k = k := w_8_id (by omega) (by omega)
      have no : ∀ i j : Int, ¬ (i = 434 ∧ j = n 428 15) → w_up (m_new n' k a) 434 (n 428 15) b i j = m_new n' k a i j := by
        intro i j z
        unfold w_up
        rw [if_neg z]
      have n428 : ∀ j : Int, j ≠ 15 → ¬ (21 ≤ j ∧ j ≤ 26) → w_up (m_new n' k a) 434 (n 428 15) b 428 j = m_ct n 0 428 j := by
        intro j z z2
        rw [no _ _ (by omega), m_new_o (by omega) (by omega), z6 _ _ (by omega) (by omega)]
      have ct29 : m_ct n 0 428 29 = n 428 29 + 1 := by unfold m_ct; rw [w_up_nb (by decide), w_up_eq]
      have ct31 : m_ct n 0 428 31 = n 428 31 + 0 := by unfold m_ct; rw [w_up_eq]
      rw [z5] at z1
      refine hQ _ _ _ _ z1 ⟨z2, Or.inr ?_⟩
      have fr1 : s_fr n (w_up (m_new n' k a) 434 (n 428 15) b) := by
        refine (m_ct_fr (s := 0)).tr (z6.fr.tr ⟨?_, ?_, fun i j q1 q2 q3 => ?_⟩)
        · rw [no _ _ (by omega), v9, n15]; omega
        · rw [no _ _ (by omega), m_new_o (by omega) (by omega)]; exact Int.le_refl _
        · rw [no _ _ (by omega), m_new_o (by omega) (by omega)]
      refine s_leaf h' ((t.fp hP).tr (c_new_fp hP (by decide))) fr1 (s := 0) (by decide) (by omega) w1 (t2.far (fun j => c_new_o (by omega) (by omega)) (fun j => ?_)) y2 u6 (by rw [u7, g7]) (by rw [c_new_o (by omega) (by omega), e6]; exact i6) (by rw [no _ _ (by omega), v9]) (by rw [n428 _ (by decide) (by decide), m_ct_o (by decide) (by decide)]; omega) (by rw [no _ _ (by omega), m_new_o (by omega) (by omega)]; exact z7) ?_ ?_ ?_ u5 (by rw [no _ _ (by omega), v6]) (fun z => ?_) ?_
      · have cw := c_win t2 (by rw [t _ _ (by omega)]; exact i3)
        exact c_new_o (by omega) (by omega)
      · rw [n428 _ (by decide) (by decide)]; exact ct27
      · rw [n428 _ (by decide) (by decide)]; exact ct29
      · rw [n428 _ (by decide) (by decide)]; exact ct31
      · rw [no _ _ (by omega), v1, ek] at z
        omega
      · have g0 : (s_gn g (n 428 15) (m 359 6) R).1 (n 428 15) = m 359 6 := if_pos rfl
        have hbd := i1.1
        unfold s_bd at hbd
        have e434 : w_up (m_new n' k a) 434 (n 428 15) b 434 (n 428 15) = b := w_up_eq
        unfold s_nd
        rw [g0, no 432 _ (by omega), no 433 _ (by omega), e434, no 435 _ (by omega), no 436 _ (by omega), no 437 _ (by omega), no 438 _ (by omega), no 439 _ (by omega), u1, u2, u3, u4, u5, u6, v1, v2, v4, v5, v6, v7, v8, ek]
        exact ⟨by omega, by omega, rfl, by omega, by omega, fun _ => rfl, fun z => ⟨rfl, w3 z⟩, fun z => by omega, fun z => by omega, Or.inl rfl, Or.inl ⟨rfl, rfl⟩⟩
end LV
