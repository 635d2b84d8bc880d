/-! ===== names, strings: both sides ===== -/
section LW
variable {g g' : s_g} {m m' m1 n n' n1 : w_M} {P L p e k a b s c D refs R : Int} {W : Int → Int} {l : List Int} {Q : Int → w_M → Prop} {d d' : Nat}
/-- the reference's node of a text -/
def m_tn (n : w_M) (k s : Int) : w_M := w_up (w_up (w_up (m_new (m_ct n s) k 0) 436 (n 428 15) (n 428 17)) 435 (n 428 15) s) 428 17 (n 428 17 + s)
theorem s_tx_mk (h : s_J g m n P W L p) (t : c_tx m m' P l) (hb : m_bt n l) (hl : (l.length : Int) ≤ 2000) (h7 : m 359 7 + l.length ≤ 108612) :
    ∀ i, 0 ≤ i → i < (l.length : Int) → m' 365 (m 359 7 + i) = n 440 (n 428 17 + i) ∧ -128 ≤ n 440 (n 428 17 + i) ∧ n 440 (n 428 17 + i) < 128 := by
  intro i i0 i1
  have x1 := t.2.2 i.toNat (by omega) (by omega) (by omega)
  have x2 := hb.2 i.toNat (by omega)
  rw [show ((i.toNat : Nat) : Int) = i by omega] at x1 x2
  have := w_8_r (l.getD i.toNat 0)
  exact ⟨by rw [x1, x2], by omega, by omega⟩
/-- both make the node of a text -/
theorem s_text (h : s_J g m n P W L p) (hb : m_bt n l) (hl : (l.length : Int) ≤ 2000) (hle : l.length + (p + 1) ≤ e) (heL : e ≤ L) (hk : k = 4 ∨ k = 5) (hf : ¬ c_full m P l.length) (t : c_tx m m' P l) (h4 : m' P 4 = m P 3 + e) (h21 : n 428 21 = e) :
    s_O g m n (c_new m' k (m 359 7) l.length l.length) (m_tn n k l.length) P W L p (m 359 6) (n 428 15) R := by
  have hbits := h.bits
  obtain ⟨hP, hL, b3, b3', p0, p1, f2, f7, h15, h29, hro, h31, h31'⟩ := hbits
  have h' := h
  obtain ⟨i1, i2, i3, i4, i5, i6, i7, i8, i9, i10⟩ := h
  have hP' := w_isP_o hP
  obtain ⟨S, hS⟩ : ∃ S : Int, S = (l.length : Int) := ⟨_, rfl⟩
  have hS0 : 0 ≤ S := by omega
  have txt := s_tx_mk h' t hb hl (by
    unfold s_md at i9
    unfold c_full at hf
    omega)
  rw [← hS] at hl hle hf txt ⊢
  obtain ⟨e3, e6, e8, e9, g6, g7⟩ := t.sm hP
  obtain ⟨u1, u2, u3, u4, u5, u6, u7⟩ := c_new_c (m := m') (k := k) (a := m 359 7) (b := S) (s := S)
  rw [g6] at u1 u2 u3 u4 u5 u6
  have ct : ∀ j : Int, j ≠ 29 → j ≠ 31 → m_ct n S 428 j = n 428 j := by
    intro j y1 y2
    unfold m_ct
    rw [w_up_nb y2, w_up_nb y1]
  have cto : ∀ i j : Int, i ≠ 428 → m_ct n S i j = n i j := by
    intro i j y1
    unfold m_ct
    rw [w_up_ne y1, w_up_ne y1]
  have c15 := ct 15 (by decide) (by decide)
  obtain ⟨v1, v2, v3, v4, v5, v6, v7, v8, v9⟩ := m_new_c (n := m_ct n S) (k := k) (a := 0)
  rw [c15] at v1 v2 v3 v4 v5 v6 v7 v8 v9
  have ek : w_8 k = k := w_8_id (by omega) (by omega)
  have no : ∀ i j : Int, ¬ ((i = 435 ∨ i = 436) ∧ j = n 428 15) → ¬ (i = 428 ∧ j = 17) → m_tn n k S i j = m_new (m_ct n S) k 0 i j := by
    intro i j z z2
    unfold m_tn w_up
    rw [if_neg z2, if_neg (by omega), if_neg (by omega)]
  have t436 : m_tn n k S 436 (n 428 15) = n 428 17 := by unfold m_tn; rw [w_up_ne (by decide), w_up_ne (by decide), w_up_eq]
  have t435 : m_tn n k S 435 (n 428 15) = S := by unfold m_tn; rw [w_up_ne (by decide), w_up_eq]
  have t17 : m_tn n k S 428 17 = n 428 17 + S := w_up_eq
  have n428 : ∀ j : Int, j ≠ 15 → j ≠ 17 → m_tn n k S 428 j = m_ct n S 428 j := by
    intro j z z2
    rw [no _ _ (by omega) (by omega), m_new_o (by omega) (by omega)]
  have n440 : ∀ j : Int, m_tn n k S 440 j = n 440 j := by
    intro j
    rw [no _ _ (by omega) (by omega), m_new_o (by omega) (by omega), cto _ _ (by decide)]
  have ct29 : m_ct n S 428 29 = n 428 29 + 1 := by unfold m_ct; rw [w_up_nb (by decide), w_up_eq]
  have ct31 : m_ct n S 428 31 = n 428 31 + S := by unfold m_ct; rw [w_up_eq]
  have fr1 : s_fr n (m_tn n k S) := by
    refine (m_ct_fr (s := S)).tr ⟨?_, ?_, fun i j q1 q2 q3 => ?_⟩
    · rw [no _ _ (by omega) (by omega), v9, c15]; omega
    · rw [t17, ct _ (by decide) (by decide)]; omega
    · rw [c15] at q2
      rw [no _ _ (by omega) (by omega), m_new_o (by omega) (by rw [c15]; omega)]
  have tfp : s_fp m m' P := (show c_cx m m' P from t.cx).fp hP
  have t2 : c_st m' P W L e := i2.tx t (by omega) h4 (by omega) heL
  refine s_leaf h' (tfp.tr (c_new_fp hP hS0)) fr1 hS0 (by omega) (by omega) (t2.far (fun j => c_new_o (by omega) (by omega)) (fun j => ?_)) hf u6 (by rw [u7, g7]) (by rw [c_new_o (by omega) (by omega), e6]; exact i6) (by rw [no _ _ (by omega) (by omega), v9]) t17 ?_ ?_ ?_ ?_ u5 (by rw [no _ _ (by omega) (by omega), v6]) (fun z => ?_) ?_
  · have cw := c_win t2 (by rw [t.1 _ _ (by omega) (by omega)]; exact i3)
    exact c_new_o (by omega) (by omega)
  · rw [n428 _ (by decide) (by decide), ct _ (by decide) (by decide)]; exact h21
  · rw [n428 _ (by decide) (by decide), ct _ (by decide) (by decide)]; exact i7
  · rw [n428 _ (by decide) (by decide)]; exact ct29
  · rw [n428 _ (by decide) (by decide)]; exact ct31
  · rw [no _ _ (by omega) (by omega), v1, ek] at z
    omega
  · have g0 : (s_gn g (n 428 15) (m 359 6) R).1 (n 428 15) = m 359 6 := if_pos rfl
    have hbd := i1.1
    unfold s_bd at hbd
    unfold s_nd
    rw [g0, no 432 _ (by omega) (by omega), no 433 _ (by omega) (by omega), no 434 _ (by omega) (by omega), t435, t436, no 437 _ (by omega) (by omega), no 438 _ (by omega) (by omega), no 439 _ (by omega) (by omega), u1, u2, u3, u4, u5, u6, v1, v2, v3, v6, v7, v8, ek]
    refine ⟨by omega, by omega, rfl, by omega, by omega, fun z => by omega, fun z => by omega, fun z => ⟨rfl, hS0, by omega, by omega, f7.1, Or.inl (by omega), fun i i0 i1 => ?_⟩, fun z => by omega, Or.inl rfl, Or.inl ⟨rfl, rfl⟩⟩
    rw [n440, c_new_o (by omega) (by omega)]
    exact txt i i0 i1
/-- the reference's object on a text's token -/
theorem s_text_run (h : s_J g m n P W L p) (h23 : n 428 23 = p) (hb : m_bt n l) (hl : (l.length : Int) ≤ L - p) (hk : k = 4 ∨ k = 5) (h22 : n 428 22 = k) :
    (m_cf n → xc_m_object (d' + 4) D refs n (w_q (-1) (m_fl (m_ct n l.length) 5 p))) ∧ (¬ m_cf n → xc_m_object (d' + 4) D refs n (w_q (n 428 15) (m_tn n k l.length))) := by
  have hbits := h.bits
  obtain ⟨hP, hL, b3, b3', p0, p1, f2, f7, h15, h29, hro, h31, h31'⟩ := hbits
  have hl26 := hb.1
  have key : ∀ {Q : Int → w_M → Prop}, (m_cf n → Q (-1) (m_fl (m_ct n (n 428 26)) 5 (n 428 23))) → (¬ m_cf n → Q (n 428 15) (w_up (w_up (w_up (m_new (m_ct n (n 428 26)) k 0) 436 (n 428 15) (n 428 17)) 435 (n 428 15) (n 428 26)) 428 17 (n 428 17 + n 428 26))) → xc_m_object (d' + 4) D refs n Q :=
    fun y1 y2 => sp_m_text h22 hk h.2.2.2.2.2.2.1 h15 h29 ⟨h31, h31'⟩ (by omega) (by omega) y1 y2
  rw [hl26, h23] at key
  constructor
  · intro z
    exact key (fun _ => ⟨rfl, rfl⟩) (fun y => absurd z y)
  · intro z
    exact key (fun y => absurd y z) (fun _ => ⟨rfl, rfl⟩)
theorem m_cs_v (hb : m_bt n l) (h22 : n 428 22 = 4 ∨ n 428 22 = 5) : m_cs n = l.length := by
  unfold m_cs
  rw [if_pos h22, hb.1]
/-- faults of both -/
theorem s_bad1 (h : s_J g m n P W L p) (hn : w_nm (w_G0 sM) n) (hns : w_ns [(2, 428), (0, D), (0, refs)]) (hc : c ≠ 0) (t : s_fp m m' P) (e3 : m' P 3 = m P 3) (e6 : m' P 6 = 0) (t2 : s_fr n n') (h27 : n' 428 27 = 0) {r' : Int}
    (hrun : xc_m_object d' D refs n (w_q r' (m_fl n' c p))) (hQ : ∀ r m1 r' n1, xc_m_object d' D refs n (w_q r' n1) → s_R g m n m1 n1 P W L p r r' R → Q r m1) : Q (-1) (c_fl m' P c (m P 3 + p)) :=
  hQ _ _ _ _ hrun ⟨(w_C.ke hrun hn hns).1, Or.inl (s_B.mk h.2.1.1.2.1 t t2 e6 h27 hc e3)⟩
theorem m_ct_27 : m_ct n s 428 27 = n 428 27 := by unfold m_ct; rw [w_up_nb (by decide), w_up_nb (by decide)]
/-- a name -/
theorem s_name (h : s_J g m n P W L p) (hn : w_nm (w_G0 sM) n) (hD : 0 ≤ D ∧ D ≤ 100) (hr01 : 0 ≤ refs ∧ refs ≤ 1) (h47 : W p = 47) (h23 : n 428 23 = p)
    (htk : (∃ e l, u_n W (L - (p + 1)).toNat (p + 1) [] = (1, e, l) ∧ n 428 22 = 10) ∨ (∃ e l, u_n W (L - (p + 1)).toNat (p + 1) [] = (0, e, l) ∧ p + 1 ≤ e ∧ e ≤ L ∧ l.length + (p + 1) ≤ e ∧ m_bt n l ∧ n 428 21 = e ∧ n 428 22 = if 60 < n 428 26 then 11 else 4))
    (hQ : ∀ r m1 r' n1, xc_m_object (d' + 4) D refs n (w_q r' n1) → s_R g m n m1 n1 P W L p r r' R → Q r m1) : xc_ps_name (d + 4) P m Q := by
  have hbits := h.bits
  obtain ⟨hP, hL, b3, b3', p0, p1, f2, f7, h15, h29, hro, h31, h31'⟩ := hbits
  have hns := r_ns2 hD hr01
  have h2 : m P 2 ≠ 365 := by have := h.2.2.1; omega
  have hok := h.2.1.1.1
  have hin := (t_in hok (x := p) (by omega)).2
  have hrm := h.rm
  have i27 := h.2.2.2.2.2.2.1
  have i6 := h.2.2.2.2.2.1
  have i9 := h.2.2.2.2.2.2.2.2.1
  rcases htk with ⟨e0, l0, y1, y2⟩ | ⟨e0, l0, y1, y2, y3, y4, y5, y6, y7⟩
  · have run : xc_m_object (d' + 4) D refs n (w_q (-1) (m_fl n 4 p)) := sp_m_bad (d := d' + 2) (Or.inr (Or.inl y2)) (by rw [h23]; exact ⟨rfl, rfl⟩)
    refine sp_name (d := d) h.2.1 h2 hrm hin (fun e l' z => ?_) (fun e l' z m' t => ?_) (fun e l' z => ?_) (fun e l' z => ?_)
    · rw [y1] at z; cases z
    · obtain ⟨e3, e6, e8, e9, g6, g7⟩ := t.sm hP
      exact s_bad1 h hn hns (by decide) (t.cx.fp hP) e3 (e6.trans i6) s_fr.rf i27 run hQ
    · rw [y1] at z; cases z
    · rw [y1] at z; cases z
  · obtain ⟨S, hS⟩ : ∃ S : Int, S = (l0.length : Int) := ⟨_, rfl⟩
    have hro2 : ∀ e l', u_n W (L - (p + 1)).toNat (p + 1) [] = (0, e, l') → ¬ c_full m P l'.length → m 359 7 + l'.length ≤ 108612 := by
      intro e l' z z2
      rw [y1] at z
      cases z
      unfold s_md at i9
      unfold c_full at z2
      omega
    refine sp_name (d := d) h.2.1 h2 hrm hin hro2 (fun e l' z => ?_) (fun e l' z zz m' t => ?_) (fun e l' z z2 z3 z4 z5 m' t t4 => ?_)
    · rw [y1] at z; cases z
    · rw [y1] at z
      cases z
      obtain ⟨e3, e6, e8, e9, g6, g7⟩ := t.sm hP
      rw [y5.1] at y7
      by_cases q : 60 < (l0.length : Int)
      · rw [if_pos q] at y7
        have run : xc_m_object (d' + 4) D refs n (w_q (-1) (m_fl n 5 p)) := sp_m_beyond (d := d' + 2) y7 (by rw [h23]; exact ⟨rfl, rfl⟩)
        exact s_bad1 h hn hns (by decide) (t.cx.fp hP) e3 (e6.trans i6) s_fr.rf i27 run hQ
      · rw [if_neg q] at y7
        have cf := (h.cfs (m_cs_v y5 (Or.inl y7)) (by omega) (by omega)).1 (zz.resolve_left q)
        exact s_bad1 h hn hns (by decide) (t.cx.fp hP) e3 (e6.trans i6) m_ct_fr (m_ct_27.trans i27) ((s_text_run (d' := d') h h23 y5 (by omega) (Or.inl rfl) y7).1 cf) hQ
    · rw [y1] at z
      cases z
      rw [y5.1, if_neg (by omega)] at y7
      have cf := fun w => z5 ((h.cfs (m_cs_v y5 (Or.inl y7)) (by omega) (by omega)).2 w)
      have run := (s_text_run (d' := d') (D := D) (refs := refs) h h23 y5 (by omega) (Or.inl rfl) y7).2 cf
      exact hQ _ _ _ _ run ⟨(w_C.ke run hn hns).1, Or.inr (s_text h y5 (by omega) y4 y3 (Or.inl rfl) z5 t t4 y6)⟩
/-- a string -/
theorem s_string (h : s_J g m n P W L p) (hn : w_nm (w_G0 sM) n) (hD : 0 ≤ D ∧ D ≤ 100) (hr01 : 0 ≤ refs ∧ refs ≤ 1) (h40 : W p = 40 ∨ (W p = 60 ∧ W (p + 1) ≠ 60)) (h23 : n 428 23 = p)
    (htk : (∃ e l, u_s W L p = (1, e, l) ∧ n 428 22 = 10) ∨ (∃ e l, u_s W L p = (0, e, l) ∧ 0 ≤ e ∧ e ≤ L ∧ l.length + (p + 1) ≤ e ∧ m_bt n l ∧ n 428 21 = e ∧ n 428 22 = if 2000 < n 428 26 then 11 else 5))
    (hQ : ∀ r m1 r' n1, xc_m_object (d' + 4) D refs n (w_q r' n1) → s_R g m n m1 n1 P W L p r r' R → Q r m1) : xc_ps_string (d + 4) P m Q := by
  have hbits := h.bits
  obtain ⟨hP, hL, b3, b3', p0, p1, f2, f7, h15, h29, hro, h31, h31'⟩ := hbits
  have hns := r_ns2 hD hr01
  have h2 : m P 2 ≠ 365 := by have := h.2.2.1; omega
  have hok := h.2.1.1.1
  have hin := (t_in hok (x := p) (by clear htk hQ; omega)).2
  have hrm := h.rm
  have i27 := h.2.2.2.2.2.2.1
  have i6 := h.2.2.2.2.2.1
  have i9 := h.2.2.2.2.2.2.2.2.1
  rcases htk with ⟨e0, l0, y1, y2⟩ | ⟨e0, l0, y1, y2, y3, y4, y5, y6, y7⟩
  · have run : xc_m_object (d' + 4) D refs n (w_q (-1) (m_fl n 4 p)) := sp_m_bad (d := d' + 2) (Or.inr (Or.inl y2)) (by rw [h23]; exact ⟨rfl, rfl⟩)
    refine sp_string (d := d) h.2.1 h2 hrm hin (fun e l' z => ?_) (fun e l' z m' t => ?_) (fun e l' z => ?_) (fun e l' z => ?_)
    · rw [y1] at z; cases z
    · obtain ⟨e3, e6, e8, e9, g6, g7⟩ := t.sm hP
      exact s_bad1 h hn hns (by decide) (t.cx.fp hP) e3 (e6.trans i6) s_fr.rf i27 run hQ
    · rw [y1] at z; cases z
    · rw [y1] at z; cases z
  · obtain ⟨S, hS⟩ : ∃ S : Int, S = (l0.length : Int) := ⟨_, rfl⟩
    have hro2 : ∀ e l', u_s W L p = (0, e, l') → ¬ c_full m P l'.length → m 359 7 + l'.length ≤ 108612 := by
      intro e l' z z2
      rw [y1] at z
      cases z
      unfold s_md at i9
      unfold c_full at z2
      omega
    refine sp_string (d := d) h.2.1 h2 hrm hin hro2 (fun e l' z => ?_) (fun e l' z m' t zz => ?_) (fun e l' z z2 z3 z5 m' t z4 t4 => ?_)
    · rw [y1] at z; cases z
    · rw [y1] at z
      cases z
      obtain ⟨e3, e6, e8, e9, g6, g7⟩ := t.sm hP
      rw [t.2.1, ← hS] at zz
      rw [y5.1, ← hS] at y7
      by_cases q : 2000 < S
      · rw [if_pos q] at y7
        have run : xc_m_object (d' + 4) D refs n (w_q (-1) (m_fl n 5 p)) := sp_m_beyond (d := d' + 2) y7 (by rw [h23]; exact ⟨rfl, rfl⟩)
        exact s_bad1 h hn hns (by decide) (t.cx.fp hP) e3 (e6.trans i6) s_fr.rf i27 run hQ
      · rw [if_neg q] at y7
        have cf := (h.cfs (s := S) ((m_cs_v y5 (Or.inr y7)).trans hS.symm) (by omega) (by omega)).1 (zz.resolve_left q)
        exact s_bad1 h hn hns (by decide) (t.cx.fp hP) e3 (e6.trans i6) m_ct_fr (m_ct_27.trans i27) ((s_text_run (d' := d') h h23 y5 (by omega) (Or.inr rfl) y7).1 cf) hQ
    · rw [y1] at z
      cases z
      rw [t.2.1, ← hS] at z4
      rw [y5.1, ← hS, if_neg (by omega)] at y7
      have cf := fun w => z5 ((h.cfs (m_cs_v y5 (Or.inr y7)) (by omega) (by omega)).2 w)
      have run := (s_text_run (d' := d') (D := D) (refs := refs) h h23 y5 (by omega) (Or.inr rfl) y7).2 cf
      exact hQ _ _ _ _ run ⟨(w_C.ke run hn hns).1, Or.inr (s_text h y5 (by omega) y4 y3 (Or.inr rfl) z5 t t4 y6)⟩
end LW
