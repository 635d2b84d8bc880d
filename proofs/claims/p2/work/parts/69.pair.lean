/-! ===== both sides read objects: what stands before and behind ===== -/
/-- what a read leaves as it was: the class -/
def s_fp (m m1 : w_M) (P : Int) : Prop := m 359 6 ≤ m1 359 6 ∧ m 359 7 ≤ m1 359 7 ∧ ∀ a b : Int, ¬ (a = P ∧ (b = 4 ∨ b = 6 ∨ b = 7 ∨ (11 ≤ b ∧ b ≤ 17))) → ¬ (a = 359 ∧ (b = 6 ∨ b = 7)) → ¬ (360 ≤ a ∧ a ≤ 364 ∧ m 359 6 ≤ b) → ¬ (a = 365 ∧ m 359 7 ≤ b) → m1 a b = m a b
/-- the reference -/
def s_fr (n n1 : w_M) : Prop := n 428 15 ≤ n1 428 15 ∧ n 428 17 ≤ n1 428 17 ∧ ∀ a b : Int, ¬ (a = 428 ∧ (b = 15 ∨ b = 17 ∨ (21 ≤ b ∧ b ≤ 29) ∨ b = 31)) → ¬ (432 ≤ a ∧ a ≤ 439 ∧ n 428 15 ≤ b) → ¬ (a = 440 ∧ n 428 17 ≤ b ∧ b < 140000) → n1 a b = n a b
/-- counts: nodes -/
def s_ct (m n : w_M) (P : Int) : Prop := m 359 6 = m P 8 + n 428 29 ∧ 0 ≤ n 428 29 ∧ n 428 29 ≤ 6000 ∧ n 428 30 = 6000 ∧ 0 ≤ m P 8 ∧ m P 8 ≤ 10564 ∧ n 428 15 ≤ 20000 + n 428 29 ∧ (P = 376 → m P 8 = 41)
/-- bytes: counted, or as many as are left at most -/
def s_md (m n : w_M) (P x : Int) : Prop := (n 428 32 ≠ 0 ∧ m P 9 = 8512 ∧ m 359 7 = 8512 + n 428 31 ∧ 0 ≤ n 428 31 ∧ n 428 31 ≤ 60000 ∧ n 428 17 = n 428 31) ∨ (n 428 32 = 0 ∧ 0 ≤ m P 9 ∧ m P 9 ≤ 100000 ∧ m P 9 ≤ m 359 7 ∧ m 359 7 + x ≤ m P 9 + 60000 ∧ m 359 7 + x ≤ 108612 ∧ 0 ≤ n 428 31 ∧ n 428 31 + x ≤ 1000000000)
/-- both stand in the same window, the class at p -/
def s_J (g : s_g) (m n : w_M) (P : Int) (W : Int → Int) (L p : Int) : Prop :=
  s_st g m n ∧ c_st m P W L p ∧ 365 < m P 2 ∧ v_m n W L ∧ (n 428 18 = 430 ∨ 440 < n 428 18) ∧ m P 6 = 0 ∧ n 428 27 = 0 ∧ s_ct m n P ∧ s_md m n P (L - p) ∧ n 428 17 + L ≤ 140000 + p
/-- parts one behind the other -/
def s_tl (f : Int → Int) : Int → List Int → Int → Prop
  | x, [], e => x = e
  | x, y :: l, e => y = x ∧ s_tl f (f y) l e
/-- the nodes from C, N on -/
def s_rg (g : s_g) (m n : w_M) (C N C1 N1 : Int) : Prop :=
  (∀ b, N ≤ b → b < N1 → C ≤ g.1 b ∧ g.2.2.2.1 b = b ∧ b < g.2.2.2.2.2 b ∧ g.2.2.2.2.2 b ≤ N1 ∧ ((n 432 b = 6 ∨ n 432 b = 7) → s_tl g.2.2.2.2.2 (b + 1) (g.2.1 b) (g.2.2.2.2.2 b)) ∧ (¬ (n 432 b = 6 ∨ n 432 b = 7) → g.2.2.2.2.2 b = b + 1)) ∧
  ∀ c, C ≤ c → c < C1 → (∃ b, N ≤ b ∧ b < N1 ∧ g.1 b = c) ∨ m 360 c = 4
/-- the object that was read: its node -/
def s_tp (g : s_g) (m n m1 n1 : w_M) (R : Int) : Prop :=
  g.1 (n 428 15) = m 359 6 ∧ g.2.2.2.2.1 (n 428 15) = R ∧ g.2.2.1 (n 428 15) = -1 ∧ n1 437 (n 428 15) = -1 ∧ m1 364 (m 359 6) = -1 ∧ g.2.2.2.2.2 (n 428 15) = n1 428 15 ∧ n 428 15 < n1 428 15 ∧ m 359 6 < m1 359 6 ∧ s_rg g m1 n1 (m 359 6) (n 428 15) (m1 359 6) (n1 428 15)
/-- a fault of both -/
def s_B (m n m1 n1 : w_M) (P r : Int) : Prop := r = -1 ∧ m1 P 6 ≠ 0 ∧ m1 P 6 = n1 428 27 ∧ m1 P 7 = n1 428 28 ∧ s_fp m m1 P ∧ s_fr n n1
/-- an object was read by both -/
def s_O (g : s_g) (m n m1 n1 : w_M) (P : Int) (W : Int → Int) (L p r r' R : Int) : Prop :=
  ∃ g' e, r = m 359 6 ∧ r' = n 428 15 ∧ p < e ∧ n1 428 21 = e ∧ s_J g' m1 n1 P W L e ∧ s_ex g g' (n 428 15) ∧ s_fp m m1 P ∧ s_fr n n1 ∧ s_tp g' m n m1 n1 R
section SF
variable {g g' : s_g} {m m' m1 m2 n n' n1 n2 : w_M} {P L p e k a b s c i j : Int} {W : Int → Int} {l : List Int}
theorem s_fp.rf : s_fp m m P := ⟨Int.le_refl _, Int.le_refl _, fun _ _ _ _ _ _ => rfl⟩
theorem s_fr.rf : s_fr n n := ⟨Int.le_refl _, Int.le_refl _, fun _ _ _ _ _ => rfl⟩
theorem s_fp.tr (h : s_fp m m1 P) (h2 : s_fp m1 m2 P) : s_fp m m2 P := by
  obtain ⟨a1, a2, a3⟩ := h
  obtain ⟨b1, b2, b3⟩ := h2
  exact ⟨by omega, by omega, fun a b q1 q2 q3 q4 => (b3 a b q1 q2 (by omega) (by omega)).trans (a3 a b q1 q2 q3 q4)⟩
theorem s_fr.tr (h : s_fr n n1) (h2 : s_fr n1 n2) : s_fr n n2 := by
  obtain ⟨a1, a2, a3⟩ := h
  obtain ⟨b1, b2, b3⟩ := h2
  exact ⟨by omega, by omega, fun a b q1 q2 q3 => (b3 a b q1 (by omega) (by omega)).trans (a3 a b q1 q2 q3)⟩
theorem w_isP_o (hP : w_isP P) : P = 376 ∨ P = 405 := hP
theorem s_fp.cf (h : s_fp m m1 P) (hP : w_isP P) : s_cf m m1 := by
  obtain ⟨a1, a2, a3⟩ := h
  have := w_isP_o hP
  exact ⟨a1, a2, fun a b q1 q2 q3 q4 => a3 a b (by omega) (by omega) (by omega) (by omega), fun b q => a3 365 b (by omega) (by omega) (by omega) (by omega)⟩
theorem s_fr.mf (h : s_fr n n1) : s_mf n n1 := by
  obtain ⟨a1, a2, a3⟩ := h
  exact ⟨a1, a2, fun a b q1 q2 q3 q4 => a3 a b (by omega) (by omega) (by omega), fun b q => a3 440 b (by omega) (by omega) (by omega)⟩
theorem c_ch.fp (h : c_ch m m1 P) (hP : w_isP P) : s_fp m m1 P := by
  have := w_isP_o hP
  have e6 : m1 359 6 = m 359 6 := h _ _ (by omega)
  have e7 : m1 359 7 = m 359 7 := h _ _ (by omega)
  exact ⟨by omega, by omega, fun a b q1 q2 q3 q4 => h a b (by omega)⟩
theorem c_cx.fp (h : c_cx m m1 P) (hP : w_isP P) : s_fp m m1 P := by
  have := w_isP_o hP
  have e6 : m1 359 6 = m 359 6 := h _ _ (by omega) (by omega)
  have e7 : m1 359 7 = m 359 7 := h _ _ (by omega) (by omega)
  exact ⟨by omega, by omega, fun a b q1 q2 q3 q4 => h a b (by omega) (by omega)⟩
theorem m_ag.fr (h : m_ag n n1) : s_fr n n1 := by
  have e6 : n1 428 15 = n 428 15 := h _ _ (by omega) (by omega)
  have e7 : n1 428 17 = n 428 17 := h _ _ (by omega) (by omega)
  exact ⟨by omega, by omega, fun a b q1 q2 q3 => h a b (by omega) (by omega)⟩
theorem m_ct_fr : s_fr n (m_ct n s) := by
  unfold m_ct
  refine ⟨?_, ?_, fun a b q1 q2 q3 => ?_⟩
  · rw [w_up_nb (by decide), w_up_nb (by decide)]; exact Int.le_refl _
  · rw [w_up_nb (by decide), w_up_nb (by decide)]; exact Int.le_refl _
  · unfold w_up
    rw [if_neg (by omega), if_neg (by omega)]
theorem c_fl_o (h : ¬ (i = P ∧ (j = 6 ∨ j = 7))) : c_fl m P c a i j = m i j := by
  unfold c_fl
  split
  · unfold w_up
    rw [if_neg (by omega), if_neg (by omega)]
  · rfl
theorem m_fl_o (h : ¬ (i = 428 ∧ (j = 27 ∨ j = 28))) : m_fl n c a i j = n i j := by
  unfold m_fl
  split
  · unfold w_up
    rw [if_neg (by omega), if_neg (by omega)]
  · rfl
theorem c_fl_fp (hP : w_isP P) : s_fp m (c_fl m P c a) P := by
  have := w_isP_o hP
  exact ⟨by rw [c_fl_o (by omega)]; exact Int.le_refl _, by rw [c_fl_o (by omega)]; exact Int.le_refl _, fun a b q1 q2 q3 q4 => c_fl_o (by omega)⟩
theorem m_fl_fr : s_fr n (m_fl n c a) := by
  exact ⟨by rw [m_fl_o (by omega)]; exact Int.le_refl _, by rw [m_fl_o (by omega)]; exact Int.le_refl _, fun a b q1 q2 q3 => m_fl_o (by omega)⟩
theorem c_fl_v (h : m P 6 = 0) : c_fl m P c a P 6 = c ∧ c_fl m P c a P 7 = a - m P 3 := by
  unfold c_fl
  rw [if_pos h]
  exact ⟨by rw [w_up_nb (by decide), w_up_eq], w_up_eq⟩
theorem m_fl_v (h : n 428 27 = 0) : m_fl n c a 428 27 = c ∧ m_fl n c a 428 28 = a := by
  unfold m_fl
  rw [if_pos h]
  exact ⟨by rw [w_up_nb (by decide), w_up_eq], w_up_eq⟩
/-- the same fault at the same place -/
theorem s_B.mk (hP : w_isP P) (h1 : s_fp m m1 P) (h2 : s_fr n n1) (h6 : m1 P 6 = 0) (h27 : n1 428 27 = 0) (hc : c ≠ 0) (h3 : m1 P 3 = m P 3) : s_B m n (c_fl m1 P c (m P 3 + p)) (m_fl n1 c p) P (-1) := by
  obtain ⟨x1, x2⟩ := c_fl_v (c := c) (a := m P 3 + p) h6
  obtain ⟨y1, y2⟩ := m_fl_v (c := c) (a := p) h27
  exact ⟨rfl, by rw [x1]; exact hc, by rw [x1, y1], by rw [x2, y2, h3]; omega, h1.tr (c_fl_fp hP), h2.tr m_fl_fr⟩
theorem c_new_c : c_new m k a b s 360 (m 359 6) = k ∧ c_new m k a b s 361 (m 359 6) = a ∧ c_new m k a b s 362 (m 359 6) = b ∧ c_new m k a b s 363 (m 359 6) = -1 ∧ c_new m k a b s 364 (m 359 6) = -1 ∧ c_new m k a b s 359 6 = m 359 6 + 1 ∧ c_new m k a b s 359 7 = m 359 7 + s := by
  simp [c_new, w_up]
theorem c_new_o (h : ¬ (i = 359 ∧ (j = 6 ∨ j = 7))) (h2 : ¬ (360 ≤ i ∧ i ≤ 364 ∧ j = m 359 6)) : c_new m k a b s i j = m i j := by
  unfold c_new w_up
  rw [if_neg (by omega), if_neg (by omega), if_neg (by omega), if_neg (by omega), if_neg (by omega), if_neg (by omega), if_neg (by omega)]
theorem m_new_c : m_new n k a 432 (n 428 15) = w_8 k ∧ m_new n k a 433 (n 428 15) = a ∧ m_new n k a 434 (n 428 15) = 0 ∧ m_new n k a 435 (n 428 15) = 0 ∧ m_new n k a 436 (n 428 15) = -1 ∧ m_new n k a 437 (n 428 15) = -1 ∧ m_new n k a 438 (n 428 15) = 0 ∧ m_new n k a 439 (n 428 15) = 0 ∧ m_new n k a 428 15 = n 428 15 + 1 := by
  simp [m_new, w_up]
theorem m_new_o (h : ¬ (i = 428 ∧ j = 15)) (h2 : ¬ (432 ≤ i ∧ i ≤ 439 ∧ j = n 428 15)) : m_new n k a i j = n i j := by
  unfold m_new w_up
  rw [if_neg (by omega), if_neg (by omega), if_neg (by omega), if_neg (by omega), if_neg (by omega), if_neg (by omega), if_neg (by omega), if_neg (by omega), if_neg (by omega)]
theorem c_new_fp (hP : w_isP P) (hs : 0 ≤ s) : s_fp m (c_new m k a b s) P := by
  have := w_isP_o hP
  obtain ⟨x1, x2, x3, x4, x5, x6, x7⟩ := c_new_c (m := m) (k := k) (a := a) (b := b) (s := s)
  exact ⟨by omega, by omega, fun a b q1 q2 q3 q4 => c_new_o (by omega) (by omega)⟩
/-- far from the parser and its window -/
theorem c_st.far (h : c_st m P W L p) (h1 : ∀ b, m1 P b = m P b) (h2 : ∀ b, m1 (m P 2) b = m (m P 2) b) : c_st m1 P W L p := by
  obtain ⟨⟨k1, k2, k3, k4, k4b, k5, k6, k7, k8, k9⟩, h4, h5, h6, h7⟩ := h
  refine ⟨⟨k1, k2, ?_, ?_, ?_, ?_, ?_, ?_, ?_, fun i q1 q2 => ?_⟩, ?_, h5, h6, fun p q1 q2 q3 => ?_⟩
  · rw [h1]; exact k3
  · rw [h1]; exact k4
  · rw [h1]; exact k4b
  · rw [h1]; exact k5
  · rw [h1, h1]; exact k6
  · rw [h1, h1]; exact k7
  · rw [h1]; exact k8
  · rw [h1, h1, h2]; exact k9 i q1 q2
  · rw [h1, h1]; exact h4
  · rw [h1, h1] at q3
    exact (h7 p q1 q2 q3).ch (h1 _) (h1 _) (h1 _) (h1 _) (h1 _) (h1 _)
theorem c_st.tx (h : c_st m P W L p) (ht : c_tx m m1 P l) (h2 : m P 2 ≠ 365) (h4 : m1 P 4 = m P 3 + e) (h0 : 0 ≤ e) (h1 : e ≤ L) : c_st m1 P W L e := by
  obtain ⟨k1, k2, k3, k4, k5⟩ := h
  have hP := w_isP_o k1.2.1
  have eq : ∀ b : Int, b ≠ 4 → b ≠ 17 → m1 P b = m P b := fun b z1 z2 => ht.1 P b (by omega) (by omega)
  refine ⟨k1.tx h2 ht, by rw [eq 3 (by decide) (by decide)]; exact h4, h0, h1, fun p q1 q2 q3 => ?_⟩
  rw [eq 3 (by decide) (by decide), eq 11 (by decide) (by decide)] at q3
  exact (k5 p q1 q2 q3).ch (eq _ (by decide) (by decide)) (eq _ (by decide) (by decide)) (eq _ (by decide) (by decide)) (eq _ (by decide) (by decide)) (eq _ (by decide) (by decide)) (eq _ (by decide) (by decide))
theorem v_m.far (h : v_m n W L) (h1 : ∀ b, 18 ≤ b → b ≤ 20 → n1 428 b = n 428 b) (h2 : ∀ b, n1 (n 428 18) b = n (n 428 18) b) : v_m n1 W L := by
  obtain ⟨k1, k2, k3, k4, k5, k6, k7, k8⟩ := h
  have e1 := h1 18 (by decide) (by decide)
  have e2 := h1 19 (by decide) (by decide)
  have e3 := h1 20 (by decide) (by decide)
  refine ⟨k1, ?_, ?_, ?_, ?_, ?_, ?_, fun i q1 q2 => ?_⟩
  · rw [e1]; exact k2
  · rw [e1]; exact k3
  · rw [e2]; exact k4
  · rw [e3]; exact k5
  · rw [e1, e2]; exact k6
  · rw [e1]; exact k7
  · rw [e1, e2, h2]; exact k8 i q1 q2
theorem v_m.fr (h : v_m n W L) (h18 : n 428 18 = 430 ∨ 440 < n 428 18) (hf : s_fr n n1) : v_m n1 W L :=
  h.far (fun b q1 q2 => hf.2.2 _ _ (by omega) (by omega) (by omega)) (fun b => hf.2.2 _ _ (by omega) (by omega) (by omega))
/-- a window's cell is none of these -/
theorem c_win (h : c_st m P W L p) (h2 : 365 < m P 2) : m P 2 ≠ P ∧ m P 2 ≠ 359 ∧ ¬ (360 ≤ m P 2 ∧ m P 2 ≤ 365) := by
  have := w_isP_na h.1.2.1 h.1.2.2.2.1
  omega
theorem s_J.ch (h : s_J g m n P W L p) (hc : c_ch m m1 P) (hs : c_st m1 P W L e) (he : p ≤ e) : s_J g m1 n P W L e := by
  obtain ⟨h1, h2, h3, h4, h5, h6, h7, h8, h9, h10⟩ := h
  have hP := h2.1.2.1
  have hP' := w_isP_o hP
  obtain ⟨e3, e6, e8, e9, f6, f7, e10⟩ := hc.sm hP
  have e2 : m1 P 2 = m P 2 := hc _ _ (by omega)
  refine ⟨h1.fr ((hc.fp hP).cf hP) s_mf.rf rfl ?_, hs, by rw [e2]; exact h3, h4, h5, by rw [e6]; exact h6, h7, ?_, ?_, by omega⟩
  · have := h1.1
    unfold s_bd at this ⊢
    rw [f6, f7]
    exact this
  · unfold s_ct at h8 ⊢
    rw [f6, e8]
    exact h8
  · unfold s_md at h9 ⊢
    rw [f7, e9]
    omega
theorem s_J.ag (h : s_J g m n P W L p) (hm : m_ag n n1) : s_J g m n1 P W L p := by
  obtain ⟨h1, h2, h3, h4, h5, h6, h7, h8, h9, h10⟩ := h
  have hf := hm.fr
  have eq : ∀ b : Int, ¬ (21 ≤ b ∧ b ≤ 26) → n1 428 b = n 428 b := fun b z => hm _ _ (by omega) (by omega)
  refine ⟨h1.fr s_cf.rf hf.mf (eq _ (by decide)) ?_, h2, h3, h4.fr h5 hf, by rw [eq 18 (by decide)]; exact h5, h6, by rw [eq 27 (by decide)]; exact h7, ?_, ?_, by rw [eq 17 (by decide)]; exact h10⟩
  · have := h1.1
    unfold s_bd at this ⊢
    rw [eq 15 (by decide), eq 17 (by decide)]
    exact this
  · unfold s_ct at h8 ⊢
    rw [eq 15 (by decide), eq 29 (by decide), eq 30 (by decide)]
    exact h8
  · unfold s_md at h9 ⊢
    rw [eq 17 (by decide), eq 31 (by decide), eq 32 (by decide)]
    exact h9
theorem s_J.rm (h : s_J g m n P W L p) : c_rm m P := by
  obtain ⟨h1, h2, h3, h4, h5, h6, h7, h8, h9, h10⟩ := h
  have hb := h2.bd
  unfold s_ct at h8
  unfold s_md at h9
  unfold c_rm
  omega
/-- what c_full says here -/
theorem s_J.full (h : s_J g m n P W L p) (hs : 0 ≤ s) (hsl : s ≤ L - p) : c_full m P s ↔ (6000 < n 428 29 + 1 ∨ (n 428 32 ≠ 0 ∧ 60000 < n 428 31 + s)) := by
  obtain ⟨h1, h2, h3, h4, h5, h6, h7, h8, h9, h10⟩ := h
  unfold s_ct at h8
  unfold s_md at h9
  unfold c_full
  omega
/-- a node more on both sides: all is well behind it -/
theorem s_leaf {R : Int} (h : s_J g m n P W L p) (h1 : s_fp m m1 P) (h2 : s_fr n n1) (hs : 0 ≤ s) (hsl : s ≤ e - p) (he : p < e) (hst : c_st m1 P W L e) (hf : ¬ c_full m P s)
    (a6 : m1 359 6 = m 359 6 + 1) (a7 : m1 359 7 = m 359 7 + s) (a8 : m1 P 6 = 0) (b15 : n1 428 15 = n 428 15 + 1) (b17 : n1 428 17 = n 428 17 + s) (b21 : n1 428 21 = e) (b27 : n1 428 27 = 0) (b29 : n1 428 29 = n 428 29 + 1) (b31 : n1 428 31 = n 428 31 + s)
    (c4 : m1 364 (m 359 6) = -1) (d7 : n1 437 (n 428 15) = -1) (hl : (n1 432 (n 428 15) = 6 ∨ n1 432 (n 428 15) = 7) → n1 436 (n 428 15) = -1 ∧ n1 435 (n 428 15) = 0)
    (hnd : s_nd (s_gn g (n 428 15) (m 359 6) R) m1 n1 (n 428 15)) : s_O g m n m1 n1 P W L p (m 359 6) (n 428 15) R := by
  obtain ⟨i1, i2, i3, i4, i5, i6, i7, i8, i9, i10⟩ := h
  have hP := i2.1.2.1
  have hP' := w_isP_o hP
  have bd := i2.bd
  have bd2 := hst.bd
  have eP : ∀ b : Int, ¬ (b = 4 ∨ b = 6 ∨ b = 7 ∨ (11 ≤ b ∧ b ≤ 17)) → m1 P b = m P b := fun b z => h1.2.2 _ _ (by omega) (by omega) (by omega) (by omega)
  have eN : ∀ b : Int, ¬ (b = 15 ∨ b = 17 ∨ (21 ≤ b ∧ b ≤ 29) ∨ b = 31) → n1 428 b = n 428 b := fun b z => h2.2.2 _ _ (by omega) (by omega) (by omega)
  have hbd := i1.1
  have bd1 : s_bd m1 n1 := by
    unfold s_bd at hbd ⊢
    unfold s_ct at i8
    unfold s_md at i9
    unfold c_full at hf
    omega
  have gN : (s_gn g (n 428 15) (m 359 6) R).2.2.2.2.2 (n 428 15) = n 428 15 + 1 := if_pos rfl
  have g0 : (s_gn g (n 428 15) (m 359 6) R).1 (n 428 15) = m 359 6 := if_pos rfl
  have gi : (s_gn g (n 428 15) (m 359 6) R).2.2.2.1 (n 428 15) = n 428 15 := if_pos rfl
  have gc : (s_gn g (n 428 15) (m 359 6) R).2.1 (n 428 15) = [] := if_pos rfl
  refine ⟨s_gn g (n 428 15) (m 359 6) R, e, rfl, rfl, he, b21, ⟨s_new i1 rfl rfl (h1.cf hP) h2.mf a6 b15 bd1 c4 hl hnd, hst, by rw [eP 2 (by decide)]; exact i3, i4.fr i5 h2, by rw [eN 18 (by decide)]; exact i5, a8, b27, ?_, ?_, by omega⟩, s_gn_ex, h1, h2, g0, if_pos rfl, if_pos rfl, d7, c4, by rw [gN, b15], by omega, by omega, ?_, ?_⟩
  · unfold s_ct at i8 ⊢
    unfold c_full at hf
    rw [eP 8 (by decide), eN 30 (by decide)]
    omega
  · unfold s_md at i9 ⊢
    unfold s_ct at i8
    unfold c_full at hf
    rw [eP 9 (by decide), eN 32 (by decide)]
    omega
  · intro b q1 q2
    have z : b = n 428 15 := by omega
    subst z
    rw [gN, g0, gi, gc]
    exact ⟨Int.le_refl _, rfl, by omega, by omega, fun _ => rfl, fun _ => rfl⟩
  · intro c q1 q2
    exact Or.inl ⟨n 428 15, Int.le_refl _, by omega, by rw [g0]; omega⟩
end SF
