/-! ===== dicts: a name was read ===== -/
section DL
variable {g g0 g1 g' : s_g} {m m0 m' m1 m2 n n0 n' n1 n2 : w_M} {P L p p0 q e a b s c D refs R k : Int} {W : Int → Int} {l l' : List Int} {Q : Int → w_M → Prop} {d d' : Nat}
theorem s_cc.fr (hc : s_cf m m') : ∀ {la : List Int} {x : Int}, s_cc m x la → s_cc m' x la := by
  intro la
  induction la with
  | nil => intro x h; exact h
  | cons y la ih =>
    intro x h
    obtain ⟨a1, a2, a3, a4⟩ := h
    exact ⟨a1, a2, by have := hc.1; omega, by rw [hc.2.2.1 363 y (by decide) (by decide) a2 a3]; exact ih a4⟩
/-- the names stay numbered -/
theorem s_nb.cf (h : s_nb g m l) (hst : s_st g m n) (hl : ∀ y ∈ l, 0 ≤ y ∧ y < n 428 15) (hc : s_cf m m') : s_nb g m' l := by
  intro y hy
  obtain ⟨h1, h2⟩ := h y hy
  have ny := hst.2.1 y (hl y hy).1 (hl y hy).2
  have e364 : m' 364 (g.1 y) = m 364 (g.1 y) := hc.2.2.1 364 _ (by decide) (by decide) (by have := ny.1; omega) ny.2.1
  rw [e364]
  obtain ⟨k1, k2, k3, k4, k5⟩ := h1
  have e361 : m' 361 (m 364 (g.1 y)) = m 361 (m 364 (g.1 y)) := hc.2.2.1 361 _ (by decide) (by decide) k1 k2
  have e362 : m' 362 (m 364 (g.1 y)) = m 362 (m 364 (g.1 y)) := hc.2.2.1 362 _ (by decide) (by decide) k1 k2
  have e363 : m' 363 (m 364 (g.1 y)) = m 363 (m 364 (g.1 y)) := hc.2.2.1 363 _ (by decide) (by decide) k1 k2
  refine ⟨⟨k1, by have := hc.1; omega, by rw [e361]; exact k3, by rw [e362]; exact k4, by rw [e361, e362]; exact k5⟩, ?_⟩
  rw [e363, e361, e362, h2]
  have ky := ny.2.2.2.2.2.2.2.2.2.2
  rcases ky with ky | ⟨a1, a2, a3, a4, b1, b2, b3, b4, b5, b6⟩
  · omega
  · exact s_hs_eq _ (fun i i0 i1 => (hc.2.2.2 _ (by omega)).symm)
/-- the class's name, numbered; the reference's, counted -/
def c_kn (m' : w_M) (T S : Int) (H : Int) : w_M := w_up (c_new m' 4 T S S) 363 (m' 359 6) H
def m_kn (n : w_M) (S : Int) : w_M := w_up (m_ct n S) 428 17 (n 428 17 + S)
theorem s_key {H : Int} (h : s_J g m n P W L p) (hb : m_bt n l) (hl : (l.length : Int) ≤ 2000) (hle : l.length + (p + 1) ≤ e) (heL : e ≤ L) (hf : ¬ c_full m P l.length) (t : c_tx m m' P l) (h4 : m' P 4 = m P 3 + e) (h21 : n 428 21 = e) :
    s_J g (c_kn m' (m 359 7) l.length H) (m_kn n l.length) P W L e ∧ (m_kn n l.length) 428 21 = e ∧ s_fp m (c_kn m' (m 359 7) l.length H) P ∧ s_fr n (m_kn n l.length) ∧ (c_kn m' (m 359 7) l.length H) 359 6 = m 359 6 + 1 ∧ (m_kn n l.length) 428 15 = n 428 15 ∧
    s_ky (c_kn m' (m 359 7) l.length H) (m_kn n l.length) (m 359 6) (n 428 17) l.length ∧ (c_kn m' (m 359 7) l.length H) 363 (m 359 6) = H ∧ (c_kn m' (m 359 7) l.length H) 360 (m 359 6) = 4 ∧ (c_kn m' (m 359 7) l.length H) 361 (m 359 6) = m 359 7 ∧ (c_kn m' (m 359 7) l.length H) 362 (m 359 6) = l.length := by
  have hbits := h.bits
  obtain ⟨hP, hL, b3, b3', p0, p1, f2, f7, h15, h29, hro, h31, h31'⟩ := hbits
  have h' := h
  obtain ⟨i1, i2, i3, i4, i5, i6, i7, i8, i9, i10⟩ := h
  have hP' := w_isP_o hP
  obtain ⟨S, hS⟩ : ∃ S : Int, S = (l.length : Int) := ⟨_, rfl⟩
  have hS0 : 0 ≤ S := by omega
  have txt := s_tx_mk h' t hb hl (by
    unfold s_md at i9
    unfold c_full at hf
    omega)
  rw [← hS] at hl hle hf txt ⊢
  obtain ⟨e3, e6, e8, e9, g6, g7⟩ := t.sm hP
  obtain ⟨u1, u2, u3, u4, u5, u6, u7⟩ := c_new_c (m := m') (k := 4) (a := m 359 7) (b := S) (s := S)
  rw [g6] at u1 u2 u3 u4 u5 u6
  rw [g7] at u7
  have co : ∀ i j : Int, ¬ (i = 363 ∧ j = m 359 6) → c_kn m' (m 359 7) S H i j = c_new m' 4 (m 359 7) S S i j := by
    intro i j z
    unfold c_kn w_up
    rw [if_neg (by rw [g6]; exact z)]
  have ct : ∀ j : Int, j ≠ 29 → j ≠ 31 → m_ct n S 428 j = n 428 j := by
    intro j y1 y2
    unfold m_ct
    rw [w_up_nb y2, w_up_nb y1]
  have mo : ∀ j : Int, j ≠ 17 → m_kn n S 428 j = m_ct n S 428 j := fun j z => w_up_nb z
  have mo2 : ∀ i j : Int, i ≠ 428 → m_kn n S i j = n i j := by
    intro i j z
    unfold m_kn m_ct
    rw [w_up_ne z, w_up_ne z, w_up_ne z]
  have ct29 : m_ct n S 428 29 = n 428 29 + 1 := by unfold m_ct; rw [w_up_nb (by decide), w_up_eq]
  have ct31 : m_ct n S 428 31 = n 428 31 + S := by unfold m_ct; rw [w_up_eq]
  have k17 : m_kn n S 428 17 = n 428 17 + S := w_up_eq
  have k15 : m_kn n S 428 15 = n 428 15 := (mo _ (by decide)).trans (ct _ (by decide) (by decide))
  have fp0 : s_fp m' (c_kn m' (m 359 7) S H) P := by
    refine ⟨by rw [co _ _ (by omega), u6]; omega, by rw [co _ _ (by omega), u7]; omega, fun i j q1 q2 q3 q4 => ?_⟩
    rw [co _ _ (by omega), c_new_o (by omega) (by omega)]
  have fp1 : s_fp m (c_kn m' (m 359 7) S H) P := (t.cx.fp hP).tr fp0
  have fr1 : s_fr n (m_kn n S) := by
    refine ⟨by omega, by omega, fun i j q1 q2 q3 => ?_⟩
    by_cases z : i = 428
    · subst z
      rw [mo _ (by omega), ct _ (by omega) (by omega)]
    · exact mo2 i j z
  have c6 : c_kn m' (m 359 7) S H 359 6 = m 359 6 + 1 := (co _ _ (by omega)).trans u6
  have c7 : c_kn m' (m 359 7) S H 359 7 = m 359 7 + S := (co _ _ (by omega)).trans u7
  have t2 : c_st m' P W L e := i2.tx t (by omega) h4 (by omega) heL
  have cP : ∀ j : Int, c_kn m' (m 359 7) S H P j = m' P j := fun j => (co _ _ (by omega)).trans (c_new_o (by omega) (by omega))
  have P2 : m' P 2 = m P 2 := t.1 _ _ (by omega) (by omega)
  have hwin := c_win t2 (by rw [P2]; exact i3)
  have hbd := i1.1
  unfold s_bd at hbd
  have i8' := i8
  have i9' := i9
  unfold s_ct at i8'
  unfold s_md at i9'
  have hf' := hf
  unfold c_full at hf'
  have bd1 : s_bd (c_kn m' (m 359 7) S H) (m_kn n S) := by
    unfold s_bd
    omega
  refine ⟨⟨i1.fr (fp1.cf hP) fr1.mf k15 bd1, t2.far cP (fun j => (co _ _ (by omega)).trans (c_new_o (by omega) (by omega))), by rw [cP, P2]; exact i3, i4.fr i5 fr1, ?_, by rw [cP, e6]; exact i6, ?_, ?_, ?_, by omega⟩, ?_, fp1, fr1, c6, k15, ?_, ?_, ?_, ?_, ?_⟩
  · rw [mo _ (by decide), ct _ (by decide) (by decide)]; exact i5
  · rw [mo _ (by decide), ct _ (by decide) (by decide)]; exact i7
  · unfold s_ct
    rw [c6, cP, e8, k15, mo 29 (by decide), ct29, mo 30 (by decide), ct 30 (by decide) (by decide)]
    omega
  · unfold s_md
    rw [c7, cP, e9, mo 31 (by decide), ct31, mo 32 (by decide), ct 32 (by decide) (by decide)]
    omega
  · rw [mo _ (by decide), ct _ (by decide) (by decide)]; exact h21
  · refine Or.inr ⟨by omega, by omega, (co _ _ (by omega)).trans u1, (co _ _ (by omega)).trans u3, ?_⟩
    rw [(co 361 _ (by omega)).trans u2]
    refine ⟨hS0, by omega, by omega, f7.1, Or.inl (by omega), fun i i0 i1 => ?_⟩
    rw [co _ _ (by omega), c_new_o (by omega) (by omega), mo2 _ _ (by decide)]
    exact txt i i0 i1
  · unfold c_kn
    rw [g6]
    exact w_up_eq
  · exact (co _ _ (by omega)).trans u1
  · exact (co _ _ (by omega)).trans u2
  · exact (co _ _ (by omega)).trans u3
/-- a node that nobody owns gets its name -/
theorem s_J.nam {K kf ks y : Int} (h : s_J g m1 n1 P W L e) (hy : 0 ≤ y ∧ y < n1 428 15) (ho : g.2.2.1 y = -1) (hk : s_ky m1 n1 K kf ks) (hK : ∀ c, 0 ≤ c → c < n1 428 15 → K ≠ g.1 c) :
    s_J g (w_up m1 364 (g.1 y) K) (w_up (w_up n1 438 y kf) 439 y ks) P W L e := by
  obtain ⟨i1, i2, i3, i4, i5, i6, i7, i8, i9, i10⟩ := h
  have hP := i2.1.2.1
  have hP' := w_isP_o hP
  have hwin := c_win i2 i3
  have a1 : ∀ i j : Int, i ≠ 364 → w_up m1 364 (g.1 y) K i j = m1 i j := fun i j z => w_up_ne z
  have b1 : ∀ i j : Int, i ≠ 438 → i ≠ 439 → w_up (w_up n1 438 y kf) 439 y ks i j = n1 i j := fun i j z z2 => (w_up_ne z2).trans (w_up_ne z)
  refine ⟨?_, i2.far (fun j => a1 _ _ (by omega)) (fun j => a1 _ _ (by omega)), by rw [a1 _ _ (by omega)]; exact i3, i4.far (fun j _ _ => b1 _ _ (by decide) (by decide)) (fun j => b1 _ _ (by omega) (by omega)), by rw [b1 _ _ (by decide) (by decide)]; exact i5, by rw [a1 _ _ (by omega)]; exact i6, by rw [b1 _ _ (by decide) (by decide)]; exact i7, ?_, ?_, by rw [b1 _ _ (by decide) (by decide)]; exact i10⟩
  · refine s_nam (y := y) (K := K) (kf := kf) (ks := ks) i1 hy ho ⟨a1 _ _ (by decide), a1 _ _ (by decide), b1 _ _ (by decide) (by decide), b1 _ _ (by decide) (by decide), fun b => a1 _ _ (by decide), fun b => b1 _ _ (by decide) (by decide)⟩ (fun i j _ _ z => ?_) (fun i j _ _ z => ?_) w_up_eq ?_ w_up_eq hk hK
    · unfold w_up
      rw [if_neg z]
    · unfold w_up
      rw [if_neg (by omega), if_neg (by omega)]
    · rw [w_up_ne (by decide), w_up_eq]
  · unfold s_ct at i8 ⊢
    rw [a1 P _ (by omega), a1 359 _ (by decide), b1 428 15 (by decide) (by decide), b1 428 29 (by decide) (by decide), b1 428 30 (by decide) (by decide)]
    exact i8
  · unfold s_md at i9 ⊢
    rw [a1 P _ (by omega), a1 359 _ (by decide), b1 428 17 (by decide) (by decide), b1 428 31 (by decide) (by decide), b1 428 32 (by decide) (by decide)]
    exact i9
end DL
