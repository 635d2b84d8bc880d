/-! ===== the painter: a string is shown ===== -/
/-- five numbers go into a row of glyphs -/
def p_row (m : w_M) (a K v0 v1 v2 v3 v4 : Int) : w_M := w_up (w_up (w_up (w_up (w_up m a K v0) a (K + 1) v1) a (K + 2) v2) a (K + 3) v3) a (K + 4) v4
/-- what the reference's widths hang on -/
def p_st (n n' : w_M) : Prop := (∀ i j : Int, 432 ≤ i → i ≤ 459 → n' i j = n i j) ∧ (∀ j : Int, j = 15 ∨ j = 17 ∨ j = 34 ∨ j = 60 ∨ j = 67 → n' 428 j = n 428 j) ∧ ∀ j : Int, n' 479 j = n 479 j
/-- the widths of the font alike -/
def p_W (m n : w_M) : Prop := ∀ c, 0 ≤ c → c < 256 → p_32 (m 414 c) ∧ ∀ (d : Nat) (n' : w_M) (X : Int → w_M → Prop), p_st n n' → (∀ n2, e80 n' n2 → X (m 414 c) n2) → xc_m_widthOf (d + 9) c n' X
/-- what showing hangs on, alike -/
def p_Z (m n : w_M) : Prop := p_M m n ∧ (m 404 18 = n 428 104 ∧ (0 ≤ n 428 104 ∧ n 428 104 ≤ 1500) ∧ ∀ i, 0 ≤ i → i < 5 * n 428 104 → m 416 i = n 481 i) ∧ m 408 7 = n 479 1 ∧ (m 408 8 = n 479 5 ∧ p_32 (n 479 5)) ∧ (m 408 9 = n 479 6 ∧ p_32 (n 479 6)) ∧ (m 408 10 = n 479 7 ∧ p_32 (n 479 7)) ∧ p_W m n
/-- a string, in both -/
def p_S (m n : w_M) (a s : Int) : Prop := (0 ≤ a ∧ a < m 359 6) ∧ m 359 6 ≤ 16564 ∧ m 359 7 ≤ 108612 ∧ m 360 a = 5 ∧ m 362 a = n 435 s ∧ s_tx m n (m 361 a) (n 436 s) (n 435 s) ∧ (0 ≤ s ∧ s < 40000) ∧ n 428 17 ≤ 140000
def p_sf (m m' : w_M) : Prop := ∀ i j : Int, ¬ (410 ≤ i ∧ i ≤ 413) → i ≠ 416 → ¬ (i = 404 ∧ j = 18) → m' i j = m i j
def p_sn (n n' : w_M) : Prop := ∀ i j : Int, ¬ (475 ≤ i ∧ i ≤ 478) → i ≠ 481 → ¬ (i = 428 ∧ (j = 27 ∨ j = 28 ∨ j = 80 ∨ j = 104)) → n' i j = n i j
section PS
variable {d e : Nat} {m m' m0 m1 m2 n n' n0 n1 n2 : w_M} {Q : Int → w_M → Prop} {a b v w k s i j K A v0 v1 v2 v3 v4 : Int}
theorem p_row_o (h : i ≠ a) : p_row m a K v0 v1 v2 v3 v4 i j = m i j := by
  unfold p_row
  rw [w_up_ne h, w_up_ne h, w_up_ne h, w_up_ne h, w_up_ne h]
theorem p_row_l (h : j < K) : p_row m a K v0 v1 v2 v3 v4 i j = m i j := by
  unfold p_row w_up
  rw [if_neg (by omega), if_neg (by omega), if_neg (by omega), if_neg (by omega), if_neg (by omega)]
theorem p_row_eq {u0 u1 u2 u3 u4 : Int} (e0 : v0 = u0) (e1 : v1 = u1) (e2 : v2 = u2) (e3 : v3 = u3) (e4 : v4 = u4) (hl : ∀ i, 0 ≤ i → i < K → m a i = n b i) : ∀ i, 0 ≤ i → i < K + 5 → p_row m a K v0 v1 v2 v3 v4 a i = p_row n b K u0 u1 u2 u3 u4 b i := by
  intro i i0 i1
  by_cases q : i < K
  · rw [p_row_l q, p_row_l q]; exact hl i i0 q
  · have c : i = K ∨ i = K + 1 ∨ i = K + 2 ∨ i = K + 3 ∨ i = K + 4 := by omega
    unfold p_row
    rcases c with c | c | c | c | c
    · rw [c, w_up_nb (by omega), w_up_nb (by omega), w_up_nb (by omega), w_up_nb (by omega), w_up_eq, w_up_nb (by omega), w_up_nb (by omega), w_up_nb (by omega), w_up_nb (by omega), w_up_eq]; exact e0
    · rw [c, w_up_nb (by omega), w_up_nb (by omega), w_up_nb (by omega), w_up_eq, w_up_nb (by omega), w_up_nb (by omega), w_up_nb (by omega), w_up_eq]; exact e1
    · rw [c, w_up_nb (by omega), w_up_nb (by omega), w_up_eq, w_up_nb (by omega), w_up_nb (by omega), w_up_eq]; exact e2
    · rw [c, w_up_nb (by omega), w_up_eq, w_up_nb (by omega), w_up_eq]; exact e3
    · rw [c, w_up_eq, w_up_eq]; exact e4
theorem p_st.rf : p_st n n := ⟨fun _ _ _ _ => rfl, fun _ _ => rfl, fun _ => rfl⟩
theorem p_st.tr (h : p_st n n1) (h2 : p_st n1 n2) : p_st n n2 := ⟨fun i j q1 q2 => (h2.1 i j q1 q2).trans (h.1 i j q1 q2), fun j q => (h2.2.1 j q).trans (h.2.1 j q), fun j => (h2.2.2 j).trans (h.2.2 j)⟩
theorem p_sn.st (h : p_sn n n') : p_st n n' := ⟨fun i j q1 q2 => h i j (by omega) (by omega) (by omega), fun j q => h 428 j (by omega) (by omega) (by omega), fun j => h 479 j (by omega) (by omega) (by omega)⟩
theorem p_W.fr (h : p_W m n) (hm : ∀ c, m' 414 c = m 414 c) (hn : p_st n n') : p_W m' n' := fun c c0 c1 => by
  obtain ⟨w1, w2⟩ := h c c0 c1
  rw [hm]
  exact ⟨w1, fun d n2 X h2 hX => w2 d n2 X (hn.tr h2) hX⟩
theorem p_S.fr (h : p_S m n a s) (hm : p_sf m m') (hn : p_sn n n') : p_S m' n' a s := by
  obtain ⟨h1, h2, h3, h4, h5, ⟨t1, t2, t3, t4, t5, t6⟩, h7, h8⟩ := h
  have fm : ∀ i j : Int, i < 404 → m' i j = m i j := fun i j q => hm i j (by omega) (by omega) (by omega)
  have fn : ∀ i j : Int, 432 ≤ i → i ≤ 459 → n' i j = n i j := fun i j q1 q2 => hn i j (by omega) (by omega) (by omega)
  unfold p_S s_tx
  rw [fm 359 6 (by decide), fm 359 7 (by decide), fm 360 a (by omega), fm 361 a (by omega), fm 362 a (by omega), fn 435 s (by decide) (by decide), fn 436 s (by decide) (by decide), hn 428 17 (by omega) (by omega) (by omega)]
  exact ⟨h1, h2, h3, h4, h5, ⟨t1, t2, t3, t4, t5, fun i q1 q2 => by rw [fm 365 _ (by decide), fn 440 _ (by decide) (by decide)]; exact t6 i q1 q2⟩, h7, h8⟩
/-- the class keeps a glyph -/
theorem c_keep (hG : 0 ≤ m 404 18 ∧ m 404 18 < 1500) (hQ : Q 0 (w_up (p_row m 416 (5 * m 404 18) v (m 413 4) (m 413 5) (m 408 8) (m 408 7)) 404 18 (m 404 18 + 1))) : xc_pa_keepGlyph (d + 1) v m Q := by
  apply xr_pa_keepGlyph
  have e0 : w_32 (m 404 18 * 5) = 5 * m 404 18 := by rw [w_32_id (by omega) (by omega)]; omega
  rw [e0, w_32_id (x := 5 * m 404 18 + 1) (by omega) (by omega), w_32_id (x := 5 * m 404 18 + 2) (by omega) (by omega), w_32_id (x := 5 * m 404 18 + 3) (by omega) (by omega), w_32_id (x := 5 * m 404 18 + 4) (by omega) (by omega), w_32_id (x := m 404 18 + 1) (by omega) (by omega), if_neg (by omega), if_pos (by omega)]
  simp only [w_up_ne (show (413 : Int) ≠ 416 by decide), w_up_ne (show (408 : Int) ≠ 416 by decide)]
  exact ⟨by omega, by omega, by omega, by omega, by omega, hQ⟩
end PS
