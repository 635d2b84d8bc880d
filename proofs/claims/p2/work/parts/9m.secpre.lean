/-! ===== a section: how it begins, both sides ===== -/
/-- the reference is ready to read a section -/
def e_P (n n2 : w_M) (j B L : Int) : Prop := (∀ i k : Int, ¬ (i = 463 ∧ k = j) → i ≠ 464 → ¬ (i = 428 ∧ ((18 ≤ k ∧ k ≤ 21) ∨ k = 75)) → n2 i k = n i k) ∧ n2 463 j = B ∧ (∀ k, 0 ≤ k → k < 200 → n2 464 k = -1) ∧ n2 428 75 = -1 ∧ n2 428 18 = 430 ∧ n2 428 19 = 0 ∧ n2 428 20 = L
/-- the class -/
def e_C0 (m : w_M) (j B : Int) : w_M := w_up (w_up (w_up (w_up m 392 j B) 391 6 (j + 1)) 391 11 (-1)) 376 4 B
/-- both fail -/
def e_bad (n : w_M) (B L : Int) : Prop := (∃ x, 0 ≤ x ∧ x < n 428 61 ∧ n 463 x = B) ∨ n 428 61 = 10 ∨ L ≤ B
section SP
variable {d : Nat} {g g' : s_g} {m m' m1 m2 n n' n1 n2 : w_M} {Q : Int → w_M → Prop} {W : Int → Int} {L p a b B v e F j : Int}
theorem c_read_2 (hj : m 391 6 = j) (j10 : j ≤ 10) (H1 : (∀ x, 0 ≤ x → x < j → m 392 x ≠ B) → xp_se_read_42 (d + 1) B F m Q) (H0 : (∃ x, 0 ≤ x ∧ x < j ∧ m 392 x = B) → ∀ m' : w_M, (∀ i j : Int, ¬ (i = 376 ∧ (j = 6 ∨ j = 7)) → m' i j = m i j) → m' 376 6 ≠ 0 → Q (-1) m') :
    ∀ (k : Nat) (i : Int), i + k = j → 0 ≤ i → (∀ x, 0 ≤ x → x < i → m 392 x ≠ B) → xp_se_read_2 (d + 1) B F i m Q := by
  intro k
  induction k with
  | zero =>
    intro i hi i0 hx
    apply xr_se_read_2
    rw [hj, if_neg (by omega)]
    exact H1 (fun x x0 x1 => hx x x0 (by omega))
  | succ k ih =>
    intro i hi i0 hx
    apply xr_se_read_2
    rw [hj, if_pos (by omega), if_pos (by omega), w_32_id (x := i + 1) (by omega) (by omega)]
    refine ⟨by omega, ?_⟩
    by_cases q : m 392 i = B
    · rw [if_pos q]
      exact sp_fail1 (Or.inl rfl) (fun m' c' z => H0 ⟨i, i0, by omega, q⟩ m' c' (z (by decide)))
    · rw [if_neg q]
      refine ih (i + 1) (by omega) (by omega) (fun x x0 x1 => ?_)
      by_cases z : x = i
      · rw [z]; exact q
      · exact hx x x0 (by omega)
theorem c_bad (h : e_Y g m n W L) (hB : 0 ≤ B ∧ B ≤ 2147483647) (hb : e_bad n B L) (H0 : ∀ m' : w_M, (∀ i j : Int, ¬ (i = 376 ∧ (j = 6 ∨ j = 7)) → m' i j = m i j) → m' 376 6 ≠ 0 → Q (-1) m') : xc_se_read (d + 2) B F m Q := by
  obtain ⟨x, _, y1, y2, y3, _⟩ := h
  obtain ⟨p, hp⟩ := x.2.2.1
  obtain ⟨hok, b1, b2, b3, b4, b5, b6⟩ := e_bd hp
  have m3 := x.2.2.2.1
  apply xr_se_read
  refine c_read_2 (j := n 428 61) y1 y2.2 (fun nd => ?_) (fun _ => H0) (n 428 61).toNat 0 (by omega) (by decide) (fun x x0 x1 => by omega)
  apply xr_se_read_42
  rw [y1]
  by_cases q : n 428 61 < 10
  · rw [if_pos q, if_neg (by omega)]
    rcases hb with ⟨z, z0, z1, z2⟩ | z | z
    · exact absurd (by rw [y3 z z0 z1]; exact z2) (nd z z0 z1)
    · omega
    · rw [if_neg (by omega)]
      exact sp_fail1 (Or.inl rfl) (fun m' c' z => H0 m' c' (z (by decide)))
  · rw [if_neg q]
    exact sp_fail1 (Or.inl rfl) (fun m' c' z => H0 m' c' (z (by decide)))
theorem r_sec_2 (hj : n 428 61 = j) (j10 : j ≤ 10) (hB : 0 ≤ B ∧ B ≤ 2147483647) (h27 : n 428 27 = 0) (H1 : (∀ x, 0 ≤ x → x < j → n 463 x ≠ B) → xp_m_section_57 (d + 1) B (if n 428 3 < B then n 428 3 else B) n Q) (H0 : (∃ x, 0 ≤ x ∧ x < j ∧ n 463 x = B) → Q (-1) (m_fl n 3 B)) :
    ∀ (k : Nat) (i : Int), i + k = j → 0 ≤ i → (∀ x, 0 ≤ x → x < i → n 463 x ≠ B) → xp_m_section_2 (d + 1) B i n Q := by
  intro k
  induction k with
  | zero =>
    intro i hi i0 hx
    have H := H1 (fun x x0 x1 => hx x x0 (by omega))
    apply xr_m_section_2
    rw [hj, if_neg (by omega)]
    by_cases q : n 428 3 < B
    · rw [if_pos q] at H ⊢
      exact H
    · rw [if_neg q] at H ⊢
      rw [w_32_id (x := B) (by omega) (by omega)]
      exact H
  | succ k ih =>
    intro i hi i0 hx
    apply xr_m_section_2
    rw [hj, if_pos (by omega), w_32_id (x := i + 1) (by omega) (by omega), w_32_id (x := B) (by omega) (by omega)]
    refine ⟨by omega, ?_⟩
    by_cases q : n 463 i = B
    · rw [if_pos q]
      refine sp_m_fail ?_
      exact H0 ⟨i, i0, by omega, q⟩
    · rw [if_neg q]
      refine ih (i + 1) (by omega) (by omega) (fun x x0 x1 => ?_)
      by_cases z : x = i
      · rw [z]; exact q
      · exact hx x x0 (by omega)
theorem r_bad (h : e_Y g m n W L) (hB : 0 ≤ B ∧ B ≤ 2147483647) (hb : e_bad n B L) (H0 : ∀ c v, c ≠ 0 → Q (-1) (m_fl n c v)) : xc_m_section (d + 2) B n Q := by
  obtain ⟨x, _, y1, y2, y3, _⟩ := h
  have hF := x.2.2.2.2.2.2.1
  have h27 := x.2.2.2.2.2.2.2.1
  apply xr_m_section
  refine r_sec_2 (j := n 428 61) rfl y2.2 hB h27 (fun nd => ?_) (fun _ => H0 3 _ (by decide)) (n 428 61).toNat 0 (by omega) (by decide) (fun x x0 x1 => by omega)
  apply xr_m_section_57
  by_cases q : n 428 61 = 10
  · rw [if_pos q]
    refine sp_m_fail ?_
    exact H0 5 _ (by decide)
  · rw [if_neg q, hF.2.2.1]
    rcases hb with ⟨z, z0, z1, z2⟩ | z | z
    · exact absurd z2 (nd z z0 z1)
    · omega
    · rw [if_neg (by omega)]
      refine sp_m_fail ?_
      exact H0 3 _ (by decide)
theorem e_P.vm (h : e_P n n2 j B L) (hF : e_F n W L) : v_m n2 W L ∧ e_F n2 W L := by
  obtain ⟨a1, a2, a3, a4, a5, a6, a7⟩ := h
  obtain ⟨f1, f2, f3, f4⟩ := hF
  have l8 : w_ln 430 = 8000 := w_ln_eq s0_430
  have b : ∀ i, 0 ≤ i → i < L → n2 430 i % 256 = W i := fun i i0 i1 => by rw [a1 _ _ (by omega) (by omega) (by omega)]; exact f4 i i0 i1
  refine ⟨⟨f1, by rw [a5]; decide, by rw [a5]; exact ⟨8000, s0_430⟩, by rw [a6]; decide, a7, by rw [a5, a6, l8]; omega, by rw [a5, l8]; decide, fun i i0 i1 => ?_⟩, ⟨f1, f2, by rw [a1 _ _ (by omega) (by omega) (by omega)]; exact f3, b⟩⟩
  rw [a5, a6, Int.zero_add]
  exact b i i0 i1
theorem e_P.l (h : e_P n n2 j B L) : l_mf n n2 := fun i k q1 q2 q3 => h.1 i k (by omega) (by omega) (by omega)
theorem r_113 (hj : 0 ≤ j ∧ j ≤ 9) (hF : e_F n W L) (hB : 0 ≤ B ∧ B < L) (HT : t_is W L B e_xref → ∀ n2, e_P n n2 j B L → n2 428 21 = B + 4 → xc_m_table (d + 6) B n2 (fun r6 m6 => xp_m_section_218 (d + 6) B 1 r6 m6 Q)) (HR : ¬ t_is W L B e_xref → ∀ n2, e_P n n2 j B L → n2 428 21 = B → xc_m_rowStream (d + 6) B n2 (fun r6 m6 => xp_m_section_218 (d + 6) B 0 r6 m6 Q)) :
    ∀ (k : Nat) (i : Int) (n1 : w_M), i + k = 200 → 0 ≤ i → (∀ x y : Int, ¬ (x = 463 ∧ y = j) → x ≠ 464 → n1 x y = n x y) → n1 463 j = B → (∀ x, 0 ≤ x → x < i → n1 464 x = -1) → xp_m_section_113 (d + 6) B i n1 Q := by
  intro k
  have L8 := hF.2.1
  induction k with
  | zero =>
    intro i n1 hi i0 hf h463 hx
    apply xr_m_section_113
    rw [if_neg (by omega)]
    apply xr_m_from
    have e3 : n1 428 3 = L := by rw [hf _ _ (by omega) (by omega)]; exact hF.2.2.1
    obtain ⟨n2, hn2⟩ : ∃ n2, n2 = w_up (w_up (w_up (w_up (w_up n1 428 75 (-1)) 428 18 430) 428 19 0) 428 20 (n1 428 3)) 428 21 0 := ⟨_, rfl⟩
    rw [← hn2]
    have f2 : ∀ x y : Int, ¬ (x = 428 ∧ ((18 ≤ y ∧ y ≤ 21) ∨ y = 75)) → n2 x y = n1 x y := fun x y z => by
      rw [hn2]
      unfold w_up
      rw [if_neg (by omega), if_neg (by omega), if_neg (by omega), if_neg (by omega), if_neg (by omega)]
    have P : ∀ v, e_P n (w_up n2 428 21 v) j B L := by
      intro v
      refine ⟨fun x y z1 z2 z3 => ?_, ?_, fun k k0 k1 => ?_, ?_, ?_, ?_, ?_⟩
      · unfold w_up
        rw [if_neg (by omega), f2 x y z3]
        exact hf x y z1 z2
      · rw [w_up_ne (by decide), f2 _ _ (by omega)]; exact h463
      · rw [w_up_ne (by decide), f2 _ _ (by omega)]; exact hx k k0 (by omega)
      · rw [w_up_nb (by decide), hn2, w_up_nb (by decide), w_up_nb (by decide), w_up_nb (by decide), w_up_nb (by decide), w_up_eq]
      · rw [w_up_nb (by decide), hn2, w_up_nb (by decide), w_up_nb (by decide), w_up_nb (by decide), w_up_eq]
      · rw [w_up_nb (by decide), hn2, w_up_nb (by decide), w_up_nb (by decide), w_up_eq]
      · rw [w_up_nb (by decide), hn2, w_up_nb (by decide), w_up_eq]; exact e3
    have P1 := (P B).vm hF
    have xr := e_xr (p := B) hF.1 (by omega)
    refine r_stand (d := d + 1) P1.2 t_mxref (by omega) (fun z => ?_) (fun z => ?_)
    · rw [if_neg (by decide), w_32_id (x := B + 4) (by omega) (by omega)]
      refine r_byteHere (d := d + 5) P1.2 (by omega) ?_
      refine sp_r_isRegular (d := d + 4) ?_
      by_cases q : b_reg (W (B + 4))
      · rw [if_pos q, if_neg (by decide)]
        exact HR (fun w => (xr.mp w).2 q) _ (P B) w_up_eq
      · rw [if_neg q, if_pos rfl]
        have P2 := P (B + 4)
        have e2 : w_up (w_up n2 428 21 B) 428 21 (B + 4) = w_up n2 428 21 (B + 4) := w_up_up
        rw [e2]
        exact HT (xr.mpr ⟨z, q⟩) _ P2 w_up_eq
    · rw [if_pos rfl]
      exact HR (fun w => z (xr.mp w).1) _ (P B) w_up_eq
  | succ k ih =>
    intro i n1 hi i0 hf h463 hx
    apply xr_m_section_113
    rw [if_pos (by omega), w_32_id (x := i + 1) (by omega) (by omega), show w_8 (-1) = -1 from w_8_id (by decide) (by decide)]
    refine ⟨by omega, ?_⟩
    refine ih (i + 1) _ (by omega) (by omega) (fun x y z1 z2 => by rw [w_up_ne z2]; exact hf x y z1 z2) (by rw [w_up_ne (by decide)]; exact h463) (fun x x0 x1 => ?_)
    by_cases z : x = i
    · rw [z, w_up_eq]
    · rw [w_up_nb z]
      exact hx x x0 (by omega)
theorem r_sec (h : e_Y g m n W L) (hB : 0 ≤ B ∧ B ≤ 2147483647) (hb : ¬ e_bad n B L) (HT : t_is W L B e_xref → ∀ n2, e_P n n2 (n 428 61) B L → n2 428 21 = B + 4 → xc_m_table (d + 6) B n2 (fun r6 m6 => xp_m_section_218 (d + 6) B 1 r6 m6 Q)) (HR : ¬ t_is W L B e_xref → ∀ n2, e_P n n2 (n 428 61) B L → n2 428 21 = B → xc_m_rowStream (d + 6) B n2 (fun r6 m6 => xp_m_section_218 (d + 6) B 0 r6 m6 Q)) : xc_m_section (d + 7) B n Q := by
  obtain ⟨x, _, y1, y2, y3, _⟩ := h
  have hF := x.2.2.2.2.2.2.1
  have h27 := x.2.2.2.2.2.2.2.1
  have hBL : B < L := Int.not_le.mp (fun z => hb (Or.inr (Or.inr z)))
  have j9 : n 428 61 ≠ 10 := fun z => hb (Or.inr (Or.inl z))
  apply xr_m_section
  refine r_sec_2 (d := d + 5) (j := n 428 61) rfl y2.2 hB h27 (fun nd => ?_) (fun z => absurd (Or.inl z) hb) (n 428 61).toNat 0 (by omega) (by decide) (fun x x0 x1 => by omega)
  apply xr_m_section_57
  rw [if_neg j9, hF.2.2.1, if_pos hBL, if_neg (by omega)]
  refine ⟨by omega, ?_⟩
  exact r_113 (d := d) (j := n 428 61) (by omega) hF ⟨hB.1, hBL⟩ HT HR 200 0 _ (by decide) (by decide) (fun x y z1 z2 => by unfold w_up; rw [if_neg z1]) w_up_eq (fun x x0 x1 => by omega)
/-- the class, up to the word xref -/
theorem c_sec (h : e_Y g m n W L) (hB : 0 ≤ B ∧ B ≤ 2147483647) (hb : ¬ e_bad n B L) (HQ : xc_ps_wordHere (d + 1) 376 26 (e_C0 m (n 428 61) B) (fun r2 m2 => if r2 = 0 then (xp_se_read_152 (d + 1) B F 1 m2 Q) else (xp_se_read_152 (d + 1) B F 0 m2 Q))) : xc_se_read (d + 2) B F m Q := by
  obtain ⟨x, _, y1, y2, y3, _⟩ := h
  obtain ⟨p, hp⟩ := x.2.2.1
  obtain ⟨hok, b1, b2, b3, b4, b5, b6⟩ := e_bd hp
  have m3 := x.2.2.2.1
  have hBL : B < L := Int.not_le.mp (fun z => hb (Or.inr (Or.inr z)))
  have j9 : n 428 61 ≠ 10 := fun z => hb (Or.inr (Or.inl z))
  apply xr_se_read
  refine c_read_2 (j := n 428 61) y1 y2.2 (fun nd => ?_) (fun ⟨z, z0, z1, z2⟩ => absurd (Or.inl ⟨z, z0, z1, by rw [← y3 z z0 z1]; exact z2⟩) hb) (n 428 61).toNat 0 (by omega) (by decide) (fun x x0 x1 => by omega)
  apply xr_se_read_42
  rw [y1, if_pos (by omega), if_neg (by omega), if_pos (by omega), w_32_id (x := n 428 61 + 1) (by omega) (by omega)]
  exact ⟨by omega, HQ⟩
/-- the class's memory there -/
theorem e_C0.J (h : e_Y g m n W L) (hB : 0 ≤ B ∧ B ≤ L) : e_J (e_C0 m (n 428 61) B) W L B ∧ l_cf m (e_C0 m (n 428 61) B) ∧ e_cT (e_C0 m (n 428 61) B) = (m 367, m 368, m 369, -1) ∧ (∀ i k : Int, ¬ (i = 392 ∧ k = n 428 61) → ¬ (i = 391 ∧ (k = 6 ∨ k = 11)) → ¬ (i = 376 ∧ k = 4) → e_C0 m (n 428 61) B i k = m i k) := by
  obtain ⟨x, _, y1, y2, y3, _⟩ := h
  obtain ⟨p, hp⟩ := x.2.2.1
  have m3 := x.2.2.2.1
  have f : ∀ i k : Int, ¬ (i = 392 ∧ k = n 428 61) → ¬ (i = 391 ∧ (k = 6 ∨ k = 11)) → ¬ (i = 376 ∧ k = 4) → e_C0 m (n 428 61) B i k = m i k := fun i k z1 z2 z3 => by
    unfold e_C0 w_up
    rw [if_neg z3, if_neg (by omega), if_neg (by omega), if_neg z1]
  refine ⟨?_, fun i k q1 q2 q3 q4 q5 => f i k (by omega) (by omega) (by omega), ?_, f⟩
  · have j0 : e_J (w_up (w_up (w_up m 392 (n 428 61) B) 391 6 (n 428 61 + 1)) 391 11 (-1)) W L p := by
      refine ⟨hp.1.far (fun b => ?_) (fun b => ?_), ?_⟩
      · rw [w_up_ne (by decide), w_up_ne (by decide), w_up_ne (by decide)]
      · rw [hp.2, w_up_ne (by decide), w_up_ne (by decide), w_up_ne (by decide)]
      · rw [w_up_ne (by decide), w_up_ne (by decide), w_up_ne (by decide)]; exact hp.2
    have := j0.mv hB.1 hB.2
    rw [w_up_ne (by decide), w_up_ne (by decide), w_up_ne (by decide), m3, Int.zero_add] at this
    exact this
  · unfold e_cT e_C0
    rw [e_up3n (by decide), e_up3n (by decide), e_up3n (by decide), e_up3n (by decide), e_up3n (by decide), e_up3n (by decide), e_up3n (by decide), e_up3n (by decide), e_up3n (by decide), e_up3n (by decide), e_up3n (by decide), e_up3n (by decide)]
    rw [w_up_ne (by decide), w_up_eq]
end SP
