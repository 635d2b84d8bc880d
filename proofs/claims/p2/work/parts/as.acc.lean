/-! ===== the accessors: numbers and the cursor ===== -/
/-- the cursor -/
def d_cu (g : s_g) (m n : w_M) : Prop := m 357 12 = n 428 88 ∧ (-1 ≤ n 428 88 ∧ n 428 88 ≤ 24) ∧
  (0 ≤ n 428 88 → m 357 13 = n 428 89 ∧ o_u n (n 428 89) ∧ n 471 0 = n 455 (n 428 89) ∧ ∀ j, 0 ≤ j → j ≤ n 428 88 → m 427 j = g.1 (n 471 j) ∧ 0 ≤ n 471 j ∧ n 471 j < n 428 15)
/-- what the accessors want -/
def d_ac (g : s_g) (m n : w_M) : Prop := (m 357 14 = 0 ∧ n 428 6 = 0 ∧ n 428 88 = -1) ∨ (m 357 14 = 1 ∧ n 428 6 = 1 ∧ o_I g m n ∧ d_cu g m n)
/-- only the cursor moves -/
def d_cm (m m' : w_M) : Prop := ∀ i j : Int, ¬ (i = 357 ∧ (j = 12 ∨ j = 13)) → i ≠ 427 → m' i j = m i j
def d_cn (n n' : w_M) : Prop := ∀ i j : Int, ¬ (i = 428 ∧ (j = 88 ∨ j = 89)) → i ≠ 471 → n' i j = n i j
noncomputable def a_cn (n : w_M) : Nat → Int
  | 0 => 0
  | j + 1 => a_cn n j + (if n 451 (j : Int) = 0 then 0 else 1)
noncomputable def a_cb (n : w_M) : Nat → Int
  | 0 => 0
  | j + 1 => a_cb n j + (if n 460 (j : Int) = 0 then 0 else 1)
section AC
variable {d e : Nat} {g g' : s_g} {m m' m0 m1 m2 n n' n0 n1 n2 : w_M} {Q R : Int → w_M → Prop} {k x y z i j a b v r w : Int}
theorem o_I.cur (h : o_I g m n) (hm : d_cm m m') (hn : d_cn n n') : o_I g m' n' := h.fw (fun i j q1 q2 q3 q4 => hm i j (by omega) (by omega)) (hm _ _ (by decide) (by decide)) (hm _ _ (by decide) (by decide)) (fun i j q1 q2 => hn i j (by omega) (by omega)) (fun j q => hn 428 j (by omega) (by decide))
theorem a_rg (h : o_I g m n) (hu : o_u n k) : 0 < k ∧ k < m 366 11 ∧ k < 200 ∧ m 367 k ≠ 1 := by
  obtain ⟨a1, ⟨u1, u2, u3⟩, _⟩ := h.num hu
  exact ⟨u1, u2, a1, u3⟩
theorem a_nrg (h : o_I g m n) (hu : ¬ o_u n k) (h0 : 0 < k) (h1 : k < m 366 11) : k < 200 ∧ m 367 k = 1 := by
  have h60 := h.2.2.1
  have k2 : k < 200 := by omega
  have := (h.n0 ⟨by omega, k2⟩ hu).2.2
  unfold l_us at this
  exact ⟨k2, by omega⟩
theorem a_iss_y (h : o_I g m n) (hu : o_u n k) : k_ta_isStream m k ∧ ((n 457 k = 0 ∧ f_ta_isStream m k = 0) ∨ (n 457 k = 1 ∧ f_ta_isStream m k = 1 ∧ m 371 k = n 458 k ∧ m 372 k = n 459 k ∧ 0 ≤ n 458 k ∧ 0 ≤ n 459 k ∧ n 458 k + n 459 k ≤ n 428 34 ∧ n 432 (n 455 k) = 7)) := by
  obtain ⟨a1, ⟨u1, u2, u3⟩, a2, a3, a4, a5, a6, a7⟩ := h.num hu
  have e1 : f_ta_isStream m k = if m 371 k < 0 then 0 else 1 := by
    unfold f_ta_isStream
    rw [if_pos u1, if_pos u2, if_pos a1, if_neg u3]
  have e2 : k_ta_isStream m k := by
    unfold k_ta_isStream
    rw [if_pos u1, if_pos u2, if_pos a1, if_neg u3]
    exact ⟨by omega, by omega⟩
  refine ⟨e2, ?_⟩
  rw [e1]
  rcases a7 with ⟨c1, c2⟩ | ⟨c1, c2, c3, c4, c5, c6, c7, c8⟩
  · exact Or.inl ⟨c1, by rw [if_pos (by omega)]⟩
  · exact Or.inr ⟨c1, by rw [if_neg (by omega)], c3, c4, c5, c6, c8, c2⟩
theorem a_iss_n (h : o_I g m n) (hu : ¬ o_u n k) : k_ta_isStream m k ∧ f_ta_isStream m k = 0 := by
  unfold k_ta_isStream f_ta_isStream
  by_cases q0 : 0 < k
  · by_cases q1 : k < m 366 11
    · obtain ⟨q2, q3⟩ := a_nrg h hu q0 q1
      rw [if_pos q0, if_pos q1, if_pos q2, if_pos q3, if_pos q0, if_pos q1, if_pos q2, if_pos q3]
      exact ⟨⟨by omega, trivial⟩, rfl⟩
    · rw [if_pos q0, if_neg q1, if_pos q0, if_neg q1]
      exact ⟨trivial, rfl⟩
  · rw [if_neg q0, if_neg q0]
    exact ⟨trivial, rfl⟩
theorem a_isf_y (h : o_I g m n) (hu : o_u n k) : k_ta_isFree m k ∧ f_ta_isFree m k = 0 := by
  obtain ⟨u1, u2, a1, u3⟩ := a_rg h hu
  unfold k_ta_isFree f_ta_isFree
  rw [if_pos u1, if_pos u2, if_pos a1, if_pos u1, if_pos u2, if_pos a1, if_neg u3]
  exact ⟨by omega, rfl⟩
theorem a_isf_n (h : o_I g m n) (hu : ¬ o_u n k) : k_ta_isFree m k ∧ f_ta_isFree m k = 1 := by
  unfold k_ta_isFree f_ta_isFree
  by_cases q0 : 0 < k
  · by_cases q1 : k < m 366 11
    · obtain ⟨q2, q3⟩ := a_nrg h hu q0 q1
      rw [if_pos q0, if_pos q1, if_pos q2, if_pos q0, if_pos q1, if_pos q2, if_pos q3]
      exact ⟨by omega, rfl⟩
    · rw [if_pos q0, if_neg q1, if_pos q0, if_neg q1]
      exact ⟨trivial, rfl⟩
  · rw [if_neg q0, if_neg q0]
    exact ⟨trivial, rfl⟩
theorem a_root (h : o_I g m n) (hu : o_u n k) : k_ta_rootOf m k ∧ f_ta_rootOf m k = g.1 (n 455 k) ∧ 0 ≤ n 455 k ∧ n 455 k < n 428 15 := by
  obtain ⟨a1, ⟨u1, u2, u3⟩, a2, a3, a4, a5, a6, a7⟩ := h.num hu
  unfold k_ta_rootOf f_ta_rootOf
  rw [if_pos u1, if_pos u2, if_pos a1, if_neg u3, if_pos u1, if_pos u2, if_pos a1, if_neg u3]
  exact ⟨⟨by omega, by omega⟩, a6, a5.1, a5.2.1⟩
theorem a_io_y (h6 : n 428 6 = 1) (hl : n 428 60 ≤ 200) (hu : o_u n k) : k_m_isObject n k ∧ f_m_isObject n k = 1 ∧ 0 ≤ k ∧ k < 200 := by
  obtain ⟨u1, u2, u3⟩ := hu
  unfold k_m_isObject f_m_isObject
  rw [if_neg (by omega), if_pos (by omega), if_pos u2, if_neg (by omega), if_pos (by omega), if_pos u2, if_neg u3]
  exact ⟨by omega, rfl, by omega, by omega⟩
theorem a_io_n (hl : n 428 60 ≤ 200) (hu : ¬ (n 428 6 = 1 ∧ o_u n k)) (h6 : n 428 6 = 0 ∨ n 428 6 = 1) : k_m_isObject n k ∧ f_m_isObject n k = 0 := by
  unfold k_m_isObject f_m_isObject
  by_cases q : n 428 6 = 0
  · rw [if_pos q, if_pos q]; exact ⟨trivial, rfl⟩
  · have q1 : n 428 6 = 1 := by omega
    rw [if_neg q, if_neg q]
    by_cases q0 : 0 < k
    · by_cases q2 : k < n 428 60
      · have : n 451 k = 0 := by
          by_cases z : n 451 k = 0
          · exact z
          · exact absurd ⟨q1, by omega, q2, z⟩ hu
        rw [if_pos q0, if_pos q2, if_pos q0, if_pos q2, if_pos this]
        exact ⟨by omega, rfl⟩
      · rw [if_pos q0, if_neg q2, if_pos q0, if_neg q2]
        exact ⟨trivial, rfl⟩
    · rw [if_neg q0, if_neg q0]
      exact ⟨trivial, rfl⟩
theorem a_io_0 (h6 : n 428 6 = 0) : k_m_isObject n k ∧ f_m_isObject n k = 0 := by
  unfold k_m_isObject f_m_isObject
  rw [if_pos h6, if_pos h6]
  exact ⟨trivial, rfl⟩
/- sizes and bytes of streams -/
theorem a_size (h : d_ac g m n) : k_x_size m k ∧ k_m_size n k ∧ f_x_size m k = f_m_size n k := by
  unfold k_x_size k_m_size f_x_size f_m_size
  rcases h with ⟨h1, h2, h3⟩ | ⟨h1, h2, oI, cu⟩
  · obtain ⟨i1, i2⟩ := a_io_0 (k := k) h2
    rw [if_pos h1, if_pos h1, i2, if_pos rfl, if_pos rfl]
    exact ⟨trivial, ⟨i1, trivial⟩, rfl⟩
  · have hl := oI.2.2.1.1.2
    rw [if_neg (show ¬ m 357 14 = 0 by omega), if_neg (show ¬ m 357 14 = 0 by omega)]
    by_cases hu : o_u n k
    · obtain ⟨i1, i2, i3, i4⟩ := a_io_y h2 hl hu
      obtain ⟨s1, s2⟩ := a_iss_y oI hu
      rw [i2, if_neg (show ¬ (1 : Int) = 0 by decide), if_neg (show ¬ (1 : Int) = 0 by decide)]
      unfold k_ta_lengthOf f_ta_lengthOf
      rcases s2 with ⟨c1, c2⟩ | ⟨c1, c2, c3, c4, c5⟩
      · rw [c2, c1, if_pos rfl, if_pos rfl, if_pos rfl, if_pos rfl]
        exact ⟨⟨s1, trivial⟩, ⟨i1, ⟨i3, i4⟩, trivial⟩, rfl⟩
      · rw [c2, c1]
        simp only [show ¬ ((1 : Int) = 0) by decide, if_false]
        exact ⟨⟨s1, s1, ⟨i3, i4⟩⟩, ⟨i1, ⟨i3, i4⟩, ⟨i3, i4⟩⟩, c4⟩
    · obtain ⟨i1, i2⟩ := a_io_n (k := k) hl (fun z => hu z.2) (Or.inr h2)
      obtain ⟨s1, s2⟩ := a_iss_n oI hu
      rw [i2, s2, if_pos rfl, if_pos rfl, if_pos rfl, if_pos rfl]
      exact ⟨⟨s1, trivial⟩, ⟨i1, trivial⟩, rfl⟩
theorem a_data (h : d_ac g m n) : k_x_data m k i ∧ k_m_data n k i ∧ f_x_data m k i = f_m_data n k i := by
  unfold k_x_data k_m_data f_x_data f_m_data
  rcases h with ⟨h1, h2, h3⟩ | ⟨h1, h2, oI, cu⟩
  · obtain ⟨i1, i2⟩ := a_io_0 (k := k) h2
    rw [if_pos h1, if_pos h1, i2, if_pos rfl, if_pos rfl]
    exact ⟨trivial, ⟨i1, trivial⟩, rfl⟩
  · have hl := oI.2.2.1.1.2
    rw [if_neg (show ¬ m 357 14 = 0 by omega), if_neg (show ¬ m 357 14 = 0 by omega)]
    unfold k_ta_byteOf f_ta_byteOf
    by_cases hu : o_u n k
    · obtain ⟨i1, i2, i3, i4⟩ := a_io_y h2 hl hu
      obtain ⟨s1, s2⟩ := a_iss_y oI hu
      rw [i2, if_neg (show ¬ (1 : Int) = 0 by decide), if_neg (show ¬ (1 : Int) = 0 by decide)]
      rcases s2 with ⟨c1, c2⟩ | ⟨c1, c2, c3, c4, c5, c6, c7, c8⟩
      · rw [c2, c1, if_pos rfl, if_pos rfl, if_pos rfl, if_pos rfl]
        exact ⟨⟨s1, trivial⟩, ⟨i1, ⟨i3, i4⟩, trivial⟩, rfl⟩
      · rw [c2, c1, c3, c4]
        simp only [show ¬ ((1 : Int) = 0) by decide, if_false]
        by_cases q0 : i < 0
        · rw [if_pos q0, if_pos q0, if_pos q0, if_pos q0]
          exact ⟨⟨s1, trivial⟩, ⟨i1, ⟨i3, i4⟩, trivial⟩, rfl⟩
        · rw [if_neg q0, if_neg q0, if_neg q0, if_neg q0]
          by_cases q1 : i < n 459 k
          · obtain ⟨dt1, dt2, dt3, dt4⟩ := oI.2.2.2.1
            rw [if_pos q1, if_pos q1, if_pos q1, if_pos q1, w_32_id (x := n 458 k + i) (by omega) (by omega), if_neg (by omega), if_pos (by omega), dt4 _ (by omega) (by omega)]
            exact ⟨⟨s1, ⟨i3, i4⟩, ⟨i3, i4⟩⟩, ⟨i1, ⟨i3, i4⟩, ⟨i3, i4⟩, ⟨i3, i4⟩, by omega⟩, rfl⟩
          · rw [if_neg q1, if_neg q1, if_neg q1, if_neg q1]
            exact ⟨⟨s1, ⟨i3, i4⟩, trivial⟩, ⟨i1, ⟨i3, i4⟩, ⟨i3, i4⟩, trivial⟩, rfl⟩
    · obtain ⟨i1, i2⟩ := a_io_n (k := k) hl (fun z => hu z.2) (Or.inr h2)
      obtain ⟨s1, s2⟩ := a_iss_n oI hu
      rw [i2, s2, if_pos rfl, if_pos rfl, if_pos rfl, if_pos rfl]
      exact ⟨⟨s1, trivial⟩, ⟨i1, trivial⟩, rfl⟩
/- nodes -/
theorem a_nd (h : o_I g m n) (hv : 0 ≤ v ∧ v < n 428 15) : f_st_kindOf m (g.1 v) = n 432 v ∧ f_st_oneOf m (g.1 v) = m 361 (g.1 v) ∧ f_st_twoOf m (g.1 v) = m 362 (g.1 v) ∧ f_st_keyOf m (g.1 v) = m 364 (g.1 v) ∧ (0 ≤ g.1 v ∧ g.1 v < m 359 6) ∧ m 359 6 ≤ 16564 ∧ v < 40000 ∧ s_nd g m n v := by
  have nd := h.1.2.1 v hv.1 hv.2
  have bd := h.bd
  have r : 0 ≤ g.1 v ∧ g.1 v < m 359 6 := ⟨by have := nd.1; omega, nd.2.1⟩
  exact ⟨by rw [f_kind_v r bd.2.1.2]; exact nd.2.2.1, f_one_v r bd.2.1.2, f_two_v r bd.2.1.2, f_key_v r bd.2.1.2, r, bd.2.1.2, by omega, nd⟩
/-- standing somewhere -/
theorem a_at (h1 : m 357 14 = 1) (cu : d_cu g m n) (h0 : 0 ≤ n 428 88) : f_x_isNowhere m = 0 ∧ k_x_nodeHere m ∧ f_x_nodeHere m = g.1 (n 471 (n 428 88)) ∧ (0 ≤ n 471 (n 428 88) ∧ n 471 (n 428 88) < n 428 15) ∧ m 357 12 = n 428 88 ∧ n 428 88 ≤ 24 := by
  obtain ⟨c1, c2, c3⟩ := cu
  obtain ⟨c4, c5, c6, c7⟩ := c3 h0
  obtain ⟨e1, e2, e3⟩ := c7 _ h0 (Int.le_refl _)
  have n0 : f_x_isNowhere m = 0 := by
    unfold f_x_isNowhere
    rw [if_neg (by omega), if_neg (by omega), if_pos (by omega)]
  refine ⟨n0, ?_, ?_, ⟨e2, e3⟩, c1, c2.2⟩
  · unfold k_x_nodeHere
    rw [n0, if_pos rfl]; omega
  · unfold f_x_nodeHere
    rw [n0, if_pos rfl, c1]; exact e1
theorem a_kind (h : o_I g m n) (h1 : m 357 14 = 1) (cu : d_cu g m n) (h0 : 0 ≤ n 428 88) : k_x_kindHere m ∧ k_m_kindHere n ∧ f_x_kindHere m = f_m_kindHere n ∧ ((f_m_kindHere n = n 432 (n 471 (n 428 88)) ∧ n 432 (n 471 (n 428 88)) ≤ 8) ∨ (f_m_kindHere n = 9 ∧ n 432 (n 471 (n 428 88)) = 7)) := by
  obtain ⟨a1, a2, a3, a4, a5, a6⟩ := a_at h1 cu h0
  obtain ⟨b1, b2, b3, b4, b5, b6, b7, b8⟩ := a_nd h a4
  have k8 := b8.2.2.2.2.1
  obtain ⟨c4, c5, c6, c7⟩ := cu.2.2 h0
  unfold k_x_kindHere k_m_kindHere f_x_kindHere f_m_kindHere
  rw [a5, a3, b1, c4]
  obtain ⟨s1, s2⟩ := a_iss_y h c5
  have g2 : ((0 : Int) ≤ n 428 88 ∧ n 428 88 < 26) ∧ ((0 : Int) ≤ n 471 (n 428 88) ∧ n 471 (n 428 88) < 40000) := ⟨by omega, by omega⟩
  have u2 := c5.1
  have u3 := c5.2.1
  have u4 := h.2.2.1.1.2
  by_cases q : n 428 88 = 0
  · rw [if_pos q, if_pos q, if_pos q, if_pos q]
    rcases s2 with ⟨z1, z2⟩ | ⟨z1, z2, _, _, _, _, _, z8⟩
    · rw [z2, z1, if_pos rfl, if_pos rfl, if_pos rfl]
      exact ⟨⟨s1, a2⟩, ⟨by omega, g2⟩, rfl, Or.inl ⟨rfl, k8⟩⟩
    · have n1 : ¬ (1 : Int) = 0 := by decide
      rw [z2, z1, if_neg n1, if_neg n1, if_neg n1]
      refine ⟨⟨s1, trivial⟩, ⟨by omega, trivial⟩, rfl, Or.inr ⟨rfl, ?_⟩⟩
      rw [q, c6]; exact z8
  · rw [if_neg q, if_neg q, if_neg q, if_neg q]
    exact ⟨a2, g2, rfl, Or.inl ⟨rfl, k8⟩⟩
end AC
