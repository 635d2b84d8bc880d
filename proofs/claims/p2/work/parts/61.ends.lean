/-! ===== operators; where a stream's bytes begin and end: the class ===== -/
/-- an operator at p: up to two bytes as a number, 0: a longer word, -1: none -/
noncomputable def u_op (W : Int → Int) (L p : Int) : Int := by
  classical
  exact (if ¬ b_reg (W p) then -1 else if g_kd (g_s W p (g_len W (L - p).toNat p)) ≠ -1 then -1 else if t_is W L p [110, 117, 108, 108] ∨ t_is W L p [116, 114, 117, 101] ∨ t_is W L p [102, 97, 108, 115, 101] then -1 else if g_len W (L - p).toNat p = 1 then W p else if g_len W (L - p).toNat p = 2 then W p * 256 + W (p + 1) else 0)
/-- behind the word stream -/
def u_b (W : Int → Int) (p : Int) : Int := if W p = 13 ∧ W (p + 1) = 10 then p + 2 else if W p = 10 then p + 1 else -1
/-- endstream and endobj behind q -/
def u_cl (W : Int → Int) (L q : Int) : Prop := t_is W L (k_w W (L - q).toNat false q) [101, 110, 100, 115, 116, 114, 101, 97, 109] ∧ t_is W L (k_w W (L - (k_w W (L - q).toNat false q + 9)).toNat false (k_w W (L - q).toNat false q + 9)) [101, 110, 100, 111, 98, 106]
def u_ce (W : Int → Int) (L q : Int) : Int := k_w W (L - (k_w W (L - q).toNat false q + 9)).toNat false (k_w W (L - q).toNat false q + 9) + 6
theorem t_endstream : t_s 12 [101, 110, 100, 115, 116, 114, 101, 97, 109] := ⟨by decide, by decide, by decide, _, rfl⟩
theorem t_endobj : t_s 14 [101, 110, 100, 111, 98, 106] := ⟨by decide, by decide, by decide, _, rfl⟩
section TE
variable {d : Nat} {m : w_M} {P L p b len : Int} {W : Int → Int} {Q : Int → w_M → Prop}
theorem c_st.bd (h : c_st m P W L p) : w_isP P ∧ v_ok W L ∧ 0 ≤ m P 3 ∧ m P 5 = m P 3 + L ∧ m P 3 + L ≤ 200000 ∧ m P 4 = m P 3 + p ∧ 0 ≤ p ∧ p ≤ L := by
  obtain ⟨k1, k2, k3, k4, k5⟩ := h
  have hP := k1.2.1
  have hok := k1.1
  obtain ⟨⟨v1, v2, v3⟩, h2, h3, h4, h4b, h5, h6, h7, h8, h9⟩ := k1
  exact ⟨hP, hok, h5, h6, by omega, k2, k3, k4⟩
theorem sp_body (h : c_st m P W L p) (h1 : 0 ≤ u_b W p → Q (m P 3 + u_b W p) m) (h0 : u_b W p < 0 → Q (-1) m) : xc_ps_body (d + 2) P m Q := by
  obtain ⟨hP, hok, b1, b2, b3, b4, b5, b6⟩ := h.bd
  obtain ⟨k1, k2, k3, k4, k5⟩ := h
  unfold u_b at h1 h0
  apply xr_ps_body hP
  refine sp_ps_at k1 k2 ?_
  by_cases q1 : W p = 13
  · rw [if_pos q1, k2, w_32_id (x := m P 3 + p + 1) (by omega) (by omega)]
    refine sp_ps_at k1 (i := p + 1) (by omega) ?_
    by_cases q2 : W (p + 1) = 10
    · rw [if_pos q2, k2, w_32_id (x := m P 3 + p + 2) (by omega) (by omega)]
      rw [if_pos ⟨q1, q2⟩] at h1
      rw [show m P 3 + p + 2 = m P 3 + (p + 2) by omega]
      exact h1 (by omega)
    · rw [if_neg q2]
      rw [if_neg (fun z => q2 z.2), if_neg (by omega)] at h0
      refine sp_ps_at k1 (i := p) (by omega) ?_
      rw [if_neg (by omega)]
      exact h0 (by decide)
  · rw [if_neg q1]
    refine sp_ps_at k1 (i := p) (by omega) ?_
    rw [if_neg (fun z => q1 z.1)] at h1 h0
    by_cases q2 : W p = 10
    · rw [if_pos q2] at h1 ⊢
      rw [k2, w_32_id (x := m P 3 + p + 1) (by omega) (by omega), show m P 3 + p + 1 = m P 3 + (p + 1) by omega]
      exact h1 (by omega)
    · rw [if_neg q2] at h0 ⊢
      exact h0 (by decide)
theorem sp_closes (h : c_st m P W L p) (hb : b ≤ L) (h1 : 0 ≤ b → 0 ≤ len → len ≤ L - b → u_cl W L (b + len) → ∀ m', c_ch m m' P → c_st m' P W L (u_ce W L (b + len)) → Q 1 m') (h0 : ¬ (0 ≤ b ∧ 0 ≤ len ∧ len ≤ L - b ∧ u_cl W L (b + len)) → ∀ m', c_ch m m' P → (∃ x, c_st m' P W L x) → Q 0 m') (hl : b = -1 ∨ 0 ≤ b) : xc_ps_closes (d + 7) P (if b < 0 then -1 else m P 3 + b) len m Q := by
  obtain ⟨hP, hok, b1, b2, b3, b4, b5, b6⟩ := h.bd
  apply xr_ps_closes hP
  by_cases q0 : b < 0
  · rw [if_pos q0, if_pos (by decide)]
    exact h0 (fun z => by omega) m c_ch.rf ⟨p, h⟩
  · rw [if_neg q0, if_neg (by omega)]
    by_cases q1 : len < 0
    · rw [if_pos q1]
      exact h0 (fun z => by omega) m c_ch.rf ⟨p, h⟩
    · rw [if_neg q1, w_32_id (x := m P 5 - (m P 3 + b)) (by omega) (by omega)]
      by_cases q2 : m P 5 - (m P 3 + b) < len
      · rw [if_pos q2]
        exact h0 (fun z => by omega) m c_ch.rf ⟨p, h⟩
      · rw [if_neg q2, w_32_id (by omega) (by omega), show m P 3 + b + len = m P 3 + (b + len) by omega]
        have s1 : c_st (w_up m P 4 (m P 3 + (b + len))) P W L (b + len) := h.mv (by omega) (by omega)
        have g1 : c_ch m (w_up m P 4 (m P 3 + (b + len))) P := c_ch.rf.up
        refine sp_word t_endstream s1 rfl (fun w1 m1 t1 s2 => ?_) (fun w1 m1 t1 s2 => ?_)
        · rw [if_neg (by decide)]
          refine sp_word t_endobj s2 rfl (fun w2 m2 t2 s3 => ?_) (fun w2 m2 t2 s3 => ?_)
          · rw [if_neg (by decide)]
            exact h1 (by omega) (by omega) (by omega) ⟨w1, w2⟩ m2 ((g1.tr t1).tr t2) s3
          · rw [if_pos rfl]
            exact h0 (fun z => w2 z.2.2.2.2) m2 ((g1.tr t1).tr t2) ⟨_, s3⟩
        · rw [if_pos rfl]
          exact h0 (fun z => w1 z.2.2.2.1) m1 (g1.tr t1) ⟨_, s2⟩
theorem sp_operator (h : c_st m P W L p) (h1 : u_op W L p ≠ -1 → ∀ m', c_ch m m' P → c_st m' P W L (p + g_len W (L - p).toNat p) → Q (u_op W L p) m') (h0 : u_op W L p = -1 → ∀ m', c_ch m m' P → c_st m' P W L p → Q (-1) m') : xc_ps_operator (d + 6) P m Q := by
  obtain ⟨hP, hok, b1, b2, b3, b4, b5, b6⟩ := h.bd
  have hge := t_by_r hok
  have hle := g_len_le W (L - p).toNat p
  apply xr_ps_operator hP
  refine sp_ps_at h.1 b4 ?_
  refine sp_c_isRegular (hge p).1 ?_
  unfold u_op at h1 h0
  by_cases q1 : b_reg (W p)
  · rw [if_pos q1, if_neg (by decide)]
    rw [if_neg (fun z => z q1)] at h1 h0
    refine sp_look h (fun m1 x1 x2 x3 x4 => ?_)
    have hr := x3
    obtain ⟨r1, r2, r3, r4⟩ := x3
    obtain ⟨hP', hok', d1, d2, d3, d4, d5, d6⟩ := x2.bd
    by_cases q2 : g_kd (g_s W p (g_len W (L - p).toNat p)) = -1
    · rw [r2, if_pos q2]
      rw [if_neg (fun z => z q2)] at h1 h0
      refine sp_rowIs t_null x2 hr (fun y1 => ?_) (fun y1 => ?_)
      · rw [if_neg (by decide)]
        rw [if_pos (Or.inl y1)] at h0
        exact h0 rfl m1 x1 x2
      · rw [if_pos rfl]
        refine sp_rowIs t_true x2 hr (fun y2 => ?_) (fun y2 => ?_)
        · rw [if_neg (by decide)]
          rw [if_pos (Or.inr (Or.inl y2))] at h0
          exact h0 rfl m1 x1 x2
        · rw [if_pos rfl]
          refine sp_rowIs t_false x2 hr (fun y3 => ?_) (fun y3 => ?_)
          · rw [if_neg (by decide)]
            rw [if_pos (Or.inr (Or.inr y3))] at h0
            exact h0 rfl m1 x1 x2
          · rw [if_pos rfl]
            rw [if_neg (fun z => z.elim y1 (fun z => z.elim y2 y3))] at h1 h0
            have em : w_32 (m1 P 12 - m1 P 4) = (g_len W (L - p).toNat p : Int) := by rw [r1, d4, w_32_id (by omega) (by omega)]; omega
            have s2 : c_st (w_up m1 P 4 (m1 P 12)) P W L (p + g_len W (L - p).toNat p) := by
              rw [r1, show m1 P 3 + p + (g_len W (L - p).toNat p : Int) = m1 P 3 + (p + g_len W (L - p).toNat p) by omega]
              exact x2.mv (by omega) (by omega)
            rw [em]
            have hz := q1.1
            by_cases l1 : g_len W (L - p).toNat p = 1
            · rw [if_pos (by omega)]
              rw [if_pos l1] at h1
              refine sp_ps_at x2.1 d4 ?_
              exact h1 (by omega) _ x1.up s2
            · rw [if_neg (by omega)]
              rw [if_neg l1] at h1
              by_cases l2 : g_len W (L - p).toNat p = 2
              · rw [if_pos (by omega)]
                rw [if_pos l2] at h1
                refine sp_ps_at x2.1 d4 ?_
                rw [d4, w_32_id (x := m1 P 3 + p + 1) (by omega) (by omega)]
                refine sp_ps_at x2.1 (i := p + 1) (by omega) ?_
                have g1 := hge p
                have g2 := hge (p + 1)
                have g3 := (hok.2.1 (p + 1) (by omega) (by omega)).1
                rw [w_32_id (x := W p * 256) (by omega) (by omega), w_32_id (by omega) (by omega)]
                exact h1 (by omega) _ x1.up s2
              · rw [if_neg (by omega)]
                rw [if_neg l2] at h1
                exact h1 (by decide) _ x1.up s2
    · rw [r2, if_neg q2]
      rw [if_pos q2] at h0
      exact h0 rfl m1 x1 x2
  · rw [if_neg q1, if_pos rfl]
    rw [if_pos q1] at h0
    exact h0 rfl m c_ch.rf h
end TE
