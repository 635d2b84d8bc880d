/-! ===== words of the reference; its token; strings and names as wholes ===== -/
theorem g_wd (W : Int → Int) (p : Int) : ∀ (k i : Nat), i < k → 65 ≤ W (p + i) → (g_s W p k).2.2.2.2.2.2 = 1 := by
  intro k
  induction k with
  | zero => intro i hi; exact absurd hi (Nat.not_lt_zero i)
  | succ k ih =>
    intro i hi h
    have e : g_s W p (k + 1) = g_st (g_s W p k) (W (p + k)) k := rfl
    rw [e]
    by_cases z : i = k
    · subst z
      unfold g_st
      rw [if_neg (fun y => by have := y.2; omega), if_neg (by omega), if_neg (by omega)]
    · have h1 := ih i (by omega) h
      unfold g_st
      repeat' split
      all_goals first | exact h1 | rfl
/-- a word that begins with a letter is no number -/
theorem t_is_kd {W : Int → Int} {L p : Int} {l : List Int} (h : t_is W L p l) (h0 : 0 < l.length) (h1 : 65 ≤ l.getD 0 0) : g_kd (g_s W p (g_len W (L - p).toNat p)) = -1 := by
  have e := h.2 0 h0
  have e2 := g_wd W p l.length 0 h0 (by rw [e]; exact h1)
  rw [h.1]
  unfold g_kd
  rw [if_pos (Or.inl (by rw [e2]; decide))]
section TT
variable {d : Nat} {n m : w_M} {P L p p' : Int} {W : Int → Int} {Q : Int → w_M → Prop}
theorem sp_isWord_0 {a : Int} {K : Nat} (hK : n 428 26 = K) (hK2 : K ≤ 200000) (h : Q 0 n) : ∀ (q k : Nat), k + q = K → xp_m_isWord_25 d a 0 k n Q := by
  intro q
  induction q with
  | zero =>
    intro k hk
    apply xr_m_isWord_25
    rw [if_neg (by omega)]
    exact ⟨Or.inl rfl, h⟩
  | succ q ih =>
    intro k hk
    apply xr_m_isWord_25
    rw [if_pos (by omega), if_pos rfl, w_32_id (by omega) (by omega), show (k : Int) + 1 = ((k + 1 : Nat) : Int) by omega]
    exact ih (k + 1) (by omega)
theorem sp_isWord_1 {a : Int} {l : List Int} (hs : t_s a l) (hv : v_m n W L) (hb : n 428 23 = p) (p0 : 0 ≤ p) (hK : n 428 26 = l.length) (hl : g_len W (L - p).toNat p = l.length) (h1 : t_is W L p l → Q 1 n) (h0 : ¬ t_is W L p l → Q 0 n) :
    ∀ (q k : Nat), k + q = l.length → (∀ i : Nat, i < k → W (p + i) = l.getD i 0) → xp_m_isWord_25 (d + 4) a 1 k n Q := by
  intro q
  have hlen := hs.ok.1
  have hle := g_len_le W (L - p).toNat p
  obtain ⟨v1, v2, v3, v4, v5, v6, v7, v8⟩ := hv
  induction q with
  | zero =>
    intro k hk hm
    apply xr_m_isWord_25
    rw [if_neg (by omega)]
    exact ⟨Or.inr rfl, h1 ⟨hl, fun i hi => hm i (by omega)⟩⟩
  | succ q ih =>
    intro k hk hm
    apply xr_m_isWord_25
    rw [if_pos (by omega), if_neg (by decide), hb, w_32_id (x := n 428 19 + p) (by omega) (by omega), w_32_id (x := n 428 19 + p + k) (by omega) (by omega), w_32_id (x := (k : Int) + 1) (by omega) (by omega), show n 428 19 + p + (k : Int) = n 428 19 + (p + k) by omega, v8 (p + k) (by omega) (by omega)]
    refine ⟨v2, v3, ⟨by omega, by omega⟩, hs.isS, ?_⟩
    refine sp_charAt hs (by omega) ?_
    rw [show (k : Int) + 1 = ((k + 1 : Nat) : Int) by omega]
    by_cases e : W (p + k) = l.getD k 0
    · rw [if_pos e]
      refine ih (k + 1) (by omega) (fun i hi => ?_)
      by_cases z : i = k
      · rw [z]; exact e
      · exact hm i (by omega)
    · rw [if_neg e]
      exact sp_isWord_0 (K := l.length) hK (by omega) (h0 (fun z => e (z.2 k (by omega)))) q (k + 1) (by omega)
/-- the row that has been read is just this word -/
theorem sp_isWord {a : Int} {l : List Int} (hs : t_s a l) (hl0 : 0 < l.length) (hl1 : 65 ≤ l.getD 0 0) (hv : v_m n W L) (hb : n 428 23 = p) (p0 : 0 ≤ p) (hr : m_row n W L p) (h1 : t_is W L p l → Q 1 n) (h0 : ¬ t_is W L p l → Q 0 n) : xc_m_isWord (d + 5) a n Q := by
  obtain ⟨r1, r2, r3⟩ := hr
  have hlen := hs.ok.1
  apply xr_m_isWord
  by_cases z : g_kd (g_s W p (g_len W (L - p).toNat p)) = -1
  · obtain ⟨r4, r5⟩ := r2 z
    rw [if_pos r4]
    refine ⟨hs.isS, ?_⟩
    refine sp_length hs ?_
    rw [r5]
    by_cases e : (g_len W (L - p).toNat p : Int) = (l.length : Int)
    · rw [if_pos e]
      exact sp_isWord_1 hs hv hb p0 (by rw [r5, e]) (by omega) h1 h0 l.length 0 (by omega) (fun i hi => absurd hi (Nat.not_lt_zero i))
    · rw [if_neg e]
      exact h0 (fun y => e (by rw [y.1]))
  · have no : n 428 22 ≠ 3 := by
      rcases r3 z with y | y
      · rw [y.1]; decide
      · rw [y.2.2]
        split <;> decide
    rw [if_neg no]
    exact h0 (fun y => z (t_is_kd y hl0 hl1))
theorem sp_isWord_n {a : Int} (h : n 428 22 ≠ 3) (h0 : Q 0 n) : xc_m_isWord (d + 1) a n Q := by
  apply xr_m_isWord
  rw [if_neg h]
  exact h0
/-- where the reference's token begins -/
def m_at (n : w_M) (p : Int) : w_M := w_up (w_up n 428 21 p) 428 23 p
theorem m_at_v (hv : v_m n W L) : v_m (m_at n p) W L := (hv.up (by decide)).up (by decide)
theorem m_at_21 : m_at n p 428 21 = p := by unfold m_at; rw [w_up_nb (by decide), w_up_eq]
theorem m_at_23 : m_at n p 428 23 = p := by unfold m_at; rw [w_up_eq]
theorem m_at_o {a b : Int} (h : ¬ (a = 428 ∧ (b = 21 ∨ b = 23))) : m_at n p a b = n a b := by
  unfold m_at w_up
  rw [if_neg (by omega), if_neg (by omega)]
theorem sp_token (hw : m_st n W L p) (hp' : p' = k_w W (L - p).toNat false p)
    (h : if W p' < 0 then Q 0 (w_up (m_at n p') 428 22 0) else if b_reg (W p') then xc_m_row1 (d + 3) (m_at n p') (fun _ m1 => Q 0 m1) else if W p' = 47 then xc_m_readName (d + 3) (m_at n p') (fun _ m1 => Q 0 m1) else if W p' = 40 then xc_m_readString (d + 3) (m_at n p') (fun _ m1 => Q 0 m1) else if W p' = 60 then (if W (p' + 1) = 60 then Q 0 (w_up (w_up (m_at n p') 428 22 8) 428 21 (p' + 2)) else xc_m_readHex (d + 3) (m_at n p') (fun _ m1 => Q 0 m1)) else if W p' = 62 then (if W (p' + 1) = 62 then Q 0 (w_up (w_up (m_at n p') 428 22 9) 428 21 (p' + 2)) else Q 0 (w_up (m_at n p') 428 22 10)) else if W p' = 91 then Q 0 (w_up (w_up (m_at n p') 428 22 6) 428 21 (p' + 1)) else if W p' = 93 then Q 0 (w_up (w_up (m_at n p') 428 22 7) 428 21 (p' + 1)) else Q 0 (w_up (m_at n p') 428 22 10)) : xc_m_token (d + 4) n Q := by
  obtain ⟨hv, hL, hp, p0, p1⟩ := hw
  have hk := k_w_r W (L - p).toNat false p
  have b0 : 0 ≤ p' ∧ p' ≤ L := by omega
  apply xr_m_token
  refine sp_white (d := d) hv hL hp p0 p1 ?_
  rw [← hp', w_up_eq]
  have e : w_up (w_up n 428 21 p') 428 23 p' = m_at n p' := rfl
  rw [e]
  have hv2 := m_at_v (p := p') hv
  refine sp_r_peek hv2 m_at_21 b0.1 (by omega) (by decide) (by decide) ?_
  rw [Int.add_zero]
  by_cases q1 : W p' < 0
  · rw [if_pos q1]
    rw [if_pos q1] at h
    exact h
  · rw [if_neg q1]
    rw [if_neg q1] at h
    refine sp_r_isRegular ?_
    by_cases q2 : b_reg (W p')
    · rw [if_pos q2, if_neg (by decide)]
      rw [if_pos q2] at h
      exact h
    · rw [if_neg q2, if_pos rfl]
      rw [if_neg q2] at h
      by_cases q3 : W p' = 47
      · rw [if_pos q3]
        rw [if_pos q3] at h
        exact h
      · rw [if_neg q3]
        rw [if_neg q3] at h
        by_cases q4 : W p' = 40
        · rw [if_pos q4]
          rw [if_pos q4] at h
          exact h
        · rw [if_neg q4]
          rw [if_neg q4] at h
          by_cases q5 : W p' = 60
          · rw [if_pos q5]
            rw [if_pos q5] at h
            refine sp_r_peek hv2 m_at_21 b0.1 (by omega) (by decide) (by decide) ?_
            by_cases q6 : W (p' + 1) = 60
            · rw [if_pos q6, w_32_id (by rw [m_at_21]; omega) (by rw [m_at_21]; omega), m_at_21]
              rw [if_pos q6] at h
              exact h
            · rw [if_neg q6]
              rw [if_neg q6] at h
              apply xr_m_token_105
              rw [if_pos q5]
              exact h
          · rw [if_neg q5]
            rw [if_neg q5] at h
            apply xr_m_token_105
            rw [if_neg q5]
            by_cases q6 : W p' = 62
            · rw [if_pos q6]
              rw [if_pos q6] at h
              refine sp_r_peek hv2 m_at_21 b0.1 (by omega) (by decide) (by decide) ?_
              by_cases q7 : W (p' + 1) = 62
              · rw [if_pos q7, w_32_id (by rw [m_at_21]; omega) (by rw [m_at_21]; omega), m_at_21]
                rw [if_pos q7] at h
                exact h
              · rw [if_neg q7, if_neg (by omega), if_neg (by omega)]
                rw [if_neg q7] at h
                exact h
            · rw [if_neg q6]
              rw [if_neg q6] at h
              by_cases q7 : W p' = 91
              · rw [if_pos q7]
                rw [if_pos q7] at h
                apply xr_m_token_165
                rw [if_pos q7, w_32_id (by rw [m_at_21]; omega) (by rw [m_at_21]; omega), m_at_21]
                exact h
              · rw [if_neg q7]
                rw [if_neg q7] at h
                by_cases q8 : W p' = 93
                · rw [if_pos q8]
                  rw [if_pos q8] at h
                  apply xr_m_token_165
                  rw [if_neg q7, w_32_id (by rw [m_at_21]; omega) (by rw [m_at_21]; omega), m_at_21]
                  exact h
                · rw [if_neg q8]
                  rw [if_neg q8] at h
                  exact h
end TT
